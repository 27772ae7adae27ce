/-! bodies stand where THINGS come behind theirs -/
def NFt (P T : Nat) (h h' : mv_H) : Prop := (∀ o, P + 18 ≤ o → o ≤ P + 25 → mv_a h' o = mv_a h o) ∧ mv_b h' (P + 24) = mv_b h (P + 24) ∧ ∀ o k, (o = P + 3 ∨ o = P + 6) → k < T → mv_a h' o k = mv_a h o k
theorem ND.th {P T T2 lo : Nat} {h h' : mv_H} {C LW : List Nat} (f : NFt P T h h') (hT : T ≤ T2) : ∀ {n r x w : Nat} {D : DnE}, ND P h T lo C LW n r x w D → ND P h' T2 lo C LW n r x w D := by
  have e18 := f.1 (P + 18) (by omega) (by omega)
  have e19 := f.1 (P + 19) (by omega) (by omega)
  have e20 := f.1 (P + 20) (by omega) (by omega)
  have e21 := f.1 (P + 21) (by omega) (by omega)
  have e22 := f.1 (P + 22) (by omega) (by omega)
  have e23 := f.1 (P + 23) (by omega) (by omega)
  intro n
  induction n with
  | zero => intro r x w D N; exact N
  | succ n ih =>
    intro r x w D N
    obtain ⟨N0, N⟩ := N
    refine ⟨by rw [e23]; exact N0, ?_⟩
    rw [e18, e19, e20, e21, f.2.1]
    rcases N with N | N | N | N | N | N | N | N | N | N | N | N
    · exact Or.inl N
    · obtain ⟨t, a1, a2, a3, b3, a4, a5, a6⟩ := N
      exact Or.inr (Or.inl ⟨t, a1, a2, a3, by omega, a4, by rw [f.2.2 (P + 3) t (by omega) b3]; exact a5, by rw [f.2.2 (P + 6) t (by omega) b3]; exact a6⟩)
    · obtain ⟨t, y, wy, Dy, a1, a2, a3, b3, a4, a5, a6, a7, a8, a9⟩ := N
      exact Or.inr (Or.inr (Or.inl ⟨t, y, wy, Dy, a1, a2, a3, by omega, a4, a5, ih a6, a7, by rw [f.2.2 (P + 3) t (by omega) b3]; exact a8, by rw [f.2.2 (P + 6) t (by omega) b3]; exact a9⟩))
    · exact Or.inr (Or.inr (Or.inr (Or.inl N)))
    · exact Or.inr (Or.inr (Or.inr (Or.inr (Or.inl N))))
    · obtain ⟨y, Dy, k, a1, a2, a3, a4, a5, a6, a7⟩ := N
      exact Or.inr (Or.inr (Or.inr (Or.inr (Or.inr (Or.inl ⟨y, Dy, k, a1, a2, a3, a4, a5, ih a6, a7⟩)))))
    · obtain ⟨y, z, wy, wz, Dy, Dz, ko, k, a1, a2, a3, a4, a5, a6, a7, a8, a9, a10⟩ := N
      exact Or.inr (Or.inr (Or.inr (Or.inr (Or.inr (Or.inr (Or.inl ⟨y, z, wy, wz, Dy, Dz, ko, k, a1, a2, a3, a4, a5, a6, a7, ih a8, ih a9, a10⟩))))))
    · obtain ⟨y, wy, Dy, hi, l0, a1, a2, a3, a4, a5, a6, a7, a8, a9⟩ := N
      exact Or.inr (Or.inr (Or.inr (Or.inr (Or.inr (Or.inr (Or.inr (Or.inl ⟨y, wy, Dy, hi, l0, a1, a2, a3, a4, a5, a6, a7, ih a8, a9⟩)))))))
    · obtain ⟨y, z, v, Dy, Dz, Dv, a1, a2, a3, a4, a5, a6, a7, a8, a9, a10, a11⟩ := N
      exact Or.inr (Or.inr (Or.inr (Or.inr (Or.inr (Or.inr (Or.inr (Or.inr (Or.inl ⟨y, z, v, Dy, Dz, Dv, a1, a2, a3, a4, a5, a6, a7, ih a8, ih a9, ih a10, a11⟩))))))))
    · obtain ⟨p, l, a1, a2, a3, a4, a5⟩ := N
      exact Or.inr (Or.inr (Or.inr (Or.inr (Or.inr (Or.inr (Or.inr (Or.inr (Or.inr (Or.inl ⟨p, l, a1, a2, a3.eq (fun q _ => by rw [e22]), fun q hq => ⟨(a4 q hq).1, ih (a4 q hq).2⟩, a5⟩)))))))))
    · obtain ⟨y, wy, Dy, a1, a2, a3, a4, a5, a6⟩ := N
      exact Or.inr (Or.inr (Or.inr (Or.inr (Or.inr (Or.inr (Or.inr (Or.inr (Or.inr (Or.inr (Or.inl ⟨y, wy, Dy, a1, a2, a3, a4, ih a5, a6⟩))))))))))
    · obtain ⟨y, wy, a1, a2, a3, a4, a5⟩ := N
      exact Or.inr (Or.inr (Or.inr (Or.inr (Or.inr (Or.inr (Or.inr (Or.inr (Or.inr (Or.inr (Or.inr ⟨y, wy, a1, a2, a3, a4, ih a5⟩))))))))))
theorem IFq.th {P T T2 : Nat} {h h' : mv_H} {C : List Nat} {B B' : BKt} (hB : ∀ LW lo a D LW' hi, B LW lo a D LW' hi → B' LW lo a D LW' hi) (f : NFt P T h h') (hT : T ≤ T2) : ∀ {L LW : List Nat} {lo : Nat} {D : DnS} {LW' : List Nat} {hi : Nat}, IFq P h T C B L LW lo D LW' hi → IFq P h' T2 C B' L LW lo D LW' hi := by
  intro L
  induction L with
  | nil => intro LW lo D LW' hi s; exact s
  | cons x L ih =>
    intro LW lo D LW' hi s
    obtain ⟨y, n, Dy, D1, LW1, m1, D2, ⟨s1, s2, s3, s4, s5, ⟨lb, hlb, s6⟩, s7, s8, s9, s10⟩, s11⟩ := s
    refine ⟨y, n, Dy, D1, LW1, m1, D2, ⟨by rw [f.1 (P + 18) (by omega) (by omega)]; exact s1, s2, by rw [f.1 (P + 19) (by omega) (by omega)]; exact s3, s4, s5.th f hT, by rw [f.1 (P + 20) (by omega) (by omega)]; exact ⟨lb, hlb, hB _ _ _ _ _ _ s6⟩, s7, s8, s9, s10⟩, ?_⟩
    rw [f.1 (P + 21) (by omega) (by omega), f.1 (P + 25) (by omega) (by omega)]
    cases L with
    | nil =>
      obtain ⟨q1, LW2, q2, q3⟩ := s11
      exact ⟨q1, LW2, hB _ _ _ _ _ _ q2, q3⟩
    | cons x2 L =>
      obtain ⟨q1, q2, q3⟩ := s11
      exact ⟨q1, q2, ih q3⟩
theorem SN.th {P T T2 : Nat} {h h' : mv_H} {C : List Nat} (f : NFt P T h h') (hT : T ≤ T2) : ∀ (n u : Nat) (LW : List Nat) (lo x : Nat) (D : DnS) (LW' : List Nat) (hi : Nat), SN P h T C n u LW lo x D LW' hi → SN P h' T2 C n u LW lo x D LW' hi := by
  intro n
  induction n with
  | zero => intro u LW lo x D LW' hi s; exact s
  | succ n ih =>
    intro u LW lo x D LW' hi s
    obtain ⟨s0, s⟩ := s
    refine ⟨s0, ?_⟩
    rw [f.1 (P + 18) (by omega) (by omega), f.1 (P + 19) (by omega) (by omega), f.1 (P + 20) (by omega) (by omega), f.1 (P + 21) (by omega) (by omega)]
    rcases s with s | s | s | s | s
    · obtain ⟨y, w, k, Dy, a1, a2, a3, a4, a5, a6, a7⟩ := s
      exact Or.inl ⟨y, w, k, Dy, a1, a2, a3, a4, a5, a6.th f hT, a7⟩
    · obtain ⟨t, y, w, k, Dy, a1, a2, a3, a4, a5, a6, a7, a8⟩ := s
      exact Or.inr (Or.inl ⟨t, y, w, k, Dy, a1, a2, a3, by omega, a5, a6, a7.th f hT, by rw [f.2.2 (P + 6) t (by omega) a4]; exact a8⟩)
    · obtain ⟨t, y, z, w, wz, k, Dy, Dz, a1, a2, a3, a4, a5, a6, a7, a8, a9, a10, a11⟩ := s
      exact Or.inr (Or.inr (Or.inl ⟨t, y, z, w, wz, k, Dy, Dz, a1, a2, a3, by omega, a5, a6, a7, a8, a9.th f hT, a10.th f hT, by rw [f.2.2 (P + 6) t (by omega) a4]; exact a11⟩))
    · exact Or.inr (Or.inr (Or.inr (Or.inl s)))
    · obtain ⟨s1, L, s2⟩ := s
      refine Or.inr (Or.inr (Or.inr (Or.inr ⟨s1, L, s2.th (fun LW lo a D LW' hi q => ?_) f hT⟩)))
      exact q.cg (ih (u - 1)) (f.1 (P + 22) (by omega) (by omega))
/-- an op's body, by its first statement -/
def OBq (P : Nat) (h : mv_H) (T : Nat) (C : List Nat) (a : Int32) (D : DnS) (m : Nat) : Prop := ∃ n lo hi LW', BKq P h (SN P h T C n 61) [] lo a D LW' hi ∧ hi ≤ m
theorem OBq.th {P T T2 : Nat} {h h' : mv_H} {C : List Nat} {a : Int32} {D : DnS} {m m2 : Nat} (O : OBq P h T C a D m) (f : NFt P T h h') (hT : T ≤ T2) (hm : m ≤ m2) : OBq P h' T2 C a D m2 := by
  obtain ⟨n, lo, hi, LW', B, q⟩ := O
  exact ⟨n, lo, hi, LW', B.cg (SN.th f hT n 61) (f.1 (P + 22) (by omega) (by omega)), by omega⟩
theorem OBq.fr {P T : Nat} {h h' : mv_H} {C : List Nat} {a : Int32} {D : DnS} {m m2 : Nat} (O : OBq P h T C a D m) (g : GSq P 0 m h h') (hm : m ≤ m2) : OBq P h' T C a D m2 := by
  obtain ⟨n, lo, hi, LW', B, q⟩ := O
  exact ⟨n, lo, hi, LW', B.fr (g.le (Nat.zero_le _) q), by omega⟩
/-! the state between items, on good roads -/
def TZq (P N : Nat) (T : Nat → Nat) (lz : LZ) (h : mv_H) : Prop := ∀ q e t, q ≤ e → e ≤ N → tfz P h q e = some t → lz (tn T q (e - q)) = t
def FEg (P : Nat) (s : SI) (lz : LZ) (h : mv_H) : Prop := match s.fe with
  | none => mv_i h P 18 = -1 ∧ mv_i h P 21 = -1
  | some p => (s.lk p.1).1 = 1 ∧ (s.lk p.2).1 = 2 ∧ mv_i h P 18 = nI (lz p.1) ∧ mv_i h P 21 = nI (lz p.2)
def ZRg (P : Nat) (s : SI) (h : mv_H) : Prop := ∀ i, i < s.tl.length → mv_a h (P + 7) i = b01 (s.tl.getD i (0, 0, false)).2.2 ∧ ((s.tl.getD i (0, 0, false)).2.1 = 0 → (s.tl.getD i (0, 0, false)).2.2 = false)
def BDg (P : Nat) (s : SI) (B : List DnS) (h : mv_H) (m : Nat) : Prop := B.length = s.ops.length ∧ ∀ o, o < s.ops.length → OBq P h s.tl.length (s.ops.getD o ([], [])).2 (mv_a h (P + 11) o) (B.getD o zSk) m
def IGq (P N : Nat) (T : Nat → Nat) (s : SI) (lz : LZ) (B : List DnS) (h : mv_H) (m j : Nat) : Prop := IQq P N T s true h m j ∧ TZq P N T lz h ∧ FEg P s lz h ∧ ZRg P s h ∧ BDg P s B h m
def IOg (P N : Nat) (T : Nat → Nat) (j : Nat) (r : VI) (res : Option (Option Int32 × mv_H)) : Prop := ∃ x h' v' m', res = some (some x, rB P N h' r.1 v') ∧ IGq P N T r.2.1 r.2.2.1 r.2.2.2 h' m' r.1 ∧ j < r.1
/-! a THING more -/
theorem thH_nf {P t q e w n z c : Nat} {f : Int32} {h : mv_H} : NFt P t h (thH P t q e w n z c f h) := by
  refine ⟨fun o h1 h2 => ?_, rfl, fun o k h1 hk => ?_⟩
  · funext k
    rw [thH_a, if_neg (by omega), if_neg (by omega), if_neg (by omega), if_neg (by omega), if_neg (by omega), if_neg (by omega)]
  · rw [thH_a, if_neg (by omega), if_neg (by omega), if_neg (by omega), if_neg (by omega), if_neg (by omega), if_neg (by omega)]
theorem nt104G {P N : Nat} {T : Nat → Nat} {s : SI} {lz : LZ} {B : List DnS} {h : mv_H} {m j : Nat} (Q : IGq P N T s lz B h m j) {i : Nat} (Gi : gkT T N i) (ki : kdT T N i = 3) (f zf : Bool) {W n : Nat} (hw : 1 ≤ W ∧ W ≤ 64) (hn : n ≤ 65536 ∧ (f = true → 1 ≤ n) ∧ (f = false → n = 0 ∧ zf = false)) {j0 : Nat} (hj0 : j0 ≤ j) (v : Int64) {u : Unit} (g5 : ndq (txT T N) 0 j 59 = some u) {r : Nat × SI} (ht : sNw (txT T N) s i (bif f then 2 else 1) W n zf (j + 1) = some r) : IOg P N T j0 (r.1, r.2, updZ lz ((txT T N).nm i) s.tl.length, B) (f_Book_newThing_104 P (b01 f) (nI (pos T N i)) (nI (bp T N (i + 1))) (nI W) (nI n) (b01 zf) (rB P N h j v)) := by
  obtain ⟨Q, TZ, FE, ZR, BD⟩ := Q
  have H := Q.hb
  have hP := H.p
  have hn2 := H.n2
  unfold sNw at ht
  have cc : (s.lk ((txT T N).nm i)).1 = 0 ∧ s.tl.length < 64 ∧ s.cells + n ≤ 65536 := by
    by_cases q : (s.lk ((txT T N).nm i)).1 = 0 ∧ s.tl.length < 64 ∧ s.cells + n ≤ 65536
    · exact q
    · rw [if_neg q] at ht; cases ht
  rw [if_pos cc] at ht
  obtain rfl := Option.some.inj ht
  obtain ⟨k5, -, G5, v5, e5⟩ := nG H Q.gk (c := 59) (k := 59) (by omega) (H.ch (c := 59) Q.gk (by omega) (by omega)) v g5
  have npq := H.npq Gi
  have enm := H.nmt Gi ki
  have tc := Q.tc rfl
  obtain ⟨c, c1, c2, c3⟩ := Q.ce
  have c3 := c3 rfl
  have t17 : mv_i h P 17 = nI s.tl.length := by rw [tc]; exact Q.tr.t0
  have old := Q.tv rfl _ _ npq.1 npq.2
  rw [← enm] at old
  have tf0 : tfz P h (pos T N i) (bp T N (i + 1)) = none := by
    cases cl : tfz P h (pos T N i) (bp T N (i + 1)) with
    | none => rfl
    | some t =>
      have : tkZ (mv_a h 71) (mv_i h P 17) (mv_a h (P + 1)) (mv_a h (P + 2)) (mv_a h (P + 3)) (mv_a h (P + 6)) (pos T N i) (bp T N (i + 1)) = if mv_a h (P + 6) t = 0 then (1, (mv_a h (P + 3) t).toNatClampNeg) else (2, (mv_a h (P + 3) t).toNatClampNeg) := by
        unfold tkZ
        show (match tfz P h (pos T N i) (bp T N (i + 1)) with | some i => _ | none => _) = _
        rw [cl]
      rw [this] at old
      have c0 := cc.1
      rw [← old] at c0
      split at c0
      · exact absurd (show 1 = 0 from c0) (by decide)
      · exact absurd (show 2 = 0 from c0) (by decide)
  have r17 : mv_i (rB P N h (j + 1) v5) P 17 = nI s.tl.length := (rB_o _ _ (by omega)).trans t17
  have r19 : mv_i (rB P N h (j + 1) v5) P 19 = nI c := (rB_o _ _ (by omega)).trans c1
  have e165 := nt165 (P := P) (N := N) (h := h) (j := j + 1) (q := pos T N i) (e := bp T N (i + 1)) t17 cc.2.1 c1 hP f zf (nI W) (nI n) W n (c + n) (Or.inl ⟨rfl, hw.2⟩) (Or.inl ⟨rfl, hn.1⟩) (by
    by_cases q : 0 < n
    · exact Or.inl ⟨q, by omega, rfl, by omega⟩
    · exact Or.inr ⟨fun z => q z.1, by omega⟩) v5
  have e104 : f_Book_newThing_104 P (b01 f) (nI (pos T N i)) (nI (bp T N (i + 1))) (nI W) (nI n) (b01 zf) (rB P N h j v) = some (some 0, rB P N (thH P s.tl.length (pos T N i) (bp T N (i + 1)) W n (bif zf then 1 else 0) (c + n) (b01 f) h) (j + 1) v5) := by
    unfold f_Book_newThing_104
    rw [e5, xtb_s, thgI rfl Q.tr hn2 npq.1 npq.2, xhb_s, tf0, show resI none = -1 from rfl, if_pos (show (-1 : Int32) < 0 by decide), r17, if_neg (show ¬ (64 : Int32) ≤ nI s.tl.length from fun z => by have := (nIle (a := 64) (by omega) (by omega)).mp z; omega)]
    have g0 : nI n ≤ 0 ↔ n = 0 := by
      have := nIle (a := n) (b := 0) (by omega) (by decide)
      rw [show (0 : Int32) = nI 0 from rfl, this]; omega
    by_cases d1 : n = 0
    · rw [if_pos (g0.mpr d1)]; exact e165
    · rw [if_neg (fun z => d1 (g0.mp z)), if_neg (fun z => absurd ((nle_0 (by omega)).mp z) (by omega)), r19, nIadd (by omega), if_pos (show nI (c + n) ≤ 65536 from (nIle (b := 65536) (by omega) (by omega)).mpr (by omega))]
      exact e165
  obtain ⟨s', hs', Q'⟩ := thH_S (Q.st G5 (Nat.le_succ j)) (t := s.tl.length) (q0 := pos T N i) (e0 := bp T N (i + 1)) (w := W) (n := n) (c := c + n) (f := f) (bif zf then 1 else 0) t17 cc.2.1 npq.1 npq.2 hw.2 (by omega) (zf := zf) (nm := (txT T N).nm i) enm (fun _ => ⟨cc.1, by omega, by omega⟩) n (fun _ => ⟨rfl, hn.2.1, fun q => (hn.2.2 q).1⟩)
  have hs' := hs' rfl
  rw [hs'] at Q'
  have el : ∀ o k, k < s.tl.length → mv_a (thH P s.tl.length (pos T N i) (bp T N (i + 1)) W n (bif zf then 1 else 0) (c + n) (b01 f) h) o k = mv_a h o k := fun o k hk => by rw [thH_a, if_neg (by omega), if_neg (by omega), if_neg (by omega), if_neg (by omega), if_neg (by omega), if_neg (by omega)]
  have ea : ∀ o, ¬ (o = P + 1 ∨ o = P + 2 ∨ o = P + 3 ∨ o = P + 4 ∨ o = P + 6 ∨ o = P + 7) → mv_a (thH P s.tl.length (pos T N i) (bp T N (i + 1)) W n (bif zf then 1 else 0) (c + n) (b01 f) h) o = mv_a h o := fun o ho => by
    funext k
    rw [thH_a, if_neg (by omega), if_neg (by omega), if_neg (by omega), if_neg (by omega), if_neg (by omega), if_neg (by omega)]
  have nz : ∀ x, ¬ (s.lk x).1 = 0 → updZ lz ((txT T N).nm i) s.tl.length x = lz x := fun x hx => if_neg (fun z => hx (by rw [z]; exact cc.1))
  refine ⟨0, _, v5, m, e104, ⟨Q', ?_, ?_, ?_, ?_⟩, by show j0 < j + 1; omega⟩
  · intro q e t h1 h2 ht0
    have c17' : (mv_i (thH P s.tl.length (pos T N i) (bp T N (i + 1)) W n (bif zf then 1 else 0) (c + n) (b01 f) h) P 17).toNatClampNeg = s.tl.length + 1 := by rw [thH_i, if_pos ⟨rfl, rfl⟩, cln (by omega)]
    have r1 : mv_a (thH P s.tl.length (pos T N i) (bp T N (i + 1)) W n (bif zf then 1 else 0) (c + n) (b01 f) h) (P + 1) s.tl.length = nI (pos T N i) := by rw [thH_a, if_neg (by omega), if_neg (by omega), if_neg (by omega), if_neg (by omega), if_neg (by omega), if_pos ⟨rfl, rfl⟩]
    have r2 : mv_a (thH P s.tl.length (pos T N i) (bp T N (i + 1)) W n (bif zf then 1 else 0) (c + n) (b01 f) h) (P + 2) s.tl.length = nI (bp T N (i + 1)) := by rw [thH_a, if_neg (by omega), if_neg (by omega), if_neg (by omega), if_neg (by omega), if_pos ⟨rfl, rfl⟩]
    have hs := s7_tn_iff Q.b7 hn2 H.t npq.1 npq.2 h1 h2
    rw [← enm] at hs
    have et : tfz P (thH P s.tl.length (pos T N i) (bp T N (i + 1)) W n (bif zf then 1 else 0) (c + n) (b01 f) h) q e = match tfz P h q e with
        | some x => some x
        | none => if s7z (mv_a h 71) (pos T N i) (bp T N (i + 1) - pos T N i) = s7z (mv_a h 71) q (e - q) then some s.tl.length else none := by
      unfold tfz
      rw [c17', ← tc, ea 71 (by omega)]
      exact fsz_add (fun k hk => ⟨el (P + 1) k hk, el (P + 2) k hk⟩) (by rw [r1, cln (by omega)]) (by rw [r2, cln (by omega)]) q e
    rw [et] at ht0
    cases cl : tfz P h q e with
    | some t' =>
      rw [cl] at ht0
      have ht0 : t' = t := Option.some.inj ht0
      have hz := TZ q e t' h1 h2 cl
      have nk : ¬ (s.lk (tn T q (e - q))).1 = 0 := by
        have old2 := Q.tv rfl q e h1 h2
        have : tkZ (mv_a h 71) (mv_i h P 17) (mv_a h (P + 1)) (mv_a h (P + 2)) (mv_a h (P + 3)) (mv_a h (P + 6)) q e = if mv_a h (P + 6) t' = 0 then (1, (mv_a h (P + 3) t').toNatClampNeg) else (2, (mv_a h (P + 3) t').toNatClampNeg) := by
          unfold tkZ
          show (match tfz P h q e with | some i => _ | none => _) = _
          rw [cl]
        rw [← old2, this]
        split
        · show ¬ 1 = 0; decide
        · show ¬ 2 = 0; decide
      show updZ lz ((txT T N).nm i) s.tl.length (tn T q (e - q)) = t
      rw [nz _ nk, hz, ht0]
    | none =>
      rw [cl] at ht0
      have ht0 : (if s7z (mv_a h 71) (pos T N i) (bp T N (i + 1) - pos T N i) = s7z (mv_a h 71) q (e - q) then some s.tl.length else none) = some t := ht0
      by_cases d : s7z (mv_a h 71) (pos T N i) (bp T N (i + 1) - pos T N i) = s7z (mv_a h 71) q (e - q)
      · rw [if_pos d] at ht0
        show updZ lz ((txT T N).nm i) s.tl.length (tn T q (e - q)) = t
        rw [← Option.some.inj ht0]
        exact if_pos (hs.mp d)
      · rw [if_neg d] at ht0; cases ht0
  · unfold FEg at FE ⊢
    have e18 : mv_i (thH P s.tl.length (pos T N i) (bp T N (i + 1)) W n (bif zf then 1 else 0) (c + n) (b01 f) h) P 18 = mv_i h P 18 := by rw [thH_i, if_neg (by omega), if_neg (by omega)]
    have e21 : mv_i (thH P s.tl.length (pos T N i) (bp T N (i + 1)) W n (bif zf then 1 else 0) (c + n) (b01 f) h) P 21 = mv_i h P 21 := by rw [thH_i, if_neg (by omega), if_neg (by omega)]
    rw [e18, e21]
    cases hfe : s.fe with
    | none => rw [hfe] at FE; exact FE
    | some p =>
      rw [hfe] at FE
      obtain ⟨f1, f2, f3, f4⟩ := FE
      have u1 : updK s.lk ((txT T N).nm i) (bif f then 2 else 1, W) p.1 = s.lk p.1 := if_neg (fun z => by rw [z, cc.1] at f1; exact absurd f1 (by decide))
      have u2' : updK s.lk ((txT T N).nm i) (bif f then 2 else 1, W) p.2 = s.lk p.2 := if_neg (fun z => by rw [z, cc.1] at f2; exact absurd f2 (by decide))
      show (updK s.lk ((txT T N).nm i) (bif f then 2 else 1, W) p.1).1 = 1 ∧ (updK s.lk ((txT T N).nm i) (bif f then 2 else 1, W) p.2).1 = 2 ∧ mv_i h P 18 = nI (updZ lz ((txT T N).nm i) s.tl.length p.1) ∧ mv_i h P 21 = nI (updZ lz ((txT T N).nm i) s.tl.length p.2)
      rw [u1, u2', nz p.1 (by rw [f1]; decide), nz p.2 (by rw [f2]; decide)]
      exact ⟨f1, f2, f3, f4⟩
  · intro k hk
    have hk : k < (s.tl ++ [(W, n, zf)]).length := hk
    rw [List.length_append] at hk
    have hk : k < s.tl.length + 1 := hk
    show mv_a _ (P + 7) k = b01 ((s.tl ++ [(W, n, zf)]).getD k (0, 0, false)).2.2 ∧ (((s.tl ++ [(W, n, zf)]).getD k (0, 0, false)).2.1 = 0 → ((s.tl ++ [(W, n, zf)]).getD k (0, 0, false)).2.2 = false)
    by_cases d : k = s.tl.length
    · have eg : (s.tl ++ [(W, n, zf)]).getD k (0, 0, false) = (W, n, zf) := by rw [d, List.getD_eq_getElem?_getD, List.getElem?_append_right (Nat.le_refl _), Nat.sub_self]; rfl
      rw [eg, d, thH_a, if_neg (by omega), if_pos ⟨rfl, rfl⟩]
      refine ⟨by cases zf <;> rfl, fun q => ?_⟩
      have q : n = 0 := q
      show zf = false
      cases f with
      | false => exact (hn.2.2 rfl).2
      | true => have := hn.2.1 rfl; omega
    · have hk2 : k < s.tl.length := by omega
      have eg : (s.tl ++ [(W, n, zf)]).getD k (0, 0, false) = s.tl.getD k (0, 0, false) := by rw [List.getD_eq_getElem?_getD, List.getElem?_append_left hk2, ← List.getD_eq_getElem?_getD]
      rw [eg, el _ k hk2]
      exact ZR k hk2
  · refine ⟨BD.1, fun o ho => ?_⟩
    have ho : o < s.ops.length := ho
    have eo : mv_a (thH P s.tl.length (pos T N i) (bp T N (i + 1)) W n (bif zf then 1 else 0) (c + n) (b01 f) h) (P + 11) o = mv_a h (P + 11) o := by rw [ea (P + 11) (by omega)]
    show OBq P _ (s.tl ++ [(W, n, zf)]).length _ _ _ m
    rw [eo]
    exact (BD.2 o ho).th thH_nf (by rw [List.length_append]; omega) (Nat.le_refl _)
