/-! the class's machine does an op's body -/
def eW (r : SI × LZ × List DnS) (w : Int64) : E0q := (w, fun t => r.1.tl.getD t (0, 0, false))
theorem nclT (r : SI × LZ × List DnS) (w : Int64) (t : Nat) : ncl (eW r w) t = ncT (r.1.tl.getD t (0, 0, false)) := rfl
theorem nJ_o {x : Int64} {n : Nat} (h : x.toInt = n) : x = nJ n := Int64.toInt_inj.mp (by
  have := Int64.toInt_lt x
  rw [h]
  exact (Int64.toInt_ofNat_of_lt (by omega)).symm)
theorem fsL_g : ∀ (l : List (Nat × Nat × Bool)) (t : Nat), l.length ≤ t → fsL l t = fsL l l.length := by
  intro l
  induction l with
  | nil => intro t _; rfl
  | cons a l ih =>
    intro t ht
    cases t with
    | zero => cases ht
    | succ t =>
      show ncT a + fsL l t = ncT a + fsL l l.length
      rw [ih t (Nat.le_of_succ_le_succ ht)]
/-- the code at a does D -/
def RNo (r : SI × LZ × List DnS) (L : CDq) (a : Nat) (D : DnS) : Prop := ∀ (w : Int64) (s : STq), ∃ n' rr, rn (eW r w) L n' a [] s = some rr ∧ rr.1 = (D (eW r w) s).1 ∧ ((D (eW r w) s).1 = 0 → rr.2 = (D (eW r w) s).2)
/-- a program fit to run, and what its ops do -/
def KOx (P : Nat) (r : SI × LZ × List DnS) (h : mv_H) : Prop := (r.1.tl.length ≤ 64 ∧ r.1.ops.length ≤ 512 ∧ ∀ x, r.2.1 x < 64) ∧ TBk P r.1 h ∧ FEk P r.1 r.2.1 h ∧ r.2.2.length = r.1.ops.length ∧ ∃ (L : CDq) (z : Nat), CRw P (fsL r.1.tl) h L z ∧ ∀ o, o < r.2.2.length → ∃ a, mv_a h (P + 7) o = nI a ∧ a < z ∧ RNo r L a (r.2.2.getD o zSk)
theorem KOw.x {P : Nat} {r : SI × LZ × List DnS} {h : mv_H} (K : KOw P r h) : KOx P r h := by
  obtain ⟨b, t, f, l1, L, z, C, O⟩ := K
  refine ⟨b, t, f, l1, L, z, C, fun o ho => ?_⟩
  obtain ⟨a, e9, k1, k2, k3, k4⟩ := O o ho
  have ha := k3.1
  refine ⟨a, k1, by omega, fun w s => ?_⟩
  generalize r.2.2.getD o zSk = D at k3 ⊢
  obtain ⟨q1, q2⟩ := k3.2 L (fun _ _ _ => rfl) (eW r w) [] s
  by_cases y : (D (eW r w) s).1 = 0
  · obtain ⟨n', q⟩ := q1 y 1 _ (rn317 k4)
    exact ⟨n', (0, (D (eW r w) s).2), q, y.symm, fun _ => rfl⟩
  · obtain ⟨n', s', q⟩ := q2 y
    exact ⟨n', ((D (eW r w) s).1, s'), q, rfl, fun x => absurd x y⟩
theorem KOx.fr {P : Nat} {r : SI × LZ × List DnS} {σ τ : mv_H} (h : KOx P r σ) (ei : ∀ k, (k = 6 ∨ k = 8 ∨ k = 9 ∨ k = 17) → mv_i τ P k = mv_i σ P k) (e3 : ∀ o k, (o = P + 3 ∨ o = P + 4) → k < 64 → mv_a τ o k = mv_a σ o k) (e7 : ∀ k, k < 512 → mv_a τ (P + 7) k = mv_a σ (P + 7) k) (e9 : ∀ k, k < 32768 → mv_a τ (P + 9) k = mv_a σ (P + 9) k) (e10 : ∀ k, k < 32768 → mv_b τ (P + 10) k = mv_b σ (P + 10) k) : KOx P r τ := by
  obtain ⟨⟨b1, b2, b3⟩, ⟨t1, t2, t3⟩, f1, l1, L, z, ⟨c1, c2, c3, c4⟩, o1⟩ := h
  refine ⟨⟨b1, b2, b3⟩, ⟨by rw [ei 6 (by omega)]; exact t1, t2, fun t ht => ?_⟩, f1.gf (ei 8 (by omega)) (ei 9 (by omega)), l1, L, z, ⟨by rw [ei 17 (by omega)]; exact c1, c2, c3, fun i hi => ?_⟩, fun o ho => ?_⟩
  · rw [e3 (P + 3) t (by omega) (by omega), e3 (P + 4) t (by omega) (by omega)]
    exact t3 t ht
  · rw [e9 i (by omega), e10 i (by omega)]
    exact c4 i hi
  · rw [e7 o (by omega)]
    exact o1 o ho
theorem tbw_K {P : Nat} {r : SI × LZ × List DnS} {h : mv_H} (K : KOx P r h) (S : SPq P r.1 h) (w : Int64) : TBw P (fsL r.1.tl) (eW r w) r.1.tl.length h := by
  obtain ⟨⟨b1, b2, -⟩, ⟨t1, t2, t3⟩, -⟩ := K
  obtain ⟨-, -, -, -, ⟨-, -, c3, -⟩, -, s7, -⟩ := S
  refine ⟨b1, fun t ht => ?_⟩
  obtain ⟨u1, u2, u3, u4⟩ := s7 t ht
  have n1 := fsL_n r.1.tl t ht
  refine ⟨⟨u1, u3⟩, ⟨u2, u4⟩, (t3 t ht).1, (t3 t ht).2, ?_, fun t' h1 h2 => ?_⟩
  · rw [nclT, n1]
    have := fsL_le r.1.tl (t + 1)
    omega
  · rw [nclT, n1]
    have := fsL_mo r.1.tl (t + 1) (t' - (t + 1))
    rw [show t + 1 + (t' - (t + 1)) = t' by omega] at this
    exact this
theorem wow_K {P : Nat} {tl : List (Nat × Nat × Bool)} {h : mv_H} {L : CDq} {z : Nat} {hg : Nat → Nat} (C : CRw P (fsL tl) h L z) (hT : tl.length ≤ 64) (h1 : ∀ a, hg a ≤ 1000) (hI : ∀ a, a < z → Ins tl.length z hg a (mv_a h (P + 9) a) (mv_b h (P + 10) a)) : WOw tl.length z hg L := by
  refine ⟨h1, fun a ha => ?_⟩
  have hz := C.2.1
  obtain ⟨c1, c2, c3, c4⟩ := C.2.2.2 a ha
  have I := hI a ha
  obtain ⟨k, w, hL⟩ : ∃ k w, L a = (k, w) := ⟨_, _, rfl⟩
  rw [hL] at c1 c2 c3 c4 ⊢
  have c1 : mv_a h (P + 9) a = nI k := c1
  have c2 : k < 318 := c2
  have c3 : mv_b h (P + 10) a = if k = 303 then nJ (fsL tl (tI w)) else w := c3
  have c4 : k = 303 → ∃ t, w = nJ t ∧ t < 64 ∧ fsL tl t < fsL tl (t + 1) := c4
  rw [c1, c3] at I
  have inj : ∀ m, m < 400 → nI k = nI m → k = m := fun m hm q => (nIinj (by omega) (by omega)).mp q
  unfold WOi
  show (k = 302 ∨ k = 313 → ∃ i, w = nJ i ∧ i < 64) ∧ (k = 303 ∨ k = 304 ∨ k = 314 ∨ k = 315 → ∃ t, w = nJ t ∧ t < tl.length) ∧
    (k = 311 → tI w ≤ z ∧ hg (tI w) = hg a) ∧ (k = 312 → tI w ≤ z ∧ hg a = hg (tI w) + 1 ∧ hg (a + 1) = hg (tI w)) ∧
    (¬ (k = 311 ∨ k = 312 ∨ k = 316 ∨ k = 317) → (opd (nI k)).1 ≤ hg a ∧ hg (a + 1) + (opd (nI k)).1 = hg a + (opd (nI k)).2)
  rcases I with q | q | ⟨q, t, i1, i2, i3, i4⟩ | ⟨q, t, i1, i2, i3, i4, i5⟩ | ⟨n1, n2, n3, n4, o1, o2, v1, v2, v3⟩
  · have e := inj 316 (by omega) q
    exact ⟨fun w => by omega, fun w => by omega, fun w => by omega, fun w => by omega, fun w => absurd (Or.inr (Or.inr (Or.inl e))) w⟩
  · have e := inj 317 (by omega) q
    exact ⟨fun w => by omega, fun w => by omega, fun w => by omega, fun w => by omega, fun w => absurd (Or.inr (Or.inr (Or.inr e))) w⟩
  · have e := inj 311 (by omega) q
    rw [if_neg (by omega)] at i1
    have ew : tI w = t := by rw [nJ_o i1, tI_n (by omega)]
    exact ⟨fun w => by omega, fun w => by omega, fun _ => by rw [ew]; exact ⟨i3, i4⟩, fun w => by omega, fun w => absurd (Or.inl e) w⟩
  · have e := inj 312 (by omega) q
    rw [if_neg (by omega)] at i1
    have ew : tI w = t := by rw [nJ_o i1, tI_n (by omega)]
    exact ⟨fun w => by omega, fun w => by omega, fun w => by omega, fun _ => by rw [ew]; exact ⟨i3, i4, i5⟩, fun w => absurd (Or.inr (Or.inl e)) w⟩
  · refine ⟨fun q => ?_, fun q => ?_, fun q => absurd (show nI k = 311 by rw [q]; rfl) n1, fun q => absurd (show nI k = 312 by rw [q]; rfl) n2, fun _ => ⟨o1, o2⟩⟩
    · have := v1 (q.imp (fun q => by rw [q]; rfl) (fun q => by rw [q]; rfl))
      rw [if_neg (by omega)] at this
      exact ⟨w.toInt.toNat, nJ_o (by omega), by omega⟩
    · by_cases k3 : k = 303
      · obtain ⟨t, e1, e2, e3⟩ := c4 k3
        refine ⟨t, e1, ?_⟩
        by_cases y : t < tl.length
        · exact y
        · rw [fsL_g tl t (by omega), fsL_g tl (t + 1) (by omega)] at e3
          omega
      · have := v3 ((q.resolve_left k3).imp (fun q => by rw [q]; rfl) (fun q => q.imp (fun q => by rw [q]; rfl) (fun q => by rw [q]; rfl)))
        rw [if_neg k3] at this
        exact ⟨w.toInt.toNat, nJ_o (by omega), by omega⟩
theorem prf_K {P R : Nat} {r : SI × LZ × List DnS} {h : mv_H} {o : Nat} {w : Int64} {s : STq} (hP : P = 32 ∨ P = 48 ∨ P = 145) (K : KOx P r h) (S : SPq P r.1 h) (hC : CodeOK P R h r.1.tl.length) (ho : o < r.1.ops.length) (V : VLw (fsL r.1.tl) (eW r w) r.1.tl.length h s) (A : ASw P h s) (h7 : mv_i h 64 7 = 0) : ∃ h', f_Machine_perform P h (mv_a h (P + 7) o) w = some (((r.2.2.getD o zSk) (eW r w) s).1, h') ∧ MFw h h' ∧ (((r.2.2.getD o zSk) (eW r w) s).1 = 0 → VLw (fsL r.1.tl) (eW r w) r.1.tl.length h' ((r.2.2.getD o zSk) (eW r w) s).2 ∧ ASw P h' ((r.2.2.getD o zSk) (eW r w) s).2) ∧ ∃ u, UNw h' (mv_b h 65) u ∧ u ≤ 8193 := by
  have TB9 := tbw_K K S w
  obtain ⟨⟨b1, b2, -⟩, -, -, l1, L, z, C, O⟩ := K
  obtain ⟨hg, sz, g1, g2, g3, g4, g5, g6⟩ := hC
  have hz := C.2.1
  have esz : sz = z := by
    have := C.1
    rw [this, nIi (by omega)] at g1
    omega
  subst esz
  have W := wow_K C b1 g3 g4
  obtain ⟨a, k1, ha, k3⟩ := O o (by omega)
  have h10 : mv_i h P 10 = nI r.1.ops.length := S.2.2.2.1
  obtain ⟨n, m1, m2, m3⟩ := g5 o (by rw [h10, nIi (by omega)]; omega)
  have en : n = a := by
    rw [k1, nIi (by omega)] at m1
    omega
  subst en
  obtain ⟨n', rr, er, hr1, hr2⟩ := k3 w s
  generalize r.2.2.getD o zSk = D at hr1 hr2 ⊢
  have kc : KC9 P h (mv_si h 64 4 0) := KC9.si h 0 (by omega)
  have I : PIw P (fsL r.1.tl) (eW r w) r.1.tl.length sz L hg (mv_b h 65) (mv_si h 64 4 0) n 0 [] s := by
    refine ⟨C.kc kc, TB9, V, ?_, ⟨mv_si_s _ _ _ _, by show 0 ≤ 1010; omega, trivial⟩, m3.symm, ⟨(mv_si_o h _ (by omega)).trans h7, fun j hj => absurd hj (Nat.not_lt_zero _), rfl⟩, Nat.zero_le _, g6⟩
    unfold ASw
    rw [show mv_i (mv_si h 64 4 0) 64 8 = mv_i h 64 8 from mv_si_o h _ (by omega), show mv_i (mv_si h 64 4 0) P 8 = mv_i h P 8 from mv_si_o h _ (by omega)]
    exact A
  obtain ⟨h', x1, x2, x3, x4⟩ := pfm hP W n' n 0 0 200000 [] s (mv_si h 64 4 0) rr er I (Nat.zero_le _) (by omega)
  have F0 : MFw h (mv_si h 64 4 0) := ⟨fun o k q => mv_si_o h _ (by omega), fun _ _ => rfl, fun _ _ => rfl, rfl, rfl⟩
  refine ⟨h', ?_, F0.trans x2, fun y => ?_, x4⟩
  · unfold f_Machine_perform
    rw [xk_s, k1, ← hr1]
    exact x1
  · rw [← hr2 y]
    exact x3 (hr1.trans y)
theorem prf_S {P R : Nat} (hR8 : R ≤ 8192) {r : SI × LZ × List DnS} {h : mv_H} {o : Nat} {w : Int64} {s : STq} (hP : P = 32 ∨ P = 48 ∨ P = 145) (K : KOx P r h) (S : SPq P r.1 h) (hC : CodeOK P R h r.1.tl.length) (ho : o < r.1.ops.length) (V : VLw (fsL r.1.tl) (eW r w) r.1.tl.length h s) (A : ASw P h s) (h7 : mv_i h 64 7 = 0) : ∃ h', f_Machine_perform_s P h (mv_a h (P + 7) o) w = some (((r.2.2.getD o zSk) (eW r w) s).1, h') ∧ MFw h h' ∧ (((r.2.2.getD o zSk) (eW r w) s).1 = 0 → VLw (fsL r.1.tl) (eW r w) r.1.tl.length h' ((r.2.2.getD o zSk) (eW r w) s).2 ∧ ASw P h' ((r.2.2.getD o zSk) (eW r w) s).2) ∧ ∃ u, UNw h' (mv_b h 65) u ∧ u ≤ 8193 := by
  have TB9 := tbw_K K S w
  obtain ⟨⟨b1, b2, -⟩, -, -, l1, L, z, C, O⟩ := K
  obtain ⟨hg, sz, g1, g2, g3, g4, g5, g6⟩ := hC
  have hz := C.2.1
  have esz : sz = z := by
    have := C.1
    rw [this, nIi (by omega)] at g1
    omega
  subst esz
  have W := wow_K C b1 g3 g4
  obtain ⟨a, k1, ha, k3⟩ := O o (by omega)
  have h10 : mv_i h P 10 = nI r.1.ops.length := S.2.2.2.1
  obtain ⟨n, m1, m2, m3⟩ := g5 o (by rw [h10, nIi (by omega)]; omega)
  have en : n = a := by
    rw [k1, nIi (by omega)] at m1
    omega
  subst en
  obtain ⟨n', rr, er, hr1, hr2⟩ := k3 w s
  generalize r.2.2.getD o zSk = D at hr1 hr2 ⊢
  have kc : KC9 P h (mv_si h 64 4 0) := KC9.si h 0 (by omega)
  have I : PIw P (fsL r.1.tl) (eW r w) r.1.tl.length sz L hg (mv_b h 65) (mv_si h 64 4 0) n 0 [] s := by
    refine ⟨C.kc kc, TB9, V, ?_, ⟨mv_si_s _ _ _ _, by show 0 ≤ 1010; omega, trivial⟩, m3.symm, ⟨(mv_si_o h _ (by omega)).trans h7, fun j hj => absurd hj (Nat.not_lt_zero _), rfl⟩, Nat.zero_le _, g6⟩
    unfold ASw
    rw [show mv_i (mv_si h 64 4 0) 64 8 = mv_i h 64 8 from mv_si_o h _ (by omega), show mv_i (mv_si h 64 4 0) P 8 = mv_i h P 8 from mv_si_o h _ (by omega)]
    exact A
  obtain ⟨h', x1, x2, x3, x4⟩ := pfm_s (Nat.le_trans g2 hR8) hP W n' n 0 0 200000 [] s (mv_si h 64 4 0) rr er I (Nat.zero_le _) (by omega)
  have F0 : MFw h (mv_si h 64 4 0) := ⟨fun o k q => mv_si_o h _ (by omega), fun _ _ => rfl, fun _ _ => rfl, rfl, rfl⟩
  refine ⟨h', ?_, F0.trans x2, fun y => ?_, x4⟩
  · unfold f_Machine_perform_s
    rw [xk_s, k1, ← hr1]
    exact x1
  · rw [← hr2 y]
    exact x3 (hr1.trans y)
