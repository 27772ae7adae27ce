/-! rows s57 .. s67 -/
/-- the heap with a THING more -/
def thH (P t q e w n z c : Nat) (f : Int32) (h : mv_H) : mv_H := mv_si (mv_si (mv_sa (mv_sa (mv_sa (mv_sa (mv_sa (mv_sa h (P + 1) t (nI q)) (P + 2) t (nI e)) (P + 3) t (nI w)) (P + 6) t f) (P + 7) t (nI z)) (P + 4) t (nI n)) P 19 (nI c)) P 17 (nI (t + 1))
section NTH
variable {P N : Nat} {T : Nat → Nat} {s : SI} {b : Bool} {h : mv_H} {m j : Nat}
theorem thH_a (t q e w n z c : Nat) (f : Int32) (o k : Nat) : mv_a (thH P t q e w n z c f h) o k = if o = P + 4 ∧ k = t then nI n else if o = P + 7 ∧ k = t then nI z else if o = P + 6 ∧ k = t then f else if o = P + 3 ∧ k = t then nI w else if o = P + 2 ∧ k = t then nI e else if o = P + 1 ∧ k = t then nI q else mv_a h o k := rfl
theorem thH_i (t q e w n z c : Nat) (f : Int32) (o k : Nat) : mv_i (thH P t q e w n z c f h) o k = if o = P ∧ k = 17 then nI (t + 1) else if o = P ∧ k = 19 then nI c else mv_i h o k := rfl
/-- a THING more, in lookups -/
theorem tkZ_add {t : Nat → Int32} {x17 x17' : Int32} {r1 r2 r3 r6 r1' r2' r3' r6' : Nat → Int32} {L q0 e0 : Nat} (hL : x17.toNatClampNeg = L) (hL' : x17'.toNatClampNeg = L + 1) (h : ∀ k, k < L → r1' k = r1 k ∧ r2' k = r2 k ∧ r3' k = r3 k ∧ r6' k = r6 k) (h1 : (r1' L).toNatClampNeg = q0) (h2 : (r2' L).toNatClampNeg = e0) (q e : Nat) :
    (s7z t q0 (e0 - q0) = s7z t q (e - q) → (tkZ t x17 r1 r2 r3 r6 q e).1 = 0 → tkZ t x17' r1' r2' r3' r6' q e = if r6' L = 0 then (1, (r3' L).toNatClampNeg) else (2, (r3' L).toNatClampNeg)) ∧ (¬ s7z t q0 (e0 - q0) = s7z t q (e - q) → tkZ t x17' r1' r2' r3' r6' q e = tkZ t x17 r1 r2 r3 r6 q e) := by
  have ef : fsz t (L + 1) r1' r2' q e = match fsz t L r1 r2 q e with
      | some x => some x
      | none => if s7z t q0 (e0 - q0) = s7z t q (e - q) then some L else none := by
    unfold fsz
    rw [fstm_add, fstm_cg (p := fun i => decide (s7z t (r1 i).toNatClampNeg ((r2 i).toNatClampNeg - (r1 i).toNatClampNeg) = s7z t q (e - q))) L 0 (fun k _ hk => by have := h k (by omega); simp only [this.1, this.2.1])]
    simp only [Nat.zero_add, h1, h2, decide_eq_true_eq]
    all_goals rfl
  unfold tkZ
  rw [hL, hL', ef]
  cases c : fsz t L r1 r2 q e with
  | some i =>
    have hi := fsz_lt c
    have := h i hi
    refine ⟨fun _ hn => ?_, fun _ => ?_⟩
    · exfalso
      by_cases z : r6 i = 0
      · simp only [if_pos z] at hn; exact absurd hn (by decide)
      · simp only [if_neg z] at hn; exact absurd hn (by decide)
    · simp only [this.2.2.1, this.2.2.2]
  | none =>
    constructor
    · intro hs _
      simp only [if_pos hs]
    · intro hs
      simp only [if_neg hs]
theorem thH_S (Q : IQq P N T s b h m j) {t q0 e0 w n c : Nat} {f : Bool} (z : Nat) (ht : mv_i h P 17 = nI t) (ht2 : t < 64) (hq : q0 ≤ e0) (he : e0 ≤ N) (hw : w ≤ 64) (hc : c ≤ 65536) {zf : Bool} {nm : List Nat} (enm : nm = tn T q0 (e0 - q0)) (hg : b = true → (s.lk nm).1 = 0 ∧ 0 < w ∧ c = s.cells + n) (n' : Nat) (hn' : b = true → n' = n ∧ (f = true → 1 ≤ n) ∧ (f = false → n = 0)) : ∃ s', (b = true → s' = (SI.mk (s.bits) (updK s.lk nm (bif f then 2 else 1, w)) (s.tl ++ [(w, n, zf)]) (s.cells + n) (s.fe) (s.ops))) ∧ IQq P N T s' b (thH P t q0 e0 w n' z c (b01 f) h) m j := by
  have hP := Q.hb.p
  have hn2 := Q.hb.n2
  have ei : ∀ k, ¬ k = 17 → ¬ k = 19 → mv_i (thH P t q0 e0 w n' z c (b01 f) h) P k = mv_i h P k := fun k h1 h2 => by rw [thH_i, if_neg (by omega), if_neg (by omega)]
  have ea : ∀ o, ¬ (o = P + 1 ∨ o = P + 2 ∨ o = P + 3 ∨ o = P + 4 ∨ o = P + 6 ∨ o = P + 7) → mv_a (thH P t q0 e0 w n' z c (b01 f) h) o = mv_a h o := fun o ho => by
    funext k
    rw [thH_a, if_neg (by omega), if_neg (by omega), if_neg (by omega), if_neg (by omega), if_neg (by omega), if_neg (by omega)]
  have el : ∀ o k, k < t → mv_a (thH P t q0 e0 w n' z c (b01 f) h) o k = mv_a h o k := fun o k hk => by rw [thH_a, if_neg (by omega), if_neg (by omega), if_neg (by omega), if_neg (by omega), if_neg (by omega), if_neg (by omega)]
  have e17 : mv_i (thH P t q0 e0 w n' z c (b01 f) h) P 17 = nI (t + 1) := by rw [thH_i, if_pos ⟨rfl, rfl⟩]
  have c17 : (mv_i h P 17).toNatClampNeg = t := by rw [ht, cln (by omega)]
  have c17' : (mv_i (thH P t q0 e0 w n' z c (b01 f) h) P 17).toNatClampNeg = t + 1 := by rw [e17, cln (by omega)]
  have r1 : mv_a (thH P t q0 e0 w n' z c (b01 f) h) (P + 1) t = nI q0 := by rw [thH_a, if_neg (by omega), if_neg (by omega), if_neg (by omega), if_neg (by omega), if_neg (by omega), if_pos ⟨rfl, rfl⟩]
  have r2 : mv_a (thH P t q0 e0 w n' z c (b01 f) h) (P + 2) t = nI e0 := by rw [thH_a, if_neg (by omega), if_neg (by omega), if_neg (by omega), if_neg (by omega), if_pos ⟨rfl, rfl⟩]
  have r3 : mv_a (thH P t q0 e0 w n' z c (b01 f) h) (P + 3) t = nI w := by rw [thH_a, if_neg (by omega), if_neg (by omega), if_neg (by omega), if_pos ⟨rfl, rfl⟩]
  have r6 : mv_a (thH P t q0 e0 w n' z c (b01 f) h) (P + 6) t = b01 f := by rw [thH_a, if_neg (by omega), if_neg (by omega), if_pos ⟨rfl, rfl⟩]
  have R := Q.tr
  have tr : TRq N (mv_i (thH P t q0 e0 w n' z c (b01 f) h) P 17) (mv_a (thH P t q0 e0 w n' z c (b01 f) h) (P + 1)) (mv_a (thH P t q0 e0 w n' z c (b01 f) h) (P + 2)) (mv_a (thH P t q0 e0 w n' z c (b01 f) h) (P + 3)) (mv_a (thH P t q0 e0 w n' z c (b01 f) h) (P + 6)) := by
    rw [e17]
    refine ⟨by rw [cln (by omega)], by rw [cln (by omega)]; omega, ?_, ?_, ?_⟩ <;> rw [cln (by omega)] <;> intro i hi <;> by_cases d : i = t
    · rw [d, r1, r2, cln (by omega), cln (by omega)]; exact ⟨rfl, rfl, hq, he⟩
    · rw [el _ i (by omega), el _ i (by omega)]; exact R.t2 i (by omega)
    · rw [d, r3, cln (by omega)]; exact ⟨rfl, hw⟩
    · rw [el _ i (by omega)]; exact R.t3 i (by omega)
    · rw [d, r6]; cases f; exact Or.inl rfl; exact Or.inr rfl
    · rw [el _ i (by omega)]; exact R.f6 i (by omega)
  have r4 : mv_a (thH P t q0 e0 w n' z c (b01 f) h) (P + 4) t = nI n' := by rw [thH_a, if_pos ⟨rfl, rfl⟩]
  have tt' : b = true → ∀ i, i < (s.tl ++ [(w, n, zf)]).length → mv_a (thH P t q0 e0 w n' z c (b01 f) h) (P + 3) i = nI ((s.tl ++ [(w, n, zf)]).getD i (0, 0, false)).1 ∧ mv_a (thH P t q0 e0 w n' z c (b01 f) h) (P + 4) i = nI ((s.tl ++ [(w, n, zf)]).getD i (0, 0, false)).2.1 ∧ (mv_a (thH P t q0 e0 w n' z c (b01 f) h) (P + 6) i = 0 ↔ ((s.tl ++ [(w, n, zf)]).getD i (0, 0, false)).2.1 = 0) := fun w' i hi => by
    have hl : s.tl.length = t := (Q.tc w').trans c17
    have hi : i < s.tl.length + 1 := by rw [List.length_append] at hi; exact hi
    by_cases d : i = t
    · have eg : (s.tl ++ [(w, n, zf)]).getD i (0, 0, false) = (w, n, zf) := by rw [d, ← hl, List.getD_eq_getElem?_getD, List.getElem?_append_right (Nat.le_refl _), Nat.sub_self]; rfl
      obtain ⟨k1, k2, k3⟩ := hn' w'
      rw [eg, d, r3, r4, r6, k1]
      refine ⟨rfl, rfl, ?_⟩
      cases f with
      | false => exact ⟨fun _ => k3 rfl, fun _ => rfl⟩
      | true => exact ⟨fun q => absurd q (by decide), fun q => by have := k2 rfl; have q : n = 0 := q; omega⟩
    · have hk2 : i < s.tl.length := by omega
      have eg : (s.tl ++ [(w, n, zf)]).getD i (0, 0, false) = s.tl.getD i (0, 0, false) := by rw [List.getD_eq_getElem?_getD, List.getElem?_append_left hk2, ← List.getD_eq_getElem?_getD]
      rw [eg, el _ i (by omega), el _ i (by omega), el _ i (by omega)]
      exact Q.tt w' i hk2
  obtain ⟨L0, l1, l2, l3⟩ := Q.bt
  obtain ⟨c', d1, d2, d3⟩ := Q.ce
  obtain ⟨f', f1, f2, f3⟩ := Q.fe
  have base : ∀ s' : SI, lkP s'.lk → (b = true → s' = (SI.mk (s.bits) (updK s.lk nm (bif f then 2 else 1, w)) (s.tl ++ [(w, n, zf)]) (s.cells + n) (s.fe) (s.ops))) → IQq P N T s' b (thH P t q0 e0 w n' z c (b01 f) h) m j := fun s' hlp hs => ⟨
    ⟨by rw [ei 2 (by omega) (by omega)]; exact Q.hb.n, hn2, by
      have : ck (thH P t q0 e0 w n' z c (b01 f) h) N = ck h N := by
        funext p
        unfold ck
        rw [ea 71 (by omega)]
      rw [this]; exact Q.hb.t, by rw [ei 8 (by omega) (by omega)]; exact Q.hb.dp, Q.hb.d2, hP⟩,
    Q.n10,
    byt7_row (ea 71 (by omega)) Q.b7,
    by rw [ei 38 (by omega) (by omega)]; exact Q.fa,
    by rw [ei 48 (by omega) (by omega)]; exact Q.nd,
    fun i hi => by rw [ea (P + 23) (by omega)]; exact Q.wd i hi,
    Q.mj,
    Q.gk,
    ⟨L0, by rw [ei 20 (by omega) (by omega)]; exact l1, l2, fun w => by rw [hs w]; exact l3 w⟩,
    tr,
    fun w' q e h1 h2 => by
      obtain ⟨hz, _, _⟩ := hg w'
      have A := tkZ_add (t := mv_a h 71) (r1 := mv_a h (P + 1)) (r2 := mv_a h (P + 2)) (r3 := mv_a h (P + 3)) (r6 := mv_a h (P + 6)) (r3' := mv_a (thH P t q0 e0 w n' z c (b01 f) h) (P + 3)) (r6' := mv_a (thH P t q0 e0 w n' z c (b01 f) h) (P + 6)) c17 c17' (fun k hk => ⟨el (P + 1) k hk, el (P + 2) k hk, el (P + 3) k hk, el (P + 6) k hk⟩) (by rw [r1, cln (show q0 < 2147483648 by omega)]) (by rw [r2, cln (show e0 < 2147483648 by omega)]) q e
      have hsn := s7_tn_iff Q.b7 hn2 Q.hb.t hq he h1 h2
      have old := Q.tv w' q e h1 h2
      rw [ea 71 (by omega), hs w']
      show _ = updK s.lk nm (bif f then 2 else 1, w) (tn T q (e - q))
      unfold updK
      by_cases d : tn T q (e - q) = nm
      · rw [if_pos d, A.1 (hsn.mpr (by rw [d, enm])) (by rw [old, d]; exact hz), r6, r3, cln (by omega)]
        cases f
        · rw [if_pos (show b01 false = 0 from rfl)]; rfl
        · rw [if_neg (show ¬ b01 true = 0 by decide)]; rfl
      · rw [if_neg d, A.2 (fun z => d (by rw [hsn.mp z, enm]))]
        exact old,
    fun w' => by rw [hs w', c17', ← c17]; show (s.tl ++ [(w, n, zf)]).length = _; rw [List.length_append, Q.tc w']; rfl,
    fun w' => by rw [hs w']; exact tt' w',
    ⟨c, by rw [thH_i, if_neg (by omega), if_pos ⟨rfl, rfl⟩], hc, fun w' => by rw [hs w']; exact (hg w').2.2⟩,
    ⟨f', by rw [ei 22 (by omega) (by omega)]; exact f1, f2, fun w' => by rw [hs w']; exact f3 w'⟩,
    hlp,
    by rw [ei 29 (by omega) (by omega)]; exact Q.o0,
    by rw [ei 29 (by omega) (by omega)]; exact Q.o5,
    by rw [ei 51 (by omega) (by omega)]; exact Q.c0,
    by rw [ei 51 (by omega) (by omega)]; exact Q.c1,
    by rw [ei 29 (by omega) (by omega), ei 51 (by omega) (by omega), ea (P + 8) (by omega), ea (P + 9) (by omega), ea (P + 10) (by omega)]; exact Q.op,
    fun w' => by rw [ei 29 (by omega) (by omega), ei 51 (by omega) (by omega), ea (P + 8) (by omega), ea (P + 9) (by omega), ea (P + 10) (by omega), ea (P + 13) (by omega), hs w']; exact Q.ov w'⟩
  cases b with
  | true => exact ⟨_, fun _ => rfl, base _ (lkP_upd Q.lp ⟨(hg rfl).2.1, by omega⟩ _) (fun _ => rfl)⟩
  | false => exact ⟨s, fun w => (by cases w), base s Q.lp (fun w => by cases w)⟩
end NTH
theorem nar01 (f : Bool) : vp_nar .boolean (b01 f) = b01 f := by cases f <;> decide
section NT2
variable {P N : Nat} {T : Nat → Nat} {s : SI} {b : Bool} {h : mv_H} {m j : Nat}
/-- the writes of a new THING -/
theorem nt165 {t c q e : Nat} (ht : mv_i h P 17 = nI t) (ht2 : t < 64) (hc : mv_i h P 19 = nI c) (hP : 74 ≤ P) (f zf : Bool) (xw xn : Int32) (W n' c' : Nat) (hw : (xw = nI W ∧ W ≤ 64) ∨ (xw = -1 ∧ W = 0)) (hn : (xn = nI n' ∧ n' ≤ 65536) ∨ (xn = -1 ∧ n' = 0)) (hcc : (0 < n' ∧ 0 < W ∧ c' = c + n' ∧ c' ≤ 65536) ∨ (¬ (0 < n' ∧ 0 < W) ∧ c' = c)) (v : Int64) :
    f_Book_newThing_165 P (b01 f) (nI q) (nI e) xw xn (b01 zf) (rB P N h j v) = some (some 0, rB P N (thH P t q e W n' (bif zf then 1 else 0) c' (b01 f) h) j v) := by
  have r17 : mv_i (rB P N h j v) P 17 = nI t := (rB_o _ _ (by omega)).trans ht
  have s35 : ∀ g o k x, mv_i (mv_sa g o k x) = mv_i g := fun _ _ _ _ => rfl
  have ez : b01 zf = nI (bif zf then 1 else 0) := by cases zf <;> rfl
  unfold f_Book_newThing_165
  simp only [xk_s, s35, r17]
  rw [xvi_n (show t < 4100 by omega) (by decide)]
  simp only [cond_true]
  -- the width
  have ew : ∀ (g : mv_H), (if (0 : Int32) ≤ xw then f_Book_newThing_204 P (b01 f) xw xn (b01 zf) xw (nI t) g else f_Book_newThing_204 P (b01 f) xw xn (b01 zf) 0 (nI t) g) = f_Book_newThing_204 P (b01 f) xw xn (b01 zf) (nI W) (nI t) g := fun g => by
    rcases hw with ⟨e1, e2⟩ | ⟨e1, e2⟩
    · rw [e1, if_pos (show (0 : Int32) ≤ nI W from (nIle (a := 0) (by omega) (by omega)).mpr (by omega))]
    · rw [e1, e2, if_neg (show ¬ (0 : Int32) ≤ -1 by decide)]; rfl
  rw [ew]
  unfold f_Book_newThing_204
  simp only [xk_s, s35, r17]
  rw [xvi_n (show t < 4100 by omega) (by decide), nar01, nar01]
  simp only [cond_true]
  have en : ∀ (g : mv_H), (if (0 : Int32) ≤ xn then f_Book_newThing_245 P xw xn xn (nI t) g else f_Book_newThing_245 P xw xn 0 (nI t) g) = f_Book_newThing_245 P xw xn (nI n') (nI t) g := fun g => by
    rcases hn with ⟨e1, e2⟩ | ⟨e1, e2⟩
    · rw [e1, if_pos (show (0 : Int32) ≤ nI n' from (nIle (a := 0) (by omega) (by omega)).mpr (by omega))]
    · rw [e1, e2, if_neg (show ¬ (0 : Int32) ≤ -1 by decide)]; rfl
  rw [en]
  unfold f_Book_newThing_245 f_Book_newThing_267
  rw [xvi_n (show t < 4100 by omega) (by decide)]
  simp only [cond_true, xk_s, s35]
  rw [cln (show t < 2147483648 by omega)]
  simp only [rB_sa (P := P) (N := N) (show ¬ P + 1 = 71 by omega), rB_sa (P := P) (N := N) (show ¬ P + 2 = 71 by omega), rB_sa (P := P) (N := N) (show ¬ P + 3 = 71 by omega), rB_sa (P := P) (N := N) (show ¬ P + 4 = 71 by omega), rB_sa (P := P) (N := N) (show ¬ P + 6 = 71 by omega), rB_sa (P := P) (N := N) (show ¬ P + 7 = 71 by omega)]
  generalize hg : mv_sa (mv_sa (mv_sa (mv_sa (mv_sa (mv_sa h (P + 1) t (nI q)) (P + 2) t (nI e)) (P + 3) t (nI W)) (P + 6) t (b01 f)) (P + 7) t (b01 zf)) (P + 4) t (nI n') = g
  have g17 : mv_i (rB P N g j v) P 17 = nI t := by rw [← hg]; exact (rB_o _ _ (by omega)).trans ht
  have g19 : mv_i (rB P N g j v) P 19 = nI c := by rw [← hg]; exact (rB_o _ _ (by omega)).trans hc
  have gc : mv_i g P 19 = nI c := by rw [← hg]; exact hc
  have eth : thH P t q e W n' (bif zf then 1 else 0) c' (b01 f) h = mv_si (mv_si g P 19 (nI c')) P 17 (nI (t + 1)) := by
    rw [← hg, ez]; rfl
  have nope : ¬ (0 < n' ∧ 0 < W) → c' = c → some (some (0 : Int32), mv_si (rB P N g j v) P 17 (mv_i (rB P N h j v) P 17 + 1)) = some (some 0, rB P N (thH P t q e W n' (bif zf then 1 else 0) c' (b01 f) h) j v) := fun _ ec => by
    rw [eth, ec, r17, nI1 (by omega), rB_si (by omega)]
    have : mv_si g P 19 (nI c) = g := by rw [← gc]; exact mv_si_self ..
    rw [this]
  have n0 : xn ≤ 0 ↔ n' = 0 := by
    rcases hn with ⟨e1, e2⟩ | ⟨e1, e2⟩
    · rw [e1]
      have := nIle (a := n') (b := 0) (by omega) (by decide)
      rw [show (0 : Int32) = nI 0 from rfl, this]; omega
    · rw [e1]; exact ⟨fun _ => e2, fun _ => by decide⟩
  have w0 : xw ≤ 0 ↔ W = 0 := by
    rcases hw with ⟨e1, e2⟩ | ⟨e1, e2⟩
    · rw [e1]; exact nle_0 (by omega)
    · rw [e1]; exact ⟨fun _ => e2, fun _ => by decide⟩
  by_cases c1 : n' = 0
  · rw [if_pos (n0.mpr c1)]
    rcases hcc with hcc | hcc
    · omega
    · exact nope hcc.1 hcc.2
  · rw [if_neg (fun z => c1 (n0.mp z))]
    by_cases c2 : W = 0
    · rw [if_pos (w0.mpr c2)]
      rcases hcc with hcc | hcc
      · omega
      · exact nope hcc.1 hcc.2
    · rw [if_neg (fun z => c2 (w0.mp z))]
      rcases hcc with hcc | hcc
      · have exn : xn = nI n' := by
          rcases hn with ⟨e1, e2⟩ | ⟨e1, e2⟩
          · exact e1
          · omega
        have g17' : mv_i (mv_si (rB P N g j v) P 19 (nI (c + n'))) P 17 = nI t := (mv_u_ne (mv_i (rB P N g j v)) _ (by omega)).trans g17
        have r19 : mv_i (rB P N h j v) P 19 = nI c := (rB_o _ _ (by omega)).trans hc
        rw [exn, r19, nIadd (by omega), g17', nI1 (by omega), rB_si (by omega), rB_si (by omega), eth, hcc.2.2.1]
      · omega
/-- the end of reg and file. i the name's token; W, n what they told, good -/
theorem nt104 (Q : IQq P N T s b h m j) {i : Nat} (Gi : gkT T N i) (ki : kdT T N i = 3) (f zf : Bool) (xw xn : Int32) (W n : Nat) (hw : (xw = nI W ∧ 1 ≤ W ∧ W ≤ 64) ∨ (xw = -1 ∧ b = false)) (hn : (xn = nI n ∧ n ≤ 65536 ∧ (f = true → 1 ≤ n) ∧ (f = false → n = 0)) ∨ (xn = -1 ∧ b = false)) {j0 : Nat} (hj0 : j0 ≤ j) (v : Int64) :
    IOq P N T j0 (on b ((ndq (txT T N) 0 j 59).bind fun _ => sNw (txT T N) s i (bif f then 2 else 1) W n zf (j + 1))) (f_Book_newThing_104 P (b01 f) (nI (pos T N i)) (nI (bp T N (i + 1))) xw xn (b01 zf) (rB P N h j v)) := by
  have H := Q.hb
  have hP := H.p
  have hn2 := H.n2
  have npq := H.npq Gi
  unfold f_Book_newThing_104
  rcases ndS H Q.gk (c := 59) (k := 59) (by omega) (H.ch (c := 59) Q.gk (by omega) (by omega)) v with ⟨k5, p5, G5, s5, v5, e5⟩ | ⟨s5, g, e5⟩
  rotate_left
  · rw [e5, xtb_n, s5]; exact Or.inl ⟨g, rfl, on_none _⟩
  rw [e5, xtb_s, s5, Option.bind_some, thgI rfl Q.tr hn2 npq.1 npq.2, xhb_s]
  have Q5 := Q.st G5 (by omega)
  unfold sNw
  have lkq : b = true → s.lk ((txT T N).nm i) = match tfz P h (pos T N i) (bp T N (i + 1)) with
      | some k => if mv_a h (P + 6) k = 0 then (1, (mv_a h (P + 3) k).toNatClampNeg) else (2, (mv_a h (P + 3) k).toNatClampNeg)
      | none => (0, 0) := fun w => Q5.lkT w Gi ki
  have bad : ∀ (k a : Int32), 0 < k → (b = true → ¬ ((s.lk ((txT T N).nm i)).1 = 0 ∧ s.tl.length < 64 ∧ s.cells + n ≤ 65536)) → IOq P N T j0 (on b (if (s.lk ((txT T N).nm i)).1 = 0 ∧ s.tl.length < 64 ∧ s.cells + n ≤ 65536 then some (j + 1, (SI.mk (s.bits) (updK s.lk ((txT T N).nm i) (bif f then 2 else 1, W)) (s.tl ++ [(W, n, zf)]) (s.cells + n) (s.fe) (s.ops))) else none)) (xhv (f_Book_fault P (rB P N h (j + 1) v5) k a) fun g => some (some 0, g)) := fun k a hk hz => by
    obtain ⟨h6, e6, Q6, X6, a6⟩ := flt1 Q5 false hk a v5
    rw [show (xhv (f_Book_fault P (rB P N h (j + 1) v5) k a) fun g => some (some (0 : Int32), g)) = some (some 0, rB P N h6 (j + 1) v5) from e6 (fun g => some (some 0, g))]
    rw [Bool.and_false] at Q6
    refine Or.inr ⟨false, j + 1, s, 0, h6, v5, m, rfl, ?_, Q6, by omega⟩
    cases b with
    | false => rfl
    | true => rw [if_neg (hz rfl)]; rfl
  cases c1 : tfz P h (pos T N i) (bp T N (i + 1)) with
  | some t =>
    rw [c1] at lkq
    have ht := fsz_lt c1
    have t1 := Q.tr.t1
    rw [show resI (some t) = nI t from rfl, if_neg (nI_neg (by omega))]
    refine bad 2 _ (by decide) (fun w z => ?_)
    rw [lkq w] at z
    by_cases d : mv_a h (P + 6) t = 0
    · simp only [if_pos d] at z; exact absurd z.1 (by decide)
    · simp only [if_neg d] at z; exact absurd z.1 (by decide)
  | none =>
    rw [c1] at lkq
    rw [show resI none = -1 from rfl, if_pos (show (-1 : Int32) < 0 by decide)]
    have t0 := Q.tr.t0
    have t1 := Q.tr.t1
    generalize htd : (mv_i h P 17).toNatClampNeg = t at t0 t1
    have r17 : mv_i (rB P N h (j + 1) v5) P 17 = nI t := (rB_o _ _ (by omega)).trans t0
    rw [r17]
    have htl : b = true → s.tl.length = t := fun w => by rw [Q.tc w]; exact htd
    by_cases c2 : t < 64
    rotate_left
    · rw [if_pos (show (64 : Int32) ≤ nI t from (nIle (a := 64) (by omega) (by omega)).mpr (by omega))]
      exact bad 6 _ (by decide) (fun w z => by rw [htl w] at z; omega)
    rw [if_neg (show ¬ (64 : Int32) ≤ nI t from fun z => by have := (nIle (a := 64) (by omega) (by omega)).mp z; omega)]
    obtain ⟨c, hc1, hc2, hc3⟩ := Q.ce
    have r19 : mv_i (rB P N h (j + 1) v5) P 19 = nI c := (rB_o _ _ (by omega)).trans hc1
    rw [r19]
    -- width and cells as they are kept
    obtain ⟨W', hW', hWb⟩ : ∃ W', ((xw = nI W' ∧ W' ≤ 64) ∨ (xw = -1 ∧ W' = 0)) ∧ (b = true → W' = W ∧ 1 ≤ W) := by
      rcases hw with ⟨e1, e2, e3⟩ | ⟨e1, e2⟩
      · exact ⟨W, Or.inl ⟨e1, e3⟩, fun _ => ⟨rfl, e2⟩⟩
      · exact ⟨0, Or.inr ⟨e1, rfl⟩, fun w => by rw [e2] at w; cases w⟩
    obtain ⟨n', hn', hnb⟩ : ∃ n', ((xn = nI n' ∧ n' ≤ 65536) ∨ (xn = -1 ∧ n' = 0)) ∧ (b = true → n' = n ∧ (f = true → 1 ≤ n) ∧ (f = false → n = 0)) := by
      rcases hn with ⟨e1, e2, e3⟩ | ⟨e1, e2⟩
      · exact ⟨n, Or.inl ⟨e1, e2⟩, fun _ => ⟨rfl, e3⟩⟩
      · exact ⟨0, Or.inr ⟨e1, rfl⟩, fun w => by rw [e2] at w; cases w⟩
    have hW64 : W' ≤ 64 := by rcases hW' with q | q <;> omega
    have good : ∀ c', ((0 < n' ∧ 0 < W' ∧ c' = c + n' ∧ c' ≤ 65536) ∨ (¬ (0 < n' ∧ 0 < W') ∧ c' = c)) → IOq P N T j0 (on b (if (s.lk ((txT T N).nm i)).1 = 0 ∧ s.tl.length < 64 ∧ s.cells + n ≤ 65536 then some (j + 1, (SI.mk (s.bits) (updK s.lk ((txT T N).nm i) (bif f then 2 else 1, W)) (s.tl ++ [(W, n, zf)]) (s.cells + n) (s.fe) (s.ops))) else none)) (f_Book_newThing_165 P (b01 f) (nI (pos T N i)) (nI (bp T N (i + 1))) xw xn (b01 zf) (rB P N h (j + 1) v5)) := fun c' hcc => by
      have hc' : c' ≤ 65536 := by rcases hcc with q | q <;> omega
      have hb' : b = true → c' = s.cells + n := fun w => by
        have h1 := hWb w
        have h2 := (hnb w).1
        have h3 := hc3 w
        rcases hcc with q | q
        · omega
        · omega
      rw [nt165 t0 c2 hc1 hP f zf xw xn W' n' c' hW' hn' hcc v5]
      obtain ⟨s', hs', Q'⟩ := thH_S Q5 (f := f) (zf := zf) (n := n) (w := W') (c := c') (bif zf then 1 else 0) t0 c2 npq.1 npq.2 hW64 hc' (H.nmt Gi ki) (fun w => ⟨by rw [lkq w], by have := hWb w; omega, hb' w⟩) n' hnb
      refine Or.inr ⟨b, j + 1, s', 0, _, v5, m, rfl, ?_, Q', by omega⟩
      cases b with
      | false => rfl
      | true =>
        rw [if_pos ⟨by rw [lkq rfl], by rw [htl rfl]; exact c2, by rw [← hb' rfl]; exact hc'⟩, hs' rfl, (hWb rfl).1]
    have n0 : xn ≤ 0 ↔ n' = 0 := by
      rcases hn' with ⟨e1, e2⟩ | ⟨e1, e2⟩
      · rw [e1]
        have := nIle (a := n') (b := 0) (by omega) (by decide)
        rw [show (0 : Int32) = nI 0 from rfl, this]; omega
      · rw [e1]; exact ⟨fun _ => e2, fun _ => by decide⟩
    have w0 : xw ≤ 0 ↔ W' = 0 := by
      rcases hW' with ⟨e1, e2⟩ | ⟨e1, e2⟩
      · rw [e1]; exact nle_0 (by omega)
      · rw [e1]; exact ⟨fun _ => e2, fun _ => by decide⟩
    by_cases d1 : n' = 0
    · rw [if_pos (n0.mpr d1)]; exact good c (Or.inr ⟨by omega, rfl⟩)
    rw [if_neg (fun z => d1 (n0.mp z))]
    by_cases d2 : W' = 0
    · rw [if_pos (w0.mpr d2)]; exact good c (Or.inr ⟨by omega, rfl⟩)
    rw [if_neg (fun z => d2 (w0.mp z))]
    have exn : xn = nI n' := by
      rcases hn' with ⟨e1, e2⟩ | ⟨e1, e2⟩
      · exact e1
      · omega
    have hn65 : n' ≤ 65536 := by rcases hn' with q | q <;> omega
    rw [exn, nIadd (by omega), ← exn]
    by_cases d3 : c + n' ≤ 65536
    · rw [if_pos (show nI (c + n') ≤ 65536 from (nIle (b := 65536) (by omega) (by omega)).mpr d3)]
      exact good (c + n') (Or.inl ⟨by omega, by omega, rfl, d3⟩)
    · rw [if_neg (show ¬ nI (c + n') ≤ 65536 from fun z => d3 ((nIle (b := 65536) (by omega) (by omega)).mp z))]
      exact bad 6 _ (by decide) (fun w z => by have := hc3 w; have := hnb w; omega)
end NT2
section NT3
variable {P N : Nat} {T : Nat → Nat} {s : SI} {b : Bool} {h : mv_H} {m j : Nat}
theorem bind_none' {α β : Type} (X : Option α) : (X.bind fun _ => (none : Option β)) = none := by cases X <;> rfl
theorem reg_S (Q : IQq P N T s b h m j) (hk : kdT T N j = 201) (v : Int64) : IOq P N T j (on b (sRg (txT T N) s j)) (f_Book_newThing P (rB P N h j v) 0) := by
  have H := Q.hb
  have hP := H.p
  unfold f_Book_newThing sRg
  rcases pS H Q.gk (by omega) (by omega) v with ⟨p1, G1, v1, e1⟩ | ⟨p1, g, e1⟩
  rotate_left
  · rw [e1, xtb_n, gd_f p1]; exact Or.inl ⟨g, rfl, on_none _⟩
  rw [e1, xtb_s, gd_t p1]
  rcases nam0 H G1 v1 with ⟨k2, G2, p2, s2, v2, e2⟩ | ⟨s2, g, e2⟩
  rotate_left
  · rw [e2, xtb_n, s2]; exact Or.inl ⟨g, rfl, on_none _⟩
  have Q2 := (Q.st G1 (by omega)).nmK (j + 1)
  have H2 := Q2.hb
  have e49 : mv_i (rB P N (nmK P N T h (j + 1)) (j + 1 + 1) v2) P 49 = nI (pos T N (j + 1)) := (rB_o _ _ (by omega)).trans (nmK_49 _)
  have e50 : mv_i (rB P N (nmK P N T h (j + 1)) (j + 1 + 1) v2) P 50 = nI (bp T N (j + 1 + 1)) := (rB_o _ _ (by omega)).trans (nmK_50 _)
  rw [e2, xtb_s, s2, Option.bind_some, e49, e50]
  rcases ndS H2 G2 (c := 58) (k := 58) (by omega) (H2.ch (c := 58) G2 (by omega) (by omega)) v2 with ⟨k3, p3, G3, s3, v3, e3⟩ | ⟨s3, g, e3⟩
  rotate_left
  · rw [e3, xtb_n, show ndq (txT T N) 0 (j + 2) 58 = none from s3]; exact Or.inl ⟨g, rfl, on_none _⟩
  rw [e3, xtb_s, show ndq (txT T N) 0 (j + 2) 58 = some () from s3, Option.bind_some, show (1 : Int64) = nJ 1 from rfl, show (64 : Int64) = nJ 64 from rfl]
  rcases rng0 H2 m G3 (lo := 1) (hi := 64) (by omega) (by omega) v3 with ⟨k4, G4, s4, v4, h4, x, e4, X4, n4, a4, hr⟩ | ⟨s4, g, e4⟩
  rotate_left
  · rw [e4, xtb_n, show ndq (txT T N) 0 (j + 3) 4 = none from s4]; exact Or.inl ⟨g, rfl, on_none _⟩
  rw [e4, xtb_s, show ndq (txT T N) 0 (j + 3) 4 = some () from s4, Option.bind_some, if_pos rfl]
  have Q3 := Q2.st G4 (by omega)
  rcases hr with ⟨r1, r2, r3, r4⟩ | ⟨r1, r2, r3⟩
  · rw [r4, if_pos ⟨r1, r2⟩]
    exact nt104 Q3 G1 k2 false false x 0 _ 0 (Or.inl ⟨r3, r1, r2⟩) (Or.inl ⟨rfl, by omega, fun w => (by cases w), fun _ => rfl⟩) (by omega) v4
  · rw [if_neg (show ¬ (1 ≤ (txT T N).nu (j + 3) ∧ (txT T N).nu (j + 3) ≤ 64) from r1), bind_none', on_none]
    have Q4 : IQq P N T s false h4 m (j + 4) := Q3.fx X4 (fun w => by cases w) (fz_no r2) n4 a4 G4 (by omega)
    exact nt104 Q4 G1 k2 false false x 0 0 0 (Or.inr ⟨r3, rfl⟩) (Or.inl ⟨rfl, by omega, fun w => (by cases w), fun _ => rfl⟩) (by omega) v4
/-- one deeper, and back, of items -/
theorem XFr.dep0 {d' : Nat} {h1 h2 : mv_H} (X : XFr P m (mv_si h1 P 8 (nI d')) h2) (e : mv_i h1 P 8 = nI 0) : XFr P m h1 (mv_si h2 P 8 (nI 0)) := X.dep e
theorem fil_S (Q : IQq P N T s b h m j) (hk : kdT T N j = 202) (v : Int64) : IOq P N T j (on b (sFi (txT T N) s j)) (f_Book_newThing P (rB P N h j v) 1) := by
  have H := Q.hb
  have hP := H.p
  unfold f_Book_newThing sFi
  rcases pS H Q.gk (by omega) (by omega) v with ⟨p1, G1, v1, e1⟩ | ⟨p1, g, e1⟩
  rotate_left
  · rw [e1, xtb_n, gd_f p1]; exact Or.inl ⟨g, rfl, on_none _⟩
  rw [e1, xtb_s, gd_t p1]
  rcases nam0 H G1 v1 with ⟨k2, G2, p2, s2, v2, e2⟩ | ⟨s2, g, e2⟩
  rotate_left
  · rw [e2, xtb_n, s2]; exact Or.inl ⟨g, rfl, on_none _⟩
  have Q2 := (Q.st G1 (by omega)).nmK (j + 1)
  have H2 := Q2.hb
  have e49 : mv_i (rB P N (nmK P N T h (j + 1)) (j + 1 + 1) v2) P 49 = nI (pos T N (j + 1)) := (rB_o _ _ (by omega)).trans (nmK_49 _)
  have e50 : mv_i (rB P N (nmK P N T h (j + 1)) (j + 1 + 1) v2) P 50 = nI (bp T N (j + 1 + 1)) := (rB_o _ _ (by omega)).trans (nmK_50 _)
  rw [e2, xtb_s, s2, Option.bind_some, e49, e50]
  rcases ndS H2 G2 (c := 58) (k := 58) (by omega) (H2.ch (c := 58) G2 (by omega) (by omega)) v2 with ⟨k3, p3, G3, s3, v3, e3⟩ | ⟨s3, g, e3⟩
  rotate_left
  · rw [e3, xtb_n, show ndq (txT T N) 0 (j + 2) 58 = none from s3]; exact Or.inl ⟨g, rfl, on_none _⟩
  rw [e3, xtb_s, show ndq (txT T N) 0 (j + 2) 58 = some () from s3, Option.bind_some, show (1 : Int64) = nJ 1 from rfl, show (64 : Int64) = nJ 64 from rfl, show (65536 : Int64) = nJ 65536 from rfl]
  rcases rng0 H2 m G3 (lo := 1) (hi := 64) (by omega) (by omega) v3 with ⟨k4, G4, s4, v4, h4, xw, e4, X4, n4, a4, hr⟩ | ⟨s4, g, e4⟩
  rotate_left
  · rw [e4, xtb_n, show ndq (txT T N) 0 (j + 3) 4 = none from s4]; exact Or.inl ⟨g, rfl, on_none _⟩
  rw [e4, xtb_s, show ndq (txT T N) 0 (j + 3) 4 = some () from s4, Option.bind_some, if_neg n10]
  -- the state behind the width
  obtain ⟨b4, Q4, hb4⟩ : ∃ b4, IQq P N T s b4 h4 m (j + 4) ∧ ((b4 = b ∧ xw = nI ((txT T N).nu (j + 3)) ∧ 1 ≤ (txT T N).nu (j + 3) ∧ (txT T N).nu (j + 3) ≤ 64) ∨ (b4 = false ∧ xw = -1 ∧ ¬ (1 ≤ (txT T N).nu (j + 3) ∧ (txT T N).nu (j + 3) ≤ 64))) := by
    rcases hr with ⟨r1, r2, r3, r4⟩ | ⟨r1, r2, r3⟩
    · rw [r4]; exact ⟨b, Q2.st G4 (by omega), Or.inl ⟨rfl, r3, r1, r2⟩⟩
    · exact ⟨false, (Q2.st G4 (by omega)).fx X4 (fun w => by cases w) (fz_no r2) n4 a4 G4 (by omega), Or.inr ⟨rfl, r3, r1⟩⟩
  have H4 := Q4.hb
  rcases ndS H4 G4 (c := 91) (k := 91) (by omega) (H4.ch (c := 91) G4 (by omega) (by omega)) v4 with ⟨k5, p5, G5, s5, v5, e5⟩ | ⟨s5, g, e5⟩
  rotate_left
  · rw [e5, xtb_n, show ndq (txT T N) 0 (j + 4) 91 = none from s5]; exact Or.inl ⟨g, rfl, on_none _⟩
  rw [e5, xtb_s, show ndq (txT T N) 0 (j + 4) 91 = some () from s5, Option.bind_some, dUp H4 (by omega), xk_s]
  have H5 : HB P N T (0 + 1) (mv_si h4 P 8 (nI (0 + 1))) := H4.dep (by omega)
  rcases rng0 H5 m G5 (lo := 1) (hi := 65536) (by omega) (by omega) v5 with ⟨k6, G6, s6, v6, h6, xn, e6, X6, n6, a6, hr6⟩ | ⟨s6, g, e6⟩
  rotate_left
  · rw [e6, xtb_n, show ndq (txT T N) 1 (j + 5) 4 = none from s6]; exact Or.inl ⟨g, rfl, on_none _⟩
  rw [e6, xtb_s, show ndq (txT T N) 1 (j + 5) 4 = some () from s6, Option.bind_some]
  have H6 : HB P N T (0 + 1) h6 := H5.fr X6
  rcases ndS H6 G6 (c := 93) (k := 93) (by omega) (H6.ch (c := 93) G6 (by omega) (by omega)) v6 with ⟨k7, p7, G7, s7, v7, e7⟩ | ⟨s7, g, e7⟩
  rotate_left
  · rw [e7, xtb_n, show ndq (txT T N) 1 (j + 6) 93 = none from s7]; exact Or.inl ⟨g, rfl, on_none _⟩
  rw [e7, xtb_s, show ndq (txT T N) 1 (j + 6) 93 = some () from s7, Option.bind_some, dDn H6, xk_s]
  have X7 : XFr P m h4 (mv_si h6 P 8 (nI 0)) := X6.dep H4.dp
  have n7 : mv_i (mv_si h6 P 8 (nI 0)) P 48 = mv_i h4 P 48 := (mv_u_ne (mv_i h6) _ (by omega)).trans (n6.trans (mv_u_ne (mv_i h4) _ (by omega)))
  have a7 : ∀ o, mv_a (mv_si h6 P 8 (nI 0)) o = mv_a h4 o := a6
  have f7 : mv_i (mv_si h6 P 8 (nI 0)) P 38 = mv_i h6 P 38 := mv_u_ne (mv_i h6) _ (by omega)
  obtain ⟨b7, Q7, hb7⟩ : ∃ b7, IQq P N T s b7 (mv_si h6 P 8 (nI 0)) m (j + 7) ∧ ((b7 = b4 ∧ xn = nI ((txT T N).nu (j + 5)) ∧ 1 ≤ (txT T N).nu (j + 5) ∧ (txT T N).nu (j + 5) ≤ 65536) ∨ (b7 = false ∧ xn = -1 ∧ ¬ (1 ≤ (txT T N).nu (j + 5) ∧ (txT T N).nu (j + 5) ≤ 65536))) := by
    rcases hr6 with ⟨r1, r2, r3, r4⟩ | ⟨r1, r2, r3⟩
    · refine ⟨b4, Q4.fx X7 (fun w => w) ?_ n7 a7 G7 (by omega), Or.inl ⟨rfl, r3, r1, r2⟩⟩
      have : mv_i h6 P 38 = mv_i h4 P 38 := by rw [r4]; exact mv_u_ne (mv_i h4) _ (by omega)
      rw [f7, this]; exact Q4.fa
    · exact ⟨false, Q4.fx X7 (fun w => by cases w) (fz_no (by rw [f7]; exact r2)) n7 a7 G7 (by omega), Or.inr ⟨rfl, r3, r1⟩⟩
  have H7 := Q7.hb
  have eX : (txT T N).kd (j + 7) = kdT T N (j + 7) := rfl
  -- from there on
  have fin : ∀ (i : Nat) (zf : Bool) (v8 : Int64), j + 7 ≤ i → IQq P N T s b7 (mv_si h6 P 8 (nI 0)) m i → IOq P N T j (on b ((ndq (txT T N) 0 i 59).bind fun _ => if (1 ≤ (txT T N).nu (j + 3) ∧ (txT T N).nu (j + 3) ≤ 64) ∧ 1 ≤ (txT T N).nu (j + 5) ∧ (txT T N).nu (j + 5) ≤ 65536 then sNw (txT T N) s (j + 1) 2 ((txT T N).nu (j + 3)) ((txT T N).nu (j + 5)) zf (i + 1) else none)) (f_Book_newThing_104 P 1 (nI (pos T N (j + 1))) (nI (bp T N (j + 1 + 1))) xw xn (b01 zf) (rB P N (mv_si h6 P 8 (nI 0)) i v8)) := fun i zf v8 hi Q8 => by
    rcases hb4 with ⟨b41, b42, b43, b44⟩ | ⟨b41, b42, b43⟩
    · rcases hb7 with ⟨b71, b72, b73, b74⟩ | ⟨b71, b72, b73⟩
      · rw [if_pos ⟨⟨b43, b44⟩, b73, b74⟩]
        rw [b71, b41] at Q8
        exact nt104 Q8 G1 k2 true zf xw xn _ _ (Or.inl ⟨b42, b43, b44⟩) (Or.inl ⟨b72, b74, fun _ => b73, fun w => by cases w⟩) (by omega) v8
      · rw [if_neg (fun z => b73 z.2), bind_none', on_none]
        rw [b71] at Q8
        exact nt104 Q8 G1 k2 true zf xw xn _ 0 (Or.inl ⟨b42, b43, b44⟩) (Or.inr ⟨b72, rfl⟩) (by omega) v8
    · rw [if_neg (fun z => b43 z.1), bind_none', on_none]
      rcases hb7 with ⟨b71, b72, b73, b74⟩ | ⟨b71, b72, b73⟩
      · rw [b71, b41] at Q8
        exact nt104 Q8 G1 k2 true zf xw xn 0 _ (Or.inr ⟨b42, rfl⟩) (Or.inl ⟨b72, b74, fun _ => b73, fun w => by cases w⟩) (by omega) v8
      · rw [b71] at Q8
        exact nt104 Q8 G1 k2 true zf xw xn 0 0 (Or.inr ⟨b42, rfl⟩) (Or.inr ⟨b72, rfl⟩) (by omega) v8
  rw [show j + 1 + 1 + 1 + 1 + 1 + 1 + 1 = j + 7 from rfl, is_S H7 G7 (i := 3) (wds (142, 3) (by decide)) (by decide) v7, xhb_s, eX]
  by_cases c : kdT T N (j + 7) = 203
  · rw [if_neg (b01_dp c), if_pos c]
    rcases pS H7 G7 (by rw [show j + 1 + 1 + 1 + 1 + 1 + 1 + 1 = j + 7 from rfl]; omega) (by rw [show j + 1 + 1 + 1 + 1 + 1 + 1 + 1 = j + 7 from rfl]; omega) v7 with ⟨p8, G8, v8, e8⟩ | ⟨p8, g, e8⟩
    rotate_left
    · rw [show j + 7 = j + 1 + 1 + 1 + 1 + 1 + 1 + 1 from rfl, e8, xtb_n, gd_f p8]; exact Or.inl ⟨g, rfl, on_none _⟩
    rw [show j + 7 = j + 1 + 1 + 1 + 1 + 1 + 1 + 1 from rfl, e8, xtb_s, gd_t p8]
    have ec : b01 (decide (kdT T N (j + 1 + 1 + 1 + 1 + 1 + 1 + 1) = 200 + 3)) = b01 true := by rw [decide_eq_true (show kdT T N (j + 1 + 1 + 1 + 1 + 1 + 1 + 1) = 200 + 3 from c)]
    rw [ec]
    exact fin (j + 8) true v8 (by omega) (Q7.st G8 (by omega))
  · rw [if_pos (b01_dn c), if_neg c]
    have ec : b01 (decide (kdT T N (j + 7) = 200 + 3)) = b01 false := by rw [decide_eq_false (show ¬ kdT T N (j + 7) = 200 + 3 from c)]
    rw [ec]
    exact fin (j + 7) false v7 (by omega) Q7
end NT3
/-- a code: its end, its signs -/
theorem s_code_ok {T : Nat → Nat} {n : Nat} : ∀ (m p : Nat), p ≤ n → n - p < m → (s_code T n m p).2 = none → p < (s_code T n m p).1 ∧ ∀ k, p ≤ k → k + 1 < (s_code T n m p).1 → (T k = 48 ∨ T k = 49 ∨ T k = 46 ∨ (isL (T k) = true ∧ ¬ T k = 95)) := by
  intro m
  induction m with
  | zero => intro p h1 h2; omega
  | succ m ih =>
    intro p h1 h2 h3
    unfold s_code at h3 ⊢
    by_cases a : n ≤ p
    · rw [if_pos a] at h3; cases h3
    rw [if_neg a] at h3 ⊢
    by_cases b : T p = 34
    · rw [if_pos b]
      exact ⟨Nat.lt_succ_self p, fun k k1 k2 => by have : k + 1 < p + 1 := k2; omega⟩
    rw [if_neg b] at h3 ⊢
    by_cases c : T p = 48 ∨ T p = 49 ∨ T p = 46 ∨ (isL (T p) = true ∧ ¬ T p = 95)
    · rw [if_pos c] at h3 ⊢
      have := ih (p + 1) (by omega) (by omega) h3
      refine ⟨by omega, fun k k1 k2 => ?_⟩
      by_cases e : k = p
      · rw [e]; exact c
      · exact this.2 k (by omega) k2
    · rw [if_neg c] at h3; cases h3
/-- a CODE token -/
theorem code_tok {T : Nat → Nat} {N : Nat} (hT : ∀ p, ¬ p < N → T p = 256) (hT2 : ∀ p, T p ≤ 256) {j : Nat} (hk : (tok T N j).1 = 3) (hb : (tok T N j).2.2.2 = none) : pos T N j + 2 ≤ bp T N (j + 1) ∧ ∀ k, pos T N j + 1 ≤ k → k + 1 < bp T N (j + 1) → (T k = 48 ∨ T k = 49 ∨ T k = 46 ∨ (isL (T k) = true ∧ ¬ T k = 95)) := by
  have hp : pos T N j ≤ N := (bp_bd hT hT2 j).2.1
  have hlt : ¬ T (pos T N j) = 256 → pos T N j < N := fun z => by
    by_cases q : pos T N j < N
    · exact q
    · exact absurd (hT _ q) z
  have e : bp T N (j + 1) = (tok T N j).2.1 := rfl
  rw [e]
  unfold tok s_tok at hk hb ⊢
  by_cases a : T (pos T N j) = 256
  · rw [if_pos a] at hk; exact absurd (show (0 : Int32) = 3 from hk) (by decide)
  rw [if_neg a] at hk hb ⊢
  by_cases b : isL (T (pos T N j)) = true
  · rw [if_pos b] at hk; exact absurd (show (1 : Int32) = 3 from hk) (by decide)
  rw [if_neg b] at hk hb ⊢
  by_cases c : isD (T (pos T N j)) = true
  · rw [if_pos c] at hk; exact absurd (show (2 : Int32) = 3 from hk) (by decide)
  rw [if_neg c] at hk hb ⊢
  by_cases d : T (pos T N j) = 34
  · rw [if_pos d] at hb ⊢
    have := hlt a
    have := s_code_ok (T := T) (n := N) (N + 1) (pos T N j + 1) (by omega) (by omega) hb
    exact ⟨by have := this.1; show _ ≤ (s_code T N (N + 1) (pos T N j + 1)).1; omega, this.2⟩
  exfalso
  rw [if_neg d] at hk
  have hpv : ∀ c d, pairv c d = 0 ∨ (256 ≤ pairv c d ∧ pairv c d ≤ 260) := by
    intro c d
    unfold pairv
    cases (Nat.beq c 61 && Nat.beq d 61) <;> cases (Nat.beq c 33 && Nat.beq d 61) <;> cases (Nat.beq c 60 && Nat.beq d 61) <;> cases (Nat.beq c 60 && Nat.beq d 60) <;> cases (Nat.beq c 62 && Nat.beq d 62) <;> decide
  by_cases f : ¬ pairv (T (pos T N j)) (T (pos T N j + 1)) = 0
  · rw [if_pos f] at hk
    rcases hpv (T (pos T N j)) (T (pos T N j + 1)) with w | w
    · exact absurd w f
    · have := (nIinj (b := 3) (by omega) (by omega)).mp hk
      omega
  rw [if_neg f] at hk
  by_cases g : T (pos T N j) = 62
  · rw [if_pos g] at hk; exact absurd (show (260 : Int32) = 3 from hk) (by decide)
  rw [if_neg g] at hk
  by_cases i : isS (T (pos T N j)) = true
  · rw [if_pos i] at hk
    have := isS_33 _ (by have := hT2 (pos T N j); omega) i
    have := (nIinj (b := 3) (by omega) (by omega)).mp hk
    omega
  · rw [if_neg i] at hk
    exact absurd (show (-1 : Int32) = 3 from hk) (by decide)
theorem nar_sb : ∀ c, c < 256 → vp_nar .byte (sb c) = sb c := by decide +kernel
theorem sb_low (c : Nat) (hc : c < 128) (x : Nat) (hx : x < 256) : sb x = nI c ↔ x = c := by
  constructor
  · intro e
    have := congrArg Int32.toInt e
    rw [sb_i hx, nIi (by omega)] at this
    split at this <;> omega
  · intro e
    rw [e]; unfold sb; rw [if_pos hc]
section CPY
variable {P N : Nat}
/-- the row of codes, len signs from first on copied to B -/
def CPq (P B len first : Nat) (g g' : mv_H) : Prop := (g'.1 = g.1) ∧ (g'.2.1 = g.2.1) ∧ (mv_r g' = mv_r g) ∧ (mv_b g' = mv_b g) ∧ (∀ o, ¬ o = P + 13 → mv_a g' o = mv_a g o) ∧ (∀ k, mv_a g' (P + 13) k = if B ≤ k ∧ k < B + len then mv_a g 71 (first + (k - B)) else mv_a g (P + 13) k)
theorem CPq.i {P B len first : Nat} {g g' : mv_H} (h99 : CPq P B len first g g') : g'.1 = g.1 := h99.1
theorem CPq.l {P B len first : Nat} {g g' : mv_H} (h99 : CPq P B len first g g') : g'.2.1 = g.2.1 := h99.2.1
theorem CPq.r {P B len first : Nat} {g g' : mv_H} (h99 : CPq P B len first g g') : mv_r g' = mv_r g := h99.2.2.1
theorem CPq.b {P B len first : Nat} {g g' : mv_H} (h99 : CPq P B len first g g') : mv_b g' = mv_b g := h99.2.2.2.1
theorem CPq.a {P B len first : Nat} {g g' : mv_H} (h99 : CPq P B len first g g') : ∀ o, ¬ o = P + 13 → mv_a g' o = mv_a g o := h99.2.2.2.2.1
theorem CPq.c {P B len first : Nat} {g g' : mv_H} (h99 : CPq P B len first g g') : ∀ k, mv_a g' (P + 13) k = if B ≤ k ∧ k < B + len then mv_a g 71 (first + (k - B)) else mv_a g (P + 13) k := h99.2.2.2.2.2
theorem cp154 {first cb E : Nat} (hP : 74 ≤ P) (hE : E ≤ 32768) (hfE : first ≤ E) (hcb : cb + (E - first) ≤ 32768) (x1 x2 x3 x5 x7 : Int32) (j : Nat) (v : Int64) : ∀ (m nn x8 : Nat) (g : mv_H), first ≤ x8 → x8 + m = E → m < nn → byt7 g → mv_i g P 51 = nI cb →
    ∃ g', f_Book_operation_154 P nn x1 x2 x3 (nI first) x5 (nI E) x7 (nI x8) (rB P N g j v) = (xk (mv_si (rB P N g' j v) P 30 (nI (cb + (E - first)))) fun g13 => if nI (E - first) = (mv_i g13 P 20) then (f_Book_operation_221 P x1 x2 x5 x7 g13) else (xhv (f_Book_fault P g13 (5 : Int32) x3) fun g14 => f_Book_operation_221 P x1 x2 x5 x7 g14)) ∧ CPq P (cb + (x8 - first)) (E - x8) x8 g g' := by
  intro m
  induction m with
  | zero =>
    intro nn x8 g h1 h2 h3 h4 h5
    obtain ⟨nn, rfl⟩ : ∃ q, nn = q + 1 := ⟨nn - 1, by omega⟩
    refine ⟨g, ?_, ⟨rfl, rfl, rfl, rfl, fun _ _ => rfl, fun k => by rw [if_neg (by omega)]⟩⟩
    show fF_Book_operation_154 P (f_Book_operation_154 P nn) x1 x2 x3 (nI first) x5 (nI E) x7 (nI x8) (rB P N g j v) = _
    unfold fF_Book_operation_154
    have e51 : mv_i (rB P N g j v) P 51 = nI cb := (rB_o _ _ (by omega)).trans h5
    rw [if_pos ((nIle (by omega) (by omega)).mpr (by omega)), e51, nIadd (by omega), nIsub (by omega) (by omega), nIsub hfE (by omega), show cb + E - first = cb + (E - first) by omega]
  | succ m ih =>
    intro nn x8 g h1 h2 h3 h4 h5
    obtain ⟨nn, rfl⟩ : ∃ q, nn = q + 1 := ⟨nn - 1, by omega⟩
    have e51 : mv_i (rB P N g j v) P 51 = nI cb := (rB_o _ _ (by omega)).trans h5
    have e71 : vp_nar .byte (mv_a (rB P N g j v) 71 x8) = mv_a g 71 x8 := by
      show vp_nar .byte (mv_a g 71 x8) = _
      rw [h4 x8 (by omega)]
      refine nar_sb _ ?_
      have := ck_256 (h := g) (n := x8 + 1) (p := x8) (by omega)
      unfold ck at this
      rw [if_pos (by omega)] at this
      exact this
    obtain ⟨g', e, C⟩ := ih nn (x8 + 1) (mv_sa g (P + 13) (cb + (x8 - first)) (mv_a g 71 x8)) (by omega) (by omega) (by omega) (byt7_row (funext fun k => mv_u_ne (mv_a g) _ (by omega)) h4) h5
    refine ⟨g', ?_, ⟨C.i, C.l, C.r, C.b, fun o ho => (C.a o ho).trans (funext fun k => mv_u_ne (mv_a g) _ (by omega)), fun k => ?_⟩⟩
    · rw [← e]
      show fF_Book_operation_154 P (f_Book_operation_154 P nn) x1 x2 x3 (nI first) x5 (nI E) x7 (nI x8) (rB P N g j v) = _
      unfold fF_Book_operation_154
      rw [if_neg (fun z => by have := (nIle (by omega) (by omega)).mp z; omega), e51, nIadd (by omega), nIsub (by omega) (by omega), xvi_n (by omega) (by decide), xvi_n (by omega) (by decide), cond_true, cond_true, cln (by omega), cln (by omega), e71, xk_s, nI1 (by omega), rB_sa (by omega), show cb + x8 - first = cb + (x8 - first) by omega]
    · rw [C.c k]
      have r71 : mv_a (mv_sa g (P + 13) (cb + (x8 - first)) (mv_a g 71 x8)) 71 = mv_a g 71 := funext fun k => mv_u_ne (mv_a g) _ (by omega)
      rw [r71]
      by_cases d : k = cb + (x8 - first)
      · rw [if_neg (by omega), if_pos (by omega), d]
        have : mv_a (mv_sa g (P + 13) (cb + (x8 - first)) (mv_a g 71 x8)) (P + 13) (cb + (x8 - first)) = mv_a g 71 x8 := mv_u_same (mv_a g) (P + 13) _ _
        rw [this, show x8 + (cb + (x8 - first) - (cb + (x8 - first))) = x8 by omega]
      · have n13 : mv_a (mv_sa g (P + 13) (cb + (x8 - first)) (mv_a g 71 x8)) (P + 13) k = mv_a g (P + 13) k := mv_u_ne (mv_a g) _ (fun w => d w.2)
        rw [n13]
        by_cases z : cb + (x8 + 1 - first) ≤ k ∧ k < cb + (x8 + 1 - first) + (E - (x8 + 1))
        · rw [if_pos z, if_pos (by omega), show x8 + 1 + (k - (cb + (x8 + 1 - first))) = x8 + (k - (cb + (x8 - first))) by omega]
        · rw [if_neg z, if_neg (by omega)]
end CPY
/-- letters of a code counted, by rows and by lists -/
theorem cnt_q {A : Nat → Int32} {T : Nat → Nat} {c : Nat} (hc : c < 128) : ∀ (m i q x : Nat), (∀ k, k < m → A (i + k) = sb (T (q + k)) ∧ T (q + k) < 256) → cntm A (nI c) m i x = x + cntL c (tn T q m) := by
  intro m
  induction m with
  | zero => intro i q x _; rfl
  | succ m ih =>
    intro i q x hA
    have et : tn T q (m + 1) = T q :: tn T (q + 1) m := by
      unfold tn
      rw [List.range_succ_eq_map, List.map_cons, List.map_map]
      have : (List.map ((fun j => T (q + j)) ∘ Nat.succ) (List.range m)) = List.map (fun j => T (q + 1 + j)) (List.range m) := List.map_congr_left fun k _ => by
        show T (q + (k + 1)) = T (q + 1 + k)
        rw [show q + (k + 1) = q + 1 + k by omega]
      rw [this]; rfl
    have h0 := hA 0 (by omega)
    have hi := ih (i + 1) (q + 1) (x + 1) (fun k hk => by have := hA (k + 1) (by omega); rw [show i + 1 + k = i + (k + 1) by omega, show q + 1 + k = q + (k + 1) by omega]; exact this)
    have hi' := ih (i + 1) (q + 1) x (fun k hk => by have := hA (k + 1) (by omega); rw [show i + 1 + k = i + (k + 1) by omega, show q + 1 + k = q + (k + 1) by omega]; exact this)
    rw [et]
    unfold cntL at hi hi' ⊢
    show (if A i = nI c then cntm A (nI c) m (i + 1) (x + 1) else cntm A (nI c) m (i + 1) x) = _
    rw [show A i = sb (T q) from h0.1]
    have hs := sb_low c hc (T q) h0.2
    by_cases d : T q = c
    · rw [if_pos (hs.mpr d), hi, List.countP_cons_of_pos (by rw [d]; exact Nat.beq_refl c)]
      omega
    · rw [if_neg (fun z => d (hs.mp z)), hi', List.countP_cons_of_neg (by rw [nbq d]; decide)]
def opH (P o q e : Nat) (u : Int32) (h : mv_H) : mv_H := mv_sa (mv_sa (mv_sa h (P + 11) o u) (P + 8) o (nI q)) (P + 9) o (nI e)
theorem getD_app {α : Type} (l : List α) (x d : α) (i : Nat) : (i < l.length → (l ++ [x]).getD i d = l.getD i d) ∧ (i = l.length → (l ++ [x]).getD i d = x) := by
  constructor
  · intro h
    rw [List.getD_eq_getElem?_getD, List.getElem?_append_left h, ← List.getD_eq_getElem?_getD]
  · intro h
    rw [List.getD_eq_getElem?_getD, h, List.getElem?_append_right (Nat.le_refl _), Nat.sub_self]
    rfl
section OPS
variable {P N : Nat} {T : Nat → Nat} {s : SI} {b : Bool} {h : mv_H} {m j : Nat}
theorem opH_a (o q e : Nat) (u : Int32) (r k : Nat) : mv_a (opH P o q e u h) r k = if r = P + 9 ∧ k = o then nI e else if r = P + 8 ∧ k = o then nI q else if r = P + 11 ∧ k = o then u else mv_a h r k := rfl
/-- an op that was known, or its rows alone -/
theorem opH_0 (Q : IQq P N T s b h m j) (q e : Nat) (u : Int32) : IQq P N T s b (opH P (mv_i h P 29).toNatClampNeg q e u h) m j := by
  have hP := Q.hb.p
  have ea : ∀ r, ¬ (r = P + 8 ∨ r = P + 9 ∨ r = P + 11) → mv_a (opH P (mv_i h P 29).toNatClampNeg q e u h) r = mv_a h r := fun r hr => by
    funext k
    rw [opH_a, if_neg (by omega), if_neg (by omega), if_neg (by omega)]
  have el : ∀ r k, k < (mv_i h P 29).toNatClampNeg → mv_a (opH P (mv_i h P 29).toNatClampNeg q e u h) r k = mv_a h r k := fun r k hk => by rw [opH_a, if_neg (by omega), if_neg (by omega), if_neg (by omega)]
  have ei : mv_i (opH P (mv_i h P 29).toNatClampNeg q e u h) = mv_i h := rfl
  have ec : ck (opH P (mv_i h P 29).toNatClampNeg q e u h) N = ck h N := by
    funext p
    unfold ck
    rw [ea 71 (by omega)]
  exact ⟨
    ⟨Q.hb.n, Q.hb.n2, by rw [ec]; exact Q.hb.t, Q.hb.dp, Q.hb.d2, hP⟩,
    Q.n10,
    byt7_row (ea 71 (by omega)) Q.b7,
    Q.fa,
    Q.nd,
    fun i hi => by rw [ea (P + 23) (by omega)]; exact Q.wd i hi,
    Q.mj,
    Q.gk,
    Q.bt,
    by rw [ei, ea (P + 1) (by omega), ea (P + 2) (by omega), ea (P + 3) (by omega), ea (P + 6) (by omega)]; exact Q.tr,
    by rw [ei, ea 71 (by omega), ea (P + 1) (by omega), ea (P + 2) (by omega), ea (P + 3) (by omega), ea (P + 6) (by omega)]; exact Q.tv,
    Q.tc,
    by rw [ea (P + 3) (by omega), ea (P + 4) (by omega), ea (P + 6) (by omega)]; exact Q.tt,
    Q.ce,
    Q.fe,
    Q.lp,
    Q.o0,
    Q.o5,
    Q.c0,
    Q.c1,
    (fun i hi => by rw [el _ i hi, el _ i hi]; exact Q.op.n i hi),
    fun w => by
      have V := Q.ov w
      exact ⟨V.l, fun i hi => by rw [el _ i hi, el _ i hi]; exact V.n i hi, fun i hi => by rw [el _ i hi, ea (P + 13) (by omega)]; exact V.c i hi⟩⟩
/-- an op more -/
theorem opH_1 (Q : IQq P N T s b h m j) {q e cb' : Nat} (u : Int32) (hq : q ≤ e) (he : e ≤ N) (h4 : 4 * ((mv_i h P 29).toNatClampNeg + 1) ≤ j) (hc : cb' ≤ bp T N j) (hcc : (mv_i h P 51).toNatClampNeg ≤ cb') {nm C : List Nat} (hg : b = true → nm = tn T q (e - q) ∧ C.length = s.bits ∧ mv_a h (P + 10) (mv_i h P 29).toNatClampNeg = nI (mv_a h (P + 10) (mv_i h P 29).toNatClampNeg).toNatClampNeg ∧ (mv_a h (P + 10) (mv_i h P 29).toNatClampNeg).toNatClampNeg + s.bits ≤ cb' ∧ ∀ k, k < s.bits → mv_a h (P + 13) ((mv_a h (P + 10) (mv_i h P 29).toNatClampNeg).toNatClampNeg + k) = sb (C.getD k 0) ∧ C.getD k 0 < 256) : IQq P N T (SI.mk (s.bits) (s.lk) (s.tl) (s.cells) (s.fe) (s.ops ++ [(nm, C)])) b (mv_si (mv_si (opH P (mv_i h P 29).toNatClampNeg q e u h) P 51 (nI cb')) P 29 (nI ((mv_i h P 29).toNatClampNeg + 1))) m j := by
  have Q0 := opH_0 Q q e u
  have hP := Q.hb.p
  have hn := Q.n10
  have hjN := Q.hb.gkn Q.gk
  have hbN := (bp_bd Q.hb.te.1 Q.hb.te.2 j).1
  generalize ho : (mv_i h P 29).toNatClampNeg = o at *
  have el : ∀ r k, ¬ k = o → mv_a (opH P o q e u h) r k = mv_a h r k := fun r k hk => by rw [opH_a, if_neg (by omega), if_neg (by omega), if_neg (by omega)]
  have ei : ∀ c, ¬ c = 51 → ¬ c = 29 → mv_i (mv_si (mv_si (opH P o q e u h) P 51 (nI cb')) P 29 (nI (o + 1))) P c = mv_i h P c := fun c h1 h2 => (mv_u_ne (mv_i (mv_si (opH P o q e u h) P 51 (nI cb'))) _ (by omega)).trans (mv_u_ne (mv_i (opH P o q e u h)) _ (by omega))
  have e29 : mv_i (mv_si (mv_si (opH P o q e u h) P 51 (nI cb')) P 29 (nI (o + 1))) P 29 = nI (o + 1) := mv_u_same (mv_i (mv_si (opH P o q e u h) P 51 (nI cb'))) P 29 _
  have e51 : mv_i (mv_si (mv_si (opH P o q e u h) P 51 (nI cb')) P 29 (nI (o + 1))) P 51 = nI cb' := (mv_u_ne (mv_i (mv_si (opH P o q e u h) P 51 (nI cb'))) _ (by omega)).trans (mv_u_same (mv_i (opH P o q e u h)) P 51 _)
  have ea : ∀ r, mv_a (mv_si (mv_si (opH P o q e u h) P 51 (nI cb')) P 29 (nI (o + 1))) r = mv_a (opH P o q e u h) r := fun _ => rfl
  have r8 : mv_a (opH P o q e u h) (P + 8) o = nI q := by rw [opH_a, if_neg (by omega), if_pos ⟨rfl, rfl⟩]
  have r9 : mv_a (opH P o q e u h) (P + 9) o = nI e := by rw [opH_a, if_pos ⟨rfl, rfl⟩]
  have r10 : mv_a (opH P o q e u h) (P + 10) = mv_a h (P + 10) := by funext k; rw [opH_a, if_neg (by omega), if_neg (by omega), if_neg (by omega)]
  have r13 : mv_a (opH P o q e u h) (P + 13) = mv_a h (P + 13) := by funext k; rw [opH_a, if_neg (by omega), if_neg (by omega), if_neg (by omega)]
  have ec : ck (mv_si (mv_si (opH P o q e u h) P 51 (nI cb')) P 29 (nI (o + 1))) N = ck (opH P o q e u h) N := rfl
  exact ⟨
    ⟨by rw [ei 2 (by omega) (by omega)]; exact Q.hb.n, Q.hb.n2, by rw [ec]; exact Q0.hb.t, by rw [ei 8 (by omega) (by omega)]; exact Q.hb.dp, Q.hb.d2, hP⟩,
    Q.n10,
    Q0.b7,
    by rw [ei 38 (by omega) (by omega)]; exact Q.fa,
    by rw [ei 48 (by omega) (by omega)]; exact Q.nd,
    Q0.wd,
    Q.mj,
    Q.gk,
    by rw [ei 20 (by omega) (by omega)]; exact Q.bt,
    by rw [ei 17 (by omega) (by omega)]; exact Q0.tr,
    by rw [ei 17 (by omega) (by omega)]; exact Q0.tv,
    by rw [ei 17 (by omega) (by omega)]; exact Q.tc,
    Q0.tt,
    by rw [ei 19 (by omega) (by omega)]; exact Q.ce,
    by rw [ei 22 (by omega) (by omega)]; exact Q.fe,
    Q.lp,
    by rw [e29, cln (by omega)],
    by rw [e29, cln (by omega)]; omega,
    by rw [e51, cln (by omega)],
    by rw [e51, cln (by omega)]; exact hc,
    (fun i hi => by
      rw [e29, cln (by omega)] at hi
      rw [ea, ea]
      by_cases d : i = o
      · rw [d, r8, r9, cln (by omega), cln (by omega)]; exact ⟨rfl, rfl, hq, he⟩
      · rw [el _ i d, el _ i d]; exact Q.op.n i (by rw [ho]; omega)),
    fun w => by
      obtain ⟨g1, g2, g3, g4, g5⟩ := hg w
      have V := Q.ov w
      rw [ho] at V
      have hl := V.l
      rw [e29, e51, cln (by omega), cln (by omega)]
      refine ⟨?_, fun i hi => ?_, fun i hi => ?_⟩
      · show (s.ops ++ [(nm, C)]).length = o + 1
        rw [List.length_append, hl]; rfl
      · rw [ea, ea]
        show ((s.ops ++ [(nm, C)]).getD i ([], [])).1 = _
        by_cases d : i = o
        · rw [(getD_app s.ops (nm, C) ([], []) i).2 (by omega), d, r8, r9, cln (by omega), cln (by omega)]
          exact g1
        · rw [(getD_app s.ops (nm, C) ([], []) i).1 (by omega), el _ i d, el _ i d]
          exact V.n i (by omega)
      · rw [ea, ea, r10, r13]
        show ((s.ops ++ [(nm, C)]).getD i ([], [])).2.length = s.bits ∧ _ ∧ _ ∧ ∀ k, k < s.bits → _ = sb (((s.ops ++ [(nm, C)]).getD i ([], [])).2.getD k 0) ∧ ((s.ops ++ [(nm, C)]).getD i ([], [])).2.getD k 0 < 256
        by_cases d : i = o
        · rw [(getD_app s.ops (nm, C) ([], []) i).2 (by omega), d]
          exact ⟨g2, g3, g4, g5⟩
        · rw [(getD_app s.ops (nm, C) ([], []) i).1 (by omega)]
          have := V.c i (by omega)
          exact ⟨this.1, this.2.1, Nat.le_trans this.2.2.1 hcc, this.2.2.2⟩⟩
end OPS
section OP2
variable {P N : Nat} {T : Nat → Nat} {s : SI} {b : Bool} {h : mv_H} {m j : Nat}
theorem tn_1 {T : Nat → Nat} {q l : Nat} : (l = 1 → tn T q l = [T q]) ∧ (¬ l = 1 → ∀ c, ¬ tn T q l = [c]) := by
  constructor
  · intro e; rw [e]; rfl
  · intro e c z
    have := congrArg List.length z
    rw [tn_len] at this
    exact e this
theorem isl_lt : ∀ c, c < 257 → isl c = true → c < 128 := by decide +kernel
theorem lkO_P {lk : LK} (h : lkP lk) {C : List Nat} (hC : C.length ≤ 40000) : lkP (lkO lk C) := fun x hx => by
  unfold lkO at hx ⊢
  have hcl : ∀ c, cntL c C ≤ 40000 := fun c => Nat.le_trans List.countP_le_length hC
  match x with
  | [] => exact h [] hx
  | [c] =>
    by_cases d : isl c = true ∧ 0 < cntL c C
    · simp only [if_pos d]; exact ⟨d.2, hcl c⟩
    · simp only [if_neg d] at hx ⊢; exact h [c] hx
  | a :: b :: l => exact h _ hx
/-- before the block of an op: the state of its statements -/
theorem opB_S (Q : IQq P N T s b h m j) {cb len first : Nat} (h30 : mv_i h P 30 = nI (cb + len)) (hc : cb + len ≤ 32768) (h10 : mv_a h (P + 10) (mv_i h P 29).toNatClampNeg = nI cb) (h13 : ∀ k, k < len → mv_a h (P + 13) (cb + k) = sb (T (first + k)) ∧ T (first + k) < 256) : SQq P N T (lkO s.lk (tn T first len)) 0 b 0 (mv_si (mv_si h P 35 0) P 36 0) m j := by
  have hP := Q.hb.p
  have ei : ∀ c, ¬ c = 35 → ¬ c = 36 → mv_i (mv_si (mv_si h P 35 0) P 36 0) P c = mv_i h P c := fun c h1 h2 => (mv_u_ne (mv_i (mv_si h P 35 0)) _ (by omega)).trans (mv_u_ne (mv_i h) _ (by omega))
  have e35 : mv_i (mv_si (mv_si h P 35 0) P 36 0) P 35 = 0 := (mv_u_ne (mv_i (mv_si h P 35 0)) _ (by omega)).trans (mv_u_same (mv_i h) P 35 _)
  have e36 : mv_i (mv_si (mv_si h P 35 0) P 36 0) P 36 = 0 := mv_u_same (mv_i (mv_si h P 35 0)) P 36 _
  have z0 : (0 : Int32).toNatClampNeg = 0 := rfl
  have hjN := Q.hb.gkn Q.gk
  have hn := Q.n10
  have o5 := Q.o5
  have R := Q.tr
  exact ⟨
    ⟨
      ⟨by rw [ei 2 (by omega) (by omega)]; exact Q.hb.n, Q.hb.n2, Q.hb.t, by rw [ei 8 (by omega) (by omega)]; exact Q.hb.dp, Q.hb.d2, hP⟩,
      by rw [ei 38 (by omega) (by omega)]; exact Q.fa,
      by rw [ei 48 (by omega) (by omega)]; exact Q.nd,
      by
        unfold ROq
        rw [e35, ei 17 (by omega) (by omega), ei 30 (by omega) (by omega), ei 29 (by omega) (by omega)]
        exact ⟨rfl, by rw [z0]; omega, fun i hi => by rw [z0] at hi; omega, fun i hi => by rw [z0] at hi; omega, R.t0, R.t1, R.t2, R.t3, by rw [h30, cln (by omega)], by rw [h30, cln (by omega)]; exact hc, Q.o0, by omega, by
          show mv_a h (P + 10) (mv_i h P 29).toNatClampNeg = nI (mv_a h (P + 10) (mv_i h P 29).toNatClampNeg).toNatClampNeg
          rw [h10, cln (by omega)], by
          show (mv_a h (P + 10) (mv_i h P 29).toNatClampNeg).toNatClampNeg ≤ (mv_i h P 30).toNatClampNeg
          rw [h10, h30, cln (by omega), cln (by omega)]; omega⟩,
      fun w q e h1 h2 => by
        have old := Q.tv w q e h1 h2
        have ect : ctz (ck h N) (mv_i h P 30) (mv_i h P 29) (mv_a h (P + 10)) (mv_a h (P + 13)) q = cntm (mv_a h (P + 13)) (chr (ck h N q)) len cb 0 := by
          unfold ctz
          rw [h10, h30, cln (by omega), cln (by omega), show cb + len - cb = len by omega]
        have hcnt : isl (T q) = true → ctz (ck h N) (mv_i h P 30) (mv_i h P 29) (mv_a h (P + 10)) (mv_a h (P + 13)) q = cntL (T q) (tn T first len) := fun hi => by
          have hl := isl_lt (T q) (Q.hb.lt q) hi
          rw [ect, Q.hb.t]
          unfold chr
          rw [if_pos (by omega), cnt_q hl len cb first 0 h13, Nat.zero_add]
        have ez : lkQ P N (mv_si (mv_si h P 35 0) P 36 0) q e = lkZ (mv_a h 71) (ck h N) 0 (mv_i h P 17) (mv_i h P 30) (mv_i h P 29) (mv_a h (P + 14)) (mv_a h (P + 15)) (mv_a h (P + 16)) (mv_a h (P + 1)) (mv_a h (P + 2)) (mv_a h (P + 3)) (mv_a h (P + 10)) (mv_a h (P + 13)) (mv_a h (P + 6)) q e := by
          unfold lkQ
          rw [e35, ei 17 (by omega) (by omega), ei 30 (by omega) (by omega), ei 29 (by omega) (by omega)]
          rfl
        rw [ez]
        have e0 : fsz (mv_a h 71) (0 : Int32).toNatClampNeg (mv_a h (P + 14)) (mv_a h (P + 15)) q e = none := rfl
        unfold lkZ
        rw [e0]
        show (if e - q = 1 ∧ isl (ck h N q) = true ∧ 0 < ctz (ck h N) (mv_i h P 30) (mv_i h P 29) (mv_a h (P + 10)) (mv_a h (P + 13)) q then (3, ctz (ck h N) (mv_i h P 30) (mv_i h P 29) (mv_a h (P + 10)) (mv_a h (P + 13)) q) else tkZ (mv_a h 71) (mv_i h P 17) (mv_a h (P + 1)) (mv_a h (P + 2)) (mv_a h (P + 3)) (mv_a h (P + 6)) q e) = _
        have et : ck h N q = T q := by rw [Q.hb.t]
        rw [old]
        by_cases c1 : e - q = 1
        · rw [tn_1.1 c1] at *
          show _ = if isl (T q) = true ∧ 0 < cntL (T q) (tn T first len) then (3, cntL (T q) (tn T first len)) else s.lk [T q]
          by_cases c2 : isl (T q) = true
          · rw [hcnt c2, et]
            by_cases c3 : 0 < cntL (T q) (tn T first len)
            · rw [if_pos ⟨c1, c2, c3⟩, if_pos ⟨c2, c3⟩]
            · rw [if_neg (fun z => c3 z.2.2), if_neg (fun z => c3 z.2)]
          · rw [et, if_neg (fun z => c2 z.2.1), if_neg (fun z => c2 z.1)]
        · rw [if_neg (fun z => c1 z.1)]
          have hne := (tn_1 (T := T) (q := q) (l := e - q)).2 c1
          unfold lkO
          split
          · rename_i c hcc
            exact absurd hcc (hne c)
          · rfl,
      lkO_P Q.lp (by rw [tn_len]; omega),
      Q.wd⟩,
    Q.n10,
    Q.b7,
    ⟨0, e36, by omega, fun _ => rfl⟩,
    by rw [e35, z0]; omega,
    Q.gk,
    Q.mj,
    by rw [ei 17 (by omega) (by omega)]; exact Q.tr.f6⟩
end OP2
section OP3
variable {P N : Nat} {T : Nat → Nat} {s : SI} {b : Bool} {h : mv_H} {m j : Nat}
theorem op221 (Q : IQq P N T s b h m j) {len first q e : Nat} {nm : List Nat} (hq : q ≤ e) (he : e ≤ N) (enm : nm = tn T q (e - q)) (h30 : mv_i h P 30 = nI ((mv_i h P 51).toNatClampNeg + len)) (hc : (mv_i h P 51).toNatClampNeg + len ≤ bp T N j) (h10 : mv_a h (P + 10) (mv_i h P 29).toNatClampNeg = nI (mv_i h P 51).toNatClampNeg) (h13 : ∀ k, k < len → mv_a h (P + 13) ((mv_i h P 51).toNatClampNeg + k) = sb (T (first + k)) ∧ T (first + k) < 256) (kn : Bool) (hkn : kn = true → b = false) (hlen : b = true → len = s.bits) (h4 : 4 * ((mv_i h P 29).toNatClampNeg + 1) ≤ j + 1) {j0 : Nat} (hj0 : j0 ≤ j) (v : Int64) :
    IOq P N T j0 (on b ((sS (txT T N) 200 0 (lkO s.lk (tn T first len)) 0 0 j).bind fun r => some (r.1, (SI.mk (s.bits) (s.lk) (s.tl) (s.cells) (s.fe) (s.ops ++ [(nm, tn T first len)]))))) (f_Book_operation_221 P (nI q) (nI e) (b01 kn) (nI (mv_i h P 29).toNatClampNeg) (rB P N h j v)) := by
  have hP := Q.hb.p
  have hbN := (bp_bd Q.hb.te.1 Q.hb.te.2 j).1
  have hn := Q.n10
  have o5 := Q.o5
  have hjN := Q.hb.gkn Q.gk
  have B := opB_S Q (first := first) h30 (by omega) h10 h13
  unfold f_Book_operation_221
  rw [rB_si (by omega), xk_s, rB_si (by omega), xk_s]
  rcases sSq P N T 200 0 _ 0 b 0 _ m j v (by unfold Fs; rw [if_pos rfl]; omega) (by omega) B (fun w => by omega) with ⟨g, e1, s1⟩ | ⟨b', j', lk', le', x, h', v', m', e1, s1, R1, hx⟩
  · rw [e1, xtb_n, on_bind, s1]; exact Or.inl ⟨g, rfl, rfl⟩
  rw [e1, xtb_s, on_bind, s1]
  simp only [on_s]
  have F0 : SFr P 0 h (mv_si (mv_si h P 35 0) P 36 0) := ⟨fun o k q => (mv_u_ne (mv_i (mv_si h P 35 0)) _ (by omega)).trans (mv_u_ne (mv_i h) _ (by omega)), rfl, rfl, fun _ _ => rfl, fun _ _ _ _ _ => rfl, fun _ _ => rfl⟩
  have F1 : SFr P 0 h h' := F0.trans R1.fr (Nat.zero_le _)
  have hbb : b' = true → b = true := fun w => on_mono s1 w
  have hj' := R1.jj
  have S1 := R1.sq
  have Q1 : IQq P N T s b' h' m' j' := Q.fr F1 (fun w => ⟨rfl, hbb w⟩) Q.lp S1.es.fa S1.es.nd S1.es.wd S1.mj S1.gk (by omega)
  have i29 : mv_i h' P 29 = mv_i h P 29 := F1.i P 29 (by omega)
  have i51 : mv_i h' P 51 = mv_i h P 51 := F1.i P 51 (by omega)
  have i30 : mv_i h' P 30 = mv_i h P 30 := F1.i P 30 (by omega)
  have a10 : mv_a h' (P + 10) = mv_a h (P + 10) := F1.a (P + 10) (by omega)
  have a13 : mv_a h' (P + 13) = mv_a h (P + 13) := F1.a (P + 13) (by omega)
  have hb2 := bp_mono Q.hb.te.1 Q.hb.te.2 (j' - j) j
  rw [show j + (j' - j) = j' by omega] at hb2
  have O0 := opH_0 Q1 q e x
  have O1 := opH_1 Q1 (cb' := (mv_i h P 51).toNatClampNeg + len) (nm := nm) (C := tn T first len) x hq he (by rw [i29]; omega) (by omega) (by rw [i51]; omega) (fun w => by
    have hl := hlen (hbb w)
    rw [i29, a10, a13, h10, cln (by omega), tn_len]
    refine ⟨enm, hl, rfl, by omega, fun k hk => ?_⟩
    rw [(h13 k (by omega)).1, tn_get T first len k (by omega)]
    exact ⟨rfl, (h13 k (by omega)).2⟩)
  rw [i29] at O0 O1
  generalize ho : (mv_i h P 29).toNatClampNeg = o at *
  rw [xvi_n (show o < 4100 by omega) (by decide), cln (by omega)]
  simp only [xk_s, cond_true]
  rw [rB_sa (by omega), rB_sa (by omega), rB_sa (by omega)]
  cases kn with
  | true =>
    rw [if_neg (show ¬ b01 true = 0 by decide)]
    have hbf := hkn rfl
    have hb'f : b' = false := Bool.eq_false_iff.mpr (fun w => by have := hbb w; rw [hbf] at this; cases this)
    refine Or.inr ⟨b', j', s, 0, _, v', m', rfl, ?_, O0, by omega⟩
    rw [hb'f]; rfl
  | false =>
    rw [if_pos (show b01 false = 0 from rfl)]
    have r30 : mv_i (rB P N (mv_sa (mv_sa (mv_sa h' (P + 11) o x) (P + 8) o (nI q)) (P + 9) o (nI e)) j' v') P 30 = nI ((mv_i h P 51).toNatClampNeg + len) := (rB_o _ _ (by omega)).trans (i30.trans h30)
    rw [r30, rB_si (by omega)]
    have r29 : mv_i (rB P N (mv_si (mv_sa (mv_sa (mv_sa h' (P + 11) o x) (P + 8) o (nI q)) (P + 9) o (nI e)) P 51 (nI ((mv_i h P 51).toNatClampNeg + len))) j' v') P 29 = nI o := by
      refine (rB_o _ _ (by omega)).trans ((mv_u_ne (mv_i (mv_sa (mv_sa (mv_sa h' (P + 11) o x) (P + 8) o (nI q)) (P + 9) o (nI e))) _ (by omega)).trans ?_)
      exact i29.trans (by rw [← ho]; exact Q.o0)
    rw [r29, nI1 (by omega), rB_si (by omega)]
    exact Or.inr ⟨b', j', _, 0, _, v', m', rfl, rfl, O1, by omega⟩
end OP3
theorem b01_or (x y : Bool) : b01 x ||| b01 y = b01 (x || y) := by cases x <;> cases y <;> decide
/-- one of m from i on -/
def anq (p : Nat → Bool) : Nat → Nat → Bool
  | 0, _ => false
  | m + 1, i => p i || anq p m (i + 1)
theorem anq_iff {p : Nat → Bool} : ∀ (m i : Nat), anq p m i = true ↔ ∃ k, i ≤ k ∧ k < i + m ∧ p k = true := by
  intro m
  induction m with
  | zero => intro i; exact ⟨fun w => (by cases w), fun ⟨k, h1, h2, _⟩ => by omega⟩
  | succ m ih =>
    intro i
    show (p i || anq p m (i + 1)) = true ↔ _
    rw [Bool.or_eq_true, ih]
    constructor
    · rintro (w | ⟨k, h1, h2, h3⟩)
      · exact ⟨i, Nat.le_refl _, by omega, w⟩
      · exact ⟨k, by omega, by omega, h3⟩
    · rintro ⟨k, h1, h2, h3⟩
      by_cases e : k = i
      · rw [e] at h3; exact Or.inl h3
      · exact Or.inr ⟨k, by omega, by omega, h3⟩
section OP4
variable {P N : Nat} {T : Nat → Nat} {s : SI} {b : Bool} {h : mv_H} {m j : Nat}
theorem lp37 (Q : IQq P N T s b h m j) {q e : Nat} (hq : q ≤ e) (he : e ≤ N) (x3 x4 : Int32) (v : Int64) : ∀ (k nn i : Nat) (kn : Bool), i + k = (mv_i h P 29).toNatClampNeg → k < nn →
    f_Book_operation_37 P nn (nI q) (nI e) x3 x4 (b01 kn) (nI i) (rB P N h j v) = (if b01 (kn || anq (fun i => decide (s7z (mv_a h 71) (mv_a h (P + 8) i).toNatClampNeg ((mv_a h (P + 9) i).toNatClampNeg - (mv_a h (P + 8) i).toNatClampNeg) = s7z (mv_a h 71) q (e - q))) k i) = (0 : Int32) then (if (mv_i (rB P N h j v) P 29) < (512 : Int32) then (f_Book_operation_108 P (nI q) (nI e) x3 x4 (b01 (kn || anq (fun i => decide (s7z (mv_a h 71) (mv_a h (P + 8) i).toNatClampNeg ((mv_a h (P + 9) i).toNatClampNeg - (mv_a h (P + 8) i).toNatClampNeg) = s7z (mv_a h 71) q (e - q))) k i)) (rB P N h j v)) else (xhv (f_Book_fault P (rB P N h j v) (6 : Int32) (nI q)) fun g25 => f_Book_operation_108 P (nI q) (nI e) x3 x4 (b01 (kn || anq (fun i => decide (s7z (mv_a h 71) (mv_a h (P + 8) i).toNatClampNeg ((mv_a h (P + 9) i).toNatClampNeg - (mv_a h (P + 8) i).toNatClampNeg) = s7z (mv_a h 71) q (e - q))) k i)) g25)) else (xhv (f_Book_fault P (rB P N h j v) (2 : Int32) (nI q)) fun g27 => f_Book_operation_108 P (nI q) (nI e) x3 x4 (b01 (kn || anq (fun i => decide (s7z (mv_a h 71) (mv_a h (P + 8) i).toNatClampNeg ((mv_a h (P + 9) i).toNatClampNeg - (mv_a h (P + 8) i).toNatClampNeg) = s7z (mv_a h 71) q (e - q))) k i)) g27)) := by
  have hn := Q.n10
  have o5 := Q.o5
  have hjN := Q.hb.gkn Q.gk
  have e29 : mv_i (rB P N h j v) P 29 = nI (mv_i h P 29).toNatClampNeg := (rB_o _ _ (by omega)).trans Q.o0
  intro k
  induction k with
  | zero =>
    intro nn i kn h1 h2
    obtain ⟨nn, rfl⟩ : ∃ q, nn = q + 1 := ⟨nn - 1, by omega⟩
    show fF_Book_operation_37 P (f_Book_operation_37 P nn) (nI q) (nI e) x3 x4 (b01 kn) (nI i) (rB P N h j v) = _
    unfold fF_Book_operation_37
    have ea : ∀ p, anq p 0 i = false := fun _ => rfl
    rw [ea, Bool.or_false, if_pos (show mv_i (rB P N h j v) P 29 ≤ nI i by rw [e29]; exact (nIle (by omega) (by omega)).mpr (by omega))]
  | succ k ih =>
    intro nn i kn h1 h2
    obtain ⟨nn, rfl⟩ : ∃ q, nn = q + 1 := ⟨nn - 1, by omega⟩
    have hr := Q.op.n i (by omega)
    have a8 : mv_a (rB P N h j v) (P + 8) i = nI (mv_a h (P + 8) i).toNatClampNeg := hr.1
    have a9 : mv_a (rB P N h j v) (P + 9) i = nI (mv_a h (P + 9) i).toNatClampNeg := hr.2.1
    have hs := same_n (P := P) (h := rB P N h j v) hr.2.2.1 (show (mv_a h (P + 9) i).toNatClampNeg ≤ 32768 by omega) hq (show e ≤ 32768 by omega)
    have ihh := ih nn (i + 1) (kn || decide (s7z (mv_a h 71) (mv_a h (P + 8) i).toNatClampNeg ((mv_a h (P + 9) i).toNatClampNeg - (mv_a h (P + 8) i).toNatClampNeg) = s7z (mv_a h 71) q (e - q))) (by omega) (by omega)
    have ea : ∀ p : Nat → Bool, anq p (k + 1) i = (p i || anq p k (i + 1)) := fun _ => rfl
    rw [ea, ← Bool.or_assoc]
    rw [← ihh]
    show fF_Book_operation_37 P (f_Book_operation_37 P nn) (nI q) (nI e) x3 x4 (b01 kn) (nI i) (rB P N h j v) = _
    unfold fF_Book_operation_37
    rw [if_neg (show ¬ mv_i (rB P N h j v) P 29 ≤ nI i by rw [e29]; exact fun z => by have := (nIle (by omega) (by omega)).mp z; omega), xvi_n (show i < 4100 by omega) (by decide), cond_true, cond_true, cln (by omega), a8, a9, hs, xhb_s, b01_or, nI1 (by omega)]
    rfl
/-- the rows of an op's code written; names of ops and older codes stay -/
theorem IQq.cd {h' : mv_H} (Q : IQq P N T s b h m j) (hi : ∀ c, ¬ c = 30 → mv_i h' P c = mv_i h P c) (ha : ∀ o, ¬ (o = P + 10 ∨ o = P + 12 ∨ o = P + 13) → mv_a h' o = mv_a h o) (h10 : ∀ i, i < (mv_i h P 29).toNatClampNeg → mv_a h' (P + 10) i = mv_a h (P + 10) i) (h13 : ∀ k, k < (mv_i h P 51).toNatClampNeg → mv_a h' (P + 13) k = mv_a h (P + 13) k) : IQq P N T s b h' m j := by
  have hP := Q.hb.p
  have ec : ck h' N = ck h N := by
    funext p
    unfold ck
    rw [ha 71 (by omega)]
  exact ⟨
    ⟨by rw [hi 2 (by omega)]; exact Q.hb.n, Q.hb.n2, by rw [ec]; exact Q.hb.t, by rw [hi 8 (by omega)]; exact Q.hb.dp, Q.hb.d2, hP⟩,
    Q.n10,
    byt7_row (ha 71 (by omega)) Q.b7,
    by rw [hi 38 (by omega)]; exact Q.fa,
    by rw [hi 48 (by omega)]; exact Q.nd,
    fun i hi' => by rw [ha (P + 23) (by omega)]; exact Q.wd i hi',
    Q.mj,
    Q.gk,
    by rw [hi 20 (by omega)]; exact Q.bt,
    by rw [hi 17 (by omega), ha (P + 1) (by omega), ha (P + 2) (by omega), ha (P + 3) (by omega), ha (P + 6) (by omega)]; exact Q.tr,
    by rw [hi 17 (by omega), ha 71 (by omega), ha (P + 1) (by omega), ha (P + 2) (by omega), ha (P + 3) (by omega), ha (P + 6) (by omega)]; exact Q.tv,
    by rw [hi 17 (by omega)]; exact Q.tc,
    by rw [ha (P + 3) (by omega), ha (P + 4) (by omega), ha (P + 6) (by omega)]; exact Q.tt,
    by rw [hi 19 (by omega)]; exact Q.ce,
    by rw [hi 22 (by omega)]; exact Q.fe,
    Q.lp,
    by rw [hi 29 (by omega)]; exact Q.o0,
    by rw [hi 29 (by omega)]; exact Q.o5,
    by rw [hi 51 (by omega)]; exact Q.c0,
    by rw [hi 51 (by omega)]; exact Q.c1,
    by rw [hi 29 (by omega), ha (P + 8) (by omega), ha (P + 9) (by omega)]; exact Q.op.n,
    fun w => by
      have V := Q.ov w
      rw [hi 29 (by omega), hi 51 (by omega), ha (P + 8) (by omega), ha (P + 9) (by omega)]
      refine ⟨V.l, V.n, fun i hi' => ?_⟩
      have := V.c i hi'
      rw [h10 i hi']
      refine ⟨this.1, this.2.1, this.2.2.1, fun k hk => ?_⟩
      rw [h13 _ (by omega)]
      exact this.2.2.2 k hk⟩
/-- the code and the block of an op; j the CODE's token -/
theorem op108 (Q : IQq P N T s b h m j) {q e : Nat} {nm : List Nat} (hq : q ≤ e) (he : e ≤ N) (enm : nm = tn T q (e - q)) (kn : Bool) (hkn : kn = true → b = false) (h4 : 4 * ((mv_i h P 29).toNatClampNeg + 1) ≤ j + 2) {j0 : Nat} (hj0 : j0 ≤ j) (x3 : Int32) (v : Int64) :
    IOq P N T j0 (on b ((ndq (txT T N) 0 j 5).bind fun _ => (gd (decide (((txT T N).nm j).length = s.bits))).bind fun _ => (sS (txT T N) 200 0 (lkO s.lk ((txT T N).nm j)) 0 0 (j + 1)).bind fun r => some (r.1, (SI.mk (s.bits) (s.lk) (s.tl) (s.cells) (s.fe) (s.ops ++ [(nm, (txT T N).nm j)]))))) (f_Book_operation_108 P (nI q) (nI e) x3 (nI (pos T N j + 1)) (b01 kn) (rB P N h j v)) := by
  have H := Q.hb
  have hP := H.p
  have hn := Q.n10
  have o5 := Q.o5
  have hjN := H.gkn Q.gk
  have hn2 := H.n2
  unfold f_Book_operation_108
  rw [H.k6]
  rcases ndS H Q.gk (c := 5) (k := 3) (by omega) (kd_code H.lt Q.gk.1) v with ⟨k3, p3, G3, s3, v3, e3⟩ | ⟨s3, g, e3⟩
  rotate_left
  · rw [e3, xtb_n, s3]; exact Or.inl ⟨g, rfl, on_none _⟩
  have ct := code_tok H.te.1 H.te.2 ((kd_code H.lt Q.gk.1).mpr k3) Q.gk.1
  have npq := H.npq Q.gk
  have enC : (txT T N).nm j = tn T (pos T N j + 1) (bp T N (j + 1) - pos T N j - 2) := by
    show (if (tok T N j).1 = 3 then _ else _) = _
    rw [if_pos ((kd_code H.lt Q.gk.1).mpr k3)]
  rw [e3, xtb_s, s3, Option.bind_some, enC, tn_len]
  have Q1 := Q.st G3 (Nat.le_succ j)
  have e29 : mv_i (rB P N h (j + 1) v3) P 29 = nI (mv_i h P 29).toNatClampNeg := (rB_o _ _ (by omega)).trans Q.o0
  have e51 : mv_i (rB P N h (j + 1) v3) P 51 = nI (mv_i h P 51).toNatClampNeg := (rB_o _ _ (by omega)).trans Q.c0
  have c1 := Q.c1
  have hbp := (bp_bd H.te.1 H.te.2 j).2.2
  rw [e29, e51]
  generalize ho : (mv_i h P 29).toNatClampNeg = o at *
  generalize hcb : (mv_i h P 51).toNatClampNeg = cb at *
  generalize hp : pos T N j = p at *
  generalize hE : bp T N (j + 1) = E1 at *
  have eE : nI E1 - 1 = nI (E1 - 1) := nIsub (a := E1) (b := 1) (by omega) (by omega)
  rw [eE, xvi_n (show o < 4100 by omega) (by decide), cond_true, cln (show o < 2147483648 by omega), nIsub (show p + 1 ≤ E1 - 1 by omega) (by omega), rB_sa (by omega), xk_s, cond_true, rB_sa (by omega), xk_s]
  have b71 : byt7 (mv_sa (mv_sa h (P + 10) o (nI cb)) (P + 12) o (nI (E1 - 1 - (p + 1)))) := byt7_row (funext fun k => (mv_u_ne (mv_a (mv_sa h (P + 10) o (nI cb))) _ (by omega)).trans (mv_u_ne (mv_a h) _ (by omega))) Q.b7
  obtain ⟨g', eg, C⟩ := cp154 (P := P) (N := N) (first := p + 1) (cb := cb) (E := E1 - 1) hP (by omega) (by omega) (by omega) (nI q) (nI e) x3 (b01 kn) (nI o) (j + 1) v3 (E1 - 1 - (p + 1)) 200000 (p + 1) (mv_sa (mv_sa h (P + 10) o (nI cb)) (P + 12) o (nI (E1 - 1 - (p + 1)))) (Nat.le_refl _) (by omega) (by omega) b71 (show mv_i h P 51 = nI cb by rw [← hcb]; exact Q.c0)
  rw [eg, show cb + (p + 1 - (p + 1)) = cb by omega] at *
  rw [rB_si (by omega), xk_s]
  -- the heap with the code
  generalize hh5 : mv_si g' P 30 (nI (cb + (E1 - 1 - (p + 1)))) = h5
  have i5 : ∀ c, ¬ c = 30 → mv_i h5 P c = mv_i h P c := fun c hc => by
    rw [← hh5]
    refine (mv_u_ne (mv_i g') _ (by omega)).trans ?_
    show g'.1 P c = _
    rw [C.i]; rfl
  have i30 : mv_i h5 P 30 = nI (cb + (E1 - 1 - (p + 1))) := by rw [← hh5]; exact mv_u_same (mv_i g') P 30 _
  have a5 : ∀ r, mv_a h5 r = mv_a g' r := fun r => by rw [← hh5]; rfl
  have aG : ∀ r, ¬ (r = P + 10 ∨ r = P + 12 ∨ r = P + 13) → mv_a h5 r = mv_a h r := fun r hr => by
    rw [a5, C.a r (by omega)]
    funext k
    exact (mv_u_ne (mv_a (mv_sa h (P + 10) o (nI cb))) _ (by omega)).trans (mv_u_ne (mv_a h) _ (by omega))
  have a10 : ∀ k, mv_a h5 (P + 10) k = if k = o then nI cb else mv_a h (P + 10) k := fun k => by
    rw [a5, C.a (P + 10) (by omega)]
    refine (mv_u_ne (mv_a (mv_sa h (P + 10) o (nI cb))) _ (by omega)).trans ?_
    show (if P + 10 = P + 10 ∧ k = o then nI cb else mv_a h (P + 10) k) = _
    by_cases z : k = o
    · rw [if_pos ⟨rfl, z⟩, if_pos z]
    · rw [if_neg (fun w => z w.2), if_neg z]
  have a13 : ∀ k, mv_a h5 (P + 13) k = if cb ≤ k ∧ k < cb + (E1 - 1 - (p + 1)) then mv_a h 71 (p + 1 + (k - cb)) else mv_a h (P + 13) k := fun k => by
    rw [a5, C.c k]
    have r71 : mv_a (mv_sa (mv_sa h (P + 10) o (nI cb)) (P + 12) o (nI (E1 - 1 - (p + 1)))) 71 = mv_a h 71 := funext fun k => (mv_u_ne (mv_a (mv_sa h (P + 10) o (nI cb))) _ (by omega)).trans (mv_u_ne (mv_a h) _ (by omega))
    have r13 : mv_a (mv_sa (mv_sa h (P + 10) o (nI cb)) (P + 12) o (nI (E1 - 1 - (p + 1)))) (P + 13) = mv_a h (P + 13) := funext fun k => (mv_u_ne (mv_a (mv_sa h (P + 10) o (nI cb))) _ (by omega)).trans (mv_u_ne (mv_a h) _ (by omega))
    rw [r71, r13]
  have Q5 : IQq P N T s b h5 m (j + 1) := Q1.cd i5 aG (fun i hi => by rw [a10, if_neg (by rw [ho] at hi; omega)]) (fun k hk => by rw [a13, if_neg (by rw [hcb] at hk; omega)])
  have len2 : E1 - 1 - (p + 1) = E1 - p - 2 := by omega
  rw [len2] at *
  obtain ⟨L, l1, l2, l3⟩ := Q5.bt
  have r20 : mv_i (rB P N h5 (j + 1) v3) P 20 = nI L := (rB_o _ _ (by omega)).trans l1
  rw [r20]
  have j29 : (mv_i h5 P 29).toNatClampNeg = o := by rw [i5 29 (by omega)]; exact ho
  have j51 : (mv_i h5 P 51).toNatClampNeg = cb := by rw [i5 51 (by omega)]; exact hcb
  -- the block, from a state that differs by a fault at most
  have go : ∀ (h6 : mv_H) (b6 : Bool), IQq P N T s b6 h6 m (j + 1) → XFr P m h5 h6 → (∀ r, mv_a h6 r = mv_a h5 r) → (b6 = true → b = true ∧ E1 - p - 2 = s.bits) → (on b ((gd (decide (E1 - p - 2 = s.bits))).bind fun _ => (sS (txT T N) 200 0 (lkO s.lk (tn T (p + 1) (E1 - p - 2))) 0 0 (j + 1)).bind fun r => some (r.1, (SI.mk (s.bits) (s.lk) (s.tl) (s.cells) (s.fe) (s.ops ++ [(nm, tn T (p + 1) (E1 - p - 2))])))) = on b6 ((sS (txT T N) 200 0 (lkO s.lk (tn T (p + 1) (E1 - p - 2))) 0 0 (j + 1)).bind fun r => some (r.1, (SI.mk (s.bits) (s.lk) (s.tl) (s.cells) (s.fe) (s.ops ++ [(nm, tn T (p + 1) (E1 - p - 2))]))))) → IOq P N T j0 (on b ((gd (decide (E1 - p - 2 = s.bits))).bind fun _ => (sS (txT T N) 200 0 (lkO s.lk (tn T (p + 1) (E1 - p - 2))) 0 0 (j + 1)).bind fun r => some (r.1, (SI.mk (s.bits) (s.lk) (s.tl) (s.cells) (s.fe) (s.ops ++ [(nm, tn T (p + 1) (E1 - p - 2))]))))) (f_Book_operation_221 P (nI q) (nI e) (b01 kn) (nI o) (rB P N h6 (j + 1) v3)) := fun h6 b6 Q6 X6 a6 hb6 hs => by
    rw [hs]
    have k29 : (mv_i h6 P 29).toNatClampNeg = o := by rw [X6.i P 29 (by omega)]; exact j29
    have k51 : (mv_i h6 P 51).toNatClampNeg = cb := by rw [X6.i P 51 (by omega)]; exact j51
    have := op221 Q6 (len := E1 - p - 2) (first := p + 1) (nm := nm) hq he enm (by rw [X6.i P 30 (by omega), i30, k51, show E1 - 1 - (p + 1) = E1 - p - 2 by omega]) (by rw [k51]; have : bp T N (j + 1) = E1 := hE; omega) (by rw [k29, k51, a6, a10, if_pos rfl]) (fun k hk => by
      rw [k51, a6, a13, if_pos (by omega), show p + 1 + (cb + k - cb) = p + 1 + k by omega]
      have hlt : p + 1 + k < N := by omega
      have := ck_b Q.b7 (n := N) hn2 hlt
      rw [H.t] at this
      refine ⟨this, ?_⟩
      have h256 := ck_256 (h := h) (n := N) hlt
      rw [H.t] at h256
      exact h256) kn (fun w => Bool.eq_false_iff.mpr (fun z => by have := (hb6 z).1; rw [hkn w] at this; cases this)) (fun w => (hb6 w).2) (by rw [k29]; omega) (show j0 ≤ j + 1 by omega) v3
    rw [k29] at this
    exact this
  by_cases c : E1 - p - 2 = L
  · rw [if_pos (by rw [c])]
    refine go h5 b Q5 (XFr.refl P m h5) (fun _ => rfl) (fun w => ⟨w, by rw [c]; exact l3 w⟩) ?_
    cases b with
    | false => rfl
    | true => rw [decide_eq_true (show E1 - p - 2 = s.bits by rw [c]; exact l3 rfl), gd_t rfl]
  · rw [if_neg (fun z => c ((nIinj (by omega) (by omega)).mp z))]
    obtain ⟨h6, e6, Q6, X6, a6⟩ := flt1 Q5 false (k := 5) (by decide) x3 v3
    rw [Bool.and_false] at Q6
    rw [show (xhv (f_Book_fault P (rB P N h5 (j + 1) v3) 5 x3) fun g14 => f_Book_operation_221 P (nI q) (nI e) (b01 kn) (nI o) g14) = f_Book_operation_221 P (nI q) (nI e) (b01 kn) (nI o) (rB P N h6 (j + 1) v3) from e6 (f_Book_operation_221 P (nI q) (nI e) (b01 kn) (nI o))]
    refine go h6 false Q6 X6 a6 (fun w => by cases w) ?_
    cases b with
    | false => rfl
    | true => rw [decide_eq_false (fun z => c (by rw [l3 rfl]; exact z)), gd_f rfl]; rfl
end OP4
section OP5
variable {P N : Nat} {T : Nat → Nat} {s : SI} {b : Bool} {h : mv_H} {m j : Nat}
theorem op_S (Q : IQq P N T s b h m j) (hk : kdT T N j = 206) (v : Int64) : IOq P N T j (on b (sOp (txT T N) s j)) (f_Book_operation P (rB P N h j v)) := by
  have H := Q.hb
  have hP := H.p
  have hn := Q.n10
  have hn2 := H.n2
  unfold f_Book_operation sOp
  rcases pS H Q.gk (by omega) (by omega) v with ⟨p1, G1, v1, e1⟩ | ⟨p1, g, e1⟩
  rotate_left
  · rw [e1, xtb_n, gd_f p1]; exact Or.inl ⟨g, rfl, on_none _⟩
  rw [e1, xtb_s, gd_t p1]
  rcases nam0 H G1 v1 with ⟨k2, G2, p2, s2, v2, e2⟩ | ⟨s2, g, e2⟩
  rotate_left
  · rw [e2, xtb_n, s2]; exact Or.inl ⟨g, rfl, on_none _⟩
  have Q2 : IQq P N T s b (nmK P N T h (j + 1)) m (j + 2) := ((Q.st G1 (by omega)).nmK (j + 1)).st G2 (by omega)
  have H2 := Q2.hb
  have npq := H.npq G1
  have hjN := H.gkn G2
  have o5 := Q.o5
  have e49 : mv_i (rB P N (nmK P N T h (j + 1)) (j + 2) v2) P 49 = nI (pos T N (j + 1)) := (rB_o _ _ (by omega)).trans (nmK_49 _)
  have e50 : mv_i (rB P N (nmK P N T h (j + 1)) (j + 2) v2) P 50 = nI (bp T N (j + 1 + 1)) := (rB_o _ _ (by omega)).trans (nmK_50 _)
  have hp2 := (bp_bd H.te.1 H.te.2 (j + 2)).2.1
  rw [e2, xtb_s, s2, Option.bind_some, show j + 1 + 1 = j + 2 from rfl, e49, e50, H2.k5, nI1 (by omega)]
  have o29 : (mv_i (nmK P N T h (j + 1)) P 29).toNatClampNeg = (mv_i h P 29).toNatClampNeg := by rw [nmK_i (by omega)]
  have lp := lp37 Q2 npq.1 npq.2 (nI (pos T N (j + 2))) (nI (pos T N (j + 2) + 1)) v2 (mv_i h P 29).toNatClampNeg 200000 0 false (by rw [o29]; omega) (by omega)
  rw [show (0 : Int32) = b01 false from rfl] at *
  rw [show nI 0 = b01 false from rfl] at lp
  rw [lp]
  have enm := H.nmt G1 k2
  have r29 : mv_i (rB P N (nmK P N T h (j + 1)) (j + 2) v2) P 29 = nI (mv_i h P 29).toNatClampNeg := (rB_o _ _ (by omega)).trans ((nmK_i (by omega) _).trans Q.o0)
  rw [r29, Bool.false_or]
  generalize hkn : anq (fun i => decide (s7z (mv_a (nmK P N T h (j + 1)) 71) (mv_a (nmK P N T h (j + 1)) (P + 8) i).toNatClampNeg ((mv_a (nmK P N T h (j + 1)) (P + 9) i).toNatClampNeg - (mv_a (nmK P N T h (j + 1)) (P + 8) i).toNatClampNeg) = s7z (mv_a (nmK P N T h (j + 1)) 71) (pos T N (j + 1)) (bp T N (j + 1 + 1) - pos T N (j + 1)))) (mv_i h P 29).toNatClampNeg 0 = kn
  have kiff : b = true → (kn = true ↔ (txT T N).nm (j + 1) ∈ s.ops.map Prod.fst) := fun w => by
    have V := Q.ov w
    rw [← hkn, anq_iff]
    have hsn : ∀ i, i < (mv_i h P 29).toNatClampNeg → (s7z (mv_a (nmK P N T h (j + 1)) 71) (mv_a (nmK P N T h (j + 1)) (P + 8) i).toNatClampNeg ((mv_a (nmK P N T h (j + 1)) (P + 9) i).toNatClampNeg - (mv_a (nmK P N T h (j + 1)) (P + 8) i).toNatClampNeg) = s7z (mv_a (nmK P N T h (j + 1)) 71) (pos T N (j + 1)) (bp T N (j + 1 + 1) - pos T N (j + 1)) ↔ (s.ops.getD i ([], [])).1 = (txT T N).nm (j + 1)) := fun i hi => by
      have hr := Q.op.n i hi
      have := s7_tn_iff (h := h) Q.b7 hn2 H.t (q0 := (mv_a h (P + 8) i).toNatClampNeg) (e0 := (mv_a h (P + 9) i).toNatClampNeg) hr.2.2.1 hr.2.2.2 npq.1 npq.2
      rw [enm, V.n i hi]
      exact ⟨fun z => (this.mp z).symm, fun z => this.mpr z.symm⟩
    constructor
    · rintro ⟨i, h1, h2, h3⟩
      have := (hsn i (by omega)).mp (of_decide_eq_true h3)
      rw [← this]
      refine List.mem_map.mpr ⟨s.ops.getD i ([], []), ?_, rfl⟩
      rw [List.getD_eq_getElem?_getD, List.getElem?_eq_getElem (by have := V.l; omega)]
      exact List.getElem_mem _
    · intro hm
      obtain ⟨x, hx, ex⟩ := List.mem_map.mp hm
      obtain ⟨i, hi, ei⟩ := List.getElem_of_mem hx
      have hi2 : i < (mv_i h P 29).toNatClampNeg := by rw [← V.l]; exact hi
      refine ⟨i, Nat.zero_le _, by omega, decide_eq_true ((hsn i hi2).mpr ?_)⟩
      rw [List.getD_eq_getElem?_getD, List.getElem?_eq_getElem hi, ei]
      exact ex
  -- the rest, from a state that differs by a fault at most
  have go : ∀ (h6 : mv_H) (b6 : Bool), IQq P N T s b6 h6 m (j + 2) → XFr P m (nmK P N T h (j + 1)) h6 → (b6 = true → b = true ∧ kn = false ∧ (mv_i h P 29).toNatClampNeg < 512) → (b = true → ¬ b6 = true → ¬ (kn = false ∧ (mv_i h P 29).toNatClampNeg < 512)) → IOq P N T j (on b ((ndq (txT T N) 0 (j + 2) 5).bind fun _ => (gd (decide (¬ (txT T N).nm (j + 1) ∈ s.ops.map Prod.fst ∧ s.ops.length < 512 ∧ ((txT T N).nm (j + 2)).length = s.bits))).bind fun _ => (sS (txT T N) 200 0 (lkO s.lk ((txT T N).nm (j + 2))) 0 0 (j + 3)).bind fun r => some (r.1, (SI.mk (s.bits) (s.lk) (s.tl) (s.cells) (s.fe) (s.ops ++ [((txT T N).nm (j + 1), (txT T N).nm (j + 2))]))))) (f_Book_operation_108 P (nI (pos T N (j + 1))) (nI (bp T N (j + 1 + 1))) (nI (pos T N (j + 2))) (nI (pos T N (j + 2) + 1)) (b01 kn) (rB P N h6 (j + 2) v2)) := fun h6 b6 Q6 X6 hb6 hn6 => by
    have z29 : (mv_i h6 P 29).toNatClampNeg = (mv_i h P 29).toNatClampNeg := by rw [X6.i P 29 (by omega), nmK_i (by omega)]
    have R := op108 Q6 (nm := (txT T N).nm (j + 1)) npq.1 npq.2 enm kn (fun w => Bool.eq_false_iff.mpr (fun z => by have := (hb6 z).2.1; rw [w] at this; cases this)) (by rw [z29]; omega) (show j ≤ j + 2 by omega) (nI (pos T N (j + 2))) v2
    have eS : on b ((ndq (txT T N) 0 (j + 2) 5).bind fun _ => (gd (decide (¬ (txT T N).nm (j + 1) ∈ s.ops.map Prod.fst ∧ s.ops.length < 512 ∧ ((txT T N).nm (j + 2)).length = s.bits))).bind fun _ => (sS (txT T N) 200 0 (lkO s.lk ((txT T N).nm (j + 2))) 0 0 (j + 3)).bind fun r => some (r.1, (SI.mk (s.bits) (s.lk) (s.tl) (s.cells) (s.fe) (s.ops ++ [((txT T N).nm (j + 1), (txT T N).nm (j + 2))])))) = on b6 ((ndq (txT T N) 0 (j + 2) 5).bind fun _ => (gd (decide (((txT T N).nm (j + 2)).length = s.bits))).bind fun _ => (sS (txT T N) 200 0 (lkO s.lk ((txT T N).nm (j + 2))) 0 0 (j + 2 + 1)).bind fun r => some (r.1, (SI.mk (s.bits) (s.lk) (s.tl) (s.cells) (s.fe) (s.ops ++ [((txT T N).nm (j + 1), (txT T N).nm (j + 2))])))) := by
      cases b6 with
      | true =>
        obtain ⟨w1, w2, w3⟩ := hb6 rfl
        have hk' := kiff w1
        have hl := (Q.ov w1).l
        have ed : decide (¬ (txT T N).nm (j + 1) ∈ s.ops.map Prod.fst ∧ s.ops.length < 512 ∧ ((txT T N).nm (j + 2)).length = s.bits) = decide (((txT T N).nm (j + 2)).length = s.bits) := by
          by_cases z : ((txT T N).nm (j + 2)).length = s.bits
          · rw [decide_eq_true z, decide_eq_true ⟨fun q => (by have := hk'.mpr q; rw [w2] at this; cases this), by omega, z⟩]
          · rw [decide_eq_false z, decide_eq_false (fun q => z q.2.2)]
        rw [w1, ed]
      | false =>
        cases b with
        | false => rfl
        | true =>
          have hk' := kiff rfl
          have hl := (Q.ov rfl).l
          have := hn6 rfl (by decide)
          rw [decide_eq_false (fun q => this ⟨Bool.eq_false_iff.mpr (fun z => q.1 (hk'.mp z)), by omega⟩)]
          cases ndq (txT T N) 0 (j + 2) 5 <;> rfl
    rw [eS]
    exact R
  cases hkc : kn with
  | true =>
    rw [if_neg (show ¬ b01 true = b01 false by decide)]
    obtain ⟨h6, e6, Q6, X6, a6⟩ := flt1 Q2 false (k := 2) (by decide) (nI (pos T N (j + 1))) v2
    rw [Bool.and_false] at Q6
    rw [show (xhv (f_Book_fault P (rB P N (nmK P N T h (j + 1)) (j + 2) v2) 2 (nI (pos T N (j + 1)))) fun g27 => f_Book_operation_108 P (nI (pos T N (j + 1))) (nI (bp T N (j + 1 + 1))) (nI (pos T N (j + 2))) (nI (pos T N (j + 2) + 1)) (b01 true) g27) = f_Book_operation_108 P (nI (pos T N (j + 1))) (nI (bp T N (j + 1 + 1))) (nI (pos T N (j + 2))) (nI (pos T N (j + 2) + 1)) (b01 true) (rB P N h6 (j + 2) v2) from e6 (f_Book_operation_108 P (nI (pos T N (j + 1))) (nI (bp T N (j + 1 + 1))) (nI (pos T N (j + 2))) (nI (pos T N (j + 2) + 1)) (b01 true))]
    rw [hkc] at go
    exact go h6 false Q6 X6 (fun w => by cases w) (fun _ _ z => by cases z.1)
  | false =>
    rw [if_pos rfl]
    rw [hkc] at go
    by_cases c : (mv_i h P 29).toNatClampNeg < 512
    · rw [if_pos (show nI (mv_i h P 29).toNatClampNeg < (512 : Int32) from Int32.not_le.mp (fun z => by have := (nIle (a := 512) (by omega) (by omega)).mp z; omega))]
      exact go _ b Q2 (XFr.refl P m _) (fun w => ⟨w, rfl, c⟩) (fun w z => absurd w z)
    · rw [if_neg (show ¬ nI (mv_i h P 29).toNatClampNeg < (512 : Int32) from fun z => absurd ((nIle (a := 512) (b := (mv_i h P 29).toNatClampNeg) (by omega) (by omega)).mpr (by omega)) (Int32.not_le.mpr z))]
      obtain ⟨h6, e6, Q6, X6, a6⟩ := flt1 Q2 false (k := 6) (by decide) (nI (pos T N (j + 1))) v2
      rw [Bool.and_false] at Q6
      rw [show (xhv (f_Book_fault P (rB P N (nmK P N T h (j + 1)) (j + 2) v2) 6 (nI (pos T N (j + 1)))) fun g27 => f_Book_operation_108 P (nI (pos T N (j + 1))) (nI (bp T N (j + 1 + 1))) (nI (pos T N (j + 2))) (nI (pos T N (j + 2) + 1)) (b01 false) g27) = f_Book_operation_108 P (nI (pos T N (j + 1))) (nI (bp T N (j + 1 + 1))) (nI (pos T N (j + 2))) (nI (pos T N (j + 2) + 1)) (b01 false) (rB P N h6 (j + 2) v2) from e6 (f_Book_operation_108 P (nI (pos T N (j + 1))) (nI (bp T N (j + 1 + 1))) (nI (pos T N (j + 2))) (nI (pos T N (j + 2) + 1)) (b01 false))]
      exact go h6 false Q6 X6 (fun w => by cases w) (fun _ _ z => c z.2)
/-- the outcome of the TEXT -/
def TOq (P N : Nat) (T : Nat → Nat) (Sv : Option SI) (r : Option (Option Int32 × mv_H)) : Prop :=
  (∃ g, r = some (none, g) ∧ Sv = none) ∨ (∃ b' j' s' x h' v' m', r = some (some x, rB P N h' j' v') ∧ Sv = on b' (some s') ∧ IQq P N T s' b' h' m' j')
theorem itm_S : ∀ (k kk : Nat) (s : SI) (b : Bool) (h : mv_H) (m j : Nat) (v : Int64), IQq P N T s b h m j → 32768 - j < k → 32768 - j < kk → TOq P N T (on b (sLp (txT T N) k s j)) (f_Book_text_1_97 P kk (rB P N h j v)) := by
  intro k
  induction k with
  | zero => intro kk s b h m j v Q h1; omega
  | succ k ih =>
    intro kk s b h m j v Q h1 h2
    obtain ⟨kk, rfl⟩ : ∃ q, kk = q + 1 := ⟨kk - 1, by omega⟩
    show TOq P N T _ (fF_Book_text_1_97 P (f_Book_text_1_97 P kk) (rB P N h j v))
    have H := Q.hb
    have eX : (txT T N).kd j = kdT T N j := rfl
    unfold fF_Book_text_1_97 sLp sIt
    rw [H.k4, eX]
    have c1 := kd_end H.lt Q.gk.1
    by_cases k1 : kdT T N j = 1
    · rw [if_pos (c1.mpr k1), if_pos k1]
      exact Or.inr ⟨b, j, s, 0, h, v, m, rfl, rfl, Q⟩
    rw [if_neg (fun z => k1 (c1.mp z)), if_neg k1]
    have w140 : f_Book_is P (rB P N h j v) 140 = some (b01 (decide (kdT T N j = 201)), rB P N h j v) := is_S H Q.gk (i := 1) (wds (140, 1) (by decide)) (by decide) v
    have w143 : f_Book_is P (rB P N h j v) 143 = some (b01 (decide (kdT T N j = 202)), rB P N h j v) := is_S H Q.gk (i := 2) (wds (143, 2) (by decide)) (by decide) v
    have w144 : f_Book_is P (rB P N h j v) 144 = some (b01 (decide (kdT T N j = 204)), rB P N h j v) := is_S H Q.gk (i := 4) (wds (144, 4) (by decide)) (by decide) v
    have w146 : f_Book_is P (rB P N h j v) 146 = some (b01 (decide (kdT T N j = 206)), rB P N h j v) := is_S H Q.gk (i := 6) (wds (146, 6) (by decide)) (by decide) v
    have go : ∀ (Sv : Option (Nat × SI)) (r : Option (Option Int32 × mv_H)), IOq P N T j (on b Sv) r → TOq P N T (on b (Sv.bind fun r => sLp (txT T N) k r.2 r.1)) (xtb r fun u g => f_Book_text_1_97 P kk g) := fun Sv r hr => by
      rcases hr with ⟨g, e1, s1⟩ | ⟨b', j', s', x, h', v', m', e1, s1, Q1, hj⟩
      · rw [e1, xtb_n, on_bind, s1]; exact Or.inl ⟨g, rfl, rfl⟩
      · rw [e1, xtb_s, on_bind, s1]
        simp only [on_s]
        have hb1 := Q1.hb.gkn Q1.gk
        have hb2 := Q1.n10
        exact ih kk s' b' h' m' j' v' Q1 (by omega) (by omega)
    rw [w140, xhb_s]
    by_cases k2 : kdT T N j = 201
    · rw [if_neg (b01_dp k2), if_pos k2]; exact go _ _ (reg_S Q k2 v)
    rw [if_pos (b01_dn k2), if_neg k2, w143, xhb_s]
    by_cases k3 : kdT T N j = 202
    · rw [if_neg (b01_dp k3), if_pos k3]; exact go _ _ (fil_S Q k3 v)
    rw [if_pos (b01_dn k3), if_neg k3, w144, xhb_s]
    by_cases k4 : kdT T N j = 204
    · rw [if_neg (b01_dp k4), if_pos k4]; exact go _ _ (fet_S Q k4 v)
    rw [if_pos (b01_dn k4), if_neg k4, w146, xhb_s]
    by_cases k5 : kdT T N j = 206
    · rw [if_neg (b01_dp k5), if_pos k5]; exact go _ _ (op_S Q k5 v)
    rw [if_pos (b01_dn k5), if_neg k5]
    exact Or.inl ⟨_, rfl, on_none _⟩
end OP5
theorem lc_eq2 {v w : Nat} (hv : v < 18446744073709551616) (hw : w < 9223372036854775808) : lg_cmp (nJ v) (nJ w) = 0 ↔ v = w := by
  rw [lc_v, ys_v, ys_v]
  split
  · exact ⟨fun z => absurd z (by decide), fun z => by omega⟩
  · split
    · exact ⟨fun _ => by omega, fun _ => rfl⟩
    · exact ⟨fun z => absurd z (by decide), fun z => by omega⟩
/-- the book before text(): what read has set -/
def T0q (P N : Nat) (T : Nat → Nat) (h : mv_H) : Prop := ((mv_i h P 2).toInt = N) ∧ (N ≤ 10240) ∧ (ck h N = T) ∧ (74 ≤ P) ∧ (byt7 h) ∧ (mv_i h P 38 = 0) ∧ (mv_i h P 48 = 0) ∧ (mv_i h P 17 = 0) ∧ (mv_i h P 19 = 0) ∧ (mv_i h P 22 = 0) ∧ (mv_i h P 29 = 0) ∧ (mv_i h P 51 = 0)
theorem T0q.n {P N : Nat} {T : Nat → Nat} {h : mv_H} (h99 : T0q P N T h) : (mv_i h P 2).toInt = N := h99.1
theorem T0q.n10 {P N : Nat} {T : Nat → Nat} {h : mv_H} (h99 : T0q P N T h) : N ≤ 10240 := h99.2.1
theorem T0q.t {P N : Nat} {T : Nat → Nat} {h : mv_H} (h99 : T0q P N T h) : ck h N = T := h99.2.2.1
theorem T0q.p {P N : Nat} {T : Nat → Nat} {h : mv_H} (h99 : T0q P N T h) : 74 ≤ P := h99.2.2.2.1
theorem T0q.b7 {P N : Nat} {T : Nat → Nat} {h : mv_H} (h99 : T0q P N T h) : byt7 h := h99.2.2.2.2.1
theorem T0q.i38 {P N : Nat} {T : Nat → Nat} {h : mv_H} (h99 : T0q P N T h) : mv_i h P 38 = 0 := h99.2.2.2.2.2.1
theorem T0q.i48 {P N : Nat} {T : Nat → Nat} {h : mv_H} (h99 : T0q P N T h) : mv_i h P 48 = 0 := h99.2.2.2.2.2.2.1
theorem T0q.i17 {P N : Nat} {T : Nat → Nat} {h : mv_H} (h99 : T0q P N T h) : mv_i h P 17 = 0 := h99.2.2.2.2.2.2.2.1
theorem T0q.i19 {P N : Nat} {T : Nat → Nat} {h : mv_H} (h99 : T0q P N T h) : mv_i h P 19 = 0 := h99.2.2.2.2.2.2.2.2.1
theorem T0q.i22 {P N : Nat} {T : Nat → Nat} {h : mv_H} (h99 : T0q P N T h) : mv_i h P 22 = 0 := h99.2.2.2.2.2.2.2.2.2.1
theorem T0q.i29 {P N : Nat} {T : Nat → Nat} {h : mv_H} (h99 : T0q P N T h) : mv_i h P 29 = 0 := h99.2.2.2.2.2.2.2.2.2.2.1
theorem T0q.i51 {P N : Nat} {T : Nat → Nat} {h : mv_H} (h99 : T0q P N T h) : mv_i h P 51 = 0 := h99.2.2.2.2.2.2.2.2.2.2.2
section TXT
variable {P N : Nat} {T : Nat → Nat} {h : mv_H}
theorem tkR_me (h : mv_H) : h = tkR P h (mv_i h P 3) (mv_i h P 4) (mv_i h P 5) (mv_i h P 6) (mv_i h P 7) (mv_l h P 9) := by
  unfold tkR
  have e3 : mv_si h P 3 (mv_i h P 3) = h := mv_si_self ..
  have e4 : mv_si h P 4 (mv_i h P 4) = h := mv_si_self ..
  have e5 : mv_si h P 5 (mv_i h P 5) = h := mv_si_self ..
  have e6 : mv_si h P 6 (mv_i h P 6) = h := mv_si_self ..
  have e7 : mv_si h P 7 (mv_i h P 7) = h := mv_si_self ..
  rw [e3, e4, e5, e6, e7]
  refine Prod.ext rfl (Prod.ext ?_ rfl)
  funext o k
  show mv_l h o k = if o = P ∧ k = 9 then mv_l h P 9 else mv_l h o k
  by_cases c : o = P ∧ k = 9
  · rw [if_pos c, c.1, c.2]
  · rw [if_neg c]
theorem txt_S (Q : T0q P N T h) : TOq P N T (sTx (txT T N)) (f_Book_text_1 P h) := by
  have hP := Q.p
  have n10 := Q.n10
  unfold f_Book_text_1 sTx
  rw [xk_s, xk_s]
  generalize hh1 : mv_si (mv_si h P 3 0) P 8 0 = h1
  have i1 : ∀ c, ¬ c = 3 → ¬ c = 8 → mv_i h1 P c = mv_i h P c := fun c c1 c2 => by rw [← hh1]; exact (mv_u_ne (mv_i (mv_si h P 3 0)) _ (by omega)).trans (mv_u_ne (mv_i h) _ (by omega))
  have i13 : mv_i h1 P 3 = nI 0 := by rw [← hh1]; exact (mv_u_ne (mv_i (mv_si h P 3 0)) _ (by omega)).trans (mv_u_same (mv_i h) P 3 _)
  have i18 : mv_i h1 P 8 = nI 0 := by rw [← hh1]; exact mv_u_same (mv_i (mv_si h P 3 0)) P 8 _
  have t1 : ck h1 N = T := by rw [← hh1]; exact Q.t
  have H : HB P N T 0 h1 := ⟨by rw [i1 2 (by omega) (by omega)]; exact Q.n, by omega, t1, i18, by omega, hP⟩
  have en := next_e (P := P) (h := h1) (n := N) H.n H.n2 (p := 0) (Nat.zero_le _) (mv_i h1 P 4) (mv_i h1 P 5) (mv_i h1 P 6) (mv_i h1 P 7) (mv_l h1 P 9)
  rw [← i13, ← tkR_me h1] at en
  have ep : s_skip (ck h1 N) N (N + 1) 0 = pos T N 0 := by rw [t1]; rfl
  rw [ep, t1] at en
  have et : s_tok T N (pos T N 0) = tok T N 0 := rfl
  rw [et] at en
  have eX : ∀ i, (txT T N).kd i = kdT T N i := fun _ => rfl
  cases hb : (tok T N 0).2.2.2 with
  | some x =>
    have hth : f_Book_next P h1 = some (none, mv_si (tkR P h1 (nI (tok T N 0).2.1) (tok T N 0).1 (nI (pos T N 0)) (nI (tok T N 0).2.1) (nI x) (numv (mv_l h1 P 9) (tok T N 0).2.2.1)) (P + 33) 0 (nI x)) := by
      rw [en]; unfold tkT; rw [hb]
    rw [hth, xtb_n]
    have k0 : kdT T N 0 = 2 := by unfold kdT; rw [hb, if_pos (Or.inl (fun z => by cases z))]
    have : ndq (txT T N) 0 0 200 = none := by
      unfold ndq gd
      rw [eX, k0]; rfl
    rw [this]
    exact Or.inl ⟨_, rfl, rfl⟩
  | none =>
    have hth : f_Book_next P h1 = some (some 0, rB P N h1 0 (mv_l h1 P 9)) := by
      rw [en]; unfold tkT; rw [hb]
      unfold rB rA
      rw [t1]; rfl
    have G0 : gkT T N 0 := ⟨hb, fun i hi => by omega⟩
    rw [hth, xtb_s]
    rcases ndWS H G0 (i := 0) (wds (139, 0) (by decide)) (by decide) (mv_l h1 P 9) with ⟨k2, p2, G1, s2, v2, e2⟩ | ⟨s2, g, e2⟩
    rotate_left
    · rw [e2, xtb_n, show ndq (txT T N) 0 0 200 = none from s2]; exact Or.inl ⟨g, rfl, rfl⟩
    rw [e2, xtb_s, show ndq (txT T N) 0 0 200 = some () from s2, Option.bind_some]
    rcases ndS H G1 (c := 4) (k := 2) (by omega) (kd_num H.lt G1.1) v2 with ⟨k3, p3, G3, s3, v3, e3⟩ | ⟨s3, g, e3⟩
    rotate_left
    · rw [e3, xtb_n, show ndq (txT T N) 0 1 4 = none from s3]; exact Or.inl ⟨g, rfl, rfl⟩
    obtain ⟨n3, nn3⟩ := H.num G1 k3 v2
    rw [e3, xtb_s, show ndq (txT T N) 0 1 4 = some () from s3, Option.bind_some, n3]
    rcases ndS H G3 (c := 59) (k := 59) (by omega) (H.ch (c := 59) G3 (by omega) (by omega)) v3 with ⟨k4, p4, G4, s4, v4, e4⟩ | ⟨s4, g, e4⟩
    rotate_left
    · rw [e4, xtb_n, show ndq (txT T N) 0 2 59 = none from s4]; exact Or.inl ⟨g, rfl, rfl⟩
    rw [e4, xtb_s, show ndq (txT T N) 0 2 59 = some () from s4, Option.bind_some]
    -- the state of the items
    have IQ0 : ∀ (L : Nat) (s : SI), L ≤ 64 → s.bits = L → s.lk = (fun _ => (0, 0)) → s.tl = [] → s.cells = 0 → s.fe = none → s.ops = [] → IQq P N T s true (mv_si h1 P 20 (nI L)) 0 3 := fun L s hL e1 e2 e3 e4 e5 e6 => by
      have ei : ∀ c, ¬ c = 20 → ¬ c = 3 → ¬ c = 8 → mv_i (mv_si h1 P 20 (nI L)) P c = mv_i h P c := fun c c1 c2 c3 => (mv_u_ne (mv_i h1) _ (by omega)).trans (i1 c c2 c3)
      have z : (0 : Int32).toNatClampNeg = 0 := rfl
      have hb7 : byt7 h1 := by rw [← hh1]; exact Q.b7
      have e17 := (ei 17 (by omega) (by omega) (by omega)).trans Q.i17
      have e29 := (ei 29 (by omega) (by omega) (by omega)).trans Q.i29
      have e51 := (ei 51 (by omega) (by omega) (by omega)).trans Q.i51
      exact ⟨
        ⟨by rw [ei 2 (by omega) (by omega) (by omega)]; exact Q.n, by omega, t1, (mv_u_ne (mv_i h1) _ (by omega)).trans i18, by omega, hP⟩,
        n10,
        hb7,
        by rw [ei 38 (by omega) (by omega) (by omega), Q.i38]; exact ⟨⟨fun _ => rfl, fun _ => rfl⟩, by decide⟩,
        by rw [ei 48 (by omega) (by omega) (by omega), Q.i48]; rfl,
        fun i hi => by omega,
        by omega,
        G4,
        ⟨L, mv_u_same (mv_i h1) P 20 _, hL, fun _ => e1.symm⟩,
        by rw [e17]; exact ⟨rfl, by rw [z]; omega, fun i hi => by rw [z] at hi; omega, fun i hi => by rw [z] at hi; omega, fun i hi => by rw [z] at hi; omega⟩,
        fun _ q e _ _ => by rw [e17, e2]; rfl,
        fun _ => by rw [e17, e3]; rfl,
        fun _ i hi => by rw [e3] at hi; exact absurd hi (Nat.not_lt_zero _),
        ⟨0, by rw [ei 19 (by omega) (by omega) (by omega), Q.i19]; rfl, by omega, fun _ => e4.symm⟩,
        ⟨0, by rw [ei 22 (by omega) (by omega) (by omega), Q.i22]; rfl, by omega, fun _ => ⟨fun _ => e5, fun _ => rfl⟩⟩,
        by rw [e2]; exact fun x hx => absurd rfl hx,
        by rw [e29]; rfl,
        by rw [e29, z]; omega,
        by rw [e51]; rfl,
        by rw [e51, z]; omega,
        by rw [e29]; exact (fun i hi => by rw [z] at hi; omega),
        fun _ => by rw [e29, z]; exact ⟨by rw [e6]; rfl, fun i hi => by omega, fun i hi => by omega⟩⟩
    have go : ∀ x : Nat, (txT T N).nu 1 = x → 1 ≤ x → x ≤ 64 → TOq P N T (sLp (txT T N) 200000 ⟨(txT T N).nu 1, fun _ => (0, 0), [], 0, none, []⟩ 3) (f_Book_text_1_75 P (nJ ((txT T N).nu 1)) (mv_i (rB P N h1 (0 + 1) v2) P 5) (rB P N h1 (0 + 1 + 1 + 1) v4)) := fun x ex hx1 hx2 => by
      unfold f_Book_text_1_75 f_Book_text_1_81
      rw [nJi (by omega), rB_si (by omega), xk_s]
      have r20 : mv_i (rB P N (mv_si h1 P 20 (nI ((txT T N).nu 1))) (0 + 1 + 1 + 1) v4) P 20 = nI ((txT T N).nu 1) := (rB_o _ _ (by omega)).trans (mv_u_same (mv_i h1) P 20 _)
      rw [r20, if_neg (show ¬ nI ((txT T N).nu 1) = 0 from fun z => by have := (nIinj (b := 0) (by omega) (by omega)).mp z; omega)]
      exact itm_S 200000 200000 _ true _ 0 3 v4 (IQ0 ((txT T N).nu 1) _ (by omega) rfl rfl rfl rfl rfl rfl) (by omega) (by omega)
    rw [show (8 : Int64) = nJ 8 from rfl, show (16 : Int64) = nJ 16 from rfl, show (32 : Int64) = nJ 32 from rfl, show (64 : Int64) = nJ 64 from rfl]
    by_cases c8 : (txT T N).nu 1 = 8
    · rw [if_pos (show lg_cmp (nJ ((txT T N).nu (0 + 1))) (nJ 8) = 0 from (lc_eq2 nn3 (by omega)).mpr c8), if_pos (Or.inl c8)]; exact go 8 c8 (by omega) (by omega)
    rw [if_neg (show ¬ lg_cmp (nJ ((txT T N).nu (0 + 1))) (nJ 8) = 0 from fun z => c8 ((lc_eq2 nn3 (by omega)).mp z))]
    by_cases c16 : (txT T N).nu 1 = 16
    · rw [if_pos (show lg_cmp (nJ ((txT T N).nu (0 + 1))) (nJ 16) = 0 from (lc_eq2 nn3 (by omega)).mpr c16), if_pos (Or.inr (Or.inl c16))]; exact go 16 c16 (by omega) (by omega)
    rw [if_neg (show ¬ lg_cmp (nJ ((txT T N).nu (0 + 1))) (nJ 16) = 0 from fun z => c16 ((lc_eq2 nn3 (by omega)).mp z))]
    by_cases c32 : (txT T N).nu 1 = 32
    · rw [if_pos (show lg_cmp (nJ ((txT T N).nu (0 + 1))) (nJ 32) = 0 from (lc_eq2 nn3 (by omega)).mpr c32), if_pos (Or.inr (Or.inr (Or.inl c32)))]; exact go 32 c32 (by omega) (by omega)
    rw [if_neg (show ¬ lg_cmp (nJ ((txT T N).nu (0 + 1))) (nJ 32) = 0 from fun z => c32 ((lc_eq2 nn3 (by omega)).mp z))]
    by_cases c64 : (txT T N).nu 1 = 64
    · rw [if_pos (show lg_cmp (nJ ((txT T N).nu (0 + 1))) (nJ 64) = 0 from (lc_eq2 nn3 (by omega)).mpr c64), if_pos (Or.inr (Or.inr (Or.inr c64)))]; exact go 64 c64 (by omega) (by omega)
    rw [if_neg (show ¬ lg_cmp (nJ ((txT T N).nu (0 + 1))) (nJ 64) = 0 from fun z => c64 ((lc_eq2 nn3 (by omega)).mp z)), if_neg (by omega)]
    unfold f_Book_text_1_81
    rw [rB_si (by omega), xk_s]
    have r20 : mv_i (rB P N (mv_si h1 P 20 0) (0 + 1 + 1 + 1) v4) P 20 = 0 := (rB_o _ _ (by omega)).trans (mv_u_same (mv_i h1) P 20 _)
    rw [r20, if_pos rfl]
    have Q0 : IQq P N T ⟨0, fun _ => (0, 0), [], 0, none, []⟩ true (mv_si h1 P 20 0) 0 3 := IQ0 0 _ (by omega) rfl rfl rfl rfl rfl rfl
    obtain ⟨h6, e6, Q6, X6, a6⟩ := flt1 Q0 false (k := 3) (by decide) (mv_i (rB P N h1 (0 + 1) v2) P 5) v4
    rw [show (xhv (f_Book_fault P (rB P N (mv_si h1 P 20 0) (0 + 1 + 1 + 1) v4) 3 (mv_i (rB P N h1 (0 + 1) v2) P 5)) fun g19 => f_Book_text_1_97 P 200000 g19) = f_Book_text_1_97 P 200000 (rB P N h6 3 v4) from e6 (f_Book_text_1_97 P 200000)]
    have := itm_S 200000 200000 _ _ _ 0 3 v4 Q6 (by omega) (by omega)
    exact this
end TXT
/-- one of the two has 0 where the other has 1 -/
def dif (x y : List Nat) (k : Nat) : Bool := (Nat.beq (x.getD k 0) 48 && Nat.beq (y.getD k 0) 49) || (Nat.beq (x.getD k 0) 49 && Nat.beq (y.getD k 0) 48)
theorem aptC_q : ∀ (x y : List Nat), x.length = y.length → aptC x y = anq (dif x y) x.length 0 := by
  have sh : ∀ (x y : List Nat) (a b m i : Nat), anq (dif (a :: x) (b :: y)) m (i + 1) = anq (dif x y) m i := by
    intro x y a b m
    induction m with
    | zero => intro i; rfl
    | succ m ih =>
      intro i
      show (dif (a :: x) (b :: y) (i + 1) || anq (dif (a :: x) (b :: y)) m (i + 1 + 1)) = (dif x y i || anq (dif x y) m (i + 1))
      rw [ih (i + 1)]; rfl
  intro x
  induction x with
  | nil => intro y h; cases y with
    | nil => rfl
    | cons b y => cases h
  | cons a x ih =>
    intro y h
    cases y with
    | nil => cases h
    | cons b y =>
      have h' : x.length = y.length := Nat.succ.inj h
      show ((Nat.beq a 48 && Nat.beq b 49) || (Nat.beq a 49 && Nat.beq b 48) || aptC x y) = (dif (a :: x) (b :: y) 0 || anq (dif (a :: x) (b :: y)) x.length 1)
      rw [sh x y a b x.length 0, ih y h']; rfl
theorem aptC_sy : ∀ (x y : List Nat), aptC x y = aptC y x := by
  intro x
  induction x with
  | nil => intro y; cases y <;> rfl
  | cons a x ih =>
    intro y
    cases y with
    | nil => rfl
    | cons b y =>
      show ((Nat.beq a 48 && Nat.beq b 49) || (Nat.beq a 49 && Nat.beq b 48) || aptC x y) = ((Nat.beq b 48 && Nat.beq a 49) || (Nat.beq b 49 && Nat.beq a 48) || aptC y x)
      rw [ih y]
      cases Nat.beq a 48 <;> cases Nat.beq b 49 <;> cases Nat.beq a 49 <;> cases Nat.beq b 48 <;> rfl
theorem aptL_q : ∀ (l : List (List Nat)), aptL l = true ↔ ∀ i j, j < i → i < l.length → aptC (l.getD j []) (l.getD i []) = true := by
  intro l
  induction l with
  | nil => exact ⟨fun _ i j h1 h2 => absurd h2 (Nat.not_lt_zero _), fun _ => rfl⟩
  | cons x l ih =>
    show (l.all (fun y => aptC x y) && aptL l) = true ↔ _
    rw [Bool.and_eq_true, ih, List.all_eq_true]
    constructor
    · rintro ⟨h1, h2⟩ i j hj hi
      cases i with
      | zero => omega
      | succ i =>
        have hi' : i < l.length := Nat.lt_of_succ_lt_succ hi
        cases j with
        | zero =>
          show aptC x (l.getD i []) = true
          refine h1 _ ?_
          rw [List.getD_eq_getElem?_getD, List.getElem?_eq_getElem hi']
          exact List.getElem_mem _
        | succ j => exact h2 i j (by omega) hi'
    · intro h
      refine ⟨fun y hy => ?_, fun i j hj hi => h (i + 1) (j + 1) (by omega) (Nat.succ_lt_succ hi)⟩
      obtain ⟨i, hi, ei⟩ := List.getElem_of_mem hy
      have := h (i + 1) 0 (by omega) (Nat.succ_lt_succ hi)
      have e : (x :: l).getD (i + 1) [] = y := by
        show l.getD i [] = y
        rw [List.getD_eq_getElem?_getD, List.getElem?_eq_getElem hi]
        exact ei
      rw [e] at this
      exact this
section CLA
variable {P : Nat} {h : mv_H} {L : Nat}
theorem apt_lp {i j B D : Nat} {x y : List Nat} (hL : mv_i h P 20 = nI L) (hL2 : L ≤ 64) (hi : i < 4100) (hj : j < 4100) (eB : mv_a h (P + 10) i = nI B) (eD : mv_a h (P + 10) j = nI D) (hB : B + L ≤ 32768) (hD : D + L ≤ 32768) (hx : ∀ k, k < L → mv_a h (P + 13) (B + k) = sb (x.getD k 0) ∧ x.getD k 0 < 256) (hy : ∀ k, k < L → mv_a h (P + 13) (D + k) = sb (y.getD k 0) ∧ y.getD k 0 < 256) : ∀ (m nn k : Nat), k + m = L → m < nn → f_Book_apart_2 P nn (nI i) (nI j) (nI k) h = some (b01 (anq (dif x y) m k), h) := by
  intro m
  induction m with
  | zero =>
    intro nn k hk hn
    obtain ⟨nn, rfl⟩ : ∃ q, nn = q + 1 := ⟨nn - 1, by omega⟩
    show fF_Book_apart_2 P (f_Book_apart_2 P nn) (nI i) (nI j) (nI k) h = _
    unfold fF_Book_apart_2
    rw [hL, if_pos ((nIle (by omega) (by omega)).mpr (by omega)), xz0]
    rfl
  | succ m ih =>
    intro nn k hk hn
    obtain ⟨nn, rfl⟩ : ∃ q, nn = q + 1 := ⟨nn - 1, by omega⟩
    show fF_Book_apart_2 P (f_Book_apart_2 P nn) (nI i) (nI j) (nI k) h = _
    unfold fF_Book_apart_2 f_Book_apart_54 f_Book_apart_68 f_Book_apart_70
    have ihh := ih nn (k + 1) (by omega) (by omega)
    have hxk := hx k (by omega)
    have hyk := hy k (by omega)
    rw [hL, if_neg (fun z => by have := (nIle (by omega) (by omega)).mp z; omega), xvi_n hi (by decide), xvi_n hj (by decide), cln (by omega), cln (by omega), eB, eD, nIadd (by omega), nIadd (by omega), xvi_n (by omega) (by decide), xvi_n (by omega) (by decide), cln (by omega), cln (by omega), hxk.1, hyk.1, nI1 (by omega), ihh, xz1']
    simp only [cond_true]
    have x48 := sb_low 48 (by omega) _ hxk.2
    have x49 := sb_low 49 (by omega) _ hxk.2
    have y48 := sb_low 48 (by omega) _ hyk.2
    have y49 := sb_low 49 (by omega) _ hyk.2
    have ed : anq (dif x y) (m + 1) k = (dif x y k || anq (dif x y) m (k + 1)) := rfl
    rw [ed]
    unfold dif
    by_cases a : x.getD k 0 = 48
    · rw [if_pos (show sb (x.getD k 0) = (48 : Int32) from x48.mpr a)]
      by_cases c : y.getD k 0 = 49
      · rw [if_pos (show sb (y.getD k 0) = (49 : Int32) from y49.mpr c), a, c]; rfl
      · rw [if_neg (show ¬ sb (y.getD k 0) = (49 : Int32) from fun z => c (y49.mp z)), if_neg (show ¬ sb (x.getD k 0) = (49 : Int32) from fun z => by have := x49.mp z; omega), nbq c, a]; rfl
    · rw [if_neg (show ¬ sb (x.getD k 0) = (48 : Int32) from fun z => a (x48.mp z)), nbq a]
      by_cases c : x.getD k 0 = 49
      · rw [if_pos (show sb (x.getD k 0) = (49 : Int32) from x49.mpr c)]
        by_cases e : y.getD k 0 = 48
        · rw [if_pos (show sb (y.getD k 0) = (48 : Int32) from y48.mpr e), c, e]; rfl
        · rw [if_neg (show ¬ sb (y.getD k 0) = (48 : Int32) from fun z => e (y48.mp z)), nbq e, c]; rfl
      · rw [if_neg (show ¬ sb (x.getD k 0) = (49 : Int32) from fun z => c (x49.mp z)), nbq c]; rfl
end CLA
section CL2
variable {P N : Nat} {T : Nat → Nat} {s : SI} {h : mv_H} {m j : Nat} (Q : IQq P N T s true h m j)
def codS (s : SI) (i : Nat) : List Nat := (s.ops.getD i ([], [])).2
theorem apt_S (Q : IQq P N T s true h m j) {i k : Nat} (hi : i < (mv_i h P 29).toNatClampNeg) (hk : k < (mv_i h P 29).toNatClampNeg) : f_Book_apart P h (nI i) (nI k) = some (b01 (aptC (codS s i) (codS s k)), h) := by
  have V := Q.ov rfl
  obtain ⟨L, l1, l2, l3⟩ := Q.bt
  have eL := l3 rfl
  have hn := Q.n10
  have o5 := Q.o5
  have hjN := Q.hb.gkn Q.gk
  have c1 := Q.c1
  have hbN := (bp_bd Q.hb.te.1 Q.hb.te.2 j).1
  have vi := V.c i hi
  have vk := V.c k hk
  unfold f_Book_apart
  have := apt_lp (x := codS s i) (y := codS s k) l1 l2 (show i < 4100 by omega) (show k < 4100 by omega) vi.2.1 vk.2.1 (by omega) (by omega) (fun t ht => vi.2.2.2 t (by omega)) (fun t ht => vk.2.2.2 t (by omega)) L 200000 0 (by omega) (by omega)
  rw [show (0 : Int32) = nI 0 from rfl, this, aptC_q (codS s i) (codS s k) (vi.1.trans vk.1.symm), show (codS s i).length = L from vi.1.trans eL.symm]
/-- clash, one op against those before it -/
theorem cla_in (Q : IQq P N T s true h m j) {i : Nat} (hi : i < (mv_i h P 29).toNatClampNeg) (k2 : Int32 → mv_H → Option mv_H) : ∀ (q nn k : Nat), k + q = i → q + 1 < nn → (∀ t, t < k → aptC (codS s t) (codS s i) = true) →
    ((∀ t, t < i → aptC (codS s t) (codS s i) = true) ∧ f_Book_clash_19 P k2 nn (nI i) (nI k) h = k2 (nI (i + 1)) h) ∨ ((∃ t, t < i ∧ ¬ aptC (codS s t) (codS s i) = true) ∧ ∃ x y, f_Book_clash_19 P k2 nn (nI i) (nI k) h = k2 (nI (i + 1)) (mv_si (mv_si (mv_si h P 37 x) P 38 7) P 39 y)) := by
  have hn := Q.n10
  have o5 := Q.o5
  have hjN := Q.hb.gkn Q.gk
  have i38 : mv_i h P 38 = 0 := Q.fa.1.mp rfl
  intro q
  induction q with
  | zero =>
    intro nn k hk hnn ht
    obtain ⟨nn, rfl⟩ : ∃ q, nn = q + 1 := ⟨nn - 1, by omega⟩
    refine Or.inl ⟨fun t htt => ht t (by omega), ?_⟩
    show fF_Book_clash_19 P k2 (f_Book_clash_19 P k2 nn) (nI i) (nI k) h = _
    unfold fF_Book_clash_19 f_Book_clash_65
    rw [if_pos ((nIle (by omega) (by omega)).mpr (by omega)), nI1 (by omega)]
  | succ q ih =>
    intro nn k hk hnn ht
    obtain ⟨nn, rfl⟩ : ∃ q, nn = q + 1 := ⟨nn - 1, by omega⟩
    have ef : f_Book_clash_19 P k2 (nn + 1) (nI i) (nI k) h = fF_Book_clash_19 P k2 (f_Book_clash_19 P k2 nn) (nI i) (nI k) h := rfl
    rw [ef]
    unfold fF_Book_clash_19 f_Book_clash_59
    rw [if_neg (fun z => by have := (nIle (by omega) (by omega)).mp z; omega), if_pos i38, apt_S Q hi (by omega), xhb_s, aptC_sy, nI1 (by omega)]
    by_cases c : aptC (codS s k) (codS s i) = true
    · rw [c, if_neg (show ¬ b01 true = 0 by decide)]
      exact ih nn (k + 1) (by omega) (by omega) (fun t htt => by
        by_cases e : t = k
        · rw [e]; exact c
        · exact ht t (by omega))
    · rw [Bool.eq_false_iff.mpr c, if_pos (show b01 false = 0 from rfl)]
      simp only [xk_s]
      refine Or.inr ⟨⟨k, by omega, c⟩, nI i, nI k, ?_⟩
      obtain ⟨nn, rfl⟩ : ∃ q, nn = q + 1 := ⟨nn - 1, by omega⟩
      show fF_Book_clash_19 P k2 (f_Book_clash_19 P k2 nn) (nI i) (nI (k + 1)) (mv_si (mv_si (mv_si h P 37 (nI i)) P 38 7) P 39 (nI k)) = _
      unfold fF_Book_clash_19 f_Book_clash_65
      have z38 : mv_i (mv_si (mv_si (mv_si h P 37 (nI i)) P 38 7) P 39 (nI k)) P 38 = 7 := (mv_u_ne (mv_i (mv_si (mv_si h P 37 (nI i)) P 38 7)) _ (by omega)).trans (mv_u_same (mv_i (mv_si h P 37 (nI i))) P 38 _)
      rw [z38, if_neg (show ¬ (7 : Int32) = 0 by decide), nI1 (by omega)]
      split <;> rfl
/-- clash: all codes are apart, or a fault -/
theorem cla_S (Q : IQq P N T s true h m j) : (aptL (s.ops.map Prod.snd) = true ∧ f_Book_clash P h = some h) ∨ (¬ aptL (s.ops.map Prod.snd) = true ∧ ∃ x y, f_Book_clash P h = some (mv_si (mv_si (mv_si h P 37 x) P 38 7) P 39 y)) := by
  have hn := Q.n10
  have o5 := Q.o5
  have hjN := Q.hb.gkn Q.gk
  have i38 : mv_i h P 38 = 0 := Q.fa.1.mp rfl
  have V := Q.ov rfl
  have ecod : ∀ i, (s.ops.map Prod.snd).getD i [] = codS s i := fun i => by
    unfold codS
    rw [List.getD_eq_getElem?_getD, List.getD_eq_getElem?_getD, List.getElem?_map]
    cases s.ops[i]? <;> rfl
  have hal : aptL (s.ops.map Prod.snd) = true ↔ ∀ i t, t < i → i < (mv_i h P 29).toNatClampNeg → aptC (codS s t) (codS s i) = true := by
    rw [aptL_q, List.length_map, V.l]
    constructor
    · intro w i t h1 h2; have := w i t h1 h2; rw [ecod, ecod] at this; exact this
    · intro w i t h1 h2; rw [ecod, ecod]; exact w i t h1 h2
  rw [hal]
  have lp : ∀ (q nn i : Nat), i + q = (mv_i h P 29).toNatClampNeg → q + 1 < nn → (∀ i' t, t < i' → i' < i → aptC (codS s t) (codS s i') = true) → ((∀ i t, t < i → i < (mv_i h P 29).toNatClampNeg → aptC (codS s t) (codS s i) = true) ∧ f_Book_clash_2 P nn (nI i) h = some h) ∨ (¬ (∀ i t, t < i → i < (mv_i h P 29).toNatClampNeg → aptC (codS s t) (codS s i) = true) ∧ ∃ x y, f_Book_clash_2 P nn (nI i) h = some (mv_si (mv_si (mv_si h P 37 x) P 38 7) P 39 y)) := by
    intro q
    induction q with
    | zero =>
      intro nn i hi hnn ht
      obtain ⟨nn, rfl⟩ : ∃ q, nn = q + 1 := ⟨nn - 1, by omega⟩
      refine Or.inl ⟨fun i' t h1 h2 => ht i' t h1 (by omega), ?_⟩
      show fF_Book_clash_2 P (f_Book_clash_2 P nn) (nI i) h = _
      unfold fF_Book_clash_2
      rw [Q.o0, if_pos ((nIle (by omega) (by omega)).mpr (by omega))]
    | succ q ih =>
      intro nn i hi hnn ht
      obtain ⟨nn, rfl⟩ : ∃ q, nn = q + 1 := ⟨nn - 1, by omega⟩
      have ef : f_Book_clash_2 P (nn + 1) (nI i) h = fF_Book_clash_2 P (f_Book_clash_2 P nn) (nI i) h := rfl
      rw [ef]
      unfold fF_Book_clash_2
      rw [if_neg (show ¬ mv_i h P 29 ≤ nI i by rw [Q.o0]; exact fun z => by have := (nIle (by omega) (by omega)).mp z; omega), if_pos i38]
      rcases cla_in Q (i := i) (by omega) (f_Book_clash_2 P nn) i 200000 0 (by omega) (by omega) (fun t htt => by omega) with ⟨a1, e1⟩ | ⟨⟨t, a1, a2⟩, x, y, e1⟩
      · rw [show (0 : Int32) = nI 0 from rfl, e1]
        exact ih nn (i + 1) (by omega) (by omega) (fun i' t h1 h2 => by
          by_cases e : i' = i
          · rw [e] at h1 ⊢; exact a1 t h1
          · exact ht i' t h1 (by omega))
      · rw [show (0 : Int32) = nI 0 from rfl, e1]
        refine Or.inr ⟨fun w => a2 (w i t a1 (by omega)), x, y, ?_⟩
        obtain ⟨nn, rfl⟩ : ∃ q, nn = q + 1 := ⟨nn - 1, by omega⟩
        show fF_Book_clash_2 P (f_Book_clash_2 P nn) (nI (i + 1)) (mv_si (mv_si (mv_si h P 37 x) P 38 7) P 39 y) = _
        unfold fF_Book_clash_2
        have z38 : mv_i (mv_si (mv_si (mv_si h P 37 x) P 38 7) P 39 y) P 38 = 7 := (mv_u_ne (mv_i (mv_si (mv_si h P 37 x) P 38 7)) _ (by omega)).trans (mv_u_same (mv_i (mv_si h P 37 x)) P 38 _)
        rw [z38, if_neg (show ¬ (7 : Int32) = 0 by decide)]
        split <;> rfl
  unfold f_Book_clash
  rw [show (0 : Int32) = nI 0 from rfl]
  exact lp (mv_i h P 29).toNatClampNeg 200000 0 (by omega) (by omega) (fun i t h1 h2 => by omega)
end CL2
