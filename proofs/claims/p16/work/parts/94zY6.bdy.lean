/-! the reference at work: statements -/
/-- what stands behind statements: z = (TRAP, state) -/
def StR (P T : Nat) (C LW : List Nat) (e : E0q) (hi : Nat) (z : Int32 × STq) (h : mv_H) : Prop := (z.1 = 0 → mv_i h P 53 = 0 ∧ ∃ n, n ≤ hi ∧ SSq P T C LW e z.2 h n) ∧ (¬ z.1 = 0 → mv_i h P 53 = z.1)
def StO (P T : Nat) (C LW : List Nat) (e : E0q) (hi : Nat) (z : Int32 × STq) (h : mv_H) (res : Option mv_H) : Prop := ∃ h', res = some h' ∧ RFr P h h' ∧ StR P T C LW e hi z h'
theorem StR.m3 {P T : Nat} {C LW : List Nat} {e : E0q} {hi : Nat} {s : STq} {h : mv_H} (q : mv_i h P 53 = -3) : StR P T C LW e hi (-3, s) h := ⟨fun y => absurd y m3n, fun _ => q⟩
theorem StR.ok {P T : Nat} {C LW : List Nat} {e : E0q} {hi n : Nat} {s : STq} {h : mv_H} (q : mv_i h P 53 = 0) (hn : n ≤ hi) (S : SSq P T C LW e s h n) : StR P T C LW e hi (0, s) h := ⟨fun _ => ⟨q, n, hn, S⟩, fun y => absurd rfl y⟩
theorem StR.le {P T : Nat} {C LW LW' : List Nat} {e : E0q} {hi hi' : Nat} {z : Int32 × STq} {h : mv_H} (R : StR P T C LW e hi z h) (hh : hi ≤ hi') (q : ∀ (i w : Nat), LW'[i]? = some w → LW[i]? = some w ∨ w = 0) : StR P T C LW' e hi' z h := by
  refine ⟨fun y => ?_, R.2⟩
  obtain ⟨r1, n, r2, r3⟩ := R.1 y
  exact ⟨r1, n, by omega, r3.pad q⟩
section BDY
variable (P T : Nat) (C : List Nat) (e : E0q)
def KBr (kS : Nat → Int32 → mv_H → Option mv_H) (u : Nat) : Prop := 0 < u → ∀ (n x : Nat) (L LW : List Nat) (lo : Nat) (D : DnS) (LW' : List Nat) (hi : Nat) (s : STq) (h : mv_H) (k : Nat), IFq P h T C (BKq P h (SN P h T C n (u - 1))) (x :: L) LW lo D LW' hi → SSq P T C LW e s h k → k ≤ lo → hi ≤ 12000 → mv_i h P 53 = 0 → StO P T C LW' e hi (D e s) h (kS 1 (nI x) h)
def KRn (kS : Nat → Int32 → mv_H → Option mv_H) (u : Nat) : Prop := ∀ (n : Nat) (LW : List Nat) (lo : Nat) (a : Int32) (D : DnS) (LW' : List Nat) (hi : Nat) (s : STq) (h : mv_H) (k : Nat), BKq P h (SN P h T C n u) LW lo a D LW' hi → SSq P T C LW e s h k → k ≤ lo → hi ≤ 12000 → mv_i h P 53 = 0 → StO P T C LW' e hi (D e s) h (kS 0 a h)
end BDY
theorem run_nt {P : Nat} {kS : Nat → Int32 → mv_H → Option mv_H} {nn : Nat} {a : Int32} {h : mv_H} (q : ¬ mv_i h P 53 = 0) : f_Book_run_2 P kS (nn + 1) a h = some h := by
  show fF_Book_run_2 P kS (f_Book_run_2 P kS nn) a h = _
  unfold fF_Book_run_2
  by_cases c : a < 0
  · rw [if_pos c]
  · rw [if_neg c, if_neg q]
theorem stm_V {P T : Nat} {C : List Nat} {e : E0q} {kS : Nat → Int32 → mv_H → Option mv_H} {u : Nat} (K : KBr P T C e kS u) {n nn x lo hi k : Nat} {LW LW' : List Nat} {D : DnS} {s : STq} {h : mv_H} (N : SN P h T C n u LW lo x D LW' hi) (S : SSq P T C LW e s h k) (hk : k ≤ lo) (hh : hi ≤ 12000) (ht : mv_i h P 53 = 0) : ∃ g, f_Book_run_2 P kS (nn + 1) (nI x) h = f_Book_run_2 P kS nn (mv_a h (P + 22) x) g ∧ RFr P h g ∧ StR P T C LW' e hi (D e s) g := by
  cases n with
  | zero => exact N.elim
  | succ n =>
  obtain ⟨⟨x1, x2, x3⟩, N⟩ := N
  have hv : xvi (nI x) 33000 = true := xvi_n x1 (by decide)
  have hc : (nI x).toNatClampNeg = x := cln (by omega)
  have E := S.1
  have h62 := S.2.1
  have u0 : ∀ q : Int32, mv_a h (P + 18) x = q → f_Book_run_2 P kS (nn + 1) (nI x) h = (if (q).toInt = 14 then (xhb (f_BookE P 1900 0 (mv_a h (P + 20) x) h) fun u6 g5 => bif xvi (mv_a h (P + 19) x) 4100 then xk (mv_sb g5 (P + 26) ((mv_a h (P + 19) x)).toNatClampNeg u6) fun g8 => f_Book_run_2 P kS nn (mv_a g8 (P + 22) x) g8 else none) else (if (q).toInt = 15 then (xhb (f_BookE P 1900 0 (mv_a h (P + 20) x) h) fun u11 g10 => if (mv_i g10 P 53) = (0 : Int32) then (xhv (f_Book_write P g10 (mv_a g10 (P + 19) x) (0 : Int32) u11) fun g13 => f_Book_run_2 P kS nn (mv_a g13 (P + 22) x) g13) else (f_Book_run_2 P kS nn (mv_a g10 (P + 22) x) g10)) else (if (q).toInt = 16 then (xhv (f_Book_setCell P h (nI x)) fun g15 => f_Book_run_2 P kS nn (mv_a g15 (P + 22) x) g15) else (if (q).toInt = 17 then (xk (mv_si h P 53 (mv_a h (P + 19) x)) fun g18 => f_Book_run_2 P kS nn (mv_a g18 (P + 22) x) g18) else (xhv (kS 1 (nI x) h) fun g19 => f_Book_run_2 P kS nn (mv_a g19 (P + 22) x) g19))))) := fun q hq => by
    show fF_Book_run_2 P kS (f_Book_run_2 P kS nn) (nI x) h = _
    unfold fF_Book_run_2 f_Book_run_131
    rw [if_neg (nI_n0 (by omega)), if_pos ht]
    simp only [hv, hc, cond_true, hq]
  rcases N with N | N | N | N | N
  · obtain ⟨y, w, f, Dy, a1, a2, a3, a4, a5, a6, rfl, rfl⟩ := N
    obtain ⟨v, g, e1, f1, g1, t1⟩ := evX a6 (by omega) E h62
    rw [ht] at t1
    have t1 := t1.1 rfl
    have fb : RFr P g (mv_sb g (P + 26) LW.length v) := ⟨rfl, rfl, fun _ _ _ => rfl, fun _ _ => rfl, fun o q => sbn (fun z => q (Or.inl z))⟩
    refine ⟨mv_sb g (P + 26) LW.length v, ?_, f1.r.trans fb, ?_⟩
    · rw [u0 _ a1, if_pos (by decide), a4, e1, xhb_s, a2, xvi_n (show LW.length < 4100 by omega) (by decide), cond_true, cln (by omega), xk_s]
      have : mv_a (mv_sb g (P + 26) LW.length v) (P + 22) x = mv_a h (P + 22) x := f1.2.2.2.2 (P + 22) x (by omega)
      rw [this]
    · cases q : Dy e s.1 s.2.1 with
      | none =>
        have ez : zLt LW.length Dy e s = (-3, s) := by unfold zLt; rw [q]
        rw [ez]
        exact StR.m3 (t1.2 q)
      | some v' =>
        obtain ⟨rfl, z2⟩ := t1.1 v' q
        have ez : zLt LW.length Dy e s = (0, (fun k => if k = LW.length then v else s.1 k, s.2.1, s.2.2)) := by unfold zLt; rw [q]
        rw [ez]
        exact StR.ok (n := k) z2 (by omega) (letS9 (S.ef f1) g1)
  · obtain ⟨t, y, w, f, Dy, a1, a2, a3, b3, a4, a5, a6, a7, rfl, rfl⟩ := N
    obtain ⟨v, g, e1, f1, g1, t1⟩ := evX a6 (by omega) E h62
    rw [ht] at t1
    have t1 := t1.1 rfl
    have hc0 : (e.2 t).2.1 = 0 := (E.1.2.2.2.1.2 t b3).2.2.1.mp a7
    cases q : Dy e s.1 s.2.1 with
    | none =>
      have ez : zRg t Dy e s = (-3, s) := by unfold zRg; rw [q]
      refine ⟨g, ?_, f1.r, by rw [ez]; exact StR.m3 (t1.2 q)⟩
      rw [u0 _ a1, if_neg (by decide), if_pos (by decide), a4, e1, xhb_s, t1.2 q, if_neg m3n, f1.2.2.2.2 (P + 22) x (by omega)]
    | some v' =>
      obtain ⟨rfl, z2⟩ := t1.1 v' q
      have ez : zRg t Dy e s = (0, (s.1, wrT e t 0 v s.2.1, fun k => if k = t then true else s.2.2 k)) := by unfold zRg; rw [q]
      obtain ⟨g2, d1, d2, d3, n', d4, d5⟩ := wri_S (S.ef f1) b3 (ncl_p e t) (by omega) v
      rw [if_pos hc0] at d5
      refine ⟨g2, ?_, f1.r.trans d2, ?_⟩
      · rw [u0 _ a1, if_neg (by decide), if_pos (by decide), a4, e1, xhb_s, if_pos z2, f1.2.2.2.2 (P + 19) x (by omega), a2, show (0 : Int32) = nI 0 from rfl, d1]
        show f_Book_run_2 P kS nn (mv_a g2 (P + 22) x) g2 = _
        rw [d2.2.2.2.1 (P + 22) (by omega), f1.2.2.2.2 (P + 22) x (by omega)]
      · rw [ez]
        exact StR.ok (n := n') (d3.trans z2) (by omega) d5
  · obtain ⟨t, y, z, w, wz, f, Dy, Dz, a1, a2, a3, b3, a4, a5, a6, a7, a8, a9, a10, rfl, rfl⟩ := N
    have hcn : ¬ (e.2 t).2.1 = 0 := fun q => a10 ((E.1.2.2.2.1.2 t b3).2.2.1.mpr q)
    have b5 := (E.1.2.2.2.1.2 t b3).2.1
    have b6 := (E.1.2.2.2.1.2 t b3).1
    obtain ⟨i, g, e1, f1, g1, t1⟩ := evX a9 (by omega) E h62
    rw [ht] at t1
    have t1 := t1.1 rfl
    have r22 : ∀ o, ¬ o = P + 31 → mv_a g o = mv_a h o := fun o q => funext fun j => f1.2.2.2.2 o j (fun z => q z.1)
    have hin := in_cl g i (w := (e.2 t).2.1) (by omega) b5
    have fin : ∀ g', f_Book_setCell P h (nI x) = some g' → RFr P h g' → StR P T C LW' e hi (zCl t Dz Dy e s) g' → ∃ g, f_Book_run_2 P kS (nn + 1) (nI x) h = f_Book_run_2 P kS nn (mv_a h (P + 22) x) g ∧ RFr P h g ∧ StR P T C LW' e hi (zCl t Dz Dy e s) g := fun g' q1 q2 q3 => by
      refine ⟨g', ?_, q2, q3⟩
      rw [u0 _ a1, if_neg (by decide), if_neg (by decide), if_pos (by decide), q1]
      show f_Book_run_2 P kS nn (mv_a g' (P + 22) x) g' = _
      rw [q2.2.2.2.1 (P + 22) (by omega)]
    have s0 : f_Book_setCell P h (nI x) = if (mv_i g P 53) = (0 : Int32) then (if b01 (decide (i.toBitVec.toNat < (e.2 t).2.1)) = (0 : Int32) then (f_Book_setCell_46 P (nI x) i (mv_si g P 53 (-3 : Int32))) else (f_Book_setCell_46 P (nI x) i g)) else (f_Book_setCell_46 P (nI x) i g) := by
      unfold f_Book_setCell
      rw [hv, cond_true, hc, a5, e1, xhb_s, cond_true, r22 (P + 19) (by omega), a2, xvi_n (show t < 4100 by omega) (by decide), cond_true, cln (by omega), r22 (P + 4) (by omega), b6, hin, xhb_s]
      rfl
    have s46 : ∀ g', ¬ mv_i g' P 53 = 0 → f_Book_setCell_46 P (nI x) i g' = some g' := fun g' q => by
      unfold f_Book_setCell_46
      rw [if_neg q]
    cases q : Dz e s.1 s.2.1 with
    | none =>
      have ez : zCl t Dz Dy e s = (-3, s) := by unfold zCl; rw [q]
      have e3 := t1.2 q
      refine fin g ?_ f1.r (by rw [ez]; exact StR.m3 e3)
      rw [s0, if_neg (by rw [e3]; exact m3n), s46 g (by rw [e3]; exact m3n)]
    | some i' =>
      obtain ⟨rfl, z2⟩ := t1.1 i' q
      by_cases c : i.toBitVec.toNat < (e.2 t).2.1
      · have ei : i.toInt32 = nI i.toBitVec.toNat := by
          have := nJi (x := i.toBitVec.toNat) (by omega)
          rw [nJ_bv] at this
          exact this
        obtain ⟨v, g2, e2, f2, g3, t2⟩ := evX (a8.fr (f1.w.nf (m := x)) a6) (by omega) (E.fr f1.w) (by rw [f1.2.2.2.1 P 62 (by omega)]; exact h62)
        rw [z2] at t2
        have t2 := t2.1 rfl
        have u46 : f_Book_setCell_46 P (nI x) i g = if (mv_i g2 P 53) = (0 : Int32) then (xhv (f_Book_write P g2 (nI t) (nI i.toBitVec.toNat) v) fun g5 => some g5) else (some g2) := by
          unfold f_Book_setCell_46
          rw [if_pos z2, hv, cond_true, hc, r22 (P + 20) (by omega), a4, e2, xhb_s, cond_true, f2.2.2.2.2 (P + 19) x (by omega), r22 (P + 19) (by omega), a2, ei]
        cases q2 : Dy e s.1 s.2.1 with
        | none =>
          have ez : zCl t Dz Dy e s = (-3, s) := by unfold zCl; rw [q, q2]
          have e3 := t2.2 q2
          refine fin g2 ?_ (f1.trans f2).r (by rw [ez]; exact StR.m3 e3)
          rw [s0, if_pos z2, decide_eq_true c, if_neg (by decide), u46, if_neg (by rw [e3]; exact m3n)]
        | some v' =>
          obtain ⟨rfl, z3⟩ := t2.1 v' q2
          have ez : zCl t Dz Dy e s = (0, (s.1, wrT e t i.toBitVec.toNat v s.2.1, s.2.2)) := by
            unfold zCl; rw [q, q2]
            show (if i.toBitVec.toNat < (e.2 t).2.1 then _ else _) = _
            rw [if_pos c]
          obtain ⟨g4, d1, d2, d3, n', d4, d5⟩ := wri_S ((S.ef f1).ef f2) b3 (ncl_c c) (by omega) v
          rw [if_neg hcn] at d5
          refine fin g4 ?_ ((f1.trans f2).r.trans d2) (by rw [ez]; exact StR.ok (n := n') (d3.trans z3) (by omega) d5)
          rw [s0, if_pos z2, decide_eq_true c, if_neg (by decide), u46, if_pos z3, d1]
          rfl
      · have f3 : EFr P 0 g (mv_si g P 53 (-3)) := ⟨rfl, rfl, rfl, fun o k y => sin9 g _ y, fun _ _ _ => rfl⟩
        have e3 : mv_i (mv_si g P 53 (-3)) P 53 = -3 := mv_si_s _ _ _ _
        have ez : zCl t Dz Dy e s = (-3, s) := by
          unfold zCl; rw [q]
          cases Dy e s.1 s.2.1 with
          | none => rfl
          | some v => exact if_neg c
        refine fin (mv_si g P 53 (-3)) ?_ (f1.trans f3).r (by rw [ez]; exact StR.m3 e3)
        rw [s0, if_pos z2, decide_eq_false c, if_pos (by decide), s46 _ (by rw [e3]; exact m3n)]
  · obtain ⟨j, a1, a2, a3, a4, rfl, rfl⟩ := N
    have f3 : RFr P h (mv_si h P 53 (nI j)) := ⟨rfl, rfl, fun o k y => sin9 h _ (fun z => y ⟨z.1, Or.inl z.2⟩), fun _ _ => rfl, fun _ _ => rfl⟩
    refine ⟨mv_si h P 53 (nI j), ?_, f3, ⟨fun y => ?_, fun _ => mv_si_s _ _ _ _⟩⟩
    · rw [u0 _ a1, if_neg (by decide), if_neg (by decide), if_neg (by decide), if_pos (by decide), xk_s, a2]
      rfl
    · have y : nI j = nI 0 := y
      have := (nIinj (by omega) (by omega)).mp y
      omega
  · obtain ⟨hu, L, I⟩ := N
    have a1 : mv_a h (P + 18) x = 18 := by
      obtain ⟨y, n, Dy, D1, LW1, m1, D2, ⟨s1, -⟩, -⟩ := I
      exact s1
    obtain ⟨g, e1, f1, r1⟩ := K hu n x L LW lo D LW' hi s h k I S hk hh ht
    refine ⟨g, ?_, f1, r1⟩
    rw [u0 _ a1, if_neg (by decide), if_neg (by decide), if_neg (by decide), if_neg (by decide), e1]
    show f_Book_run_2 P kS nn (mv_a g (P + 22) x) g = _
    rw [f1.2.2.2.1 (P + 22) (by omega)]
theorem SN.lt {P T : Nat} {h : mv_H} {C : List Nat} {n u : Nat} {LW : List Nat} {lo x : Nat} {D : DnS} {LW' : List Nat} {hi : Nat} (N : SN P h T C n u LW lo x D LW' hi) : lo ≤ x ∧ x < hi ∧ x < 33000 := by
  cases n with
  | zero => exact N.elim
  | succ n => exact ⟨N.1.2.1, N.1.2.2, N.1.1⟩
theorem SG.le {P T : Nat} {h : mv_H} {C : List Nat} {n u : Nat} {b : Int32} : ∀ {L LW : List Nat} {lo : Nat} {a : Int32} {D : DnS} {LW' : List Nat} {hi : Nat}, SG P h (SN P h T C n u) L LW lo a D LW' hi b → lo ≤ hi := by
  intro L
  induction L with
  | nil => intro LW lo a D LW' hi s; exact Nat.le_of_eq s.2.2.2
  | cons x L ih =>
    intro LW lo a D LW' hi s
    obtain ⟨s1, D1, LW1, m1, D2, s2, s3, s4⟩ := s
    have := ih s4
    have := s2.lt
    omega
theorem run_V {P T : Nat} {C : List Nat} {e : E0q} {kS : Nat → Int32 → mv_H → Option mv_H} {u n : Nat} (K : KBr P T C e kS u) : ∀ (L LW : List Nat) (nn lo : Nat) (a : Int32) (D : DnS) (LW' : List Nat) (hi : Nat) (s : STq) (h : mv_H) (k : Nat), SG P h (SN P h T C n u) L LW lo a D LW' hi (-1) → SSq P T C LW e s h k → k ≤ lo → hi ≤ 12000 → mv_i h P 53 = 0 → hi < nn + lo → StO P T C LW' e hi (D e s) h (f_Book_run_2 P kS nn a h) := by
  intro L
  induction L with
  | nil =>
    intro LW nn lo a D LW' hi s h k G S hk hh ht hn
    obtain ⟨rfl, rfl, rfl, rfl⟩ := G
    obtain ⟨nn, rfl⟩ : ∃ q, nn = q + 1 := ⟨nn - 1, by omega⟩
    refine ⟨h, ?_, RFr.refl _ _, StR.ok (n := k) ht hk S⟩
    show fF_Book_run_2 P kS (f_Book_run_2 P kS nn) (-1) h = _
    unfold fF_Book_run_2
    rw [if_pos (by decide)]
  | cons x L ih =>
    intro LW nn lo a D LW' hi s h k G S hk hh ht hn
    obtain ⟨rfl, D1, LW1, m1, D2, s2, rfl, s4⟩ := G
    have hle := s4.le
    have hlt := s2.lt
    obtain ⟨nn, rfl⟩ : ∃ q, nn = q + 2 := ⟨nn - 2, by omega⟩
    obtain ⟨g, e1, f1, r1⟩ := stm_V K (nn := nn + 1) s2 S hk (by omega) ht
    unfold StO
    rw [e1]
    by_cases z : (D1 e s).1 = 0
    · obtain ⟨r2, k', r3, r4⟩ := r1.1 z
      have ez : zSq D1 D2 e s = D2 e (D1 e s).2 := by unfold zSq; rw [if_pos z]
      rw [ez]
      obtain ⟨g', x1, x2, x3⟩ := ih LW1 (nn + 1) m1 (mv_a h (P + 22) x) D2 LW' hi (D1 e s).2 g k' (s4.cg (SN.cg f1.af n u) (f1.2.2.2.1 (P + 22) (by omega))) r4 r3 hh r2 (by omega)
      exact ⟨g', x1, f1.trans x2, x3⟩
    · have ez : zSq D1 D2 e s = D1 e s := by unfold zSq; rw [if_neg z]
      have e5 := r1.2 z
      rw [ez]
      exact ⟨g, run_nt (by rw [e5]; exact z), f1, ⟨fun y => absurd y z, fun _ => e5⟩⟩
theorem BKq.hd {P T : Nat} {h : mv_H} {C : List Nat} {n u : Nat} {LW : List Nat} {lo : Nat} {a : Int32} {D : DnS} {LW' : List Nat} {hi : Nat} (B : BKq P h (SN P h T C n u) LW lo a D LW' hi) : (a = -1 ∨ ∃ x, a = nI x ∧ x < 33000) ∧ lo ≤ hi := by
  obtain ⟨L, G⟩ := B
  refine ⟨?_, G.le⟩
  cases L with
  | nil => exact Or.inl G.1
  | cons x L =>
    obtain ⟨s1, D1, LW1, m1, D2, s2, -⟩ := G
    exact Or.inr ⟨x, s1, s2.lt.2.2⟩
theorem brn_V {P T : Nat} {C : List Nat} {e : E0q} {kS : Nat → Int32 → mv_H → Option mv_H} {u n : Nat} (K : KRn P T C e kS (u - 1)) : ∀ (L : List Nat) (x nn : Nat) (LW : List Nat) (lo : Nat) (D : DnS) (LW' : List Nat) (hi : Nat) (s : STq) (h : mv_H) (k : Nat), IFq P h T C (BKq P h (SN P h T C n (u - 1))) (x :: L) LW lo D LW' hi → SSq P T C LW e s h k → k ≤ lo → hi ≤ 12000 → mv_i h P 53 = 0 → hi < nn + lo → StO P T C LW' e hi (D e s) h (f_Book_branch_2 P kS nn (nI x) h) := by
  intro L
  induction L with
  | nil =>
    intro x nn LW lo D LW' hi s h k I S hk hh ht hn
    have hl := I.lw
    obtain ⟨y, m, Dy, D1, LW1, m1, D2, ⟨s1, s2, s3, s4, s5, ⟨lb, hlb, s6⟩, s7, s8, s9, rfl⟩, q1, LW2, q2, q3, q4, rfl⟩ := I
    obtain ⟨nn, rfl⟩ : ∃ q, nn = q + 1 := ⟨nn - 1, by omega⟩
    obtain ⟨v, g, e1, f1, g1, t1⟩ := evX s5 (by omega) S.1 S.2.1
    rw [ht] at t1
    have t1 := t1.1 rfl
    have hv : xvi (nI x) 33000 = true := xvi_n s2 (by decide)
    have hc : (nI x).toNatClampNeg = x := cln (by omega)
    have r : ∀ o, ¬ o = P + 31 → mv_a g o = mv_a h o := fun o q => funext fun j => f1.2.2.2.2 o j (fun z => q z.1)
    have u0 : f_Book_branch_2 P kS (nn + 1) (nI x) h = f_Book_branch_26 P kS (f_Book_branch_2 P kS nn) (nI x) (if v = 0 then 0 else 1) g := by
      show fF_Book_branch_2 P kS (f_Book_branch_2 P kS nn) (nI x) h = _
      unfold fF_Book_branch_2
      rw [if_neg (nI_n0 (by omega)), hv, cond_true, hc, s3, e1, xhb_s]
      by_cases c : v = 0
      · rw [if_pos ((lg_cmp_eq _ _).mpr c), if_pos c]
      · rw [if_neg (fun y => c ((lg_cmp_eq _ _).mp y)), if_neg c]
    cases q : Dy e s.1 s.2.1 with
    | none =>
      have e3 := t1.2 q
      have ez : zIf Dy D1 D2 e s = (-3, s) := by unfold zIf; rw [q]
      refine ⟨g, ?_, f1.r, by rw [ez]; exact StR.m3 e3⟩
      rw [u0]
      unfold f_Book_branch_26
      rw [if_neg (by rw [e3]; exact m3n)]
    | some v' =>
      obtain ⟨rfl, z2⟩ := t1.1 v' q
      by_cases c : v = 0
      · have ez : zIf Dy D1 D2 e s = D2 e s := by
          unfold zIf; rw [q]
          show (if v = 0 then _ else _) = _
          rw [if_pos c]
        have hd := q2.hd
        have q2g : BKq P g (SN P g T C n (u - 1)) (padL LW LW1) (x + 1) (mv_a h (P + 21) x) D2 LW2 hi := q2.cg (SN.cg f1.r.af n (u - 1)) (r (P + 22) (by omega))
        obtain ⟨g', x1, x2, x3⟩ := K n (padL LW LW1) (x + 1) (mv_a h (P + 21) x) D2 LW2 hi s g k q2g ((S.ef f1).pad (fun i w hw => padL_in hw)) (by omega) hh z2
        have u1 : f_Book_branch_2 P kS (nn + 1) (nI x) h = some g' := by
          rw [u0, if_pos c]
          unfold f_Book_branch_26 f_Book_branch_84
          rw [if_pos z2, if_pos rfl, hv, cond_true, hc, r (P + 21) (by omega), x1]
          rcases hd.1 with y0 | ⟨y0, y1, y2⟩
          · rw [y0, if_pos (by decide)]; rfl
          · rw [y1, if_neg (nI_n0 (by omega)), xvi_n y2 (by decide), cond_true, cond_true, r (P + 25) (by omega), q1, if_pos rfl, ite_self]
            rfl
        rw [ez]
        refine ⟨g', u1, f1.r.trans x2, x3.le (Nat.le_refl _) (fun i w hw => ?_)⟩
        rcases padL_in hw with y0 | y0
        · exact Or.inl (q4.inn y0)
        · exact Or.inr y0
      · have ez : zIf Dy D1 D2 e s = D1 e s := by
          unfold zIf; rw [q]
          show (if v = 0 then _ else _) = _
          rw [if_neg c]
        have s6g : BKq P g (SN P g T C n (u - 1)) LW lb (mv_a h (P + 20) x) D1 LW1 m1 := s6.cg (SN.cg f1.r.af n (u - 1)) (r (P + 22) (by omega))
        obtain ⟨g', x1, x2, x3⟩ := K n LW lb (mv_a h (P + 20) x) D1 LW1 m1 s g k s6g (S.ef f1) (by omega) (by omega) z2
        have u1 : f_Book_branch_2 P kS (nn + 1) (nI x) h = some g' := by
          rw [u0, if_neg c]
          unfold f_Book_branch_26
          rw [if_pos z2, if_neg (by decide), hv, cond_true, hc, r (P + 20) (by omega), x1]
          rfl
        rw [ez]
        refine ⟨g', u1, f1.r.trans x2, x3.le (by omega) (fun i w hw => ?_)⟩
        rcases hl.1 i w hw with y0 | y0
        · exact Or.inl (s9.inn y0)
        · exact Or.inr y0
  | cons x' L ih =>
    intro x nn LW lo D LW' hi s h k I S hk hh ht hn
    have hl := I.lw
    obtain ⟨y, m, Dy, D1, LW1, m1, D2, ⟨s1, s2, s3, s4, s5, ⟨lb, hlb, s6⟩, s7, s8, s9, rfl⟩, q1, q2, q3⟩ := I
    have hx' : mv_a h (P + 18) x' = 18 ∧ x' < 33000 := by
      obtain ⟨y, n, Dy, D1, LW1, m1, D2, ⟨s1, s2, -⟩, -⟩ := q3
      exact ⟨s1, s2⟩
    have hl3 := q3.lw.2
    obtain ⟨nn, rfl⟩ : ∃ q, nn = q + 1 := ⟨nn - 1, by omega⟩
    obtain ⟨v, g, e1, f1, g1, t1⟩ := evX s5 (by omega) S.1 S.2.1
    rw [ht] at t1
    have t1 := t1.1 rfl
    have hv : xvi (nI x) 33000 = true := xvi_n s2 (by decide)
    have hc : (nI x).toNatClampNeg = x := cln (by omega)
    have r : ∀ o, ¬ o = P + 31 → mv_a g o = mv_a h o := fun o q => funext fun j => f1.2.2.2.2 o j (fun z => q z.1)
    have u0 : f_Book_branch_2 P kS (nn + 1) (nI x) h = f_Book_branch_26 P kS (f_Book_branch_2 P kS nn) (nI x) (if v = 0 then 0 else 1) g := by
      show fF_Book_branch_2 P kS (f_Book_branch_2 P kS nn) (nI x) h = _
      unfold fF_Book_branch_2
      rw [if_neg (nI_n0 (by omega)), hv, cond_true, hc, s3, e1, xhb_s]
      by_cases c : v = 0
      · rw [if_pos ((lg_cmp_eq _ _).mpr c), if_pos c]
      · rw [if_neg (fun y => c ((lg_cmp_eq _ _).mp y)), if_neg c]
    cases q : Dy e s.1 s.2.1 with
    | none =>
      have e3 := t1.2 q
      have ez : zIf Dy D1 D2 e s = (-3, s) := by unfold zIf; rw [q]
      refine ⟨g, ?_, f1.r, by rw [ez]; exact StR.m3 e3⟩
      rw [u0]
      unfold f_Book_branch_26
      rw [if_neg (by rw [e3]; exact m3n)]
    | some v' =>
      obtain ⟨rfl, z2⟩ := t1.1 v' q
      by_cases c : v = 0
      · have ez : zIf Dy D1 D2 e s = D2 e s := by
          unfold zIf; rw [q]
          show (if v = 0 then _ else _) = _
          rw [if_pos c]
        have q3g := q3.cg (B' := BKq P g (SN P g T C n (u - 1))) (fun _ _ _ _ _ _ b => b.cg (SN.cg f1.r.af n (u - 1)) (r (P + 22) (by omega))) f1.r.af
        obtain ⟨g', x1, x2, x3⟩ := ih x' nn (padL LW LW1) (x + 1) D2 LW' hi s g k q3g ((S.ef f1).pad (fun i w hw => padL_in hw)) (by omega) hh z2 (by omega)
        have u1 : f_Book_branch_2 P kS (nn + 1) (nI x) h = some g' := by
          rw [u0, if_pos c]
          unfold f_Book_branch_26
          rw [if_pos z2, if_pos rfl, hv, cond_true, hc, r (P + 21) (by omega), q1, if_neg (nI_n0 (by omega)), xvi_n hx'.2 (by decide), cond_true, cln (by omega), r (P + 18) (by omega), hx'.1, if_pos rfl, cond_true, r (P + 25) (by omega), if_neg q2]
          exact x1
        rw [ez]
        exact ⟨g', u1, f1.r.trans x2, x3⟩
      · have ez : zIf Dy D1 D2 e s = D1 e s := by
          unfold zIf; rw [q]
          show (if v = 0 then _ else _) = _
          rw [if_neg c]
        have s6g : BKq P g (SN P g T C n (u - 1)) LW lb (mv_a h (P + 20) x) D1 LW1 m1 := s6.cg (SN.cg f1.r.af n (u - 1)) (r (P + 22) (by omega))
        obtain ⟨g', x1, x2, x3⟩ := K n LW lb (mv_a h (P + 20) x) D1 LW1 m1 s g k s6g (S.ef f1) (by omega) (by omega) z2
        have u1 : f_Book_branch_2 P kS (nn + 1) (nI x) h = some g' := by
          rw [u0, if_neg c]
          unfold f_Book_branch_26
          rw [if_pos z2, if_neg (by decide), hv, cond_true, hc, r (P + 20) (by omega), x1]
          rfl
        rw [ez]
        refine ⟨g', u1, f1.r.trans x2, x3.le (by omega) (fun i w hw => ?_)⟩
        rcases hl.1 i w hw with y0 | y0
        · exact Or.inl (s9.inn y0)
        · exact Or.inr y0
/-! bodies -/
theorem fBU_0 (P nn : Nat) (a : Int32) (h : mv_H) : f_BookU P (nn + 1) 0 a h = f_Book_run P (f_BookU P nn) h a := by rw [f_BookU]; rfl
theorem fBU_1 (P nn : Nat) (a : Int32) (h : mv_H) : f_BookU P (nn + 1) 1 a h = f_Book_branch P (f_BookU P nn) h a := by rw [f_BookU]; rfl
theorem bdU (P T : Nat) (C : List Nat) (e : E0q) : ∀ (k u : Nat), (2 * u + 1 ≤ k → KRn P T C e (f_BookU P k) u) ∧ (2 * u ≤ k → KBr P T C e (f_BookU P k) u) := by
  intro k
  induction k with
  | zero => intro u; exact ⟨fun q => by omega, fun q q2 => by omega⟩
  | succ k ih =>
    intro u
    refine ⟨fun q => ?_, fun q q0 => ?_⟩
    · intro n LW lo a D LW' hi s h j B S hj hh ht
      obtain ⟨L, G⟩ := B
      rw [fBU_0]
      exact run_V ((ih u).2 (by omega)) L LW 200000 lo a D LW' hi s h j G S hj hh ht (by omega)
    · intro n x L LW lo D LW' hi s h j I S hj hh ht
      rw [fBU_1]
      exact brn_V ((ih (u - 1)).1 (by omega)) L x 200000 LW lo D LW' hi s h j I S hj hh ht (by omega)
