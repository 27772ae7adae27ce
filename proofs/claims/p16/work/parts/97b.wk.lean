/-! both machines in one state -/
theorem L2.sm {σ τ : mv_H} (h : L2 σ τ) : SM σ τ := Fx.up h (fun o k z => ⟨z.1, by omega, by omega⟩) (fun o k z => absurd z id) (fun o k z => absurd z id) (fun o z => absurd z id)
/-- the class's machine stays, but for what it counts beyond -/
def MKl (σ τ : mv_H) : Prop := (∀ k, ¬ k = 99 → mv_i τ 64 k = mv_i σ 64 k) ∧ mv_b τ 65 = mv_b σ 65
theorem MKp.l {σ τ : mv_H} (h : MKp σ τ) : MKl σ τ := ⟨fun k _ => h.1 k, h.2⟩
/-- the class runs P, the reference N; V the reference's values, V' the class's -/
def WKn (σ : mv_H) (N P : Nat) (r : SI × LZ × List DnS) (V V' : Nat → Nat → Int64) : Prop := mv_r σ 64 0 = some P ∧ mv_r σ 70 9 = some N ∧ (N = 74 ∨ N = 108) ∧ ((mv_i σ 70 11 = 0 ∧ (P = 32 ∨ P = 48) ∧ KOx P r σ ∧ SPq P r.1 σ ∧ RWb N r σ ∧ BVr N r σ V ∧ FTr r V ∧ VLr r σ V') ∨ (¬ mv_i σ 70 11 = 0 ∧ P = 145 ∧ r = rS ∧ RLs V σ ∧ VLr r σ V'))
/-- the counters are one -/
def CTq (σ : mv_H) : Prop := mv_i σ 64 9 = mv_i σ 70 14 ∧ mv_i σ 64 10 = mv_i σ 70 12 ∧ mv_i σ 64 11 = mv_i σ 70 13 ∧ mv_i σ 64 12 = mv_i σ 70 15
def WKq (σ : mv_H) : Prop := CTq σ ∧ ∃ N P r V, WKn σ N P r V V
theorem GOf.rk {σ τ : mv_H} (g : GOf σ τ) {N : Nat} (hN : N = 74 ∨ N = 108) : RKp N σ τ := ⟨fun k _ => by rw [(g 70 (by omega) (by omega)).1], fun o q => ⟨(g o (by omega) (by omega)).2.2.2.1, (g o (by omega) (by omega)).2.2.2.2⟩, fun k _ => by rw [(g N (by omega) (by omega)).1]⟩
theorem KOx.gp {P : Nat} {r : SI × LZ × List DnS} {σ τ : mv_H} (h : KOx P r σ) (g : GPr σ τ) (hP : P = 32 ∨ P = 48 ∨ P = 145) : KOx P r τ := h.fr (fun k _ => by rw [(g.1 P (by omega)).1]) (fun o k ho _ => by rw [(g.1 o (by omega)).2.1]) (fun k _ => by rw [(g.1 (P + 7) (by omega)).2.1]) (fun k _ => by rw [(g.1 (P + 9) (by omega)).2.1]) (fun k _ => by rw [(g.1 (P + 10) (by omega)).2.2])
theorem KOx.mm {P : Nat} {r : SI × LZ × List DnS} {σ τ : mv_H} (h : KOx P r σ) (g : MM σ τ) (hP : P = 32 ∨ P = 48 ∨ P = 145) : KOx P r τ := h.fr (fun k _ => (g P (by omega)).1 k) (fun o k ho _ => (g o (by omega)).2.2.2.1 k) (fun k _ => (g (P + 7) (by omega)).2.2.2.1 k) (fun k _ => (g (P + 9) (by omega)).2.2.2.1 k) (fun k _ => by rw [(g (P + 10) (by omega)).2.2.2.2])
theorem VLr.mm {r : SI × LZ × List DnS} {V : Nat → Nat → Int64} {σ τ : mv_H} (h : VLr r σ V) (g : MM σ τ) : VLr r τ V := fun t i ht hi => by
  rw [(g 65 (by omega)).2.2.2.2]
  exact h t i ht hi
theorem VLr.b {r : SI × LZ × List DnS} {V : Nat → Nat → Int64} {σ τ : mv_H} (h : VLr r σ V) (e : mv_b τ 65 = mv_b σ 65) : VLr r τ V := fun t i ht hi => by
  rw [e]
  exact h t i ht hi
theorem RLs.rk {V : Nat → Nat → Int64} {σ τ : mv_H} {N : Nat} (h : RLs V σ) (k : RKp N σ τ) : RLs V τ := by
  obtain ⟨a, b, c, d⟩ := h
  unfold RLs
  rw [k.1 6 (by omega), (k.2.1 72 (by omega)).1, (k.2.1 73 (by omega)).1]
  exact ⟨a, b, c, d⟩
theorem WKn.c {σ τ : mv_H} {N P : Nat} {r : SI × LZ × List DnS} {V V' V2 : Nat → Nat → Int64} (h : WKn σ N P r V V') (g : GOf σ τ) (p : GPr σ τ) (hv : VLr r τ V2) : WKn τ N P r V V2 := by
  obtain ⟨h1, h2, h3, h4⟩ := h
  have e70 := g 70 (by omega) (by omega)
  refine ⟨p.2.trans h1, by rw [e70.2.2.1]; exact h2, h3, ?_⟩
  rw [e70.1]
  have k := g.rk h3
  rcases h4 with ⟨a, b, c, d, e, f, i, j⟩ | ⟨a, b, c, d, e⟩
  · exact Or.inl ⟨a, b, c.gp p (by omega), d.gp p (by omega), e.rk k, f.rk k, i, hv⟩
  · exact Or.inr ⟨a, b, c, d.rk k, hv⟩
theorem WKn.v {σ : mv_H} {N P : Nat} {r : SI × LZ × List DnS} {V V' : Nat → Nat → Int64} (h : WKn σ N P r V V') : VLr r σ V' := by
  obtain ⟨-, -, -, h4⟩ := h
  rcases h4 with ⟨-, -, -, -, -, -, -, j⟩ | ⟨-, -, -, -, e⟩
  · exact j
  · exact e
theorem WKn.p {σ : mv_H} {N P : Nat} {r : SI × LZ × List DnS} {V V' : Nat → Nat → Int64} (h : WKn σ N P r V V') : P = 32 ∨ P = 48 ∨ P = 145 := by
  obtain ⟨-, -, -, h4⟩ := h
  rcases h4 with ⟨-, b, -⟩ | ⟨-, b, -⟩ <;> omega
/-- a call of the reference -/
theorem WKn.nx {σ τ : mv_H} {N P : Nat} {r : SI × LZ × List DnS} {V V' V2 : Nat → Nat → Int64} (h : WKn σ N P r V V') (g : MM σ τ) (er : mv_r τ 70 9 = mv_r σ 70 9) (e11 : mv_i τ 70 11 = mv_i σ 70 11) (hb : mv_i σ 70 11 = 0 → RWb N r σ → RWb N r τ ∧ BVr N r τ V2 ∧ FTr r V2) (hs : ¬ mv_i σ 70 11 = 0 → RLs V2 τ) : WKn τ N P r V2 V' := by
  have hP := h.p
  obtain ⟨h1, h2, h3, h4⟩ := h
  refine ⟨by rw [(g 64 (by omega)).2.2.1 0]; exact h1, er.trans h2, h3, ?_⟩
  rw [e11]
  rcases h4 with ⟨a, b, c, d, e, f, i, j⟩ | ⟨a, b, c, d, e⟩
  · obtain ⟨x, y, z⟩ := hb a e
    exact Or.inl ⟨a, b, c.mm g hP, d.mm g hP, x, y, z, j.mm g⟩
  · exact Or.inr ⟨a, b, c, hs a, e.mm g⟩
theorem WKq.c {σ τ : mv_H} (h : WKq σ) (g : GOf σ τ) (p : GPr σ τ) (m : MKl σ τ) : WKq τ := by
  obtain ⟨⟨c1, c2, c3, c4⟩, N, P, r, V, w⟩ := h
  have e70 := (g 70 (by omega) (by omega)).1
  refine ⟨⟨?_, ?_, ?_, ?_⟩, N, P, r, V, w.c g p (w.v.b m.2)⟩
  · rw [m.1 9 (by omega), e70]; exact c1
  · rw [m.1 10 (by omega), e70]; exact c2
  · rw [m.1 11 (by omega), e70]; exact c3
  · rw [m.1 12 (by omega), e70]; exact c4
theorem WKq.m {σ τ : mv_H} (h : WKq σ) (g : MM σ τ) (k : RLk σ τ) : WKq τ := by
  obtain ⟨⟨c1, c2, c3, c4⟩, N, P, r, V, w⟩ := h
  have w3 := w.2.2.1
  have q := k.2.2 N w3
  refine ⟨⟨?_, ?_, ?_, ?_⟩, N, P, r, V, w.nx g k.1 k.2.1 (fun a e => ?_) (fun a => ?_)⟩
  · rw [(g 64 (by omega)).1 9, q.1 14 (by omega)]; exact c1
  · rw [(g 64 (by omega)).1 10, q.1 12 (by omega)]; exact c2
  · rw [(g 64 (by omega)).1 11, q.1 13 (by omega)]; exact c3
  · rw [(g 64 (by omega)).1 12, q.1 15 (by omega)]; exact c4
  · rcases w.2.2.2 with ⟨-, -, -, -, -, f, i, -⟩ | ⟨z, -⟩
    · exact ⟨e.rk q, f.rk q, i⟩
    · exact absurd a z
  · rcases w.2.2.2 with ⟨z, -⟩ | ⟨-, -, -, d, -⟩
    · exact absurd z a
    · exact d.rk q
/-- what the class's walks want -/
def CLq (P R M : Nat) (r : SI × LZ × List DnS) (V : Nat → Nat → Int64) (σ : mv_H) : Prop := KOx P r σ ∧ SPq P r.1 σ ∧ TCq P R M r σ ∧ VLr r σ V ∧ LIq r ∧ UQs r.1
theorem WKq.cl {ext : mv_Sh} {σ : mv_H} {P R M k : Nat} (h : WKq σ) (hQ : CQq ext σ) (hC : LC ext σ P R M k) (hm : P = 145 → ext = me) (hR : ((P = 32 ∨ P = 48) ∧ R = 32768 ∧ M = 512) ∨ (P = 145 ∧ R = 8192 ∧ M = 48)) : ∃ N r V, CTq σ ∧ WKn σ N P r V V ∧ CLq P R M r V σ := by
  obtain ⟨ct, N, P', r, V, w⟩ := h
  have e1 := w.1
  rw [hC.2.2.1.2.2] at e1
  have e1 := Option.some.inj e1
  subst e1
  obtain ⟨th, sl, hO, ho0, ho1, ho2⟩ := hC.2.2.2.2.1
  have key : ∀ (T : TreeOK P M σ) (S : SPq P r.1 σ), TCq P R M r σ := fun T S => by
    have et : th = r.1.tl.length := by
      have h1 := hO.1.1
      obtain ⟨-, s2, -, -, ⟨-, s5, -, -⟩, -⟩ := S
      rw [s2, nIi (by omega)] at h1
      omega
    rcases hO.2 with z | z
    · exact absurd T (fun q => z.no q)
    · rw [et] at z
      exact Or.inl ⟨T, z.2⟩
  refine ⟨N, r, V, ct, w, ?_⟩
  have hTK := hQ.2.2
  rcases w.2.2.2 with ⟨a, b, c, d, e, f, i, j⟩ | ⟨a, b, c, d, e⟩
  · have hM : M = 512 := by omega
    have T : TreeOK P M σ := by
      rw [hM]
      rcases b with b | b
      · subst b; exact (hTK.1 w.1).1
      · subst b; exact (hTK.2.1 w.1).1
    exact ⟨c, d, key T d, j, e.li, e.2.2.2.2⟩
  · have hM : M = 48 := by omega
    have hS := hQ.2.1 (hm b)
    subst b
    subst hM
    subst c
    have h48 : mv_i σ 145 10 = 48 := LC48 hC
    have T : TreeOK 145 48 σ := hTK.2.2 w.1
    exact ⟨hS.kx, hS.sp h48, key T (hS.sp h48), e, LIq_S, hS.uq h48⟩
/-! step -/
def CT1 (x : Int32) (τ : mv_H) : Prop := mv_i τ 64 9 = x ∧ mv_i τ 64 10 = (if x = 0 then mv_i τ 70 12 + 1 else mv_i τ 70 12) ∧ mv_i τ 64 11 = (if x = 0 then mv_i τ 70 13 else mv_i τ 70 13 + 1) ∧ mv_i τ 64 12 = mv_i τ 70 15
def WS1 (w : Int64) (v : Int32) (τ : mv_H) : Prop := ∃ N P r V, WKn τ N P r V (stF r w V).2 ∧ v = (stF r w V).1 ∧ CT1 (stF r w V).1 τ
theorem WS1.of {σ τ : mv_H} {N P : Nat} {r : SI × LZ × List DnS} {V : Nat → Nat → Int64} {w : Int64} {v : Int32} (ct : CTq σ) (hW : WKn σ N P r V V) (f : FM σ τ) (o : OWr r w V σ τ) (hv : v = mv_i τ 64 9) : WS1 w v τ := by
  obtain ⟨o1, o2, o3, o4, o12⟩ := o
  have g := (GF.fm f).go.1
  have e70 := (g 70 (by omega) (by omega)).1
  refine ⟨N, P, r, V, hW.c g (GPr.fm f) o2, hv.trans o1, o1, ?_, ?_, ?_⟩
  · rw [o3, e70, ct.2.1]
  · rw [o4, e70, ct.2.2.1]
  · rw [o12, e70]; exact ct.2.2.2
/-- where the shipped program runs, it is the shipped one -/
def SHq (σ : mv_H) : Prop := mv_r σ 64 0 = some 145 → SHP σ ∧ mv_i σ 145 10 = 48
theorem SHq.of {ext : mv_Sh} {σ : mv_H} {k : Nat} (hQ : CQq ext σ) (hL : LI ext σ k) : SHq σ := fun e => by
  obtain ⟨a, b⟩ := cq_me hL e
  exact ⟨hQ.2.1 a, b⟩
theorem ref_st {σ : mv_H} {w : Int64} {v : Int32} {N : Nat} (hS : SHq σ) (h : WS1 w v σ) (hN : mv_r σ 70 9 = some N) : ∃ τ, f_Model_step N σ w = some (v, τ) ∧ QF N σ τ ∧ WKq τ := by
  obtain ⟨N', P, r, V, W, hv, c1, c2, c3, c4⟩ := h
  have e := W.2.1
  rw [hN] at e
  have e := Option.some.inj e
  subst e
  have hN3 := W.2.2.1
  rcases id W.2.2.2 with ⟨a, b, c, d, e, f, i, j⟩ | ⟨a, b, c, d, e⟩
  · obtain ⟨τ, q1, q2, ⟨q3, q4, q5, q6, q7⟩, q8⟩ := mst_e hN3 w e f i a
    have g := q2.qf.mm hN3
    refine ⟨τ, by rw [hv]; exact q1, q2.qf, ⟨?_, ?_, ?_, ?_⟩, N, P, r, _, W.nx g (by rw [q2.1]) (q2.qf.sh hN3) (fun _ y => ⟨y.ms hN3 q2, q3, q4⟩) (fun z => absurd a z)⟩
    · rw [(g 64 (by omega)).1 9, q5]; exact c1
    · rw [(g 64 (by omega)).1 10, q6]; exact c2
    · rw [(g 64 (by omega)).1 11, q7]; exact c3
    · rw [(g 64 (by omega)).1 12, q2.2.2.1 70 15 (by omega) (by omega)]; exact c4
  · subst b
    subst c
    obtain ⟨s1, s2⟩ := hS W.1
    obtain ⟨d1, d2⟩ := dcv_S s1 s2 w
    obtain ⟨τ, q1, q2, q3, q5, q6, q7, q8⟩ := sst_e (B := N) (w := w) d d1 d2 a
    have g := (q2.qf (B := N)).mm hN3
    have i2 : ∀ k, ¬ k = 2 → mv_i (mv_si σ 70 2 0) 70 k = mv_i σ 70 k := fun k hk => mv_si_o _ _ (by omega)
    refine ⟨τ, by rw [hv]; exact q1, q2.qf, ⟨?_, ?_, ?_, ?_⟩, N, 145, rS, _, W.nx g (by rw [q2.2.1]) (q2.qf.sh hN3) (fun z => absurd z a) (fun _ => q3)⟩
    · rw [(g 64 (by omega)).1 9, q5]; exact c1
    · rw [(g 64 (by omega)).1 10, q6, i2 12 (by omega)]; exact c2
    · rw [(g 64 (by omega)).1 11, q7, i2 13 (by omega)]; exact c3
    · rw [(g 64 (by omega)).1 12, q2.2.2.1 70 15 (by omega)]; exact c4
/-! run -/
def BDn (n : Int32) : Prop := n.toInt < 1 ∨ 500 < n.toInt
def CT2 (x : Int32) (m : Nat) (τ : mv_H) : Prop := mv_i τ 64 9 = x ∧ mv_i τ 64 10 = mv_i τ 70 12 + nI m ∧ mv_i τ 64 11 = (if x = 0 then mv_i τ 70 13 else mv_i τ 70 13 + 1) ∧ mv_i τ 64 12 = mv_i τ 70 15
def WR1 (n v : Int32) (τ : mv_H) : Prop := (v = 1 ∧ BDn n ∧ WKq τ) ∨ (v = 2 ∧ ¬ BDn n ∧ WKq τ ∧ ∀ P, mv_r τ 64 0 = some P → mv_i τ P 8 < 0) ∨ (v = 0 ∧ ∃ N P r V m, (n = nI m ∧ 0 < m ∧ m ≤ 500) ∧ ¬ mv_i τ P 8 < 0 ∧ WKn τ N P r V (rnF r m V).2.2 ∧ CT2 (rnF r m V).2.1 (rnF r m V).1 τ ∧ mv_b τ 142 0 = (nI (rnF r m V).1).toInt64)
theorem th_89 {P th sl : Nat} {σ : mv_H} (h : Th P σ th sl) : ((mv_i σ P 9).toInt < 0 → mv_i σ P 8 < 0) ∧ (0 ≤ (mv_i σ P 9).toInt → ¬ mv_i σ P 8 < 0) := by
  have h8 := h.2.2.2.2.2.2.2
  constructor
  · intro z
    exact Int32.lt_iff_toInt_lt.mpr (by show (mv_i σ P 8).toInt < 0; omega)
  · intro z q
    have q : (mv_i σ P 8).toInt < 0 := Int32.lt_iff_toInt_lt.mp q
    omega
theorem WR1.of {σ τ : mv_H} {N P th sl : Nat} {r : SI × LZ × List DnS} {V : Nat → Nat → Int64} {n v : Int32} (ct : CTq σ) (hW : WKn σ N P r V V) (hT : Th P σ th sl) (hG : GO σ τ) (h : (v = 1 ∧ BDn n ∧ τ = σ) ∨ (v = 2 ∧ ¬ BDn n ∧ (mv_i σ P 9).toInt < 0 ∧ τ = σ) ∨ (v = 0 ∧ ∃ N9, n = nI N9 ∧ 0 < N9 ∧ N9 ≤ 500 ∧ 0 ≤ (mv_i σ P 9).toInt ∧ ∃ x, RNr r N9 V σ τ x ∧ mv_b τ 142 0 = x.toInt64)) : WR1 n v τ := by
  obtain ⟨t1, t2⟩ := th_89 hT
  rcases h with ⟨a, b, c⟩ | ⟨a, b, c, d⟩ | ⟨a, m, m1, m2, m3, m4, x, ⟨x1, x2, x3, x4, x5, x12⟩, x6⟩
  · subst c
    exact Or.inl ⟨a, b, ct, N, P, r, V, hW⟩
  · subst d
    refine Or.inr (Or.inl ⟨a, b, ⟨ct, N, P, r, V, hW⟩, fun P' e => ?_⟩)
    rw [hW.1] at e
    have e := Option.some.inj e
    subst e
    exact t1 c
  · have g := hG.1.1
    have e70 := (g 70 (by omega) (by omega)).1
    have hP := hW.p
    refine Or.inr (Or.inr ⟨a, N, P, r, V, m, ⟨m1, m2, m3⟩, ?_, hW.c g hG.2 x3, ⟨x2, ?_, ?_, ?_⟩, ?_⟩)
    · rw [(hG.2.1 P (by omega)).1]
      exact t2 m4
    · rw [x4, e70, ct.2.1]
    · rw [x5, e70, ct.2.2.1]
    · rw [x12, e70]; exact ct.2.2.2
    · rw [x6, x1]
theorem f_8_18 {N P : Nat} {r : SI × LZ × List DnS} {σ : mv_H} (K : KOx P r σ) (W : RWb N r σ) : (mv_i σ P 8 < 0 → ¬ (0 : Int32) ≤ mv_i σ N 18) ∧ (¬ mv_i σ P 8 < 0 → (0 : Int32) ≤ mv_i σ N 18) := by
  have f1 := K.2.2.1
  have f2 := W.2.1.2.1
  have l1 := K.1.2.2
  unfold FEk at f1
  unfold FEg at f2
  revert f1 f2
  cases r.1.fe with
  | none =>
    intro f1 f2
    have f1 : mv_i σ P 8 < 0 := f1
    have f2 : mv_i σ N 18 = -1 ∧ mv_i σ N 21 = -1 := f2
    refine ⟨fun _ => ?_, fun z => absurd f1 z⟩
    rw [f2.1]
    decide
  | some p =>
    intro f1 f2
    have f1 : (r.1.lk p.1).1 = 1 ∧ (r.1.lk p.2).1 = 2 ∧ mv_i σ P 8 = nI (r.2.1 p.1) ∧ mv_i σ P 9 = nI (r.2.1 p.2) := f1
    have f2 : (r.1.lk p.1).1 = 1 ∧ (r.1.lk p.2).1 = 2 ∧ mv_i σ N 18 = nI (r.2.1 p.1) ∧ mv_i σ N 21 = nI (r.2.1 p.2) := f2
    have := l1 p.1
    have hn : (0 : Int32) ≤ nI (r.2.1 p.1) := Int32.le_iff_toInt_le.mpr (by rw [nIi (by omega)]; show (0 : Int) ≤ _; omega)
    rw [f1.2.2.1, f2.2.2.1]
    exact ⟨fun z => absurd hn (Int32.not_le.mpr z), fun _ => hn⟩
theorem bd_n {n : Int32} (h : BDn n) : n < (1 : Int32) ∨ ¬ n ≤ (500 : Int32) := by
  rcases h with h | h
  · exact Or.inl (Int32.lt_iff_toInt_lt.mpr h)
  · refine Or.inr (fun z => ?_)
    have z : n.toInt ≤ 500 := Int32.le_iff_toInt_le.mp z
    omega
theorem bd_m {n : Int32} (h : ¬ BDn n) : ¬ n < (1 : Int32) ∧ n ≤ (500 : Int32) := by
  unfold BDn at h
  refine ⟨fun z => ?_, Int32.le_iff_toInt_le.mpr (by show n.toInt ≤ 500; omega)⟩
  have z : n.toInt < 1 := Int32.lt_iff_toInt_lt.mp z
  omega
theorem run_1 {N : Nat} {σ : mv_H} {n : Int32} (h : BDn n) : f_Model_run N σ n = some (0, mv_si σ 70 2 1) := by
  have go : f_Model_run_13 N n σ = some (0, mv_si σ 70 2 1) := by
    unfold f_Model_run_13 f_Model_run_39
    rw [xk_s, show mv_i (mv_si σ 70 2 1) 70 2 = 1 from mv_si_s _ _ _ _, if_neg (by decide)]
  unfold f_Model_run
  rcases bd_n h with z | z
  · rw [if_pos z]; exact go
  · by_cases y : n < (1 : Int32)
    · rw [if_pos y]; exact go
    · rw [if_neg y, if_neg z]; exact go
theorem run_2 {N : Nat} {σ : mv_H} {n : Int32} (h : ¬ BDn n) (h11 : mv_i σ 70 11 = 0) (h18 : ¬ (0 : Int32) ≤ mv_i σ N 18) : f_Model_run N σ n = some (0, mv_si σ 70 2 2) := by
  obtain ⟨a, b⟩ := bd_m h
  unfold f_Model_run
  rw [if_neg a, if_pos b, if_pos h11, if_neg h18]
  unfold f_Model_run_39
  rw [xk_s, show mv_i (mv_si σ 70 2 2) 70 2 = 2 from mv_si_s _ _ _ _, if_neg (by decide)]
theorem ref_rn {σ : mv_H} {n v : Int32} {N : Nat} (hS : SHq σ) (h : WR1 n v σ) (hN : mv_r σ 70 9 = some N) : ∃ x τ, f_Model_run N σ n = some (x, τ) ∧ QF N σ τ ∧ WKq τ ∧ mv_i τ 70 2 = v ∧ (v = 0 → mv_b σ 142 0 = x.toInt64) := by
  have z2 : ∀ x : Int32, L2 σ (mv_si σ 70 2 x) := fun x => L2.si Fx.rf
  have n74 : ∀ {N'}, WKq σ → mv_r σ 70 9 = some N' → N' = 74 ∨ N' = 108 := fun w e => by
    obtain ⟨-, N', P, r, V, W⟩ := w
    have e2 := W.2.1
    rw [e] at e2
    have e2 := Option.some.inj e2
    subst e2
    exact W.2.2.1
  rcases h with ⟨a, b, c⟩ | ⟨a, b, c, d⟩ | ⟨a, N', P, r, V, m, ⟨m1, m2, m3⟩, p8, W, ⟨c1, c2, c3, c4⟩, y⟩
  · refine ⟨_, _, run_1 b, (z2 1).qf, c.m ((z2 1).qf (N := N) |>.mm (n74 c hN)) (z2 1).rk, by rw [mv_si_s, a], fun z => ?_⟩
    rw [a] at z
    exact absurd z (by decide)
  · obtain ⟨ct, N', P, r, V, W⟩ := id c
    have e := W.2.1
    rw [hN] at e
    have e := Option.some.inj e
    subst e
    have hN3 := W.2.2.1
    have p8 := d P W.1
    rcases id W.2.2.2 with ⟨a', b', c', d', e', f', i', j'⟩ | ⟨a', b', c', d', e'⟩
    · refine ⟨_, _, run_2 b a' ((f_8_18 c' e').1 p8), (z2 2).qf, c.m ((z2 2).qf (N := N) |>.mm hN3) (z2 2).rk, by rw [mv_si_s, a], fun z => ?_⟩
      rw [a] at z
      exact absurd z (by decide)
    · subst b'
      have K := (hS W.1).1.kx
      have f1 := K.2.2.1
      have l1 := K.1.2.2 [112, 99]
      have f1 : (rS.1.lk [112, 99]).1 = 1 ∧ (rS.1.lk [109]).1 = 2 ∧ mv_i σ 145 8 = nI (rS.2.1 [112, 99]) ∧ mv_i σ 145 9 = nI (rS.2.1 [109]) := f1
      rw [f1.2.2.1] at p8
      have p8 : (nI (rS.2.1 [112, 99])).toInt < 0 := Int32.lt_iff_toInt_lt.mp p8
      rw [nIi (by omega)] at p8
      omega
  · have e := W.2.1
    rw [hN] at e
    have e := Option.some.inj e
    subst e
    have hN3 := W.2.2.1
    rcases id W.2.2.2 with ⟨a', b', c', d', e', f', i', j'⟩ | ⟨a', b', c', d', e'⟩
    · obtain ⟨x, τ, q1, q2, ⟨q3, q4, q5, q6, q7, q8⟩, q9⟩ := mrun_e hN3 e' f' i' a' m2 m3 ((f_8_18 c' e').2 p8)
      have g := q2.qf.mm hN3
      refine ⟨x, τ, by rw [m1]; exact q1, q2.qf, ⟨⟨?_, ?_, ?_, ?_⟩, N, P, r, _, W.nx g (by rw [q2.1]) (q2.qf.sh hN3) (fun _ y => ⟨y.ms hN3 q2, q5, q6⟩) (fun z => absurd a' z)⟩, by rw [q9, a], fun _ => by rw [y, q3]⟩
      · rw [(g 64 (by omega)).1 9, q4]; exact c1
      · rw [(g 64 (by omega)).1 10, q7]; exact c2
      · rw [(g 64 (by omega)).1 11, q8]; exact c3
      · rw [(g 64 (by omega)).1 12, q2.2.2.1 70 15 (by omega) (by omega)]; exact c4
    · subst b'
      subst c'
      obtain ⟨s1, s2⟩ := hS W.1
      obtain ⟨x, τ, q1, q2, ⟨q3, q4, q5, q7, q8⟩, q9⟩ := srun_e (B := N) (N := m) (fun w => dcv_S s1 s2 w) d' a' m2 m3
      have g := (q2.qf (B := N)).mm hN3
      refine ⟨x, τ, by rw [m1]; exact q1, q2.qf, ⟨⟨?_, ?_, ?_, ?_⟩, N, 145, rS, _, W.nx g (by rw [q2.2.1]) (q2.qf.sh hN3) (fun z => absurd z a') (fun _ => q5)⟩, by rw [q9, a], fun _ => by rw [y, q3]⟩
      · rw [(g 64 (by omega)).1 9, q4]; exact c1
      · rw [(g 64 (by omega)).1 10, q7]; exact c2
      · rw [(g 64 (by omega)).1 11, q8]; exact c3
      · rw [(g 64 (by omega)).1 12, q2.2.2.1 70 15 (by omega)]; exact c4
/-! poke -/
def WP1 (t i : Int32) (w : Int64) (v : Int32) (τ : mv_H) : Prop := (v = 1 ∧ WKq τ) ∨ (v = 0 ∧ CTq τ ∧ ∃ N P r V tn n, t = nI tn ∧ i = nI n ∧ tn < r.1.tl.length ∧ n < ncT (r.1.tl.getD tn (0, 0, false)) ∧ (r.1.tl.length ≤ 64 ∧ fsL r.1.tl r.1.tl.length ≤ 65600) ∧ WKn τ N P r V (wrT (eW r 0) tn n w V))
theorem fs_le {P : Nat} {r : SI × LZ × List DnS} {σ : mv_H} (K : KOx P r σ) (S : SPq P r.1 σ) : r.1.tl.length ≤ 64 ∧ fsL r.1.tl r.1.tl.length ≤ 65600 := by
  have a := K.1.1
  have b := K.2.1.2.1
  obtain ⟨-, -, -, -, ⟨-, -, c3, -⟩, -⟩ := S
  omega
theorem WP1.of {σ τ : mv_H} {N P : Nat} {r : SI × LZ × List DnS} {V : Nat → Nat → Int64} {t i v : Int32} {w : Int64} (ct : CTq σ) (hW : WKn σ N P r V V) (K : KOx P r σ) (S : SPq P r.1 σ) (hG : GO σ τ) (h : (v = 1 ∧ ¬ HSq (mv_i σ P 1) (mv_a σ (P + 2) t.toNatClampNeg) t i ∧ τ = σ) ∨ (v = 0 ∧ HSq (mv_i σ P 1) (mv_a σ (P + 2) t.toNatClampNeg) t i ∧ F6v σ τ ∧ ∃ tn n, t = nI tn ∧ i = nI n ∧ tn < r.1.tl.length ∧ n < ncT (r.1.tl.getD tn (0, 0, false)) ∧ VLr r τ (wrT (eW r 0) tn n w V))) : PV τ t i v ∧ WP1 t i w v τ := by
  have hp : PV σ t i v := fun P' e => by
    rw [hW.1] at e
    have e := Option.some.inj e
    subst e
    rcases h with ⟨a, b, -⟩ | ⟨a, b, -⟩
    · exact Or.inl ⟨a, b⟩
    · exact Or.inr ⟨a, b⟩
  refine ⟨hp.gp hG.2 ⟨P, hW.1, hW.p⟩, ?_⟩
  rcases h with ⟨a, b, c⟩ | ⟨a, b, c, tn, n, x1, x2, x3, x4, x5⟩
  · subst c
    exact Or.inl ⟨a, ct, N, P, r, V, hW⟩
  · refine Or.inr ⟨a, ?_, N, P, r, V, tn, n, x1, x2, x3, x4, fs_le K S, hW.c hG.1.1 hG.2 x5⟩
    unfold CTq at ct ⊢
    rw [c.1]
    exact ct
theorem pn_in {P : Nat} {r : SI × LZ × List DnS} {tn n tn' n' : Nat} {t i : Int32} (b : r.1.tl.length ≤ 64 ∧ fsL r.1.tl r.1.tl.length ≤ 65600) (h1 : t = nI tn) (h2 : i = nI n) (h3 : tn < r.1.tl.length) (h4 : n < ncT (r.1.tl.getD tn (0, 0, false))) (g1 : t = nI tn') (g2 : i = nI n') (g3 : tn' < r.1.tl.length) (g4 : n' < ncT (r.1.tl.getD tn' (0, 0, false))) : tn' = tn ∧ n' = n := by
  have a1 := fsL_n r.1.tl tn h3
  have a2 := fsL_le r.1.tl (tn + 1)
  have b1 := fsL_n r.1.tl tn' g3
  have b2 := fsL_le r.1.tl (tn' + 1)
  exact ⟨(nIinj (by omega) (by omega)).mp (g1.symm.trans h1), (nIinj (by omega) (by omega)).mp (g2.symm.trans h2)⟩
theorem ref_po {ext : mv_Sh} {σ : mv_H} {t i v : Int32} {w : Int64} {N k : Nat} (hQ : CQq ext σ) (hL : LI ext σ k) (hP : PV σ t i v) (h : WP1 t i w v σ) (hN : mv_r σ 70 9 = some N) : ∃ τ, f_Model_poke N σ t i w = some τ ∧ QF N σ τ ∧ WKq τ := by
  rcases h with ⟨a, c⟩ | ⟨a, ct, N', P, r, V, tn, n, x1, x2, x3, x4, x5, W⟩
  · obtain ⟨ct, N', P, r, V, W⟩ := id c
    have e := W.2.1
    rw [hN] at e
    have e := Option.some.inj e
    subst e
    have hN3 := W.2.2.1
    have nt : ¬ THq N σ t i := fun z => by
      rcases hP P W.1 with ⟨-, q⟩ | ⟨q, -⟩
      · exact q ((hs_eq hQ hL W.1 hN t i).mpr z)
      · rw [a] at q; exact absurd q (by decide)
    have l2 : L2 σ (mv_si σ 70 2 1) := L2.si Fx.rf
    refine ⟨mv_si σ 70 2 1, ?_, l2.qf, c.m (l2.qf (N := N) |>.mm hN3) l2.rk⟩
    rcases id W.2.2.2 with ⟨a', b', c', d', e', f', i', j'⟩ | ⟨a', b', c', d', e'⟩
    · rcases mpo_b hN3 e' f' i' a' w with ⟨-, q⟩ | ⟨q, -⟩
      · exact q
      · exact absurd q nt
    · rcases mpo_s (B := N) (t := t) (i := i) d' a' w with ⟨-, q⟩ | ⟨q, -⟩
      · exact q
      · exact absurd q nt
  · have e := W.2.1
    rw [hN] at e
    have e := Option.some.inj e
    subst e
    have hN3 := W.2.2.1
    have yt : THq N σ t i := by
      rcases hP P W.1 with ⟨q, -⟩ | ⟨-, q⟩
      · rw [a] at q; exact absurd q (by decide)
      · exact (hs_eq hQ hL W.1 hN t i).mp q
    obtain ⟨c1, c2, c3, c4⟩ := ct
    have i2 : ∀ o k, ¬ (o = 70 ∧ k = 2) → mv_i (mv_si σ 70 2 0) o k = mv_i σ o k := fun o k hk => mv_si_o _ _ hk
    have l2 : L2 σ (mv_si σ 70 2 0) := L2.si Fx.rf
    rcases id W.2.2.2 with ⟨a', b', c', d', e', f', i', j'⟩ | ⟨a', b', c', d', e'⟩
    · rcases mpo_b hN3 e' f' i' a' w with ⟨q, -⟩ | ⟨-, tn', n', τ, y1, y2, y3, y4, y5, y6, y7, y8⟩
      · exact absurd yt q
      · obtain ⟨rfl, rfl⟩ := pn_in (P := P) x5 x1 x2 x3 x4 y1 y2 y3 y4
        have q := (l2.qf (N := N)).tr y8.qf
        have g := q.mm hN3
        have f9 : MSf N σ τ := ⟨by rw [y8.1]; rfl, fun o k z => y8.2.1 o k (by omega), fun o k z z2 => (y8.2.2.1 o k (by omega)).trans (i2 o k (by omega)), fun o z => y8.2.2.2.1 o (by omega), fun o z => y8.2.2.2.2 o (by omega)⟩
        refine ⟨τ, y5, q, ⟨?_, ?_, ?_, ?_⟩, N, P, r, _, W.nx g (by rw [f9.1]) (q.sh hN3) (fun _ y => ⟨y.ms hN3 f9, y6, y7⟩) (fun z => absurd a' z)⟩
        · rw [(g 64 (by omega)).1 9, y8.2.2.1 70 14 (by omega), i2 70 14 (by omega)]; exact c1
        · rw [(g 64 (by omega)).1 10, y8.2.2.1 70 12 (by omega), i2 70 12 (by omega)]; exact c2
        · rw [(g 64 (by omega)).1 11, y8.2.2.1 70 13 (by omega), i2 70 13 (by omega)]; exact c3
        · rw [(g 64 (by omega)).1 12, y8.2.2.1 70 15 (by omega), i2 70 15 (by omega)]; exact c4
    · subst b'
      subst c'
      rcases mpo_s (B := N) (t := t) (i := i) d' a' w with ⟨q, -⟩ | ⟨-, tn', n', τ, y1, y2, y3, y4, y5, y6, y8⟩
      · exact absurd yt q
      · obtain ⟨rfl, rfl⟩ := pn_in (P := 145) x5 x1 x2 x3 x4 y1 y2 y3 y4
        have q := (l2.qf (N := N)).tr y8.qf
        have g := q.mm hN3
        refine ⟨τ, y5, q, ⟨?_, ?_, ?_, ?_⟩, N, 145, rS, _, W.nx g (by rw [y8.2.1]; rfl) (q.sh hN3) (fun z => absurd z a') (fun _ => y6)⟩
        · rw [(g 64 (by omega)).1 9, y8.2.2.1 70 14 (by omega), i2 70 14 (by omega)]; exact c1
        · rw [(g 64 (by omega)).1 10, y8.2.2.1 70 12 (by omega), i2 70 12 (by omega)]; exact c2
        · rw [(g 64 (by omega)).1 11, y8.2.2.1 70 13 (by omega), i2 70 13 (by omega)]; exact c3
        · rw [(g 64 (by omega)).1 12, y8.2.2.1 70 15 (by omega), i2 70 15 (by omega)]; exact c4
/-! peek -/
def PKV (τ : mv_H) (t i v : Int32) : Prop := ∀ P, mv_r τ 64 0 = some P → ((v = 1 ∧ ¬ HSq (mv_i τ P 1) (mv_a τ (P + 2) t.toNatClampNeg) t i) ∨ (v = 0 ∧ HSq (mv_i τ P 1) (mv_a τ (P + 2) t.toNatClampNeg) t i ∧ mv_b τ 142 0 = mv_b τ 65 ((mv_a τ (P + 3) t.toNatClampNeg).toNatClampNeg + i.toNatClampNeg)))
theorem vl_at {P : Nat} {r : SI × LZ × List DnS} {V : Nat → Nat → Int64} {σ : mv_H} {tn n : Nat} {t i : Int32} (K : KOx P r σ) (S : SPq P r.1 σ) (hV : VLr r σ V) (h1 : t = nI tn) (h2 : i = nI n) (h3 : tn < r.1.tl.length) (h4 : n < ncT (r.1.tl.getD tn (0, 0, false))) : mv_b σ 65 ((mv_a σ (P + 3) t.toNatClampNeg).toNatClampNeg + i.toNatClampNeg) = V tn n := by
  obtain ⟨b1, b2⟩ := fs_le K S
  have a1 := fsL_n r.1.tl tn h3
  have a2 := fsL_le r.1.tl (tn + 1)
  rw [h1, h2, cln (by omega), cln (by omega), (K.2.1.2.2 tn h3).1, cln (by omega)]
  exact hV tn n h3 h4
theorem ref_pk {ext : mv_Sh} {σ : mv_H} {t i v : Int32} {N k : Nat} (hQ : CQq ext σ) (hL : LI ext σ k) (hP : PKV σ t i v) (c : WKq σ) (hN : mv_r σ 70 9 = some N) : ∃ x τ, f_Model_peek N σ t i = some (x, τ) ∧ L2 σ τ ∧ mv_i τ 70 2 = v ∧ (v = 0 → mv_b σ 142 0 = x) := by
  obtain ⟨ct, N', P, r, V, W⟩ := id c
  have e := W.2.1
  rw [hN] at e
  have e := Option.some.inj e
  subst e
  have hN3 := W.2.2.1
  have hq := hs_eq hQ hL W.1 hN t i
  have l2 : ∀ x : Int32, L2 σ (mv_si σ 70 2 x) := fun x => L2.si Fx.rf
  have hv := hP P W.1
  rcases id W.2.2.2 with ⟨a', b', c', d', e', f', i', j'⟩ | ⟨a', b', c', d', e'⟩
  · rcases mpe_b hN3 e' f' a' (t := t) (i := i) with ⟨q, q2⟩ | ⟨q, tn, n, y1, y2, y3, y4, y5⟩
    · rcases hv with ⟨v1, -⟩ | ⟨-, v2, -⟩
      · exact ⟨_, _, q2, l2 1, by rw [mv_si_s, v1], fun z => by rw [v1] at z; exact absurd z (by decide)⟩
      · exact absurd (hq.mp v2) q
    · rcases hv with ⟨-, v2⟩ | ⟨v1, -, v3⟩
      · exact absurd (hq.mpr q) v2
      · exact ⟨_, _, y5, l2 0, by rw [mv_si_s, v1], fun _ => by rw [v3]; exact vl_at c' d' j' y1 y2 y3 y4⟩
  · subst b'
    subst c'
    obtain ⟨s1, s2⟩ := SHq.of hQ hL W.1
    rcases mpe_s (B := N) (t := t) (i := i) d' a' with ⟨q, q2⟩ | ⟨q, tn, n, y1, y2, y3, y4, y5⟩
    · rcases hv with ⟨v1, -⟩ | ⟨-, v2, -⟩
      · exact ⟨_, _, q2, l2 1, by rw [mv_si_s, v1], fun z => by rw [v1] at z; exact absurd z (by decide)⟩
      · exact absurd (hq.mp v2) q
    · rcases hv with ⟨-, v2⟩ | ⟨v1, -, v3⟩
      · exact absurd (hq.mpr q) v2
      · exact ⟨_, _, y5, l2 0, by rw [mv_si_s, v1], fun _ => by rw [v3]; exact vl_at s1.kx (s1.sp s2) e' y1 y2 y3 y4⟩
/-! decode -/
theorem ref_dc {σ : mv_H} {w : Int64} {N : Nat} (c : WKq σ) (hN : mv_r σ 70 9 = some N) : ∃ x τ, f_Model_decode N σ w = some (x, τ) ∧ QF N σ τ ∧ RLk σ τ := by
  obtain ⟨ct, N', P, r, V, W⟩ := id c
  have e := W.2.1
  rw [hN] at e
  have e := Option.some.inj e
  subst e
  have hN3 := W.2.2.1
  rcases id W.2.2.2 with ⟨a', b', c', d', e', f', i', j'⟩ | ⟨a', b', c', d', e'⟩
  · obtain ⟨x, τ, q1, q2, q3, q4, q5, q6, q7, q8, q9⟩ := mdc_e hN3 w e' a'
    exact ⟨x, τ, q1, q2.qf, mdc_r hN3 q2 q5 q6 q8⟩
  · have l2 : L2 σ (mv_si σ 70 2 0) := L2.si Fx.rf
    exact ⟨_, _, sdc_e w a', l2.qf, l2.rk⟩
/-! build -/
theorem sOK_x {X : TX} {s : SI} (h : sOK X = some s) : ∃ lz B, tTx X = some (s, lz, B) ∧ aptL (s.ops.map Prod.snd) = true := by
  unfold sOK at h
  cases e : sTx X with
  | none => rw [e] at h; cases h
  | some s0 =>
    rw [e] at h
    have h : (if aptL (s0.ops.map Prod.snd) = true then some s0 else none) = some s := h
    by_cases c : aptL (s0.ops.map Prod.snd) = true
    · rw [if_pos c] at h
      have h := Option.some.inj h
      subst h
      obtain ⟨lz, B, t⟩ := tTx_of e
      exact ⟨lz, B, t, c⟩
    · rw [if_neg c] at h; cases h
theorem VLr.z {P : Nat} {r : SI × LZ × List DnS} {τ : mv_H} (K : KOx P r τ) (S : SPq P r.1 τ) (h : ∀ i, i < (mv_i τ P 6).toNatClampNeg → mv_b τ 65 i = 0) : VLr r τ (fun _ _ => 0) := fun t i ht hi => by
  obtain ⟨b1, b2⟩ := fs_le K S
  have a1 := fsL_n r.1.tl t ht
  have a2 := fsL_le r.1.tl (t + 1)
  refine h _ ?_
  rw [K.2.1.1, cln (by omega)]
  omega
theorem FTr.z {r : SI × LZ × List DnS} : FTr r (fun _ _ => 0) := fun t i _ _ => Nat.two_pow_pos _
theorem WKq.bd {σ τ υ : mv_H} {X : TX} {v w : Int32} (h : WKq σ) (hG : GOb σ τ) (hBW : BW X v τ) (hK : KH σ τ v) (hBL : BLq X σ v τ) (hM : MM τ υ) (hB : BM X w υ) (hKB : mv_i υ 70 2 = 1 → KBq τ υ) (hBZ : BZw X τ υ) : WKq υ := by
  obtain ⟨⟨c1, c2, c3, c4⟩, N, P, r, V, W⟩ := h
  have hP := W.p
  obtain ⟨w1, w2, w3, w4⟩ := W
  have e70 := hG.1 70 (by omega) (by omega)
  rcases hBW with ⟨a, b⟩ | ⟨a, s, b, -, T, t1, t2, t3, t4⟩
  · rcases hB with ⟨c, d⟩ | ⟨c, s', d, -⟩
    · obtain ⟨k1, k2, k3, k4, k5⟩ := hK.1 a P w1
      have mk := hBL.1 a
      have n1 : mv_r τ 70 9 = some N := by rw [e70.2.2.1]; exact w2
      obtain ⟨q1, q2, -⟩ := hKB c N n1
      have rk : RKp N σ υ := (hG.1.rk w3).tr (hBZ.2 c N n1)
      have e65 : mv_b υ 65 = mv_b σ 65 := (hM 65 (by omega)).2.2.2.2.trans mk.2
      refine ⟨⟨?_, ?_, ?_, ?_⟩, N, P, r, V, by rw [(hM 64 (by omega)).2.2.1 0]; exact k1, q1, w3, ?_⟩
      · rw [(hM 64 (by omega)).1 9, mk.1 9, rk.1 14 (by omega)]; exact c1
      · rw [(hM 64 (by omega)).1 10, mk.1 10, rk.1 12 (by omega)]; exact c2
      · rw [(hM 64 (by omega)).1 11, mk.1 11, rk.1 13 (by omega)]; exact c3
      · rw [(hM 64 (by omega)).1 12, mk.1 12, rk.1 15 (by omega)]; exact c4
      rw [q2, e70.1]
      rcases w4 with ⟨a', b', c', d', e', f', i', j'⟩ | ⟨a', b', c', d', e'⟩
      · have kx : KOx P r τ := c'.fr (fun k _ => by rw [k4]) (fun o k ho _ => by
          rcases ho with ho | ho
          · rw [ho, (k5 3 (by decide)).1]
          · rw [ho, (k5 4 (by decide)).1]) (fun k _ => by rw [(k5 7 (by decide)).1]) (fun k _ => by rw [(k5 9 (by decide)).1]) (fun k _ => by rw [(k5 10 (by decide)).2])
        exact Or.inl ⟨a', b', kx.mm hM hP, (k2 _ d').mm hM hP, e'.rk rk, f'.rk rk, i', j'.b e65⟩
      · exact Or.inr ⟨a', b', c', d'.rk rk, e'.b e65⟩
    · rw [b] at d; cases d
  · rcases hB with ⟨c, d⟩ | ⟨c, s', d, -, i11, N', n1, n2, n3⟩
    · rw [b] at d; cases d
    · rw [b] at d
      cases d
      obtain ⟨lz, B, hr, hap⟩ := sOK_x b
      obtain ⟨kf, ⟨l10, l11, l9, l12⟩, lz0⟩ := hBL.2 a T t2
      obtain ⟨z1, z12, z13, z14, z15⟩ := hBZ.1 c
      obtain ⟨x1, x2, x3⟩ := z1 N' n2 _ hr
      have hT : T = 32 ∨ T = 48 ∨ T = 145 := by omega
      have kx : KOx T (s, lz, B) τ := (kf _ hr).x
      have vl := VLr.z kx t3 lz0
      refine ⟨⟨?_, ?_, ?_, ?_⟩, N', T, (s, lz, B), fun _ _ => 0, by rw [(hM 64 (by omega)).2.2.1 0]; exact t2, n2, n1, Or.inl ⟨i11, t1, kx.mm hM hT, t3.mm hM hT, ⟨n3, x1, x2, IT_tx hr, (uq_of t3 hap).s t3⟩, x3, FTr.z, vl.mm hM⟩⟩
      · rw [(hM 64 (by omega)).1 9, l9, z14, e70.1]; exact c1
      · rw [(hM 64 (by omega)).1 10, l10, z12]
      · rw [(hM 64 (by omega)).1 11, l11, z13]
      · rw [(hM 64 (by omega)).1 12, l12, z15, e70.1]; exact c4
theorem BLq.toR {σ τ : mv_H} {k : Nat} {v : Int32} (h : BLq (txT (cc σ k) k) σ v τ) (t : TEQ σ) (g : GOb σ τ) : BLq (txT (ck τ k) k) σ v τ := by
  have e : ck τ k = cc σ k := funext fun p => by
    unfold ck cc
    rw [(g.1 71 (by omega) (by omega)).2.2.2.1, ← (show mv_a σ 1 = mv_a σ 71 from t)]
  rw [e]
  exact h
/-! ship -/
def WS9 (τ : mv_H) : Prop := (mv_i τ 64 10 = 0 ∧ mv_i τ 64 11 = 0 ∧ mv_i τ 64 9 = mv_i τ 70 14 ∧ mv_i τ 64 12 = mv_i τ 70 15) ∧ (∀ i, i < (mv_i τ 145 6).toNatClampNeg → mv_b τ 65 i = 0) ∧ mv_i τ 145 10 = 48
theorem WS9.of {σ τ : mv_H} (h : WKq σ) (e70 : mv_i τ 70 = mv_i σ 70) (l : LDz 145 σ τ) (h48 : mv_i τ 145 10 = 48) : WS9 τ := by
  obtain ⟨⟨c1, -, -, c4⟩, -⟩ := h
  obtain ⟨⟨l10, l11, l9, l12⟩, lz⟩ := l
  exact ⟨⟨l10, l11, by rw [l9, e70]; exact c1, by rw [l12, e70]; exact c4⟩, lz, h48⟩
theorem WKq.sh {τ υ : mv_H} (h : WS9 τ) (c : CS9 τ) (g : MM τ υ) (z : SZq τ υ) (hr : mv_r υ 70 9 = mv_r τ 70 9) (h1 : mv_i υ 70 11 = 1) : WKq υ := by
  obtain ⟨⟨l10, l11, l9, l12⟩, lz, h48⟩ := h
  obtain ⟨⟨N, n1, n2⟩, r64, sh⟩ := c
  obtain ⟨⟨⟨z6, z14, z15⟩, z72, z73⟩, z12, z13⟩ := z
  have vl := VLr.z sh.kx (sh.sp h48) lz
  refine ⟨⟨?_, ?_, ?_, ?_⟩, N, 145, rS, fun _ _ => 0, by rw [(g 64 (by omega)).2.2.1 0]; exact r64, hr.trans n1, n2, Or.inr ⟨by rw [h1]; decide, rfl, rfl, ⟨?_, fun i hi => ?_, z72 0 (by decide), fun i hi => ?_⟩, vl.mm g⟩⟩
  · rw [(g 64 (by omega)).1 9, l9, z14]
  · rw [(g 64 (by omega)).1 10, l10, z12]
  · rw [(g 64 (by omega)).1 11, l11, z13]
  · rw [(g 64 (by omega)).1 12, l12, z15]
  · rw [z6]; rfl
  · rw [z72 i hi]; rfl
  · rw [z73 i hi]; rfl

/-! count -/
theorem cn_eq {ext : mv_Sh} {σ : mv_H} {k : Nat} {n v w : Int32} (hQ : CQq ext σ) (hL : LI ext σ k) (hJ : MJ σ k) (hW : WKq σ) (hv : ∀ P, mv_r σ 64 0 = some P → v = cnv n (cnC P σ)) (hw : ∀ N, mv_r σ 70 9 = some N → w = cnv n (cnR N σ)) : v = w := by
  obtain ⟨⟨c1, c2, c3, c4⟩, N, P, r, V, W⟩ := id hW
  rw [hv P W.1, hw N W.2.1]
  have h0 : mv_i σ 0 1 = mv_i σ 70 1 := by
    apply Int32.toInt_inj.mp
    rw [hJ.2]
    rcases hL with q | q | q
    · exact q.2.1.1
    · exact q.2.1.1
    · exact q.2.2.1.1
  refine cnv_c (fun k hk => ?_)
  rcases W.2.2.2 with ⟨a, b, c, d, e, -⟩ | ⟨a, b, c, -⟩
  · obtain ⟨s0, s1, s7, s10, -⟩ := d
    obtain ⟨r20, r17, r19, r29, -⟩ := e.1
    rcases (show k = 0 ∨ k = 1 ∨ k = 2 ∨ k = 3 ∨ k = 4 ∨ k = 5 ∨ k = 6 ∨ k = 7 by omega) with q | q | q | q | q | q | q | q <;> subst q
    · exact h0
    · show mv_i σ P 0 = (if mv_i σ 70 11 = 0 then mv_i σ N 20 else 32)
      rw [if_pos a, s0, r20]
    · show mv_i σ P 1 = (if mv_i σ 70 11 = 0 then mv_i σ N 17 else 3)
      rw [if_pos a, s1, r17]
    · show mv_i σ P 7 = (if mv_i σ 70 11 = 0 then mv_i σ N 19 else 32800)
      rw [if_pos a, s7, r19]
    · show mv_i σ P 10 = (if mv_i σ 70 11 = 0 then mv_i σ N 29 else 48)
      rw [if_pos a, s10, r29]
    · exact c2
    · exact c3
    · exact c4
  · subst b
    obtain ⟨t1, t2⟩ := SHq.of hQ hL W.1
    obtain ⟨s0, s1, s7, s10, -⟩ := t1.sp t2
    rcases (show k = 0 ∨ k = 1 ∨ k = 2 ∨ k = 3 ∨ k = 4 ∨ k = 5 ∨ k = 6 ∨ k = 7 by omega) with q | q | q | q | q | q | q | q <;> subst q
    · exact h0
    · show mv_i σ 145 0 = (if mv_i σ 70 11 = 0 then mv_i σ N 20 else 32)
      rw [if_neg a, s0]; rfl
    · show mv_i σ 145 1 = (if mv_i σ 70 11 = 0 then mv_i σ N 17 else 3)
      rw [if_neg a, s1]; rfl
    · show mv_i σ 145 7 = (if mv_i σ 70 11 = 0 then mv_i σ N 19 else 32800)
      rw [if_neg a, s7]; rfl
    · show mv_i σ 145 10 = (if mv_i σ 70 11 = 0 then mv_i σ N 29 else 48)
      rw [if_neg a, t2]
    · exact c2
    · exact c3
    · exact c4

set_option maxRecDepth 100000 in
theorem w_Loom_decode (l : Launch) {dA : FieldType → ClassId} {D : va_G} {al : Nat → Nat} {ext : mv_Sh} {sk sv : Nat → Nat} (hi : mv_inj (mg dA D al ext)) (σ : mv_H) (w9 : Int64) (k9 : Nat) (hC : LI ext σ k9) (hQ : CQq ext σ) (hW : WKq σ) : mv_C l y_Loom_decode (Cond.code y_Loom_decode b_Loom_decode 3 (Option.some Jvm.ClassFile.FieldType.int) :: ma) ({ frames := 2, cells := 0, slots := 0, locals := 51 }) (mg dA D al ext) (mKt sk sv) [.ref (al 0), .long w9] σ (mv_Ri (fun v σ1 => (GO σ σ1 ∧ MKl σ σ1) ∧ LI ext σ1 k9)) := by
  rcases hC with hC | hC | hC
  · obtain ⟨N, r, V, hCT, hWn, hK, hS, hOO, hV, hL9, hU⟩ := hW.cl hQ hC (fun z => absurd z (by decide)) (by decide)
    exact (c_kv_Loom_decode_a l hi σ w9 hC.2.2.1 (hOO.resolve_right (fun z => z.1)).1 (hU.q hS)).kt (ri_imp fun v τ h => by obtain ⟨h, -⟩ := h; subst h; exact ⟨⟨GO.rf, MKp.rf.l⟩, Or.inl (hC)⟩)
  · obtain ⟨N, r, V, hCT, hWn, hK, hS, hOO, hV, hL9, hU⟩ := hW.cl hQ hC (fun z => absurd z (by decide)) (by decide)
    exact (c_kv_Loom_decode_b l hi σ w9 hC.2.2.1 (hOO.resolve_right (fun z => z.1)).1 (hU.q hS)).kt (ri_imp fun v τ h => by obtain ⟨h, -⟩ := h; subst h; exact ⟨⟨GO.rf, MKp.rf.l⟩, Or.inr (Or.inl (hC))⟩)
  · obtain ⟨rfl, hC⟩ := hC
    obtain ⟨N, r, V, hCT, hWn, hK, hS, hOO, hV, hL9, hU⟩ := hW.cl hQ hC (fun _ => rfl) (by decide)
    exact (c_kv_Loom_decode_c l hi σ w9 hC.2.2.1 (hOO.resolve_right (fun z => z.1)).1 (hU.q hS)).kt (ri_imp fun v τ h => by obtain ⟨h, -⟩ := h; subst h; exact ⟨⟨GO.rf, MKp.rf.l⟩, Or.inr (Or.inr ⟨rfl, hC⟩)⟩)
set_option maxRecDepth 100000 in
theorem w_Loom_step (l : Launch) {dA : FieldType → ClassId} {D : va_G} {al : Nat → Nat} {ext : mv_Sh} {sk sv : Nat → Nat} (hi : mv_inj (mg dA D al ext)) (σ : mv_H) (w9 : Int64) (k9 : Nat) (hC : LI ext σ k9) (hQ : CQq ext σ) (hW : WKq σ) : mv_C l y_Loom_step (Cond.code y_Loom_step b_Loom_step 3 (Option.some Jvm.ClassFile.FieldType.int) :: ma) ({ frames := 6, cells := 0, slots := 0, locals := 152 }) (mg dA D al ext) (mKt sk sv) [.ref (al 0), .long w9] σ (mv_Ri (fun v σ1 => (GO σ σ1 ∧ LI ext σ1 k9) ∧ WS1 w9 v σ1)) := by
  rcases hC with hC | hC | hC
  · obtain ⟨N, r, V, hCT, hWn, hK, hS, hOO, hV, hL9, hU⟩ := hW.cl hQ hC (fun z => absurd z (by decide)) (by decide)
    obtain ⟨th, sl, hO, ho0, ho1, ho2⟩ := hC.2.2.2.2.1
    exact (c_kq_Loom_step_a l hi σ w9 hC.2.2.1 r V hK hS hOO hV hL9 hU th sl hO.1).kt (ri_imp fun v τ h => ⟨⟨⟨(GF.fm h.1).go, GPr.fm h.1⟩, Or.inl (hC.fm h.1)⟩, WS1.of hCT hWn h.1 h.2.1 h.2.2⟩)
  · obtain ⟨N, r, V, hCT, hWn, hK, hS, hOO, hV, hL9, hU⟩ := hW.cl hQ hC (fun z => absurd z (by decide)) (by decide)
    obtain ⟨th, sl, hO, ho0, ho1, ho2⟩ := hC.2.2.2.2.1
    exact (c_kq_Loom_step_b l hi σ w9 hC.2.2.1 r V hK hS hOO hV hL9 hU th sl hO.1).kt (ri_imp fun v τ h => ⟨⟨⟨(GF.fm h.1).go, GPr.fm h.1⟩, Or.inr (Or.inl (hC.fm h.1))⟩, WS1.of hCT hWn h.1 h.2.1 h.2.2⟩)
  · obtain ⟨rfl, hC⟩ := hC
    obtain ⟨N, r, V, hCT, hWn, hK, hS, hOO, hV, hL9, hU⟩ := hW.cl hQ hC (fun _ => rfl) (by decide)
    obtain ⟨th, sl, hO, ho0, ho1, ho2⟩ := hC.2.2.2.2.1
    exact (c_kq_Loom_step_c l hi σ w9 hC.2.2.1 r V hK hS hOO hV hL9 hU th sl hO.1).kt (ri_imp fun v τ h => ⟨⟨⟨(GF.fm h.1).go, GPr.fm h.1⟩, Or.inr (Or.inr ⟨rfl, hC.fm h.1⟩)⟩, WS1.of hCT hWn h.1 h.2.1 h.2.2⟩)
set_option maxRecDepth 100000 in
theorem w_Loom_trap (l : Launch) {dA : FieldType → ClassId} {D : va_G} {al : Nat → Nat} {ext : mv_Sh} {sk sv : Nat → Nat} (hi : mv_inj (mg dA D al ext)) (σ : mv_H) (k9 : Nat) (hC : LI ext σ k9) : mv_C l y_Loom_trap (Cond.code y_Loom_trap b_Loom_trap 1 (Option.some Jvm.ClassFile.FieldType.int) :: ma) ({ frames := 0, cells := 0, slots := 0, locals := 0 }) (mg dA D al ext) (mKt sk sv) [.ref (al 0)] σ (mv_Ri (fun v σ1 => (GL σ σ1 ∧ LI ext σ1 k9) ∧ v = mv_i σ1 64 9)) := by
  rcases hC with hC | hC | hC
  · exact (c_kk_Loom_trap l hi σ hC.2.2.1.1).kt (ri_imp fun v τ h => by obtain ⟨h, hv⟩ := h; subst h; exact ⟨⟨GL.rf, Or.inl (hC)⟩, hv⟩)
  · exact (c_kk_Loom_trap l hi σ hC.2.2.1.1).kt (ri_imp fun v τ h => by obtain ⟨h, hv⟩ := h; subst h; exact ⟨⟨GL.rf, Or.inr (Or.inl (hC))⟩, hv⟩)
  · obtain ⟨rfl, hC⟩ := hC
    exact (c_kk_Loom_trap l hi σ hC.2.2.1.1).kt (ri_imp fun v τ h => by obtain ⟨h, hv⟩ := h; subst h; exact ⟨⟨GL.rf, Or.inr (Or.inr ⟨rfl, hC⟩)⟩, hv⟩)
set_option maxRecDepth 100000 in
theorem w_Law_peek (l : Launch) {dA : FieldType → ClassId} {D : va_G} {al : Nat → Nat} {ext : mv_Sh} {sk sv : Nat → Nat} (hi : mv_inj (mg dA D al ext)) (σ : mv_H) (hlt : l.stackTraces = false) (t9 i9 : Int32) (k9 : Nat) (hC : LI ext σ k9) : mv_C l y_Law_peek (Cond.codeWith y_Law_peek b_Law_peek 5 (Option.some Jvm.ClassFile.FieldType.int) [((0 : Nat), (9 : Nat), (12 : Nat), (34 : Nat))] :: ma) ({ frames := 7, cells := 1, slots := 6, locals := 103 }) (mg dA D al ext) (mKt sk sv) [.ref (al 0), .int t9, .int i9, .ref (al 142)] σ (mv_Ri (fun v σ1 => (GL σ σ1 ∧ LI ext σ1 k9) ∧ PKV σ1 t9 i9 v)) := by
  rcases hC with hC | hC | hC
  · exact (c_Law_peek_a l hi σ hlt t9 i9 k9 hC).imp (ri_imp fun v τ h => ⟨⟨h.1, Or.inl (h.2.1)⟩, fun P e => by rw [h.2.1.2.2.1.2.2] at e; cases e; exact h.2.2⟩)
  · exact (c_Law_peek_b l hi σ hlt t9 i9 k9 hC).imp (ri_imp fun v τ h => ⟨⟨h.1, Or.inr (Or.inl (h.2.1))⟩, fun P e => by rw [h.2.1.2.2.1.2.2] at e; cases e; exact h.2.2⟩)
  · obtain ⟨rfl, hC⟩ := hC
    exact (c_Law_peek_c l hi σ hlt t9 i9 k9 hC).imp (ri_imp fun v τ h => ⟨⟨h.1, Or.inr (Or.inr ⟨rfl, h.2.1⟩)⟩, fun P e => by rw [h.2.1.2.2.1.2.2] at e; cases e; exact h.2.2⟩)
set_option maxRecDepth 100000 in
theorem w_Law_poke (l : Launch) {dA : FieldType → ClassId} {D : va_G} {al : Nat → Nat} {ext : mv_Sh} {sk sv : Nat → Nat} (hi : mv_inj (mg dA D al ext)) (σ : mv_H) (hlt : l.stackTraces = false) (t9 i9 : Int32) (w9 : Int64) (k9 : Nat) (hC : LI ext σ k9) (hQ : CQq ext σ) (hW : WKq σ) : mv_C l y_Law_poke (Cond.codeWith y_Law_poke b_Law_poke 6 (Option.some Jvm.ClassFile.FieldType.int) [((0 : Nat), (7 : Nat), (10 : Nat), (34 : Nat))] :: ma) ({ frames := 7, cells := 1, slots := 6, locals := 105 }) (mg dA D al ext) (mKt sk sv) [.ref (al 0), .int t9, .int i9, .long w9] σ (mv_Ri (fun v σ1 => (GO σ σ1 ∧ LI ext σ1 k9) ∧ PV σ1 t9 i9 v ∧ WP1 t9 i9 w9 v σ1)) := by
  rcases hC with hC | hC | hC
  · obtain ⟨N, r, V, hCT, hWn, hK, hS, hOO, hV, hL9, hU⟩ := hW.cl hQ hC (fun z => absurd z (by decide)) (by decide)
    exact (c_Law_poke_a l hi σ hlt t9 i9 w9 k9 hC r V hK hS hV).imp (ri_imp fun v τ h => ⟨⟨h.1, Or.inl (h.2.1)⟩, WP1.of hCT hWn hK hS h.1 h.2.2⟩)
  · obtain ⟨N, r, V, hCT, hWn, hK, hS, hOO, hV, hL9, hU⟩ := hW.cl hQ hC (fun z => absurd z (by decide)) (by decide)
    exact (c_Law_poke_b l hi σ hlt t9 i9 w9 k9 hC r V hK hS hV).imp (ri_imp fun v τ h => ⟨⟨h.1, Or.inr (Or.inl (h.2.1))⟩, WP1.of hCT hWn hK hS h.1 h.2.2⟩)
  · obtain ⟨rfl, hC⟩ := hC
    obtain ⟨N, r, V, hCT, hWn, hK, hS, hOO, hV, hL9, hU⟩ := hW.cl hQ hC (fun _ => rfl) (by decide)
    exact (c_Law_poke_c l hi σ hlt t9 i9 w9 k9 hC r V hK hS hV).imp (ri_imp fun v τ h => ⟨⟨h.1, Or.inr (Or.inr ⟨rfl, h.2.1⟩)⟩, WP1.of hCT hWn hK hS h.1 h.2.2⟩)
set_option maxRecDepth 100000 in
theorem w_Law_run (l : Launch) {dA : FieldType → ClassId} {D : va_G} {al : Nat → Nat} {ext : mv_Sh} {sk sv : Nat → Nat} (hi : mv_inj (mg dA D al ext)) (σ : mv_H) (hlt : l.stackTraces = false) (n9 : Int32) (k9 : Nat) (hC : LI ext σ k9) (hQ : CQq ext σ) (hW : WKq σ) : mv_C l y_Law_run (Cond.codeWith y_Law_run b_Law_run 4 (Option.some Jvm.ClassFile.FieldType.int) [((0 : Nat), (9 : Nat), (12 : Nat), (19 : Nat)), ((0 : Nat), (9 : Nat), (15 : Nat), (25 : Nat))] :: ma) ({ frames := 8, cells := 1, slots := 6, locals := 199 }) (mg dA D al ext) (mKt sk sv) [.ref (al 0), .int n9, .ref (al 142)] σ (mv_Ri (fun v σ1 => (GO σ σ1 ∧ LI ext σ1 k9) ∧ WR1 n9 v σ1)) := by
  rcases hC with hC | hC | hC
  · obtain ⟨N, r, V, hCT, hWn, hK, hS, hOO, hV, hL9, hU⟩ := hW.cl hQ hC (fun z => absurd z (by decide)) (by decide)
    obtain ⟨th, sl, hO, ho0, ho1, ho2⟩ := hC.2.2.2.2.1
    exact (c_Law_run_a l hi σ hlt n9 k9 hC r V hK hS hOO hV hL9 hU).imp (ri_imp fun v τ h => ⟨⟨h.1, Or.inl (h.2.1)⟩, WR1.of hCT hWn hO.1 h.1 h.2.2⟩)
  · obtain ⟨N, r, V, hCT, hWn, hK, hS, hOO, hV, hL9, hU⟩ := hW.cl hQ hC (fun z => absurd z (by decide)) (by decide)
    obtain ⟨th, sl, hO, ho0, ho1, ho2⟩ := hC.2.2.2.2.1
    exact (c_Law_run_b l hi σ hlt n9 k9 hC r V hK hS hOO hV hL9 hU).imp (ri_imp fun v τ h => ⟨⟨h.1, Or.inr (Or.inl (h.2.1))⟩, WR1.of hCT hWn hO.1 h.1 h.2.2⟩)
  · obtain ⟨rfl, hC⟩ := hC
    obtain ⟨N, r, V, hCT, hWn, hK, hS, hOO, hV, hL9, hU⟩ := hW.cl hQ hC (fun _ => rfl) (by decide)
    obtain ⟨th, sl, hO, ho0, ho1, ho2⟩ := hC.2.2.2.2.1
    exact (c_Law_run_c l hi σ hlt n9 k9 hC r V hK hS hOO hV hL9 hU).imp (ri_imp fun v τ h => ⟨⟨h.1, Or.inr (Or.inr ⟨rfl, h.2.1⟩)⟩, WR1.of hCT hWn hO.1 h.1 h.2.2⟩)
set_option maxRecDepth 100000 in
theorem w_Model_step (l : Launch) {dA : FieldType → ClassId} {D : va_G} {al : Nat → Nat} {ext : mv_Sh} {sk sv : Nat → Nat} (hi : mv_inj (mg dA D al ext)) (σ : mv_H) (a0 : Int64) (k9 : Nat) (v9 : Int32) (hJ : MJ σ k9) (hS : SHq σ) (hW : WS1 a0 v9 σ) : mv_C l y_Model_step (Cond.code y_Model_step b_Model_step 4 (Option.some Jvm.ClassFile.FieldType.int) :: ma) ({ frames := 2041, cells := 0, slots := 0, locals := 61828 }) (mg dA D al ext) (mKt sk sv) [.ref (al 70), .long a0] σ (mv_Ri (fun v σ1 => (M8 σ σ1 ∧ MJ σ1 k9) ∧ WKq σ1 ∧ v = v9)) := by
  obtain ⟨hM | hM, hz⟩ := hJ
  · obtain ⟨τ0, e0, q0, w0⟩ := ref_st hS hW hM.2.1
    exact (ch_Model_step_x l hi σ ⟨hM.1, hM.2.1⟩ a0 e0).kt (ri_imp fun v τ h => by obtain ⟨h1, h2, -⟩ := h; subst h2; exact ⟨⟨QF.m8 q0 (by decide), MJ.qf hM hz q0 (by decide)⟩, w0, h1.symm⟩)
  · obtain ⟨τ0, e0, q0, w0⟩ := ref_st hS hW hM.2.1
    exact (ch_Model_step_y l hi σ ⟨hM.1, hM.2.1⟩ a0 e0).kt (ri_imp fun v τ h => by obtain ⟨h1, h2, -⟩ := h; subst h2; exact ⟨⟨QF.m8 q0 (by decide), MJ.qf hM hz q0 (by decide)⟩, w0, h1.symm⟩)
set_option maxRecDepth 100000 in
theorem w_Model_run (l : Launch) {dA : FieldType → ClassId} {D : va_G} {al : Nat → Nat} {ext : mv_Sh} {sk sv : Nat → Nat} (hi : mv_inj (mg dA D al ext)) (σ : mv_H) (a0 : Int32) (k9 : Nat) (v9 : Int32) (hJ : MJ σ k9) (hS : SHq σ) (hW : WR1 a0 v9 σ) : mv_C l y_Model_run (Cond.code y_Model_run b_Model_run 3 (Option.some Jvm.ClassFile.FieldType.int) :: ma) ({ frames := 2042, cells := 0, slots := 0, locals := 61849 }) (mg dA D al ext) (mKt sk sv) [.ref (al 70), .int a0] σ (mv_Ri (fun v σ1 => (M8 σ σ1 ∧ MJ σ1 k9) ∧ WKq σ1 ∧ mv_i σ1 70 2 = v9 ∧ (v9 = 0 → mv_b σ 142 0 = v.toInt64))) := by
  obtain ⟨hM | hM, hz⟩ := hJ
  · obtain ⟨x0, τ0, e0, q0, w0, y0⟩ := ref_rn hS hW hM.2.1
    exact (ch_Model_run_x l hi σ ⟨hM.1, hM.2.1⟩ a0 e0).kt (ri_imp fun v τ h => by obtain ⟨h1, h2, -⟩ := h; subst h2; subst h1; exact ⟨⟨QF.m8 q0 (by decide), MJ.qf hM hz q0 (by decide)⟩, w0, y0⟩)
  · obtain ⟨x0, τ0, e0, q0, w0, y0⟩ := ref_rn hS hW hM.2.1
    exact (ch_Model_run_y l hi σ ⟨hM.1, hM.2.1⟩ a0 e0).kt (ri_imp fun v τ h => by obtain ⟨h1, h2, -⟩ := h; subst h2; subst h1; exact ⟨⟨QF.m8 q0 (by decide), MJ.qf hM hz q0 (by decide)⟩, w0, y0⟩)
set_option maxRecDepth 100000 in
theorem w_Model_poke (l : Launch) {dA : FieldType → ClassId} {D : va_G} {al : Nat → Nat} {ext : mv_Sh} {sk sv : Nat → Nat} (hi : mv_inj (mg dA D al ext)) (σ : mv_H) (a0 a1 : Int32) (a2 : Int64) (k9 : Nat) (v9 : Int32) (hJ : MJ σ k9) (hQ : CQq ext σ) (hL : LI ext σ k9) (hP : PV σ a0 a1 v9) (hW : WP1 a0 a1 a2 v9 σ) : mv_C l y_Model_poke (Cond.code y_Model_poke b_Model_poke 5 (Option.none : Option Jvm.ClassFile.FieldType) :: ma) ({ frames := 2, cells := 0, slots := 0, locals := 46 }) (mg dA D al ext) (mKt sk sv) [.ref (al 70), .int a0, .int a1, .long a2] σ (mv_Rv (fun σ1 => (M8 σ σ1 ∧ MJ σ1 k9) ∧ WKq σ1)) := by
  obtain ⟨hM | hM, hz⟩ := hJ
  · obtain ⟨τ0, e0, q0, w0⟩ := ref_po hQ hL hP hW hM.2.1
    exact (ch_Model_poke_x l hi σ ⟨hM.1, hM.2.1⟩ a0 a1 a2 e0).kt (rv_imp fun τ h => by obtain ⟨h2, -⟩ := h; subst h2; exact ⟨⟨QF.m8 q0 (by decide), MJ.qf hM hz q0 (by decide)⟩, w0⟩)
  · obtain ⟨τ0, e0, q0, w0⟩ := ref_po hQ hL hP hW hM.2.1
    exact (ch_Model_poke_y l hi σ ⟨hM.1, hM.2.1⟩ a0 a1 a2 e0).kt (rv_imp fun τ h => by obtain ⟨h2, -⟩ := h; subst h2; exact ⟨⟨QF.m8 q0 (by decide), MJ.qf hM hz q0 (by decide)⟩, w0⟩)
set_option maxRecDepth 100000 in
theorem w_Model_peek (l : Launch) {dA : FieldType → ClassId} {D : va_G} {al : Nat → Nat} {ext : mv_Sh} {sk sv : Nat → Nat} (hi : mv_inj (mg dA D al ext)) (σ : mv_H) (a0 a1 : Int32) (k9 : Nat) (v9 : Int32) (hJ : MJ σ k9) (hQ : CQq ext σ) (hL : LI ext σ k9) (hP : PKV σ a0 a1 v9) (hW : WKq σ) : mv_C l y_Model_peek (Cond.code y_Model_peek b_Model_peek 3 (Option.some Jvm.ClassFile.FieldType.long) :: ma) ({ frames := 2, cells := 0, slots := 0, locals := 44 }) (mg dA D al ext) (mKt sk sv) [.ref (al 70), .int a0, .int a1] σ (mv_Rl (fun v σ1 => (M8 σ σ1 ∧ MJ σ1 k9) ∧ WKq σ1 ∧ mv_i σ1 70 2 = v9 ∧ (v9 = 0 → mv_b σ 142 0 = v))) := by
  obtain ⟨hM | hM, hz⟩ := hJ
  · obtain ⟨x0, τ0, e0, l0, y0⟩ := ref_pk hQ hL hP hW hM.2.1
    have w0 : WKq τ0 := hW.m l0.sm.mm l0.rk
    exact (ch_Model_peek_x l hi σ ⟨hM.1, hM.2.1⟩ a0 a1 e0).kt (rl_imp fun v τ h => by obtain ⟨h1, h2, -⟩ := h; subst h2; subst h1; exact ⟨⟨l0.sm.m8, MJ.qf hM hz l0.qf (by decide)⟩, w0, y0⟩)
  · obtain ⟨x0, τ0, e0, l0, y0⟩ := ref_pk hQ hL hP hW hM.2.1
    have w0 : WKq τ0 := hW.m l0.sm.mm l0.rk
    exact (ch_Model_peek_y l hi σ ⟨hM.1, hM.2.1⟩ a0 a1 e0).kt (rl_imp fun v τ h => by obtain ⟨h1, h2, -⟩ := h; subst h2; subst h1; exact ⟨⟨l0.sm.m8, MJ.qf hM hz l0.qf (by decide)⟩, w0, y0⟩)
set_option maxRecDepth 100000 in
theorem w_Model_decode (l : Launch) {dA : FieldType → ClassId} {D : va_G} {al : Nat → Nat} {ext : mv_Sh} {sk sv : Nat → Nat} (hi : mv_inj (mg dA D al ext)) (σ : mv_H) (a0 : Int64) (k9 : Nat) (hJ : MJ σ k9) (hW : WKq σ) : mv_C l y_Model_decode (Cond.code y_Model_decode b_Model_decode 4 (Option.some Jvm.ClassFile.FieldType.int) :: ma) ({ frames := 2, cells := 0, slots := 0, locals := 49 }) (mg dA D al ext) (mKt sk sv) [.ref (al 70), .long a0] σ (mv_Ri (fun v σ1 => (M8 σ σ1 ∧ MJ σ1 k9) ∧ RLk σ σ1)) := by
  obtain ⟨hM | hM, hz⟩ := hJ
  · obtain ⟨x0, τ0, e0, q0, w0⟩ := ref_dc (w := a0) hW hM.2.1
    exact (ch_Model_decode_x l hi σ ⟨hM.1, hM.2.1⟩ a0 e0).kt (ri_imp fun v τ h => by obtain ⟨h1, h2, -⟩ := h; subst h2; exact ⟨⟨QF.m8 q0 (by decide), MJ.qf hM hz q0 (by decide)⟩, w0⟩)
  · obtain ⟨x0, τ0, e0, q0, w0⟩ := ref_dc (w := a0) hW hM.2.1
    exact (ch_Model_decode_y l hi σ ⟨hM.1, hM.2.1⟩ a0 e0).kt (ri_imp fun v τ h => by obtain ⟨h1, h2, -⟩ := h; subst h2; exact ⟨⟨QF.m8 q0 (by decide), MJ.qf hM hz q0 (by decide)⟩, w0⟩)
set_option maxRecDepth 100000 in
theorem w_Loom_count (l : Launch) {dA : FieldType → ClassId} {D : va_G} {al : Nat → Nat} {ext : mv_Sh} {sk sv : Nat → Nat} (hi : mv_inj (mg dA D al ext)) (σ : mv_H) (n9 : Int32) (k9 : Nat) (hC : LI ext σ k9) : mv_C l y_Loom_count (Cond.code y_Loom_count b_Loom_count 2 (Option.some Jvm.ClassFile.FieldType.int) :: ma) ({ frames := 0, cells := 0, slots := 0, locals := 0 }) (mg dA D al ext) (mKt sk sv) [.ref (al 0), .int n9] σ (mv_Ri (fun v σ1 => (GL σ σ1 ∧ LI ext σ1 k9) ∧ ∀ P, mv_r σ1 64 0 = some P → v = cnv n9 (cnC P σ1))) := by
  rcases hC with hC | hC | hC
  · exact (c_kv_Loom_count_a l hi σ n9 hC.2.2.1).kt (ri_imp fun v τ h => by obtain ⟨h, hv⟩ := h; subst h; exact ⟨⟨GL.rf, Or.inl (hC)⟩, fun P e => by rw [hC.2.2.1.2.2] at e; cases e; exact hv⟩)
  · exact (c_kv_Loom_count_b l hi σ n9 hC.2.2.1).kt (ri_imp fun v τ h => by obtain ⟨h, hv⟩ := h; subst h; exact ⟨⟨GL.rf, Or.inr (Or.inl (hC))⟩, fun P e => by rw [hC.2.2.1.2.2] at e; cases e; exact hv⟩)
  · obtain ⟨rfl, hC⟩ := hC
    exact (c_kv_Loom_count_c l hi σ n9 hC.2.2.1).kt (ri_imp fun v τ h => by obtain ⟨h, hv⟩ := h; subst h; exact ⟨⟨GL.rf, Or.inr (Or.inr ⟨rfl, hC⟩)⟩, fun P e => by rw [hC.2.2.1.2.2] at e; cases e; exact hv⟩)
set_option maxRecDepth 100000 in
theorem w_Model_cnt (l : Launch) {dA : FieldType → ClassId} {D : va_G} {al : Nat → Nat} {ext : mv_Sh} {sk sv : Nat → Nat} (hi : mv_inj (mg dA D al ext)) (σ : mv_H) (n9 : Int32) (k9 : Nat) (hJ : MJ σ k9) : mv_C l y_Model_count (Cond.code y_Model_count b_Model_count 2 (Option.some Jvm.ClassFile.FieldType.int) :: ma) ({ frames := 1, cells := 0, slots := 0, locals := 20 }) (mg dA D al ext) (mKt sk sv) [.ref (al 70), .int n9] σ (mv_Ri (fun v σ1 => ((M8 σ σ1 ∧ MJ σ1 k9) ∧ RLk σ σ1) ∧ ∀ N, mv_r σ 70 9 = some N → v = cnv n9 (cnR N σ))) := by
  have hJ9 := hJ
  obtain ⟨hM | hM, hz⟩ := hJ
  · exact (c_kv_Model_count_x l hi σ hM n9).kt (ri_imp fun v τ h => ⟨⟨⟨h.1.sm.m8, hJ9.sm h.1.sm⟩, h.1.rk⟩, fun N e => by rw [hM.2.1] at e; cases e; exact h.2⟩)
  · exact (c_kv_Model_count_y l hi σ hM n9).kt (ri_imp fun v τ h => ⟨⟨⟨h.1.sm.m8, hJ9.sm h.1.sm⟩, h.1.rk⟩, fun N e => by rw [hM.2.1] at e; cases e; exact h.2⟩)
set_option maxRecDepth 100000 in
theorem w_Model_fault (l : Launch) {dA : FieldType → ClassId} {D : va_G} {al : Nat → Nat} {ext : mv_Sh} {sk sv : Nat → Nat} (hi : mv_inj (mg dA D al ext)) (σ : mv_H) (n9 : Int32) (k9 : Nat) (hJ : MJ σ k9) : mv_C l y_Model_fault (Cond.code y_Model_fault b_Model_fault 2 (Option.some Jvm.ClassFile.FieldType.int) :: ma) ({ frames := 0, cells := 0, slots := 0, locals := 0 }) (mg dA D al ext) (mKt sk sv) [.ref (al 70), .int n9] σ (mv_Ri (fun v σ1 => (M8 σ σ1 ∧ MJ σ1 k9) ∧ RLk σ σ1)) := by
  exact (c_kk_Model_fault l hi σ n9).kt (ri_imp fun v τ h => ⟨⟨h.sm.m8, hJ.sm h.sm⟩, h.rk⟩)
set_option maxRecDepth 100000 in
theorem w_Model_trap (l : Launch) {dA : FieldType → ClassId} {D : va_G} {al : Nat → Nat} {ext : mv_Sh} {sk sv : Nat → Nat} (hi : mv_inj (mg dA D al ext)) (σ : mv_H) (k9 : Nat) (hJ : MJ σ k9) : mv_C l y_Model_trap (Cond.code y_Model_trap b_Model_trap 1 (Option.some Jvm.ClassFile.FieldType.int) :: ma) ({ frames := 0, cells := 0, slots := 0, locals := 0 }) (mg dA D al ext) (mKt sk sv) [.ref (al 70)] σ (mv_Ri (fun v σ1 => ((M8 σ σ1 ∧ MJ σ1 k9) ∧ RLk σ σ1) ∧ v = mv_i σ 70 14)) := by
  exact (c_kk_Model_trap l hi σ).kt (ri_imp fun v τ h => ⟨⟨⟨h.1.sm.m8, hJ.sm h.1.sm⟩, h.1.rk⟩, h.2⟩)
set_option maxRecDepth 100000 in
theorem w_Model_field (l : Launch) {dA : FieldType → ClassId} {D : va_G} {al : Nat → Nat} {ext : mv_Sh} {sk sv : Nat → Nat} (hi : mv_inj (mg dA D al ext)) (σ : mv_H) (o9 c9 : Int32) (w0 : Int64) (k9 : Nat) (hJ : MJ σ k9) : mv_C l y_Model_field (Cond.code y_Model_field b_Model_field 7 (Option.some Jvm.ClassFile.FieldType.long) :: ma) ({ frames := 2, cells := 0, slots := 0, locals := 51 }) (mg dA D al ext) (mKt sk sv) [.ref (al 70), .int o9, .int c9, .long w0] σ (mv_Rl (fun v σ1 => (M8 σ σ1 ∧ MJ σ1 k9) ∧ RLk σ σ1)) := by
  have hJ9 := hJ
  obtain ⟨hM | hM, hz⟩ := hJ
  · exact (c_kk_Model_field_x l hi σ hM o9 c9 w0).kt (rl_imp fun v τ h => ⟨⟨h.sm.m8, hJ9.sm h.sm⟩, h.rk⟩)
  · exact (c_kk_Model_field_y l hi σ hM o9 c9 w0).kt (rl_imp fun v τ h => ⟨⟨h.sm.m8, hJ9.sm h.sm⟩, h.rk⟩)
set_option maxRecDepth 100000 in
theorem w_Model_thing (l : Launch) {dA : FieldType → ClassId} {D : va_G} {al : Nat → Nat} {ext : mv_Sh} {sk sv : Nat → Nat} (hi : mv_inj (mg dA D al ext)) (σ : mv_H) (t9 i9 : Int32) (k9 : Nat) (hJ : MJ σ k9) : mv_C l y_Model_thing (Cond.code y_Model_thing b_Model_thing 3 (Option.some Jvm.ClassFile.FieldType.int) :: ma) ({ frames := 2, cells := 0, slots := 0, locals := 44 }) (mg dA D al ext) (mKt sk sv) [.ref (al 70), .int t9, .int i9] σ (mv_Ri (fun v σ1 => (M8 σ σ1 ∧ MJ σ1 k9) ∧ RLk σ σ1)) := by
  have hJ9 := hJ
  obtain ⟨hM | hM, hz⟩ := hJ
  · exact (c_kk_Model_thing_x l hi σ hM t9 i9).kt (ri_imp fun v τ h => ⟨⟨h.sm.m8, hJ9.sm h.sm⟩, h.rk⟩)
  · exact (c_kk_Model_thing_y l hi σ hM t9 i9).kt (ri_imp fun v τ h => ⟨⟨h.sm.m8, hJ9.sm h.sm⟩, h.rk⟩)
set_option maxRecDepth 100000 in
theorem w_Model_free (l : Launch) {dA : FieldType → ClassId} {D : va_G} {al : Nat → Nat} {ext : mv_Sh} {sk sv : Nat → Nat} (hi : mv_inj (mg dA D al ext)) (σ : mv_H)  (k9 : Nat) (hJ : MJ σ k9) : mv_C l y_Model_free (Cond.code y_Model_free b_Model_free 4 (Option.some Jvm.ClassFile.FieldType.long) :: ma) ({ frames := 1, cells := 0, slots := 0, locals := 25 }) (mg dA D al ext) (mKt sk sv) [.ref (al 70)] σ (mv_Rl (fun v σ1 => (M8 σ σ1 ∧ MJ σ1 k9) ∧ RLk σ σ1)) := by
  have hJ9 := hJ
  obtain ⟨hM | hM, hz⟩ := hJ
  · exact (c_kk_Model_free_x l hi σ hM ).kt (rl_imp fun v τ h => ⟨⟨h.sm.m8, hJ9.sm h.sm⟩, h.rk⟩)
  · exact (c_kk_Model_free_y l hi σ hM ).kt (rl_imp fun v τ h => ⟨⟨h.sm.m8, hJ9.sm h.sm⟩, h.rk⟩)
set_option maxRecDepth 100000 in
theorem w_Model_count (l : Launch) {dA : FieldType → ClassId} {D : va_G} {al : Nat → Nat} {ext : mv_Sh} {sk sv : Nat → Nat} (hi : mv_inj (mg dA D al ext)) (σ : mv_H) (n9 : Int32) (k9 : Nat) (hJ : MJ σ k9) : mv_C l y_Model_count (Cond.code y_Model_count b_Model_count 2 (Option.some Jvm.ClassFile.FieldType.int) :: ma) ({ frames := 1, cells := 0, slots := 0, locals := 20 }) (mg dA D al ext) (mKt sk sv) [.ref (al 70), .int n9] σ (mv_Ri (fun v σ1 => (M8 σ σ1 ∧ MJ σ1 k9) ∧ RLk σ σ1)) := by
  have hJ9 := hJ
  obtain ⟨hM | hM, hz⟩ := hJ
  · exact (c_kk_Model_count_x l hi σ hM n9).kt (ri_imp fun v τ h => ⟨⟨h.sm.m8, hJ9.sm h.sm⟩, h.rk⟩)
  · exact (c_kk_Model_count_y l hi σ hM n9).kt (ri_imp fun v τ h => ⟨⟨h.sm.m8, hJ9.sm h.sm⟩, h.rk⟩)
set_option maxRecDepth 100000 in
theorem w_Model_feed (l : Launch) {dA : FieldType → ClassId} {D : va_G} {al : Nat → Nat} {ext : mv_Sh} {sk sv : Nat → Nat} (hi : mv_inj (mg dA D al ext)) (σ : mv_H) (a9 b9 c9 d9 e9 : Int32) (k9 : Nat) (hJ : MJ σ k9) (hk : k9 + 20 ≤ 32768) : mv_C l y_Model_feed (Cond.code y_Model_feed b_Model_feed 8 (Option.some Jvm.ClassFile.FieldType.int) :: ma) ({ frames := 0, cells := 0, slots := 0, locals := 0 }) (mg dA D al ext) (mKt sk sv) [.ref (al 70), .int a9, .int b9, .int c9, .int d9, .int e9] σ (mv_Ri (fun v σ1 => (MM σ σ1 ∧ MJ σ1 (k9 + 20) ∧ v.toInt = ((k9 + 20 : Nat) : Int) ∧ mv_i σ1 70 2 = 0 ∧ FE7 σ σ1 k9 20 (fb a9 b9 c9 d9 e9) ∧ MQf σ σ1) ∧ RLk σ σ1)) := by
  exact (c_Model_feed l hi σ a9 b9 c9 d9 e9 k9 hJ.hm hJ.2 hk).kt (ri_imp fun v τ h => ⟨⟨h.1.mm, hJ.fd h.1 h.2.2.1, h.2.1, h.2.2.2.1, h.2.2.2.2, h.1.mq⟩, h.1.rk⟩)
set_option maxRecDepth 100000 in
theorem w_Model_end (l : Launch) {dA : FieldType → ClassId} {D : va_G} {al : Nat → Nat} {ext : mv_Sh} {sk sv : Nat → Nat} (hi : mv_inj (mg dA D al ext)) (σ : mv_H) (n9 : Int32) (k9 : Nat) (hJ : MJ σ k9) (hk : k9 ≤ 32768) : mv_C l y_Model_end (Cond.code y_Model_end b_Model_end 2 (Option.some Jvm.ClassFile.FieldType.int) :: ma) ({ frames := 0, cells := 0, slots := 0, locals := 0 }) (mg dA D al ext) (mKt sk sv) [.ref (al 70), .int n9] σ (mv_Ri (fun v σ1 => (M8 σ σ1 ∧ MJ σ1 (if n9.toInt < 0 ∨ (k9 : Int) < n9.toInt then k9 else k9 - n9.toInt.toNat)) ∧ RLk σ σ1)) := by
  exact (c_Model_end l hi σ n9 k9 hJ.2 hk).kt (ri_imp fun v τ h => ⟨⟨⟨⟨h.1.1.mm, h.1.2⟩, h.1.1.mq⟩, hJ.fd h.1.1 h.2.1⟩, h.1.1.rk⟩)
set_option maxRecDepth 100000 in
theorem w_Model_build (l : Launch) {dA : FieldType → ClassId} {D : va_G} {al : Nat → Nat} {ext : mv_Sh} {sk sv : Nat → Nat} (hi : mv_inj (mg dA D al ext)) (σ : mv_H) (k9 : Nat) (hJ : MJ σ k9) (hk : k9 ≤ 10240) (hb7 : byt7 σ) : mv_C l y_Model_build (Cond.code y_Model_build b_Model_build 3 (Option.some Jvm.ClassFile.FieldType.int) :: ma) ({ frames := 1085, cells := 0, slots := 0, locals := 65179 }) (mg dA D al ext) (mKt sk sv) [.ref (al 70)] σ (mv_Ri (fun v σ1 => (M7 σ σ1 ∧ MJ σ1 0 ∧ BM (txT (ck σ k9) k9) v σ1 ∧ (mv_i σ1 70 2 = 1 → KBq σ σ1)) ∧ BZw (txT (ck σ k9) k9) σ σ1)) := by
  obtain ⟨hM | hM, hz⟩ := hJ
  · exact (c_kz_Model_build_x l hi σ hM k9 hz hk hb7).kt (ri_imp fun v τ h => ⟨⟨h.1.1, ⟨h.1.2.2.1, by rw [h.1.2.1]; rfl⟩, h.1.2.2.2.1, fun z => KBq.of hM (h.1.2.2.2.2 z)⟩, h.2⟩)
  · exact (c_kz_Model_build_y l hi σ hM k9 hz hk hb7).kt (ri_imp fun v τ h => ⟨⟨h.1.1, ⟨h.1.2.2.1.symm, by rw [h.1.2.1]; rfl⟩, h.1.2.2.2.1, fun z => KBq.of hM (h.1.2.2.2.2 z)⟩, h.2⟩)
set_option maxRecDepth 100000 in
theorem w_Model_ship (l : Launch) {dA : FieldType → ClassId} {D : va_G} {al : Nat → Nat} {ext : mv_Sh} {sk sv : Nat → Nat} (hi : mv_inj (mg dA D al ext)) (σ : mv_H) (k9 : Nat) (hJ : MJ σ k9) : mv_C l y_Model_ship (Cond.code y_Model_ship b_Model_ship 2 (Option.some Jvm.ClassFile.FieldType.int) :: ma) ({ frames := 1, cells := 0, slots := 0, locals := 20 }) (mg dA D al ext) (mKt sk sv) [.ref (al 70)] σ (mv_Ri (fun v σ1 => ((M7 σ σ1 ∧ MJ σ1 k9) ∧ v = 48 ∧ mv_r σ1 70 9 = mv_r σ 70 9 ∧ mv_i σ1 70 11 = 1) ∧ SZq σ σ1)) := by
  exact (c_kk_Model_ship l hi σ hJ.hm).kt (ri_imp fun v τ h => ⟨⟨⟨⟨h.1.1.mm, funext fun k => h.1.1.2.2.2.1 _ _ (by omega)⟩, hJ.hf h.1.1⟩, h.1.2.1, by rw [h.1.1.2.2.1], h.1.2.2⟩, h.2⟩)
