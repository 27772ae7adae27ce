/-! a STEP -/
def MtS (s : SI) (w : Int64) (a : Nat) : Prop := w &&& nJ (mkN (fun i => is01 ((s.ops.getD a ([], [])).2.getD i 0)) s.bits) = nJ (mkN (fun i => is1 ((s.ops.getD a ([], [])).2.getD i 0)) s.bits)
def DCs (s : SI) (w : Int64) (v : Int32) : Prop := (v = -1 ∧ ∀ a, a < s.ops.length → ¬ MtS s w a) ∨ ∃ a, a < s.ops.length ∧ v = nI a ∧ MtS s w a
def UQs (s : SI) : Prop := ∀ (w : Int64) (a b : Nat), a < s.ops.length → b < s.ops.length → MtS s w a → MtS s w b → a = b
noncomputable def dcV (s : SI) (w : Int64) : Int32 := Classical.epsilon (fun v => DCs s w v)
theorem dcs_u {s : SI} {w : Int64} {v v' : Int32} (hU : UQs s) (h : DCs s w v) (g : DCs s w v') : v = v' := by
  rcases h with ⟨h1, h2⟩ | ⟨a, a1, a2, a3⟩ <;> rcases g with ⟨g1, g2⟩ | ⟨b, b1, b2, b3⟩
  · rw [h1, g1]
  · exact absurd b3 (h2 b b1)
  · exact absurd a3 (g2 a a1)
  · rw [a2, b2, hU w a b a1 b1 a3 b3]
theorem dcV_e {s : SI} {w : Int64} {v : Int32} (hU : UQs s) (h : DCs s w v) : dcV s w = v := dcs_u hU (Classical.epsilon_spec (p := fun v => DCs s w v) ⟨v, h⟩) h
theorem MtO.s {P : Nat} {s : SI} {σ : mv_H} {w : Int64} {a : Nat} (hP : SPq P s σ) (ha : a < s.ops.length) : MtO P σ w a ↔ MtS s w a := by
  obtain ⟨-, -, -, -, -, p6, -⟩ := hP
  obtain ⟨q1, q2, -⟩ := p6 a ha
  unfold MtO MtS
  rw [q1, q2]
theorem DCq.s {P : Nat} {s : SI} {σ : mv_H} {w : Int64} {v : Int32} (hP : SPq P s σ) (h : DCq P σ w v) : DCs s w v := by
  have e : (mv_i σ P 10).toInt = s.ops.length := by rw [hP.2.2.2.1, nIi (by have := hP.2.2.2.2.1.2.2.2; omega)]
  rcases h with ⟨h1, h2⟩ | ⟨a, a1, a2, a3⟩
  · exact Or.inl ⟨h1, fun a ha hm => h2 a (by omega) ((MtO.s hP ha).mpr hm)⟩
  · exact Or.inr ⟨a, by omega, a2, (MtO.s hP (by omega)).mp a3⟩
theorem UQq.s {P : Nat} {s : SI} {σ : mv_H} (hP : SPq P s σ) (h : UQq P σ) : UQs s := fun w a b ha hb h1 h2 => by
  have e : (mv_i σ P 10).toInt = s.ops.length := by rw [hP.2.2.2.1, nIi (by have := hP.2.2.2.2.1.2.2.2; omega)]
  exact h w a b (by omega) (by omega) ((MtO.s hP ha).mpr h1) ((MtO.s hP hb).mpr h2)
/-- what op o does -/
def bdO (r : SI × LZ × List DnS) (o : Nat) : DnS := r.2.2.getD o zSk
def frR (r : SI × LZ × List DnS) : Option Nat := r.1.fe.map fun p => r.2.1 p.1
/-- a STEP: its TRAP, and the values behind it -/
noncomputable def stF (r : SI × LZ × List DnS) (w : Int64) (R : Nat → Nat → Int64) : Int32 × (Nat → Nat → Int64) := if dcV r.1 w < 0 then (-2, R) else ((bdO r (dcV r.1 w).toNatClampNeg (eW r w) (fun _ => 0, R, fun _ => false)).1, if (bdO r (dcV r.1 w).toNatClampNeg (eW r w) (fun _ => 0, R, fun _ => false)).1 = 0 then gfT (eW r w) r.1.bits (frR r) (bdO r (dcV r.1 w).toNatClampNeg (eW r w) (fun _ => 0, R, fun _ => false)).2 else R)
/-- the lets' old values are nothing to an op -/
def LIq (r : SI × LZ × List DnS) : Prop := ∀ o, o < r.1.ops.length → ∀ (w : Int64) (l l' : Nat → Int64) (x : (Nat → Nat → Int64) × (Nat → Bool)), (bdO r o (eW r w) (l', x)).1 = (bdO r o (eW r w) (l, x)).1 ∧ (bdO r o (eW r w) (l', x)).2.2 = (bdO r o (eW r w) (l, x)).2.2
theorem gfT_c {e : E0q} {b : Nat} {fr : Option Nat} {s s' : STq} (h : s'.2 = s.2) : gfT e b fr s' = gfT e b fr s := by
  unfold gfT
  rw [h]
theorem stF_n {r : SI × LZ × List DnS} {w : Int64} {R : Nat → Nat → Int64} {v : Int32} (hv : dcV r.1 w = v) (h : v < 0) : stF r w R = (-2, R) := by
  unfold stF
  rw [hv, if_pos h]
theorem stF_o {r : SI × LZ × List DnS} {w : Int64} {R : Nat → Nat → Int64} {o : Nat} (hL : LIq r) (hv : dcV r.1 w = nI o) (ho : o < r.1.ops.length) (ho2 : o < 4000) (l : Nat → Int64) : stF r w R = ((bdO r o (eW r w) (l, R, fun _ => false)).1, if (bdO r o (eW r w) (l, R, fun _ => false)).1 = 0 then gfT (eW r w) r.1.bits (frR r) (bdO r o (eW r w) (l, R, fun _ => false)).2 else R) := by
  obtain ⟨q1, q2⟩ := hL o ho w (fun _ => 0) l (R, fun _ => false)
  unfold stF
  rw [hv, if_neg (fun q => by have := (nIlt (b := 0) (by omega) (by omega)).mp q; omega), cln (by omega), ← q1, gfT_c q2]
/-- the program's tree and code, or there is no op -/
def TCq (P R M : Nat) (r : SI × LZ × List DnS) (σ : mv_H) : Prop := (TreeOK P M σ ∧ CodeOK P R σ r.1.tl.length) ∨ (False ∧ r.1.ops.length = 0)
theorem UQs.q {P : Nat} {s : SI} {σ : mv_H} (hU : UQs s) (hP : SPq P s σ) : UQq P σ := fun w a b ha hb h1 h2 => by
  obtain ⟨-, -, -, c4, ⟨-, -, -, c8⟩, c5, -⟩ := hP
  rw [c4, nIi (by omega)] at ha hb
  have ha : a < s.ops.length := by omega
  have hb : b < s.ops.length := by omega
  unfold MtO at h1 h2
  rw [(c5 a ha).1, (c5 a ha).2.1] at h1
  rw [(c5 b hb).1, (c5 b hb).2.1] at h2
  exact hU w a b ha hb h1 h2
theorem TCq.fm {P R M : Nat} {r : SI × LZ × List DnS} {σ τ : mv_H} (h : TCq P R M r σ) (f : FM σ τ) (hP : PP P) : TCq P R M r τ := h.imp (fun z => ⟨z.1.fm f hP, z.2.fm f hP⟩) (fun z => z.1.elim)
theorem TCq.n {P R M : Nat} {r : SI × LZ × List DnS} {σ : mv_H} (h : TCq P R M r σ) (S : SPq P r.1 σ) : r.1.ops.length ≤ M := by
  rcases h with ⟨⟨ops, n, dq, h1, h2, -⟩, -⟩ | ⟨-, h⟩
  · rw [S.2.2.2.1, nIi (by have := S.2.2.2.2.1.2.2.2; omega)] at h1
    omega
  · omega
theorem TCq.c {P R M : Nat} {r : SI × LZ × List DnS} {σ : mv_H} {w : Int64} {v : Int32} (h : TCq P R M r σ) (d : DCs r.1 w v) (hv : 0 ≤ v) : CodeOK P R σ r.1.tl.length := by
  rcases h with h | ⟨-, h⟩
  · exact h.2
  · rcases d with ⟨q, -⟩ | ⟨a, a1, -, -⟩
    · rw [q] at hv; exact absurd hv (by decide)
    · omega
/-- the class's values -/
def VLr (r : SI × LZ × List DnS) (σ : mv_H) (R : Nat → Nat → Int64) : Prop := ∀ t i, t < r.1.tl.length → i < ncT (r.1.tl.getD t (0, 0, false)) → mv_b σ 65 (fsL r.1.tl t + i) = R t i
/-- what a STEP leaves -/
def OWr (r : SI × LZ × List DnS) (w : Int64) (R : Nat → Nat → Int64) (σ τ : mv_H) : Prop := mv_i τ 64 9 = (stF r w R).1 ∧ VLr r τ (stF r w R).2 ∧ mv_i τ 64 10 = (if (stF r w R).1 = 0 then mv_i σ 64 10 + 1 else mv_i σ 64 10) ∧ mv_i τ 64 11 = (if (stF r w R).1 = 0 then mv_i σ 64 11 else mv_i σ 64 11 + 1) ∧ mv_i τ 64 12 = mv_i σ 64 12
/-- on the way: the op has been done, its TRAP is x -/
def OMq (P : Nat) (r : SI × LZ × List DnS) (w : Int64) (R : Nat → Nat → Int64) (σ τ : mv_H) (x : Int32) : Prop := FM σ τ ∧ (mv_i τ 64 10 = mv_i σ 64 10 ∧ mv_i τ 64 11 = mv_i σ 64 11 ∧ mv_i τ 64 12 = mv_i σ 64 12) ∧ x = (stF r w R).1 ∧ (x = 0 → ∃ s, VLw (fsL r.1.tl) (eW r w) r.1.tl.length τ s ∧ ASw P τ s ∧ gfT (eW r w) r.1.bits (frR r) s = (stF r w R).2) ∧ (¬ x = 0 → (stF r w R).2 = R) ∧ ∃ u, UNw τ (mv_b σ 65) u ∧ u ≤ 8193
theorem MFw.fm {h h' : mv_H} (f : MFw h h') : FM h h' := ⟨fun o k q => f.1 o k (by omega), f.2.1, f.2.2.1, f.2.2.2.1, f.2.2.2.2⟩
theorem VFr.fm {h h' : mv_H} (f : VFr h h') : FM h h' := ⟨fun o k _ => f.1 o k, fun o _ => f.2.1 o, fun o q => f.2.2.1 o (by omega), f.2.2.2.1, f.2.2.2.2⟩
theorem OMq.lt {P : Nat} {r : SI × LZ × List DnS} {w : Int64} {R : Nat → Nat → Int64} {σ τ : mv_H} {x : Int32} (hP : P = 32 ∨ P = 48 ∨ P = 145) (h : OMq P r w R σ τ x) : OMq P r w R σ (mv_si τ 64 9 x) x := by
  obtain ⟨h1, ⟨h2, h3, h12⟩, h4, h5, h6, u, h7, h8⟩ := h
  have ei : ∀ o k, ¬ (o = 64 ∧ k = 9) → mv_i (mv_si τ 64 9 x) o k = mv_i τ o k := fun o k q => mv_si_o τ _ q
  refine ⟨h1.si rfl, ⟨(ei 64 10 (by omega)).trans h2, (ei 64 11 (by omega)).trans h3, (ei 64 12 (by omega)).trans h12⟩, h4, fun y => ?_, h6, u, ?_, h8⟩
  · obtain ⟨s, k1, k2, k3⟩ := h5 y
    refine ⟨s, k1, ?_, k3⟩
    unfold ASw
    rw [ei 64 8 (by omega), ei P 8 (by omega)]
    exact k2
  · unfold UNw
    rw [ei 64 7 (by omega)]
    exact h7
/-- the road of a TRAP's STEP -/
theorem OMq.un {P : Nat} {r : SI × LZ × List DnS} {w : Int64} {R : Nat → Nat → Int64} {σ τ : mv_H} {x : Int32} (h : OMq P r w R σ τ x) (h9 : mv_i τ 64 9 = x) (hx : ¬ x = 0) (hV : VLr r σ R) : ∃ τ', f_Machine_undo P τ = some τ' ∧ FM σ τ' ∧ OWr r w R σ (mv_si τ' 64 11 (mv_i τ' 64 11 + 1)) := by
  obtain ⟨h1, ⟨h2, h3, h12⟩, h4, h5, h6, u, h7, h8⟩ := h
  obtain ⟨τ', e, e2, e3⟩ := undo9 (P := P) h7 h8
  refine ⟨τ', e, h1.tr e3.fm, ?_⟩
  have n0 : ¬ (stF r w R).1 = 0 := by rw [← h4]; exact hx
  refine ⟨?_, ?_, ?_, ?_, by rw [show mv_i (mv_si τ' 64 11 (mv_i τ' 64 11 + 1)) 64 12 = mv_i τ' 64 12 from mv_si_o τ' _ (by omega), e3.1, h12]⟩
  · rw [show mv_i (mv_si τ' 64 11 (mv_i τ' 64 11 + 1)) 64 9 = mv_i τ' 64 9 from mv_si_o τ' _ (by omega), e3.1, h9, h4]
  · rw [h6 hx]
    intro t i ht hi
    show mv_b τ' 65 _ = _
    rw [e2]
    exact hV t i ht hi
  · rw [if_neg n0, show mv_i (mv_si τ' 64 11 (mv_i τ' 64 11 + 1)) 64 10 = mv_i τ' 64 10 from mv_si_o τ' _ (by omega), e3.1, h2]
  · rw [if_neg n0, show mv_i (mv_si τ' 64 11 (mv_i τ' 64 11 + 1)) 64 11 = mv_i τ' 64 11 + 1 from mv_si_s _ _ _ _, e3.1, h3]
/-- the road of a STEP without one -/
theorem OMq.gf {P : Nat} {r : SI × LZ × List DnS} {w : Int64} {R : Nat → Nat → Int64} {σ τ : mv_H} {x : Int32} (hP : P = 32 ∨ P = 48 ∨ P = 145) (h : OMq P r w R σ τ x) (h9 : mv_i τ 64 9 = x) (hx : x = 0) (K : KOx P r σ) (S : SPq P r.1 σ) {th sl : Nat} (hT : Th P σ th sl) : ∃ τ', f_Machine_goForth P τ = some τ' ∧ FM σ τ' ∧ OWr r w R σ (mv_si τ' 64 10 (mv_i τ' 64 10 + 1)) := by
  obtain ⟨h1, ⟨h2, h3, h12⟩, h4, h5, h6, u, h7, h8⟩ := h
  obtain ⟨s, k1, k2, k3⟩ := h5 hx
  have hPP : PP P := by unfold PP; omega
  have TB9 : TBw P (fsL r.1.tl) (eW r w) r.1.tl.length τ := by
    have t := tbw_K K S w
    unfold TBw
    rw [h1.a (j := 1) hPP (by omega), h1.a (j := 2) hPP (by omega), h1.a (j := 3) hPP (by omega), h1.a (j := 4) hPP (by omega)]
    exact t
  have b2 := S.2.2.2.2.1
  have eT : th = r.1.tl.length := by
    have e1 := hT.1
    rw [S.2.1, nIi (by omega)] at e1
    omega
  have hf : (frR r = none ∧ mv_i τ P 8 < 0) ∨ ∃ t, frR r = some t ∧ t < r.1.tl.length ∧ mv_i τ P 8 = nI t := by
    rw [h1.i hPP]
    have fe := K.2.2.1
    unfold FEk at fe
    unfold frR
    revert fe
    cases r.1.fe with
    | none => exact fun fe => Or.inl ⟨rfl, fe⟩
    | some p =>
      intro fe
      have fe : (r.1.lk p.1).1 = 1 ∧ (r.1.lk p.2).1 = 2 ∧ mv_i σ P 8 = nI (r.2.1 p.1) ∧ mv_i σ P 9 = nI (r.2.1 p.2) := fe
      have l64 := K.1.2.2 p.1
      rcases hT.2.2.2.2.2.2.2 with ⟨q, -⟩ | ⟨q1, q2, -⟩
      · rw [fe.2.2.1, nIi (by omega)] at q
        omega
      · rw [fe.2.2.1, nIi (by omega)] at q2
        exact Or.inr ⟨r.2.1 p.1, rfl, by omega, fe.2.2.1⟩
  obtain ⟨τ', e, e3, v⟩ := gof9 TB9 k1 k2 ((h1.i hPP).trans S.1) b2.1 hf
  refine ⟨τ', e, h1.tr e3.fm, ?_⟩
  have y0 : (stF r w R).1 = 0 := by rw [← h4]; exact hx
  refine ⟨?_, ?_, ?_, ?_, by rw [show mv_i (mv_si τ' 64 10 (mv_i τ' 64 10 + 1)) 64 12 = mv_i τ' 64 12 from mv_si_o τ' _ (by omega), e3.1, h12]⟩
  · rw [show mv_i (mv_si τ' 64 10 (mv_i τ' 64 10 + 1)) 64 9 = mv_i τ' 64 9 from mv_si_o τ' _ (by omega), e3.1, h9, h4]
  · intro t i ht hi
    show mv_b τ' 65 _ = _
    rw [v t i ht hi, k3]
  · rw [if_pos y0, show mv_i (mv_si τ' 64 10 (mv_i τ' 64 10 + 1)) 64 10 = mv_i τ' 64 10 + 1 from mv_si_s _ _ _ _, e3.1, h2]
  · rw [if_pos y0, show mv_i (mv_si τ' 64 10 (mv_i τ' 64 10 + 1)) 64 11 = mv_i τ' 64 11 from mv_si_o τ' _ (by omega), e3.1, h3]
/-- as the STEP begins -/
theorem OM0 {P : Nat} {r : SI × LZ × List DnS} {w : Int64} {R : Nat → Nat → Int64} {σ S τ : mv_H} {v : Int32} (eS : S = mv_si (mv_si σ 64 7 0) 64 8 0) (f : F12 S τ) (f12 : mv_i τ 64 12 = mv_i S 64 12) (hU : UQs r.1) (hD : DCs r.1 w v) (hv : v < 0) : OMq P r w R σ τ (-2) := by
  have e := stF_n (R := R) (dcV_e hU hD) hv
  have i7 : mv_i S 64 7 = 0 := by rw [eS]; exact (mv_si_o _ _ (by omega)).trans (mv_si_s _ _ _ _)
  have bb : mv_b τ = mv_b σ := funext fun o => (f.2.2.1 o id).trans (by rw [eS]; rfl)
  refine ⟨?_, ⟨?_, ?_, by rw [f12, eS]; exact (mv_si_o _ _ (by omega)).trans (mv_si_o _ _ (by omega))⟩, by rw [e], fun y => absurd y (by decide), fun _ => by rw [e], 0, ⟨?_, fun j hj => absurd hj (Nat.not_lt_zero _), ?_⟩, by omega⟩
  · have h0 : FM σ S := by rw [eS]; exact (FM0.si rfl).si rfl
    exact h0.tr f.fm
  · rw [f.1 64 10 (by omega), eS]; exact (mv_si_o _ _ (by omega)).trans (mv_si_o _ _ (by omega))
  · rw [f.1 64 11 (by omega), eS]; exact (mv_si_o _ _ (by omega)).trans (mv_si_o _ _ (by omega))
  · rw [f.1 64 7 (by omega), i7]; rfl
  · show mv_b τ 65 = mv_b σ 65
    rw [bb]
/-- an op is done -/
theorem OM1 {P R9 : Nat} {r : SI × LZ × List DnS} {w : Int64} {R : Nat → Nat → Int64} {σ S τ : mv_H} {v : Int32} (hP : P = 32 ∨ P = 48 ∨ P = 145) (eS : S = mv_si (mv_si σ 64 7 0) 64 8 0) (f : F12 S τ) (f12 : mv_i τ 64 12 = mv_i S 64 12) (hU : UQs r.1) (hD : DCs r.1 w v) (hv : ¬ v < 0) (hL : LIq r) (K : KOx P r σ) (Sp : SPq P r.1 σ) (hC : CodeOK P R9 σ r.1.tl.length) (hV : VLr r σ R) : ∃ x τ', f_Machine_perform P τ (mv_a τ (P + 7) v.toNatClampNeg) w = some (x, τ') ∧ OMq P r w R σ τ' x ∧ mv_r τ' = mv_r σ := by
  have hPP : PP P := by unfold PP; omega
  have h0 : FM σ S := by rw [eS]; exact (FM0.si rfl).si rfl
  have h1 : FM σ τ := h0.tr f.fm
  obtain ⟨o, o1, o2, -⟩ : ∃ a, a < r.1.ops.length ∧ v = nI a ∧ MtS r.1 w a := by
    rcases hD with ⟨q, -⟩ | q
    · exact absurd (by rw [q]; decide) hv
    · exact q
  have ob := K.1.2.1
  subst o2
  have bb : mv_b τ = mv_b σ := funext fun o => (f.2.2.1 o id).trans (by rw [eS]; rfl)
  have aa : mv_a τ = mv_a σ := funext fun o => (f.2.1 o id).trans (by rw [eS]; rfl)
  have i9 : ∀ o k, ¬ (o = 64) → mv_i τ o k = mv_i σ o k := fun o k q => h1.1 o k q
  have Kt : KOx P r τ := K.fr (fun k _ => i9 P k (by omega)) (fun o k _ _ => by rw [aa]) (fun k _ => by rw [aa]) (fun k _ => by rw [aa]) (fun k _ => by rw [bb])
  have St : SPq P r.1 τ := Sp.fr (fun k _ => i9 P k (by omega)) (fun o k _ _ => by rw [bb]) (fun o k _ _ => by rw [aa]) (fun k _ => by rw [aa])
  have Ct := hC.fm h1 hPP
  have Vt : VLw (fsL r.1.tl) (eW r w) r.1.tl.length τ (mv_b τ 66, R, fun _ => false) := ⟨fun t i ht hi => by rw [bb]; exact hV t i ht hi, fun _ _ => rfl⟩
  have i7 : mv_i τ 64 7 = 0 := by rw [f.1 64 7 (by omega), eS]; exact (mv_si_o _ _ (by omega)).trans (mv_si_s _ _ _ _)
  have i8 : mv_i τ 64 8 = 0 := by rw [f.1 64 8 (by omega), eS]; exact mv_si_s _ _ _ _
  have At : ASw P τ (mv_b τ 66, R, fun _ => false) := ⟨Or.inl i8, ⟨fun q => by rw [i8] at q; exact absurd q (by decide), fun ⟨u, _, _, q⟩ => by cases q⟩⟩
  obtain ⟨τ', e, e2, e3, u, e4, e5⟩ := prf_K hP Kt St Ct o1 Vt At i7
  have sf := stF_o (R := R) hL (dcV_e hU hD) o1 (by omega) (mv_b τ 66)
  refine ⟨_, τ', by rw [cln (by omega)]; exact e, ⟨h1.tr e2.fm, ⟨?_, ?_, by rw [e2.1 64 12 (by omega), f12, eS]; exact (mv_si_o _ _ (by omega)).trans (mv_si_o _ _ (by omega))⟩, ?_, fun y => ?_, fun y => ?_, u, ?_, e5⟩, e2.2.2.2.2.trans h1.2.2.2.2⟩
  · rw [e2.1 64 10 (by omega), f.1 64 10 (by omega), eS]; exact (mv_si_o _ _ (by omega)).trans (mv_si_o _ _ (by omega))
  · rw [e2.1 64 11 (by omega), f.1 64 11 (by omega), eS]; exact (mv_si_o _ _ (by omega)).trans (mv_si_o _ _ (by omega))
  · rw [sf]; rfl
  · obtain ⟨y1, y2⟩ := e3 y
    refine ⟨_, y1, y2, ?_⟩
    have y : (bdO r o (eW r w) (mv_b τ 66, R, fun _ => false)).1 = 0 := y
    rw [sf]
    show _ = if (bdO r o (eW r w) (mv_b τ 66, R, fun _ => false)).1 = 0 then _ else _
    rw [if_pos y]; rfl
  · have y : ¬ (bdO r o (eW r w) (mv_b τ 66, R, fun _ => false)).1 = 0 := y
    rw [sf]
    show (if (bdO r o (eW r w) (mv_b τ 66, R, fun _ => false)).1 = 0 then _ else R) = R
    rw [if_neg y]
  · rw [bb] at e4; exact e4

/-- an op is done -/
theorem OM1_s {P R9 : Nat} (hR8 : R9 ≤ 8192) {r : SI × LZ × List DnS} {w : Int64} {R : Nat → Nat → Int64} {σ S τ : mv_H} {v : Int32} (hP : P = 32 ∨ P = 48 ∨ P = 145) (eS : S = mv_si (mv_si σ 64 7 0) 64 8 0) (f : F12 S τ) (f12 : mv_i τ 64 12 = mv_i S 64 12) (hU : UQs r.1) (hD : DCs r.1 w v) (hv : ¬ v < 0) (hL : LIq r) (K : KOx P r σ) (Sp : SPq P r.1 σ) (hC : CodeOK P R9 σ r.1.tl.length) (hV : VLr r σ R) : ∃ x τ', f_Machine_perform_s P τ (mv_a τ (P + 7) v.toNatClampNeg) w = some (x, τ') ∧ OMq P r w R σ τ' x ∧ mv_r τ' = mv_r σ := by
  have hPP : PP P := by unfold PP; omega
  have h0 : FM σ S := by rw [eS]; exact (FM0.si rfl).si rfl
  have h1 : FM σ τ := h0.tr f.fm
  obtain ⟨o, o1, o2, -⟩ : ∃ a, a < r.1.ops.length ∧ v = nI a ∧ MtS r.1 w a := by
    rcases hD with ⟨q, -⟩ | q
    · exact absurd (by rw [q]; decide) hv
    · exact q
  have ob := K.1.2.1
  subst o2
  have bb : mv_b τ = mv_b σ := funext fun o => (f.2.2.1 o id).trans (by rw [eS]; rfl)
  have aa : mv_a τ = mv_a σ := funext fun o => (f.2.1 o id).trans (by rw [eS]; rfl)
  have i9 : ∀ o k, ¬ (o = 64) → mv_i τ o k = mv_i σ o k := fun o k q => h1.1 o k q
  have Kt : KOx P r τ := K.fr (fun k _ => i9 P k (by omega)) (fun o k _ _ => by rw [aa]) (fun k _ => by rw [aa]) (fun k _ => by rw [aa]) (fun k _ => by rw [bb])
  have St : SPq P r.1 τ := Sp.fr (fun k _ => i9 P k (by omega)) (fun o k _ _ => by rw [bb]) (fun o k _ _ => by rw [aa]) (fun k _ => by rw [aa])
  have Ct := hC.fm h1 hPP
  have Vt : VLw (fsL r.1.tl) (eW r w) r.1.tl.length τ (mv_b τ 66, R, fun _ => false) := ⟨fun t i ht hi => by rw [bb]; exact hV t i ht hi, fun _ _ => rfl⟩
  have i7 : mv_i τ 64 7 = 0 := by rw [f.1 64 7 (by omega), eS]; exact (mv_si_o _ _ (by omega)).trans (mv_si_s _ _ _ _)
  have i8 : mv_i τ 64 8 = 0 := by rw [f.1 64 8 (by omega), eS]; exact mv_si_s _ _ _ _
  have At : ASw P τ (mv_b τ 66, R, fun _ => false) := ⟨Or.inl i8, ⟨fun q => by rw [i8] at q; exact absurd q (by decide), fun ⟨u, _, _, q⟩ => by cases q⟩⟩
  obtain ⟨τ', e, e2, e3, u, e4, e5⟩ := prf_S hR8 hP Kt St Ct o1 Vt At i7
  have sf := stF_o (R := R) hL (dcV_e hU hD) o1 (by omega) (mv_b τ 66)
  refine ⟨_, τ', by rw [cln (by omega)]; exact e, ⟨h1.tr e2.fm, ⟨?_, ?_, by rw [e2.1 64 12 (by omega), f12, eS]; exact (mv_si_o _ _ (by omega)).trans (mv_si_o _ _ (by omega))⟩, ?_, fun y => ?_, fun y => ?_, u, ?_, e5⟩, e2.2.2.2.2.trans h1.2.2.2.2⟩
  · rw [e2.1 64 10 (by omega), f.1 64 10 (by omega), eS]; exact (mv_si_o _ _ (by omega)).trans (mv_si_o _ _ (by omega))
  · rw [e2.1 64 11 (by omega), f.1 64 11 (by omega), eS]; exact (mv_si_o _ _ (by omega)).trans (mv_si_o _ _ (by omega))
  · rw [sf]; rfl
  · obtain ⟨y1, y2⟩ := e3 y
    refine ⟨_, y1, y2, ?_⟩
    have y : (bdO r o (eW r w) (mv_b τ 66, R, fun _ => false)).1 = 0 := y
    rw [sf]
    show _ = if (bdO r o (eW r w) (mv_b τ 66, R, fun _ => false)).1 = 0 then _ else _
    rw [if_pos y]; rfl
  · have y : ¬ (bdO r o (eW r w) (mv_b τ 66, R, fun _ => false)).1 = 0 := y
    rw [sf]
    show (if (bdO r o (eW r w) (mv_b τ 66, R, fun _ => false)).1 = 0 then _ else R) = R
    rw [if_neg y]
  · rw [bb] at e4; exact e4

set_option maxHeartbeats 4000000 in
set_option maxRecDepth 100000 in
theorem c_kq_Machine_oneWith_a (l : Launch) {dA : FieldType → ClassId} {D : va_G} {al : Nat → Nat} {ext : mv_Sh} {sk sv : Nat → Nat} (hi : mv_inj (mg dA D al ext)) (σ : mv_H) (w9 : Int64) (hR : Rf 32 (mv_r σ)) (r9 : SI × LZ × List DnS) (R9 : Nat → Nat → Int64) (hK : KOx 32 r9 σ) (hS : SPq 32 r9.1 σ) (hO : TCq 32 32768 512 r9 σ) (th sl : Nat) (hTh : Th 32 σ th sl) (hV : VLr r9 σ R9) (hL9 : LIq r9) (hU : UQs r9.1) : mv_C l y_Machine_oneWith (Cond.code y_Machine_oneWith b_Machine_oneWith 4 (Option.none : Option Jvm.ClassFile.FieldType) :: ma) ({ frames := 5, cells := 0, slots := 0, locals := 129 }) (mg dA D al ext) (mK sk sv) [.ref (al 64), .long w9] σ (mv_Rv (fun σ1 => FM σ σ1 ∧ OWr r9 w9 R9 σ σ1)) := by
  refine mv_C.ofV (cc := b_Machine_oneWith) (nL := 4) (ret := (Option.none : Option Jvm.ClassFile.FieldType)) (by decide +kernel) rfl hi (Nat.le_of_ble_eq_true rfl) ?_
  intro p e s m below meth c B hNs hr hnm hno
  have hP : PP 32 := by unfold PP; omega
  have j43 : ∀ (τ : mv_H) (x9 : Int32) (qR : Rf 32 (mv_r τ)) (qM : OMq 32 r9 w9 R9 σ τ x9) (q9 : mv_i τ 64 9 = x9), mv_V p l e ({ frames := 5, cells := 0, slots := 0, locals := 129 }) s m ([.ref (al 64), .long w9] : List Value).toArray below meth c (mg dA D al ext) 4 0 0 (mv_Q (mg dA D al ext) below s 0 0 (mv_Rv (fun σ1 => FM σ σ1 ∧ OWr r9 w9 R9 σ σ1))) τ 43 [(0, .ref (al 64))] [] := by
    intro τ x9 qR qM q9
    refine mv_aload_n (pc := 43) B d_Machine_oneWith_43 rfl 0 rfl ?_
    refine mv_getI (pc := 44) (ci := 9) (C := R_Machine) (T := F_Machine) (N := 13) B 9 rfl rfl (by decide) i_Machine (B.2.2.2.1 _ k_451) rfl d_Machine_oneWith_44 ?_
    refine mv_if_ne (pc := 47) (tgt := 67) B d_Machine_oneWith_47 rfl (fun h47 => ?_) (fun h47 => ?_)
    · skip
      obtain ⟨t68, e68, f68, w68⟩ := qM.un q9 (fun z => h47 (q9.trans z)) hV
      refine mv_aload_n (pc := 67) B d_Machine_oneWith_67 rfl 0 rfl ?_
      refine mv_callVv (pc := 68) (n := 0) (ci := 9) (C := R_Machine) B (mK_ok sk sv) hNs rfl rfl (ch_Machine_undo_a l hi _ qR e68) rfl (ma_goodc kc_Machine_undo) (B.2.2.2.1 _ k_1639) (B.2.2.2.1 _ k_1641) (B.2.2.2.1 _ ks_76) (B.2.2.2.1 _ k_11) ⟨by decide +kernel, by decide +kernel, by decide +kernel⟩ rfl d_Machine_oneWith_68 rfl (Nat.le_of_ble_eq_true rfl) ⟨by decide, by decide⟩ ⟨by decide, by decide⟩ ⟨by decide, by decide⟩ (mv_noH hno _) (fun σ68 h68 => ?_)
      obtain ⟨z68, -⟩ := h68
      subst z68
      refine mv_aload_n (pc := 71) B d_Machine_oneWith_71 rfl 0 rfl ?_
      refine mv_dup (pc := 72) B d_Machine_oneWith_72 rfl ?_
      refine mv_getI (pc := 73) (ci := 9) (C := R_Machine) (T := F_Machine) (N := 13) B 11 rfl rfl (by decide) i_Machine (B.2.2.2.1 _ k_455) rfl d_Machine_oneWith_73 ?_
      refine mv_iconst (pc := 76) (v := 1) B d_Machine_oneWith_76 (by decide) ?_
      refine mv_iadd (pc := 77) B d_Machine_oneWith_77 ?_
      refine mv_putI (pc := 78) (ci := 9) (C := R_Machine) (T := F_Machine) (N := 13) B 11 rfl rfl (by decide) i_Machine t_Machine_ok n_Machine (B.2.2.2.1 _ k_455) rfl rfl rfl rfl d_Machine_oneWith_78 ?_
      exact mv_vret (pc := 81) B hr d_Machine_oneWith_81 (Nat.le_refl _) (Nat.le_refl _) ⟨rfl, by first | exact ⟨f51.si rfl, w51⟩ | exact ⟨f68.si rfl, w68⟩⟩
    · skip
      obtain ⟨t51, e51, f51, w51⟩ := OMq.gf (by decide) qM q9 (q9.symm.trans h47) hK hS hTh
      refine mv_aload_n (pc := 50) B d_Machine_oneWith_50 rfl 0 rfl ?_
      refine mv_callVv (pc := 51) (n := 0) (ci := 9) (C := R_Machine) B (mK_ok sk sv) hNs rfl rfl (ch_Machine_goForth_a l hi _ qR e51) rfl (ma_goodc kc_Machine_goForth) (B.2.2.2.1 _ k_1635) (B.2.2.2.1 _ k_1637) (B.2.2.2.1 _ ks_75) (B.2.2.2.1 _ k_11) ⟨by decide +kernel, by decide +kernel, by decide +kernel⟩ rfl d_Machine_oneWith_51 rfl (Nat.le_of_ble_eq_true rfl) ⟨by decide, by decide⟩ ⟨by decide, by decide⟩ ⟨by decide, by decide⟩ (mv_noH hno _) (fun σ51 h51 => ?_)
      obtain ⟨z51, -⟩ := h51
      subst z51
      refine mv_aload_n (pc := 54) B d_Machine_oneWith_54 rfl 0 rfl ?_
      refine mv_dup (pc := 55) B d_Machine_oneWith_55 rfl ?_
      refine mv_getI (pc := 56) (ci := 9) (C := R_Machine) (T := F_Machine) (N := 13) B 10 rfl rfl (by decide) i_Machine (B.2.2.2.1 _ k_453) rfl d_Machine_oneWith_56 ?_
      refine mv_iconst (pc := 59) (v := 1) B d_Machine_oneWith_59 (by decide) ?_
      refine mv_iadd (pc := 60) B d_Machine_oneWith_60 ?_
      refine mv_putI (pc := 61) (ci := 9) (C := R_Machine) (T := F_Machine) (N := 13) B 10 rfl rfl (by decide) i_Machine t_Machine_ok n_Machine (B.2.2.2.1 _ k_453) rfl rfl rfl rfl d_Machine_oneWith_61 ?_
      refine mv_goto (pc := 64) (tgt := 81) B d_Machine_oneWith_64 rfl ?_
      exact mv_vret (pc := 81) B hr d_Machine_oneWith_81 (Nat.le_refl _) (Nat.le_refl _) ⟨rfl, by first | exact ⟨f51.si rfl, w51⟩ | exact ⟨f68.si rfl, w68⟩⟩
  have j40 : ∀ (τ : mv_H) (x9 : Int32) (qR : Rf 32 (mv_r τ)) (qM : OMq 32 r9 w9 R9 σ τ x9), mv_V p l e ({ frames := 5, cells := 0, slots := 0, locals := 129 }) s m ([.ref (al 64), .long w9] : List Value).toArray below meth c (mg dA D al ext) 4 0 0 (mv_Q (mg dA D al ext) below s 0 0 (mv_Rv (fun σ1 => FM σ σ1 ∧ OWr r9 w9 R9 σ σ1))) τ 40 [(0, .ref (al 64))] [.int x9, .ref (al 64)] := by
    intro τ x9 qR qM
    refine mv_putI (pc := 40) (ci := 9) (C := R_Machine) (T := F_Machine) (N := 13) B 9 rfl rfl (by decide) i_Machine t_Machine_ok n_Machine (B.2.2.2.1 _ k_451) rfl rfl rfl rfl d_Machine_oneWith_40 ?_
    refine mv_lpick [0] rfl ?_
    exact j43 _ _ qR (OMq.lt (by decide) qM) (mv_si_s _ _ _ _)
  refine mv_aload_n (pc := 0) B d_Machine_oneWith_0 rfl 0 rfl ?_
  refine mv_iconst (pc := 1) (v := 0) B d_Machine_oneWith_1 (by decide) ?_
  refine mv_putI (pc := 2) (ci := 9) (C := R_Machine) (T := F_Machine) (N := 13) B 7 rfl rfl (by decide) i_Machine t_Machine_ok n_Machine (B.2.2.2.1 _ k_449) rfl rfl rfl rfl d_Machine_oneWith_2 ?_
  refine mv_aload_n (pc := 5) B d_Machine_oneWith_5 rfl 0 rfl ?_
  refine mv_iconst (pc := 6) (v := 0) B d_Machine_oneWith_6 (by decide) ?_
  refine mv_putI (pc := 7) (ci := 9) (C := R_Machine) (T := F_Machine) (N := 13) B 8 rfl rfl (by decide) i_Machine t_Machine_ok n_Machine (B.2.2.2.1 _ k_450) rfl rfl rfl rfl d_Machine_oneWith_7 ?_
  refine mv_gen (fun S eS => ?_)
  have eS9 := eS
  have sR : Rf 32 (mv_r S) := by rw [eS]; exact hR
  have sF : FM σ S := by rw [eS]; exact (FM0.si rfl).si rfl
  have sS : SPq 32 r9.1 S := hS.fr (fun k _ => sF.1 32 k (by omega)) (fun o k _ _ => by rw [eS]; rfl) (fun o k _ _ => by rw [eS]; rfl) (fun k _ => by rw [eS]; rfl)
  have sT : TreeOK 32 512 S := (hO.resolve_right (fun z => z.1)).1.fm sF hP
  clear eS
  refine mv_aload_n (pc := 10) B d_Machine_oneWith_10 rfl 0 rfl ?_
  refine mv_lload_n (pc := 11) B d_Machine_oneWith_11 rfl 1 rfl ?_
  refine mv_callVi (pc := 12) (n := 1) (ci := 9) (C := R_Machine) B (mK_ok sk sv) hNs rfl rfl (c_kv_Machine_opOf_a l hi _ _ sR sT (hU.q sS)) rfl (ma_goodc kc_Machine_opOf) (B.2.2.2.1 _ k_1576) (B.2.2.2.1 _ k_1561) (B.2.2.2.1 _ k_1562) (B.2.2.2.1 _ k_11) ⟨by decide +kernel, by decide +kernel, by decide +kernel⟩ rfl d_Machine_oneWith_12 rfl (Nat.le_of_ble_eq_true rfl) ⟨by decide, by decide⟩ ⟨by decide, by decide⟩ ⟨by decide, by decide⟩ (mv_noH hno _) (fun v12 σ12 h12 => ?_)
  obtain ⟨e12, d12⟩ := h12
  have f12 : F12 S σ12 := by rw [e12]; exact Fr.rf
  have g12 : mv_i σ12 64 12 = mv_i S 64 12 := by rw [e12]
  have d12 := d12.s sS
  have sR : Rf 32 (mv_r σ12) := by rw [f12.2.2.2.2]; exact sR
  refine mv_istore_n (pc := 15) B d_Machine_oneWith_15 rfl (by decide) rfl ?_
  refine mv_aload_n (pc := 16) B d_Machine_oneWith_16 rfl 1 rfl ?_
  refine mv_iload_n (pc := 17) B d_Machine_oneWith_17 rfl 0 rfl ?_
  refine mv_if_ge (pc := 18) (tgt := 26) B d_Machine_oneWith_18 rfl (fun h18 => ?_) (fun h18 => ?_)
  · skip
    have hC := hO.c d12 h18
    obtain ⟨x37, t37, e37, m37, r39⟩ := OM1 (P := 32) (R := R9) (by decide) eS9 f12 g12 hU d12 (Int32.not_lt.mpr h18) hL9 hK hS hC hV
    have k0 : 0 ≤ v12.toInt := Int32.le_iff_toInt_le.mp h18
    have ob : r9.1.ops.length ≤ 512 := hO.n hS
    have kM : v12.toInt < 512 := by
      rcases d12 with ⟨q, -⟩ | ⟨a, a1, a2, -⟩
      · rw [q] at k0; exact absurd k0 (by decide)
      · rw [a2, nIi (by omega)]; omega
    refine mv_aload_n (pc := 26) B d_Machine_oneWith_26 rfl 1 rfl ?_
    refine mv_aload_n (pc := 27) B d_Machine_oneWith_27 rfl 1 rfl ?_
    refine mv_getR (pc := 28) (ci := 9) (C := R_Machine) (T := F_Machine) (N := 13) B 0 rfl rfl (by decide) i_Machine (B.2.2.2.1 _ k_440) rfl sR.2.2 d_Machine_oneWith_28 ?_
    refine mv_getR (pc := 31) (ci := 7) (C := R_Program) (T := F_Program) (N := 19) B 13 rfl rfl (by decide) i_Program (B.2.2.2.1 _ k_355) rfl (sR.2.1 _ 13 39 rfl) d_Machine_oneWith_31 ?_
    refine mv_iload_n (pc := 34) B d_Machine_oneWith_34 rfl 0 rfl ?_
    refine mv_iald (pc := 35) B rfl (i32_in k0 (by omega)) d_Machine_oneWith_35 ?_
    refine mv_lload_n (pc := 36) B d_Machine_oneWith_36 rfl 2 rfl ?_
    refine mv_callVi (pc := 37) (n := 2) (ci := 9) (C := R_Machine) B (mK_ok sk sv) hNs rfl rfl (ch_Machine_perform_a l hi _ sR _ _ e37) rfl (ma_goodc kc_Machine_perform) (B.2.2.2.1 _ k_1577) (B.2.2.2.1 _ k_1579) (B.2.2.2.1 _ ks_69) (B.2.2.2.1 _ k_11) ⟨by decide +kernel, by decide +kernel, by decide +kernel⟩ rfl d_Machine_oneWith_37 rfl (Nat.le_of_ble_eq_true rfl) ⟨by decide, by decide⟩ ⟨by decide, by decide⟩ ⟨by decide, by decide⟩ (mv_noH hno _) (fun v37 σ37 h37 => ?_)
    obtain ⟨z37, y37, -⟩ := h37
    subst z37
    subst y37
    refine mv_lpick [1] rfl ?_
    first | exact j40 _ _ sR m18 | exact j40 _ _ (by rw [r39]; exact hR) m37
  · skip
    have m18 := OM0 (P := 32) (R := R9) eS9 f12 g12 hU d12 (Int32.not_le.mp h18)
    refine mv_bipush (pc := 21) (v := -2) B d_Machine_oneWith_21 (by decide) ?_
    refine mv_goto (pc := 23) (tgt := 40) B d_Machine_oneWith_23 rfl ?_
    refine mv_lpick [1] rfl ?_
    first | exact j40 _ _ sR m18 | exact j40 _ _ (by rw [r39]; exact hR) m37
set_option maxHeartbeats 4000000 in
set_option maxRecDepth 100000 in
theorem c_kq_Machine_oneWith_b (l : Launch) {dA : FieldType → ClassId} {D : va_G} {al : Nat → Nat} {ext : mv_Sh} {sk sv : Nat → Nat} (hi : mv_inj (mg dA D al ext)) (σ : mv_H) (w9 : Int64) (hR : Rf 48 (mv_r σ)) (r9 : SI × LZ × List DnS) (R9 : Nat → Nat → Int64) (hK : KOx 48 r9 σ) (hS : SPq 48 r9.1 σ) (hO : TCq 48 32768 512 r9 σ) (th sl : Nat) (hTh : Th 48 σ th sl) (hV : VLr r9 σ R9) (hL9 : LIq r9) (hU : UQs r9.1) : mv_C l y_Machine_oneWith (Cond.code y_Machine_oneWith b_Machine_oneWith 4 (Option.none : Option Jvm.ClassFile.FieldType) :: ma) ({ frames := 5, cells := 0, slots := 0, locals := 129 }) (mg dA D al ext) (mK sk sv) [.ref (al 64), .long w9] σ (mv_Rv (fun σ1 => FM σ σ1 ∧ OWr r9 w9 R9 σ σ1)) := by
  refine mv_C.ofV (cc := b_Machine_oneWith) (nL := 4) (ret := (Option.none : Option Jvm.ClassFile.FieldType)) (by decide +kernel) rfl hi (Nat.le_of_ble_eq_true rfl) ?_
  intro p e s m below meth c B hNs hr hnm hno
  have hP : PP 48 := by unfold PP; omega
  have j43 : ∀ (τ : mv_H) (x9 : Int32) (qR : Rf 48 (mv_r τ)) (qM : OMq 48 r9 w9 R9 σ τ x9) (q9 : mv_i τ 64 9 = x9), mv_V p l e ({ frames := 5, cells := 0, slots := 0, locals := 129 }) s m ([.ref (al 64), .long w9] : List Value).toArray below meth c (mg dA D al ext) 4 0 0 (mv_Q (mg dA D al ext) below s 0 0 (mv_Rv (fun σ1 => FM σ σ1 ∧ OWr r9 w9 R9 σ σ1))) τ 43 [(0, .ref (al 64))] [] := by
    intro τ x9 qR qM q9
    refine mv_aload_n (pc := 43) B d_Machine_oneWith_43 rfl 0 rfl ?_
    refine mv_getI (pc := 44) (ci := 9) (C := R_Machine) (T := F_Machine) (N := 13) B 9 rfl rfl (by decide) i_Machine (B.2.2.2.1 _ k_451) rfl d_Machine_oneWith_44 ?_
    refine mv_if_ne (pc := 47) (tgt := 67) B d_Machine_oneWith_47 rfl (fun h47 => ?_) (fun h47 => ?_)
    · skip
      obtain ⟨t68, e68, f68, w68⟩ := qM.un q9 (fun z => h47 (q9.trans z)) hV
      refine mv_aload_n (pc := 67) B d_Machine_oneWith_67 rfl 0 rfl ?_
      refine mv_callVv (pc := 68) (n := 0) (ci := 9) (C := R_Machine) B (mK_ok sk sv) hNs rfl rfl (ch_Machine_undo_b l hi _ qR e68) rfl (ma_goodc kc_Machine_undo) (B.2.2.2.1 _ k_1639) (B.2.2.2.1 _ k_1641) (B.2.2.2.1 _ ks_76) (B.2.2.2.1 _ k_11) ⟨by decide +kernel, by decide +kernel, by decide +kernel⟩ rfl d_Machine_oneWith_68 rfl (Nat.le_of_ble_eq_true rfl) ⟨by decide, by decide⟩ ⟨by decide, by decide⟩ ⟨by decide, by decide⟩ (mv_noH hno _) (fun σ68 h68 => ?_)
      obtain ⟨z68, -⟩ := h68
      subst z68
      refine mv_aload_n (pc := 71) B d_Machine_oneWith_71 rfl 0 rfl ?_
      refine mv_dup (pc := 72) B d_Machine_oneWith_72 rfl ?_
      refine mv_getI (pc := 73) (ci := 9) (C := R_Machine) (T := F_Machine) (N := 13) B 11 rfl rfl (by decide) i_Machine (B.2.2.2.1 _ k_455) rfl d_Machine_oneWith_73 ?_
      refine mv_iconst (pc := 76) (v := 1) B d_Machine_oneWith_76 (by decide) ?_
      refine mv_iadd (pc := 77) B d_Machine_oneWith_77 ?_
      refine mv_putI (pc := 78) (ci := 9) (C := R_Machine) (T := F_Machine) (N := 13) B 11 rfl rfl (by decide) i_Machine t_Machine_ok n_Machine (B.2.2.2.1 _ k_455) rfl rfl rfl rfl d_Machine_oneWith_78 ?_
      exact mv_vret (pc := 81) B hr d_Machine_oneWith_81 (Nat.le_refl _) (Nat.le_refl _) ⟨rfl, by first | exact ⟨f51.si rfl, w51⟩ | exact ⟨f68.si rfl, w68⟩⟩
    · skip
      obtain ⟨t51, e51, f51, w51⟩ := OMq.gf (by decide) qM q9 (q9.symm.trans h47) hK hS hTh
      refine mv_aload_n (pc := 50) B d_Machine_oneWith_50 rfl 0 rfl ?_
      refine mv_callVv (pc := 51) (n := 0) (ci := 9) (C := R_Machine) B (mK_ok sk sv) hNs rfl rfl (ch_Machine_goForth_b l hi _ qR e51) rfl (ma_goodc kc_Machine_goForth) (B.2.2.2.1 _ k_1635) (B.2.2.2.1 _ k_1637) (B.2.2.2.1 _ ks_75) (B.2.2.2.1 _ k_11) ⟨by decide +kernel, by decide +kernel, by decide +kernel⟩ rfl d_Machine_oneWith_51 rfl (Nat.le_of_ble_eq_true rfl) ⟨by decide, by decide⟩ ⟨by decide, by decide⟩ ⟨by decide, by decide⟩ (mv_noH hno _) (fun σ51 h51 => ?_)
      obtain ⟨z51, -⟩ := h51
      subst z51
      refine mv_aload_n (pc := 54) B d_Machine_oneWith_54 rfl 0 rfl ?_
      refine mv_dup (pc := 55) B d_Machine_oneWith_55 rfl ?_
      refine mv_getI (pc := 56) (ci := 9) (C := R_Machine) (T := F_Machine) (N := 13) B 10 rfl rfl (by decide) i_Machine (B.2.2.2.1 _ k_453) rfl d_Machine_oneWith_56 ?_
      refine mv_iconst (pc := 59) (v := 1) B d_Machine_oneWith_59 (by decide) ?_
      refine mv_iadd (pc := 60) B d_Machine_oneWith_60 ?_
      refine mv_putI (pc := 61) (ci := 9) (C := R_Machine) (T := F_Machine) (N := 13) B 10 rfl rfl (by decide) i_Machine t_Machine_ok n_Machine (B.2.2.2.1 _ k_453) rfl rfl rfl rfl d_Machine_oneWith_61 ?_
      refine mv_goto (pc := 64) (tgt := 81) B d_Machine_oneWith_64 rfl ?_
      exact mv_vret (pc := 81) B hr d_Machine_oneWith_81 (Nat.le_refl _) (Nat.le_refl _) ⟨rfl, by first | exact ⟨f51.si rfl, w51⟩ | exact ⟨f68.si rfl, w68⟩⟩
  have j40 : ∀ (τ : mv_H) (x9 : Int32) (qR : Rf 48 (mv_r τ)) (qM : OMq 48 r9 w9 R9 σ τ x9), mv_V p l e ({ frames := 5, cells := 0, slots := 0, locals := 129 }) s m ([.ref (al 64), .long w9] : List Value).toArray below meth c (mg dA D al ext) 4 0 0 (mv_Q (mg dA D al ext) below s 0 0 (mv_Rv (fun σ1 => FM σ σ1 ∧ OWr r9 w9 R9 σ σ1))) τ 40 [(0, .ref (al 64))] [.int x9, .ref (al 64)] := by
    intro τ x9 qR qM
    refine mv_putI (pc := 40) (ci := 9) (C := R_Machine) (T := F_Machine) (N := 13) B 9 rfl rfl (by decide) i_Machine t_Machine_ok n_Machine (B.2.2.2.1 _ k_451) rfl rfl rfl rfl d_Machine_oneWith_40 ?_
    refine mv_lpick [0] rfl ?_
    exact j43 _ _ qR (OMq.lt (by decide) qM) (mv_si_s _ _ _ _)
  refine mv_aload_n (pc := 0) B d_Machine_oneWith_0 rfl 0 rfl ?_
  refine mv_iconst (pc := 1) (v := 0) B d_Machine_oneWith_1 (by decide) ?_
  refine mv_putI (pc := 2) (ci := 9) (C := R_Machine) (T := F_Machine) (N := 13) B 7 rfl rfl (by decide) i_Machine t_Machine_ok n_Machine (B.2.2.2.1 _ k_449) rfl rfl rfl rfl d_Machine_oneWith_2 ?_
  refine mv_aload_n (pc := 5) B d_Machine_oneWith_5 rfl 0 rfl ?_
  refine mv_iconst (pc := 6) (v := 0) B d_Machine_oneWith_6 (by decide) ?_
  refine mv_putI (pc := 7) (ci := 9) (C := R_Machine) (T := F_Machine) (N := 13) B 8 rfl rfl (by decide) i_Machine t_Machine_ok n_Machine (B.2.2.2.1 _ k_450) rfl rfl rfl rfl d_Machine_oneWith_7 ?_
  refine mv_gen (fun S eS => ?_)
  have eS9 := eS
  have sR : Rf 48 (mv_r S) := by rw [eS]; exact hR
  have sF : FM σ S := by rw [eS]; exact (FM0.si rfl).si rfl
  have sS : SPq 48 r9.1 S := hS.fr (fun k _ => sF.1 48 k (by omega)) (fun o k _ _ => by rw [eS]; rfl) (fun o k _ _ => by rw [eS]; rfl) (fun k _ => by rw [eS]; rfl)
  have sT : TreeOK 48 512 S := (hO.resolve_right (fun z => z.1)).1.fm sF hP
  clear eS
  refine mv_aload_n (pc := 10) B d_Machine_oneWith_10 rfl 0 rfl ?_
  refine mv_lload_n (pc := 11) B d_Machine_oneWith_11 rfl 1 rfl ?_
  refine mv_callVi (pc := 12) (n := 1) (ci := 9) (C := R_Machine) B (mK_ok sk sv) hNs rfl rfl (c_kv_Machine_opOf_b l hi _ _ sR sT (hU.q sS)) rfl (ma_goodc kc_Machine_opOf) (B.2.2.2.1 _ k_1576) (B.2.2.2.1 _ k_1561) (B.2.2.2.1 _ k_1562) (B.2.2.2.1 _ k_11) ⟨by decide +kernel, by decide +kernel, by decide +kernel⟩ rfl d_Machine_oneWith_12 rfl (Nat.le_of_ble_eq_true rfl) ⟨by decide, by decide⟩ ⟨by decide, by decide⟩ ⟨by decide, by decide⟩ (mv_noH hno _) (fun v12 σ12 h12 => ?_)
  obtain ⟨e12, d12⟩ := h12
  have f12 : F12 S σ12 := by rw [e12]; exact Fr.rf
  have g12 : mv_i σ12 64 12 = mv_i S 64 12 := by rw [e12]
  have d12 := d12.s sS
  have sR : Rf 48 (mv_r σ12) := by rw [f12.2.2.2.2]; exact sR
  refine mv_istore_n (pc := 15) B d_Machine_oneWith_15 rfl (by decide) rfl ?_
  refine mv_aload_n (pc := 16) B d_Machine_oneWith_16 rfl 1 rfl ?_
  refine mv_iload_n (pc := 17) B d_Machine_oneWith_17 rfl 0 rfl ?_
  refine mv_if_ge (pc := 18) (tgt := 26) B d_Machine_oneWith_18 rfl (fun h18 => ?_) (fun h18 => ?_)
  · skip
    have hC := hO.c d12 h18
    obtain ⟨x37, t37, e37, m37, r39⟩ := OM1 (P := 48) (R := R9) (by decide) eS9 f12 g12 hU d12 (Int32.not_lt.mpr h18) hL9 hK hS hC hV
    have k0 : 0 ≤ v12.toInt := Int32.le_iff_toInt_le.mp h18
    have ob : r9.1.ops.length ≤ 512 := hO.n hS
    have kM : v12.toInt < 512 := by
      rcases d12 with ⟨q, -⟩ | ⟨a, a1, a2, -⟩
      · rw [q] at k0; exact absurd k0 (by decide)
      · rw [a2, nIi (by omega)]; omega
    refine mv_aload_n (pc := 26) B d_Machine_oneWith_26 rfl 1 rfl ?_
    refine mv_aload_n (pc := 27) B d_Machine_oneWith_27 rfl 1 rfl ?_
    refine mv_getR (pc := 28) (ci := 9) (C := R_Machine) (T := F_Machine) (N := 13) B 0 rfl rfl (by decide) i_Machine (B.2.2.2.1 _ k_440) rfl sR.2.2 d_Machine_oneWith_28 ?_
    refine mv_getR (pc := 31) (ci := 7) (C := R_Program) (T := F_Program) (N := 19) B 13 rfl rfl (by decide) i_Program (B.2.2.2.1 _ k_355) rfl (sR.2.1 _ 13 55 rfl) d_Machine_oneWith_31 ?_
    refine mv_iload_n (pc := 34) B d_Machine_oneWith_34 rfl 0 rfl ?_
    refine mv_iald (pc := 35) B rfl (i32_in k0 (by omega)) d_Machine_oneWith_35 ?_
    refine mv_lload_n (pc := 36) B d_Machine_oneWith_36 rfl 2 rfl ?_
    refine mv_callVi (pc := 37) (n := 2) (ci := 9) (C := R_Machine) B (mK_ok sk sv) hNs rfl rfl (ch_Machine_perform_b l hi _ sR _ _ e37) rfl (ma_goodc kc_Machine_perform) (B.2.2.2.1 _ k_1577) (B.2.2.2.1 _ k_1579) (B.2.2.2.1 _ ks_69) (B.2.2.2.1 _ k_11) ⟨by decide +kernel, by decide +kernel, by decide +kernel⟩ rfl d_Machine_oneWith_37 rfl (Nat.le_of_ble_eq_true rfl) ⟨by decide, by decide⟩ ⟨by decide, by decide⟩ ⟨by decide, by decide⟩ (mv_noH hno _) (fun v37 σ37 h37 => ?_)
    obtain ⟨z37, y37, -⟩ := h37
    subst z37
    subst y37
    refine mv_lpick [1] rfl ?_
    first | exact j40 _ _ sR m18 | exact j40 _ _ (by rw [r39]; exact hR) m37
  · skip
    have m18 := OM0 (P := 48) (R := R9) eS9 f12 g12 hU d12 (Int32.not_le.mp h18)
    refine mv_bipush (pc := 21) (v := -2) B d_Machine_oneWith_21 (by decide) ?_
    refine mv_goto (pc := 23) (tgt := 40) B d_Machine_oneWith_23 rfl ?_
    refine mv_lpick [1] rfl ?_
    first | exact j40 _ _ sR m18 | exact j40 _ _ (by rw [r39]; exact hR) m37
set_option maxHeartbeats 4000000 in
set_option maxRecDepth 100000 in
theorem c_kq_Machine_oneWith_c (l : Launch) {dA : FieldType → ClassId} {D : va_G} {al : Nat → Nat} {sk sv : Nat → Nat} (hi : mv_inj (mg dA D al me)) (σ : mv_H) (w9 : Int64) (hR : Rf 145 (mv_r σ)) (r9 : SI × LZ × List DnS) (R9 : Nat → Nat → Int64) (hK : KOx 145 r9 σ) (hS : SPq 145 r9.1 σ) (hO : TCq 145 8192 48 r9 σ) (th sl : Nat) (hTh : Th 145 σ th sl) (hV : VLr r9 σ R9) (hL9 : LIq r9) (hU : UQs r9.1) : mv_C l y_Machine_oneWith (Cond.code y_Machine_oneWith b_Machine_oneWith 4 (Option.none : Option Jvm.ClassFile.FieldType) :: ma) ({ frames := 5, cells := 0, slots := 0, locals := 129 }) (mg dA D al me) (mK sk sv) [.ref (al 64), .long w9] σ (mv_Rv (fun σ1 => FM σ σ1 ∧ OWr r9 w9 R9 σ σ1)) := by
  refine mv_C.ofV (cc := b_Machine_oneWith) (nL := 4) (ret := (Option.none : Option Jvm.ClassFile.FieldType)) (by decide +kernel) rfl hi (Nat.le_of_ble_eq_true rfl) ?_
  intro p e s m below meth c B hNs hr hnm hno
  have hP : PP 145 := by unfold PP; omega
  have j43 : ∀ (τ : mv_H) (x9 : Int32) (qR : Rf 145 (mv_r τ)) (qM : OMq 145 r9 w9 R9 σ τ x9) (q9 : mv_i τ 64 9 = x9), mv_V p l e ({ frames := 5, cells := 0, slots := 0, locals := 129 }) s m ([.ref (al 64), .long w9] : List Value).toArray below meth c (mg dA D al me) 4 0 0 (mv_Q (mg dA D al me) below s 0 0 (mv_Rv (fun σ1 => FM σ σ1 ∧ OWr r9 w9 R9 σ σ1))) τ 43 [(0, .ref (al 64))] [] := by
    intro τ x9 qR qM q9
    refine mv_aload_n (pc := 43) B d_Machine_oneWith_43 rfl 0 rfl ?_
    refine mv_getI (pc := 44) (ci := 9) (C := R_Machine) (T := F_Machine) (N := 13) B 9 rfl rfl (by decide) i_Machine (B.2.2.2.1 _ k_451) rfl d_Machine_oneWith_44 ?_
    refine mv_if_ne (pc := 47) (tgt := 67) B d_Machine_oneWith_47 rfl (fun h47 => ?_) (fun h47 => ?_)
    · skip
      obtain ⟨t68, e68, f68, w68⟩ := qM.un q9 (fun z => h47 (q9.trans z)) hV
      refine mv_aload_n (pc := 67) B d_Machine_oneWith_67 rfl 0 rfl ?_
      refine mv_callVv (pc := 68) (n := 0) (ci := 9) (C := R_Machine) B (mK_ok sk sv) hNs rfl rfl (ch_Machine_undo_s_c l hi _ qR (by rw [s_undo]; exact e68)) rfl (ma_goodc kc_Machine_undo) (B.2.2.2.1 _ k_1639) (B.2.2.2.1 _ k_1641) (B.2.2.2.1 _ ks_76) (B.2.2.2.1 _ k_11) ⟨by decide +kernel, by decide +kernel, by decide +kernel⟩ rfl d_Machine_oneWith_68 rfl (Nat.le_of_ble_eq_true rfl) ⟨by decide, by decide⟩ ⟨by decide, by decide⟩ ⟨by decide, by decide⟩ (mv_noH hno _) (fun σ68 h68 => ?_)
      obtain ⟨z68, -⟩ := h68
      subst z68
      refine mv_aload_n (pc := 71) B d_Machine_oneWith_71 rfl 0 rfl ?_
      refine mv_dup (pc := 72) B d_Machine_oneWith_72 rfl ?_
      refine mv_getI (pc := 73) (ci := 9) (C := R_Machine) (T := F_Machine) (N := 13) B 11 rfl rfl (by decide) i_Machine (B.2.2.2.1 _ k_455) rfl d_Machine_oneWith_73 ?_
      refine mv_iconst (pc := 76) (v := 1) B d_Machine_oneWith_76 (by decide) ?_
      refine mv_iadd (pc := 77) B d_Machine_oneWith_77 ?_
      refine mv_putI (pc := 78) (ci := 9) (C := R_Machine) (T := F_Machine) (N := 13) B 11 rfl rfl (by decide) i_Machine t_Machine_ok n_Machine (B.2.2.2.1 _ k_455) rfl rfl rfl rfl d_Machine_oneWith_78 ?_
      exact mv_vret (pc := 81) B hr d_Machine_oneWith_81 (Nat.le_refl _) (Nat.le_refl _) ⟨rfl, by first | exact ⟨f51.si rfl, w51⟩ | exact ⟨f68.si rfl, w68⟩⟩
    · skip
      obtain ⟨t51, e51, f51, w51⟩ := OMq.gf (by decide) qM q9 (q9.symm.trans h47) hK hS hTh
      refine mv_aload_n (pc := 50) B d_Machine_oneWith_50 rfl 0 rfl ?_
      refine mv_callVv (pc := 51) (n := 0) (ci := 9) (C := R_Machine) B (mK_ok sk sv) hNs rfl rfl (ch_Machine_goForth_s_c l hi _ qR (by rw [s_goForth]; exact e51)) rfl (ma_goodc kc_Machine_goForth) (B.2.2.2.1 _ k_1635) (B.2.2.2.1 _ k_1637) (B.2.2.2.1 _ ks_75) (B.2.2.2.1 _ k_11) ⟨by decide +kernel, by decide +kernel, by decide +kernel⟩ rfl d_Machine_oneWith_51 rfl (Nat.le_of_ble_eq_true rfl) ⟨by decide, by decide⟩ ⟨by decide, by decide⟩ ⟨by decide, by decide⟩ (mv_noH hno _) (fun σ51 h51 => ?_)
      obtain ⟨z51, -⟩ := h51
      subst z51
      refine mv_aload_n (pc := 54) B d_Machine_oneWith_54 rfl 0 rfl ?_
      refine mv_dup (pc := 55) B d_Machine_oneWith_55 rfl ?_
      refine mv_getI (pc := 56) (ci := 9) (C := R_Machine) (T := F_Machine) (N := 13) B 10 rfl rfl (by decide) i_Machine (B.2.2.2.1 _ k_453) rfl d_Machine_oneWith_56 ?_
      refine mv_iconst (pc := 59) (v := 1) B d_Machine_oneWith_59 (by decide) ?_
      refine mv_iadd (pc := 60) B d_Machine_oneWith_60 ?_
      refine mv_putI (pc := 61) (ci := 9) (C := R_Machine) (T := F_Machine) (N := 13) B 10 rfl rfl (by decide) i_Machine t_Machine_ok n_Machine (B.2.2.2.1 _ k_453) rfl rfl rfl rfl d_Machine_oneWith_61 ?_
      refine mv_goto (pc := 64) (tgt := 81) B d_Machine_oneWith_64 rfl ?_
      exact mv_vret (pc := 81) B hr d_Machine_oneWith_81 (Nat.le_refl _) (Nat.le_refl _) ⟨rfl, by first | exact ⟨f51.si rfl, w51⟩ | exact ⟨f68.si rfl, w68⟩⟩
  have j40 : ∀ (τ : mv_H) (x9 : Int32) (qR : Rf 145 (mv_r τ)) (qM : OMq 145 r9 w9 R9 σ τ x9), mv_V p l e ({ frames := 5, cells := 0, slots := 0, locals := 129 }) s m ([.ref (al 64), .long w9] : List Value).toArray below meth c (mg dA D al me) 4 0 0 (mv_Q (mg dA D al me) below s 0 0 (mv_Rv (fun σ1 => FM σ σ1 ∧ OWr r9 w9 R9 σ σ1))) τ 40 [(0, .ref (al 64))] [.int x9, .ref (al 64)] := by
    intro τ x9 qR qM
    refine mv_putI (pc := 40) (ci := 9) (C := R_Machine) (T := F_Machine) (N := 13) B 9 rfl rfl (by decide) i_Machine t_Machine_ok n_Machine (B.2.2.2.1 _ k_451) rfl rfl rfl rfl d_Machine_oneWith_40 ?_
    refine mv_lpick [0] rfl ?_
    exact j43 _ _ qR (OMq.lt (by decide) qM) (mv_si_s _ _ _ _)
  refine mv_aload_n (pc := 0) B d_Machine_oneWith_0 rfl 0 rfl ?_
  refine mv_iconst (pc := 1) (v := 0) B d_Machine_oneWith_1 (by decide) ?_
  refine mv_putI (pc := 2) (ci := 9) (C := R_Machine) (T := F_Machine) (N := 13) B 7 rfl rfl (by decide) i_Machine t_Machine_ok n_Machine (B.2.2.2.1 _ k_449) rfl rfl rfl rfl d_Machine_oneWith_2 ?_
  refine mv_aload_n (pc := 5) B d_Machine_oneWith_5 rfl 0 rfl ?_
  refine mv_iconst (pc := 6) (v := 0) B d_Machine_oneWith_6 (by decide) ?_
  refine mv_putI (pc := 7) (ci := 9) (C := R_Machine) (T := F_Machine) (N := 13) B 8 rfl rfl (by decide) i_Machine t_Machine_ok n_Machine (B.2.2.2.1 _ k_450) rfl rfl rfl rfl d_Machine_oneWith_7 ?_
  refine mv_gen (fun S eS => ?_)
  have eS9 := eS
  have sR : Rf 145 (mv_r S) := by rw [eS]; exact hR
  have sF : FM σ S := by rw [eS]; exact (FM0.si rfl).si rfl
  have sS : SPq 145 r9.1 S := hS.fr (fun k _ => sF.1 145 k (by omega)) (fun o k _ _ => by rw [eS]; rfl) (fun o k _ _ => by rw [eS]; rfl) (fun k _ => by rw [eS]; rfl)
  have sT : TreeOK 145 48 S := (hO.resolve_right (fun z => z.1)).1.fm sF hP
  clear eS
  refine mv_aload_n (pc := 10) B d_Machine_oneWith_10 rfl 0 rfl ?_
  refine mv_lload_n (pc := 11) B d_Machine_oneWith_11 rfl 1 rfl ?_
  refine mv_callVi (pc := 12) (n := 1) (ci := 9) (C := R_Machine) B (mK_ok sk sv) hNs rfl rfl (c_kv_Machine_opOf_c l hi _ _ sR sT (hU.q sS)) rfl (ma_goodc kc_Machine_opOf) (B.2.2.2.1 _ k_1576) (B.2.2.2.1 _ k_1561) (B.2.2.2.1 _ k_1562) (B.2.2.2.1 _ k_11) ⟨by decide +kernel, by decide +kernel, by decide +kernel⟩ rfl d_Machine_oneWith_12 rfl (Nat.le_of_ble_eq_true rfl) ⟨by decide, by decide⟩ ⟨by decide, by decide⟩ ⟨by decide, by decide⟩ (mv_noH hno _) (fun v12 σ12 h12 => ?_)
  obtain ⟨e12, d12⟩ := h12
  have f12 : F12 S σ12 := by rw [e12]; exact Fr.rf
  have g12 : mv_i σ12 64 12 = mv_i S 64 12 := by rw [e12]
  have d12 := d12.s sS
  have sR : Rf 145 (mv_r σ12) := by rw [f12.2.2.2.2]; exact sR
  refine mv_istore_n (pc := 15) B d_Machine_oneWith_15 rfl (by decide) rfl ?_
  refine mv_aload_n (pc := 16) B d_Machine_oneWith_16 rfl 1 rfl ?_
  refine mv_iload_n (pc := 17) B d_Machine_oneWith_17 rfl 0 rfl ?_
  refine mv_if_ge (pc := 18) (tgt := 26) B d_Machine_oneWith_18 rfl (fun h18 => ?_) (fun h18 => ?_)
  · skip
    have hC := hO.c d12 h18
    obtain ⟨x37, t37, e37, m37, r39⟩ := OM1_s (Nat.le_refl _) (P := 145) (R := R9) (by decide) eS9 f12 g12 hU d12 (Int32.not_lt.mpr h18) hL9 hK hS hC hV
    have k0 : 0 ≤ v12.toInt := Int32.le_iff_toInt_le.mp h18
    have ob : r9.1.ops.length ≤ 48 := hO.n hS
    have kM : v12.toInt < 48 := by
      rcases d12 with ⟨q, -⟩ | ⟨a, a1, a2, -⟩
      · rw [q] at k0; exact absurd k0 (by decide)
      · rw [a2, nIi (by omega)]; omega
    refine mv_aload_n (pc := 26) B d_Machine_oneWith_26 rfl 1 rfl ?_
    refine mv_aload_n (pc := 27) B d_Machine_oneWith_27 rfl 1 rfl ?_
    refine mv_getR (pc := 28) (ci := 9) (C := R_Machine) (T := F_Machine) (N := 13) B 0 rfl rfl (by decide) i_Machine (B.2.2.2.1 _ k_440) rfl sR.2.2 d_Machine_oneWith_28 ?_
    refine mv_getR (pc := 31) (ci := 7) (C := R_Program) (T := F_Program) (N := 19) B 13 rfl rfl (by decide) i_Program (B.2.2.2.1 _ k_355) rfl (sR.2.1 _ 13 152 rfl) d_Machine_oneWith_31 ?_
    refine mv_iload_n (pc := 34) B d_Machine_oneWith_34 rfl 0 rfl ?_
    refine mv_iald (pc := 35) B rfl (i32_in k0 (by omega)) d_Machine_oneWith_35 ?_
    refine mv_lload_n (pc := 36) B d_Machine_oneWith_36 rfl 2 rfl ?_
    refine mv_callVi (pc := 37) (n := 2) (ci := 9) (C := R_Machine) B (mK_ok sk sv) hNs rfl rfl (ch_Machine_perform_s_c l hi _ sR _ _ e37) rfl (ma_goodc kc_Machine_perform) (B.2.2.2.1 _ k_1577) (B.2.2.2.1 _ k_1579) (B.2.2.2.1 _ ks_69) (B.2.2.2.1 _ k_11) ⟨by decide +kernel, by decide +kernel, by decide +kernel⟩ rfl d_Machine_oneWith_37 rfl (Nat.le_of_ble_eq_true rfl) ⟨by decide, by decide⟩ ⟨by decide, by decide⟩ ⟨by decide, by decide⟩ (mv_noH hno _) (fun v37 σ37 h37 => ?_)
    obtain ⟨z37, y37, -⟩ := h37
    subst z37
    subst y37
    refine mv_lpick [1] rfl ?_
    first | exact j40 _ _ sR m18 | exact j40 _ _ (by rw [r39]; exact hR) m37
  · skip
    have m18 := OM0 (P := 145) (R := R9) eS9 f12 g12 hU d12 (Int32.not_le.mp h18)
    refine mv_bipush (pc := 21) (v := -2) B d_Machine_oneWith_21 (by decide) ?_
    refine mv_goto (pc := 23) (tgt := 40) B d_Machine_oneWith_23 rfl ?_
    refine mv_lpick [1] rfl ?_
    first | exact j40 _ _ sR m18 | exact j40 _ _ (by rw [r39]; exact hR) m37
