/-! rows s135 .. s136 -/
section SAG
variable {X : TX} {J P : Nat} {sy : List Nat → Nat} {τ υ : mv_H} (A : AgF P τ υ) (hpp : P = 32 ∨ P = 48) (hJ : X.kd J = 1 ∨ X.kd J = 2) (T : TB X J υ) (S : SyQ X J sy υ) {n sz th sl no : Nat} (hsy : ∀ i, i ≤ J → X.kd i = 3 → sy (X.nm i) < n) (hn : n ≤ 16448) (hsz : sz = J + 2) (hW : WN P 512 τ n th sl no)
/-- the end of an EXPR, flagged -/
theorem fi_F (A : AgF P τ υ) (hpp : P = 32 ∨ P = 48) (hJ : X.kd J = 1 ∨ X.kd J = 2) (T : TB X J υ) (S : SyQ X J sy υ) (hsy : ∀ i, i ≤ J → X.kd i = 3 → sy (X.nm i) < n) (hn : n ≤ 16448) (hsz : sz = J + 2) (hW : WN P 512 τ n th sl no) {e0 bs bd s0 a ns : Nat} {BL : (Nat → Nat) → Prop} {f0 : Nat → Int32} {g0 : Nat → Int64} {bl : List Bk} (hX : XM P th e0 bs BL f0 g0 ns τ [] 1 1 s0) (hI : TI τ sz bd [] s0 a) (hb15 : (mv_i τ 2 15).toInt = bl.length) (hGl : Gl (mv_i τ 2 7) bs bd bl.length (mv_i τ 2 9).toInt n th (mv_i τ 13 9).toInt) (hgt : mv_i τ 2 7 = 1 ∨ (0 ≤ (mv_i τ 2 8).toInt ∧ (mv_i τ 2 8).toInt < 32770)) (hz : sz ≤ 32770) (nn : ¬ mv_i υ 21 0 = 0) : ∃ h', f_Weaver_finish P υ = some h' ∧ Fl h' := by
  obtain ⟨⟨-, -, x10, -⟩, ⟨x17, -⟩, -⟩ := hX
  obtain ⟨h1, h2, h3, h4, h5, h6, -⟩ := hI
  have h3' : (bd : Int) ≤ (mv_i τ 3 8).toInt := h3
  have h5' : s0 + 0 + 3 ≤ a := h5
  obtain ⟨d, d1, d2⟩ := nI_ex (show 0 ≤ (mv_i τ 3 8).toInt by omega)
  have W := wa_of A hpp hJ T S hsy hn hsz hW h1 h2 d2 (by omega) h6 (by omega) x17 (by omega)
  obtain ⟨-, -, -, -, ⟨k, l, k1, k2, k3, k4, k5, k6, sg, k7⟩⟩ := nums_of A hpp hW
  have th2 := hW.2.1.2.1
  have e10 : mv_i υ 22 10 = nI 1 := by rw [A.i22 10 (by omega)]; exact nI_o2 x10
  have e15 : mv_i υ 2 15 = nI bl.length := by rw [A.i2 15 (by omega)]; exact nI_o2 hb15
  have e7 : mv_i υ 2 7 = mv_i τ 2 7 := A.i2 7 (by omega)
  have e8 : mv_i υ 2 8 = mv_i τ 2 8 := A.i2 8 (by omega)
  have e9 : mv_i υ 2 9 = mv_i τ 2 9 := A.i2 9 (by omega)
  have t8 : ¬ mv_i τ 2 7 = 1 → ∃ t, mv_i υ 2 8 = nI t ∧ t < 32770 := fun z => by
    obtain ⟨q1, q2⟩ := hgt.resolve_left z
    obtain ⟨t, u1, u2⟩ := nI_ex q1
    exact ⟨t, by rw [e8]; exact u1, by omega⟩
  have gi : ∀ m : Nat, (0 ≤ (mv_i τ 2 9).toInt → (mv_i τ 2 9).toInt < m) → mv_i υ 2 9 < 0 ∨ ∃ u, mv_i υ 2 9 = nI u ∧ u < m := fun m q => by
    rcases Int.lt_or_le (mv_i τ 2 9).toInt 0 with z | z
    · exact Or.inl (by rw [e9, Int32.lt_iff_toInt_lt]; exact z)
    · obtain ⟨u, u1, u2⟩ := nI_ex z
      exact Or.inr ⟨u, by rw [e9]; exact u1, by have := q z; omega⟩
  rcases hGl with ⟨g1, -, g3, g4⟩ | ⟨g1, -, g3, g4⟩ | ⟨g1, -, g3, g4⟩ | ⟨g1, -, g3, g4⟩ | ⟨g1, -, g3⟩
  · refine fin_F W nn e10 (gl := 0) (by rw [e7, g1]; rfl) (by omega) (fun z => by omega) (fun _ => t8 (by rw [g1]; decide)) e15 (by omega) k2 k1 k3 (fun _ => ?_) (fun z => by omega)
    rcases Int.lt_or_le (mv_i τ 2 9).toInt 0 with z | z
    · exact Or.inl (by rw [e9, Int32.lt_iff_toInt_lt]; exact z)
    · obtain ⟨u, u1, u2⟩ := nI_ex z
      obtain ⟨q1, q2⟩ := g4 z
      exact Or.inr ⟨u, by rw [e9]; exact u1, by omega, by omega⟩
  · exact fin_F W nn e10 (gl := 1) (by rw [e7, g1]; rfl) (by omega) (fun _ => by omega) (fun z => absurd rfl z) e15 (by omega) k2 k1 k3 (fun z => by omega) (fun z => by omega)
  · refine fin_F W nn e10 (gl := 2) (by rw [e7, g1]; rfl) (by omega) (fun z => by omega) (fun _ => t8 (by rw [g1]; decide)) e15 (by omega) k2 k1 k3 (fun z => by omega) (fun _ => gi 64 (fun z => by have := g4 z; omega))
  · refine fin_F W nn e10 (gl := 3) (by rw [e7, g1]; rfl) (by omega) (fun z => by omega) (fun _ => t8 (by rw [g1]; decide)) e15 (by omega) k2 k1 k3 (fun z => by omega) (fun _ => gi 64 (fun z => by have := g4 z; omega))
  · exact fin_F W nn e10 (gl := 4) (by rw [e7, g1]; rfl) (by omega) (fun z => by omega) (fun _ => t8 (by rw [g1]; decide)) e15 (by omega) k2 k1 k3 (fun z => by omega) (fun z => by omega)
end SAG
/-! what the walk carries beside its safety -/
/-- good; finished; or flagged -/
def EXq (X : TX) (J P : Nat) (sy : List Nat → Nat) (r : Option SI) (υ : mv_H) : Prop :=
  (∃ c lkB C SC, RW X J P sy υ c lkB C SC ∧ EndW X c r ∧ c.M.length ≤ c.j ∧ KEx X J P sy υ c C) ∨
  ((mv_i υ 2 6 = 4 ∧ mv_i υ 21 0 = 0 ∧ mv_i υ 3 9 < 0) ∧ ∃ s lkB, RN X J P sy υ s [] lkB [] [] 0 ∧ r = some s ∧ KFn X P υ) ∨
  (r = none ∧ TB X J υ ∧ SyQ X J sy υ ∧ Fl υ)
theorem EXq.st {X : TX} {J P : Nat} {sy : List Nat → Nat} {r : Option SI} {υ : mv_H} (h : EXq X J P sy r υ) (h4 : ¬ mv_i υ 2 6 = 4) : TB X J υ ∧ SyQ X J sy υ := by
  rcases h with ⟨c, lkB, C, SC, R, -⟩ | ⟨h, -⟩ | ⟨-, h1, h2, -⟩
  · exact ⟨R.tb, R.rn.S⟩
  · exact absurd h.1 h4
  · exact ⟨h1, h2⟩
section TRN
variable {X : TX} {J P : Nat} {sy : List Nat → Nat} {r : Option SI} {τ υ : mv_H} (A : AgF P τ υ) (hpp : P = 32 ∨ P = 48) (hJ : X.kd J = 1 ∨ X.kd J = 2) {n sz th sl no : Nat} (hsy : ∀ i, i ≤ J → X.kd i = 3 → sy (X.nm i) < n) (hn : n ≤ 16448) (hsz : sz = J + 2) (hz : sz ≤ 32770) (hW : WN P 512 τ n th sl no) (E : EXq X J P sy r υ)
/-- an item's turn -/
theorem it_T (A : AgF P τ υ) (hpp : P = 32 ∨ P = 48) (hJ : X.kd J = 1 ∨ X.kd J = 2) (hsy : ∀ i, i ≤ J → X.kd i = 3 → sy (X.nm i) < n) (hn : n ≤ 16448) (hsz : sz = J + 2) (hz : sz ≤ 32770) (hW : WN P 512 τ n th sl no) (E : EXq X J P sy r υ) {s a ns : Nat} (hS : WS P τ sz th s a ns no []) (hm : mv_i τ 2 6 = 0) : ∃ h', f_Weaver_item P υ = some h' ∧ (EXq X J P sy r h' ∨ (r = none ∧ TB X J υ ∧ SyQ X J sy υ ∧ Fl h')) := by
  have hm' : mv_i υ 2 6 = 0 := by rw [A.i2 6 (by omega)]; exact hm
  rcases E with ⟨c, lkB, C, SC, R, ew, ml, ke⟩ | ⟨⟨h4, -⟩, -⟩ | ⟨hr, T, S, F⟩
  · have hc : c.md = 0 := by
      have := R.md
      rw [hm'] at this
      have m3 := R.m3
      exact ((nIinj (a := 0) (b := c.md) (by omega) (by omega)).mp this).symm
    have eA : aSp X c = aIt X c.j c.o := by unfold aSp; rw [hc]; rfl
    obtain ⟨h', e, q⟩ := itm_R R hc
    refine ⟨h', e, ?_⟩
    rcases q with ⟨q1, q2⟩ | ⟨q1, q2⟩
    · left; right; left
      obtain ⟨a1, a2, a3, a4, rn, a6⟩ := R.r0 hc
      have K : Kp P υ h' := by rw [q2]; exact ⟨fun _ _ _ => rfl, fun _ _ => rfl, fun o k h1 h2 h3 h4 h5 => mv_u_ne (mv_i υ) _ (by omega)⟩
      refine ⟨⟨by rw [q2]; rfl, by rw [q2]; exact R.no, ?_⟩, c.o.s, lkB, rn.kp hpp K, ew.fi' ⟨hc, q1⟩, fi_E R hc q1 ke q2⟩
      rw [q2]
      show mv_i υ 3 9 < 0
      rw [R.ok]; decide
    · have n1 : ¬ (c.md = 0 ∧ X.kd c.j = 1) := fun z => q1 z.2
      unfold StQ at q2
      rw [← eA] at q2
      cases es : aSp X c with
      | none =>
        rw [es] at q2
        exact Or.inr ⟨ew.no' es n1, R.tb, R.rn.S, q2⟩
      | some c' =>
        rw [es] at q2
        obtain ⟨l', C', S', R', hC'⟩ := q2
        exact Or.inl (Or.inl ⟨c', l', C', S', R', ew.go' es n1, aSp_ml es ml, it_E R hc q1 ke es e hC'⟩)
  · rw [h4] at hm'; exact absurd hm' (by decide)
  · have nn : ¬ mv_i υ 21 0 = 0 := by
      rcases F with F | F
      · have := hS.1.2.1
        rw [A.i3 9 (by omega) (by omega)] at F
        omega
      · exact F
    obtain ⟨h', e, F'⟩ := it_F A hpp hJ T S hsy hn hsz hW hS hz nn
    exact ⟨h', e, Or.inr ⟨hr, T, S, F'⟩⟩
/-- a statement's turn -/
theorem st_T (A : AgF P τ υ) (hpp : P = 32 ∨ P = 48) (hJ : X.kd J = 1 ∨ X.kd J = 2) (hsy : ∀ i, i ≤ J → X.kd i = 3 → sy (X.nm i) < n) (hn : n ≤ 16448) (hsz : sz = J + 2) (hz : sz ≤ 32770) (hW : WN P 512 τ n th sl no) (E : EXq X J P sy r υ) {s a ns : Nat} {bl : List Bk} (hne : ¬ bl = []) (hS : WS P τ sz th s a ns no bl) (hm : mv_i τ 2 6 = 1) : ∃ h', f_Weaver_statement P υ = some h' ∧ (EXq X J P sy r h' ∨ (r = none ∧ TB X J υ ∧ SyQ X J sy υ ∧ Fl h')) := by
  have hm' : mv_i υ 2 6 = 1 := by rw [A.i2 6 (by omega)]; exact hm
  rcases E with ⟨c, lkB, C, SC, R, ew, ml, ke⟩ | ⟨⟨h4, -⟩, -⟩ | ⟨hr, T, S, F⟩
  · have hc : c.md = 1 := by
      have := R.md
      rw [hm'] at this
      have m3 := R.m3
      exact ((nIinj (a := 1) (b := c.md) (by omega) (by omega)).mp this).symm
    have eA : aSp X c = aSt X c.j c.d c.o := by unfold aSp; rw [hc]; rfl
    have n1 : ¬ (c.md = 0 ∧ X.kd c.j = 1) := fun z => by omega
    obtain ⟨h', e, q2⟩ := stm_R R hc (fun _ => by
      cases bl with
      | nil => exact absurd rfl hne
      | cons b bl =>
        obtain ⟨c1, c2, c3, -⟩ := chn_of A hpp hW hS hz
        have e15 : c.o.bl.length = bl.length + 1 := by
          have k0 := (R.r1 hc).1.k0
          rw [A.i2 15 (by omega)] at k0
          have h7 := hS.2.1.1
          rw [k0] at h7
          have hd := R.d2
          have de := (R.r1 hc).2.1
          rw [nIi (by omega), List.length_cons] at h7
          omega
        rw [show c.o.bl.length - 1 = bl.length by omega]
        exact ⟨c2, c3⟩)
    refine ⟨h', e, ?_⟩
    unfold StQ at q2
    rw [← eA] at q2
    cases es : aSp X c with
    | none =>
      rw [es] at q2
      exact Or.inr ⟨ew.no' es n1, R.tb, R.rn.S, q2⟩
    | some c' =>
      rw [es] at q2
      obtain ⟨l', C', S', R', hC'⟩ := q2
      exact Or.inl (Or.inl ⟨c', l', C', S', R', ew.go' es n1, aSp_ml es ml, st_E R hc ke es e R' hC'⟩)
  · rw [h4] at hm'; exact absurd hm' (by decide)
  · have nn : ¬ mv_i υ 21 0 = 0 := by
      rcases F with F | F
      · have := hS.1.2.1
        rw [A.i3 9 (by omega) (by omega)] at F
        omega
      · exact F
    obtain ⟨h', e, F'⟩ := st_F A hpp hJ T S hsy hn hsz hW hne hS hz nn
    exact ⟨h', e, Or.inr ⟨hr, T, S, F'⟩⟩
end TRN
theorem Fl.q26 {h : mv_H} (F : Fl h) (v : Int32) : Fl (mv_si h 2 6 v) := F
theorem patE_T {X : TX} {J P : Nat} (hpp : P = 32 ∨ P = 48) {u : mv_H} (T : TB X J u) (h' : mv_H) (v : Int32) : TB X J (mv_si (patE P u h') 2 6 v) := T.fr (by show mv_a (patE P u h') 4 = _; rw [patE_a, if_neg (by omega)]) (by show mv_a (patE P u h') 5 = _; rw [patE_a, if_neg (by omega)]) (by show mv_b (patE P u h') 6 = _; rw [patE_b, if_neg (by omega)])
theorem patE_S {X : TX} {J P : Nat} {sy : List Nat → Nat} (hpp : P = 32 ∨ P = 48) {u : mv_H} (S : SyQ X J sy u) (h' : mv_H) (v : Int32) : SyQ X J sy (mv_si (patE P u h') 2 6 v) := S.fr (by show mv_a (patE P u h') 1 = _; rw [patE_a, if_neg (by omega)]) (by show mv_a (patE P u h') 5 = _; rw [patE_a, if_neg (by omega)]) (by show mv_a (patE P u h') 8 = _; rw [patE_a, if_neg (by omega)]) (by show mv_a (patE P u h') 9 = _; rw [patE_a, if_neg (by omega)]) (by show mv_b (patE P u h') 6 = _; rw [patE_b, if_neg (by omega)])
theorem patE_Fl {P : Nat} {h' : mv_H} (F : Fl h') (u : mv_H) : Fl (patE P u h') := by
  unfold Fl
  rw [patE_i, patE_i, if_pos (by omega), if_pos (by omega)]; exact F
/-- ready to end the EXPR -/
def EXf (X : TX) (J P : Nat) (sy : List Nat → Nat) (r : Option SI) (u1 : mv_H) : Prop :=
  (∃ υ c lkB C SC d' w, RW X J P sy υ c lkB C SC ∧ c.md = 3 ∧ EndW X c r ∧ c.M.length ≤ c.j ∧ RFq P υ u1 ∧ CXq X J P u1 c.j d' [] [w] ∧ d' + nD c.M = c.d ∧ w ≤ 64 ∧ aSp X c = aFi X c.j d' [w] c.o ∧ KFx X J P sy υ u1 c C) ∨
  (r = none ∧ TB X J u1 ∧ SyQ X J sy u1 ∧ Fl u1)
section EXT
variable {X : TX} {J P : Nat} {sy : List Nat → Nat} {r : Option SI} {υ : mv_H} {c : CfA} {lkB : LK} {C : List Nat} {SC : List (List Nat)} (R : RW X J P sy υ c lkB C SC) (ew : EndW X c r) (ml : c.M.length ≤ c.j) (ke : KEx X J P sy υ c C)
/-- an operand's turn, good -/
theorem op_G (R : RW X J P sy υ c lkB C SC) (ew : EndW X c r) (ml : c.M.length ≤ c.j) (ke : KEx X J P sy υ c C) (hm : c.md = 2) (hM : c.M.length ≤ 1000) (hH : c.H.length < 1024) : ∃ v h', f_Exprs_operand P υ = some (v, h') ∧ ((∀ t, t < 64 → mv_a h' (P + 1) t = mv_a υ (P + 1) t) → EXq X J P sy r (mv_si (patE P υ h') 2 6 (if v = 0 then 2 else 3))) := by
  have hpp := R.pp
  obtain ⟨v, h', e, q⟩ := opr_R R hm hM hH
  refine ⟨v, h', e, fun ht => ?_⟩
  rcases q with ⟨F, es⟩ | ⟨c', es, ev, hmd, C', K⟩
  · right; right
    exact ⟨ew.no' es (fun z => by omega), patE_T hpp R.tb h' _, patE_S hpp R.rn.S h' _, (patE_Fl F υ).q26 _⟩
  · left
    have R' := R.mkX (Or.inl hm) (patE_F P υ h') (patE_C C' R.tb ht) K
    have ev2 : (if v = 0 then (2 : Int32) else 3) = nI c'.md := by
      rcases hmd with z | z
      · rw [ev, z]; rfl
      · rw [ev, z]; rfl
    rw [ev2]
    exact ⟨c', lkB, C, SC, R', ew.go' es (fun z => by omega), aSp_ml es ml, op_E R hm hM hH ke es e R'⟩
/-- behind an operand, good -/
theorem af_G (R : RW X J P sy υ c lkB C SC) (ew : EndW X c r) (ml : c.M.length ≤ c.j) (ke : KEx X J P sy υ c C) (hm : c.md = 3) (hM : c.M.length ≤ 1000) (hH : nH c.M < 1000) : ∃ v h', f_Exprs_after P υ = some (v, h') ∧ ((∀ t, t < 64 → mv_a h' (P + 1) t = mv_a υ (P + 1) t) → (¬ v = 2 → EXq X J P sy r (mv_si (patE P υ h') 2 6 (if v = 0 then 2 else 3))) ∧ (v = 2 → EXf X J P sy r (patE P υ h'))) := by
  have hpp := R.pp
  obtain ⟨v, h', e, q⟩ := aft_R R hm hM hH
  refine ⟨v, h', e, fun ht => ?_⟩
  rcases q with ⟨F, es⟩ | ⟨e2, d', w, C', ef, hd, hw⟩ | ⟨c', es, ev, hmd, C', K⟩
  · have hr := ew.no' es (fun z => by omega)
    refine ⟨fun _ => Or.inr (Or.inr ⟨hr, patE_T hpp R.tb h' _, patE_S hpp R.rn.S h' _, (patE_Fl F υ).q26 _⟩), fun _ => Or.inr ⟨hr, ?_, ?_, patE_Fl F υ⟩⟩
    · exact (patE_T hpp R.tb h' 0).fr rfl rfl rfl
    · exact (patE_S hpp R.rn.S h' 0).fr rfl rfl rfl rfl rfl
  · exact ⟨fun z => absurd e2 z, fun _ => Or.inl ⟨υ, c, lkB, C, SC, d', w, R, hm, ew, ml, patE_F P υ h', patE_C C' R.tb ht, hd, hw, ef, (af_E R hm hM hH ke e).2 e2 d' w (patE_C C' R.tb ht)⟩⟩
  · have ev2 : (if v = 0 then (2 : Int32) else 3) = nI c'.md := by
      rcases hmd with z | z
      · rw [ev, z]; rfl
      · rw [ev, z]; rfl
    refine ⟨fun hv2 => Or.inl ?_, fun z => ?_⟩
    · have R' := R.mkX (Or.inr hm) (patE_F P υ h') (patE_C C' R.tb ht) K
      rw [ev2]
      exact ⟨c', lkB, C, SC, R', ew.go' es (fun z => by omega), aSp_ml es ml, (af_E R hm hM hH ke e).1 c' es hv2 R'⟩
    · rw [ev] at z
      split at z
      · exact absurd z (by decide)
      · exact absurd z (by decide)
end EXT
section FNT
variable {X : TX} {J P : Nat} {sy : List Nat → Nat} {r : Option SI} {τ u1 : mv_H} (A : AgF P τ (mv_si u1 2 6 3)) (hpp : P = 32 ∨ P = 48) (hJ : X.kd J = 1 ∨ X.kd J = 2) {n sz th sl no : Nat} (hsy : ∀ i, i ≤ J → X.kd i = 3 → sy (X.nm i) < n) (hn : n ≤ 16448) (hsz : sz = J + 2) (hz : sz ≤ 32770) (hW : WN P 512 τ n th sl no) (E : EXf X J P sy r u1)
/-- the end of an EXPR -/
theorem fn_T (A : AgF P τ (mv_si u1 2 6 3)) (hpp : P = 32 ∨ P = 48) (hJ : X.kd J = 1 ∨ X.kd J = 2) (hsy : ∀ i, i ≤ J → X.kd i = 3 → sy (X.nm i) < n) (hn : n ≤ 16448) (hsz : sz = J + 2) (hz : sz ≤ 32770) (hW : WN P 512 τ n th sl no) (E : EXf X J P sy r u1) {e0 bs bd s0 a ns : Nat} {BL : (Nat → Nat) → Prop} {f0 : Nat → Int32} {g0 : Nat → Int64} {bl : List Bk} (hX : XM P th e0 bs BL f0 g0 ns τ [] 1 1 s0) (hI : TI τ sz bd [] s0 a) (hb15 : (mv_i τ 2 15).toInt = bl.length) (hGl : Gl (mv_i τ 2 7) bs bd bl.length (mv_i τ 2 9).toInt n th (mv_i τ 13 9).toInt) (hgt : mv_i τ 2 7 = 1 ∨ (0 ≤ (mv_i τ 2 8).toInt ∧ (mv_i τ 2 8).toInt < 32770)) : ∃ h', f_Weaver_finish P (mv_si u1 2 6 3) = some h' ∧ (EXq X J P sy r h' ∨ (r = none ∧ TB X J u1 ∧ SyQ X J sy u1 ∧ Fl h')) := by
  rcases E with ⟨υ, c, lkB, C, SC, d', w, R, hm, ew, ml, F, C1, hd, hw, ef, kf⟩ | ⟨hr, T, S, F⟩
  · have n1 : ¬ (c.md = 0 ∧ X.kd c.j = 1) := fun z => by omega
    obtain ⟨h', e, q⟩ := fin_R R hm F C1 hd hw
    refine ⟨h', e, ?_⟩
    unfold StQ at q
    rw [← ef] at q
    cases es : aSp X c with
    | none =>
      rw [es] at q
      have r0 := R.rn
      refine Or.inr ⟨ew.no' es n1, C1.tb, r0.S.fr (F.a 1 (by omega)) (F.a 5 (by omega)) (F.a 8 (by omega)) (F.a 9 (by omega)) (F.b 6 (by omega)), q⟩
    | some c' =>
      rw [es] at q
      obtain ⟨l', C', S', R', hC'⟩ := q
      exact Or.inl (Or.inl ⟨c', l', C', S', R', ew.go' es n1, aSp_ml es ml, fn_E R hm F C1 hd kf es e R' hC'⟩)
  · have T2 : TB X J (mv_si u1 2 6 3) := T.fr rfl rfl rfl
    have S2 : SyQ X J sy (mv_si u1 2 6 3) := S.fr rfl rfl rfl rfl rfl
    have nn : ¬ mv_i (mv_si u1 2 6 3) 21 0 = 0 := by
      rcases F with F | F
      · have h2 := hI.2.1
        rw [← A.i3 9 (by omega) (by omega)] at h2
        have F : 0 ≤ (mv_i (mv_si u1 2 6 3) 3 9).toInt := F
        omega
      · exact F
    obtain ⟨h', e, F'⟩ := fi_F A hpp hJ T2 S2 hsy hn hsz hW hX hI hb15 hGl hgt hz nn
    exact ⟨h', e, Or.inr ⟨hr, T, S, F'⟩⟩
end FNT
