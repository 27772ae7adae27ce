/-! running -/
/-- bytes put together, the highest first -/
def wdL (g : Nat → Int64) : Nat → Int64 → Int64
  | 0, w => w
  | n + 1, w => wdL g n ((w <<< (((8 : Int32)).toInt64 &&& 63)) ||| g n)
theorem wdL_c {g g' : Nat → Int64} : ∀ (n : Nat) (w : Int64), (∀ i, i < n → g' i = g i) → wdL g' n w = wdL g n w := by
  intro n
  induction n with
  | zero => intro w _; rfl
  | succ n ih =>
    intro w h
    show wdL g' n _ = wdL g n _
    rw [h n (Nat.lt_succ_self _)]
    exact ih _ (fun i hi => h i (Nat.lt_succ_of_lt hi))
theorem nId8 {b : Nat} (h : b ≤ 64) : nI b / (8 : Int32) = nI (b / 8) := by
  have : ∀ k : Fin 65, nI k.val / (8 : Int32) = nI (k.val / 8) := by decide +kernel
  exact this ⟨b, by omega⟩
theorem nIad {a b : Nat} (h : a + b < 2147483648) : nI a + nI b = nI (a + b) := Int32.toInt_inj.mp (by rw [i32_add (by rw [nIi (by omega), nIi (by omega)]; omega) (by rw [nIi (by omega), nIi (by omega)]; omega), nIi (by omega), nIi (by omega), nIi (by omega)]; omega)
theorem wat_lp {P sl : Nat} {h : mv_H} : ∀ (b nn : Nat) (w : Int64), sl + b ≤ 65600 → b < nn → f_Machine_wordAt_7 P nn (nI sl) w (nI b - 1) h = some (wdL (fun i => mv_b h 65 (sl + i)) b w, h) := by
  intro b
  induction b with
  | zero =>
    intro nn w _ hn
    obtain ⟨nn, rfl⟩ : ∃ q, nn = q + 1 := ⟨nn - 1, by omega⟩
    show fF_Machine_wordAt_7 P (f_Machine_wordAt_7 P nn) (nI sl) w (nI 0 - 1) h = _
    unfold fF_Machine_wordAt_7
    rw [if_pos (show nI 0 - 1 < (0 : Int32) by decide)]
    rfl
  | succ b ih =>
    intro nn w hs hn
    obtain ⟨nn, rfl⟩ : ∃ q, nn = q + 1 := ⟨nn - 1, by omega⟩
    show fF_Machine_wordAt_7 P (f_Machine_wordAt_7 P nn) (nI sl) w (nI (b + 1) - 1) h = _
    unfold fF_Machine_wordAt_7
    rw [show nI (b + 1) - (1 : Int32) = nI b from nIsub (a := b + 1) (b := 1) (by omega) (by omega), if_neg (fun q => by have := (nIlt (b := 0) (by omega) (by omega)).mp q; omega), nIad (by omega), xvi_m (by omega) (by decide), cond_true, cln (by omega), show nI b + (-1 : Int32) = nI b - 1 from (Int32.sub_eq_add_neg (nI b) 1).symm]
    exact ih nn _ (by omega) (by omega)
theorem wat_e {P sl b : Nat} {h : mv_H} (hs : sl + b ≤ 65600) : f_Machine_wordAt P h (nI sl) (nI b) = some (wdL (fun i => mv_b h 65 (sl + i)) b 0, h) := wat_lp b 200000 0 hs (by omega)
/-- the WORD that is due: none if it isn't in the FILE -/
def fwF (r : SI × LZ × List DnS) (R : Nat → Nat → Int64) : Option Int64 := match r.1.fe with
  | none => none
  | some p => if 0 ≤ (R (r.2.1 p.1) 0).toInt ∧ (R (r.2.1 p.1) 0).toInt + (r.1.bits / 8 : Nat) ≤ ((r.1.tl.getD (r.2.1 p.2) (0, 0, false)).2.1 : Nat) then some (wdL (fun i => R (r.2.1 p.2) ((R (r.2.1 p.1) 0).toInt.toNat + i)) (r.1.bits / 8) 0) else none
/-- n STEPS at most: how many, the TRAP, the values -/
noncomputable def rnF (r : SI × LZ × List DnS) : Nat → (Nat → Nat → Int64) → Nat × Int32 × (Nat → Nat → Int64)
  | 0, R => (0, 0, R)
  | n + 1, R => match fwF r R with
    | none => (0, -1, R)
    | some w => if (stF r w R).1 = 0 then ((rnF r n (stF r w R).2).1 + 1, (rnF r n (stF r w R).2).2) else (0, (stF r w R).1, (stF r w R).2)
theorem rnF_n {r : SI × LZ × List DnS} {n : Nat} {R : Nat → Nat → Int64} (h : fwF r R = none) : rnF r (n + 1) R = (0, -1, R) := by
  show (match fwF r R with | none => _ | some w => _) = _
  rw [h]
theorem rnF_s {r : SI × LZ × List DnS} {n : Nat} {R : Nat → Nat → Int64} {w : Int64} (h : fwF r R = some w) : rnF r (n + 1) R = if (stF r w R).1 = 0 then ((rnF r n (stF r w R).2).1 + 1, (rnF r n (stF r w R).2).2) else (0, (stF r w R).1, (stF r w R).2) := by
  show (match fwF r R with | none => _ | some w => _) = _
  rw [h]
/-- what a run leaves -/
def RNr (r : SI × LZ × List DnS) (N : Nat) (R : Nat → Nat → Int64) (σ τ : mv_H) (v : Int32) : Prop := v = nI (rnF r N R).1 ∧ mv_i τ 64 9 = (rnF r N R).2.1 ∧ VLr r τ (rnF r N R).2.2 ∧ mv_i τ 64 10 = mv_i σ 64 10 + nI (rnF r N R).1 ∧ mv_i τ 64 11 = (if (rnF r N R).2.1 = 0 then mv_i σ 64 11 else mv_i σ 64 11 + 1) ∧ mv_i τ 64 12 = mv_i σ 64 12
/-- j STEPS are done -/
def MNq (r : SI × LZ × List DnS) (N : Nat) (R : Nat → Nat → Int64) (σ τ : mv_H) (j : Nat) (Rv : Nat → Nat → Int64) : Prop := VLr r τ Rv ∧ mv_i τ 64 10 = mv_i σ 64 10 + nI j ∧ (mv_i τ 64 11 = mv_i σ 64 11 ∧ mv_i τ 64 12 = mv_i σ 64 12) ∧ (0 < j → mv_i τ 64 9 = 0) ∧ j ≤ N ∧ rnF r N R = (j + (rnF r (N - j) Rv).1, (rnF r (N - j) Rv).2)
def MN2 (r : SI × LZ × List DnS) (N : Nat) (R : Nat → Nat → Int64) (σ τ : mv_H) (j : Nat) : Prop := (mv_i τ 64 9 = 0 → ∃ Rv, MNq r N R σ τ (j + 1) Rv) ∧ (¬ mv_i τ 64 9 = 0 → RNr r N R σ τ (nI j))
theorem mn_0 {r : SI × LZ × List DnS} {N : Nat} {R : Nat → Nat → Int64} {σ : mv_H} (hV : VLr r σ R) : MNq r N R σ σ 0 R := ⟨hV, by rw [show nI 0 = (0 : Int32) from rfl, Int32.add_zero], ⟨rfl, rfl⟩, fun q => absurd q (Nat.lt_irrefl _), Nat.zero_le _, by rw [Nat.zero_add]; rfl⟩
theorem mn_end {r : SI × LZ × List DnS} {N : Nat} {R Rv : Nat → Nat → Int64} {σ τ : mv_H} (hN : 0 < N) (h : MNq r N R σ τ N Rv) : RNr r N R σ τ (nI N) := by
  obtain ⟨h1, h2, ⟨h3, h12⟩, h4, h5, h6⟩ := h
  rw [Nat.sub_self] at h6
  have h6 : rnF r N R = (N, 0, Rv) := h6
  unfold RNr
  rw [h6]
  exact ⟨rfl, h4 hN, h1, h2, by rw [if_pos rfl]; exact h3, h12⟩
theorem mn_out {r : SI × LZ × List DnS} {N j : Nat} {R Rv : Nat → Nat → Int64} {σ τ : mv_H} (h : MNq r N R σ τ j Rv) (hj : j < N) (hf : fwF r Rv = none) : MN2 r N R σ (mv_si (mv_si τ 64 9 (-1)) 64 11 (mv_i (mv_si τ 64 9 (-1)) 64 11 + 1)) j := by
  obtain ⟨h1, h2, ⟨h3, h12⟩, h4, h5, h6⟩ := h
  obtain ⟨m, em⟩ : ∃ m, N - j = m + 1 := ⟨N - j - 1, by omega⟩
  rw [em, rnF_n hf] at h6
  have h6 : rnF r N R = (j, -1, Rv) := h6
  have i9 : mv_i (mv_si (mv_si τ 64 9 (-1)) 64 11 (mv_i (mv_si τ 64 9 (-1)) 64 11 + 1)) 64 9 = -1 := (mv_si_o _ _ (by omega)).trans (mv_si_s _ _ _ _)
  refine ⟨fun q => absurd (i9.symm.trans q) (by decide), fun _ => ?_⟩
  unfold RNr
  rw [h6]
  refine ⟨rfl, i9, h1, ?_, ?_, by rw [← h12]; exact (mv_si_o _ _ (by omega)).trans (mv_si_o _ _ (by omega))⟩
  · rw [← h2]; exact (mv_si_o _ _ (by omega)).trans (mv_si_o _ _ (by omega))
  · rw [if_neg (show ¬ (-1 : Int32) = 0 by decide), ← h3]
    refine (mv_si_s _ _ _ _).trans ?_
    rw [show mv_i (mv_si τ 64 9 (-1)) 64 11 = mv_i τ 64 11 from mv_si_o τ _ (by omega)]
theorem mn_stp {r : SI × LZ × List DnS} {N j : Nat} {R Rv : Nat → Nat → Int64} {σ τ υ : mv_H} {w : Int64} (h : MNq r N R σ τ j Rv) (hj : j < N) (hN : N ≤ 500) (hf : fwF r Rv = some w) (hO : OWr r w Rv τ υ) : MN2 r N R σ υ j := by
  obtain ⟨h1, h2, ⟨h3, h12⟩, h4, h5, h6⟩ := h
  obtain ⟨o1, o2, o3, o4, o12⟩ := hO
  obtain ⟨m, em⟩ : ∃ m, N - j = m + 1 := ⟨N - j - 1, by omega⟩
  rw [em, rnF_s hf] at h6
  refine ⟨fun q => ?_, fun q => ?_⟩
  · have y0 : (stF r w Rv).1 = 0 := o1.symm.trans q
    rw [if_pos y0] at h6 o3 o4
    refine ⟨(stF r w Rv).2, o2, ?_, ⟨by rw [o4, h3], by rw [o12, h12]⟩, fun _ => q, by omega, ?_⟩
    · rw [o3, h2, Int32.add_assoc, show (1 : Int32) = nI 1 from rfl, nIad (by omega)]
    · rw [h6, show N - (j + 1) = m by omega, show j + 1 + (rnF r m (stF r w Rv).2).1 = j + ((rnF r m (stF r w Rv).2).1 + 1) by omega]
  · have n0 : ¬ (stF r w Rv).1 = 0 := fun y => q (o1.trans y)
    rw [if_neg n0] at h6 o3 o4
    have h6 : rnF r N R = (j, (stF r w Rv).1, (stF r w Rv).2) := h6
    unfold RNr
    rw [h6]
    exact ⟨rfl, o1, o2, by rw [o3, h2], by rw [if_neg n0, o4, h3], by rw [o12, h12]⟩
theorem KOx.fm {P : Nat} {r : SI × LZ × List DnS} {σ τ : mv_H} (hP : P = 32 ∨ P = 48 ∨ P = 145) (h : KOx P r σ) (f : FM σ τ) : KOx P r τ := h.fr (fun k _ => f.1 P k (by omega)) (fun o k ho _ => by rw [f.2.1 o (by omega)]) (fun k _ => by rw [f.2.1 (P + 7) (by omega)]) (fun k _ => by rw [f.2.1 (P + 9) (by omega)]) (fun k _ => by rw [f.2.2.1 (P + 10) (by omega)])
theorem SPq.fm {P : Nat} {s : SI} {σ τ : mv_H} (hP : P = 32 ∨ P = 48 ∨ P = 145) (h : SPq P s σ) (f : FM σ τ) : SPq P s τ := h.fr (fun k _ => f.1 P k (by omega)) (fun o k ho _ => by rw [f.2.2.1 o (by omega)]) (fun o k ho _ => by rw [f.2.1 o (by omega)]) (fun k _ => by rw [f.2.1 (P + 8) (by omega)])
/-- fetch: the register, the FILE -/
theorem fet_W {P th sl : Nat} {r : SI × LZ × List DnS} {σ : mv_H} (K : KOx P r σ) (S : SPq P r.1 σ) (hT : Th P σ th sl) (hf : 0 ≤ (mv_i σ P 9).toInt) : ∃ p, r.1.fe = some p ∧ mv_i σ P 8 = nI (r.2.1 p.1) ∧ r.2.1 p.1 < r.1.tl.length ∧ mv_i σ P 9 = nI (r.2.1 p.2) ∧ r.2.1 p.2 < r.1.tl.length := by
  have fe := K.2.2.1
  have l1 := K.1.2.2
  have b2 := S.2.2.2.2.1
  have eT : th = r.1.tl.length := by
    have e1 := hT.1
    rw [S.2.1, nIi (by omega)] at e1
    omega
  rcases hT.2.2.2.2.2.2.2 with ⟨q, q9⟩ | ⟨q1, q2, q3, q4⟩
  · omega
  unfold FEk at fe
  revert fe
  cases r.1.fe with
  | none =>
    intro fe
    have fe : mv_i σ P 8 < 0 := fe
    have := Int32.lt_iff_toInt_lt.mp fe
    have e0 : (0 : Int32).toInt = 0 := rfl
    omega
  | some p =>
    intro fe
    have fe : (r.1.lk p.1).1 = 1 ∧ (r.1.lk p.2).1 = 2 ∧ mv_i σ P 8 = nI (r.2.1 p.1) ∧ mv_i σ P 9 = nI (r.2.1 p.2) := fe
    have u1 := l1 p.1
    have u2 := l1 p.2
    rw [fe.2.2.1, nIi (by omega)] at q2
    rw [fe.2.2.2, nIi (by omega)] at q4
    exact ⟨p, rfl, fe.2.2.1, by omega, fe.2.2.2, by omega⟩
theorem fwF_e {r : SI × LZ × List DnS} {R : Nat → Nat → Int64} {p : List Nat × List Nat} (h : r.1.fe = some p) : fwF r R = if 0 ≤ (R (r.2.1 p.1) 0).toInt ∧ (R (r.2.1 p.1) 0).toInt + (r.1.bits / 8 : Nat) ≤ ((r.1.tl.getD (r.2.1 p.2) (0, 0, false)).2.1 : Nat) then some (wdL (fun i => R (r.2.1 p.2) ((R (r.2.1 p.1) 0).toInt.toNat + i)) (r.1.bits / 8) 0) else none := by
  unfold fwF
  rw [h]
theorem ncT_1 (a : Nat × Nat × Bool) : 0 < ncT a := by unfold ncT; split <;> omega

set_option maxHeartbeats 4000000 in
set_option maxRecDepth 100000 in
theorem c_kq_Machine_many_a (l : Launch) {dA : FieldType → ClassId} {D : va_G} {al : Nat → Nat} {ext : mv_Sh} {sk sv : Nat → Nat} (hi : mv_inj (mg dA D al ext)) (σ : mv_H) (n9 : Int32) (hR : Rf 32 (mv_r σ)) (r9 : SI × LZ × List DnS) (R9 : Nat → Nat → Int64) (hK : KOx 32 r9 σ) (hS : SPq 32 r9.1 σ) (hO : TCq 32 32768 512 r9 σ) (th sl : Nat) (hTh : Th 32 σ th sl) (hV : VLr r9 σ R9) (hL9 : LIq r9) (hU : UQs r9.1) (N9 : Nat) (hN9 : n9 = nI N9) (hN1 : 0 < N9) (hN5 : N9 ≤ 500) (hf : 0 ≤ (mv_i σ 32 9).toInt) : mv_C l y_Machine_many (Cond.code y_Machine_many b_Machine_many 7 (Option.some Jvm.ClassFile.FieldType.int) :: ma) ({ frames := 6, cells := 0, slots := 0, locals := 152 }) (mg dA D al ext) (mK sk sv) [.ref (al 64), .int n9] σ (mv_Ri (fun v σ1 => FM σ σ1 ∧ RNr r9 N9 R9 σ σ1 v)) := by
  refine mv_C.ofV (cc := b_Machine_many) (nL := 7) (ret := (Option.some Jvm.ClassFile.FieldType.int)) (by decide +kernel) rfl hi (Nat.le_of_ble_eq_true rfl) ?_
  intro p e s m below meth c B hNs hr hnm hno
  have hP : PP 32 := by unfold PP; omega
  have eN9 : n9.toInt = N9 := by rw [hN9, nIi (by omega)]
  have hln := len8 hTh.2.2.2.2.1 hTh.2.2.2.2.2.1
  have ht9 := hTh.2.2.2.2.2.2.2.resolve_left (fun q => by omega)
  have hr9 := i32_cl (x := mv_i σ 32 9) hf
  have hr8 := i32_cl (x := mv_i σ 32 8) ht9.1
  obtain ⟨c9, f9, hc9, hf9, hs1, hs2⟩ := hTh.2.2.2.2.2.2.1 (mv_i σ 32 9).toNatClampNeg (by omega)
  obtain ⟨c8, f8, hc8, hf8, hs3, hs4⟩ := hTh.2.2.2.2.2.2.1 (mv_i σ 32 8).toNatClampNeg (by omega)
  have hsl := hTh.2.2.2.1
  have ht64 := hTh.2.1
  obtain ⟨p9, hp9, hp8, hp8t, hp99, hp9t⟩ := fet_W hK hS hTh hf
  have hl64 := hK.1.2.2 p9.2
  have hl65 := hK.1.2.2 p9.1
  have hfs8 : mv_a σ 35 (r9.2.1 p9.1) = nI (fsL r9.1.tl (r9.2.1 p9.1)) := (hK.2.1.2.2 _ hp8t).1
  have hfs9 : f9 = fsL r9.1.tl (r9.2.1 p9.2) := by
    have z := (hK.2.1.2.2 _ hp9t).1
    have z2 := hf9
    rw [hp99, cln (by omega), z, nIi (by have := fsL_le r9.1.tl (r9.2.1 p9.2); have := hK.2.1.2.1; have := hS.2.2.2.2.1; omega)] at z2
    omega
  have hc99 : c9 = (r9.1.tl.getD (r9.2.1 p9.2) (0, 0, false)).2.1 := by
    have z := (hS.2.2.2.2.2.2.1 _ hp9t)
    have z2 := hc9
    rw [hp99, cln (by omega), z.2.1, nIi (by omega)] at z2
    omega
  have hfl := fsL_le r9.1.tl (r9.2.1 p9.1)
  have hfl2 := hK.2.1.2.1
  have hsb := hS.2.2.2.2.1
  have hbt : (mv_i σ 32 0 / 8).toInt = (r9.1.bits / 8 : Nat) := by rw [hS.1, nId8 hsb.1, nIi (by omega)]
  have lp : ∀ (nn : Nat) (τ : mv_H) (jj : Int32) (jn : Nat) (Rv : Nat → Nat → Int64) (q0 : 0 ≤ jj.toInt) (q1 : jj.toInt ≤ 500) (ejj : jj.toInt = jn) (qR : Rf 32 (mv_r τ)) (qF : FM σ τ) (qM : MNq r9 N9 R9 σ τ jn Rv), (501 - jj.toInt).toNat < nn → mv_V p l e ({ frames := 6, cells := 0, slots := 0, locals := 152 }) s m ([.ref (al 64), .int n9] : List Value).toArray below meth c (mg dA D al ext) 7 0 0 (mv_Q (mg dA D al ext) below s 0 0 (mv_Ri (fun v σ1 => FM σ σ1 ∧ RNr r9 N9 R9 σ σ1 v))) τ 22 [(4, .int jj), (3, .int (mv_i σ 32 9)), (2, .int (mv_i σ 32 0 / 8)), (0, .ref (al 64)), (1, .int n9)] [] := by
    intro nn
    induction nn with
    | zero => intro τ jj jn Rv q0 q1 ejj qR qF qM hm; exact absurd hm (Nat.not_lt_zero _)
    | succ nn ih =>
      intro τ jj jn Rv q0 q1 ejj qR qF qM hm
      have j115 : ∀ (τ2 : mv_H) (jj : Int32) (jn : Nat) (w2 : (jj + 1).toInt = jj.toInt + 1) (q0 : 0 ≤ jj.toInt) (qm : (501 - (jj + 1).toInt).toNat < nn ∧ (jj + 1).toInt ≤ 500) (ejj : jj.toInt = jn) (gR : Rf 32 (mv_r τ2)) (gF : FM σ τ2) (g2 : MN2 r9 N9 R9 σ τ2 jn), mv_V p l e ({ frames := 6, cells := 0, slots := 0, locals := 152 }) s m ([.ref (al 64), .int n9] : List Value).toArray below meth c (mg dA D al ext) 7 0 0 (mv_Q (mg dA D al ext) below s 0 0 (mv_Ri (fun v σ1 => FM σ σ1 ∧ RNr r9 N9 R9 σ σ1 v))) τ2 115 [(4, .int jj), (3, .int (mv_i σ 32 9)), (2, .int (mv_i σ 32 0 / 8)), (0, .ref (al 64)), (1, .int n9)] [] := by
        intro τ2 jj jn w2 q0 qm ejj gR gF g2
        refine mv_aload_n (pc := 115) B d_Machine_many_115 rfl 3 rfl ?_
        refine mv_getI (pc := 116) (ci := 9) (C := R_Machine) (T := F_Machine) (N := 13) B 9 rfl rfl (by decide) i_Machine (B.2.2.2.1 _ k_451) rfl d_Machine_many_116 ?_
        refine mv_if_eq (pc := 119) (tgt := 125) B d_Machine_many_119 rfl (fun h119 => ?_) (fun h119 => ?_)
        · skip
          obtain ⟨R2, q2⟩ := g2.1 h119
          have go := ih τ2 (jj + 1) (jn + 1) R2 (by omega) (by omega) (by omega) gR gF q2 (by omega)
          refine mv_iinc (pc := 125) (j := 0) (v := 1) B d_Machine_many_125 rfl (by decide) (by decide) rfl ?_
          refine mv_goto (pc := 128) (tgt := 22) B d_Machine_many_128 rfl ?_
          refine mv_lpick [0, 1, 2, 3, 4] rfl ?_
          exact go
        · skip
          have hend := g2.2 h119
          rw [← nI_o2 ejj] at hend
          refine mv_iload (pc := 122) B d_Machine_many_122 0 rfl ?_
          exact mv_iret (pc := 124) B hr rfl d_Machine_many_124 (Nat.le_refl _) (Nat.le_refl _) ⟨_, rfl, gF, hend⟩
      have e8 : mv_i τ 32 = mv_i σ 32 := funext fun _ => qF.i hP
      have e2 : mv_a τ 34 = mv_a σ 34 := qF.a (P := 32) (j := 2) hP (by omega)
      have e3 : mv_a τ 35 = mv_a σ 35 := qF.a (P := 32) (j := 3) hP (by omega)
      have b0 : (mv_a τ 34 (mv_i σ 32 9).toNatClampNeg).toInt = c9 := by rw [e2]; exact hc9
      have b1 : (mv_a τ 35 (mv_i σ 32 9).toNatClampNeg).toInt = f9 := by rw [e3]; exact hf9
      have b2 : (mv_a τ 35 (mv_i τ 32 8).toNatClampNeg).toInt = f8 := by rw [e3, e8]; exact hf8
      have b3 : 0 ≤ (mv_i τ 32 8).toInt := by rw [e8]; exact ht9.1
      have b4 : (mv_i τ 32 8).toInt < th := by rw [e8]; exact ht9.2.1
      have b5 : mv_b τ 65 (mv_a τ 35 (mv_i τ 32 8).toNatClampNeg).toNatClampNeg = Rv (r9.2.1 p9.1) 0 := by
        rw [e3, e8, hp8, cln (by have := hK.1.2.2 p9.1; omega), hfs8, cln (by omega)]
        exact qM.1 _ 0 hp8t (ncT_1 _)
      have qK := KOx.fm (by decide) hK qF
      have qS := SPq.fm (by decide) hS qF
      have qO := TCq.fm hO qF hP
      have qTh := hTh.fm qF hP
      refine mv_iload (pc := 22) B d_Machine_many_22 0 rfl ?_
      refine mv_iload_n (pc := 24) B d_Machine_many_24 rfl 4 rfl ?_
      refine mv_icmp_ge (pc := 25) (tgt := 131) B d_Machine_many_25 rfl (fun h25 => ?_) (fun h25 => ?_)
      · skip
        rw [Int32.le_iff_toInt_le] at h25
        have ejN : jn = N9 := by have := qM.2.2.2.2.1; omega
        rw [ejN] at qM
        have hend := mn_end hN1 qM
        refine mv_iload_n (pc := 131) B d_Machine_many_131 rfl 4 rfl ?_
        exact mv_iret (pc := 132) B hr rfl d_Machine_many_132 (Nat.le_refl _) (Nat.le_refl _) ⟨_, rfl, qF, by rw [hN9]; exact hend⟩
      · skip
        rw [Int32.le_iff_toInt_le] at h25
        have hmx := i32_rng n9
        have w2 : (jj + 1).toInt = jj.toInt + 1 := i32_inc (by omega)
        obtain ⟨ix, eix⟩ : ∃ x, x = mv_b τ 65 (mv_a τ 35 (mv_i τ 32 8).toNatClampNeg).toNatClampNeg := ⟨_, rfl⟩
        have eir : ix = Rv (r9.2.1 p9.1) 0 := eix.trans b5
        refine mv_aload_n (pc := 28) B d_Machine_many_28 rfl 3 rfl ?_
        refine mv_getR (pc := 29) (ci := 9) (C := R_Machine) (T := F_Machine) (N := 13) B 1 rfl rfl (by decide) i_Machine (B.2.2.2.1 _ k_442) rfl (qR.1 _ 1 _ rfl) d_Machine_many_29 ?_
        refine mv_aload_n (pc := 32) B d_Machine_many_32 rfl 3 rfl ?_
        refine mv_getR (pc := 33) (ci := 9) (C := R_Machine) (T := F_Machine) (N := 13) B 0 rfl rfl (by decide) i_Machine (B.2.2.2.1 _ k_440) rfl qR.2.2 d_Machine_many_33 ?_
        refine mv_getR (pc := 36) (ci := 7) (C := R_Program) (T := F_Program) (N := 19) B 4 rfl rfl (by decide) i_Program (B.2.2.2.1 _ k_327) rfl (qR.2.1 _ 4 35 rfl) d_Machine_many_36 ?_
        refine mv_aload_n (pc := 39) B d_Machine_many_39 rfl 3 rfl ?_
        refine mv_getR (pc := 40) (ci := 9) (C := R_Machine) (T := F_Machine) (N := 13) B 0 rfl rfl (by decide) i_Machine (B.2.2.2.1 _ k_440) rfl qR.2.2 d_Machine_many_40 ?_
        refine mv_getI (pc := 43) (ci := 7) (C := R_Program) (T := F_Program) (N := 19) B 8 rfl rfl (by decide) i_Program (B.2.2.2.1 _ k_338) rfl d_Machine_many_43 ?_
        refine mv_iald (pc := 46) B rfl (i32_in b3 (by omega)) d_Machine_many_46 ?_
        refine mv_lald (pc := 47) B rfl (i32_in (by omega) (by omega)) d_Machine_many_47 ?_
        refine mv_lstore (pc := 48) B d_Machine_many_48 (by decide) rfl ?_
        rw [← eix]
        clear eix b5
        refine mv_lload (pc := 50) B d_Machine_many_50 0 rfl ?_
        refine mv_lconst (pc := 52) (v := 0) B d_Machine_many_52 (by decide) ?_
        refine mv_lcmp (pc := 53) B d_Machine_many_53 ?_
        refine mv_if_lt (pc := 54) (tgt := 75) B d_Machine_many_54 rfl (fun h54 => ?_) (fun h54 => ?_)
        · skip
          have k54 := (lg_cmp_lt _ _).mp h54
          rw [Int64.lt_iff_toInt_lt] at k54
          simp only [Int64.reduceToInt] at k54
          have hfw : fwF r9 Rv = none := by rw [fwF_e hp9, if_neg (fun q => by rw [← eir] at q; omega)]
          have hm2 := mn_out qM (by omega) hfw
          refine mv_aload_n (pc := 75) B d_Machine_many_75 rfl 4 rfl ?_
          refine mv_iconst (pc := 76) (v := -1) B d_Machine_many_76 (by decide) ?_
          refine mv_putI (pc := 77) (ci := 9) (C := R_Machine) (T := F_Machine) (N := 13) B 9 rfl rfl (by decide) i_Machine t_Machine_ok n_Machine (B.2.2.2.1 _ k_451) rfl rfl rfl rfl d_Machine_many_77 ?_
          refine mv_aload_n (pc := 80) B d_Machine_many_80 rfl 4 rfl ?_
          refine mv_dup (pc := 81) B d_Machine_many_81 rfl ?_
          refine mv_getI (pc := 82) (ci := 9) (C := R_Machine) (T := F_Machine) (N := 13) B 11 rfl rfl (by decide) i_Machine (B.2.2.2.1 _ k_455) rfl d_Machine_many_82 ?_
          refine mv_iconst (pc := 85) (v := 1) B d_Machine_many_85 (by decide) ?_
          refine mv_iadd (pc := 86) B d_Machine_many_86 ?_
          refine mv_putI (pc := 87) (ci := 9) (C := R_Machine) (T := F_Machine) (N := 13) B 11 rfl rfl (by decide) i_Machine t_Machine_ok n_Machine (B.2.2.2.1 _ k_455) rfl rfl rfl rfl d_Machine_many_87 ?_
          refine mv_goto (pc := 90) (tgt := 115) B d_Machine_many_90 rfl ?_
          refine mv_lpick [1, 2, 3, 4, 5] rfl ?_
          first | exact j115 _ _ jn w2 (by omega) (by omega) ejj (by rw [f112.2.2.2.2]; exact qR) (qF.tr f112) hm2 | exact j115 _ _ jn w2 (by omega) (by omega) ejj qR ((qF.si rfl).si rfl) hm2
        · skip
          have k54 := mt (lg_cmp_lt _ _).mpr h54
          rw [Int64.lt_iff_toInt_lt] at k54
          simp only [Int64.reduceToInt] at k54
          refine mv_lload (pc := 57) B d_Machine_many_57 0 rfl ?_
          refine mv_aload_n (pc := 59) B d_Machine_many_59 rfl 4 rfl ?_
          refine mv_getR (pc := 60) (ci := 9) (C := R_Machine) (T := F_Machine) (N := 13) B 0 rfl rfl (by decide) i_Machine (B.2.2.2.1 _ k_440) rfl qR.2.2 d_Machine_many_60 ?_
          refine mv_getR (pc := 63) (ci := 7) (C := R_Program) (T := F_Program) (N := 19) B 3 rfl rfl (by decide) i_Program (B.2.2.2.1 _ k_324) rfl (qR.2.1 _ 3 34 rfl) d_Machine_many_63 ?_
          refine mv_iload_n (pc := 66) B d_Machine_many_66 rfl 2 rfl ?_
          refine mv_iald (pc := 67) B rfl (i32_in (by omega) (by omega)) d_Machine_many_67 ?_
          refine mv_iload_n (pc := 68) B d_Machine_many_68 rfl 3 rfl ?_
          refine mv_isub (pc := 69) B d_Machine_many_69 ?_
          refine mv_topi (fun y69 ey69 => ?_)
          have fy69 := i32_subE ey69 (by (try simp only [Int32.reduceToInt]); omega) (by (try simp only [Int32.reduceToInt]); omega)
          try simp only [Int32.reduceToInt] at fy69
          refine mv_i2l (pc := 70) B d_Machine_many_70 ?_
          refine mv_lcmp (pc := 71) B d_Machine_many_71 ?_
          refine mv_if_le (pc := 72) (tgt := 93) B d_Machine_many_72 rfl (fun h72 => ?_) (fun h72 => ?_)
          · skip
            have k72 := (lg_cmp_le _ _).mp h72
            rw [Int64.le_iff_toInt_le, lg_toInt] at k72
            rw [fy69] at k72
            have k73 := l2i_nn (x := ix) (by omega) (by omega)
            have hfw : fwF r9 Rv = some (wdL (fun i => Rv (r9.2.1 p9.2) ((Rv (r9.2.1 p9.1) 0).toInt.toNat + i)) (r9.1.bits / 8) 0) := by rw [fwF_e hp9, if_pos (by rw [← eir]; omega)]
            refine mv_aload_n (pc := 93) B d_Machine_many_93 rfl 4 rfl ?_
            refine mv_aload_n (pc := 94) B d_Machine_many_94 rfl 4 rfl ?_
            refine mv_aload_n (pc := 95) B d_Machine_many_95 rfl 4 rfl ?_
            refine mv_getR (pc := 96) (ci := 9) (C := R_Machine) (T := F_Machine) (N := 13) B 0 rfl rfl (by decide) i_Machine (B.2.2.2.1 _ k_440) rfl qR.2.2 d_Machine_many_96 ?_
            refine mv_getR (pc := 99) (ci := 7) (C := R_Program) (T := F_Program) (N := 19) B 4 rfl rfl (by decide) i_Program (B.2.2.2.1 _ k_327) rfl (qR.2.1 _ 4 35 rfl) d_Machine_many_99 ?_
            refine mv_iload_n (pc := 102) B d_Machine_many_102 rfl 2 rfl ?_
            refine mv_iald (pc := 103) B rfl (i32_in (by omega) (by omega)) d_Machine_many_103 ?_
            refine mv_lload (pc := 104) B d_Machine_many_104 0 rfl ?_
            refine mv_l2i (pc := 106) B d_Machine_many_106 ?_
            refine mv_iadd (pc := 107) B d_Machine_many_107 ?_
            refine mv_topi (fun y107 ey107 => ?_)
            have fy107 := i32_addE ey107 (by (try simp only [Int32.reduceToInt]); omega) (by (try simp only [Int32.reduceToInt]); omega)
            try simp only [Int32.reduceToInt] at fy107
            refine mv_iload_n (pc := 108) B d_Machine_many_108 rfl 3 rfl ?_
            have e109 : y107 = nI (f9 + ix.toInt.toNat) := nI_o2 (by rw [fy107]; omega)
            have e110 : mv_i σ 32 0 / 8 = nI (r9.1.bits / 8) := by rw [hS.1, nId8 hS.2.2.2.2.1.1]
            have w109 := wat_e (P := 32) (h := τ) (sl := f9 + ix.toInt.toNat) (b := r9.1.bits / 8) (by omega)
            rw [← e109, ← e110] at w109
            refine mv_callVl (pc := 109) (n := 2) (ci := 9) (C := R_Machine) B (mK_ok sk sv) hNs rfl rfl (ch_Machine_wordAt_a l hi _ qR _ _ w109) rfl (ma_goodc kc_Machine_wordAt) (B.2.2.2.1 _ k_1797) (B.2.2.2.1 _ k_1799) (B.2.2.2.1 _ ks_78) (B.2.2.2.1 _ k_11) ⟨by decide +kernel, by decide +kernel, by decide +kernel⟩ rfl d_Machine_many_109 rfl (Nat.le_of_ble_eq_true rfl) ⟨by decide, by decide⟩ ⟨by decide, by decide⟩ ⟨by decide, by decide⟩ (mv_noH hno _) (fun v109 σ109 h109 => ?_)
            obtain ⟨z109, y109, -⟩ := h109
            subst y109
            refine mv_callVv (pc := 112) (n := 1) (ci := 9) (C := R_Machine) B (mK_ok sk sv) hNs rfl rfl (c_kq_Machine_oneWith_a l hi _ _ qR r9 Rv qK qS qO th sl qTh qM.1 hL9 hU) rfl (ma_goodc kc_Machine_oneWith) (B.2.2.2.1 _ k_1801) (B.2.2.2.1 _ k_1573) (B.2.2.2.1 _ k_1574) (B.2.2.2.1 _ k_11) ⟨by decide +kernel, by decide +kernel, by decide +kernel⟩ rfl d_Machine_many_112 rfl (Nat.le_of_ble_eq_true rfl) ⟨by decide, by decide⟩ ⟨by decide, by decide⟩ ⟨by decide, by decide⟩ (mv_noH hno _) (fun σ112 h112 => ?_)
            obtain ⟨f112, o112⟩ := h112
            have ew : v109 = wdL (fun i => Rv (r9.2.1 p9.2) ((Rv (r9.2.1 p9.1) 0).toInt.toNat + i)) (r9.1.bits / 8) 0 := by
              rw [← z109]
              refine wdL_c _ _ (fun i hi => ?_)
              show mv_b τ 65 (f9 + ix.toInt.toNat + i) = _
              rw [← eir, hfs9, Nat.add_assoc]
              refine qM.1 _ _ hp9t ?_
              unfold ncT
              rw [← hc99, if_neg (by omega)]
              omega
            rw [ew] at o112
            have hm2 := mn_stp qM (by omega) (by omega) hfw o112
            refine mv_lpick [1, 2, 3, 4, 5] rfl ?_
            first | exact j115 _ _ jn w2 (by omega) (by omega) ejj (by rw [f112.2.2.2.2]; exact qR) (qF.tr f112) hm2 | exact j115 _ _ jn w2 (by omega) (by omega) ejj qR ((qF.si rfl).si rfl) hm2
          · skip
            have k72 := mt (lg_cmp_le _ _).mpr h72
            rw [Int64.le_iff_toInt_le, lg_toInt] at k72
            rw [fy69] at k72
            have hfw : fwF r9 Rv = none := by rw [fwF_e hp9, if_neg (fun q => by rw [← eir] at q; omega)]
            have hm2 := mn_out qM (by omega) hfw
            refine mv_aload_n (pc := 75) B d_Machine_many_75 rfl 4 rfl ?_
            refine mv_iconst (pc := 76) (v := -1) B d_Machine_many_76 (by decide) ?_
            refine mv_putI (pc := 77) (ci := 9) (C := R_Machine) (T := F_Machine) (N := 13) B 9 rfl rfl (by decide) i_Machine t_Machine_ok n_Machine (B.2.2.2.1 _ k_451) rfl rfl rfl rfl d_Machine_many_77 ?_
            refine mv_aload_n (pc := 80) B d_Machine_many_80 rfl 4 rfl ?_
            refine mv_dup (pc := 81) B d_Machine_many_81 rfl ?_
            refine mv_getI (pc := 82) (ci := 9) (C := R_Machine) (T := F_Machine) (N := 13) B 11 rfl rfl (by decide) i_Machine (B.2.2.2.1 _ k_455) rfl d_Machine_many_82 ?_
            refine mv_iconst (pc := 85) (v := 1) B d_Machine_many_85 (by decide) ?_
            refine mv_iadd (pc := 86) B d_Machine_many_86 ?_
            refine mv_putI (pc := 87) (ci := 9) (C := R_Machine) (T := F_Machine) (N := 13) B 11 rfl rfl (by decide) i_Machine t_Machine_ok n_Machine (B.2.2.2.1 _ k_455) rfl rfl rfl rfl d_Machine_many_87 ?_
            refine mv_goto (pc := 90) (tgt := 115) B d_Machine_many_90 rfl ?_
            refine mv_lpick [1, 2, 3, 4, 5] rfl ?_
            first | exact j115 _ _ jn w2 (by omega) (by omega) ejj (by rw [f112.2.2.2.2]; exact qR) (qF.tr f112) hm2 | exact j115 _ _ jn w2 (by omega) (by omega) ejj qR ((qF.si rfl).si rfl) hm2
  refine mv_aload_n (pc := 0) B d_Machine_many_0 rfl 0 rfl ?_
  refine mv_getR (pc := 1) (ci := 9) (C := R_Machine) (T := F_Machine) (N := 13) B 0 rfl rfl (by decide) i_Machine (B.2.2.2.1 _ k_440) rfl hR.2.2 d_Machine_many_1 ?_
  refine mv_getI (pc := 4) (ci := 7) (C := R_Program) (T := F_Program) (N := 19) B 0 rfl rfl (by decide) i_Program (B.2.2.2.1 _ k_312) rfl d_Machine_many_4 ?_
  refine mv_bipush (pc := 7) (v := 8) B d_Machine_many_7 (by decide) ?_
  refine mv_idiv (pc := 9) B d_Machine_many_9 (by decide) ?_
  refine mv_istore_n (pc := 10) B d_Machine_many_10 rfl (by decide) rfl ?_
  refine mv_aload_n (pc := 11) B d_Machine_many_11 rfl 1 rfl ?_
  refine mv_getR (pc := 12) (ci := 9) (C := R_Machine) (T := F_Machine) (N := 13) B 0 rfl rfl (by decide) i_Machine (B.2.2.2.1 _ k_440) rfl hR.2.2 d_Machine_many_12 ?_
  refine mv_getI (pc := 15) (ci := 7) (C := R_Program) (T := F_Program) (N := 19) B 9 rfl rfl (by decide) i_Program (B.2.2.2.1 _ k_341) rfl d_Machine_many_15 ?_
  refine mv_istore_n (pc := 18) B d_Machine_many_18 rfl (by decide) rfl ?_
  refine mv_iconst (pc := 19) (v := 0) B d_Machine_many_19 (by decide) ?_
  refine mv_istore (pc := 20) B d_Machine_many_20 (by decide) rfl ?_
  refine mv_lpick [0, 1, 2, 3, 4] rfl ?_
  exact lp _ _ _ 0 R9 (by decide) (by decide) rfl hR FM0 (mn_0 hV) (Nat.lt_succ_self _)
set_option maxHeartbeats 4000000 in
set_option maxRecDepth 100000 in
theorem c_kq_Machine_many_b (l : Launch) {dA : FieldType → ClassId} {D : va_G} {al : Nat → Nat} {ext : mv_Sh} {sk sv : Nat → Nat} (hi : mv_inj (mg dA D al ext)) (σ : mv_H) (n9 : Int32) (hR : Rf 48 (mv_r σ)) (r9 : SI × LZ × List DnS) (R9 : Nat → Nat → Int64) (hK : KOx 48 r9 σ) (hS : SPq 48 r9.1 σ) (hO : TCq 48 32768 512 r9 σ) (th sl : Nat) (hTh : Th 48 σ th sl) (hV : VLr r9 σ R9) (hL9 : LIq r9) (hU : UQs r9.1) (N9 : Nat) (hN9 : n9 = nI N9) (hN1 : 0 < N9) (hN5 : N9 ≤ 500) (hf : 0 ≤ (mv_i σ 48 9).toInt) : mv_C l y_Machine_many (Cond.code y_Machine_many b_Machine_many 7 (Option.some Jvm.ClassFile.FieldType.int) :: ma) ({ frames := 6, cells := 0, slots := 0, locals := 152 }) (mg dA D al ext) (mK sk sv) [.ref (al 64), .int n9] σ (mv_Ri (fun v σ1 => FM σ σ1 ∧ RNr r9 N9 R9 σ σ1 v)) := by
  refine mv_C.ofV (cc := b_Machine_many) (nL := 7) (ret := (Option.some Jvm.ClassFile.FieldType.int)) (by decide +kernel) rfl hi (Nat.le_of_ble_eq_true rfl) ?_
  intro p e s m below meth c B hNs hr hnm hno
  have hP : PP 48 := by unfold PP; omega
  have eN9 : n9.toInt = N9 := by rw [hN9, nIi (by omega)]
  have hln := len8 hTh.2.2.2.2.1 hTh.2.2.2.2.2.1
  have ht9 := hTh.2.2.2.2.2.2.2.resolve_left (fun q => by omega)
  have hr9 := i32_cl (x := mv_i σ 48 9) hf
  have hr8 := i32_cl (x := mv_i σ 48 8) ht9.1
  obtain ⟨c9, f9, hc9, hf9, hs1, hs2⟩ := hTh.2.2.2.2.2.2.1 (mv_i σ 48 9).toNatClampNeg (by omega)
  obtain ⟨c8, f8, hc8, hf8, hs3, hs4⟩ := hTh.2.2.2.2.2.2.1 (mv_i σ 48 8).toNatClampNeg (by omega)
  have hsl := hTh.2.2.2.1
  have ht64 := hTh.2.1
  obtain ⟨p9, hp9, hp8, hp8t, hp99, hp9t⟩ := fet_W hK hS hTh hf
  have hl64 := hK.1.2.2 p9.2
  have hl65 := hK.1.2.2 p9.1
  have hfs8 : mv_a σ 51 (r9.2.1 p9.1) = nI (fsL r9.1.tl (r9.2.1 p9.1)) := (hK.2.1.2.2 _ hp8t).1
  have hfs9 : f9 = fsL r9.1.tl (r9.2.1 p9.2) := by
    have z := (hK.2.1.2.2 _ hp9t).1
    have z2 := hf9
    rw [hp99, cln (by omega), z, nIi (by have := fsL_le r9.1.tl (r9.2.1 p9.2); have := hK.2.1.2.1; have := hS.2.2.2.2.1; omega)] at z2
    omega
  have hc99 : c9 = (r9.1.tl.getD (r9.2.1 p9.2) (0, 0, false)).2.1 := by
    have z := (hS.2.2.2.2.2.2.1 _ hp9t)
    have z2 := hc9
    rw [hp99, cln (by omega), z.2.1, nIi (by omega)] at z2
    omega
  have hfl := fsL_le r9.1.tl (r9.2.1 p9.1)
  have hfl2 := hK.2.1.2.1
  have hsb := hS.2.2.2.2.1
  have hbt : (mv_i σ 48 0 / 8).toInt = (r9.1.bits / 8 : Nat) := by rw [hS.1, nId8 hsb.1, nIi (by omega)]
  have lp : ∀ (nn : Nat) (τ : mv_H) (jj : Int32) (jn : Nat) (Rv : Nat → Nat → Int64) (q0 : 0 ≤ jj.toInt) (q1 : jj.toInt ≤ 500) (ejj : jj.toInt = jn) (qR : Rf 48 (mv_r τ)) (qF : FM σ τ) (qM : MNq r9 N9 R9 σ τ jn Rv), (501 - jj.toInt).toNat < nn → mv_V p l e ({ frames := 6, cells := 0, slots := 0, locals := 152 }) s m ([.ref (al 64), .int n9] : List Value).toArray below meth c (mg dA D al ext) 7 0 0 (mv_Q (mg dA D al ext) below s 0 0 (mv_Ri (fun v σ1 => FM σ σ1 ∧ RNr r9 N9 R9 σ σ1 v))) τ 22 [(4, .int jj), (3, .int (mv_i σ 48 9)), (2, .int (mv_i σ 48 0 / 8)), (0, .ref (al 64)), (1, .int n9)] [] := by
    intro nn
    induction nn with
    | zero => intro τ jj jn Rv q0 q1 ejj qR qF qM hm; exact absurd hm (Nat.not_lt_zero _)
    | succ nn ih =>
      intro τ jj jn Rv q0 q1 ejj qR qF qM hm
      have j115 : ∀ (τ2 : mv_H) (jj : Int32) (jn : Nat) (w2 : (jj + 1).toInt = jj.toInt + 1) (q0 : 0 ≤ jj.toInt) (qm : (501 - (jj + 1).toInt).toNat < nn ∧ (jj + 1).toInt ≤ 500) (ejj : jj.toInt = jn) (gR : Rf 48 (mv_r τ2)) (gF : FM σ τ2) (g2 : MN2 r9 N9 R9 σ τ2 jn), mv_V p l e ({ frames := 6, cells := 0, slots := 0, locals := 152 }) s m ([.ref (al 64), .int n9] : List Value).toArray below meth c (mg dA D al ext) 7 0 0 (mv_Q (mg dA D al ext) below s 0 0 (mv_Ri (fun v σ1 => FM σ σ1 ∧ RNr r9 N9 R9 σ σ1 v))) τ2 115 [(4, .int jj), (3, .int (mv_i σ 48 9)), (2, .int (mv_i σ 48 0 / 8)), (0, .ref (al 64)), (1, .int n9)] [] := by
        intro τ2 jj jn w2 q0 qm ejj gR gF g2
        refine mv_aload_n (pc := 115) B d_Machine_many_115 rfl 3 rfl ?_
        refine mv_getI (pc := 116) (ci := 9) (C := R_Machine) (T := F_Machine) (N := 13) B 9 rfl rfl (by decide) i_Machine (B.2.2.2.1 _ k_451) rfl d_Machine_many_116 ?_
        refine mv_if_eq (pc := 119) (tgt := 125) B d_Machine_many_119 rfl (fun h119 => ?_) (fun h119 => ?_)
        · skip
          obtain ⟨R2, q2⟩ := g2.1 h119
          have go := ih τ2 (jj + 1) (jn + 1) R2 (by omega) (by omega) (by omega) gR gF q2 (by omega)
          refine mv_iinc (pc := 125) (j := 0) (v := 1) B d_Machine_many_125 rfl (by decide) (by decide) rfl ?_
          refine mv_goto (pc := 128) (tgt := 22) B d_Machine_many_128 rfl ?_
          refine mv_lpick [0, 1, 2, 3, 4] rfl ?_
          exact go
        · skip
          have hend := g2.2 h119
          rw [← nI_o2 ejj] at hend
          refine mv_iload (pc := 122) B d_Machine_many_122 0 rfl ?_
          exact mv_iret (pc := 124) B hr rfl d_Machine_many_124 (Nat.le_refl _) (Nat.le_refl _) ⟨_, rfl, gF, hend⟩
      have e8 : mv_i τ 48 = mv_i σ 48 := funext fun _ => qF.i hP
      have e2 : mv_a τ 50 = mv_a σ 50 := qF.a (P := 48) (j := 2) hP (by omega)
      have e3 : mv_a τ 51 = mv_a σ 51 := qF.a (P := 48) (j := 3) hP (by omega)
      have b0 : (mv_a τ 50 (mv_i σ 48 9).toNatClampNeg).toInt = c9 := by rw [e2]; exact hc9
      have b1 : (mv_a τ 51 (mv_i σ 48 9).toNatClampNeg).toInt = f9 := by rw [e3]; exact hf9
      have b2 : (mv_a τ 51 (mv_i τ 48 8).toNatClampNeg).toInt = f8 := by rw [e3, e8]; exact hf8
      have b3 : 0 ≤ (mv_i τ 48 8).toInt := by rw [e8]; exact ht9.1
      have b4 : (mv_i τ 48 8).toInt < th := by rw [e8]; exact ht9.2.1
      have b5 : mv_b τ 65 (mv_a τ 51 (mv_i τ 48 8).toNatClampNeg).toNatClampNeg = Rv (r9.2.1 p9.1) 0 := by
        rw [e3, e8, hp8, cln (by have := hK.1.2.2 p9.1; omega), hfs8, cln (by omega)]
        exact qM.1 _ 0 hp8t (ncT_1 _)
      have qK := KOx.fm (by decide) hK qF
      have qS := SPq.fm (by decide) hS qF
      have qO := TCq.fm hO qF hP
      have qTh := hTh.fm qF hP
      refine mv_iload (pc := 22) B d_Machine_many_22 0 rfl ?_
      refine mv_iload_n (pc := 24) B d_Machine_many_24 rfl 4 rfl ?_
      refine mv_icmp_ge (pc := 25) (tgt := 131) B d_Machine_many_25 rfl (fun h25 => ?_) (fun h25 => ?_)
      · skip
        rw [Int32.le_iff_toInt_le] at h25
        have ejN : jn = N9 := by have := qM.2.2.2.2.1; omega
        rw [ejN] at qM
        have hend := mn_end hN1 qM
        refine mv_iload_n (pc := 131) B d_Machine_many_131 rfl 4 rfl ?_
        exact mv_iret (pc := 132) B hr rfl d_Machine_many_132 (Nat.le_refl _) (Nat.le_refl _) ⟨_, rfl, qF, by rw [hN9]; exact hend⟩
      · skip
        rw [Int32.le_iff_toInt_le] at h25
        have hmx := i32_rng n9
        have w2 : (jj + 1).toInt = jj.toInt + 1 := i32_inc (by omega)
        obtain ⟨ix, eix⟩ : ∃ x, x = mv_b τ 65 (mv_a τ 51 (mv_i τ 48 8).toNatClampNeg).toNatClampNeg := ⟨_, rfl⟩
        have eir : ix = Rv (r9.2.1 p9.1) 0 := eix.trans b5
        refine mv_aload_n (pc := 28) B d_Machine_many_28 rfl 3 rfl ?_
        refine mv_getR (pc := 29) (ci := 9) (C := R_Machine) (T := F_Machine) (N := 13) B 1 rfl rfl (by decide) i_Machine (B.2.2.2.1 _ k_442) rfl (qR.1 _ 1 _ rfl) d_Machine_many_29 ?_
        refine mv_aload_n (pc := 32) B d_Machine_many_32 rfl 3 rfl ?_
        refine mv_getR (pc := 33) (ci := 9) (C := R_Machine) (T := F_Machine) (N := 13) B 0 rfl rfl (by decide) i_Machine (B.2.2.2.1 _ k_440) rfl qR.2.2 d_Machine_many_33 ?_
        refine mv_getR (pc := 36) (ci := 7) (C := R_Program) (T := F_Program) (N := 19) B 4 rfl rfl (by decide) i_Program (B.2.2.2.1 _ k_327) rfl (qR.2.1 _ 4 51 rfl) d_Machine_many_36 ?_
        refine mv_aload_n (pc := 39) B d_Machine_many_39 rfl 3 rfl ?_
        refine mv_getR (pc := 40) (ci := 9) (C := R_Machine) (T := F_Machine) (N := 13) B 0 rfl rfl (by decide) i_Machine (B.2.2.2.1 _ k_440) rfl qR.2.2 d_Machine_many_40 ?_
        refine mv_getI (pc := 43) (ci := 7) (C := R_Program) (T := F_Program) (N := 19) B 8 rfl rfl (by decide) i_Program (B.2.2.2.1 _ k_338) rfl d_Machine_many_43 ?_
        refine mv_iald (pc := 46) B rfl (i32_in b3 (by omega)) d_Machine_many_46 ?_
        refine mv_lald (pc := 47) B rfl (i32_in (by omega) (by omega)) d_Machine_many_47 ?_
        refine mv_lstore (pc := 48) B d_Machine_many_48 (by decide) rfl ?_
        rw [← eix]
        clear eix b5
        refine mv_lload (pc := 50) B d_Machine_many_50 0 rfl ?_
        refine mv_lconst (pc := 52) (v := 0) B d_Machine_many_52 (by decide) ?_
        refine mv_lcmp (pc := 53) B d_Machine_many_53 ?_
        refine mv_if_lt (pc := 54) (tgt := 75) B d_Machine_many_54 rfl (fun h54 => ?_) (fun h54 => ?_)
        · skip
          have k54 := (lg_cmp_lt _ _).mp h54
          rw [Int64.lt_iff_toInt_lt] at k54
          simp only [Int64.reduceToInt] at k54
          have hfw : fwF r9 Rv = none := by rw [fwF_e hp9, if_neg (fun q => by rw [← eir] at q; omega)]
          have hm2 := mn_out qM (by omega) hfw
          refine mv_aload_n (pc := 75) B d_Machine_many_75 rfl 4 rfl ?_
          refine mv_iconst (pc := 76) (v := -1) B d_Machine_many_76 (by decide) ?_
          refine mv_putI (pc := 77) (ci := 9) (C := R_Machine) (T := F_Machine) (N := 13) B 9 rfl rfl (by decide) i_Machine t_Machine_ok n_Machine (B.2.2.2.1 _ k_451) rfl rfl rfl rfl d_Machine_many_77 ?_
          refine mv_aload_n (pc := 80) B d_Machine_many_80 rfl 4 rfl ?_
          refine mv_dup (pc := 81) B d_Machine_many_81 rfl ?_
          refine mv_getI (pc := 82) (ci := 9) (C := R_Machine) (T := F_Machine) (N := 13) B 11 rfl rfl (by decide) i_Machine (B.2.2.2.1 _ k_455) rfl d_Machine_many_82 ?_
          refine mv_iconst (pc := 85) (v := 1) B d_Machine_many_85 (by decide) ?_
          refine mv_iadd (pc := 86) B d_Machine_many_86 ?_
          refine mv_putI (pc := 87) (ci := 9) (C := R_Machine) (T := F_Machine) (N := 13) B 11 rfl rfl (by decide) i_Machine t_Machine_ok n_Machine (B.2.2.2.1 _ k_455) rfl rfl rfl rfl d_Machine_many_87 ?_
          refine mv_goto (pc := 90) (tgt := 115) B d_Machine_many_90 rfl ?_
          refine mv_lpick [1, 2, 3, 4, 5] rfl ?_
          first | exact j115 _ _ jn w2 (by omega) (by omega) ejj (by rw [f112.2.2.2.2]; exact qR) (qF.tr f112) hm2 | exact j115 _ _ jn w2 (by omega) (by omega) ejj qR ((qF.si rfl).si rfl) hm2
        · skip
          have k54 := mt (lg_cmp_lt _ _).mpr h54
          rw [Int64.lt_iff_toInt_lt] at k54
          simp only [Int64.reduceToInt] at k54
          refine mv_lload (pc := 57) B d_Machine_many_57 0 rfl ?_
          refine mv_aload_n (pc := 59) B d_Machine_many_59 rfl 4 rfl ?_
          refine mv_getR (pc := 60) (ci := 9) (C := R_Machine) (T := F_Machine) (N := 13) B 0 rfl rfl (by decide) i_Machine (B.2.2.2.1 _ k_440) rfl qR.2.2 d_Machine_many_60 ?_
          refine mv_getR (pc := 63) (ci := 7) (C := R_Program) (T := F_Program) (N := 19) B 3 rfl rfl (by decide) i_Program (B.2.2.2.1 _ k_324) rfl (qR.2.1 _ 3 50 rfl) d_Machine_many_63 ?_
          refine mv_iload_n (pc := 66) B d_Machine_many_66 rfl 2 rfl ?_
          refine mv_iald (pc := 67) B rfl (i32_in (by omega) (by omega)) d_Machine_many_67 ?_
          refine mv_iload_n (pc := 68) B d_Machine_many_68 rfl 3 rfl ?_
          refine mv_isub (pc := 69) B d_Machine_many_69 ?_
          refine mv_topi (fun y69 ey69 => ?_)
          have fy69 := i32_subE ey69 (by (try simp only [Int32.reduceToInt]); omega) (by (try simp only [Int32.reduceToInt]); omega)
          try simp only [Int32.reduceToInt] at fy69
          refine mv_i2l (pc := 70) B d_Machine_many_70 ?_
          refine mv_lcmp (pc := 71) B d_Machine_many_71 ?_
          refine mv_if_le (pc := 72) (tgt := 93) B d_Machine_many_72 rfl (fun h72 => ?_) (fun h72 => ?_)
          · skip
            have k72 := (lg_cmp_le _ _).mp h72
            rw [Int64.le_iff_toInt_le, lg_toInt] at k72
            rw [fy69] at k72
            have k73 := l2i_nn (x := ix) (by omega) (by omega)
            have hfw : fwF r9 Rv = some (wdL (fun i => Rv (r9.2.1 p9.2) ((Rv (r9.2.1 p9.1) 0).toInt.toNat + i)) (r9.1.bits / 8) 0) := by rw [fwF_e hp9, if_pos (by rw [← eir]; omega)]
            refine mv_aload_n (pc := 93) B d_Machine_many_93 rfl 4 rfl ?_
            refine mv_aload_n (pc := 94) B d_Machine_many_94 rfl 4 rfl ?_
            refine mv_aload_n (pc := 95) B d_Machine_many_95 rfl 4 rfl ?_
            refine mv_getR (pc := 96) (ci := 9) (C := R_Machine) (T := F_Machine) (N := 13) B 0 rfl rfl (by decide) i_Machine (B.2.2.2.1 _ k_440) rfl qR.2.2 d_Machine_many_96 ?_
            refine mv_getR (pc := 99) (ci := 7) (C := R_Program) (T := F_Program) (N := 19) B 4 rfl rfl (by decide) i_Program (B.2.2.2.1 _ k_327) rfl (qR.2.1 _ 4 51 rfl) d_Machine_many_99 ?_
            refine mv_iload_n (pc := 102) B d_Machine_many_102 rfl 2 rfl ?_
            refine mv_iald (pc := 103) B rfl (i32_in (by omega) (by omega)) d_Machine_many_103 ?_
            refine mv_lload (pc := 104) B d_Machine_many_104 0 rfl ?_
            refine mv_l2i (pc := 106) B d_Machine_many_106 ?_
            refine mv_iadd (pc := 107) B d_Machine_many_107 ?_
            refine mv_topi (fun y107 ey107 => ?_)
            have fy107 := i32_addE ey107 (by (try simp only [Int32.reduceToInt]); omega) (by (try simp only [Int32.reduceToInt]); omega)
            try simp only [Int32.reduceToInt] at fy107
            refine mv_iload_n (pc := 108) B d_Machine_many_108 rfl 3 rfl ?_
            have e109 : y107 = nI (f9 + ix.toInt.toNat) := nI_o2 (by rw [fy107]; omega)
            have e110 : mv_i σ 48 0 / 8 = nI (r9.1.bits / 8) := by rw [hS.1, nId8 hS.2.2.2.2.1.1]
            have w109 := wat_e (P := 48) (h := τ) (sl := f9 + ix.toInt.toNat) (b := r9.1.bits / 8) (by omega)
            rw [← e109, ← e110] at w109
            refine mv_callVl (pc := 109) (n := 2) (ci := 9) (C := R_Machine) B (mK_ok sk sv) hNs rfl rfl (ch_Machine_wordAt_b l hi _ qR _ _ w109) rfl (ma_goodc kc_Machine_wordAt) (B.2.2.2.1 _ k_1797) (B.2.2.2.1 _ k_1799) (B.2.2.2.1 _ ks_78) (B.2.2.2.1 _ k_11) ⟨by decide +kernel, by decide +kernel, by decide +kernel⟩ rfl d_Machine_many_109 rfl (Nat.le_of_ble_eq_true rfl) ⟨by decide, by decide⟩ ⟨by decide, by decide⟩ ⟨by decide, by decide⟩ (mv_noH hno _) (fun v109 σ109 h109 => ?_)
            obtain ⟨z109, y109, -⟩ := h109
            subst y109
            refine mv_callVv (pc := 112) (n := 1) (ci := 9) (C := R_Machine) B (mK_ok sk sv) hNs rfl rfl (c_kq_Machine_oneWith_b l hi _ _ qR r9 Rv qK qS qO th sl qTh qM.1 hL9 hU) rfl (ma_goodc kc_Machine_oneWith) (B.2.2.2.1 _ k_1801) (B.2.2.2.1 _ k_1573) (B.2.2.2.1 _ k_1574) (B.2.2.2.1 _ k_11) ⟨by decide +kernel, by decide +kernel, by decide +kernel⟩ rfl d_Machine_many_112 rfl (Nat.le_of_ble_eq_true rfl) ⟨by decide, by decide⟩ ⟨by decide, by decide⟩ ⟨by decide, by decide⟩ (mv_noH hno _) (fun σ112 h112 => ?_)
            obtain ⟨f112, o112⟩ := h112
            have ew : v109 = wdL (fun i => Rv (r9.2.1 p9.2) ((Rv (r9.2.1 p9.1) 0).toInt.toNat + i)) (r9.1.bits / 8) 0 := by
              rw [← z109]
              refine wdL_c _ _ (fun i hi => ?_)
              show mv_b τ 65 (f9 + ix.toInt.toNat + i) = _
              rw [← eir, hfs9, Nat.add_assoc]
              refine qM.1 _ _ hp9t ?_
              unfold ncT
              rw [← hc99, if_neg (by omega)]
              omega
            rw [ew] at o112
            have hm2 := mn_stp qM (by omega) (by omega) hfw o112
            refine mv_lpick [1, 2, 3, 4, 5] rfl ?_
            first | exact j115 _ _ jn w2 (by omega) (by omega) ejj (by rw [f112.2.2.2.2]; exact qR) (qF.tr f112) hm2 | exact j115 _ _ jn w2 (by omega) (by omega) ejj qR ((qF.si rfl).si rfl) hm2
          · skip
            have k72 := mt (lg_cmp_le _ _).mpr h72
            rw [Int64.le_iff_toInt_le, lg_toInt] at k72
            rw [fy69] at k72
            have hfw : fwF r9 Rv = none := by rw [fwF_e hp9, if_neg (fun q => by rw [← eir] at q; omega)]
            have hm2 := mn_out qM (by omega) hfw
            refine mv_aload_n (pc := 75) B d_Machine_many_75 rfl 4 rfl ?_
            refine mv_iconst (pc := 76) (v := -1) B d_Machine_many_76 (by decide) ?_
            refine mv_putI (pc := 77) (ci := 9) (C := R_Machine) (T := F_Machine) (N := 13) B 9 rfl rfl (by decide) i_Machine t_Machine_ok n_Machine (B.2.2.2.1 _ k_451) rfl rfl rfl rfl d_Machine_many_77 ?_
            refine mv_aload_n (pc := 80) B d_Machine_many_80 rfl 4 rfl ?_
            refine mv_dup (pc := 81) B d_Machine_many_81 rfl ?_
            refine mv_getI (pc := 82) (ci := 9) (C := R_Machine) (T := F_Machine) (N := 13) B 11 rfl rfl (by decide) i_Machine (B.2.2.2.1 _ k_455) rfl d_Machine_many_82 ?_
            refine mv_iconst (pc := 85) (v := 1) B d_Machine_many_85 (by decide) ?_
            refine mv_iadd (pc := 86) B d_Machine_many_86 ?_
            refine mv_putI (pc := 87) (ci := 9) (C := R_Machine) (T := F_Machine) (N := 13) B 11 rfl rfl (by decide) i_Machine t_Machine_ok n_Machine (B.2.2.2.1 _ k_455) rfl rfl rfl rfl d_Machine_many_87 ?_
            refine mv_goto (pc := 90) (tgt := 115) B d_Machine_many_90 rfl ?_
            refine mv_lpick [1, 2, 3, 4, 5] rfl ?_
            first | exact j115 _ _ jn w2 (by omega) (by omega) ejj (by rw [f112.2.2.2.2]; exact qR) (qF.tr f112) hm2 | exact j115 _ _ jn w2 (by omega) (by omega) ejj qR ((qF.si rfl).si rfl) hm2
  refine mv_aload_n (pc := 0) B d_Machine_many_0 rfl 0 rfl ?_
  refine mv_getR (pc := 1) (ci := 9) (C := R_Machine) (T := F_Machine) (N := 13) B 0 rfl rfl (by decide) i_Machine (B.2.2.2.1 _ k_440) rfl hR.2.2 d_Machine_many_1 ?_
  refine mv_getI (pc := 4) (ci := 7) (C := R_Program) (T := F_Program) (N := 19) B 0 rfl rfl (by decide) i_Program (B.2.2.2.1 _ k_312) rfl d_Machine_many_4 ?_
  refine mv_bipush (pc := 7) (v := 8) B d_Machine_many_7 (by decide) ?_
  refine mv_idiv (pc := 9) B d_Machine_many_9 (by decide) ?_
  refine mv_istore_n (pc := 10) B d_Machine_many_10 rfl (by decide) rfl ?_
  refine mv_aload_n (pc := 11) B d_Machine_many_11 rfl 1 rfl ?_
  refine mv_getR (pc := 12) (ci := 9) (C := R_Machine) (T := F_Machine) (N := 13) B 0 rfl rfl (by decide) i_Machine (B.2.2.2.1 _ k_440) rfl hR.2.2 d_Machine_many_12 ?_
  refine mv_getI (pc := 15) (ci := 7) (C := R_Program) (T := F_Program) (N := 19) B 9 rfl rfl (by decide) i_Program (B.2.2.2.1 _ k_341) rfl d_Machine_many_15 ?_
  refine mv_istore_n (pc := 18) B d_Machine_many_18 rfl (by decide) rfl ?_
  refine mv_iconst (pc := 19) (v := 0) B d_Machine_many_19 (by decide) ?_
  refine mv_istore (pc := 20) B d_Machine_many_20 (by decide) rfl ?_
  refine mv_lpick [0, 1, 2, 3, 4] rfl ?_
  exact lp _ _ _ 0 R9 (by decide) (by decide) rfl hR FM0 (mn_0 hV) (Nat.lt_succ_self _)
set_option maxHeartbeats 4000000 in
set_option maxRecDepth 100000 in
theorem c_kq_Machine_many_c (l : Launch) {dA : FieldType → ClassId} {D : va_G} {al : Nat → Nat} {sk sv : Nat → Nat} (hi : mv_inj (mg dA D al me)) (σ : mv_H) (n9 : Int32) (hR : Rf 145 (mv_r σ)) (r9 : SI × LZ × List DnS) (R9 : Nat → Nat → Int64) (hK : KOx 145 r9 σ) (hS : SPq 145 r9.1 σ) (hO : TCq 145 8192 48 r9 σ) (th sl : Nat) (hTh : Th 145 σ th sl) (hV : VLr r9 σ R9) (hL9 : LIq r9) (hU : UQs r9.1) (N9 : Nat) (hN9 : n9 = nI N9) (hN1 : 0 < N9) (hN5 : N9 ≤ 500) (hf : 0 ≤ (mv_i σ 145 9).toInt) : mv_C l y_Machine_many (Cond.code y_Machine_many b_Machine_many 7 (Option.some Jvm.ClassFile.FieldType.int) :: ma) ({ frames := 6, cells := 0, slots := 0, locals := 152 }) (mg dA D al me) (mK sk sv) [.ref (al 64), .int n9] σ (mv_Ri (fun v σ1 => FM σ σ1 ∧ RNr r9 N9 R9 σ σ1 v)) := by
  refine mv_C.ofV (cc := b_Machine_many) (nL := 7) (ret := (Option.some Jvm.ClassFile.FieldType.int)) (by decide +kernel) rfl hi (Nat.le_of_ble_eq_true rfl) ?_
  intro p e s m below meth c B hNs hr hnm hno
  have hP : PP 145 := by unfold PP; omega
  have eN9 : n9.toInt = N9 := by rw [hN9, nIi (by omega)]
  have hln := len8 hTh.2.2.2.2.1 hTh.2.2.2.2.2.1
  have ht9 := hTh.2.2.2.2.2.2.2.resolve_left (fun q => by omega)
  have hr9 := i32_cl (x := mv_i σ 145 9) hf
  have hr8 := i32_cl (x := mv_i σ 145 8) ht9.1
  obtain ⟨c9, f9, hc9, hf9, hs1, hs2⟩ := hTh.2.2.2.2.2.2.1 (mv_i σ 145 9).toNatClampNeg (by omega)
  obtain ⟨c8, f8, hc8, hf8, hs3, hs4⟩ := hTh.2.2.2.2.2.2.1 (mv_i σ 145 8).toNatClampNeg (by omega)
  have hsl := hTh.2.2.2.1
  have ht64 := hTh.2.1
  obtain ⟨p9, hp9, hp8, hp8t, hp99, hp9t⟩ := fet_W hK hS hTh hf
  have hl64 := hK.1.2.2 p9.2
  have hl65 := hK.1.2.2 p9.1
  have hfs8 : mv_a σ 148 (r9.2.1 p9.1) = nI (fsL r9.1.tl (r9.2.1 p9.1)) := (hK.2.1.2.2 _ hp8t).1
  have hfs9 : f9 = fsL r9.1.tl (r9.2.1 p9.2) := by
    have z := (hK.2.1.2.2 _ hp9t).1
    have z2 := hf9
    rw [hp99, cln (by omega), z, nIi (by have := fsL_le r9.1.tl (r9.2.1 p9.2); have := hK.2.1.2.1; have := hS.2.2.2.2.1; omega)] at z2
    omega
  have hc99 : c9 = (r9.1.tl.getD (r9.2.1 p9.2) (0, 0, false)).2.1 := by
    have z := (hS.2.2.2.2.2.2.1 _ hp9t)
    have z2 := hc9
    rw [hp99, cln (by omega), z.2.1, nIi (by omega)] at z2
    omega
  have hfl := fsL_le r9.1.tl (r9.2.1 p9.1)
  have hfl2 := hK.2.1.2.1
  have hsb := hS.2.2.2.2.1
  have hbt : (mv_i σ 145 0 / 8).toInt = (r9.1.bits / 8 : Nat) := by rw [hS.1, nId8 hsb.1, nIi (by omega)]
  have lp : ∀ (nn : Nat) (τ : mv_H) (jj : Int32) (jn : Nat) (Rv : Nat → Nat → Int64) (q0 : 0 ≤ jj.toInt) (q1 : jj.toInt ≤ 500) (ejj : jj.toInt = jn) (qR : Rf 145 (mv_r τ)) (qF : FM σ τ) (qM : MNq r9 N9 R9 σ τ jn Rv), (501 - jj.toInt).toNat < nn → mv_V p l e ({ frames := 6, cells := 0, slots := 0, locals := 152 }) s m ([.ref (al 64), .int n9] : List Value).toArray below meth c (mg dA D al me) 7 0 0 (mv_Q (mg dA D al me) below s 0 0 (mv_Ri (fun v σ1 => FM σ σ1 ∧ RNr r9 N9 R9 σ σ1 v))) τ 22 [(4, .int jj), (3, .int (mv_i σ 145 9)), (2, .int (mv_i σ 145 0 / 8)), (0, .ref (al 64)), (1, .int n9)] [] := by
    intro nn
    induction nn with
    | zero => intro τ jj jn Rv q0 q1 ejj qR qF qM hm; exact absurd hm (Nat.not_lt_zero _)
    | succ nn ih =>
      intro τ jj jn Rv q0 q1 ejj qR qF qM hm
      have j115 : ∀ (τ2 : mv_H) (jj : Int32) (jn : Nat) (w2 : (jj + 1).toInt = jj.toInt + 1) (q0 : 0 ≤ jj.toInt) (qm : (501 - (jj + 1).toInt).toNat < nn ∧ (jj + 1).toInt ≤ 500) (ejj : jj.toInt = jn) (gR : Rf 145 (mv_r τ2)) (gF : FM σ τ2) (g2 : MN2 r9 N9 R9 σ τ2 jn), mv_V p l e ({ frames := 6, cells := 0, slots := 0, locals := 152 }) s m ([.ref (al 64), .int n9] : List Value).toArray below meth c (mg dA D al me) 7 0 0 (mv_Q (mg dA D al me) below s 0 0 (mv_Ri (fun v σ1 => FM σ σ1 ∧ RNr r9 N9 R9 σ σ1 v))) τ2 115 [(4, .int jj), (3, .int (mv_i σ 145 9)), (2, .int (mv_i σ 145 0 / 8)), (0, .ref (al 64)), (1, .int n9)] [] := by
        intro τ2 jj jn w2 q0 qm ejj gR gF g2
        refine mv_aload_n (pc := 115) B d_Machine_many_115 rfl 3 rfl ?_
        refine mv_getI (pc := 116) (ci := 9) (C := R_Machine) (T := F_Machine) (N := 13) B 9 rfl rfl (by decide) i_Machine (B.2.2.2.1 _ k_451) rfl d_Machine_many_116 ?_
        refine mv_if_eq (pc := 119) (tgt := 125) B d_Machine_many_119 rfl (fun h119 => ?_) (fun h119 => ?_)
        · skip
          obtain ⟨R2, q2⟩ := g2.1 h119
          have go := ih τ2 (jj + 1) (jn + 1) R2 (by omega) (by omega) (by omega) gR gF q2 (by omega)
          refine mv_iinc (pc := 125) (j := 0) (v := 1) B d_Machine_many_125 rfl (by decide) (by decide) rfl ?_
          refine mv_goto (pc := 128) (tgt := 22) B d_Machine_many_128 rfl ?_
          refine mv_lpick [0, 1, 2, 3, 4] rfl ?_
          exact go
        · skip
          have hend := g2.2 h119
          rw [← nI_o2 ejj] at hend
          refine mv_iload (pc := 122) B d_Machine_many_122 0 rfl ?_
          exact mv_iret (pc := 124) B hr rfl d_Machine_many_124 (Nat.le_refl _) (Nat.le_refl _) ⟨_, rfl, gF, hend⟩
      have e8 : mv_i τ 145 = mv_i σ 145 := funext fun _ => qF.i hP
      have e2 : mv_a τ 147 = mv_a σ 147 := qF.a (P := 145) (j := 2) hP (by omega)
      have e3 : mv_a τ 148 = mv_a σ 148 := qF.a (P := 145) (j := 3) hP (by omega)
      have b0 : (mv_a τ 147 (mv_i σ 145 9).toNatClampNeg).toInt = c9 := by rw [e2]; exact hc9
      have b1 : (mv_a τ 148 (mv_i σ 145 9).toNatClampNeg).toInt = f9 := by rw [e3]; exact hf9
      have b2 : (mv_a τ 148 (mv_i τ 145 8).toNatClampNeg).toInt = f8 := by rw [e3, e8]; exact hf8
      have b3 : 0 ≤ (mv_i τ 145 8).toInt := by rw [e8]; exact ht9.1
      have b4 : (mv_i τ 145 8).toInt < th := by rw [e8]; exact ht9.2.1
      have b5 : mv_b τ 65 (mv_a τ 148 (mv_i τ 145 8).toNatClampNeg).toNatClampNeg = Rv (r9.2.1 p9.1) 0 := by
        rw [e3, e8, hp8, cln (by have := hK.1.2.2 p9.1; omega), hfs8, cln (by omega)]
        exact qM.1 _ 0 hp8t (ncT_1 _)
      have qK := KOx.fm (by decide) hK qF
      have qS := SPq.fm (by decide) hS qF
      have qO := TCq.fm hO qF hP
      have qTh := hTh.fm qF hP
      refine mv_iload (pc := 22) B d_Machine_many_22 0 rfl ?_
      refine mv_iload_n (pc := 24) B d_Machine_many_24 rfl 4 rfl ?_
      refine mv_icmp_ge (pc := 25) (tgt := 131) B d_Machine_many_25 rfl (fun h25 => ?_) (fun h25 => ?_)
      · skip
        rw [Int32.le_iff_toInt_le] at h25
        have ejN : jn = N9 := by have := qM.2.2.2.2.1; omega
        rw [ejN] at qM
        have hend := mn_end hN1 qM
        refine mv_iload_n (pc := 131) B d_Machine_many_131 rfl 4 rfl ?_
        exact mv_iret (pc := 132) B hr rfl d_Machine_many_132 (Nat.le_refl _) (Nat.le_refl _) ⟨_, rfl, qF, by rw [hN9]; exact hend⟩
      · skip
        rw [Int32.le_iff_toInt_le] at h25
        have hmx := i32_rng n9
        have w2 : (jj + 1).toInt = jj.toInt + 1 := i32_inc (by omega)
        obtain ⟨ix, eix⟩ : ∃ x, x = mv_b τ 65 (mv_a τ 148 (mv_i τ 145 8).toNatClampNeg).toNatClampNeg := ⟨_, rfl⟩
        have eir : ix = Rv (r9.2.1 p9.1) 0 := eix.trans b5
        refine mv_aload_n (pc := 28) B d_Machine_many_28 rfl 3 rfl ?_
        refine mv_getR (pc := 29) (ci := 9) (C := R_Machine) (T := F_Machine) (N := 13) B 1 rfl rfl (by decide) i_Machine (B.2.2.2.1 _ k_442) rfl (qR.1 _ 1 _ rfl) d_Machine_many_29 ?_
        refine mv_aload_n (pc := 32) B d_Machine_many_32 rfl 3 rfl ?_
        refine mv_getR (pc := 33) (ci := 9) (C := R_Machine) (T := F_Machine) (N := 13) B 0 rfl rfl (by decide) i_Machine (B.2.2.2.1 _ k_440) rfl qR.2.2 d_Machine_many_33 ?_
        refine mv_getR (pc := 36) (ci := 7) (C := R_Program) (T := F_Program) (N := 19) B 4 rfl rfl (by decide) i_Program (B.2.2.2.1 _ k_327) rfl (qR.2.1 _ 4 148 rfl) d_Machine_many_36 ?_
        refine mv_aload_n (pc := 39) B d_Machine_many_39 rfl 3 rfl ?_
        refine mv_getR (pc := 40) (ci := 9) (C := R_Machine) (T := F_Machine) (N := 13) B 0 rfl rfl (by decide) i_Machine (B.2.2.2.1 _ k_440) rfl qR.2.2 d_Machine_many_40 ?_
        refine mv_getI (pc := 43) (ci := 7) (C := R_Program) (T := F_Program) (N := 19) B 8 rfl rfl (by decide) i_Program (B.2.2.2.1 _ k_338) rfl d_Machine_many_43 ?_
        refine mv_iald (pc := 46) B rfl (i32_in b3 (by omega)) d_Machine_many_46 ?_
        refine mv_lald (pc := 47) B rfl (i32_in (by omega) (by omega)) d_Machine_many_47 ?_
        refine mv_lstore (pc := 48) B d_Machine_many_48 (by decide) rfl ?_
        rw [← eix]
        clear eix b5
        refine mv_lload (pc := 50) B d_Machine_many_50 0 rfl ?_
        refine mv_lconst (pc := 52) (v := 0) B d_Machine_many_52 (by decide) ?_
        refine mv_lcmp (pc := 53) B d_Machine_many_53 ?_
        refine mv_if_lt (pc := 54) (tgt := 75) B d_Machine_many_54 rfl (fun h54 => ?_) (fun h54 => ?_)
        · skip
          have k54 := (lg_cmp_lt _ _).mp h54
          rw [Int64.lt_iff_toInt_lt] at k54
          simp only [Int64.reduceToInt] at k54
          have hfw : fwF r9 Rv = none := by rw [fwF_e hp9, if_neg (fun q => by rw [← eir] at q; omega)]
          have hm2 := mn_out qM (by omega) hfw
          refine mv_aload_n (pc := 75) B d_Machine_many_75 rfl 4 rfl ?_
          refine mv_iconst (pc := 76) (v := -1) B d_Machine_many_76 (by decide) ?_
          refine mv_putI (pc := 77) (ci := 9) (C := R_Machine) (T := F_Machine) (N := 13) B 9 rfl rfl (by decide) i_Machine t_Machine_ok n_Machine (B.2.2.2.1 _ k_451) rfl rfl rfl rfl d_Machine_many_77 ?_
          refine mv_aload_n (pc := 80) B d_Machine_many_80 rfl 4 rfl ?_
          refine mv_dup (pc := 81) B d_Machine_many_81 rfl ?_
          refine mv_getI (pc := 82) (ci := 9) (C := R_Machine) (T := F_Machine) (N := 13) B 11 rfl rfl (by decide) i_Machine (B.2.2.2.1 _ k_455) rfl d_Machine_many_82 ?_
          refine mv_iconst (pc := 85) (v := 1) B d_Machine_many_85 (by decide) ?_
          refine mv_iadd (pc := 86) B d_Machine_many_86 ?_
          refine mv_putI (pc := 87) (ci := 9) (C := R_Machine) (T := F_Machine) (N := 13) B 11 rfl rfl (by decide) i_Machine t_Machine_ok n_Machine (B.2.2.2.1 _ k_455) rfl rfl rfl rfl d_Machine_many_87 ?_
          refine mv_goto (pc := 90) (tgt := 115) B d_Machine_many_90 rfl ?_
          refine mv_lpick [1, 2, 3, 4, 5] rfl ?_
          first | exact j115 _ _ jn w2 (by omega) (by omega) ejj (by rw [f112.2.2.2.2]; exact qR) (qF.tr f112) hm2 | exact j115 _ _ jn w2 (by omega) (by omega) ejj qR ((qF.si rfl).si rfl) hm2
        · skip
          have k54 := mt (lg_cmp_lt _ _).mpr h54
          rw [Int64.lt_iff_toInt_lt] at k54
          simp only [Int64.reduceToInt] at k54
          refine mv_lload (pc := 57) B d_Machine_many_57 0 rfl ?_
          refine mv_aload_n (pc := 59) B d_Machine_many_59 rfl 4 rfl ?_
          refine mv_getR (pc := 60) (ci := 9) (C := R_Machine) (T := F_Machine) (N := 13) B 0 rfl rfl (by decide) i_Machine (B.2.2.2.1 _ k_440) rfl qR.2.2 d_Machine_many_60 ?_
          refine mv_getR (pc := 63) (ci := 7) (C := R_Program) (T := F_Program) (N := 19) B 3 rfl rfl (by decide) i_Program (B.2.2.2.1 _ k_324) rfl (qR.2.1 _ 3 147 rfl) d_Machine_many_63 ?_
          refine mv_iload_n (pc := 66) B d_Machine_many_66 rfl 2 rfl ?_
          refine mv_iald (pc := 67) B rfl (i32_in (by omega) (by omega)) d_Machine_many_67 ?_
          refine mv_iload_n (pc := 68) B d_Machine_many_68 rfl 3 rfl ?_
          refine mv_isub (pc := 69) B d_Machine_many_69 ?_
          refine mv_topi (fun y69 ey69 => ?_)
          have fy69 := i32_subE ey69 (by (try simp only [Int32.reduceToInt]); omega) (by (try simp only [Int32.reduceToInt]); omega)
          try simp only [Int32.reduceToInt] at fy69
          refine mv_i2l (pc := 70) B d_Machine_many_70 ?_
          refine mv_lcmp (pc := 71) B d_Machine_many_71 ?_
          refine mv_if_le (pc := 72) (tgt := 93) B d_Machine_many_72 rfl (fun h72 => ?_) (fun h72 => ?_)
          · skip
            have k72 := (lg_cmp_le _ _).mp h72
            rw [Int64.le_iff_toInt_le, lg_toInt] at k72
            rw [fy69] at k72
            have k73 := l2i_nn (x := ix) (by omega) (by omega)
            have hfw : fwF r9 Rv = some (wdL (fun i => Rv (r9.2.1 p9.2) ((Rv (r9.2.1 p9.1) 0).toInt.toNat + i)) (r9.1.bits / 8) 0) := by rw [fwF_e hp9, if_pos (by rw [← eir]; omega)]
            refine mv_aload_n (pc := 93) B d_Machine_many_93 rfl 4 rfl ?_
            refine mv_aload_n (pc := 94) B d_Machine_many_94 rfl 4 rfl ?_
            refine mv_aload_n (pc := 95) B d_Machine_many_95 rfl 4 rfl ?_
            refine mv_getR (pc := 96) (ci := 9) (C := R_Machine) (T := F_Machine) (N := 13) B 0 rfl rfl (by decide) i_Machine (B.2.2.2.1 _ k_440) rfl qR.2.2 d_Machine_many_96 ?_
            refine mv_getR (pc := 99) (ci := 7) (C := R_Program) (T := F_Program) (N := 19) B 4 rfl rfl (by decide) i_Program (B.2.2.2.1 _ k_327) rfl (qR.2.1 _ 4 148 rfl) d_Machine_many_99 ?_
            refine mv_iload_n (pc := 102) B d_Machine_many_102 rfl 2 rfl ?_
            refine mv_iald (pc := 103) B rfl (i32_in (by omega) (by omega)) d_Machine_many_103 ?_
            refine mv_lload (pc := 104) B d_Machine_many_104 0 rfl ?_
            refine mv_l2i (pc := 106) B d_Machine_many_106 ?_
            refine mv_iadd (pc := 107) B d_Machine_many_107 ?_
            refine mv_topi (fun y107 ey107 => ?_)
            have fy107 := i32_addE ey107 (by (try simp only [Int32.reduceToInt]); omega) (by (try simp only [Int32.reduceToInt]); omega)
            try simp only [Int32.reduceToInt] at fy107
            refine mv_iload_n (pc := 108) B d_Machine_many_108 rfl 3 rfl ?_
            have e109 : y107 = nI (f9 + ix.toInt.toNat) := nI_o2 (by rw [fy107]; omega)
            have e110 : mv_i σ 145 0 / 8 = nI (r9.1.bits / 8) := by rw [hS.1, nId8 hS.2.2.2.2.1.1]
            have w109 := wat_e (P := 145) (h := τ) (sl := f9 + ix.toInt.toNat) (b := r9.1.bits / 8) (by omega)
            rw [← e109, ← e110] at w109
            refine mv_callVl (pc := 109) (n := 2) (ci := 9) (C := R_Machine) B (mK_ok sk sv) hNs rfl rfl (ch_Machine_wordAt_s_c l hi _ qR _ _ (by rw [s_wordAt]; exact w109)) rfl (ma_goodc kc_Machine_wordAt) (B.2.2.2.1 _ k_1797) (B.2.2.2.1 _ k_1799) (B.2.2.2.1 _ ks_78) (B.2.2.2.1 _ k_11) ⟨by decide +kernel, by decide +kernel, by decide +kernel⟩ rfl d_Machine_many_109 rfl (Nat.le_of_ble_eq_true rfl) ⟨by decide, by decide⟩ ⟨by decide, by decide⟩ ⟨by decide, by decide⟩ (mv_noH hno _) (fun v109 σ109 h109 => ?_)
            obtain ⟨z109, y109, -⟩ := h109
            subst y109
            refine mv_callVv (pc := 112) (n := 1) (ci := 9) (C := R_Machine) B (mK_ok sk sv) hNs rfl rfl (c_kq_Machine_oneWith_c l hi _ _ qR r9 Rv qK qS qO th sl qTh qM.1 hL9 hU) rfl (ma_goodc kc_Machine_oneWith) (B.2.2.2.1 _ k_1801) (B.2.2.2.1 _ k_1573) (B.2.2.2.1 _ k_1574) (B.2.2.2.1 _ k_11) ⟨by decide +kernel, by decide +kernel, by decide +kernel⟩ rfl d_Machine_many_112 rfl (Nat.le_of_ble_eq_true rfl) ⟨by decide, by decide⟩ ⟨by decide, by decide⟩ ⟨by decide, by decide⟩ (mv_noH hno _) (fun σ112 h112 => ?_)
            obtain ⟨f112, o112⟩ := h112
            have ew : v109 = wdL (fun i => Rv (r9.2.1 p9.2) ((Rv (r9.2.1 p9.1) 0).toInt.toNat + i)) (r9.1.bits / 8) 0 := by
              rw [← z109]
              refine wdL_c _ _ (fun i hi => ?_)
              show mv_b τ 65 (f9 + ix.toInt.toNat + i) = _
              rw [← eir, hfs9, Nat.add_assoc]
              refine qM.1 _ _ hp9t ?_
              unfold ncT
              rw [← hc99, if_neg (by omega)]
              omega
            rw [ew] at o112
            have hm2 := mn_stp qM (by omega) (by omega) hfw o112
            refine mv_lpick [1, 2, 3, 4, 5] rfl ?_
            first | exact j115 _ _ jn w2 (by omega) (by omega) ejj (by rw [f112.2.2.2.2]; exact qR) (qF.tr f112) hm2 | exact j115 _ _ jn w2 (by omega) (by omega) ejj qR ((qF.si rfl).si rfl) hm2
          · skip
            have k72 := mt (lg_cmp_le _ _).mpr h72
            rw [Int64.le_iff_toInt_le, lg_toInt] at k72
            rw [fy69] at k72
            have hfw : fwF r9 Rv = none := by rw [fwF_e hp9, if_neg (fun q => by rw [← eir] at q; omega)]
            have hm2 := mn_out qM (by omega) hfw
            refine mv_aload_n (pc := 75) B d_Machine_many_75 rfl 4 rfl ?_
            refine mv_iconst (pc := 76) (v := -1) B d_Machine_many_76 (by decide) ?_
            refine mv_putI (pc := 77) (ci := 9) (C := R_Machine) (T := F_Machine) (N := 13) B 9 rfl rfl (by decide) i_Machine t_Machine_ok n_Machine (B.2.2.2.1 _ k_451) rfl rfl rfl rfl d_Machine_many_77 ?_
            refine mv_aload_n (pc := 80) B d_Machine_many_80 rfl 4 rfl ?_
            refine mv_dup (pc := 81) B d_Machine_many_81 rfl ?_
            refine mv_getI (pc := 82) (ci := 9) (C := R_Machine) (T := F_Machine) (N := 13) B 11 rfl rfl (by decide) i_Machine (B.2.2.2.1 _ k_455) rfl d_Machine_many_82 ?_
            refine mv_iconst (pc := 85) (v := 1) B d_Machine_many_85 (by decide) ?_
            refine mv_iadd (pc := 86) B d_Machine_many_86 ?_
            refine mv_putI (pc := 87) (ci := 9) (C := R_Machine) (T := F_Machine) (N := 13) B 11 rfl rfl (by decide) i_Machine t_Machine_ok n_Machine (B.2.2.2.1 _ k_455) rfl rfl rfl rfl d_Machine_many_87 ?_
            refine mv_goto (pc := 90) (tgt := 115) B d_Machine_many_90 rfl ?_
            refine mv_lpick [1, 2, 3, 4, 5] rfl ?_
            first | exact j115 _ _ jn w2 (by omega) (by omega) ejj (by rw [f112.2.2.2.2]; exact qR) (qF.tr f112) hm2 | exact j115 _ _ jn w2 (by omega) (by omega) ejj qR ((qF.si rfl).si rfl) hm2
  refine mv_aload_n (pc := 0) B d_Machine_many_0 rfl 0 rfl ?_
  refine mv_getR (pc := 1) (ci := 9) (C := R_Machine) (T := F_Machine) (N := 13) B 0 rfl rfl (by decide) i_Machine (B.2.2.2.1 _ k_440) rfl hR.2.2 d_Machine_many_1 ?_
  refine mv_getI (pc := 4) (ci := 7) (C := R_Program) (T := F_Program) (N := 19) B 0 rfl rfl (by decide) i_Program (B.2.2.2.1 _ k_312) rfl d_Machine_many_4 ?_
  refine mv_bipush (pc := 7) (v := 8) B d_Machine_many_7 (by decide) ?_
  refine mv_idiv (pc := 9) B d_Machine_many_9 (by decide) ?_
  refine mv_istore_n (pc := 10) B d_Machine_many_10 rfl (by decide) rfl ?_
  refine mv_aload_n (pc := 11) B d_Machine_many_11 rfl 1 rfl ?_
  refine mv_getR (pc := 12) (ci := 9) (C := R_Machine) (T := F_Machine) (N := 13) B 0 rfl rfl (by decide) i_Machine (B.2.2.2.1 _ k_440) rfl hR.2.2 d_Machine_many_12 ?_
  refine mv_getI (pc := 15) (ci := 7) (C := R_Program) (T := F_Program) (N := 19) B 9 rfl rfl (by decide) i_Program (B.2.2.2.1 _ k_341) rfl d_Machine_many_15 ?_
  refine mv_istore_n (pc := 18) B d_Machine_many_18 rfl (by decide) rfl ?_
  refine mv_iconst (pc := 19) (v := 0) B d_Machine_many_19 (by decide) ?_
  refine mv_istore (pc := 20) B d_Machine_many_20 (by decide) rfl ?_
  refine mv_lpick [0, 1, 2, 3, 4] rfl ?_
  exact lp _ _ _ 0 R9 (by decide) (by decide) rfl hR FM0 (mn_0 hV) (Nat.lt_succ_self _)
