/-! the reference's Book: things, fetch, ops -/
theorem ZT.thing0 {B len th n k cb d b1 b2 : Nat} {σ S T : mv_H} {x y w f z c : Int32} (h : ZT B len σ S th n k cb d b1 b2) (hth : th < 64) (hx : Sp len x y) (hc : 0 ≤ c.toInt) (hfc : (mv_i S B 38).toInt ≤ 0 → ¬ f = 0 → 1 ≤ c.toInt) (hv : c.toInt = 0 ∨ (¬ (mv_i S B 38).toInt ≤ 0)) (eT : T = mv_si (nt9 B S x y w f z c) B 17 (mv_i S B 17 + 1)) : ZT B len σ T (th + 1) n k cb d b1 b2 :=
  h.thing (v := mv_i S B 19) (x := x) (y := y) (w := w) (f := f) (z := z) (c := c) hth hx hc hfc (hv.imp (fun q => by omega) id) h.C.2.2.2.2.2.2.1 (eT.trans (by rw [show mv_si (nt9 B S x y w f z c) B 19 (mv_i S B 19) = nt9 B S x y w f z c from mv_si_self (nt9 B S x y w f z c) B 19]))
/-- what the words between items do not speak of -/
def KF (B k : Nat) : mv_H → mv_H → Prop := Fx (fun o j => (o = B ∧ ((3 ≤ j ∧ j ≤ 8) ∨ j = 22 ∨ j = 30 ∨ (35 ≤ j ∧ j ≤ 38) ∨ j = 49 ∨ j = 50)) ∨ (o = B + 33 ∧ j = 0)) (fun o j => o = B ∧ j = 9) (fun o j => ((8 + B ≤ o ∧ o ≤ B + 11) ∧ k ≤ j) ∨ (B + 12 ≤ o ∧ o ≤ B + 17)) (fun _ => False)
theorem KF.bf {B k : Nat} {σ τ : mv_H} (h : KF B k σ τ) : BF B σ τ := h.up (fun o k z => by omega) (fun o k z => by omega) (fun o k z => by omega) (fun o z => absurd z id)
theorem HF.kf {B k : Nat} {σ τ : mv_H} (h : HF B σ τ) : KF B k σ τ := h.up (fun o k z => by omega) (fun o k z => z) (fun o k z => absurd z id) (fun o z => z)
theorem IC.kf {B len th n k cb : Nat} {S T : mv_H} (h : IC B len S th n k cb) (f : KF B k S T) (z : (mv_i T B 38).toInt ≤ 0 → (mv_i S B 38).toInt ≤ 0) : IC B len T th n k cb := by
  have ea : ∀ o j, ¬ (((8 + B ≤ o ∧ o ≤ B + 11) ∧ k ≤ j) ∨ (B + 12 ≤ o ∧ o ≤ B + 17)) → mv_a T o j = mv_a S o j := fun o j q => f.2.2.2.1 o j q
  have ei : ∀ k, (k = 17 ∨ k = 18 ∨ k = 19 ∨ k = 20 ∨ k = 21 ∨ k = 29 ∨ k = 48 ∨ k = 51) → mv_i T B k = mv_i S B k := fun k hk => f.1 _ _ (by omega)
  obtain ⟨h1, h2, h3, h4, h5, h6, h7, h8, h9⟩ := h
  refine ⟨h1.fr (ei 17 (by omega)) (fun t _ => ⟨ea _ _ (by omega), ea _ _ (by omega)⟩), by rw [ei 17 (by omega)]; exact h2, by rw [ei 48 (by omega)]; exact h3, by rw [ei 29 (by omega)]; exact h4, by rw [ei 51 (by omega)]; exact h5, fun i hi => by rw [ea _ _ (by omega), ea _ _ (by omega)]; exact h6 i hi, by rw [ei 19 (by omega)]; exact h7, by rw [ei 18 (by omega), ei 21 (by omega)]; exact h8, fun q => ?_⟩
  obtain ⟨k1, k2, k3, k4, k5⟩ := h9 (z q)
  refine ⟨k1.fr (Nat.le_refl _) (fun o j _ _ _ => ea o j (by omega)) (fun j _ => ea _ _ (by omega)), by rw [ei 20 (by omega)]; exact k2, fun i hi => by rw [ea _ _ (by omega), ei 20 (by omega)]; exact k3 i hi, by rw [csum_con (g := mv_a S (B + 4)) th (fun i _ => ea _ _ (by omega)), ei 19 (by omega)]; exact k4, fun t ht => (k5 t ht).fr (ea _ _ (by omega)) (ea _ _ (by omega))⟩
section ZTY
variable {B len th n k cb d b1 b2 : Nat} {σ S T : mv_H}
theorem ZT.kf (h : ZT B len σ S th n k cb d b1 b2) (f : KF B k S T) (e : ∀ j, 2 ≤ j → j ≤ 8 → mv_i T B j = mv_i S B j) (z : (mv_i T B 38).toInt ≤ 0 → (mv_i S B 38).toInt ≤ 0) : ZT B len σ T th n k cb d b1 b2 := by
  obtain ⟨h1, h2, h3, h4, h5, h6, h7⟩ := h
  exact ⟨h1.keep (fun k a b => e k a (by omega)) f.2.2.1, by rw [e 8 (by omega) (by omega)]; exact h2, h3, h4, h5, h6.kf f z, h7.tr f.bf⟩
theorem ZT.i (h : ZT B len σ S th n k cb d b1 b2) {j : Nat} {v : Int32} (hj : j = 22 ∨ j = 30 ∨ j = 35 ∨ j = 36) : ZT B len σ (mv_si S B j v) th n k cb d b1 b2 := h.kf (Fx.rf.si (by omega)) (fun i a b => mv_si_o _ _ (by omega)) (fun z => by rw [mv_si_o _ _ (by omega)] at z; exact z)
theorem ZT.a (h : ZT B len σ S th n k cb d b1 b2) {o j : Nat} {v : Int32} (hj : ((8 + B ≤ o ∧ o ≤ B + 11) ∧ k ≤ j) ∨ (B + 12 ≤ o ∧ o ≤ B + 17)) : ZT B len σ (mv_sa S o j v) th n k cb d b1 b2 := h.kf (Fx.rf.sa hj) (fun _ _ _ => rfl) (fun z => z)
theorem ZT.re (h : ZT B len σ S th n k cb d b1 b2) : ZT B len S S th n k cb d b1 b2 := ⟨h.1, h.2.1, h.2.2.1, h.2.2.2.1, h.2.2.2.2.1, h.2.2.2.2.2.1, BF.rf⟩
theorem ZT.tr {th' n' k' cb' d' c1 c2 : Nat} (h : ZT B len σ S th n k cb d b1 b2) (g : ZT B len S T th' n' k' cb' d' c1 c2) : ZT B len σ T th' n' k' cb' d' c1 c2 := ⟨g.1, g.2.1, g.2.2.1, g.2.2.2.1, g.2.2.2.2.1, g.2.2.2.2.2.1, h.2.2.2.2.2.2.tr g.2.2.2.2.2.2⟩
theorem ZT.fetch {r f : Int32} (h : ZT B len σ S th n k cb d b1 b2) (hr : 0 ≤ r.toInt ∧ r.toInt < th) (hf : 0 ≤ f.toInt ∧ f.toInt < th) : ZT B len σ (mv_si (mv_si S B 18 r) B 21 f) th n k cb d b1 b2 := by
  obtain ⟨g1, g2, g3, g4, g5, ⟨h1, h2, h3, h4, h5, h6, h7, h8, h9⟩, g7⟩ := h
  have ei : ∀ o k, ¬ (o = B ∧ (k = 18 ∨ k = 21)) → mv_i (mv_si (mv_si S B 18 r) B 21 f) o k = mv_i S o k := fun o k hk => (mv_si_o _ _ (by omega)).trans (mv_si_o _ _ (by omega))
  have e18 : mv_i (mv_si (mv_si S B 18 r) B 21 f) B 18 = r := (mv_si_o _ _ (by omega)).trans (mv_si_s _ _ _ _)
  have e21 : mv_i (mv_si (mv_si S B 18 r) B 21 f) B 21 = f := mv_si_s _ _ _ _
  refine ⟨g1.keep (fun k a b => ei _ _ (by omega)) rfl, by rw [ei _ _ (by omega)]; exact g2, g3, g4, g5, ⟨h1.fr (ei _ _ (by omega)) (fun _ _ => ⟨rfl, rfl⟩), by rw [ei _ _ (by omega)]; exact h2, by rw [ei _ _ (by omega)]; exact h3, by rw [ei _ _ (by omega)]; exact h4, by rw [ei _ _ (by omega)]; exact h5, h6, by rw [ei _ _ (by omega)]; exact h7, Or.inr (by rw [e18, e21]; exact ⟨hr, hf⟩), fun q => ?_⟩, g7.tr ⟨fun o k q => ei o k (by omega), fun _ _ _ => rfl, rfl, fun _ _ _ => rfl, fun _ _ => rfl⟩⟩
  rw [ei _ _ (by omega)] at q
  obtain ⟨k1, k2, k3, k4, k5⟩ := h9 q
  exact ⟨k1, by rw [ei _ _ (by omega)]; exact k2, fun i hi => by rw [ei _ _ (by omega)]; exact k3 i hi, by rw [ei _ _ (by omega)]; exact k4, k5⟩
end ZTY
/-- the rows of ops behind a block: body, name -/
def op9 (B : Nat) (T : mv_H) (k : Nat) (v x y : Int32) : mv_H := mv_sa (mv_sa (mv_sa T (B + 11) k v) (B + 8) k x) (B + 9) k y
theorem op9_a {B k : Nat} {T : mv_H} {v x y : Int32} {o j : Nat} (h : ¬ ((o = B + 8 ∨ o = B + 9 ∨ o = B + 11) ∧ j = k)) : mv_a (op9 B T k v x y) o j = mv_a T o j := by
  unfold op9
  show mv_u (mv_u (mv_u _ _ _ _) _ _ _) _ _ _ o j = _
  rw [mv_u_ne _ _ (by omega), mv_u_ne _ _ (by omega), mv_u_ne _ _ (by omega)]
theorem op9_v {B k : Nat} {T : mv_H} {v x y : Int32} : mv_a (op9 B T k v x y) (B + 11) k = v ∧ mv_a (op9 B T k v x y) (B + 8) k = x ∧ mv_a (op9 B T k v x y) (B + 9) k = y := by
  unfold op9
  refine ⟨?_, ?_, ?_⟩
  · show mv_u (mv_u (mv_u _ _ _ _) _ _ _) _ _ _ _ _ = _
    rw [mv_u_ne _ _ (by omega), mv_u_ne _ _ (by omega), mv_u_same]
  · show mv_u (mv_u (mv_u _ _ _ _) _ _ _) _ _ _ _ _ = _
    rw [mv_u_ne _ _ (by omega), mv_u_same]
  · show mv_u (mv_u (mv_u _ _ _ _) _ _ _) _ _ _ _ _ = _
    rw [mv_u_same]
/-- an op is known already: its block is read -/
theorem ZT.known {B len th n k cb b1 b2 q' e' n' c1 c2 : Nat} {σ S T : mv_H} {v x y : Int32} (h : ZT B len σ S th n k cb 0 b1 b2) (g : YS B len th S 0 0 n b1 T q' e' 0 n' c1 c2) (hz : ¬ (mv_i S B 38).toInt ≤ 0) : ZT B len σ (op9 B T k v x y) th n' k cb 0 c1 c2 := by
  obtain ⟨g1, g2, g3, g4, g5, ⟨h1, h2, h3, h4, h5, h6, h7, h8, h9⟩, g7⟩ := h
  obtain ⟨⟨⟨p1, p2, p3, p4, p5, p6⟩, -⟩, f, -, -, -, j9, j10, j11⟩ := g
  have ei : ∀ j, (j = 17 ∨ j = 18 ∨ j = 19 ∨ j = 20 ∨ j = 21 ∨ j = 29 ∨ j = 51) → mv_i T B j = mv_i S B j := fun j hj => f.1 _ _ (by omega)
  refine ⟨p1.keep (fun _ _ _ => rfl) rfl, p2, p4, by omega, by omega, ⟨p6.1.fr rfl (fun t _ => ⟨op9_a (by omega), op9_a (by omega)⟩), p5, p3, by rw [show mv_i (op9 B T k v x y) B 29 = mv_i T B 29 from rfl, ei 29 (by omega)]; exact h4, by rw [show mv_i (op9 B T k v x y) B 51 = mv_i T B 51 from rfl, ei 51 (by omega)]; exact h5, fun i hi => ?_, by rw [show mv_i (op9 B T k v x y) B 19 = mv_i T B 19 from rfl, ei 19 (by omega)]; exact h7, by rw [show mv_i (op9 B T k v x y) B 18 = mv_i T B 18 from rfl, show mv_i (op9 B T k v x y) B 21 = mv_i T B 21 from rfl, ei 18 (by omega), ei 21 (by omega)]; exact h8, fun q => absurd (j11 q) hz⟩, g7.tr (f.bf.tr ⟨fun _ _ _ => rfl, fun _ _ _ => rfl, rfl, fun o j q => op9_a (by omega), fun _ _ => rfl⟩)⟩
  rw [op9_a (by omega), op9_a (by omega), f.2.2.2.1 _ _ (by omega), f.2.2.2.1 _ _ (by omega)]
  exact h6 i hi
/-- a new op -/
theorem ZT.op {B len th n k cb b1 b2 q' e' n' c1 c2 ce : Nat} {σ S T : mv_H} {v x y : Int32} (h : ZT B len σ S th n k cb 0 b1 b2) (g : YS B len th S 0 0 n b1 T q' e' 0 n' c1 c2) (hb : (mv_i T B 38).toInt ≤ 0 → BR B th T n n' 61 v.toInt) (hxy : Sp len x y) (hk : 3 * (k + 1) ≤ c1) (hce : (mv_i S B 30).toInt = ce) (hc1 : cb ≤ ce) (hc2 : ce ≤ c1) (hca : (mv_a S (B + 10) k).toInt = cb) (hln : (mv_i S B 38).toInt ≤ 0 → (cb : Int) + (mv_i S B 20).toInt = ce) :
    ZT B len σ (mv_si (mv_si (op9 B T k v x y) B 51 (mv_i T B 30)) B 29 (mv_i T B 29 + 1)) th n' (k + 1) ce 0 c1 c2 := by
  obtain ⟨g1, g2, g3, g4, g5, ⟨h1, h2, h3, h4, h5, h6, h7, h8, h9⟩, g7⟩ := h
  obtain ⟨⟨⟨p1, p2, p3, p4, p5, p6⟩, -⟩, f, -, -, -, j9, j10, j11⟩ := g
  have hle := p1.1.2.2.2.2
  have h11 := p1.2.2.1
  have ei : ∀ j, (j = 17 ∨ j = 18 ∨ j = 19 ∨ j = 20 ∨ j = 21 ∨ j = 29 ∨ j = 30 ∨ j = 51) → mv_i T B j = mv_i S B j := fun j hj => f.1 _ _ (by omega)
  have eU : ∀ o j, ¬ (o = B ∧ (j = 51 ∨ j = 29)) → mv_i (mv_si (mv_si (op9 B T k v x y) B 51 (mv_i T B 30)) B 29 (mv_i T B 29 + 1)) o j = mv_i T o j := fun o j hj => (mv_si_o _ _ (by omega)).trans (mv_si_o _ _ (by omega))
  have e29 : mv_i (mv_si (mv_si (op9 B T k v x y) B 51 (mv_i T B 30)) B 29 (mv_i T B 29 + 1)) B 29 = mv_i T B 29 + 1 := mv_si_s _ _ _ _
  have e51 : mv_i (mv_si (mv_si (op9 B T k v x y) B 51 (mv_i T B 30)) B 29 (mv_i T B 29 + 1)) B 51 = mv_i T B 30 := (mv_si_o _ _ (by omega)).trans (mv_si_s _ _ _ _)
  have ev := op9_v (B := B) (k := k) (T := T) (v := v) (x := x) (y := y)
  have ea : ∀ o j, ¬ ((o = B + 8 ∨ o = B + 9 ∨ o = B + 11) ∧ j = k) → mv_a (mv_si (mv_si (op9 B T k v x y) B 51 (mv_i T B 30)) B 29 (mv_i T B 29 + 1)) o j = mv_a T o j := fun o j q => op9_a q
  have eS : ∀ o j, ¬ (((B + 18 ≤ o ∧ o ≤ B + 25) ∧ n ≤ j) ∨ ((B + 14 ≤ o ∧ o ≤ B + 17) ∧ 0 ≤ j)) → mv_a T o j = mv_a S o j := fun o j q => f.2.2.2.1 o j q
  refine ⟨p1.keep (fun j a b => eU _ _ (by omega)) rfl, by rw [eU _ _ (by omega)]; exact p2, p4, hk, hc2, ⟨p6.1.fr (eU _ _ (by omega)) (fun t _ => ⟨ea _ _ (by omega), ea _ _ (by omega)⟩), by rw [eU _ _ (by omega)]; exact p5, by rw [eU _ _ (by omega)]; exact p3, by rw [e29, ei 29 (by omega), i32_inc (by omega)]; omega, by rw [e51, ei 30 (by omega)]; exact hce, fun i hi => ?_, by rw [eU _ _ (by omega), ei 19 (by omega)]; exact h7, by rw [eU _ _ (by omega), eU _ _ (by omega), ei 18 (by omega), ei 21 (by omega)]; exact h8, fun q => ?_⟩, g7.tr (f.bf.tr ⟨fun o j q => eU o j (by omega), fun _ _ _ => rfl, rfl, fun o j q => ea o j (by omega), fun _ _ => rfl⟩)⟩
  · by_cases z : i = k
    · subst z
      rw [show mv_a (mv_si (mv_si (op9 B T i v x y) B 51 (mv_i T B 30)) B 29 (mv_i T B 29 + 1)) (B + 8) i = x from ev.2.1, show mv_a (mv_si (mv_si (op9 B T i v x y) B 51 (mv_i T B 30)) B 29 (mv_i T B 29 + 1)) (B + 9) i = y from ev.2.2]
      exact hxy
    · rw [ea _ _ (by omega), ea _ _ (by omega), eS _ _ (by omega), eS _ _ (by omega)]
      exact h6 i (by omega)
  · rw [eU _ _ (by omega)] at q
    have hb9 := hb q
    obtain ⟨k1, k2, k3, k4, k5⟩ := h9 (j11 q)
    have hl9 := hln (j11 q)
    refine ⟨k1.op j9 (fun o j a b c => (ea o j (by omega)).trans (eS o j (by omega))) (fun j hj => (ea _ j (by omega)).trans (eS _ j (by omega))) (show _ = v from ev.1) (hb9.fr (fun o j a b c d => ea o j (by omega))), by rw [eU _ _ (by omega), ei 20 (by omega)]; exact k2, fun i hi => ?_, ?_, fun t ht => ?_⟩
    · rw [ea _ _ (by omega), eS _ _ (by omega), eU _ _ (by omega), ei 20 (by omega)]
      by_cases z : i = k
      · subst z
        rw [hca]
        omega
      · have := k3 i (by omega)
        omega
    · rw [csum_con (g := mv_a S (B + 4)) th (fun i _ => (ea _ _ (by omega)).trans (eS _ _ (by omega))), eU _ _ (by omega), ei 19 (by omega)]
      exact k4
    · exact (k5 t ht).fr ((ea _ _ (by omega)).trans (eS _ _ (by omega))) ((ea _ _ (by omega)).trans (eS _ _ (by omega)))
/-- before a block: nothing let -/
theorem ZT.ss {B len th n k cb b1 b2 : Nat} {σ S : mv_H} (h : ZT B len σ S th n k cb 0 b1 b2) (hc : (mv_a S (B + 10) k).toInt = cb) (he : (mv_i S B 30).toInt ≤ 32768) (h35 : mv_i S B 35 = 0) (h36 : mv_i S B 36 = 0) : SS B len th 0 0 0 n b1 b2 S := by
  obtain ⟨g1, g2, g3, g4, g5, ⟨h1, h2, h3, h4, h5, h6, h7, h8, h9⟩, g7⟩ := h
  have hle := g1.1.2.2.2.2
  have h11 := g1.2.2.1
  have hcl : (mv_i S B 29).toNatClampNeg = k := by have := i32_cl (x := mv_i S B 29) (by omega); omega
  have e35 : (mv_i S B 35).toInt = 0 := by rw [h35]; rfl
  have e36 : (mv_i S B 36).toInt = 0 := by rw [h36]; rfl
  exact ⟨⟨g1, g2, h3, g3, h2, h1, ⟨by omega, by omega, fun t ht => by omega⟩, ⟨by omega, by omega, by rw [hcl, hc]; omega, he⟩⟩, e35, e36, Nat.le_refl _, by omega⟩

def y_Book_newThing : MethodName := ⟨"MachineLoomModel$Book", "newThing", "(Z)V"⟩
abbrev b_Book_newThing : ByteArray := prog_15_method_44_code
theorem kc_Book_newThing : Cond.code y_Book_newThing b_Book_newThing 7 (Option.none : Option Jvm.ClassFile.FieldType) ∈ ma := ma_of (tb_10 _ (List.mem_of_getElem? (i := 33) rfl)) rfl
theorem k_1859 : (Jvm.Cond.fieldLink "MachineLoomModel$Book" (36 : Nat) "MachineLoomModel$Book" "thingZero" "[Z") ∈ ma := ma_of (tb_8 _ (List.mem_of_getElem? (i := 179) rfl)) rfl
theorem k_1856 : (Jvm.Cond.fieldLink "MachineLoomModel$Book" (26 : Nat) "MachineLoomModel$Book" "thingCells" "[I") ∈ ma := ma_of (tb_8 _ (List.mem_of_getElem? (i := 176) rfl)) rfl
theorem k_1864 : (Jvm.Cond.fieldLink "MachineLoomModel$Book" (367 : Nat) "MachineLoomModel$Book" "cells" "I") ∈ ma := ma_of (tb_8 _ (List.mem_of_getElem? (i := 184) rfl)) rfl
theorem k_1842 : (Jvm.Cond.constant "MachineLoomModel$Book" (113 : Nat) (65536 : Int32)) ∈ ma := ma_of (tb_8 _ (List.mem_of_getElem? (i := 162) rfl)) rfl
theorem k_2210 : (Jvm.Cond.constantLong "MachineLoomModel$Book" (363 : Nat) (65536 : Int64)) ∈ ma := ma_of (tb_10 _ (List.mem_of_getElem? (i := 50) rfl)) rfl
theorem d_Book_newThing_0 : decode b_Book_newThing 0 = .ok (.aload_n 0, 1) := by decide +kernel
theorem d_Book_newThing_1 : decode b_Book_newThing 1 = .ok (.invokevirtual 203, 3) := by decide +kernel
theorem d_Book_newThing_4 : decode b_Book_newThing 4 = .ok (.aload_n 0, 1) := by decide +kernel
theorem d_Book_newThing_5 : decode b_Book_newThing 5 = .ok (.invokevirtual 356, 3) := by decide +kernel
theorem d_Book_newThing_8 : decode b_Book_newThing 8 = .ok (.aload_n 0, 1) := by decide +kernel
theorem d_Book_newThing_9 : decode b_Book_newThing 9 = .ok (.getfield 350, 3) := by decide +kernel
theorem d_Book_newThing_12 : decode b_Book_newThing 12 = .ok (.istore_n 2, 1) := by decide +kernel
theorem d_Book_newThing_13 : decode b_Book_newThing 13 = .ok (.aload_n 0, 1) := by decide +kernel
theorem d_Book_newThing_14 : decode b_Book_newThing 14 = .ok (.getfield 353, 3) := by decide +kernel
theorem d_Book_newThing_17 : decode b_Book_newThing 17 = .ok (.istore_n 3, 1) := by decide +kernel
theorem d_Book_newThing_18 : decode b_Book_newThing 18 = .ok (.aload_n 0, 1) := by decide +kernel
theorem d_Book_newThing_19 : decode b_Book_newThing 19 = .ok (.bipush 58, 2) := by decide +kernel
theorem d_Book_newThing_21 : decode b_Book_newThing 21 = .ok (.invokevirtual 259, 3) := by decide +kernel
theorem d_Book_newThing_24 : decode b_Book_newThing 24 = .ok (.aload_n 0, 1) := by decide +kernel
theorem d_Book_newThing_25 : decode b_Book_newThing 25 = .ok (.lconst 1, 1) := by decide +kernel
theorem d_Book_newThing_26 : decode b_Book_newThing 26 = .ok (.ldc2_w 306, 3) := by decide +kernel
theorem d_Book_newThing_29 : decode b_Book_newThing 29 = .ok (.invokevirtual 359, 3) := by decide +kernel
theorem d_Book_newThing_32 : decode b_Book_newThing 32 = .ok (.istore 4, 2) := by decide +kernel
theorem d_Book_newThing_34 : decode b_Book_newThing 34 = .ok (.iconst 0, 1) := by decide +kernel
theorem d_Book_newThing_35 : decode b_Book_newThing 35 = .ok (.istore 5, 2) := by decide +kernel
theorem d_Book_newThing_37 : decode b_Book_newThing 37 = .ok (.iconst 0, 1) := by decide +kernel
theorem d_Book_newThing_38 : decode b_Book_newThing 38 = .ok (.istore 6, 2) := by decide +kernel
theorem d_Book_newThing_40 : decode b_Book_newThing 40 = .ok (.iload_n 1, 1) := by decide +kernel
theorem d_Book_newThing_41 : decode b_Book_newThing 41 = .ok (.ifCond .eq (63), 3) := by decide +kernel
theorem d_Book_newThing_44 : decode b_Book_newThing 44 = .ok (.aload_n 0, 1) := by decide +kernel
theorem d_Book_newThing_45 : decode b_Book_newThing 45 = .ok (.bipush 91, 2) := by decide +kernel
theorem d_Book_newThing_47 : decode b_Book_newThing 47 = .ok (.invokevirtual 259, 3) := by decide +kernel
theorem d_Book_newThing_50 : decode b_Book_newThing 50 = .ok (.aload_n 0, 1) := by decide +kernel
theorem d_Book_newThing_51 : decode b_Book_newThing 51 = .ok (.dup, 1) := by decide +kernel
theorem d_Book_newThing_52 : decode b_Book_newThing 52 = .ok (.getfield 197, 3) := by decide +kernel
theorem d_Book_newThing_55 : decode b_Book_newThing 55 = .ok (.iconst 1, 1) := by decide +kernel
theorem d_Book_newThing_56 : decode b_Book_newThing 56 = .ok (.iadd, 1) := by decide +kernel
theorem d_Book_newThing_57 : decode b_Book_newThing 57 = .ok (.putfield 197, 3) := by decide +kernel
theorem d_Book_newThing_60 : decode b_Book_newThing 60 = .ok (.aload_n 0, 1) := by decide +kernel
theorem d_Book_newThing_61 : decode b_Book_newThing 61 = .ok (.lconst 1, 1) := by decide +kernel
theorem d_Book_newThing_62 : decode b_Book_newThing 62 = .ok (.ldc2_w 363, 3) := by decide +kernel
theorem d_Book_newThing_65 : decode b_Book_newThing 65 = .ok (.invokevirtual 359, 3) := by decide +kernel
theorem d_Book_newThing_68 : decode b_Book_newThing 68 = .ok (.istore 5, 2) := by decide +kernel
theorem d_Book_newThing_70 : decode b_Book_newThing 70 = .ok (.aload_n 0, 1) := by decide +kernel
theorem d_Book_newThing_71 : decode b_Book_newThing 71 = .ok (.bipush 93, 2) := by decide +kernel
theorem d_Book_newThing_73 : decode b_Book_newThing 73 = .ok (.invokevirtual 259, 3) := by decide +kernel
theorem d_Book_newThing_76 : decode b_Book_newThing 76 = .ok (.aload_n 0, 1) := by decide +kernel
theorem d_Book_newThing_77 : decode b_Book_newThing 77 = .ok (.dup, 1) := by decide +kernel
theorem d_Book_newThing_78 : decode b_Book_newThing 78 = .ok (.getfield 197, 3) := by decide +kernel
theorem d_Book_newThing_81 : decode b_Book_newThing 81 = .ok (.iconst 1, 1) := by decide +kernel
theorem d_Book_newThing_82 : decode b_Book_newThing 82 = .ok (.isub, 1) := by decide +kernel
theorem d_Book_newThing_83 : decode b_Book_newThing 83 = .ok (.putfield 197, 3) := by decide +kernel
theorem d_Book_newThing_86 : decode b_Book_newThing 86 = .ok (.aload_n 0, 1) := by decide +kernel
theorem d_Book_newThing_87 : decode b_Book_newThing 87 = .ok (.ldc_w 365, 3) := by decide +kernel
theorem d_Book_newThing_90 : decode b_Book_newThing 90 = .ok (.invokevirtual 219, 3) := by decide +kernel
theorem d_Book_newThing_93 : decode b_Book_newThing 93 = .ok (.istore 6, 2) := by decide +kernel
theorem d_Book_newThing_95 : decode b_Book_newThing 95 = .ok (.iload 6, 2) := by decide +kernel
theorem d_Book_newThing_97 : decode b_Book_newThing 97 = .ok (.ifCond .eq (7), 3) := by decide +kernel
theorem d_Book_newThing_100 : decode b_Book_newThing 100 = .ok (.aload_n 0, 1) := by decide +kernel
theorem d_Book_newThing_101 : decode b_Book_newThing 101 = .ok (.invokevirtual 203, 3) := by decide +kernel
theorem d_Book_newThing_104 : decode b_Book_newThing 104 = .ok (.aload_n 0, 1) := by decide +kernel
theorem d_Book_newThing_105 : decode b_Book_newThing 105 = .ok (.bipush 59, 2) := by decide +kernel
theorem d_Book_newThing_107 : decode b_Book_newThing 107 = .ok (.invokevirtual 259, 3) := by decide +kernel
theorem d_Book_newThing_110 : decode b_Book_newThing 110 = .ok (.aload_n 0, 1) := by decide +kernel
theorem d_Book_newThing_111 : decode b_Book_newThing 111 = .ok (.iload_n 2, 1) := by decide +kernel
theorem d_Book_newThing_112 : decode b_Book_newThing 112 = .ok (.iload_n 3, 1) := by decide +kernel
theorem d_Book_newThing_113 : decode b_Book_newThing 113 = .ok (.invokevirtual 315, 3) := by decide +kernel
theorem d_Book_newThing_116 : decode b_Book_newThing 116 = .ok (.ifCond .lt (10), 3) := by decide +kernel
theorem d_Book_newThing_119 : decode b_Book_newThing 119 = .ok (.aload_n 0, 1) := by decide +kernel
theorem d_Book_newThing_120 : decode b_Book_newThing 120 = .ok (.iconst 2, 1) := by decide +kernel
theorem d_Book_newThing_121 : decode b_Book_newThing 121 = .ok (.iload_n 2, 1) := by decide +kernel
theorem d_Book_newThing_122 : decode b_Book_newThing 122 = .ok (.invokevirtual 267, 3) := by decide +kernel
theorem d_Book_newThing_125 : decode b_Book_newThing 125 = .ok (.return_, 1) := by decide +kernel
theorem d_Book_newThing_126 : decode b_Book_newThing 126 = .ok (.aload_n 0, 1) := by decide +kernel
theorem d_Book_newThing_127 : decode b_Book_newThing 127 = .ok (.getfield 231, 3) := by decide +kernel
theorem d_Book_newThing_130 : decode b_Book_newThing 130 = .ok (.bipush 64, 2) := by decide +kernel
theorem d_Book_newThing_132 : decode b_Book_newThing 132 = .ok (.if_icmp .ge (25), 3) := by decide +kernel
theorem d_Book_newThing_135 : decode b_Book_newThing 135 = .ok (.iload 5, 2) := by decide +kernel
theorem d_Book_newThing_137 : decode b_Book_newThing 137 = .ok (.ifCond .le (28), 3) := by decide +kernel
theorem d_Book_newThing_140 : decode b_Book_newThing 140 = .ok (.iload 4, 2) := by decide +kernel
theorem d_Book_newThing_142 : decode b_Book_newThing 142 = .ok (.ifCond .le (23), 3) := by decide +kernel
theorem d_Book_newThing_145 : decode b_Book_newThing 145 = .ok (.aload_n 0, 1) := by decide +kernel
theorem d_Book_newThing_146 : decode b_Book_newThing 146 = .ok (.getfield 367, 3) := by decide +kernel
theorem d_Book_newThing_149 : decode b_Book_newThing 149 = .ok (.iload 5, 2) := by decide +kernel
theorem d_Book_newThing_151 : decode b_Book_newThing 151 = .ok (.iadd, 1) := by decide +kernel
theorem d_Book_newThing_152 : decode b_Book_newThing 152 = .ok (.ldc 113, 2) := by decide +kernel
theorem d_Book_newThing_154 : decode b_Book_newThing 154 = .ok (.if_icmp .le (11), 3) := by decide +kernel
theorem d_Book_newThing_157 : decode b_Book_newThing 157 = .ok (.aload_n 0, 1) := by decide +kernel
theorem d_Book_newThing_158 : decode b_Book_newThing 158 = .ok (.bipush 6, 2) := by decide +kernel
theorem d_Book_newThing_160 : decode b_Book_newThing 160 = .ok (.iload_n 2, 1) := by decide +kernel
theorem d_Book_newThing_161 : decode b_Book_newThing 161 = .ok (.invokevirtual 267, 3) := by decide +kernel
theorem d_Book_newThing_164 : decode b_Book_newThing 164 = .ok (.return_, 1) := by decide +kernel
theorem d_Book_newThing_165 : decode b_Book_newThing 165 = .ok (.aload_n 0, 1) := by decide +kernel
theorem d_Book_newThing_166 : decode b_Book_newThing 166 = .ok (.getfield 16, 3) := by decide +kernel
theorem d_Book_newThing_169 : decode b_Book_newThing 169 = .ok (.aload_n 0, 1) := by decide +kernel
theorem d_Book_newThing_170 : decode b_Book_newThing 170 = .ok (.getfield 231, 3) := by decide +kernel
theorem d_Book_newThing_173 : decode b_Book_newThing 173 = .ok (.iload_n 2, 1) := by decide +kernel
theorem d_Book_newThing_174 : decode b_Book_newThing 174 = .ok (.iastore, 1) := by decide +kernel
theorem d_Book_newThing_175 : decode b_Book_newThing 175 = .ok (.aload_n 0, 1) := by decide +kernel
theorem d_Book_newThing_176 : decode b_Book_newThing 176 = .ok (.getfield 20, 3) := by decide +kernel
theorem d_Book_newThing_179 : decode b_Book_newThing 179 = .ok (.aload_n 0, 1) := by decide +kernel
theorem d_Book_newThing_180 : decode b_Book_newThing 180 = .ok (.getfield 231, 3) := by decide +kernel
theorem d_Book_newThing_183 : decode b_Book_newThing 183 = .ok (.iload_n 3, 1) := by decide +kernel
theorem d_Book_newThing_184 : decode b_Book_newThing 184 = .ok (.iastore, 1) := by decide +kernel
theorem d_Book_newThing_185 : decode b_Book_newThing 185 = .ok (.aload_n 0, 1) := by decide +kernel
theorem d_Book_newThing_186 : decode b_Book_newThing 186 = .ok (.getfield 23, 3) := by decide +kernel
theorem d_Book_newThing_189 : decode b_Book_newThing 189 = .ok (.aload_n 0, 1) := by decide +kernel
theorem d_Book_newThing_190 : decode b_Book_newThing 190 = .ok (.getfield 231, 3) := by decide +kernel
theorem d_Book_newThing_193 : decode b_Book_newThing 193 = .ok (.iload 4, 2) := by decide +kernel
theorem d_Book_newThing_195 : decode b_Book_newThing 195 = .ok (.ifCond .ge (7), 3) := by decide +kernel
theorem d_Book_newThing_198 : decode b_Book_newThing 198 = .ok (.iconst 0, 1) := by decide +kernel
theorem d_Book_newThing_199 : decode b_Book_newThing 199 = .ok (.goto (5), 3) := by decide +kernel
theorem d_Book_newThing_202 : decode b_Book_newThing 202 = .ok (.iload 4, 2) := by decide +kernel
theorem d_Book_newThing_204 : decode b_Book_newThing 204 = .ok (.iastore, 1) := by decide +kernel
theorem d_Book_newThing_205 : decode b_Book_newThing 205 = .ok (.aload_n 0, 1) := by decide +kernel
theorem d_Book_newThing_206 : decode b_Book_newThing 206 = .ok (.getfield 32, 3) := by decide +kernel
theorem d_Book_newThing_209 : decode b_Book_newThing 209 = .ok (.aload_n 0, 1) := by decide +kernel
theorem d_Book_newThing_210 : decode b_Book_newThing 210 = .ok (.getfield 231, 3) := by decide +kernel
theorem d_Book_newThing_213 : decode b_Book_newThing 213 = .ok (.iload_n 1, 1) := by decide +kernel
theorem d_Book_newThing_214 : decode b_Book_newThing 214 = .ok (.bastore, 1) := by decide +kernel
theorem d_Book_newThing_215 : decode b_Book_newThing 215 = .ok (.aload_n 0, 1) := by decide +kernel
theorem d_Book_newThing_216 : decode b_Book_newThing 216 = .ok (.getfield 36, 3) := by decide +kernel
theorem d_Book_newThing_219 : decode b_Book_newThing 219 = .ok (.aload_n 0, 1) := by decide +kernel
theorem d_Book_newThing_220 : decode b_Book_newThing 220 = .ok (.getfield 231, 3) := by decide +kernel
theorem d_Book_newThing_223 : decode b_Book_newThing 223 = .ok (.iload 6, 2) := by decide +kernel
theorem d_Book_newThing_225 : decode b_Book_newThing 225 = .ok (.bastore, 1) := by decide +kernel
theorem d_Book_newThing_226 : decode b_Book_newThing 226 = .ok (.aload_n 0, 1) := by decide +kernel
theorem d_Book_newThing_227 : decode b_Book_newThing 227 = .ok (.getfield 26, 3) := by decide +kernel
theorem d_Book_newThing_230 : decode b_Book_newThing 230 = .ok (.aload_n 0, 1) := by decide +kernel
theorem d_Book_newThing_231 : decode b_Book_newThing 231 = .ok (.getfield 231, 3) := by decide +kernel
theorem d_Book_newThing_234 : decode b_Book_newThing 234 = .ok (.iload 5, 2) := by decide +kernel
theorem d_Book_newThing_236 : decode b_Book_newThing 236 = .ok (.ifCond .ge (7), 3) := by decide +kernel
theorem d_Book_newThing_239 : decode b_Book_newThing 239 = .ok (.iconst 0, 1) := by decide +kernel
theorem d_Book_newThing_240 : decode b_Book_newThing 240 = .ok (.goto (5), 3) := by decide +kernel
theorem d_Book_newThing_243 : decode b_Book_newThing 243 = .ok (.iload 5, 2) := by decide +kernel
theorem d_Book_newThing_245 : decode b_Book_newThing 245 = .ok (.iastore, 1) := by decide +kernel
theorem d_Book_newThing_246 : decode b_Book_newThing 246 = .ok (.iload 5, 2) := by decide +kernel
theorem d_Book_newThing_248 : decode b_Book_newThing 248 = .ok (.ifCond .le (19), 3) := by decide +kernel
theorem d_Book_newThing_251 : decode b_Book_newThing 251 = .ok (.iload 4, 2) := by decide +kernel
theorem d_Book_newThing_253 : decode b_Book_newThing 253 = .ok (.ifCond .le (14), 3) := by decide +kernel
theorem d_Book_newThing_256 : decode b_Book_newThing 256 = .ok (.aload_n 0, 1) := by decide +kernel
theorem d_Book_newThing_257 : decode b_Book_newThing 257 = .ok (.dup, 1) := by decide +kernel
theorem d_Book_newThing_258 : decode b_Book_newThing 258 = .ok (.getfield 367, 3) := by decide +kernel
theorem d_Book_newThing_261 : decode b_Book_newThing 261 = .ok (.iload 5, 2) := by decide +kernel
theorem d_Book_newThing_263 : decode b_Book_newThing 263 = .ok (.iadd, 1) := by decide +kernel
theorem d_Book_newThing_264 : decode b_Book_newThing 264 = .ok (.putfield 367, 3) := by decide +kernel
theorem d_Book_newThing_267 : decode b_Book_newThing 267 = .ok (.aload_n 0, 1) := by decide +kernel
theorem d_Book_newThing_268 : decode b_Book_newThing 268 = .ok (.dup, 1) := by decide +kernel
theorem d_Book_newThing_269 : decode b_Book_newThing 269 = .ok (.getfield 231, 3) := by decide +kernel
theorem d_Book_newThing_272 : decode b_Book_newThing 272 = .ok (.iconst 1, 1) := by decide +kernel
theorem d_Book_newThing_273 : decode b_Book_newThing 273 = .ok (.iadd, 1) := by decide +kernel
theorem d_Book_newThing_274 : decode b_Book_newThing 274 = .ok (.putfield 231, 3) := by decide +kernel
theorem d_Book_newThing_277 : decode b_Book_newThing 277 = .ok (.return_, 1) := by decide +kernel
set_option maxHeartbeats 4000000 in
set_option maxRecDepth 100000 in
theorem c_Book_newThing_x (l : Launch) {dA : FieldType → ClassId} {D : va_G} {al : Nat → Nat} {ext : mv_Sh} {sk sv : Nat → Nat} (hi : mv_inj (mg dA D al ext)) (σ : mv_H) (len th n k cb b1 b2 : Nat) (hP : ZT 74 len σ σ th n k cb 0 b1 b2) (b9 : Int32) (hk : mv_i σ 74 4 = 1) : mv_C l y_Book_newThing (Cond.code y_Book_newThing b_Book_newThing 7 (Option.none : Option Jvm.ClassFile.FieldType) :: ma) ({ frames := 7, cells := 0, slots := 0, locals := 153 }) (mg dA D al ext) (mK sk sv) [.ref (al 74), .int b9] σ (mv_Uv (ZO 74 len b1 σ) ("MachineLoomModel$Book$Wrong", al 107) (BF 74 σ)) := by
  refine mv_C.ofV (cc := b_Book_newThing) (nL := 7) (ret := (Option.none : Option Jvm.ClassFile.FieldType)) (by decide +kernel) rfl hi (Nat.le_of_ble_eq_true rfl) ?_
  intro p e s m below meth c B hNs hr hnm hno
  have hS := hP
  have hL00 := hS.le
  refine mv_aload_n (pc := 0) B d_Book_newThing_0 rfl 0 rfl ?_
  refine mv_callVUv (pc := 1) (n := 0) (ci := 12) (C := R_Book) B (mK_ok sk sv) hNs rfl rfl (c_Book_pass_x l hi _ len _ _ hS.1) rfl (ma_goodc kc_Book_pass) (B.2.2.2.1 _ k_2173) (B.2.2.2.1 _ k_2175) (B.2.2.2.1 _ ks_90) (B.2.2.2.1 _ k_13) ⟨by decide +kernel, by decide +kernel, by decide +kernel⟩ rfl d_Book_newThing_1 rfl (Nat.le_of_ble_eq_true rfl) ⟨by decide, by decide⟩ ⟨by decide, by decide⟩ ⟨by decide, by decide⟩ (mv_noH hno _) (fun τ9 g9 => Or.inr ⟨rfl, hS.2.2.2.2.2.2.tr g9.bf⟩) (fun σ1 h1 => ?_)
  have w1 := hS.w (by rw [hk]; decide)
  obtain ⟨d1, t1, u1, q1, g1⟩ := h1
  have hS := hS.pass q1 g1
  have hL1 := hS.le
  refine mv_aload_n (pc := 4) B d_Book_newThing_4 rfl 0 rfl ?_
  refine mv_callVUv (pc := 5) (n := 0) (ci := 12) (C := R_Book) B (mK_ok sk sv) hNs rfl rfl (c_Book_name_x l hi _ len _ _ hS.1) rfl (ma_goodc kc_Book_name) (B.2.2.2.1 _ k_2194) (B.2.2.2.1 _ k_2196) (B.2.2.2.1 _ ks_94) (B.2.2.2.1 _ k_13) ⟨by decide +kernel, by decide +kernel, by decide +kernel⟩ rfl d_Book_newThing_5 rfl (Nat.le_of_ble_eq_true rfl) ⟨by decide, by decide⟩ ⟨by decide, by decide⟩ ⟨by decide, by decide⟩ (mv_noH hno _) (fun τ9 g9 => Or.inr ⟨rfl, hS.2.2.2.2.2.2.tr g9⟩) (fun σ5 h5 => ?_)
  obtain ⟨k5, d5, ⟨t5, u5, q5, g5⟩, y5⟩ := h5
  have w5 := hS.w (by rw [k5]; decide)
  have hsp := name_sp (c1 := 0) (c2 := 0) y5 hS.1.sp
  have hS := hS.name q5 g5 y5
  have hL5 := hS.le
  refine mv_aload_n (pc := 8) B d_Book_newThing_8 rfl 0 rfl ?_
  refine mv_getI (pc := 9) (ci := 12) (C := R_Book) (T := F_Book) (N := 65) B 49 rfl rfl (by decide) i_Book (B.2.2.2.1 _ k_1898) rfl d_Book_newThing_9 ?_
  refine mv_istore_n (pc := 12) B d_Book_newThing_12 rfl (by decide) rfl ?_
  refine mv_aload_n (pc := 13) B d_Book_newThing_13 rfl 1 rfl ?_
  refine mv_getI (pc := 14) (ci := 12) (C := R_Book) (T := F_Book) (N := 65) B 50 rfl rfl (by decide) i_Book (B.2.2.2.1 _ k_1899) rfl d_Book_newThing_14 ?_
  refine mv_istore_n (pc := 17) B d_Book_newThing_17 rfl (by decide) rfl ?_
  refine mv_aload_n (pc := 18) B d_Book_newThing_18 rfl 2 rfl ?_
  refine mv_bipush (pc := 19) (v := 58) B d_Book_newThing_19 (by decide) ?_
  refine mv_callVUv (pc := 21) (n := 1) (ci := 12) (C := R_Book) B (mK_ok sk sv) hNs rfl rfl (c_Book_need_x l hi _ _ len _ _ hS.1) rfl (ma_goodc kc_Book_need) (B.2.2.2.1 _ k_2177) (B.2.2.2.1 _ k_2179) (B.2.2.2.1 _ ks_91) (B.2.2.2.1 _ k_13) ⟨by decide +kernel, by decide +kernel, by decide +kernel⟩ rfl d_Book_newThing_21 rfl (Nat.le_of_ble_eq_true rfl) ⟨by decide, by decide⟩ ⟨by decide, by decide⟩ ⟨by decide, by decide⟩ (mv_noH hno _) (fun τ9 g9 => Or.inr ⟨rfl, hS.2.2.2.2.2.2.tr g9.bf⟩) (fun σ21 h21 => ?_)
  obtain ⟨k21, d21, t21, u21, q21, g21⟩ := h21
  have w21 := hS.w (by rw [k21]; decide)
  have hS := hS.pass q21 g21
  have hL21 := hS.le
  refine mv_aload_n (pc := 24) B d_Book_newThing_24 rfl 2 rfl ?_
  refine mv_lconst (pc := 25) (v := 1) B d_Book_newThing_25 (by decide) ?_
  refine mv_ldc2 (pc := 26) (v := 64) B (B.2.2.2.1 _ k_2184) d_Book_newThing_26 ?_
  refine mv_callVUi (pc := 29) (n := 2) (ci := 12) (C := R_Book) B (mK_ok sk sv) hNs rfl rfl (c_Book_ranged_x l hi _ _ _ (by decide) (by decide) len _ _ hS.1) rfl (ma_goodc kc_Book_ranged) (B.2.2.2.1 _ k_2203) (B.2.2.2.1 _ k_2205) (B.2.2.2.1 _ ks_96) (B.2.2.2.1 _ k_13) ⟨by decide +kernel, by decide +kernel, by decide +kernel⟩ rfl d_Book_newThing_29 rfl (Nat.le_of_ble_eq_true rfl) ⟨by decide, by decide⟩ ⟨by decide, by decide⟩ ⟨by decide, by decide⟩ (mv_noH hno _) (fun τ9 g9 => Or.inr ⟨rfl, hS.2.2.2.2.2.2.tr g9.bf⟩) (fun v29 σ29 h29 => ?_)
  obtain ⟨k29, d29, ⟨t29, u29, q29, g29⟩, f29, b29, z29⟩ := h29
  simp only [Int64.reduceToInt] at z29
  have w29 := hS.w (by rw [k29]; decide)
  have hS := hS.rng q29 g29 f29 b29
  have hL29 := hS.le
  have hbn : (mv_i σ29 74 38).toInt ≤ 0 → (mv_i σ29 74 38).toInt ≤ 0 := id
  have j104 : ∀ (S9 : mv_H) (t9 : Nat) (u9 : Nat) (n9 : Int32) (z9 : Int32) (hS : ZT 74 len σ S9 th n k cb 0 t9 u9) (hbn : (mv_i S9 74 38).toInt ≤ 0 → (mv_i σ29 74 38).toInt ≤ 0) (ht9 : b1 < t9) (hn9 : n9.toInt ≤ 65536) (hfl : (mv_i S9 74 38).toInt ≤ 0 → b9 = 0 ∨ 1 ≤ n9.toInt), mv_V p l e ({ frames := 7, cells := 0, slots := 0, locals := 153 }) s m ([.ref (al 74), .int b9] : List Value).toArray below meth c (mg dA D al ext) 7 0 0 (mv_Q (mg dA D al ext) below s 0 0 (mv_Uv (ZO 74 len b1 σ) ("MachineLoomModel$Book$Wrong", al 107) (BF 74 σ))) S9 104 [(0, .ref (al 74)), (1, .int b9), (2, .int (mv_i σ5 74 49)), (3, .int (mv_i σ5 74 50)), (4, .int v29), (5, .int n9), (6, .int z9)] [] := by
    intro S9 t9 u9 n9 z9 hS hbn ht9 hn9 hfl
    refine mv_aload_n (pc := 104) B d_Book_newThing_104 rfl 0 rfl ?_
    refine mv_bipush (pc := 105) (v := 59) B d_Book_newThing_105 (by decide) ?_
    refine mv_callVUv (pc := 107) (n := 1) (ci := 12) (C := R_Book) B (mK_ok sk sv) hNs rfl rfl (c_Book_need_x l hi _ _ len _ _ hS.1) rfl (ma_goodc kc_Book_need) (B.2.2.2.1 _ k_2177) (B.2.2.2.1 _ k_2179) (B.2.2.2.1 _ ks_91) (B.2.2.2.1 _ k_13) ⟨by decide +kernel, by decide +kernel, by decide +kernel⟩ rfl d_Book_newThing_107 rfl (Nat.le_of_ble_eq_true rfl) ⟨by decide, by decide⟩ ⟨by decide, by decide⟩ ⟨by decide, by decide⟩ (mv_noH hno _) (fun τ9 g9 => Or.inr ⟨rfl, hS.2.2.2.2.2.2.tr g9.bf⟩) (fun σ107 h107 => ?_)
    obtain ⟨k107, d107, t107, u107, q107, g107⟩ := h107
    have w107 := hS.w (by rw [k107]; decide)
    have hS := hS.pass q107 g107
    have hL107 := hS.le
    have hbn := fun (z : (mv_i σ107 74 38).toInt ≤ 0) => hbn (by rw [q107.bn] at z; exact z)
    have hfl := fun (z : (mv_i σ107 74 38).toInt ≤ 0) => hfl (by rw [q107.bn] at z; exact z)
    have hL110 := hS.le
    have j165 : ∀  (hth : th < 64) (hcl : 0 < n9.toInt → 0 < v29.toInt → (mv_i σ107 74 19).toInt + n9.toInt ≤ 65536), mv_V p l e ({ frames := 7, cells := 0, slots := 0, locals := 153 }) s m ([.ref (al 74), .int b9] : List Value).toArray below meth c (mg dA D al ext) 7 0 0 (mv_Q (mg dA D al ext) below s 0 0 (mv_Uv (ZO 74 len b1 σ) ("MachineLoomModel$Book$Wrong", al 107) (BF 74 σ))) σ107 165 [(0, .ref (al 74)), (1, .int b9), (2, .int (mv_i σ5 74 49)), (3, .int (mv_i σ5 74 50)), (4, .int v29), (5, .int n9), (6, .int z9)] [] := by
      intro hth hcl
      have hce := hS.C.2.2.2.2.2.2.1
      have hcl : ¬ 0 < n9.toInt ∨ ¬ 0 < v29.toInt ∨ (mv_i σ107 74 19).toInt + n9.toInt ≤ 65536 := by
        by_cases y1 : 0 < n9.toInt
        · by_cases y2 : 0 < v29.toInt
          · exact Or.inr (Or.inr (hcl y1 y2))
          · exact Or.inr (Or.inl y2)
        · exact Or.inl y1
      refine mv_aload_n (pc := 165) B d_Book_newThing_165 rfl 0 rfl ?_
      refine mv_getR (pc := 166) (ci := 12) (C := R_Book) (T := F_Book) (N := 65) B 10 rfl rfl (by decide) i_Book (B.2.2.2.1 _ k_1853) rfl (hS.R.1 _ 10 _ rfl) d_Book_newThing_166 ?_
      refine mv_aload_n (pc := 169) B d_Book_newThing_169 rfl 0 rfl ?_
      refine mv_getI (pc := 170) (ci := 12) (C := R_Book) (T := F_Book) (N := 65) B 17 rfl rfl (by decide) i_Book (B.2.2.2.1 _ k_1860) rfl d_Book_newThing_170 ?_
      refine mv_iload_n (pc := 173) B d_Book_newThing_173 rfl 2 rfl ?_
      refine mv_iast (pc := 174) B rfl (i32_in (x := mv_i σ107 74 17) (by omega) (by omega)) d_Book_newThing_174 ?_
      refine mv_aload_n (pc := 175) B d_Book_newThing_175 rfl 0 rfl ?_
      refine mv_getR (pc := 176) (ci := 12) (C := R_Book) (T := F_Book) (N := 65) B 11 rfl rfl (by decide) i_Book (B.2.2.2.1 _ k_1854) rfl (hS.R.1 _ 11 _ rfl) d_Book_newThing_176 ?_
      refine mv_aload_n (pc := 179) B d_Book_newThing_179 rfl 0 rfl ?_
      refine mv_getI (pc := 180) (ci := 12) (C := R_Book) (T := F_Book) (N := 65) B 17 rfl rfl (by decide) i_Book (B.2.2.2.1 _ k_1860) rfl d_Book_newThing_180 ?_
      refine mv_iload_n (pc := 183) B d_Book_newThing_183 rfl 3 rfl ?_
      refine mv_iast (pc := 184) B rfl (i32_in (x := mv_i σ107 74 17) (by omega) (by omega)) d_Book_newThing_184 ?_
      refine mv_aload_n (pc := 185) B d_Book_newThing_185 rfl 0 rfl ?_
      refine mv_getR (pc := 186) (ci := 12) (C := R_Book) (T := F_Book) (N := 65) B 12 rfl rfl (by decide) i_Book (B.2.2.2.1 _ k_1855) rfl (hS.R.1 _ 12 _ rfl) d_Book_newThing_186 ?_
      refine mv_aload_n (pc := 189) B d_Book_newThing_189 rfl 0 rfl ?_
      refine mv_getI (pc := 190) (ci := 12) (C := R_Book) (T := F_Book) (N := 65) B 17 rfl rfl (by decide) i_Book (B.2.2.2.1 _ k_1860) rfl d_Book_newThing_190 ?_
      refine mv_iload (pc := 193) B d_Book_newThing_193 4 rfl ?_
      refine mv_if_ge (pc := 195) (tgt := 202) B d_Book_newThing_195 rfl (fun h195 => ?_) (fun h195 => ?_)
      · skip
        refine mv_iload (pc := 202) B d_Book_newThing_202 4 rfl ?_
        refine mv_iast (pc := 204) B rfl (i32_in (x := mv_i σ107 74 17) (by omega) (by omega)) d_Book_newThing_204 ?_
        refine mv_aload_n (pc := 205) B d_Book_newThing_205 rfl 0 rfl ?_
        refine mv_getR (pc := 206) (ci := 12) (C := R_Book) (T := F_Book) (N := 65) B 15 rfl rfl (by decide) i_Book (B.2.2.2.1 _ k_1858) rfl (hS.R.1 _ 15 _ rfl) d_Book_newThing_206 ?_
        refine mv_aload_n (pc := 209) B d_Book_newThing_209 rfl 0 rfl ?_
        refine mv_getI (pc := 210) (ci := 12) (C := R_Book) (T := F_Book) (N := 65) B 17 rfl rfl (by decide) i_Book (B.2.2.2.1 _ k_1860) rfl d_Book_newThing_210 ?_
        refine mv_iload_n (pc := 213) B d_Book_newThing_213 rfl 1 rfl ?_
        refine mv_zast (pc := 214) B rfl (i32_in (x := mv_i σ107 74 17) (by omega) (by omega)) d_Book_newThing_214 ?_
        refine mv_aload_n (pc := 215) B d_Book_newThing_215 rfl 0 rfl ?_
        refine mv_getR (pc := 216) (ci := 12) (C := R_Book) (T := F_Book) (N := 65) B 16 rfl rfl (by decide) i_Book (B.2.2.2.1 _ k_1859) rfl (hS.R.1 _ 16 _ rfl) d_Book_newThing_216 ?_
        refine mv_aload_n (pc := 219) B d_Book_newThing_219 rfl 0 rfl ?_
        refine mv_getI (pc := 220) (ci := 12) (C := R_Book) (T := F_Book) (N := 65) B 17 rfl rfl (by decide) i_Book (B.2.2.2.1 _ k_1860) rfl d_Book_newThing_220 ?_
        refine mv_iload (pc := 223) B d_Book_newThing_223 6 rfl ?_
        refine mv_zast (pc := 225) B rfl (i32_in (x := mv_i σ107 74 17) (by omega) (by omega)) d_Book_newThing_225 ?_
        refine mv_aload_n (pc := 226) B d_Book_newThing_226 rfl 0 rfl ?_
        refine mv_getR (pc := 227) (ci := 12) (C := R_Book) (T := F_Book) (N := 65) B 13 rfl rfl (by decide) i_Book (B.2.2.2.1 _ k_1856) rfl (hS.R.1 _ 13 _ rfl) d_Book_newThing_227 ?_
        refine mv_aload_n (pc := 230) B d_Book_newThing_230 rfl 0 rfl ?_
        refine mv_getI (pc := 231) (ci := 12) (C := R_Book) (T := F_Book) (N := 65) B 17 rfl rfl (by decide) i_Book (B.2.2.2.1 _ k_1860) rfl d_Book_newThing_231 ?_
        refine mv_iload (pc := 234) B d_Book_newThing_234 5 rfl ?_
        refine mv_if_ge (pc := 236) (tgt := 243) B d_Book_newThing_236 rfl (fun h236 => ?_) (fun h236 => ?_)
        · skip
          have a236 : 0 ≤ n9.toInt := Int32.le_iff_toInt_le.mp h236
          refine mv_iload (pc := 243) B d_Book_newThing_243 5 rfl ?_
          refine mv_iast (pc := 245) B rfl (i32_in (x := mv_i σ107 74 17) (by omega) (by omega)) d_Book_newThing_245 ?_
          refine mv_iload (pc := 246) B d_Book_newThing_246 5 rfl ?_
          refine mv_if_le (pc := 248) (tgt := 267) B d_Book_newThing_248 rfl (fun h248 => ?_) (fun h248 => ?_)
          · skip
            have a248 : n9.toInt ≤ 0 := Int32.le_iff_toInt_le.mp h248
            refine mv_aload_n (pc := 267) B d_Book_newThing_267 rfl 0 rfl ?_
            refine mv_dup (pc := 268) B d_Book_newThing_268 rfl ?_
            refine mv_getI (pc := 269) (ci := 12) (C := R_Book) (T := F_Book) (N := 65) B 17 rfl rfl (by decide) i_Book (B.2.2.2.1 _ k_1860) rfl d_Book_newThing_269 ?_
            refine mv_iconst (pc := 272) (v := 1) B d_Book_newThing_272 (by decide) ?_
            refine mv_iadd (pc := 273) B d_Book_newThing_273 ?_
            refine mv_putI (pc := 274) (ci := 12) (C := R_Book) (T := F_Book) (N := 65) B 17 rfl rfl (by decide) i_Book t_Book_ok n_Book (B.2.2.2.1 _ k_1860) rfl rfl rfl rfl d_Book_newThing_274 ?_
            refine mv_lpick [0] rfl ?_
            exact mv_vret (pc := 277) B hr d_Book_newThing_277 (Nat.le_refl _) (Nat.le_refl _) (Or.inl ⟨rfl, _, _, _, _, _, _, hS.thing0 (x := (mv_i σ5 74 49)) (y := (mv_i σ5 74 50)) (w := v29) (f := vp_nar .boolean b9) (z := vp_nar .boolean z9) (c := n9) hth hsp a236 (fun zz ff => (by have y := (hfl zz).resolve_left (fun z => ff (by rw [z]; decide)); first | omega | exact absurd y (by omega))) (by first | exact Or.inl rfl | exact Or.inl (by omega) | exact Or.inr (fun z => by rcases z29 with y | y; exact y.2 (hbn z); omega)) rfl, by omega⟩)
          · skip
            have a248 : ¬ n9.toInt ≤ 0 := fun z => h248 (Int32.le_iff_toInt_le.mpr z)
            refine mv_iload (pc := 251) B d_Book_newThing_251 4 rfl ?_
            refine mv_if_le (pc := 253) (tgt := 267) B d_Book_newThing_253 rfl (fun h253 => ?_) (fun h253 => ?_)
            · skip
              have a253 : v29.toInt ≤ 0 := Int32.le_iff_toInt_le.mp h253
              refine mv_aload_n (pc := 267) B d_Book_newThing_267 rfl 0 rfl ?_
              refine mv_dup (pc := 268) B d_Book_newThing_268 rfl ?_
              refine mv_getI (pc := 269) (ci := 12) (C := R_Book) (T := F_Book) (N := 65) B 17 rfl rfl (by decide) i_Book (B.2.2.2.1 _ k_1860) rfl d_Book_newThing_269 ?_
              refine mv_iconst (pc := 272) (v := 1) B d_Book_newThing_272 (by decide) ?_
              refine mv_iadd (pc := 273) B d_Book_newThing_273 ?_
              refine mv_putI (pc := 274) (ci := 12) (C := R_Book) (T := F_Book) (N := 65) B 17 rfl rfl (by decide) i_Book t_Book_ok n_Book (B.2.2.2.1 _ k_1860) rfl rfl rfl rfl d_Book_newThing_274 ?_
              refine mv_lpick [0] rfl ?_
              exact mv_vret (pc := 277) B hr d_Book_newThing_277 (Nat.le_refl _) (Nat.le_refl _) (Or.inl ⟨rfl, _, _, _, _, _, _, hS.thing0 (x := (mv_i σ5 74 49)) (y := (mv_i σ5 74 50)) (w := v29) (f := vp_nar .boolean b9) (z := vp_nar .boolean z9) (c := n9) hth hsp a236 (fun zz ff => (by have y := (hfl zz).resolve_left (fun z => ff (by rw [z]; decide)); first | omega | exact absurd y (by omega))) (by first | exact Or.inl rfl | exact Or.inl (by omega) | exact Or.inr (fun z => by rcases z29 with y | y; exact y.2 (hbn z); omega)) rfl, by omega⟩)
            · skip
              have a253 : ¬ v29.toInt ≤ 0 := fun z => h253 (Int32.le_iff_toInt_le.mpr z)
              refine mv_aload_n (pc := 256) B d_Book_newThing_256 rfl 0 rfl ?_
              refine mv_dup (pc := 257) B d_Book_newThing_257 rfl ?_
              refine mv_getI (pc := 258) (ci := 12) (C := R_Book) (T := F_Book) (N := 65) B 19 rfl rfl (by decide) i_Book (B.2.2.2.1 _ k_1864) rfl d_Book_newThing_258 ?_
              refine mv_iload (pc := 261) B d_Book_newThing_261 5 rfl ?_
              refine mv_iadd (pc := 263) B d_Book_newThing_263 ?_
              refine mv_putI (pc := 264) (ci := 12) (C := R_Book) (T := F_Book) (N := 65) B 19 rfl rfl (by decide) i_Book t_Book_ok n_Book (B.2.2.2.1 _ k_1864) rfl rfl rfl rfl d_Book_newThing_264 ?_
              refine mv_aload_n (pc := 267) B d_Book_newThing_267 rfl 0 rfl ?_
              refine mv_dup (pc := 268) B d_Book_newThing_268 rfl ?_
              refine mv_getI (pc := 269) (ci := 12) (C := R_Book) (T := F_Book) (N := 65) B 17 rfl rfl (by decide) i_Book (B.2.2.2.1 _ k_1860) rfl d_Book_newThing_269 ?_
              refine mv_iconst (pc := 272) (v := 1) B d_Book_newThing_272 (by decide) ?_
              refine mv_iadd (pc := 273) B d_Book_newThing_273 ?_
              refine mv_putI (pc := 274) (ci := 12) (C := R_Book) (T := F_Book) (N := 65) B 17 rfl rfl (by decide) i_Book t_Book_ok n_Book (B.2.2.2.1 _ k_1860) rfl rfl rfl rfl d_Book_newThing_274 ?_
              refine mv_lpick [0] rfl ?_
              have hv9 : (mv_i σ107 74 19 + n9).toInt = (mv_i σ107 74 19).toInt + n9.toInt := i32_add (by omega) (by omega)
              exact mv_vret (pc := 277) B hr d_Book_newThing_277 (Nat.le_refl _) (Nat.le_refl _) (Or.inl ⟨rfl, _, _, _, _, _, _, hS.thing (x := (mv_i σ5 74 49)) (y := (mv_i σ5 74 50)) (w := v29) (f := vp_nar .boolean b9) (z := vp_nar .boolean z9) (c := n9) (v := mv_i σ107 74 19 + n9) hth hsp a236 (fun zz ff => (by have y := (hfl zz).resolve_left (fun z => ff (by rw [z]; decide)); first | omega | exact absurd y (by omega))) (Or.inl hv9) (by rw [hv9]; omega) rfl, by omega⟩)
        · skip
          have a236 : ¬ 0 ≤ n9.toInt := fun z => h236 (Int32.le_iff_toInt_le.mpr z)
          refine mv_iconst (pc := 239) (v := 0) B d_Book_newThing_239 (by decide) ?_
          refine mv_goto (pc := 240) (tgt := 245) B d_Book_newThing_240 rfl ?_
          refine mv_iast (pc := 245) B rfl (i32_in (x := mv_i σ107 74 17) (by omega) (by omega)) d_Book_newThing_245 ?_
          refine mv_iload (pc := 246) B d_Book_newThing_246 5 rfl ?_
          refine mv_if_le (pc := 248) (tgt := 267) B d_Book_newThing_248 rfl (fun h248 => ?_) (fun h248 => ?_)
          · skip
            have a248 : n9.toInt ≤ 0 := Int32.le_iff_toInt_le.mp h248
            refine mv_aload_n (pc := 267) B d_Book_newThing_267 rfl 0 rfl ?_
            refine mv_dup (pc := 268) B d_Book_newThing_268 rfl ?_
            refine mv_getI (pc := 269) (ci := 12) (C := R_Book) (T := F_Book) (N := 65) B 17 rfl rfl (by decide) i_Book (B.2.2.2.1 _ k_1860) rfl d_Book_newThing_269 ?_
            refine mv_iconst (pc := 272) (v := 1) B d_Book_newThing_272 (by decide) ?_
            refine mv_iadd (pc := 273) B d_Book_newThing_273 ?_
            refine mv_putI (pc := 274) (ci := 12) (C := R_Book) (T := F_Book) (N := 65) B 17 rfl rfl (by decide) i_Book t_Book_ok n_Book (B.2.2.2.1 _ k_1860) rfl rfl rfl rfl d_Book_newThing_274 ?_
            refine mv_lpick [0] rfl ?_
            exact mv_vret (pc := 277) B hr d_Book_newThing_277 (Nat.le_refl _) (Nat.le_refl _) (Or.inl ⟨rfl, _, _, _, _, _, _, hS.thing0 (x := (mv_i σ5 74 49)) (y := (mv_i σ5 74 50)) (w := v29) (f := vp_nar .boolean b9) (z := vp_nar .boolean z9) (c := 0) hth hsp (by decide) (fun zz ff => (by have y := (hfl zz).resolve_left (fun z => ff (by rw [z]; decide)); exact absurd y (by omega))) (by first | exact Or.inl rfl | exact Or.inl (by omega) | exact Or.inr (fun z => by rcases z29 with y | y; exact y.2 (hbn z); omega)) rfl, by omega⟩)
          · skip
            have a248 : ¬ n9.toInt ≤ 0 := fun z => h248 (Int32.le_iff_toInt_le.mpr z)
            refine mv_iload (pc := 251) B d_Book_newThing_251 4 rfl ?_
            refine mv_if_le (pc := 253) (tgt := 267) B d_Book_newThing_253 rfl (fun h253 => ?_) (fun h253 => ?_)
            · skip
              have a253 : v29.toInt ≤ 0 := Int32.le_iff_toInt_le.mp h253
              refine mv_aload_n (pc := 267) B d_Book_newThing_267 rfl 0 rfl ?_
              refine mv_dup (pc := 268) B d_Book_newThing_268 rfl ?_
              refine mv_getI (pc := 269) (ci := 12) (C := R_Book) (T := F_Book) (N := 65) B 17 rfl rfl (by decide) i_Book (B.2.2.2.1 _ k_1860) rfl d_Book_newThing_269 ?_
              refine mv_iconst (pc := 272) (v := 1) B d_Book_newThing_272 (by decide) ?_
              refine mv_iadd (pc := 273) B d_Book_newThing_273 ?_
              refine mv_putI (pc := 274) (ci := 12) (C := R_Book) (T := F_Book) (N := 65) B 17 rfl rfl (by decide) i_Book t_Book_ok n_Book (B.2.2.2.1 _ k_1860) rfl rfl rfl rfl d_Book_newThing_274 ?_
              refine mv_lpick [0] rfl ?_
              exact mv_vret (pc := 277) B hr d_Book_newThing_277 (Nat.le_refl _) (Nat.le_refl _) (Or.inl ⟨rfl, _, _, _, _, _, _, hS.thing0 (x := (mv_i σ5 74 49)) (y := (mv_i σ5 74 50)) (w := v29) (f := vp_nar .boolean b9) (z := vp_nar .boolean z9) (c := 0) hth hsp (by decide) (fun zz ff => (by have y := (hfl zz).resolve_left (fun z => ff (by rw [z]; decide)); exact absurd y (by omega))) (by first | exact Or.inl rfl | exact Or.inl (by omega) | exact Or.inr (fun z => by rcases z29 with y | y; exact y.2 (hbn z); omega)) rfl, by omega⟩)
            · skip
              have a253 : ¬ v29.toInt ≤ 0 := fun z => h253 (Int32.le_iff_toInt_le.mpr z)
              refine mv_aload_n (pc := 256) B d_Book_newThing_256 rfl 0 rfl ?_
              refine mv_dup (pc := 257) B d_Book_newThing_257 rfl ?_
              refine mv_getI (pc := 258) (ci := 12) (C := R_Book) (T := F_Book) (N := 65) B 19 rfl rfl (by decide) i_Book (B.2.2.2.1 _ k_1864) rfl d_Book_newThing_258 ?_
              refine mv_iload (pc := 261) B d_Book_newThing_261 5 rfl ?_
              refine mv_iadd (pc := 263) B d_Book_newThing_263 ?_
              refine mv_putI (pc := 264) (ci := 12) (C := R_Book) (T := F_Book) (N := 65) B 19 rfl rfl (by decide) i_Book t_Book_ok n_Book (B.2.2.2.1 _ k_1864) rfl rfl rfl rfl d_Book_newThing_264 ?_
              refine mv_aload_n (pc := 267) B d_Book_newThing_267 rfl 0 rfl ?_
              refine mv_dup (pc := 268) B d_Book_newThing_268 rfl ?_
              refine mv_getI (pc := 269) (ci := 12) (C := R_Book) (T := F_Book) (N := 65) B 17 rfl rfl (by decide) i_Book (B.2.2.2.1 _ k_1860) rfl d_Book_newThing_269 ?_
              refine mv_iconst (pc := 272) (v := 1) B d_Book_newThing_272 (by decide) ?_
              refine mv_iadd (pc := 273) B d_Book_newThing_273 ?_
              refine mv_putI (pc := 274) (ci := 12) (C := R_Book) (T := F_Book) (N := 65) B 17 rfl rfl (by decide) i_Book t_Book_ok n_Book (B.2.2.2.1 _ k_1860) rfl rfl rfl rfl d_Book_newThing_274 ?_
              refine mv_lpick [0] rfl ?_
              exact absurd a248 (by omega)
      · skip
        refine mv_iconst (pc := 198) (v := 0) B d_Book_newThing_198 (by decide) ?_
        refine mv_goto (pc := 199) (tgt := 204) B d_Book_newThing_199 rfl ?_
        refine mv_iast (pc := 204) B rfl (i32_in (x := mv_i σ107 74 17) (by omega) (by omega)) d_Book_newThing_204 ?_
        refine mv_aload_n (pc := 205) B d_Book_newThing_205 rfl 0 rfl ?_
        refine mv_getR (pc := 206) (ci := 12) (C := R_Book) (T := F_Book) (N := 65) B 15 rfl rfl (by decide) i_Book (B.2.2.2.1 _ k_1858) rfl (hS.R.1 _ 15 _ rfl) d_Book_newThing_206 ?_
        refine mv_aload_n (pc := 209) B d_Book_newThing_209 rfl 0 rfl ?_
        refine mv_getI (pc := 210) (ci := 12) (C := R_Book) (T := F_Book) (N := 65) B 17 rfl rfl (by decide) i_Book (B.2.2.2.1 _ k_1860) rfl d_Book_newThing_210 ?_
        refine mv_iload_n (pc := 213) B d_Book_newThing_213 rfl 1 rfl ?_
        refine mv_zast (pc := 214) B rfl (i32_in (x := mv_i σ107 74 17) (by omega) (by omega)) d_Book_newThing_214 ?_
        refine mv_aload_n (pc := 215) B d_Book_newThing_215 rfl 0 rfl ?_
        refine mv_getR (pc := 216) (ci := 12) (C := R_Book) (T := F_Book) (N := 65) B 16 rfl rfl (by decide) i_Book (B.2.2.2.1 _ k_1859) rfl (hS.R.1 _ 16 _ rfl) d_Book_newThing_216 ?_
        refine mv_aload_n (pc := 219) B d_Book_newThing_219 rfl 0 rfl ?_
        refine mv_getI (pc := 220) (ci := 12) (C := R_Book) (T := F_Book) (N := 65) B 17 rfl rfl (by decide) i_Book (B.2.2.2.1 _ k_1860) rfl d_Book_newThing_220 ?_
        refine mv_iload (pc := 223) B d_Book_newThing_223 6 rfl ?_
        refine mv_zast (pc := 225) B rfl (i32_in (x := mv_i σ107 74 17) (by omega) (by omega)) d_Book_newThing_225 ?_
        refine mv_aload_n (pc := 226) B d_Book_newThing_226 rfl 0 rfl ?_
        refine mv_getR (pc := 227) (ci := 12) (C := R_Book) (T := F_Book) (N := 65) B 13 rfl rfl (by decide) i_Book (B.2.2.2.1 _ k_1856) rfl (hS.R.1 _ 13 _ rfl) d_Book_newThing_227 ?_
        refine mv_aload_n (pc := 230) B d_Book_newThing_230 rfl 0 rfl ?_
        refine mv_getI (pc := 231) (ci := 12) (C := R_Book) (T := F_Book) (N := 65) B 17 rfl rfl (by decide) i_Book (B.2.2.2.1 _ k_1860) rfl d_Book_newThing_231 ?_
        refine mv_iload (pc := 234) B d_Book_newThing_234 5 rfl ?_
        refine mv_if_ge (pc := 236) (tgt := 243) B d_Book_newThing_236 rfl (fun h236 => ?_) (fun h236 => ?_)
        · skip
          have a236 : 0 ≤ n9.toInt := Int32.le_iff_toInt_le.mp h236
          refine mv_iload (pc := 243) B d_Book_newThing_243 5 rfl ?_
          refine mv_iast (pc := 245) B rfl (i32_in (x := mv_i σ107 74 17) (by omega) (by omega)) d_Book_newThing_245 ?_
          refine mv_iload (pc := 246) B d_Book_newThing_246 5 rfl ?_
          refine mv_if_le (pc := 248) (tgt := 267) B d_Book_newThing_248 rfl (fun h248 => ?_) (fun h248 => ?_)
          · skip
            have a248 : n9.toInt ≤ 0 := Int32.le_iff_toInt_le.mp h248
            refine mv_aload_n (pc := 267) B d_Book_newThing_267 rfl 0 rfl ?_
            refine mv_dup (pc := 268) B d_Book_newThing_268 rfl ?_
            refine mv_getI (pc := 269) (ci := 12) (C := R_Book) (T := F_Book) (N := 65) B 17 rfl rfl (by decide) i_Book (B.2.2.2.1 _ k_1860) rfl d_Book_newThing_269 ?_
            refine mv_iconst (pc := 272) (v := 1) B d_Book_newThing_272 (by decide) ?_
            refine mv_iadd (pc := 273) B d_Book_newThing_273 ?_
            refine mv_putI (pc := 274) (ci := 12) (C := R_Book) (T := F_Book) (N := 65) B 17 rfl rfl (by decide) i_Book t_Book_ok n_Book (B.2.2.2.1 _ k_1860) rfl rfl rfl rfl d_Book_newThing_274 ?_
            refine mv_lpick [0] rfl ?_
            exact mv_vret (pc := 277) B hr d_Book_newThing_277 (Nat.le_refl _) (Nat.le_refl _) (Or.inl ⟨rfl, _, _, _, _, _, _, hS.thing0 (x := (mv_i σ5 74 49)) (y := (mv_i σ5 74 50)) (w := 0) (f := vp_nar .boolean b9) (z := vp_nar .boolean z9) (c := n9) hth hsp a236 (fun zz ff => (by have y := (hfl zz).resolve_left (fun z => ff (by rw [z]; decide)); first | omega | exact absurd y (by omega))) (by first | exact Or.inl rfl | exact Or.inl (by omega) | exact Or.inr (fun z => by rcases z29 with y | y; exact y.2 (hbn z); omega)) rfl, by omega⟩)
          · skip
            have a248 : ¬ n9.toInt ≤ 0 := fun z => h248 (Int32.le_iff_toInt_le.mpr z)
            refine mv_iload (pc := 251) B d_Book_newThing_251 4 rfl ?_
            refine mv_if_le (pc := 253) (tgt := 267) B d_Book_newThing_253 rfl (fun h253 => ?_) (fun h253 => ?_)
            · skip
              have a253 : v29.toInt ≤ 0 := Int32.le_iff_toInt_le.mp h253
              refine mv_aload_n (pc := 267) B d_Book_newThing_267 rfl 0 rfl ?_
              refine mv_dup (pc := 268) B d_Book_newThing_268 rfl ?_
              refine mv_getI (pc := 269) (ci := 12) (C := R_Book) (T := F_Book) (N := 65) B 17 rfl rfl (by decide) i_Book (B.2.2.2.1 _ k_1860) rfl d_Book_newThing_269 ?_
              refine mv_iconst (pc := 272) (v := 1) B d_Book_newThing_272 (by decide) ?_
              refine mv_iadd (pc := 273) B d_Book_newThing_273 ?_
              refine mv_putI (pc := 274) (ci := 12) (C := R_Book) (T := F_Book) (N := 65) B 17 rfl rfl (by decide) i_Book t_Book_ok n_Book (B.2.2.2.1 _ k_1860) rfl rfl rfl rfl d_Book_newThing_274 ?_
              refine mv_lpick [0] rfl ?_
              exact mv_vret (pc := 277) B hr d_Book_newThing_277 (Nat.le_refl _) (Nat.le_refl _) (Or.inl ⟨rfl, _, _, _, _, _, _, hS.thing0 (x := (mv_i σ5 74 49)) (y := (mv_i σ5 74 50)) (w := 0) (f := vp_nar .boolean b9) (z := vp_nar .boolean z9) (c := n9) hth hsp a236 (fun zz ff => (by have y := (hfl zz).resolve_left (fun z => ff (by rw [z]; decide)); first | omega | exact absurd y (by omega))) (by first | exact Or.inl rfl | exact Or.inl (by omega) | exact Or.inr (fun z => by rcases z29 with y | y; exact y.2 (hbn z); omega)) rfl, by omega⟩)
            · skip
              have a253 : ¬ v29.toInt ≤ 0 := fun z => h253 (Int32.le_iff_toInt_le.mpr z)
              refine mv_aload_n (pc := 256) B d_Book_newThing_256 rfl 0 rfl ?_
              refine mv_dup (pc := 257) B d_Book_newThing_257 rfl ?_
              refine mv_getI (pc := 258) (ci := 12) (C := R_Book) (T := F_Book) (N := 65) B 19 rfl rfl (by decide) i_Book (B.2.2.2.1 _ k_1864) rfl d_Book_newThing_258 ?_
              refine mv_iload (pc := 261) B d_Book_newThing_261 5 rfl ?_
              refine mv_iadd (pc := 263) B d_Book_newThing_263 ?_
              refine mv_putI (pc := 264) (ci := 12) (C := R_Book) (T := F_Book) (N := 65) B 19 rfl rfl (by decide) i_Book t_Book_ok n_Book (B.2.2.2.1 _ k_1864) rfl rfl rfl rfl d_Book_newThing_264 ?_
              refine mv_aload_n (pc := 267) B d_Book_newThing_267 rfl 0 rfl ?_
              refine mv_dup (pc := 268) B d_Book_newThing_268 rfl ?_
              refine mv_getI (pc := 269) (ci := 12) (C := R_Book) (T := F_Book) (N := 65) B 17 rfl rfl (by decide) i_Book (B.2.2.2.1 _ k_1860) rfl d_Book_newThing_269 ?_
              refine mv_iconst (pc := 272) (v := 1) B d_Book_newThing_272 (by decide) ?_
              refine mv_iadd (pc := 273) B d_Book_newThing_273 ?_
              refine mv_putI (pc := 274) (ci := 12) (C := R_Book) (T := F_Book) (N := 65) B 17 rfl rfl (by decide) i_Book t_Book_ok n_Book (B.2.2.2.1 _ k_1860) rfl rfl rfl rfl d_Book_newThing_274 ?_
              refine mv_lpick [0] rfl ?_
              have hv9 : (mv_i σ107 74 19 + n9).toInt = (mv_i σ107 74 19).toInt + n9.toInt := i32_add (by omega) (by omega)
              exact mv_vret (pc := 277) B hr d_Book_newThing_277 (Nat.le_refl _) (Nat.le_refl _) (Or.inl ⟨rfl, _, _, _, _, _, _, hS.thing (x := (mv_i σ5 74 49)) (y := (mv_i σ5 74 50)) (w := 0) (f := vp_nar .boolean b9) (z := vp_nar .boolean z9) (c := n9) (v := mv_i σ107 74 19 + n9) hth hsp a236 (fun zz ff => (by have y := (hfl zz).resolve_left (fun z => ff (by rw [z]; decide)); first | omega | exact absurd y (by omega))) (Or.inl hv9) (by rw [hv9]; omega) rfl, by omega⟩)
        · skip
          have a236 : ¬ 0 ≤ n9.toInt := fun z => h236 (Int32.le_iff_toInt_le.mpr z)
          refine mv_iconst (pc := 239) (v := 0) B d_Book_newThing_239 (by decide) ?_
          refine mv_goto (pc := 240) (tgt := 245) B d_Book_newThing_240 rfl ?_
          refine mv_iast (pc := 245) B rfl (i32_in (x := mv_i σ107 74 17) (by omega) (by omega)) d_Book_newThing_245 ?_
          refine mv_iload (pc := 246) B d_Book_newThing_246 5 rfl ?_
          refine mv_if_le (pc := 248) (tgt := 267) B d_Book_newThing_248 rfl (fun h248 => ?_) (fun h248 => ?_)
          · skip
            have a248 : n9.toInt ≤ 0 := Int32.le_iff_toInt_le.mp h248
            refine mv_aload_n (pc := 267) B d_Book_newThing_267 rfl 0 rfl ?_
            refine mv_dup (pc := 268) B d_Book_newThing_268 rfl ?_
            refine mv_getI (pc := 269) (ci := 12) (C := R_Book) (T := F_Book) (N := 65) B 17 rfl rfl (by decide) i_Book (B.2.2.2.1 _ k_1860) rfl d_Book_newThing_269 ?_
            refine mv_iconst (pc := 272) (v := 1) B d_Book_newThing_272 (by decide) ?_
            refine mv_iadd (pc := 273) B d_Book_newThing_273 ?_
            refine mv_putI (pc := 274) (ci := 12) (C := R_Book) (T := F_Book) (N := 65) B 17 rfl rfl (by decide) i_Book t_Book_ok n_Book (B.2.2.2.1 _ k_1860) rfl rfl rfl rfl d_Book_newThing_274 ?_
            refine mv_lpick [0] rfl ?_
            exact mv_vret (pc := 277) B hr d_Book_newThing_277 (Nat.le_refl _) (Nat.le_refl _) (Or.inl ⟨rfl, _, _, _, _, _, _, hS.thing0 (x := (mv_i σ5 74 49)) (y := (mv_i σ5 74 50)) (w := 0) (f := vp_nar .boolean b9) (z := vp_nar .boolean z9) (c := 0) hth hsp (by decide) (fun zz ff => (by have y := (hfl zz).resolve_left (fun z => ff (by rw [z]; decide)); exact absurd y (by omega))) (by first | exact Or.inl rfl | exact Or.inl (by omega) | exact Or.inr (fun z => by rcases z29 with y | y; exact y.2 (hbn z); omega)) rfl, by omega⟩)
          · skip
            have a248 : ¬ n9.toInt ≤ 0 := fun z => h248 (Int32.le_iff_toInt_le.mpr z)
            refine mv_iload (pc := 251) B d_Book_newThing_251 4 rfl ?_
            refine mv_if_le (pc := 253) (tgt := 267) B d_Book_newThing_253 rfl (fun h253 => ?_) (fun h253 => ?_)
            · skip
              have a253 : v29.toInt ≤ 0 := Int32.le_iff_toInt_le.mp h253
              refine mv_aload_n (pc := 267) B d_Book_newThing_267 rfl 0 rfl ?_
              refine mv_dup (pc := 268) B d_Book_newThing_268 rfl ?_
              refine mv_getI (pc := 269) (ci := 12) (C := R_Book) (T := F_Book) (N := 65) B 17 rfl rfl (by decide) i_Book (B.2.2.2.1 _ k_1860) rfl d_Book_newThing_269 ?_
              refine mv_iconst (pc := 272) (v := 1) B d_Book_newThing_272 (by decide) ?_
              refine mv_iadd (pc := 273) B d_Book_newThing_273 ?_
              refine mv_putI (pc := 274) (ci := 12) (C := R_Book) (T := F_Book) (N := 65) B 17 rfl rfl (by decide) i_Book t_Book_ok n_Book (B.2.2.2.1 _ k_1860) rfl rfl rfl rfl d_Book_newThing_274 ?_
              refine mv_lpick [0] rfl ?_
              exact mv_vret (pc := 277) B hr d_Book_newThing_277 (Nat.le_refl _) (Nat.le_refl _) (Or.inl ⟨rfl, _, _, _, _, _, _, hS.thing0 (x := (mv_i σ5 74 49)) (y := (mv_i σ5 74 50)) (w := 0) (f := vp_nar .boolean b9) (z := vp_nar .boolean z9) (c := 0) hth hsp (by decide) (fun zz ff => (by have y := (hfl zz).resolve_left (fun z => ff (by rw [z]; decide)); exact absurd y (by omega))) (by first | exact Or.inl rfl | exact Or.inl (by omega) | exact Or.inr (fun z => by rcases z29 with y | y; exact y.2 (hbn z); omega)) rfl, by omega⟩)
            · skip
              have a253 : ¬ v29.toInt ≤ 0 := fun z => h253 (Int32.le_iff_toInt_le.mpr z)
              refine mv_aload_n (pc := 256) B d_Book_newThing_256 rfl 0 rfl ?_
              refine mv_dup (pc := 257) B d_Book_newThing_257 rfl ?_
              refine mv_getI (pc := 258) (ci := 12) (C := R_Book) (T := F_Book) (N := 65) B 19 rfl rfl (by decide) i_Book (B.2.2.2.1 _ k_1864) rfl d_Book_newThing_258 ?_
              refine mv_iload (pc := 261) B d_Book_newThing_261 5 rfl ?_
              refine mv_iadd (pc := 263) B d_Book_newThing_263 ?_
              refine mv_putI (pc := 264) (ci := 12) (C := R_Book) (T := F_Book) (N := 65) B 19 rfl rfl (by decide) i_Book t_Book_ok n_Book (B.2.2.2.1 _ k_1864) rfl rfl rfl rfl d_Book_newThing_264 ?_
              refine mv_aload_n (pc := 267) B d_Book_newThing_267 rfl 0 rfl ?_
              refine mv_dup (pc := 268) B d_Book_newThing_268 rfl ?_
              refine mv_getI (pc := 269) (ci := 12) (C := R_Book) (T := F_Book) (N := 65) B 17 rfl rfl (by decide) i_Book (B.2.2.2.1 _ k_1860) rfl d_Book_newThing_269 ?_
              refine mv_iconst (pc := 272) (v := 1) B d_Book_newThing_272 (by decide) ?_
              refine mv_iadd (pc := 273) B d_Book_newThing_273 ?_
              refine mv_putI (pc := 274) (ci := 12) (C := R_Book) (T := F_Book) (N := 65) B 17 rfl rfl (by decide) i_Book t_Book_ok n_Book (B.2.2.2.1 _ k_1860) rfl rfl rfl rfl d_Book_newThing_274 ?_
              refine mv_lpick [0] rfl ?_
              exact absurd a248 (by omega)
    have j157 : mv_V p l e ({ frames := 7, cells := 0, slots := 0, locals := 153 }) s m ([.ref (al 74), .int b9] : List Value).toArray below meth c (mg dA D al ext) 7 0 0 (mv_Q (mg dA D al ext) below s 0 0 (mv_Uv (ZO 74 len b1 σ) ("MachineLoomModel$Book$Wrong", al 107) (BF 74 σ))) σ107 157 [(0, .ref (al 74)), (2, .int (mv_i σ5 74 49))] [] := by
      refine mv_aload_n (pc := 157) B d_Book_newThing_157 rfl 0 rfl ?_
      refine mv_bipush (pc := 158) (v := 6) B d_Book_newThing_158 (by decide) ?_
      refine mv_iload_n (pc := 160) B d_Book_newThing_160 rfl 1 rfl ?_
      refine mv_callVv (pc := 161) (n := 2) (ci := 12) (C := R_Book) B (mK_ok sk sv) hNs rfl rfl (c_Book_fault_x l hi _ _ _ (by decide)) rfl (ma_goodc kc_Book_fault) (B.2.2.2.1 _ k_2185) (B.2.2.2.1 _ k_2187) (B.2.2.2.1 _ ks_92) (B.2.2.2.1 _ k_13) ⟨by decide +kernel, by decide +kernel, by decide +kernel⟩ rfl d_Book_newThing_161 rfl (Nat.le_of_ble_eq_true rfl) ⟨by decide, by decide⟩ ⟨by decide, by decide⟩ ⟨by decide, by decide⟩ (mv_noH hno _) (fun σ161 h161 => ?_)
      have hS := hS.ft (FT.rf.of h161)
      exact mv_vret (pc := 164) B hr d_Book_newThing_164 (Nat.le_refl _) (Nat.le_refl _) (Or.inl ⟨rfl, _, _, _, _, _, _, hS, by omega⟩)
    refine mv_aload_n (pc := 110) B d_Book_newThing_110 rfl 0 rfl ?_
    refine mv_iload_n (pc := 111) B d_Book_newThing_111 rfl 2 rfl ?_
    refine mv_iload_n (pc := 112) B d_Book_newThing_112 rfl 3 rfl ?_
    refine mv_callVi (pc := 113) (n := 2) (ci := 12) (C := R_Book) B (mK_ok sk sv) hNs rfl rfl (c_Book_thing_x l hi _ _ _ len hS.R hS.1.1.2.2.2.2.2 hS.C.1 hsp) rfl (ma_goodc kc_Book_thing) (B.2.2.2.1 _ k_2212) (B.2.2.2.1 _ k_2214) (B.2.2.2.1 _ ks_97) (B.2.2.2.1 _ k_13) ⟨by decide +kernel, by decide +kernel, by decide +kernel⟩ rfl d_Book_newThing_113 rfl (Nat.le_of_ble_eq_true rfl) ⟨by decide, by decide⟩ ⟨by decide, by decide⟩ ⟨by decide, by decide⟩ (mv_noH hno _) (fun v113 σ113 h113 => ?_)
    obtain ⟨e113, z113⟩ := h113
    have e113 := e113.symm
    subst e113
    refine mv_if_lt (pc := 116) (tgt := 126) B d_Book_newThing_116 rfl (fun h116 => ?_) (fun h116 => ?_)
    · skip
      refine mv_aload_n (pc := 126) B d_Book_newThing_126 rfl 0 rfl ?_
      refine mv_getI (pc := 127) (ci := 12) (C := R_Book) (T := F_Book) (N := 65) B 17 rfl rfl (by decide) i_Book (B.2.2.2.1 _ k_1860) rfl d_Book_newThing_127 ?_
      refine mv_bipush (pc := 130) (v := 64) B d_Book_newThing_130 (by decide) ?_
      refine mv_icmp_ge (pc := 132) (tgt := 157) B d_Book_newThing_132 rfl (fun h132 => ?_) (fun h132 => ?_)
      · skip
        refine mv_lpick [0, 2] rfl ?_
        exact j157
      · skip
        have a132 : ¬ 64 ≤ (mv_i σ107 74 17).toInt := fun z => h132 (Int32.le_iff_toInt_le.mpr z)
        refine mv_iload (pc := 135) B d_Book_newThing_135 5 rfl ?_
        refine mv_if_le (pc := 137) (tgt := 165) B d_Book_newThing_137 rfl (fun h137 => ?_) (fun h137 => ?_)
        · skip
          have a137 : n9.toInt ≤ 0 := Int32.le_iff_toInt_le.mp h137
          refine mv_lpick [0, 1, 2, 3, 4, 5, 6] rfl ?_
          exact j165 (by omega) (fun _ _ => by first | (rw [fy151] at a154; exact a154) | omega)
        · skip
          have a137 : ¬ n9.toInt ≤ 0 := fun z => h137 (Int32.le_iff_toInt_le.mpr z)
          refine mv_iload (pc := 140) B d_Book_newThing_140 4 rfl ?_
          refine mv_if_le (pc := 142) (tgt := 165) B d_Book_newThing_142 rfl (fun h142 => ?_) (fun h142 => ?_)
          · skip
            have a142 : v29.toInt ≤ 0 := Int32.le_iff_toInt_le.mp h142
            refine mv_lpick [0, 1, 2, 3, 4, 5, 6] rfl ?_
            exact j165 (by omega) (fun _ _ => by first | (rw [fy151] at a154; exact a154) | omega)
          · skip
            have a142 : ¬ v29.toInt ≤ 0 := fun z => h142 (Int32.le_iff_toInt_le.mpr z)
            have hce := hS.C.2.2.2.2.2.2.1
            refine mv_aload_n (pc := 145) B d_Book_newThing_145 rfl 0 rfl ?_
            refine mv_getI (pc := 146) (ci := 12) (C := R_Book) (T := F_Book) (N := 65) B 19 rfl rfl (by decide) i_Book (B.2.2.2.1 _ k_1864) rfl d_Book_newThing_146 ?_
            refine mv_iload (pc := 149) B d_Book_newThing_149 5 rfl ?_
            refine mv_iadd (pc := 151) B d_Book_newThing_151 ?_
            refine mv_topi (fun y151 ey151 => ?_)
            have fy151 := i32_addE ey151 (by (try simp only [Int32.reduceToInt]); omega) (by (try simp only [Int32.reduceToInt]); omega)
            try simp only [Int32.reduceToInt] at fy151
            refine mv_ldc (pc := 152) (v := 65536) B (B.2.2.2.1 _ k_1842) d_Book_newThing_152 ?_
            refine mv_icmp_le (pc := 154) (tgt := 165) B d_Book_newThing_154 rfl (fun h154 => ?_) (fun h154 => ?_)
            · skip
              have a154 : y151.toInt ≤ 65536 := Int32.le_iff_toInt_le.mp h154
              refine mv_lpick [0, 1, 2, 3, 4, 5, 6] rfl ?_
              exact j165 (by omega) (fun _ _ => by first | (rw [fy151] at a154; exact a154) | omega)
            · skip
              refine mv_lpick [0, 2] rfl ?_
              exact j157
    · skip
      refine mv_aload_n (pc := 119) B d_Book_newThing_119 rfl 0 rfl ?_
      refine mv_iconst (pc := 120) (v := 2) B d_Book_newThing_120 (by decide) ?_
      refine mv_iload_n (pc := 121) B d_Book_newThing_121 rfl 2 rfl ?_
      refine mv_callVv (pc := 122) (n := 2) (ci := 12) (C := R_Book) B (mK_ok sk sv) hNs rfl rfl (c_Book_fault_x l hi _ _ _ (by decide)) rfl (ma_goodc kc_Book_fault) (B.2.2.2.1 _ k_2185) (B.2.2.2.1 _ k_2187) (B.2.2.2.1 _ ks_92) (B.2.2.2.1 _ k_13) ⟨by decide +kernel, by decide +kernel, by decide +kernel⟩ rfl d_Book_newThing_122 rfl (Nat.le_of_ble_eq_true rfl) ⟨by decide, by decide⟩ ⟨by decide, by decide⟩ ⟨by decide, by decide⟩ (mv_noH hno _) (fun σ122 h122 => ?_)
      have hS := hS.ft (FT.rf.of h122)
      exact mv_vret (pc := 125) B hr d_Book_newThing_125 (Nat.le_refl _) (Nat.le_refl _) (Or.inl ⟨rfl, _, _, _, _, _, _, hS, by omega⟩)
  refine mv_istore (pc := 32) B d_Book_newThing_32 (by decide) rfl ?_
  refine mv_iconst (pc := 34) (v := 0) B d_Book_newThing_34 (by decide) ?_
  refine mv_istore (pc := 35) B d_Book_newThing_35 (by decide) rfl ?_
  refine mv_iconst (pc := 37) (v := 0) B d_Book_newThing_37 (by decide) ?_
  refine mv_istore (pc := 38) B d_Book_newThing_38 (by decide) rfl ?_
  refine mv_iload_n (pc := 40) B d_Book_newThing_40 rfl 6 rfl ?_
  refine mv_if_eq (pc := 41) (tgt := 104) B d_Book_newThing_41 rfl (fun h41 => ?_) (fun h41 => ?_)
  · skip
    refine mv_lpick [5, 6, 4, 3, 2, 1, 0] rfl ?_
    exact j104 _ _ _ _ _ hS hbn (by omega) (by first | decide | (rcases z65 with y | y; rw [y.1]; decide; exact y.2)) (by first | exact fun _ => Or.inl h41 | exact fun z => Or.inr (hfl z))
  · skip
    refine mv_aload_n (pc := 44) B d_Book_newThing_44 rfl 5 rfl ?_
    refine mv_bipush (pc := 45) (v := 91) B d_Book_newThing_45 (by decide) ?_
    refine mv_callVUv (pc := 47) (n := 1) (ci := 12) (C := R_Book) B (mK_ok sk sv) hNs rfl rfl (c_Book_need_x l hi _ _ len _ _ hS.1) rfl (ma_goodc kc_Book_need) (B.2.2.2.1 _ k_2177) (B.2.2.2.1 _ k_2179) (B.2.2.2.1 _ ks_91) (B.2.2.2.1 _ k_13) ⟨by decide +kernel, by decide +kernel, by decide +kernel⟩ rfl d_Book_newThing_47 rfl (Nat.le_of_ble_eq_true rfl) ⟨by decide, by decide⟩ ⟨by decide, by decide⟩ ⟨by decide, by decide⟩ (mv_noH hno _) (fun τ9 g9 => Or.inr ⟨rfl, hS.2.2.2.2.2.2.tr g9.bf⟩) (fun σ47 h47 => ?_)
    obtain ⟨k47, d47, t47, u47, q47, g47⟩ := h47
    have w47 := hS.w (by rw [k47]; decide)
    have hS := hS.pass q47 g47
    have hL47 := hS.le
    have hbn := fun (z : (mv_i σ47 74 38).toInt ≤ 0) => hbn (by rw [q47.bn] at z; exact z)
    refine mv_aload_n (pc := 50) B d_Book_newThing_50 rfl 5 rfl ?_
    refine mv_dup (pc := 51) B d_Book_newThing_51 rfl ?_
    refine mv_getI (pc := 52) (ci := 12) (C := R_Book) (T := F_Book) (N := 65) B 8 rfl rfl (by decide) i_Book (B.2.2.2.1 _ k_1851) rfl d_Book_newThing_52 ?_
    refine mv_iconst (pc := 55) (v := 1) B d_Book_newThing_55 (by decide) ?_
    refine mv_iadd (pc := 56) B d_Book_newThing_56 ?_
    refine mv_putI (pc := 57) (ci := 12) (C := R_Book) (T := F_Book) (N := 65) B 8 rfl rfl (by decide) i_Book t_Book_ok n_Book (B.2.2.2.1 _ k_1851) rfl rfl rfl rfl d_Book_newThing_57 ?_
    refine mv_gen (fun S60 eS60 => ?_)
    have hS := hS.dep (hS.up (by omega))
    rw [← eS60] at hS
    have hbn : (mv_i S60 74 38).toInt ≤ 0 → (mv_i σ29 74 38).toInt ≤ 0 := fun z => hbn (by rw [eS60] at z; exact z)
    clear eS60
    refine mv_aload_n (pc := 60) B d_Book_newThing_60 rfl 5 rfl ?_
    refine mv_lconst (pc := 61) (v := 1) B d_Book_newThing_61 (by decide) ?_
    refine mv_ldc2 (pc := 62) (v := 65536) B (B.2.2.2.1 _ k_2210) d_Book_newThing_62 ?_
    refine mv_callVUi (pc := 65) (n := 2) (ci := 12) (C := R_Book) B (mK_ok sk sv) hNs rfl rfl (c_Book_ranged_x l hi _ _ _ (by decide) (by decide) len _ _ hS.1) rfl (ma_goodc kc_Book_ranged) (B.2.2.2.1 _ k_2203) (B.2.2.2.1 _ k_2205) (B.2.2.2.1 _ ks_96) (B.2.2.2.1 _ k_13) ⟨by decide +kernel, by decide +kernel, by decide +kernel⟩ rfl d_Book_newThing_65 rfl (Nat.le_of_ble_eq_true rfl) ⟨by decide, by decide⟩ ⟨by decide, by decide⟩ ⟨by decide, by decide⟩ (mv_noH hno _) (fun τ9 g9 => Or.inr ⟨rfl, hS.2.2.2.2.2.2.tr g9.bf⟩) (fun v65 σ65 h65 => ?_)
    obtain ⟨k65, d65, ⟨t65, u65, q65, g65⟩, f65, b65, z65⟩ := h65
    simp only [Int64.reduceToInt] at z65
    have w65 := hS.w (by rw [k65]; decide)
    have hS := hS.rng q65 g65 f65 b65
    have hL65 := hS.le
    have hbn := fun (z : (mv_i σ65 74 38).toInt ≤ 0) => hbn (b65 z)
    have hfl : (mv_i σ65 74 38).toInt ≤ 0 → 1 ≤ v65.toInt := fun z => z65.elim (fun y => absurd z y.2) (fun y => y.1)
    refine mv_istore (pc := 68) B d_Book_newThing_68 (by decide) rfl ?_
    refine mv_aload_n (pc := 70) B d_Book_newThing_70 rfl 5 rfl ?_
    refine mv_bipush (pc := 71) (v := 93) B d_Book_newThing_71 (by decide) ?_
    refine mv_callVUv (pc := 73) (n := 1) (ci := 12) (C := R_Book) B (mK_ok sk sv) hNs rfl rfl (c_Book_need_x l hi _ _ len _ _ hS.1) rfl (ma_goodc kc_Book_need) (B.2.2.2.1 _ k_2177) (B.2.2.2.1 _ k_2179) (B.2.2.2.1 _ ks_91) (B.2.2.2.1 _ k_13) ⟨by decide +kernel, by decide +kernel, by decide +kernel⟩ rfl d_Book_newThing_73 rfl (Nat.le_of_ble_eq_true rfl) ⟨by decide, by decide⟩ ⟨by decide, by decide⟩ ⟨by decide, by decide⟩ (mv_noH hno _) (fun τ9 g9 => Or.inr ⟨rfl, hS.2.2.2.2.2.2.tr g9.bf⟩) (fun σ73 h73 => ?_)
    obtain ⟨k73, d73, t73, u73, q73, g73⟩ := h73
    have w73 := hS.w (by rw [k73]; decide)
    have hS := hS.pass q73 g73
    have hL73 := hS.le
    have hbn := fun (z : (mv_i σ73 74 38).toInt ≤ 0) => hbn (by rw [q73.bn] at z; exact z)
    have hfl := fun (z : (mv_i σ73 74 38).toInt ≤ 0) => hfl (by rw [q73.bn] at z; exact z)
    refine mv_aload_n (pc := 76) B d_Book_newThing_76 rfl 5 rfl ?_
    refine mv_dup (pc := 77) B d_Book_newThing_77 rfl ?_
    refine mv_getI (pc := 78) (ci := 12) (C := R_Book) (T := F_Book) (N := 65) B 8 rfl rfl (by decide) i_Book (B.2.2.2.1 _ k_1851) rfl d_Book_newThing_78 ?_
    refine mv_iconst (pc := 81) (v := 1) B d_Book_newThing_81 (by decide) ?_
    refine mv_isub (pc := 82) B d_Book_newThing_82 ?_
    refine mv_putI (pc := 83) (ci := 12) (C := R_Book) (T := F_Book) (N := 65) B 8 rfl rfl (by decide) i_Book t_Book_ok n_Book (B.2.2.2.1 _ k_1851) rfl rfl rfl rfl d_Book_newThing_83 ?_
    refine mv_gen (fun S86 eS86 => ?_)
    have hS := hS.dep hS.dn
    rw [← eS86] at hS
    have hbn : (mv_i S86 74 38).toInt ≤ 0 → (mv_i σ29 74 38).toInt ≤ 0 := fun z => hbn (by rw [eS86] at z; exact z)
    have hfl : (mv_i S86 74 38).toInt ≤ 0 → 1 ≤ v65.toInt := fun z => hfl (by rw [eS86] at z; exact z)
    clear eS86
    refine mv_aload_n (pc := 86) B d_Book_newThing_86 rfl 5 rfl ?_
    refine mv_ldcwS (pc := 87) B (hNs.2.1 142 (by decide)).1 d_Book_newThing_87 ?_
    refine mv_callVi (pc := 90) (n := 1) (ci := 12) (C := R_Book) B (mK_ok sk sv) hNs rfl rfl (c_Book_is_x l hi _ 142 (by decide) len _ _ hS.1) rfl (ma_goodc kc_Book_is) (B.2.2.2.1 _ k_2163) (B.2.2.2.1 _ k_2165) (B.2.2.2.1 _ ks_88) (B.2.2.2.1 _ k_13) ⟨by decide +kernel, by decide +kernel, by decide +kernel⟩ rfl d_Book_newThing_90 rfl (Nat.le_of_ble_eq_true rfl) ⟨by decide, by decide⟩ ⟨by decide, by decide⟩ ⟨by decide, by decide⟩ (mv_noH hno _) (fun v90 σ90 h90 => ?_)
    obtain ⟨e90, z90⟩ := h90
    have e90 := e90.symm
    subst e90
    refine mv_istore (pc := 93) B d_Book_newThing_93 (by decide) rfl ?_
    refine mv_iload (pc := 95) B d_Book_newThing_95 0 rfl ?_
    refine mv_if_eq (pc := 97) (tgt := 104) B d_Book_newThing_97 rfl (fun h97 => ?_) (fun h97 => ?_)
    · skip
      refine mv_lpick [5, 6, 4, 3, 2, 1, 0] rfl ?_
      exact j104 _ _ _ _ _ hS hbn (by omega) (by first | decide | (rcases z65 with y | y; rw [y.1]; decide; exact y.2)) (by first | exact fun _ => Or.inl h41 | exact fun z => Or.inr (hfl z))
    · skip
      refine mv_aload_n (pc := 100) B d_Book_newThing_100 rfl 5 rfl ?_
      refine mv_callVUv (pc := 101) (n := 0) (ci := 12) (C := R_Book) B (mK_ok sk sv) hNs rfl rfl (c_Book_pass_x l hi _ len _ _ hS.1) rfl (ma_goodc kc_Book_pass) (B.2.2.2.1 _ k_2173) (B.2.2.2.1 _ k_2175) (B.2.2.2.1 _ ks_90) (B.2.2.2.1 _ k_13) ⟨by decide +kernel, by decide +kernel, by decide +kernel⟩ rfl d_Book_newThing_101 rfl (Nat.le_of_ble_eq_true rfl) ⟨by decide, by decide⟩ ⟨by decide, by decide⟩ ⟨by decide, by decide⟩ (mv_noH hno _) (fun τ9 g9 => Or.inr ⟨rfl, hS.2.2.2.2.2.2.tr g9.bf⟩) (fun σ101 h101 => ?_)
      have w101 := hS.w (by rw [(z90.resolve_left h97).2]; decide)
      obtain ⟨d101, t101, u101, q101, g101⟩ := h101
      have hS := hS.pass q101 g101
      have hL101 := hS.le
      have hbn := fun (z : (mv_i σ101 74 38).toInt ≤ 0) => hbn (by rw [q101.bn] at z; exact z)
      have hfl := fun (z : (mv_i σ101 74 38).toInt ≤ 0) => hfl (by rw [q101.bn] at z; exact z)
      refine mv_lpick [5, 6, 4, 3, 2, 1, 0] rfl ?_
      exact j104 _ _ _ _ _ hS hbn (by omega) (by first | decide | (rcases z65 with y | y; rw [y.1]; decide; exact y.2)) (by first | exact fun _ => Or.inl h41 | exact fun z => Or.inr (hfl z))
set_option maxHeartbeats 4000000 in
set_option maxRecDepth 100000 in
theorem c_Book_newThing_y (l : Launch) {dA : FieldType → ClassId} {D : va_G} {al : Nat → Nat} {ext : mv_Sh} {sk sv : Nat → Nat} (hi : mv_inj (mg dA D al ext)) (σ : mv_H) (len th n k cb b1 b2 : Nat) (hP : ZT 108 len σ σ th n k cb 0 b1 b2) (b9 : Int32) (hk : mv_i σ 108 4 = 1) : mv_C l y_Book_newThing (Cond.code y_Book_newThing b_Book_newThing 7 (Option.none : Option Jvm.ClassFile.FieldType) :: ma) ({ frames := 7, cells := 0, slots := 0, locals := 153 }) (mg dA D al ext) (mK sk sv) [.ref (al 108), .int b9] σ (mv_Uv (ZO 108 len b1 σ) ("MachineLoomModel$Book$Wrong", al 141) (BF 108 σ)) := by
  refine mv_C.ofV (cc := b_Book_newThing) (nL := 7) (ret := (Option.none : Option Jvm.ClassFile.FieldType)) (by decide +kernel) rfl hi (Nat.le_of_ble_eq_true rfl) ?_
  intro p e s m below meth c B hNs hr hnm hno
  have hS := hP
  have hL00 := hS.le
  refine mv_aload_n (pc := 0) B d_Book_newThing_0 rfl 0 rfl ?_
  refine mv_callVUv (pc := 1) (n := 0) (ci := 12) (C := R_Book) B (mK_ok sk sv) hNs rfl rfl (c_Book_pass_y l hi _ len _ _ hS.1) rfl (ma_goodc kc_Book_pass) (B.2.2.2.1 _ k_2173) (B.2.2.2.1 _ k_2175) (B.2.2.2.1 _ ks_90) (B.2.2.2.1 _ k_13) ⟨by decide +kernel, by decide +kernel, by decide +kernel⟩ rfl d_Book_newThing_1 rfl (Nat.le_of_ble_eq_true rfl) ⟨by decide, by decide⟩ ⟨by decide, by decide⟩ ⟨by decide, by decide⟩ (mv_noH hno _) (fun τ9 g9 => Or.inr ⟨rfl, hS.2.2.2.2.2.2.tr g9.bf⟩) (fun σ1 h1 => ?_)
  have w1 := hS.w (by rw [hk]; decide)
  obtain ⟨d1, t1, u1, q1, g1⟩ := h1
  have hS := hS.pass q1 g1
  have hL1 := hS.le
  refine mv_aload_n (pc := 4) B d_Book_newThing_4 rfl 0 rfl ?_
  refine mv_callVUv (pc := 5) (n := 0) (ci := 12) (C := R_Book) B (mK_ok sk sv) hNs rfl rfl (c_Book_name_y l hi _ len _ _ hS.1) rfl (ma_goodc kc_Book_name) (B.2.2.2.1 _ k_2194) (B.2.2.2.1 _ k_2196) (B.2.2.2.1 _ ks_94) (B.2.2.2.1 _ k_13) ⟨by decide +kernel, by decide +kernel, by decide +kernel⟩ rfl d_Book_newThing_5 rfl (Nat.le_of_ble_eq_true rfl) ⟨by decide, by decide⟩ ⟨by decide, by decide⟩ ⟨by decide, by decide⟩ (mv_noH hno _) (fun τ9 g9 => Or.inr ⟨rfl, hS.2.2.2.2.2.2.tr g9⟩) (fun σ5 h5 => ?_)
  obtain ⟨k5, d5, ⟨t5, u5, q5, g5⟩, y5⟩ := h5
  have w5 := hS.w (by rw [k5]; decide)
  have hsp := name_sp (c1 := 0) (c2 := 0) y5 hS.1.sp
  have hS := hS.name q5 g5 y5
  have hL5 := hS.le
  refine mv_aload_n (pc := 8) B d_Book_newThing_8 rfl 0 rfl ?_
  refine mv_getI (pc := 9) (ci := 12) (C := R_Book) (T := F_Book) (N := 65) B 49 rfl rfl (by decide) i_Book (B.2.2.2.1 _ k_1898) rfl d_Book_newThing_9 ?_
  refine mv_istore_n (pc := 12) B d_Book_newThing_12 rfl (by decide) rfl ?_
  refine mv_aload_n (pc := 13) B d_Book_newThing_13 rfl 1 rfl ?_
  refine mv_getI (pc := 14) (ci := 12) (C := R_Book) (T := F_Book) (N := 65) B 50 rfl rfl (by decide) i_Book (B.2.2.2.1 _ k_1899) rfl d_Book_newThing_14 ?_
  refine mv_istore_n (pc := 17) B d_Book_newThing_17 rfl (by decide) rfl ?_
  refine mv_aload_n (pc := 18) B d_Book_newThing_18 rfl 2 rfl ?_
  refine mv_bipush (pc := 19) (v := 58) B d_Book_newThing_19 (by decide) ?_
  refine mv_callVUv (pc := 21) (n := 1) (ci := 12) (C := R_Book) B (mK_ok sk sv) hNs rfl rfl (c_Book_need_y l hi _ _ len _ _ hS.1) rfl (ma_goodc kc_Book_need) (B.2.2.2.1 _ k_2177) (B.2.2.2.1 _ k_2179) (B.2.2.2.1 _ ks_91) (B.2.2.2.1 _ k_13) ⟨by decide +kernel, by decide +kernel, by decide +kernel⟩ rfl d_Book_newThing_21 rfl (Nat.le_of_ble_eq_true rfl) ⟨by decide, by decide⟩ ⟨by decide, by decide⟩ ⟨by decide, by decide⟩ (mv_noH hno _) (fun τ9 g9 => Or.inr ⟨rfl, hS.2.2.2.2.2.2.tr g9.bf⟩) (fun σ21 h21 => ?_)
  obtain ⟨k21, d21, t21, u21, q21, g21⟩ := h21
  have w21 := hS.w (by rw [k21]; decide)
  have hS := hS.pass q21 g21
  have hL21 := hS.le
  refine mv_aload_n (pc := 24) B d_Book_newThing_24 rfl 2 rfl ?_
  refine mv_lconst (pc := 25) (v := 1) B d_Book_newThing_25 (by decide) ?_
  refine mv_ldc2 (pc := 26) (v := 64) B (B.2.2.2.1 _ k_2184) d_Book_newThing_26 ?_
  refine mv_callVUi (pc := 29) (n := 2) (ci := 12) (C := R_Book) B (mK_ok sk sv) hNs rfl rfl (c_Book_ranged_y l hi _ _ _ (by decide) (by decide) len _ _ hS.1) rfl (ma_goodc kc_Book_ranged) (B.2.2.2.1 _ k_2203) (B.2.2.2.1 _ k_2205) (B.2.2.2.1 _ ks_96) (B.2.2.2.1 _ k_13) ⟨by decide +kernel, by decide +kernel, by decide +kernel⟩ rfl d_Book_newThing_29 rfl (Nat.le_of_ble_eq_true rfl) ⟨by decide, by decide⟩ ⟨by decide, by decide⟩ ⟨by decide, by decide⟩ (mv_noH hno _) (fun τ9 g9 => Or.inr ⟨rfl, hS.2.2.2.2.2.2.tr g9.bf⟩) (fun v29 σ29 h29 => ?_)
  obtain ⟨k29, d29, ⟨t29, u29, q29, g29⟩, f29, b29, z29⟩ := h29
  simp only [Int64.reduceToInt] at z29
  have w29 := hS.w (by rw [k29]; decide)
  have hS := hS.rng q29 g29 f29 b29
  have hL29 := hS.le
  have hbn : (mv_i σ29 108 38).toInt ≤ 0 → (mv_i σ29 108 38).toInt ≤ 0 := id
  have j104 : ∀ (S9 : mv_H) (t9 : Nat) (u9 : Nat) (n9 : Int32) (z9 : Int32) (hS : ZT 108 len σ S9 th n k cb 0 t9 u9) (hbn : (mv_i S9 108 38).toInt ≤ 0 → (mv_i σ29 108 38).toInt ≤ 0) (ht9 : b1 < t9) (hn9 : n9.toInt ≤ 65536) (hfl : (mv_i S9 108 38).toInt ≤ 0 → b9 = 0 ∨ 1 ≤ n9.toInt), mv_V p l e ({ frames := 7, cells := 0, slots := 0, locals := 153 }) s m ([.ref (al 108), .int b9] : List Value).toArray below meth c (mg dA D al ext) 7 0 0 (mv_Q (mg dA D al ext) below s 0 0 (mv_Uv (ZO 108 len b1 σ) ("MachineLoomModel$Book$Wrong", al 141) (BF 108 σ))) S9 104 [(0, .ref (al 108)), (1, .int b9), (2, .int (mv_i σ5 108 49)), (3, .int (mv_i σ5 108 50)), (4, .int v29), (5, .int n9), (6, .int z9)] [] := by
    intro S9 t9 u9 n9 z9 hS hbn ht9 hn9 hfl
    refine mv_aload_n (pc := 104) B d_Book_newThing_104 rfl 0 rfl ?_
    refine mv_bipush (pc := 105) (v := 59) B d_Book_newThing_105 (by decide) ?_
    refine mv_callVUv (pc := 107) (n := 1) (ci := 12) (C := R_Book) B (mK_ok sk sv) hNs rfl rfl (c_Book_need_y l hi _ _ len _ _ hS.1) rfl (ma_goodc kc_Book_need) (B.2.2.2.1 _ k_2177) (B.2.2.2.1 _ k_2179) (B.2.2.2.1 _ ks_91) (B.2.2.2.1 _ k_13) ⟨by decide +kernel, by decide +kernel, by decide +kernel⟩ rfl d_Book_newThing_107 rfl (Nat.le_of_ble_eq_true rfl) ⟨by decide, by decide⟩ ⟨by decide, by decide⟩ ⟨by decide, by decide⟩ (mv_noH hno _) (fun τ9 g9 => Or.inr ⟨rfl, hS.2.2.2.2.2.2.tr g9.bf⟩) (fun σ107 h107 => ?_)
    obtain ⟨k107, d107, t107, u107, q107, g107⟩ := h107
    have w107 := hS.w (by rw [k107]; decide)
    have hS := hS.pass q107 g107
    have hL107 := hS.le
    have hbn := fun (z : (mv_i σ107 108 38).toInt ≤ 0) => hbn (by rw [q107.bn] at z; exact z)
    have hfl := fun (z : (mv_i σ107 108 38).toInt ≤ 0) => hfl (by rw [q107.bn] at z; exact z)
    have hL110 := hS.le
    have j165 : ∀  (hth : th < 64) (hcl : 0 < n9.toInt → 0 < v29.toInt → (mv_i σ107 108 19).toInt + n9.toInt ≤ 65536), mv_V p l e ({ frames := 7, cells := 0, slots := 0, locals := 153 }) s m ([.ref (al 108), .int b9] : List Value).toArray below meth c (mg dA D al ext) 7 0 0 (mv_Q (mg dA D al ext) below s 0 0 (mv_Uv (ZO 108 len b1 σ) ("MachineLoomModel$Book$Wrong", al 141) (BF 108 σ))) σ107 165 [(0, .ref (al 108)), (1, .int b9), (2, .int (mv_i σ5 108 49)), (3, .int (mv_i σ5 108 50)), (4, .int v29), (5, .int n9), (6, .int z9)] [] := by
      intro hth hcl
      have hce := hS.C.2.2.2.2.2.2.1
      have hcl : ¬ 0 < n9.toInt ∨ ¬ 0 < v29.toInt ∨ (mv_i σ107 108 19).toInt + n9.toInt ≤ 65536 := by
        by_cases y1 : 0 < n9.toInt
        · by_cases y2 : 0 < v29.toInt
          · exact Or.inr (Or.inr (hcl y1 y2))
          · exact Or.inr (Or.inl y2)
        · exact Or.inl y1
      refine mv_aload_n (pc := 165) B d_Book_newThing_165 rfl 0 rfl ?_
      refine mv_getR (pc := 166) (ci := 12) (C := R_Book) (T := F_Book) (N := 65) B 10 rfl rfl (by decide) i_Book (B.2.2.2.1 _ k_1853) rfl (hS.R.1 _ 10 _ rfl) d_Book_newThing_166 ?_
      refine mv_aload_n (pc := 169) B d_Book_newThing_169 rfl 0 rfl ?_
      refine mv_getI (pc := 170) (ci := 12) (C := R_Book) (T := F_Book) (N := 65) B 17 rfl rfl (by decide) i_Book (B.2.2.2.1 _ k_1860) rfl d_Book_newThing_170 ?_
      refine mv_iload_n (pc := 173) B d_Book_newThing_173 rfl 2 rfl ?_
      refine mv_iast (pc := 174) B rfl (i32_in (x := mv_i σ107 108 17) (by omega) (by omega)) d_Book_newThing_174 ?_
      refine mv_aload_n (pc := 175) B d_Book_newThing_175 rfl 0 rfl ?_
      refine mv_getR (pc := 176) (ci := 12) (C := R_Book) (T := F_Book) (N := 65) B 11 rfl rfl (by decide) i_Book (B.2.2.2.1 _ k_1854) rfl (hS.R.1 _ 11 _ rfl) d_Book_newThing_176 ?_
      refine mv_aload_n (pc := 179) B d_Book_newThing_179 rfl 0 rfl ?_
      refine mv_getI (pc := 180) (ci := 12) (C := R_Book) (T := F_Book) (N := 65) B 17 rfl rfl (by decide) i_Book (B.2.2.2.1 _ k_1860) rfl d_Book_newThing_180 ?_
      refine mv_iload_n (pc := 183) B d_Book_newThing_183 rfl 3 rfl ?_
      refine mv_iast (pc := 184) B rfl (i32_in (x := mv_i σ107 108 17) (by omega) (by omega)) d_Book_newThing_184 ?_
      refine mv_aload_n (pc := 185) B d_Book_newThing_185 rfl 0 rfl ?_
      refine mv_getR (pc := 186) (ci := 12) (C := R_Book) (T := F_Book) (N := 65) B 12 rfl rfl (by decide) i_Book (B.2.2.2.1 _ k_1855) rfl (hS.R.1 _ 12 _ rfl) d_Book_newThing_186 ?_
      refine mv_aload_n (pc := 189) B d_Book_newThing_189 rfl 0 rfl ?_
      refine mv_getI (pc := 190) (ci := 12) (C := R_Book) (T := F_Book) (N := 65) B 17 rfl rfl (by decide) i_Book (B.2.2.2.1 _ k_1860) rfl d_Book_newThing_190 ?_
      refine mv_iload (pc := 193) B d_Book_newThing_193 4 rfl ?_
      refine mv_if_ge (pc := 195) (tgt := 202) B d_Book_newThing_195 rfl (fun h195 => ?_) (fun h195 => ?_)
      · skip
        refine mv_iload (pc := 202) B d_Book_newThing_202 4 rfl ?_
        refine mv_iast (pc := 204) B rfl (i32_in (x := mv_i σ107 108 17) (by omega) (by omega)) d_Book_newThing_204 ?_
        refine mv_aload_n (pc := 205) B d_Book_newThing_205 rfl 0 rfl ?_
        refine mv_getR (pc := 206) (ci := 12) (C := R_Book) (T := F_Book) (N := 65) B 15 rfl rfl (by decide) i_Book (B.2.2.2.1 _ k_1858) rfl (hS.R.1 _ 15 _ rfl) d_Book_newThing_206 ?_
        refine mv_aload_n (pc := 209) B d_Book_newThing_209 rfl 0 rfl ?_
        refine mv_getI (pc := 210) (ci := 12) (C := R_Book) (T := F_Book) (N := 65) B 17 rfl rfl (by decide) i_Book (B.2.2.2.1 _ k_1860) rfl d_Book_newThing_210 ?_
        refine mv_iload_n (pc := 213) B d_Book_newThing_213 rfl 1 rfl ?_
        refine mv_zast (pc := 214) B rfl (i32_in (x := mv_i σ107 108 17) (by omega) (by omega)) d_Book_newThing_214 ?_
        refine mv_aload_n (pc := 215) B d_Book_newThing_215 rfl 0 rfl ?_
        refine mv_getR (pc := 216) (ci := 12) (C := R_Book) (T := F_Book) (N := 65) B 16 rfl rfl (by decide) i_Book (B.2.2.2.1 _ k_1859) rfl (hS.R.1 _ 16 _ rfl) d_Book_newThing_216 ?_
        refine mv_aload_n (pc := 219) B d_Book_newThing_219 rfl 0 rfl ?_
        refine mv_getI (pc := 220) (ci := 12) (C := R_Book) (T := F_Book) (N := 65) B 17 rfl rfl (by decide) i_Book (B.2.2.2.1 _ k_1860) rfl d_Book_newThing_220 ?_
        refine mv_iload (pc := 223) B d_Book_newThing_223 6 rfl ?_
        refine mv_zast (pc := 225) B rfl (i32_in (x := mv_i σ107 108 17) (by omega) (by omega)) d_Book_newThing_225 ?_
        refine mv_aload_n (pc := 226) B d_Book_newThing_226 rfl 0 rfl ?_
        refine mv_getR (pc := 227) (ci := 12) (C := R_Book) (T := F_Book) (N := 65) B 13 rfl rfl (by decide) i_Book (B.2.2.2.1 _ k_1856) rfl (hS.R.1 _ 13 _ rfl) d_Book_newThing_227 ?_
        refine mv_aload_n (pc := 230) B d_Book_newThing_230 rfl 0 rfl ?_
        refine mv_getI (pc := 231) (ci := 12) (C := R_Book) (T := F_Book) (N := 65) B 17 rfl rfl (by decide) i_Book (B.2.2.2.1 _ k_1860) rfl d_Book_newThing_231 ?_
        refine mv_iload (pc := 234) B d_Book_newThing_234 5 rfl ?_
        refine mv_if_ge (pc := 236) (tgt := 243) B d_Book_newThing_236 rfl (fun h236 => ?_) (fun h236 => ?_)
        · skip
          have a236 : 0 ≤ n9.toInt := Int32.le_iff_toInt_le.mp h236
          refine mv_iload (pc := 243) B d_Book_newThing_243 5 rfl ?_
          refine mv_iast (pc := 245) B rfl (i32_in (x := mv_i σ107 108 17) (by omega) (by omega)) d_Book_newThing_245 ?_
          refine mv_iload (pc := 246) B d_Book_newThing_246 5 rfl ?_
          refine mv_if_le (pc := 248) (tgt := 267) B d_Book_newThing_248 rfl (fun h248 => ?_) (fun h248 => ?_)
          · skip
            have a248 : n9.toInt ≤ 0 := Int32.le_iff_toInt_le.mp h248
            refine mv_aload_n (pc := 267) B d_Book_newThing_267 rfl 0 rfl ?_
            refine mv_dup (pc := 268) B d_Book_newThing_268 rfl ?_
            refine mv_getI (pc := 269) (ci := 12) (C := R_Book) (T := F_Book) (N := 65) B 17 rfl rfl (by decide) i_Book (B.2.2.2.1 _ k_1860) rfl d_Book_newThing_269 ?_
            refine mv_iconst (pc := 272) (v := 1) B d_Book_newThing_272 (by decide) ?_
            refine mv_iadd (pc := 273) B d_Book_newThing_273 ?_
            refine mv_putI (pc := 274) (ci := 12) (C := R_Book) (T := F_Book) (N := 65) B 17 rfl rfl (by decide) i_Book t_Book_ok n_Book (B.2.2.2.1 _ k_1860) rfl rfl rfl rfl d_Book_newThing_274 ?_
            refine mv_lpick [0] rfl ?_
            exact mv_vret (pc := 277) B hr d_Book_newThing_277 (Nat.le_refl _) (Nat.le_refl _) (Or.inl ⟨rfl, _, _, _, _, _, _, hS.thing0 (x := (mv_i σ5 108 49)) (y := (mv_i σ5 108 50)) (w := v29) (f := vp_nar .boolean b9) (z := vp_nar .boolean z9) (c := n9) hth hsp a236 (fun zz ff => (by have y := (hfl zz).resolve_left (fun z => ff (by rw [z]; decide)); first | omega | exact absurd y (by omega))) (by first | exact Or.inl rfl | exact Or.inl (by omega) | exact Or.inr (fun z => by rcases z29 with y | y; exact y.2 (hbn z); omega)) rfl, by omega⟩)
          · skip
            have a248 : ¬ n9.toInt ≤ 0 := fun z => h248 (Int32.le_iff_toInt_le.mpr z)
            refine mv_iload (pc := 251) B d_Book_newThing_251 4 rfl ?_
            refine mv_if_le (pc := 253) (tgt := 267) B d_Book_newThing_253 rfl (fun h253 => ?_) (fun h253 => ?_)
            · skip
              have a253 : v29.toInt ≤ 0 := Int32.le_iff_toInt_le.mp h253
              refine mv_aload_n (pc := 267) B d_Book_newThing_267 rfl 0 rfl ?_
              refine mv_dup (pc := 268) B d_Book_newThing_268 rfl ?_
              refine mv_getI (pc := 269) (ci := 12) (C := R_Book) (T := F_Book) (N := 65) B 17 rfl rfl (by decide) i_Book (B.2.2.2.1 _ k_1860) rfl d_Book_newThing_269 ?_
              refine mv_iconst (pc := 272) (v := 1) B d_Book_newThing_272 (by decide) ?_
              refine mv_iadd (pc := 273) B d_Book_newThing_273 ?_
              refine mv_putI (pc := 274) (ci := 12) (C := R_Book) (T := F_Book) (N := 65) B 17 rfl rfl (by decide) i_Book t_Book_ok n_Book (B.2.2.2.1 _ k_1860) rfl rfl rfl rfl d_Book_newThing_274 ?_
              refine mv_lpick [0] rfl ?_
              exact mv_vret (pc := 277) B hr d_Book_newThing_277 (Nat.le_refl _) (Nat.le_refl _) (Or.inl ⟨rfl, _, _, _, _, _, _, hS.thing0 (x := (mv_i σ5 108 49)) (y := (mv_i σ5 108 50)) (w := v29) (f := vp_nar .boolean b9) (z := vp_nar .boolean z9) (c := n9) hth hsp a236 (fun zz ff => (by have y := (hfl zz).resolve_left (fun z => ff (by rw [z]; decide)); first | omega | exact absurd y (by omega))) (by first | exact Or.inl rfl | exact Or.inl (by omega) | exact Or.inr (fun z => by rcases z29 with y | y; exact y.2 (hbn z); omega)) rfl, by omega⟩)
            · skip
              have a253 : ¬ v29.toInt ≤ 0 := fun z => h253 (Int32.le_iff_toInt_le.mpr z)
              refine mv_aload_n (pc := 256) B d_Book_newThing_256 rfl 0 rfl ?_
              refine mv_dup (pc := 257) B d_Book_newThing_257 rfl ?_
              refine mv_getI (pc := 258) (ci := 12) (C := R_Book) (T := F_Book) (N := 65) B 19 rfl rfl (by decide) i_Book (B.2.2.2.1 _ k_1864) rfl d_Book_newThing_258 ?_
              refine mv_iload (pc := 261) B d_Book_newThing_261 5 rfl ?_
              refine mv_iadd (pc := 263) B d_Book_newThing_263 ?_
              refine mv_putI (pc := 264) (ci := 12) (C := R_Book) (T := F_Book) (N := 65) B 19 rfl rfl (by decide) i_Book t_Book_ok n_Book (B.2.2.2.1 _ k_1864) rfl rfl rfl rfl d_Book_newThing_264 ?_
              refine mv_aload_n (pc := 267) B d_Book_newThing_267 rfl 0 rfl ?_
              refine mv_dup (pc := 268) B d_Book_newThing_268 rfl ?_
              refine mv_getI (pc := 269) (ci := 12) (C := R_Book) (T := F_Book) (N := 65) B 17 rfl rfl (by decide) i_Book (B.2.2.2.1 _ k_1860) rfl d_Book_newThing_269 ?_
              refine mv_iconst (pc := 272) (v := 1) B d_Book_newThing_272 (by decide) ?_
              refine mv_iadd (pc := 273) B d_Book_newThing_273 ?_
              refine mv_putI (pc := 274) (ci := 12) (C := R_Book) (T := F_Book) (N := 65) B 17 rfl rfl (by decide) i_Book t_Book_ok n_Book (B.2.2.2.1 _ k_1860) rfl rfl rfl rfl d_Book_newThing_274 ?_
              refine mv_lpick [0] rfl ?_
              have hv9 : (mv_i σ107 108 19 + n9).toInt = (mv_i σ107 108 19).toInt + n9.toInt := i32_add (by omega) (by omega)
              exact mv_vret (pc := 277) B hr d_Book_newThing_277 (Nat.le_refl _) (Nat.le_refl _) (Or.inl ⟨rfl, _, _, _, _, _, _, hS.thing (x := (mv_i σ5 108 49)) (y := (mv_i σ5 108 50)) (w := v29) (f := vp_nar .boolean b9) (z := vp_nar .boolean z9) (c := n9) (v := mv_i σ107 108 19 + n9) hth hsp a236 (fun zz ff => (by have y := (hfl zz).resolve_left (fun z => ff (by rw [z]; decide)); first | omega | exact absurd y (by omega))) (Or.inl hv9) (by rw [hv9]; omega) rfl, by omega⟩)
        · skip
          have a236 : ¬ 0 ≤ n9.toInt := fun z => h236 (Int32.le_iff_toInt_le.mpr z)
          refine mv_iconst (pc := 239) (v := 0) B d_Book_newThing_239 (by decide) ?_
          refine mv_goto (pc := 240) (tgt := 245) B d_Book_newThing_240 rfl ?_
          refine mv_iast (pc := 245) B rfl (i32_in (x := mv_i σ107 108 17) (by omega) (by omega)) d_Book_newThing_245 ?_
          refine mv_iload (pc := 246) B d_Book_newThing_246 5 rfl ?_
          refine mv_if_le (pc := 248) (tgt := 267) B d_Book_newThing_248 rfl (fun h248 => ?_) (fun h248 => ?_)
          · skip
            have a248 : n9.toInt ≤ 0 := Int32.le_iff_toInt_le.mp h248
            refine mv_aload_n (pc := 267) B d_Book_newThing_267 rfl 0 rfl ?_
            refine mv_dup (pc := 268) B d_Book_newThing_268 rfl ?_
            refine mv_getI (pc := 269) (ci := 12) (C := R_Book) (T := F_Book) (N := 65) B 17 rfl rfl (by decide) i_Book (B.2.2.2.1 _ k_1860) rfl d_Book_newThing_269 ?_
            refine mv_iconst (pc := 272) (v := 1) B d_Book_newThing_272 (by decide) ?_
            refine mv_iadd (pc := 273) B d_Book_newThing_273 ?_
            refine mv_putI (pc := 274) (ci := 12) (C := R_Book) (T := F_Book) (N := 65) B 17 rfl rfl (by decide) i_Book t_Book_ok n_Book (B.2.2.2.1 _ k_1860) rfl rfl rfl rfl d_Book_newThing_274 ?_
            refine mv_lpick [0] rfl ?_
            exact mv_vret (pc := 277) B hr d_Book_newThing_277 (Nat.le_refl _) (Nat.le_refl _) (Or.inl ⟨rfl, _, _, _, _, _, _, hS.thing0 (x := (mv_i σ5 108 49)) (y := (mv_i σ5 108 50)) (w := v29) (f := vp_nar .boolean b9) (z := vp_nar .boolean z9) (c := 0) hth hsp (by decide) (fun zz ff => (by have y := (hfl zz).resolve_left (fun z => ff (by rw [z]; decide)); exact absurd y (by omega))) (by first | exact Or.inl rfl | exact Or.inl (by omega) | exact Or.inr (fun z => by rcases z29 with y | y; exact y.2 (hbn z); omega)) rfl, by omega⟩)
          · skip
            have a248 : ¬ n9.toInt ≤ 0 := fun z => h248 (Int32.le_iff_toInt_le.mpr z)
            refine mv_iload (pc := 251) B d_Book_newThing_251 4 rfl ?_
            refine mv_if_le (pc := 253) (tgt := 267) B d_Book_newThing_253 rfl (fun h253 => ?_) (fun h253 => ?_)
            · skip
              have a253 : v29.toInt ≤ 0 := Int32.le_iff_toInt_le.mp h253
              refine mv_aload_n (pc := 267) B d_Book_newThing_267 rfl 0 rfl ?_
              refine mv_dup (pc := 268) B d_Book_newThing_268 rfl ?_
              refine mv_getI (pc := 269) (ci := 12) (C := R_Book) (T := F_Book) (N := 65) B 17 rfl rfl (by decide) i_Book (B.2.2.2.1 _ k_1860) rfl d_Book_newThing_269 ?_
              refine mv_iconst (pc := 272) (v := 1) B d_Book_newThing_272 (by decide) ?_
              refine mv_iadd (pc := 273) B d_Book_newThing_273 ?_
              refine mv_putI (pc := 274) (ci := 12) (C := R_Book) (T := F_Book) (N := 65) B 17 rfl rfl (by decide) i_Book t_Book_ok n_Book (B.2.2.2.1 _ k_1860) rfl rfl rfl rfl d_Book_newThing_274 ?_
              refine mv_lpick [0] rfl ?_
              exact mv_vret (pc := 277) B hr d_Book_newThing_277 (Nat.le_refl _) (Nat.le_refl _) (Or.inl ⟨rfl, _, _, _, _, _, _, hS.thing0 (x := (mv_i σ5 108 49)) (y := (mv_i σ5 108 50)) (w := v29) (f := vp_nar .boolean b9) (z := vp_nar .boolean z9) (c := 0) hth hsp (by decide) (fun zz ff => (by have y := (hfl zz).resolve_left (fun z => ff (by rw [z]; decide)); exact absurd y (by omega))) (by first | exact Or.inl rfl | exact Or.inl (by omega) | exact Or.inr (fun z => by rcases z29 with y | y; exact y.2 (hbn z); omega)) rfl, by omega⟩)
            · skip
              have a253 : ¬ v29.toInt ≤ 0 := fun z => h253 (Int32.le_iff_toInt_le.mpr z)
              refine mv_aload_n (pc := 256) B d_Book_newThing_256 rfl 0 rfl ?_
              refine mv_dup (pc := 257) B d_Book_newThing_257 rfl ?_
              refine mv_getI (pc := 258) (ci := 12) (C := R_Book) (T := F_Book) (N := 65) B 19 rfl rfl (by decide) i_Book (B.2.2.2.1 _ k_1864) rfl d_Book_newThing_258 ?_
              refine mv_iload (pc := 261) B d_Book_newThing_261 5 rfl ?_
              refine mv_iadd (pc := 263) B d_Book_newThing_263 ?_
              refine mv_putI (pc := 264) (ci := 12) (C := R_Book) (T := F_Book) (N := 65) B 19 rfl rfl (by decide) i_Book t_Book_ok n_Book (B.2.2.2.1 _ k_1864) rfl rfl rfl rfl d_Book_newThing_264 ?_
              refine mv_aload_n (pc := 267) B d_Book_newThing_267 rfl 0 rfl ?_
              refine mv_dup (pc := 268) B d_Book_newThing_268 rfl ?_
              refine mv_getI (pc := 269) (ci := 12) (C := R_Book) (T := F_Book) (N := 65) B 17 rfl rfl (by decide) i_Book (B.2.2.2.1 _ k_1860) rfl d_Book_newThing_269 ?_
              refine mv_iconst (pc := 272) (v := 1) B d_Book_newThing_272 (by decide) ?_
              refine mv_iadd (pc := 273) B d_Book_newThing_273 ?_
              refine mv_putI (pc := 274) (ci := 12) (C := R_Book) (T := F_Book) (N := 65) B 17 rfl rfl (by decide) i_Book t_Book_ok n_Book (B.2.2.2.1 _ k_1860) rfl rfl rfl rfl d_Book_newThing_274 ?_
              refine mv_lpick [0] rfl ?_
              exact absurd a248 (by omega)
      · skip
        refine mv_iconst (pc := 198) (v := 0) B d_Book_newThing_198 (by decide) ?_
        refine mv_goto (pc := 199) (tgt := 204) B d_Book_newThing_199 rfl ?_
        refine mv_iast (pc := 204) B rfl (i32_in (x := mv_i σ107 108 17) (by omega) (by omega)) d_Book_newThing_204 ?_
        refine mv_aload_n (pc := 205) B d_Book_newThing_205 rfl 0 rfl ?_
        refine mv_getR (pc := 206) (ci := 12) (C := R_Book) (T := F_Book) (N := 65) B 15 rfl rfl (by decide) i_Book (B.2.2.2.1 _ k_1858) rfl (hS.R.1 _ 15 _ rfl) d_Book_newThing_206 ?_
        refine mv_aload_n (pc := 209) B d_Book_newThing_209 rfl 0 rfl ?_
        refine mv_getI (pc := 210) (ci := 12) (C := R_Book) (T := F_Book) (N := 65) B 17 rfl rfl (by decide) i_Book (B.2.2.2.1 _ k_1860) rfl d_Book_newThing_210 ?_
        refine mv_iload_n (pc := 213) B d_Book_newThing_213 rfl 1 rfl ?_
        refine mv_zast (pc := 214) B rfl (i32_in (x := mv_i σ107 108 17) (by omega) (by omega)) d_Book_newThing_214 ?_
        refine mv_aload_n (pc := 215) B d_Book_newThing_215 rfl 0 rfl ?_
        refine mv_getR (pc := 216) (ci := 12) (C := R_Book) (T := F_Book) (N := 65) B 16 rfl rfl (by decide) i_Book (B.2.2.2.1 _ k_1859) rfl (hS.R.1 _ 16 _ rfl) d_Book_newThing_216 ?_
        refine mv_aload_n (pc := 219) B d_Book_newThing_219 rfl 0 rfl ?_
        refine mv_getI (pc := 220) (ci := 12) (C := R_Book) (T := F_Book) (N := 65) B 17 rfl rfl (by decide) i_Book (B.2.2.2.1 _ k_1860) rfl d_Book_newThing_220 ?_
        refine mv_iload (pc := 223) B d_Book_newThing_223 6 rfl ?_
        refine mv_zast (pc := 225) B rfl (i32_in (x := mv_i σ107 108 17) (by omega) (by omega)) d_Book_newThing_225 ?_
        refine mv_aload_n (pc := 226) B d_Book_newThing_226 rfl 0 rfl ?_
        refine mv_getR (pc := 227) (ci := 12) (C := R_Book) (T := F_Book) (N := 65) B 13 rfl rfl (by decide) i_Book (B.2.2.2.1 _ k_1856) rfl (hS.R.1 _ 13 _ rfl) d_Book_newThing_227 ?_
        refine mv_aload_n (pc := 230) B d_Book_newThing_230 rfl 0 rfl ?_
        refine mv_getI (pc := 231) (ci := 12) (C := R_Book) (T := F_Book) (N := 65) B 17 rfl rfl (by decide) i_Book (B.2.2.2.1 _ k_1860) rfl d_Book_newThing_231 ?_
        refine mv_iload (pc := 234) B d_Book_newThing_234 5 rfl ?_
        refine mv_if_ge (pc := 236) (tgt := 243) B d_Book_newThing_236 rfl (fun h236 => ?_) (fun h236 => ?_)
        · skip
          have a236 : 0 ≤ n9.toInt := Int32.le_iff_toInt_le.mp h236
          refine mv_iload (pc := 243) B d_Book_newThing_243 5 rfl ?_
          refine mv_iast (pc := 245) B rfl (i32_in (x := mv_i σ107 108 17) (by omega) (by omega)) d_Book_newThing_245 ?_
          refine mv_iload (pc := 246) B d_Book_newThing_246 5 rfl ?_
          refine mv_if_le (pc := 248) (tgt := 267) B d_Book_newThing_248 rfl (fun h248 => ?_) (fun h248 => ?_)
          · skip
            have a248 : n9.toInt ≤ 0 := Int32.le_iff_toInt_le.mp h248
            refine mv_aload_n (pc := 267) B d_Book_newThing_267 rfl 0 rfl ?_
            refine mv_dup (pc := 268) B d_Book_newThing_268 rfl ?_
            refine mv_getI (pc := 269) (ci := 12) (C := R_Book) (T := F_Book) (N := 65) B 17 rfl rfl (by decide) i_Book (B.2.2.2.1 _ k_1860) rfl d_Book_newThing_269 ?_
            refine mv_iconst (pc := 272) (v := 1) B d_Book_newThing_272 (by decide) ?_
            refine mv_iadd (pc := 273) B d_Book_newThing_273 ?_
            refine mv_putI (pc := 274) (ci := 12) (C := R_Book) (T := F_Book) (N := 65) B 17 rfl rfl (by decide) i_Book t_Book_ok n_Book (B.2.2.2.1 _ k_1860) rfl rfl rfl rfl d_Book_newThing_274 ?_
            refine mv_lpick [0] rfl ?_
            exact mv_vret (pc := 277) B hr d_Book_newThing_277 (Nat.le_refl _) (Nat.le_refl _) (Or.inl ⟨rfl, _, _, _, _, _, _, hS.thing0 (x := (mv_i σ5 108 49)) (y := (mv_i σ5 108 50)) (w := 0) (f := vp_nar .boolean b9) (z := vp_nar .boolean z9) (c := n9) hth hsp a236 (fun zz ff => (by have y := (hfl zz).resolve_left (fun z => ff (by rw [z]; decide)); first | omega | exact absurd y (by omega))) (by first | exact Or.inl rfl | exact Or.inl (by omega) | exact Or.inr (fun z => by rcases z29 with y | y; exact y.2 (hbn z); omega)) rfl, by omega⟩)
          · skip
            have a248 : ¬ n9.toInt ≤ 0 := fun z => h248 (Int32.le_iff_toInt_le.mpr z)
            refine mv_iload (pc := 251) B d_Book_newThing_251 4 rfl ?_
            refine mv_if_le (pc := 253) (tgt := 267) B d_Book_newThing_253 rfl (fun h253 => ?_) (fun h253 => ?_)
            · skip
              have a253 : v29.toInt ≤ 0 := Int32.le_iff_toInt_le.mp h253
              refine mv_aload_n (pc := 267) B d_Book_newThing_267 rfl 0 rfl ?_
              refine mv_dup (pc := 268) B d_Book_newThing_268 rfl ?_
              refine mv_getI (pc := 269) (ci := 12) (C := R_Book) (T := F_Book) (N := 65) B 17 rfl rfl (by decide) i_Book (B.2.2.2.1 _ k_1860) rfl d_Book_newThing_269 ?_
              refine mv_iconst (pc := 272) (v := 1) B d_Book_newThing_272 (by decide) ?_
              refine mv_iadd (pc := 273) B d_Book_newThing_273 ?_
              refine mv_putI (pc := 274) (ci := 12) (C := R_Book) (T := F_Book) (N := 65) B 17 rfl rfl (by decide) i_Book t_Book_ok n_Book (B.2.2.2.1 _ k_1860) rfl rfl rfl rfl d_Book_newThing_274 ?_
              refine mv_lpick [0] rfl ?_
              exact mv_vret (pc := 277) B hr d_Book_newThing_277 (Nat.le_refl _) (Nat.le_refl _) (Or.inl ⟨rfl, _, _, _, _, _, _, hS.thing0 (x := (mv_i σ5 108 49)) (y := (mv_i σ5 108 50)) (w := 0) (f := vp_nar .boolean b9) (z := vp_nar .boolean z9) (c := n9) hth hsp a236 (fun zz ff => (by have y := (hfl zz).resolve_left (fun z => ff (by rw [z]; decide)); first | omega | exact absurd y (by omega))) (by first | exact Or.inl rfl | exact Or.inl (by omega) | exact Or.inr (fun z => by rcases z29 with y | y; exact y.2 (hbn z); omega)) rfl, by omega⟩)
            · skip
              have a253 : ¬ v29.toInt ≤ 0 := fun z => h253 (Int32.le_iff_toInt_le.mpr z)
              refine mv_aload_n (pc := 256) B d_Book_newThing_256 rfl 0 rfl ?_
              refine mv_dup (pc := 257) B d_Book_newThing_257 rfl ?_
              refine mv_getI (pc := 258) (ci := 12) (C := R_Book) (T := F_Book) (N := 65) B 19 rfl rfl (by decide) i_Book (B.2.2.2.1 _ k_1864) rfl d_Book_newThing_258 ?_
              refine mv_iload (pc := 261) B d_Book_newThing_261 5 rfl ?_
              refine mv_iadd (pc := 263) B d_Book_newThing_263 ?_
              refine mv_putI (pc := 264) (ci := 12) (C := R_Book) (T := F_Book) (N := 65) B 19 rfl rfl (by decide) i_Book t_Book_ok n_Book (B.2.2.2.1 _ k_1864) rfl rfl rfl rfl d_Book_newThing_264 ?_
              refine mv_aload_n (pc := 267) B d_Book_newThing_267 rfl 0 rfl ?_
              refine mv_dup (pc := 268) B d_Book_newThing_268 rfl ?_
              refine mv_getI (pc := 269) (ci := 12) (C := R_Book) (T := F_Book) (N := 65) B 17 rfl rfl (by decide) i_Book (B.2.2.2.1 _ k_1860) rfl d_Book_newThing_269 ?_
              refine mv_iconst (pc := 272) (v := 1) B d_Book_newThing_272 (by decide) ?_
              refine mv_iadd (pc := 273) B d_Book_newThing_273 ?_
              refine mv_putI (pc := 274) (ci := 12) (C := R_Book) (T := F_Book) (N := 65) B 17 rfl rfl (by decide) i_Book t_Book_ok n_Book (B.2.2.2.1 _ k_1860) rfl rfl rfl rfl d_Book_newThing_274 ?_
              refine mv_lpick [0] rfl ?_
              have hv9 : (mv_i σ107 108 19 + n9).toInt = (mv_i σ107 108 19).toInt + n9.toInt := i32_add (by omega) (by omega)
              exact mv_vret (pc := 277) B hr d_Book_newThing_277 (Nat.le_refl _) (Nat.le_refl _) (Or.inl ⟨rfl, _, _, _, _, _, _, hS.thing (x := (mv_i σ5 108 49)) (y := (mv_i σ5 108 50)) (w := 0) (f := vp_nar .boolean b9) (z := vp_nar .boolean z9) (c := n9) (v := mv_i σ107 108 19 + n9) hth hsp a236 (fun zz ff => (by have y := (hfl zz).resolve_left (fun z => ff (by rw [z]; decide)); first | omega | exact absurd y (by omega))) (Or.inl hv9) (by rw [hv9]; omega) rfl, by omega⟩)
        · skip
          have a236 : ¬ 0 ≤ n9.toInt := fun z => h236 (Int32.le_iff_toInt_le.mpr z)
          refine mv_iconst (pc := 239) (v := 0) B d_Book_newThing_239 (by decide) ?_
          refine mv_goto (pc := 240) (tgt := 245) B d_Book_newThing_240 rfl ?_
          refine mv_iast (pc := 245) B rfl (i32_in (x := mv_i σ107 108 17) (by omega) (by omega)) d_Book_newThing_245 ?_
          refine mv_iload (pc := 246) B d_Book_newThing_246 5 rfl ?_
          refine mv_if_le (pc := 248) (tgt := 267) B d_Book_newThing_248 rfl (fun h248 => ?_) (fun h248 => ?_)
          · skip
            have a248 : n9.toInt ≤ 0 := Int32.le_iff_toInt_le.mp h248
            refine mv_aload_n (pc := 267) B d_Book_newThing_267 rfl 0 rfl ?_
            refine mv_dup (pc := 268) B d_Book_newThing_268 rfl ?_
            refine mv_getI (pc := 269) (ci := 12) (C := R_Book) (T := F_Book) (N := 65) B 17 rfl rfl (by decide) i_Book (B.2.2.2.1 _ k_1860) rfl d_Book_newThing_269 ?_
            refine mv_iconst (pc := 272) (v := 1) B d_Book_newThing_272 (by decide) ?_
            refine mv_iadd (pc := 273) B d_Book_newThing_273 ?_
            refine mv_putI (pc := 274) (ci := 12) (C := R_Book) (T := F_Book) (N := 65) B 17 rfl rfl (by decide) i_Book t_Book_ok n_Book (B.2.2.2.1 _ k_1860) rfl rfl rfl rfl d_Book_newThing_274 ?_
            refine mv_lpick [0] rfl ?_
            exact mv_vret (pc := 277) B hr d_Book_newThing_277 (Nat.le_refl _) (Nat.le_refl _) (Or.inl ⟨rfl, _, _, _, _, _, _, hS.thing0 (x := (mv_i σ5 108 49)) (y := (mv_i σ5 108 50)) (w := 0) (f := vp_nar .boolean b9) (z := vp_nar .boolean z9) (c := 0) hth hsp (by decide) (fun zz ff => (by have y := (hfl zz).resolve_left (fun z => ff (by rw [z]; decide)); exact absurd y (by omega))) (by first | exact Or.inl rfl | exact Or.inl (by omega) | exact Or.inr (fun z => by rcases z29 with y | y; exact y.2 (hbn z); omega)) rfl, by omega⟩)
          · skip
            have a248 : ¬ n9.toInt ≤ 0 := fun z => h248 (Int32.le_iff_toInt_le.mpr z)
            refine mv_iload (pc := 251) B d_Book_newThing_251 4 rfl ?_
            refine mv_if_le (pc := 253) (tgt := 267) B d_Book_newThing_253 rfl (fun h253 => ?_) (fun h253 => ?_)
            · skip
              have a253 : v29.toInt ≤ 0 := Int32.le_iff_toInt_le.mp h253
              refine mv_aload_n (pc := 267) B d_Book_newThing_267 rfl 0 rfl ?_
              refine mv_dup (pc := 268) B d_Book_newThing_268 rfl ?_
              refine mv_getI (pc := 269) (ci := 12) (C := R_Book) (T := F_Book) (N := 65) B 17 rfl rfl (by decide) i_Book (B.2.2.2.1 _ k_1860) rfl d_Book_newThing_269 ?_
              refine mv_iconst (pc := 272) (v := 1) B d_Book_newThing_272 (by decide) ?_
              refine mv_iadd (pc := 273) B d_Book_newThing_273 ?_
              refine mv_putI (pc := 274) (ci := 12) (C := R_Book) (T := F_Book) (N := 65) B 17 rfl rfl (by decide) i_Book t_Book_ok n_Book (B.2.2.2.1 _ k_1860) rfl rfl rfl rfl d_Book_newThing_274 ?_
              refine mv_lpick [0] rfl ?_
              exact mv_vret (pc := 277) B hr d_Book_newThing_277 (Nat.le_refl _) (Nat.le_refl _) (Or.inl ⟨rfl, _, _, _, _, _, _, hS.thing0 (x := (mv_i σ5 108 49)) (y := (mv_i σ5 108 50)) (w := 0) (f := vp_nar .boolean b9) (z := vp_nar .boolean z9) (c := 0) hth hsp (by decide) (fun zz ff => (by have y := (hfl zz).resolve_left (fun z => ff (by rw [z]; decide)); exact absurd y (by omega))) (by first | exact Or.inl rfl | exact Or.inl (by omega) | exact Or.inr (fun z => by rcases z29 with y | y; exact y.2 (hbn z); omega)) rfl, by omega⟩)
            · skip
              have a253 : ¬ v29.toInt ≤ 0 := fun z => h253 (Int32.le_iff_toInt_le.mpr z)
              refine mv_aload_n (pc := 256) B d_Book_newThing_256 rfl 0 rfl ?_
              refine mv_dup (pc := 257) B d_Book_newThing_257 rfl ?_
              refine mv_getI (pc := 258) (ci := 12) (C := R_Book) (T := F_Book) (N := 65) B 19 rfl rfl (by decide) i_Book (B.2.2.2.1 _ k_1864) rfl d_Book_newThing_258 ?_
              refine mv_iload (pc := 261) B d_Book_newThing_261 5 rfl ?_
              refine mv_iadd (pc := 263) B d_Book_newThing_263 ?_
              refine mv_putI (pc := 264) (ci := 12) (C := R_Book) (T := F_Book) (N := 65) B 19 rfl rfl (by decide) i_Book t_Book_ok n_Book (B.2.2.2.1 _ k_1864) rfl rfl rfl rfl d_Book_newThing_264 ?_
              refine mv_aload_n (pc := 267) B d_Book_newThing_267 rfl 0 rfl ?_
              refine mv_dup (pc := 268) B d_Book_newThing_268 rfl ?_
              refine mv_getI (pc := 269) (ci := 12) (C := R_Book) (T := F_Book) (N := 65) B 17 rfl rfl (by decide) i_Book (B.2.2.2.1 _ k_1860) rfl d_Book_newThing_269 ?_
              refine mv_iconst (pc := 272) (v := 1) B d_Book_newThing_272 (by decide) ?_
              refine mv_iadd (pc := 273) B d_Book_newThing_273 ?_
              refine mv_putI (pc := 274) (ci := 12) (C := R_Book) (T := F_Book) (N := 65) B 17 rfl rfl (by decide) i_Book t_Book_ok n_Book (B.2.2.2.1 _ k_1860) rfl rfl rfl rfl d_Book_newThing_274 ?_
              refine mv_lpick [0] rfl ?_
              exact absurd a248 (by omega)
    have j157 : mv_V p l e ({ frames := 7, cells := 0, slots := 0, locals := 153 }) s m ([.ref (al 108), .int b9] : List Value).toArray below meth c (mg dA D al ext) 7 0 0 (mv_Q (mg dA D al ext) below s 0 0 (mv_Uv (ZO 108 len b1 σ) ("MachineLoomModel$Book$Wrong", al 141) (BF 108 σ))) σ107 157 [(0, .ref (al 108)), (2, .int (mv_i σ5 108 49))] [] := by
      refine mv_aload_n (pc := 157) B d_Book_newThing_157 rfl 0 rfl ?_
      refine mv_bipush (pc := 158) (v := 6) B d_Book_newThing_158 (by decide) ?_
      refine mv_iload_n (pc := 160) B d_Book_newThing_160 rfl 1 rfl ?_
      refine mv_callVv (pc := 161) (n := 2) (ci := 12) (C := R_Book) B (mK_ok sk sv) hNs rfl rfl (c_Book_fault_y l hi _ _ _ (by decide)) rfl (ma_goodc kc_Book_fault) (B.2.2.2.1 _ k_2185) (B.2.2.2.1 _ k_2187) (B.2.2.2.1 _ ks_92) (B.2.2.2.1 _ k_13) ⟨by decide +kernel, by decide +kernel, by decide +kernel⟩ rfl d_Book_newThing_161 rfl (Nat.le_of_ble_eq_true rfl) ⟨by decide, by decide⟩ ⟨by decide, by decide⟩ ⟨by decide, by decide⟩ (mv_noH hno _) (fun σ161 h161 => ?_)
      have hS := hS.ft (FT.rf.of h161)
      exact mv_vret (pc := 164) B hr d_Book_newThing_164 (Nat.le_refl _) (Nat.le_refl _) (Or.inl ⟨rfl, _, _, _, _, _, _, hS, by omega⟩)
    refine mv_aload_n (pc := 110) B d_Book_newThing_110 rfl 0 rfl ?_
    refine mv_iload_n (pc := 111) B d_Book_newThing_111 rfl 2 rfl ?_
    refine mv_iload_n (pc := 112) B d_Book_newThing_112 rfl 3 rfl ?_
    refine mv_callVi (pc := 113) (n := 2) (ci := 12) (C := R_Book) B (mK_ok sk sv) hNs rfl rfl (c_Book_thing_y l hi _ _ _ len hS.R hS.1.1.2.2.2.2.2 hS.C.1 hsp) rfl (ma_goodc kc_Book_thing) (B.2.2.2.1 _ k_2212) (B.2.2.2.1 _ k_2214) (B.2.2.2.1 _ ks_97) (B.2.2.2.1 _ k_13) ⟨by decide +kernel, by decide +kernel, by decide +kernel⟩ rfl d_Book_newThing_113 rfl (Nat.le_of_ble_eq_true rfl) ⟨by decide, by decide⟩ ⟨by decide, by decide⟩ ⟨by decide, by decide⟩ (mv_noH hno _) (fun v113 σ113 h113 => ?_)
    obtain ⟨e113, z113⟩ := h113
    have e113 := e113.symm
    subst e113
    refine mv_if_lt (pc := 116) (tgt := 126) B d_Book_newThing_116 rfl (fun h116 => ?_) (fun h116 => ?_)
    · skip
      refine mv_aload_n (pc := 126) B d_Book_newThing_126 rfl 0 rfl ?_
      refine mv_getI (pc := 127) (ci := 12) (C := R_Book) (T := F_Book) (N := 65) B 17 rfl rfl (by decide) i_Book (B.2.2.2.1 _ k_1860) rfl d_Book_newThing_127 ?_
      refine mv_bipush (pc := 130) (v := 64) B d_Book_newThing_130 (by decide) ?_
      refine mv_icmp_ge (pc := 132) (tgt := 157) B d_Book_newThing_132 rfl (fun h132 => ?_) (fun h132 => ?_)
      · skip
        refine mv_lpick [0, 2] rfl ?_
        exact j157
      · skip
        have a132 : ¬ 64 ≤ (mv_i σ107 108 17).toInt := fun z => h132 (Int32.le_iff_toInt_le.mpr z)
        refine mv_iload (pc := 135) B d_Book_newThing_135 5 rfl ?_
        refine mv_if_le (pc := 137) (tgt := 165) B d_Book_newThing_137 rfl (fun h137 => ?_) (fun h137 => ?_)
        · skip
          have a137 : n9.toInt ≤ 0 := Int32.le_iff_toInt_le.mp h137
          refine mv_lpick [0, 1, 2, 3, 4, 5, 6] rfl ?_
          exact j165 (by omega) (fun _ _ => by first | (rw [fy151] at a154; exact a154) | omega)
        · skip
          have a137 : ¬ n9.toInt ≤ 0 := fun z => h137 (Int32.le_iff_toInt_le.mpr z)
          refine mv_iload (pc := 140) B d_Book_newThing_140 4 rfl ?_
          refine mv_if_le (pc := 142) (tgt := 165) B d_Book_newThing_142 rfl (fun h142 => ?_) (fun h142 => ?_)
          · skip
            have a142 : v29.toInt ≤ 0 := Int32.le_iff_toInt_le.mp h142
            refine mv_lpick [0, 1, 2, 3, 4, 5, 6] rfl ?_
            exact j165 (by omega) (fun _ _ => by first | (rw [fy151] at a154; exact a154) | omega)
          · skip
            have a142 : ¬ v29.toInt ≤ 0 := fun z => h142 (Int32.le_iff_toInt_le.mpr z)
            have hce := hS.C.2.2.2.2.2.2.1
            refine mv_aload_n (pc := 145) B d_Book_newThing_145 rfl 0 rfl ?_
            refine mv_getI (pc := 146) (ci := 12) (C := R_Book) (T := F_Book) (N := 65) B 19 rfl rfl (by decide) i_Book (B.2.2.2.1 _ k_1864) rfl d_Book_newThing_146 ?_
            refine mv_iload (pc := 149) B d_Book_newThing_149 5 rfl ?_
            refine mv_iadd (pc := 151) B d_Book_newThing_151 ?_
            refine mv_topi (fun y151 ey151 => ?_)
            have fy151 := i32_addE ey151 (by (try simp only [Int32.reduceToInt]); omega) (by (try simp only [Int32.reduceToInt]); omega)
            try simp only [Int32.reduceToInt] at fy151
            refine mv_ldc (pc := 152) (v := 65536) B (B.2.2.2.1 _ k_1842) d_Book_newThing_152 ?_
            refine mv_icmp_le (pc := 154) (tgt := 165) B d_Book_newThing_154 rfl (fun h154 => ?_) (fun h154 => ?_)
            · skip
              have a154 : y151.toInt ≤ 65536 := Int32.le_iff_toInt_le.mp h154
              refine mv_lpick [0, 1, 2, 3, 4, 5, 6] rfl ?_
              exact j165 (by omega) (fun _ _ => by first | (rw [fy151] at a154; exact a154) | omega)
            · skip
              refine mv_lpick [0, 2] rfl ?_
              exact j157
    · skip
      refine mv_aload_n (pc := 119) B d_Book_newThing_119 rfl 0 rfl ?_
      refine mv_iconst (pc := 120) (v := 2) B d_Book_newThing_120 (by decide) ?_
      refine mv_iload_n (pc := 121) B d_Book_newThing_121 rfl 2 rfl ?_
      refine mv_callVv (pc := 122) (n := 2) (ci := 12) (C := R_Book) B (mK_ok sk sv) hNs rfl rfl (c_Book_fault_y l hi _ _ _ (by decide)) rfl (ma_goodc kc_Book_fault) (B.2.2.2.1 _ k_2185) (B.2.2.2.1 _ k_2187) (B.2.2.2.1 _ ks_92) (B.2.2.2.1 _ k_13) ⟨by decide +kernel, by decide +kernel, by decide +kernel⟩ rfl d_Book_newThing_122 rfl (Nat.le_of_ble_eq_true rfl) ⟨by decide, by decide⟩ ⟨by decide, by decide⟩ ⟨by decide, by decide⟩ (mv_noH hno _) (fun σ122 h122 => ?_)
      have hS := hS.ft (FT.rf.of h122)
      exact mv_vret (pc := 125) B hr d_Book_newThing_125 (Nat.le_refl _) (Nat.le_refl _) (Or.inl ⟨rfl, _, _, _, _, _, _, hS, by omega⟩)
  refine mv_istore (pc := 32) B d_Book_newThing_32 (by decide) rfl ?_
  refine mv_iconst (pc := 34) (v := 0) B d_Book_newThing_34 (by decide) ?_
  refine mv_istore (pc := 35) B d_Book_newThing_35 (by decide) rfl ?_
  refine mv_iconst (pc := 37) (v := 0) B d_Book_newThing_37 (by decide) ?_
  refine mv_istore (pc := 38) B d_Book_newThing_38 (by decide) rfl ?_
  refine mv_iload_n (pc := 40) B d_Book_newThing_40 rfl 6 rfl ?_
  refine mv_if_eq (pc := 41) (tgt := 104) B d_Book_newThing_41 rfl (fun h41 => ?_) (fun h41 => ?_)
  · skip
    refine mv_lpick [5, 6, 4, 3, 2, 1, 0] rfl ?_
    exact j104 _ _ _ _ _ hS hbn (by omega) (by first | decide | (rcases z65 with y | y; rw [y.1]; decide; exact y.2)) (by first | exact fun _ => Or.inl h41 | exact fun z => Or.inr (hfl z))
  · skip
    refine mv_aload_n (pc := 44) B d_Book_newThing_44 rfl 5 rfl ?_
    refine mv_bipush (pc := 45) (v := 91) B d_Book_newThing_45 (by decide) ?_
    refine mv_callVUv (pc := 47) (n := 1) (ci := 12) (C := R_Book) B (mK_ok sk sv) hNs rfl rfl (c_Book_need_y l hi _ _ len _ _ hS.1) rfl (ma_goodc kc_Book_need) (B.2.2.2.1 _ k_2177) (B.2.2.2.1 _ k_2179) (B.2.2.2.1 _ ks_91) (B.2.2.2.1 _ k_13) ⟨by decide +kernel, by decide +kernel, by decide +kernel⟩ rfl d_Book_newThing_47 rfl (Nat.le_of_ble_eq_true rfl) ⟨by decide, by decide⟩ ⟨by decide, by decide⟩ ⟨by decide, by decide⟩ (mv_noH hno _) (fun τ9 g9 => Or.inr ⟨rfl, hS.2.2.2.2.2.2.tr g9.bf⟩) (fun σ47 h47 => ?_)
    obtain ⟨k47, d47, t47, u47, q47, g47⟩ := h47
    have w47 := hS.w (by rw [k47]; decide)
    have hS := hS.pass q47 g47
    have hL47 := hS.le
    have hbn := fun (z : (mv_i σ47 108 38).toInt ≤ 0) => hbn (by rw [q47.bn] at z; exact z)
    refine mv_aload_n (pc := 50) B d_Book_newThing_50 rfl 5 rfl ?_
    refine mv_dup (pc := 51) B d_Book_newThing_51 rfl ?_
    refine mv_getI (pc := 52) (ci := 12) (C := R_Book) (T := F_Book) (N := 65) B 8 rfl rfl (by decide) i_Book (B.2.2.2.1 _ k_1851) rfl d_Book_newThing_52 ?_
    refine mv_iconst (pc := 55) (v := 1) B d_Book_newThing_55 (by decide) ?_
    refine mv_iadd (pc := 56) B d_Book_newThing_56 ?_
    refine mv_putI (pc := 57) (ci := 12) (C := R_Book) (T := F_Book) (N := 65) B 8 rfl rfl (by decide) i_Book t_Book_ok n_Book (B.2.2.2.1 _ k_1851) rfl rfl rfl rfl d_Book_newThing_57 ?_
    refine mv_gen (fun S60 eS60 => ?_)
    have hS := hS.dep (hS.up (by omega))
    rw [← eS60] at hS
    have hbn : (mv_i S60 108 38).toInt ≤ 0 → (mv_i σ29 108 38).toInt ≤ 0 := fun z => hbn (by rw [eS60] at z; exact z)
    clear eS60
    refine mv_aload_n (pc := 60) B d_Book_newThing_60 rfl 5 rfl ?_
    refine mv_lconst (pc := 61) (v := 1) B d_Book_newThing_61 (by decide) ?_
    refine mv_ldc2 (pc := 62) (v := 65536) B (B.2.2.2.1 _ k_2210) d_Book_newThing_62 ?_
    refine mv_callVUi (pc := 65) (n := 2) (ci := 12) (C := R_Book) B (mK_ok sk sv) hNs rfl rfl (c_Book_ranged_y l hi _ _ _ (by decide) (by decide) len _ _ hS.1) rfl (ma_goodc kc_Book_ranged) (B.2.2.2.1 _ k_2203) (B.2.2.2.1 _ k_2205) (B.2.2.2.1 _ ks_96) (B.2.2.2.1 _ k_13) ⟨by decide +kernel, by decide +kernel, by decide +kernel⟩ rfl d_Book_newThing_65 rfl (Nat.le_of_ble_eq_true rfl) ⟨by decide, by decide⟩ ⟨by decide, by decide⟩ ⟨by decide, by decide⟩ (mv_noH hno _) (fun τ9 g9 => Or.inr ⟨rfl, hS.2.2.2.2.2.2.tr g9.bf⟩) (fun v65 σ65 h65 => ?_)
    obtain ⟨k65, d65, ⟨t65, u65, q65, g65⟩, f65, b65, z65⟩ := h65
    simp only [Int64.reduceToInt] at z65
    have w65 := hS.w (by rw [k65]; decide)
    have hS := hS.rng q65 g65 f65 b65
    have hL65 := hS.le
    have hbn := fun (z : (mv_i σ65 108 38).toInt ≤ 0) => hbn (b65 z)
    have hfl : (mv_i σ65 108 38).toInt ≤ 0 → 1 ≤ v65.toInt := fun z => z65.elim (fun y => absurd z y.2) (fun y => y.1)
    refine mv_istore (pc := 68) B d_Book_newThing_68 (by decide) rfl ?_
    refine mv_aload_n (pc := 70) B d_Book_newThing_70 rfl 5 rfl ?_
    refine mv_bipush (pc := 71) (v := 93) B d_Book_newThing_71 (by decide) ?_
    refine mv_callVUv (pc := 73) (n := 1) (ci := 12) (C := R_Book) B (mK_ok sk sv) hNs rfl rfl (c_Book_need_y l hi _ _ len _ _ hS.1) rfl (ma_goodc kc_Book_need) (B.2.2.2.1 _ k_2177) (B.2.2.2.1 _ k_2179) (B.2.2.2.1 _ ks_91) (B.2.2.2.1 _ k_13) ⟨by decide +kernel, by decide +kernel, by decide +kernel⟩ rfl d_Book_newThing_73 rfl (Nat.le_of_ble_eq_true rfl) ⟨by decide, by decide⟩ ⟨by decide, by decide⟩ ⟨by decide, by decide⟩ (mv_noH hno _) (fun τ9 g9 => Or.inr ⟨rfl, hS.2.2.2.2.2.2.tr g9.bf⟩) (fun σ73 h73 => ?_)
    obtain ⟨k73, d73, t73, u73, q73, g73⟩ := h73
    have w73 := hS.w (by rw [k73]; decide)
    have hS := hS.pass q73 g73
    have hL73 := hS.le
    have hbn := fun (z : (mv_i σ73 108 38).toInt ≤ 0) => hbn (by rw [q73.bn] at z; exact z)
    have hfl := fun (z : (mv_i σ73 108 38).toInt ≤ 0) => hfl (by rw [q73.bn] at z; exact z)
    refine mv_aload_n (pc := 76) B d_Book_newThing_76 rfl 5 rfl ?_
    refine mv_dup (pc := 77) B d_Book_newThing_77 rfl ?_
    refine mv_getI (pc := 78) (ci := 12) (C := R_Book) (T := F_Book) (N := 65) B 8 rfl rfl (by decide) i_Book (B.2.2.2.1 _ k_1851) rfl d_Book_newThing_78 ?_
    refine mv_iconst (pc := 81) (v := 1) B d_Book_newThing_81 (by decide) ?_
    refine mv_isub (pc := 82) B d_Book_newThing_82 ?_
    refine mv_putI (pc := 83) (ci := 12) (C := R_Book) (T := F_Book) (N := 65) B 8 rfl rfl (by decide) i_Book t_Book_ok n_Book (B.2.2.2.1 _ k_1851) rfl rfl rfl rfl d_Book_newThing_83 ?_
    refine mv_gen (fun S86 eS86 => ?_)
    have hS := hS.dep hS.dn
    rw [← eS86] at hS
    have hbn : (mv_i S86 108 38).toInt ≤ 0 → (mv_i σ29 108 38).toInt ≤ 0 := fun z => hbn (by rw [eS86] at z; exact z)
    have hfl : (mv_i S86 108 38).toInt ≤ 0 → 1 ≤ v65.toInt := fun z => hfl (by rw [eS86] at z; exact z)
    clear eS86
    refine mv_aload_n (pc := 86) B d_Book_newThing_86 rfl 5 rfl ?_
    refine mv_ldcwS (pc := 87) B (hNs.2.1 142 (by decide)).1 d_Book_newThing_87 ?_
    refine mv_callVi (pc := 90) (n := 1) (ci := 12) (C := R_Book) B (mK_ok sk sv) hNs rfl rfl (c_Book_is_y l hi _ 142 (by decide) len _ _ hS.1) rfl (ma_goodc kc_Book_is) (B.2.2.2.1 _ k_2163) (B.2.2.2.1 _ k_2165) (B.2.2.2.1 _ ks_88) (B.2.2.2.1 _ k_13) ⟨by decide +kernel, by decide +kernel, by decide +kernel⟩ rfl d_Book_newThing_90 rfl (Nat.le_of_ble_eq_true rfl) ⟨by decide, by decide⟩ ⟨by decide, by decide⟩ ⟨by decide, by decide⟩ (mv_noH hno _) (fun v90 σ90 h90 => ?_)
    obtain ⟨e90, z90⟩ := h90
    have e90 := e90.symm
    subst e90
    refine mv_istore (pc := 93) B d_Book_newThing_93 (by decide) rfl ?_
    refine mv_iload (pc := 95) B d_Book_newThing_95 0 rfl ?_
    refine mv_if_eq (pc := 97) (tgt := 104) B d_Book_newThing_97 rfl (fun h97 => ?_) (fun h97 => ?_)
    · skip
      refine mv_lpick [5, 6, 4, 3, 2, 1, 0] rfl ?_
      exact j104 _ _ _ _ _ hS hbn (by omega) (by first | decide | (rcases z65 with y | y; rw [y.1]; decide; exact y.2)) (by first | exact fun _ => Or.inl h41 | exact fun z => Or.inr (hfl z))
    · skip
      refine mv_aload_n (pc := 100) B d_Book_newThing_100 rfl 5 rfl ?_
      refine mv_callVUv (pc := 101) (n := 0) (ci := 12) (C := R_Book) B (mK_ok sk sv) hNs rfl rfl (c_Book_pass_y l hi _ len _ _ hS.1) rfl (ma_goodc kc_Book_pass) (B.2.2.2.1 _ k_2173) (B.2.2.2.1 _ k_2175) (B.2.2.2.1 _ ks_90) (B.2.2.2.1 _ k_13) ⟨by decide +kernel, by decide +kernel, by decide +kernel⟩ rfl d_Book_newThing_101 rfl (Nat.le_of_ble_eq_true rfl) ⟨by decide, by decide⟩ ⟨by decide, by decide⟩ ⟨by decide, by decide⟩ (mv_noH hno _) (fun τ9 g9 => Or.inr ⟨rfl, hS.2.2.2.2.2.2.tr g9.bf⟩) (fun σ101 h101 => ?_)
      have w101 := hS.w (by rw [(z90.resolve_left h97).2]; decide)
      obtain ⟨d101, t101, u101, q101, g101⟩ := h101
      have hS := hS.pass q101 g101
      have hL101 := hS.le
      have hbn := fun (z : (mv_i σ101 108 38).toInt ≤ 0) => hbn (by rw [q101.bn] at z; exact z)
      have hfl := fun (z : (mv_i σ101 108 38).toInt ≤ 0) => hfl (by rw [q101.bn] at z; exact z)
      refine mv_lpick [5, 6, 4, 3, 2, 1, 0] rfl ?_
      exact j104 _ _ _ _ _ hS hbn (by omega) (by first | decide | (rcases z65 with y | y; rw [y.1]; decide; exact y.2)) (by first | exact fun _ => Or.inl h41 | exact fun z => Or.inr (hfl z))
def y_Book_fetch : MethodName := ⟨"MachineLoomModel$Book", "fetch", "()V"⟩
abbrev b_Book_fetch : ByteArray := prog_15_method_45_code
theorem kc_Book_fetch : Cond.code y_Book_fetch b_Book_fetch 8 (Option.none : Option Jvm.ClassFile.FieldType) ∈ ma := ma_of (tb_10 _ (List.mem_of_getElem? (i := 65) rfl)) rfl
theorem k_1867 : (Jvm.Cond.fieldLink "MachineLoomModel$Book" (376 : Nat) "MachineLoomModel$Book" "fetches" "I") ∈ ma := ma_of (tb_8 _ (List.mem_of_getElem? (i := 187) rfl)) rfl
theorem k_1862 : (Jvm.Cond.fieldLink "MachineLoomModel$Book" (39 : Nat) "MachineLoomModel$Book" "fetchThing" "I") ∈ ma := ma_of (tb_8 _ (List.mem_of_getElem? (i := 182) rfl)) rfl
theorem k_1866 : (Jvm.Cond.fieldLink "MachineLoomModel$Book" (46 : Nat) "MachineLoomModel$Book" "fetchFile" "I") ∈ ma := ma_of (tb_8 _ (List.mem_of_getElem? (i := 186) rfl)) rfl
theorem k_2159 : (Jvm.Cond.methodLink "MachineLoomModel$Book" (372 : Nat) ({ cls := "MachineLoomModel$Book", name := "needWord", desc := "(Ljava/lang/String;)V" } : Jvm.MethodName)) ∈ ma := ma_of (tb_9 _ (List.mem_of_getElem? (i := 239) rfl)) rfl
theorem k_2161 : (Jvm.Cond.instanceMethod ({ cls := "MachineLoomModel$Book", name := "needWord", desc := "(Ljava/lang/String;)V" } : Jvm.MethodName)) ∈ ma := ma_of (tb_10 _ (List.mem_of_getElem? (i := 1) rfl)) rfl
theorem ks_87 : Cond.selects "MachineLoomModel$Book" ⟨"MachineLoomModel$Book", "needWord", "(Ljava/lang/String;)V"⟩ ⟨"MachineLoomModel$Book", "needWord", "(Ljava/lang/String;)V"⟩ ∈ ma := ma_sel 87 rfl rfl
theorem d_Book_fetch_0 : decode b_Book_fetch 0 = .ok (.aload_n 0, 1) := by decide +kernel
theorem d_Book_fetch_1 : decode b_Book_fetch 1 = .ok (.getfield 174, 3) := by decide +kernel
theorem d_Book_fetch_4 : decode b_Book_fetch 4 = .ok (.istore_n 1, 1) := by decide +kernel
theorem d_Book_fetch_5 : decode b_Book_fetch 5 = .ok (.aload_n 0, 1) := by decide +kernel
theorem d_Book_fetch_6 : decode b_Book_fetch 6 = .ok (.invokevirtual 203, 3) := by decide +kernel
theorem d_Book_fetch_9 : decode b_Book_fetch 9 = .ok (.aload_n 0, 1) := by decide +kernel
theorem d_Book_fetch_10 : decode b_Book_fetch 10 = .ok (.invokevirtual 356, 3) := by decide +kernel
theorem d_Book_fetch_13 : decode b_Book_fetch 13 = .ok (.aload_n 0, 1) := by decide +kernel
theorem d_Book_fetch_14 : decode b_Book_fetch 14 = .ok (.getfield 350, 3) := by decide +kernel
theorem d_Book_fetch_17 : decode b_Book_fetch 17 = .ok (.istore_n 2, 1) := by decide +kernel
theorem d_Book_fetch_18 : decode b_Book_fetch 18 = .ok (.aload_n 0, 1) := by decide +kernel
theorem d_Book_fetch_19 : decode b_Book_fetch 19 = .ok (.getfield 353, 3) := by decide +kernel
theorem d_Book_fetch_22 : decode b_Book_fetch 22 = .ok (.istore_n 3, 1) := by decide +kernel
theorem d_Book_fetch_23 : decode b_Book_fetch 23 = .ok (.aload_n 0, 1) := by decide +kernel
theorem d_Book_fetch_24 : decode b_Book_fetch 24 = .ok (.ldc_w 370, 3) := by decide +kernel
theorem d_Book_fetch_27 : decode b_Book_fetch 27 = .ok (.invokevirtual 372, 3) := by decide +kernel
theorem d_Book_fetch_30 : decode b_Book_fetch 30 = .ok (.aload_n 0, 1) := by decide +kernel
theorem d_Book_fetch_31 : decode b_Book_fetch 31 = .ok (.invokevirtual 356, 3) := by decide +kernel
theorem d_Book_fetch_34 : decode b_Book_fetch 34 = .ok (.aload_n 0, 1) := by decide +kernel
theorem d_Book_fetch_35 : decode b_Book_fetch 35 = .ok (.bipush 59, 2) := by decide +kernel
theorem d_Book_fetch_37 : decode b_Book_fetch 37 = .ok (.invokevirtual 259, 3) := by decide +kernel
theorem d_Book_fetch_40 : decode b_Book_fetch 40 = .ok (.aload_n 0, 1) := by decide +kernel
theorem d_Book_fetch_41 : decode b_Book_fetch 41 = .ok (.iload_n 2, 1) := by decide +kernel
theorem d_Book_fetch_42 : decode b_Book_fetch 42 = .ok (.iload_n 3, 1) := by decide +kernel
theorem d_Book_fetch_43 : decode b_Book_fetch 43 = .ok (.invokevirtual 315, 3) := by decide +kernel
theorem d_Book_fetch_46 : decode b_Book_fetch 46 = .ok (.istore 4, 2) := by decide +kernel
theorem d_Book_fetch_48 : decode b_Book_fetch 48 = .ok (.aload_n 0, 1) := by decide +kernel
theorem d_Book_fetch_49 : decode b_Book_fetch 49 = .ok (.aload_n 0, 1) := by decide +kernel
theorem d_Book_fetch_50 : decode b_Book_fetch 50 = .ok (.getfield 350, 3) := by decide +kernel
theorem d_Book_fetch_53 : decode b_Book_fetch 53 = .ok (.aload_n 0, 1) := by decide +kernel
theorem d_Book_fetch_54 : decode b_Book_fetch 54 = .ok (.getfield 353, 3) := by decide +kernel
theorem d_Book_fetch_57 : decode b_Book_fetch 57 = .ok (.invokevirtual 315, 3) := by decide +kernel
theorem d_Book_fetch_60 : decode b_Book_fetch 60 = .ok (.istore 5, 2) := by decide +kernel
theorem d_Book_fetch_62 : decode b_Book_fetch 62 = .ok (.iload 4, 2) := by decide +kernel
theorem d_Book_fetch_64 : decode b_Book_fetch 64 = .ok (.ifCond .lt (17), 3) := by decide +kernel
theorem d_Book_fetch_67 : decode b_Book_fetch 67 = .ok (.aload_n 0, 1) := by decide +kernel
theorem d_Book_fetch_68 : decode b_Book_fetch 68 = .ok (.getfield 32, 3) := by decide +kernel
theorem d_Book_fetch_71 : decode b_Book_fetch 71 = .ok (.iload 4, 2) := by decide +kernel
theorem d_Book_fetch_73 : decode b_Book_fetch 73 = .ok (.baload, 1) := by decide +kernel
theorem d_Book_fetch_74 : decode b_Book_fetch 74 = .ok (.ifCond .ne (7), 3) := by decide +kernel
theorem d_Book_fetch_77 : decode b_Book_fetch 77 = .ok (.iconst 1, 1) := by decide +kernel
theorem d_Book_fetch_78 : decode b_Book_fetch 78 = .ok (.goto (4), 3) := by decide +kernel
theorem d_Book_fetch_81 : decode b_Book_fetch 81 = .ok (.iconst 0, 1) := by decide +kernel
theorem d_Book_fetch_82 : decode b_Book_fetch 82 = .ok (.istore 6, 2) := by decide +kernel
theorem d_Book_fetch_84 : decode b_Book_fetch 84 = .ok (.iload 5, 2) := by decide +kernel
theorem d_Book_fetch_86 : decode b_Book_fetch 86 = .ok (.ifCond .lt (39), 3) := by decide +kernel
theorem d_Book_fetch_89 : decode b_Book_fetch 89 = .ok (.aload_n 0, 1) := by decide +kernel
theorem d_Book_fetch_90 : decode b_Book_fetch 90 = .ok (.getfield 32, 3) := by decide +kernel
theorem d_Book_fetch_93 : decode b_Book_fetch 93 = .ok (.iload 5, 2) := by decide +kernel
theorem d_Book_fetch_95 : decode b_Book_fetch 95 = .ok (.baload, 1) := by decide +kernel
theorem d_Book_fetch_96 : decode b_Book_fetch 96 = .ok (.ifCond .eq (29), 3) := by decide +kernel
theorem d_Book_fetch_99 : decode b_Book_fetch 99 = .ok (.aload_n 0, 1) := by decide +kernel
theorem d_Book_fetch_100 : decode b_Book_fetch 100 = .ok (.getfield 23, 3) := by decide +kernel
theorem d_Book_fetch_103 : decode b_Book_fetch 103 = .ok (.iload 5, 2) := by decide +kernel
theorem d_Book_fetch_105 : decode b_Book_fetch 105 = .ok (.iaload, 1) := by decide +kernel
theorem d_Book_fetch_106 : decode b_Book_fetch 106 = .ok (.bipush 8, 2) := by decide +kernel
theorem d_Book_fetch_108 : decode b_Book_fetch 108 = .ok (.if_icmp .eq (13), 3) := by decide +kernel
theorem d_Book_fetch_111 : decode b_Book_fetch 111 = .ok (.aload_n 0, 1) := by decide +kernel
theorem d_Book_fetch_112 : decode b_Book_fetch 112 = .ok (.getfield 23, 3) := by decide +kernel
theorem d_Book_fetch_115 : decode b_Book_fetch 115 = .ok (.iload 5, 2) := by decide +kernel
theorem d_Book_fetch_117 : decode b_Book_fetch 117 = .ok (.iaload, 1) := by decide +kernel
theorem d_Book_fetch_118 : decode b_Book_fetch 118 = .ok (.ifCond .ne (7), 3) := by decide +kernel
theorem d_Book_fetch_121 : decode b_Book_fetch 121 = .ok (.iconst 1, 1) := by decide +kernel
theorem d_Book_fetch_122 : decode b_Book_fetch 122 = .ok (.goto (4), 3) := by decide +kernel
theorem d_Book_fetch_125 : decode b_Book_fetch 125 = .ok (.iconst 0, 1) := by decide +kernel
theorem d_Book_fetch_126 : decode b_Book_fetch 126 = .ok (.istore 7, 2) := by decide +kernel
theorem d_Book_fetch_128 : decode b_Book_fetch 128 = .ok (.iload 6, 2) := by decide +kernel
theorem d_Book_fetch_130 : decode b_Book_fetch 130 = .ok (.ifCond .ne (9), 3) := by decide +kernel
theorem d_Book_fetch_133 : decode b_Book_fetch 133 = .ok (.aload_n 0, 1) := by decide +kernel
theorem d_Book_fetch_134 : decode b_Book_fetch 134 = .ok (.iconst 2, 1) := by decide +kernel
theorem d_Book_fetch_135 : decode b_Book_fetch 135 = .ok (.iload_n 2, 1) := by decide +kernel
theorem d_Book_fetch_136 : decode b_Book_fetch 136 = .ok (.invokevirtual 267, 3) := by decide +kernel
theorem d_Book_fetch_139 : decode b_Book_fetch 139 = .ok (.iload 7, 2) := by decide +kernel
theorem d_Book_fetch_141 : decode b_Book_fetch 141 = .ok (.ifCond .ne (12), 3) := by decide +kernel
theorem d_Book_fetch_144 : decode b_Book_fetch 144 = .ok (.aload_n 0, 1) := by decide +kernel
theorem d_Book_fetch_145 : decode b_Book_fetch 145 = .ok (.iconst 2, 1) := by decide +kernel
theorem d_Book_fetch_146 : decode b_Book_fetch 146 = .ok (.aload_n 0, 1) := by decide +kernel
theorem d_Book_fetch_147 : decode b_Book_fetch 147 = .ok (.getfield 350, 3) := by decide +kernel
theorem d_Book_fetch_150 : decode b_Book_fetch 150 = .ok (.invokevirtual 267, 3) := by decide +kernel
theorem d_Book_fetch_153 : decode b_Book_fetch 153 = .ok (.aload_n 0, 1) := by decide +kernel
theorem d_Book_fetch_154 : decode b_Book_fetch 154 = .ok (.getfield 376, 3) := by decide +kernel
theorem d_Book_fetch_157 : decode b_Book_fetch 157 = .ok (.ifCond .le (10), 3) := by decide +kernel
theorem d_Book_fetch_160 : decode b_Book_fetch 160 = .ok (.aload_n 0, 1) := by decide +kernel
theorem d_Book_fetch_161 : decode b_Book_fetch 161 = .ok (.bipush 6, 2) := by decide +kernel
theorem d_Book_fetch_163 : decode b_Book_fetch 163 = .ok (.iload_n 1, 1) := by decide +kernel
theorem d_Book_fetch_164 : decode b_Book_fetch 164 = .ok (.invokevirtual 267, 3) := by decide +kernel
theorem d_Book_fetch_167 : decode b_Book_fetch 167 = .ok (.aload_n 0, 1) := by decide +kernel
theorem d_Book_fetch_168 : decode b_Book_fetch 168 = .ok (.dup, 1) := by decide +kernel
theorem d_Book_fetch_169 : decode b_Book_fetch 169 = .ok (.getfield 376, 3) := by decide +kernel
theorem d_Book_fetch_172 : decode b_Book_fetch 172 = .ok (.iconst 1, 1) := by decide +kernel
theorem d_Book_fetch_173 : decode b_Book_fetch 173 = .ok (.iadd, 1) := by decide +kernel
theorem d_Book_fetch_174 : decode b_Book_fetch 174 = .ok (.putfield 376, 3) := by decide +kernel
theorem d_Book_fetch_177 : decode b_Book_fetch 177 = .ok (.aload_n 0, 1) := by decide +kernel
theorem d_Book_fetch_178 : decode b_Book_fetch 178 = .ok (.getfield 376, 3) := by decide +kernel
theorem d_Book_fetch_181 : decode b_Book_fetch 181 = .ok (.iconst 1, 1) := by decide +kernel
theorem d_Book_fetch_182 : decode b_Book_fetch 182 = .ok (.if_icmp .gt (13), 3) := by decide +kernel
theorem d_Book_fetch_185 : decode b_Book_fetch 185 = .ok (.iload 6, 2) := by decide +kernel
theorem d_Book_fetch_187 : decode b_Book_fetch 187 = .ok (.ifCond .eq (8), 3) := by decide +kernel
theorem d_Book_fetch_190 : decode b_Book_fetch 190 = .ok (.iload 7, 2) := by decide +kernel
theorem d_Book_fetch_192 : decode b_Book_fetch 192 = .ok (.ifCond .ne (4), 3) := by decide +kernel
theorem d_Book_fetch_195 : decode b_Book_fetch 195 = .ok (.return_, 1) := by decide +kernel
theorem d_Book_fetch_196 : decode b_Book_fetch 196 = .ok (.aload_n 0, 1) := by decide +kernel
theorem d_Book_fetch_197 : decode b_Book_fetch 197 = .ok (.iload 4, 2) := by decide +kernel
theorem d_Book_fetch_199 : decode b_Book_fetch 199 = .ok (.putfield 39, 3) := by decide +kernel
theorem d_Book_fetch_202 : decode b_Book_fetch 202 = .ok (.aload_n 0, 1) := by decide +kernel
theorem d_Book_fetch_203 : decode b_Book_fetch 203 = .ok (.iload 5, 2) := by decide +kernel
theorem d_Book_fetch_205 : decode b_Book_fetch 205 = .ok (.putfield 46, 3) := by decide +kernel
theorem d_Book_fetch_208 : decode b_Book_fetch 208 = .ok (.return_, 1) := by decide +kernel
set_option maxHeartbeats 4000000 in
set_option maxRecDepth 100000 in
theorem c_Book_fetch_x (l : Launch) {dA : FieldType → ClassId} {D : va_G} {al : Nat → Nat} {ext : mv_Sh} {sk sv : Nat → Nat} (hi : mv_inj (mg dA D al ext)) (σ : mv_H) (len th n k cb b1 b2 : Nat) (hP : ZT 74 len σ σ th n k cb 0 b1 b2) (hk : mv_i σ 74 4 = 1) : mv_C l y_Book_fetch (Cond.code y_Book_fetch b_Book_fetch 8 (Option.none : Option Jvm.ClassFile.FieldType) :: ma) ({ frames := 7, cells := 0, slots := 0, locals := 151 }) (mg dA D al ext) (mK sk sv) [.ref (al 74)] σ (mv_Uv (ZO 74 len b1 σ) ("MachineLoomModel$Book$Wrong", al 107) (BF 74 σ)) := by
  refine mv_C.ofV (cc := b_Book_fetch) (nL := 8) (ret := (Option.none : Option Jvm.ClassFile.FieldType)) (by decide +kernel) rfl hi (Nat.le_of_ble_eq_true rfl) ?_
  intro p e s m below meth c B hNs hr hnm hno
  have hS := hP
  have hL00 := hS.le
  refine mv_aload_n (pc := 0) B d_Book_fetch_0 rfl 0 rfl ?_
  refine mv_getI (pc := 1) (ci := 12) (C := R_Book) (T := F_Book) (N := 65) B 5 rfl rfl (by decide) i_Book (B.2.2.2.1 _ k_1848) rfl d_Book_fetch_1 ?_
  refine mv_istore_n (pc := 4) B d_Book_fetch_4 rfl (by decide) rfl ?_
  refine mv_aload_n (pc := 5) B d_Book_fetch_5 rfl 1 rfl ?_
  refine mv_callVUv (pc := 6) (n := 0) (ci := 12) (C := R_Book) B (mK_ok sk sv) hNs rfl rfl (c_Book_pass_x l hi _ len _ _ hS.1) rfl (ma_goodc kc_Book_pass) (B.2.2.2.1 _ k_2173) (B.2.2.2.1 _ k_2175) (B.2.2.2.1 _ ks_90) (B.2.2.2.1 _ k_13) ⟨by decide +kernel, by decide +kernel, by decide +kernel⟩ rfl d_Book_fetch_6 rfl (Nat.le_of_ble_eq_true rfl) ⟨by decide, by decide⟩ ⟨by decide, by decide⟩ ⟨by decide, by decide⟩ (mv_noH hno _) (fun τ9 g9 => Or.inr ⟨rfl, hS.2.2.2.2.2.2.tr g9.bf⟩) (fun σ6 h6 => ?_)
  have w6 := hS.w (by rw [hk]; decide)
  obtain ⟨d6, t6, u6, q6, g6⟩ := h6
  have hS := hS.pass q6 g6
  have hL6 := hS.le
  refine mv_aload_n (pc := 9) B d_Book_fetch_9 rfl 1 rfl ?_
  refine mv_callVUv (pc := 10) (n := 0) (ci := 12) (C := R_Book) B (mK_ok sk sv) hNs rfl rfl (c_Book_name_x l hi _ len _ _ hS.1) rfl (ma_goodc kc_Book_name) (B.2.2.2.1 _ k_2194) (B.2.2.2.1 _ k_2196) (B.2.2.2.1 _ ks_94) (B.2.2.2.1 _ k_13) ⟨by decide +kernel, by decide +kernel, by decide +kernel⟩ rfl d_Book_fetch_10 rfl (Nat.le_of_ble_eq_true rfl) ⟨by decide, by decide⟩ ⟨by decide, by decide⟩ ⟨by decide, by decide⟩ (mv_noH hno _) (fun τ9 g9 => Or.inr ⟨rfl, hS.2.2.2.2.2.2.tr g9⟩) (fun σ10 h10 => ?_)
  obtain ⟨k10, d10, ⟨t10, u10, q10, g10⟩, y10⟩ := h10
  have w10 := hS.w (by rw [k10]; decide)
  have hsp := name_sp (c1 := 0) (c2 := 0) y10 hS.1.sp
  have hS := hS.name q10 g10 y10
  have hL10 := hS.le
  refine mv_aload_n (pc := 13) B d_Book_fetch_13 rfl 1 rfl ?_
  refine mv_getI (pc := 14) (ci := 12) (C := R_Book) (T := F_Book) (N := 65) B 49 rfl rfl (by decide) i_Book (B.2.2.2.1 _ k_1898) rfl d_Book_fetch_14 ?_
  refine mv_istore_n (pc := 17) B d_Book_fetch_17 rfl (by decide) rfl ?_
  refine mv_aload_n (pc := 18) B d_Book_fetch_18 rfl 2 rfl ?_
  refine mv_getI (pc := 19) (ci := 12) (C := R_Book) (T := F_Book) (N := 65) B 50 rfl rfl (by decide) i_Book (B.2.2.2.1 _ k_1899) rfl d_Book_fetch_19 ?_
  refine mv_istore_n (pc := 22) B d_Book_fetch_22 rfl (by decide) rfl ?_
  refine mv_aload_n (pc := 23) B d_Book_fetch_23 rfl 3 rfl ?_
  refine mv_ldcwS (pc := 24) B (hNs.2.1 145 (by decide)).1 d_Book_fetch_24 ?_
  refine mv_callVUv (pc := 27) (n := 1) (ci := 12) (C := R_Book) B (mK_ok sk sv) hNs rfl rfl (c_Book_needWord_x l hi _ 145 (by decide) len _ _ hS.1) rfl (ma_goodc kc_Book_needWord) (B.2.2.2.1 _ k_2159) (B.2.2.2.1 _ k_2161) (B.2.2.2.1 _ ks_87) (B.2.2.2.1 _ k_13) ⟨by decide +kernel, by decide +kernel, by decide +kernel⟩ rfl d_Book_fetch_27 rfl (Nat.le_of_ble_eq_true rfl) ⟨by decide, by decide⟩ ⟨by decide, by decide⟩ ⟨by decide, by decide⟩ (mv_noH hno _) (fun τ9 g9 => Or.inr ⟨rfl, hS.2.2.2.2.2.2.tr g9.bf⟩) (fun σ27 h27 => ?_)
  obtain ⟨k27, d27, t27, u27, q27, g27⟩ := h27
  have w27 := hS.w (by rw [k27]; decide)
  have hS := hS.pass q27 g27
  have hL27 := hS.le
  refine mv_aload_n (pc := 30) B d_Book_fetch_30 rfl 3 rfl ?_
  refine mv_callVUv (pc := 31) (n := 0) (ci := 12) (C := R_Book) B (mK_ok sk sv) hNs rfl rfl (c_Book_name_x l hi _ len _ _ hS.1) rfl (ma_goodc kc_Book_name) (B.2.2.2.1 _ k_2194) (B.2.2.2.1 _ k_2196) (B.2.2.2.1 _ ks_94) (B.2.2.2.1 _ k_13) ⟨by decide +kernel, by decide +kernel, by decide +kernel⟩ rfl d_Book_fetch_31 rfl (Nat.le_of_ble_eq_true rfl) ⟨by decide, by decide⟩ ⟨by decide, by decide⟩ ⟨by decide, by decide⟩ (mv_noH hno _) (fun τ9 g9 => Or.inr ⟨rfl, hS.2.2.2.2.2.2.tr g9⟩) (fun σ31 h31 => ?_)
  obtain ⟨k31, d31, ⟨t31, u31, q31, g31⟩, y31⟩ := h31
  have w31 := hS.w (by rw [k31]; decide)
  have hsp2 := name_sp (c1 := 0) (c2 := 0) y31 hS.1.sp
  have hS := hS.name q31 g31 y31
  have hL31 := hS.le
  refine mv_aload_n (pc := 34) B d_Book_fetch_34 rfl 3 rfl ?_
  refine mv_bipush (pc := 35) (v := 59) B d_Book_fetch_35 (by decide) ?_
  refine mv_callVUv (pc := 37) (n := 1) (ci := 12) (C := R_Book) B (mK_ok sk sv) hNs rfl rfl (c_Book_need_x l hi _ _ len _ _ hS.1) rfl (ma_goodc kc_Book_need) (B.2.2.2.1 _ k_2177) (B.2.2.2.1 _ k_2179) (B.2.2.2.1 _ ks_91) (B.2.2.2.1 _ k_13) ⟨by decide +kernel, by decide +kernel, by decide +kernel⟩ rfl d_Book_fetch_37 rfl (Nat.le_of_ble_eq_true rfl) ⟨by decide, by decide⟩ ⟨by decide, by decide⟩ ⟨by decide, by decide⟩ (mv_noH hno _) (fun τ9 g9 => Or.inr ⟨rfl, hS.2.2.2.2.2.2.tr g9.bf⟩) (fun σ37 h37 => ?_)
  obtain ⟨k37, d37, t37, u37, q37, g37⟩ := h37
  have w37 := hS.w (by rw [k37]; decide)
  have hS := hS.pass q37 g37
  have hL37 := hS.le
  have hsp3 : Sp len (mv_i σ37 74 49) (mv_i σ37 74 50) := by rw [q37.1.1.1 74 49 (by omega) (by omega), q37.1.1.1 74 50 (by omega) (by omega)]; exact hsp2
  refine mv_aload_n (pc := 40) B d_Book_fetch_40 rfl 3 rfl ?_
  refine mv_iload_n (pc := 41) B d_Book_fetch_41 rfl 1 rfl ?_
  refine mv_iload_n (pc := 42) B d_Book_fetch_42 rfl 0 rfl ?_
  refine mv_callVi (pc := 43) (n := 2) (ci := 12) (C := R_Book) B (mK_ok sk sv) hNs rfl rfl (c_Book_thing_x l hi _ _ _ len hS.R hS.1.1.2.2.2.2.2 hS.C.1 hsp) rfl (ma_goodc kc_Book_thing) (B.2.2.2.1 _ k_2212) (B.2.2.2.1 _ k_2214) (B.2.2.2.1 _ ks_97) (B.2.2.2.1 _ k_13) ⟨by decide +kernel, by decide +kernel, by decide +kernel⟩ rfl d_Book_fetch_43 rfl (Nat.le_of_ble_eq_true rfl) ⟨by decide, by decide⟩ ⟨by decide, by decide⟩ ⟨by decide, by decide⟩ (mv_noH hno _) (fun v43 σ43 h43 => ?_)
  obtain ⟨e43, z43⟩ := h43
  have e43 := e43.symm
  subst e43
  refine mv_istore (pc := 46) B d_Book_fetch_46 (by decide) rfl ?_
  refine mv_aload_n (pc := 48) B d_Book_fetch_48 rfl 4 rfl ?_
  refine mv_aload_n (pc := 49) B d_Book_fetch_49 rfl 4 rfl ?_
  refine mv_getI (pc := 50) (ci := 12) (C := R_Book) (T := F_Book) (N := 65) B 49 rfl rfl (by decide) i_Book (B.2.2.2.1 _ k_1898) rfl d_Book_fetch_50 ?_
  refine mv_aload_n (pc := 53) B d_Book_fetch_53 rfl 4 rfl ?_
  refine mv_getI (pc := 54) (ci := 12) (C := R_Book) (T := F_Book) (N := 65) B 50 rfl rfl (by decide) i_Book (B.2.2.2.1 _ k_1899) rfl d_Book_fetch_54 ?_
  refine mv_callVi (pc := 57) (n := 2) (ci := 12) (C := R_Book) B (mK_ok sk sv) hNs rfl rfl (c_Book_thing_x l hi _ _ _ len hS.R hS.1.1.2.2.2.2.2 hS.C.1 hsp3) rfl (ma_goodc kc_Book_thing) (B.2.2.2.1 _ k_2212) (B.2.2.2.1 _ k_2214) (B.2.2.2.1 _ ks_97) (B.2.2.2.1 _ k_13) ⟨by decide +kernel, by decide +kernel, by decide +kernel⟩ rfl d_Book_fetch_57 rfl (Nat.le_of_ble_eq_true rfl) ⟨by decide, by decide⟩ ⟨by decide, by decide⟩ ⟨by decide, by decide⟩ (mv_noH hno _) (fun v57 σ57 h57 => ?_)
  obtain ⟨e57, z57⟩ := h57
  have e57 := e57.symm
  subst e57
  have j195 : ∀ (S9 : mv_H) (hS : ZT 74 len σ S9 th n k cb 0 t37 u37), mv_V p l e ({ frames := 7, cells := 0, slots := 0, locals := 151 }) s m ([.ref (al 74)] : List Value).toArray below meth c (mg dA D al ext) 8 0 0 (mv_Q (mg dA D al ext) below s 0 0 (mv_Uv (ZO 74 len b1 σ) ("MachineLoomModel$Book$Wrong", al 107) (BF 74 σ))) S9 195 [] [] := by
    intro S9 hS
    exact mv_vret (pc := 195) B hr d_Book_fetch_195 (Nat.le_refl _) (Nat.le_refl _) (Or.inl ⟨rfl, _, _, _, _, _, _, hS, by omega⟩)
  have j167 : ∀ (τ : mv_H) (r9 : Int32) (m9 : Int32) (hT : FT 74 σ37 τ) (hr9 : r9 = 0 ∨ (0 ≤ v43.toInt ∧ v43.toInt < (mv_i σ37 74 17).toInt)) (hm9 : m9 = 0 ∨ (0 ≤ v57.toInt ∧ v57.toInt < (mv_i σ37 74 17).toInt)), mv_V p l e ({ frames := 7, cells := 0, slots := 0, locals := 151 }) s m ([.ref (al 74)] : List Value).toArray below meth c (mg dA D al ext) 8 0 0 (mv_Q (mg dA D al ext) below s 0 0 (mv_Uv (ZO 74 len b1 σ) ("MachineLoomModel$Book$Wrong", al 107) (BF 74 σ))) τ 167 [(0, .ref (al 74)), (4, .int v43), (5, .int v57), (6, .int r9), (7, .int m9)] [] := by
    intro τ r9 m9 hT hr9 hm9
    have hS := hS.ft hT
    refine mv_aload_n (pc := 167) B d_Book_fetch_167 rfl 0 rfl ?_
    refine mv_dup (pc := 168) B d_Book_fetch_168 rfl ?_
    refine mv_getI (pc := 169) (ci := 12) (C := R_Book) (T := F_Book) (N := 65) B 22 rfl rfl (by decide) i_Book (B.2.2.2.1 _ k_1867) rfl d_Book_fetch_169 ?_
    refine mv_iconst (pc := 172) (v := 1) B d_Book_fetch_172 (by decide) ?_
    refine mv_iadd (pc := 173) B d_Book_fetch_173 ?_
    refine mv_putI (pc := 174) (ci := 12) (C := R_Book) (T := F_Book) (N := 65) B 22 rfl rfl (by decide) i_Book t_Book_ok n_Book (B.2.2.2.1 _ k_1867) rfl rfl rfl rfl d_Book_fetch_174 ?_
    refine mv_gen (fun S177 eS177 => ?_)
    have hS := hS.i (j := 22) (v := mv_i τ 74 22 + 1) (Or.inl rfl)
    rw [← eS177] at hS
    clear eS177
    refine mv_aload_n (pc := 177) B d_Book_fetch_177 rfl 0 rfl ?_
    refine mv_getI (pc := 178) (ci := 12) (C := R_Book) (T := F_Book) (N := 65) B 22 rfl rfl (by decide) i_Book (B.2.2.2.1 _ k_1867) rfl d_Book_fetch_178 ?_
    refine mv_iconst (pc := 181) (v := 1) B d_Book_fetch_181 (by decide) ?_
    refine mv_icmp_gt (pc := 182) (tgt := 195) B d_Book_fetch_182 rfl (fun h182 => ?_) (fun h182 => ?_)
    · skip
      refine mv_lpick [] rfl ?_
      exact j195 _ hS
    · skip
      refine mv_iload (pc := 185) B d_Book_fetch_185 3 rfl ?_
      refine mv_if_eq (pc := 187) (tgt := 195) B d_Book_fetch_187 rfl (fun h187 => ?_) (fun h187 => ?_)
      · skip
        refine mv_lpick [] rfl ?_
        exact j195 _ hS
      · skip
        have hr9 := hr9.resolve_left h187
        refine mv_iload (pc := 190) B d_Book_fetch_190 4 rfl ?_
        refine mv_if_ne (pc := 192) (tgt := 196) B d_Book_fetch_192 rfl (fun h192 => ?_) (fun h192 => ?_)
        · skip
          have hm9 := hm9.resolve_left h192
          refine mv_aload_n (pc := 196) B d_Book_fetch_196 rfl 0 rfl ?_
          refine mv_iload (pc := 197) B d_Book_fetch_197 1 rfl ?_
          refine mv_putI (pc := 199) (ci := 12) (C := R_Book) (T := F_Book) (N := 65) B 18 rfl rfl (by decide) i_Book t_Book_ok n_Book (B.2.2.2.1 _ k_1862) rfl rfl rfl rfl d_Book_fetch_199 ?_
          refine mv_aload_n (pc := 202) B d_Book_fetch_202 rfl 0 rfl ?_
          refine mv_iload (pc := 203) B d_Book_fetch_203 2 rfl ?_
          refine mv_putI (pc := 205) (ci := 12) (C := R_Book) (T := F_Book) (N := 65) B 21 rfl rfl (by decide) i_Book t_Book_ok n_Book (B.2.2.2.1 _ k_1866) rfl rfl rfl rfl d_Book_fetch_205 ?_
          exact mv_vret (pc := 208) B hr d_Book_fetch_208 (Nat.le_refl _) (Nat.le_refl _) (Or.inl ⟨rfl, _, _, _, _, _, _, hS.fetch (by omega) (by omega), by omega⟩)
        · skip
          refine mv_lpick [] rfl ?_
          exact j195 _ hS
  have j153 : ∀ (τ : mv_H) (p9 : Int32) (r9 : Int32) (m9 : Int32) (hT : FT 74 σ37 τ) (hr9 : r9 = 0 ∨ (0 ≤ v43.toInt ∧ v43.toInt < (mv_i σ37 74 17).toInt)) (hm9 : m9 = 0 ∨ (0 ≤ v57.toInt ∧ v57.toInt < (mv_i σ37 74 17).toInt)), mv_V p l e ({ frames := 7, cells := 0, slots := 0, locals := 151 }) s m ([.ref (al 74)] : List Value).toArray below meth c (mg dA D al ext) 8 0 0 (mv_Q (mg dA D al ext) below s 0 0 (mv_Uv (ZO 74 len b1 σ) ("MachineLoomModel$Book$Wrong", al 107) (BF 74 σ))) τ 153 [(0, .ref (al 74)), (1, .int p9), (4, .int v43), (5, .int v57), (6, .int r9), (7, .int m9)] [] := by
    intro τ p9 r9 m9 hT hr9 hm9
    have hS := hS.ft hT
    refine mv_aload_n (pc := 153) B d_Book_fetch_153 rfl 0 rfl ?_
    refine mv_getI (pc := 154) (ci := 12) (C := R_Book) (T := F_Book) (N := 65) B 22 rfl rfl (by decide) i_Book (B.2.2.2.1 _ k_1867) rfl d_Book_fetch_154 ?_
    refine mv_if_le (pc := 157) (tgt := 167) B d_Book_fetch_157 rfl (fun h157 => ?_) (fun h157 => ?_)
    · skip
      refine mv_lpick [0, 2, 3, 4, 5] rfl ?_
      exact j167 _ _ _ (by first | exact hT | exact hT.of h164) hr9 hm9
    · skip
      refine mv_aload_n (pc := 160) B d_Book_fetch_160 rfl 0 rfl ?_
      refine mv_bipush (pc := 161) (v := 6) B d_Book_fetch_161 (by decide) ?_
      refine mv_iload_n (pc := 163) B d_Book_fetch_163 rfl 1 rfl ?_
      refine mv_callVv (pc := 164) (n := 2) (ci := 12) (C := R_Book) B (mK_ok sk sv) hNs rfl rfl (c_Book_fault_x l hi _ _ _ (by decide)) rfl (ma_goodc kc_Book_fault) (B.2.2.2.1 _ k_2185) (B.2.2.2.1 _ k_2187) (B.2.2.2.1 _ ks_92) (B.2.2.2.1 _ k_13) ⟨by decide +kernel, by decide +kernel, by decide +kernel⟩ rfl d_Book_fetch_164 rfl (Nat.le_of_ble_eq_true rfl) ⟨by decide, by decide⟩ ⟨by decide, by decide⟩ ⟨by decide, by decide⟩ (mv_noH hno _) (fun σ164 h164 => ?_)
      refine mv_lpick [0, 2, 3, 4, 5] rfl ?_
      exact j167 _ _ _ (by first | exact hT | exact hT.of h164) hr9 hm9
  have j139 : ∀ (τ : mv_H) (p9 : Int32) (r9 : Int32) (m9 : Int32) (hT : FT 74 σ37 τ) (hr9 : r9 = 0 ∨ (0 ≤ v43.toInt ∧ v43.toInt < (mv_i σ37 74 17).toInt)) (hm9 : m9 = 0 ∨ (0 ≤ v57.toInt ∧ v57.toInt < (mv_i σ37 74 17).toInt)), mv_V p l e ({ frames := 7, cells := 0, slots := 0, locals := 151 }) s m ([.ref (al 74)] : List Value).toArray below meth c (mg dA D al ext) 8 0 0 (mv_Q (mg dA D al ext) below s 0 0 (mv_Uv (ZO 74 len b1 σ) ("MachineLoomModel$Book$Wrong", al 107) (BF 74 σ))) τ 139 [(0, .ref (al 74)), (1, .int p9), (4, .int v43), (5, .int v57), (6, .int r9), (7, .int m9)] [] := by
    intro τ p9 r9 m9 hT hr9 hm9
    have hS := hS.ft hT
    refine mv_iload (pc := 139) B d_Book_fetch_139 5 rfl ?_
    refine mv_if_ne (pc := 141) (tgt := 153) B d_Book_fetch_141 rfl (fun h141 => ?_) (fun h141 => ?_)
    · skip
      refine mv_lpick [0, 1, 2, 3, 4, 5] rfl ?_
      exact j153 _ _ _ _ (by first | exact hT | exact hT.of h150) hr9 hm9
    · skip
      refine mv_aload_n (pc := 144) B d_Book_fetch_144 rfl 0 rfl ?_
      refine mv_iconst (pc := 145) (v := 2) B d_Book_fetch_145 (by decide) ?_
      refine mv_aload_n (pc := 146) B d_Book_fetch_146 rfl 0 rfl ?_
      refine mv_getI (pc := 147) (ci := 12) (C := R_Book) (T := F_Book) (N := 65) B 49 rfl rfl (by decide) i_Book (B.2.2.2.1 _ k_1898) rfl d_Book_fetch_147 ?_
      refine mv_callVv (pc := 150) (n := 2) (ci := 12) (C := R_Book) B (mK_ok sk sv) hNs rfl rfl (c_Book_fault_x l hi _ _ _ (by decide)) rfl (ma_goodc kc_Book_fault) (B.2.2.2.1 _ k_2185) (B.2.2.2.1 _ k_2187) (B.2.2.2.1 _ ks_92) (B.2.2.2.1 _ k_13) ⟨by decide +kernel, by decide +kernel, by decide +kernel⟩ rfl d_Book_fetch_150 rfl (Nat.le_of_ble_eq_true rfl) ⟨by decide, by decide⟩ ⟨by decide, by decide⟩ ⟨by decide, by decide⟩ (mv_noH hno _) (fun σ150 h150 => ?_)
      refine mv_lpick [0, 1, 2, 3, 4, 5] rfl ?_
      exact j153 _ _ _ _ (by first | exact hT | exact hT.of h150) hr9 hm9
  have j126 : ∀ (p9 : Int32) (a9 : Int32) (r9 : Int32) (m9 : Int32) (hr9 : r9 = 0 ∨ (0 ≤ v43.toInt ∧ v43.toInt < (mv_i σ37 74 17).toInt)) (hm9 : m9 = 0 ∨ (0 ≤ v57.toInt ∧ v57.toInt < (mv_i σ37 74 17).toInt)), mv_V p l e ({ frames := 7, cells := 0, slots := 0, locals := 151 }) s m ([.ref (al 74)] : List Value).toArray below meth c (mg dA D al ext) 8 0 0 (mv_Q (mg dA D al ext) below s 0 0 (mv_Uv (ZO 74 len b1 σ) ("MachineLoomModel$Book$Wrong", al 107) (BF 74 σ))) σ37 126 [(0, .ref (al 74)), (1, .int p9), (2, .int a9), (4, .int v43), (5, .int v57), (6, .int r9)] [.int m9] := by
    intro p9 a9 r9 m9 hr9 hm9
    refine mv_istore (pc := 126) B d_Book_fetch_126 (by decide) rfl ?_
    refine mv_iload (pc := 128) B d_Book_fetch_128 6 rfl ?_
    refine mv_if_ne (pc := 130) (tgt := 139) B d_Book_fetch_130 rfl (fun h130 => ?_) (fun h130 => ?_)
    · skip
      refine mv_lpick [1, 2, 4, 5, 6, 0] rfl ?_
      exact j139 _ _ _ _ (by first | exact FT.rf | exact FT.rf.of h136) hr9 hm9
    · skip
      refine mv_aload_n (pc := 133) B d_Book_fetch_133 rfl 1 rfl ?_
      refine mv_iconst (pc := 134) (v := 2) B d_Book_fetch_134 (by decide) ?_
      refine mv_iload_n (pc := 135) B d_Book_fetch_135 rfl 3 rfl ?_
      refine mv_callVv (pc := 136) (n := 2) (ci := 12) (C := R_Book) B (mK_ok sk sv) hNs rfl rfl (c_Book_fault_x l hi _ _ _ (by decide)) rfl (ma_goodc kc_Book_fault) (B.2.2.2.1 _ k_2185) (B.2.2.2.1 _ k_2187) (B.2.2.2.1 _ ks_92) (B.2.2.2.1 _ k_13) ⟨by decide +kernel, by decide +kernel, by decide +kernel⟩ rfl d_Book_fetch_136 rfl (Nat.le_of_ble_eq_true rfl) ⟨by decide, by decide⟩ ⟨by decide, by decide⟩ ⟨by decide, by decide⟩ (mv_noH hno _) (fun σ136 h136 => ?_)
      refine mv_lpick [1, 2, 4, 5, 6, 0] rfl ?_
      exact j139 _ _ _ _ (by first | exact FT.rf | exact FT.rf.of h136) hr9 hm9
  have j82 : ∀ (p9 : Int32) (a9 : Int32) (r9 : Int32) (hr9 : r9 = 0 ∨ (0 ≤ v43.toInt ∧ v43.toInt < (mv_i σ37 74 17).toInt)), mv_V p l e ({ frames := 7, cells := 0, slots := 0, locals := 151 }) s m ([.ref (al 74)] : List Value).toArray below meth c (mg dA D al ext) 8 0 0 (mv_Q (mg dA D al ext) below s 0 0 (mv_Uv (ZO 74 len b1 σ) ("MachineLoomModel$Book$Wrong", al 107) (BF 74 σ))) σ37 82 [(0, .ref (al 74)), (1, .int p9), (2, .int a9), (4, .int v43), (5, .int v57)] [.int r9] := by
    intro p9 a9 r9 hr9
    refine mv_istore (pc := 82) B d_Book_fetch_82 (by decide) rfl ?_
    refine mv_iload (pc := 84) B d_Book_fetch_84 5 rfl ?_
    refine mv_if_lt (pc := 86) (tgt := 125) B d_Book_fetch_86 rfl (fun h86 => ?_) (fun h86 => ?_)
    · skip
      refine mv_iconst (pc := 125) (v := 0) B d_Book_fetch_125 (by decide) ?_
      refine mv_lpick [1, 2, 3, 4, 5, 0] rfl ?_
      exact j126 _ _ _ _ hr9 (by first | exact Or.inl rfl | exact Or.inr (by omega))
    · skip
      have y57 := z57.resolve_left (fun z => h86 (by rw [z]; decide))
      refine mv_aload_n (pc := 89) B d_Book_fetch_89 rfl 1 rfl ?_
      refine mv_getR (pc := 90) (ci := 12) (C := R_Book) (T := F_Book) (N := 65) B 15 rfl rfl (by decide) i_Book (B.2.2.2.1 _ k_1858) rfl (hS.R.1 _ 15 _ rfl) d_Book_fetch_90 ?_
      refine mv_iload (pc := 93) B d_Book_fetch_93 5 rfl ?_
      refine mv_zald (pc := 95) B rfl (i32_in (show 0 ≤ v57.toInt by omega) (show v57.toInt < 4100 by omega)) d_Book_fetch_95 ?_
      refine mv_if_eq (pc := 96) (tgt := 125) B d_Book_fetch_96 rfl (fun h96 => ?_) (fun h96 => ?_)
      · skip
        refine mv_iconst (pc := 125) (v := 0) B d_Book_fetch_125 (by decide) ?_
        refine mv_lpick [1, 2, 3, 4, 5, 0] rfl ?_
        exact j126 _ _ _ _ hr9 (by first | exact Or.inl rfl | exact Or.inr (by omega))
      · skip
        refine mv_aload_n (pc := 99) B d_Book_fetch_99 rfl 1 rfl ?_
        refine mv_getR (pc := 100) (ci := 12) (C := R_Book) (T := F_Book) (N := 65) B 12 rfl rfl (by decide) i_Book (B.2.2.2.1 _ k_1855) rfl (hS.R.1 _ 12 _ rfl) d_Book_fetch_100 ?_
        refine mv_iload (pc := 103) B d_Book_fetch_103 5 rfl ?_
        refine mv_iald (pc := 105) B rfl (i32_in (show 0 ≤ v57.toInt by omega) (show v57.toInt < 4100 by omega)) d_Book_fetch_105 ?_
        refine mv_bipush (pc := 106) (v := 8) B d_Book_fetch_106 (by decide) ?_
        refine mv_icmp_eq (pc := 108) (tgt := 121) B d_Book_fetch_108 rfl (fun h108 => ?_) (fun h108 => ?_)
        · skip
          refine mv_iconst (pc := 121) (v := 1) B d_Book_fetch_121 (by decide) ?_
          refine mv_goto (pc := 122) (tgt := 126) B d_Book_fetch_122 rfl ?_
          refine mv_lpick [1, 2, 3, 4, 5, 0] rfl ?_
          exact j126 _ _ _ _ hr9 (by first | exact Or.inl rfl | exact Or.inr (by omega))
        · skip
          refine mv_aload_n (pc := 111) B d_Book_fetch_111 rfl 1 rfl ?_
          refine mv_getR (pc := 112) (ci := 12) (C := R_Book) (T := F_Book) (N := 65) B 12 rfl rfl (by decide) i_Book (B.2.2.2.1 _ k_1855) rfl (hS.R.1 _ 12 _ rfl) d_Book_fetch_112 ?_
          refine mv_iload (pc := 115) B d_Book_fetch_115 5 rfl ?_
          refine mv_iald (pc := 117) B rfl (i32_in (show 0 ≤ v57.toInt by omega) (show v57.toInt < 4100 by omega)) d_Book_fetch_117 ?_
          refine mv_if_ne (pc := 118) (tgt := 125) B d_Book_fetch_118 rfl (fun h118 => ?_) (fun h118 => ?_)
          · skip
            refine mv_iconst (pc := 125) (v := 0) B d_Book_fetch_125 (by decide) ?_
            refine mv_lpick [1, 2, 3, 4, 5, 0] rfl ?_
            exact j126 _ _ _ _ hr9 (by first | exact Or.inl rfl | exact Or.inr (by omega))
          · skip
            refine mv_iconst (pc := 121) (v := 1) B d_Book_fetch_121 (by decide) ?_
            refine mv_goto (pc := 122) (tgt := 126) B d_Book_fetch_122 rfl ?_
            refine mv_lpick [1, 2, 3, 4, 5, 0] rfl ?_
            exact j126 _ _ _ _ hr9 (by first | exact Or.inl rfl | exact Or.inr (by omega))
  refine mv_istore (pc := 60) B d_Book_fetch_60 (by decide) rfl ?_
  refine mv_iload (pc := 62) B d_Book_fetch_62 1 rfl ?_
  refine mv_if_lt (pc := 64) (tgt := 81) B d_Book_fetch_64 rfl (fun h64 => ?_) (fun h64 => ?_)
  · skip
    refine mv_iconst (pc := 81) (v := 0) B d_Book_fetch_81 (by decide) ?_
    refine mv_lpick [5, 4, 3, 1, 0] rfl ?_
    exact j82 _ _ _ (by first | exact Or.inl rfl | exact Or.inr (by omega))
  · skip
    have y43 := z43.resolve_left (fun z => h64 (by rw [z]; decide))
    refine mv_aload_n (pc := 67) B d_Book_fetch_67 rfl 5 rfl ?_
    refine mv_getR (pc := 68) (ci := 12) (C := R_Book) (T := F_Book) (N := 65) B 15 rfl rfl (by decide) i_Book (B.2.2.2.1 _ k_1858) rfl (hS.R.1 _ 15 _ rfl) d_Book_fetch_68 ?_
    refine mv_iload (pc := 71) B d_Book_fetch_71 1 rfl ?_
    refine mv_zald (pc := 73) B rfl (i32_in (show 0 ≤ v43.toInt by omega) (show v43.toInt < 4100 by omega)) d_Book_fetch_73 ?_
    refine mv_if_ne (pc := 74) (tgt := 81) B d_Book_fetch_74 rfl (fun h74 => ?_) (fun h74 => ?_)
    · skip
      refine mv_iconst (pc := 81) (v := 0) B d_Book_fetch_81 (by decide) ?_
      refine mv_lpick [5, 4, 3, 1, 0] rfl ?_
      exact j82 _ _ _ (by first | exact Or.inl rfl | exact Or.inr (by omega))
    · skip
      refine mv_iconst (pc := 77) (v := 1) B d_Book_fetch_77 (by decide) ?_
      refine mv_goto (pc := 78) (tgt := 82) B d_Book_fetch_78 rfl ?_
      refine mv_lpick [5, 4, 3, 1, 0] rfl ?_
      exact j82 _ _ _ (by first | exact Or.inl rfl | exact Or.inr (by omega))
set_option maxHeartbeats 4000000 in
set_option maxRecDepth 100000 in
theorem c_Book_fetch_y (l : Launch) {dA : FieldType → ClassId} {D : va_G} {al : Nat → Nat} {ext : mv_Sh} {sk sv : Nat → Nat} (hi : mv_inj (mg dA D al ext)) (σ : mv_H) (len th n k cb b1 b2 : Nat) (hP : ZT 108 len σ σ th n k cb 0 b1 b2) (hk : mv_i σ 108 4 = 1) : mv_C l y_Book_fetch (Cond.code y_Book_fetch b_Book_fetch 8 (Option.none : Option Jvm.ClassFile.FieldType) :: ma) ({ frames := 7, cells := 0, slots := 0, locals := 151 }) (mg dA D al ext) (mK sk sv) [.ref (al 108)] σ (mv_Uv (ZO 108 len b1 σ) ("MachineLoomModel$Book$Wrong", al 141) (BF 108 σ)) := by
  refine mv_C.ofV (cc := b_Book_fetch) (nL := 8) (ret := (Option.none : Option Jvm.ClassFile.FieldType)) (by decide +kernel) rfl hi (Nat.le_of_ble_eq_true rfl) ?_
  intro p e s m below meth c B hNs hr hnm hno
  have hS := hP
  have hL00 := hS.le
  refine mv_aload_n (pc := 0) B d_Book_fetch_0 rfl 0 rfl ?_
  refine mv_getI (pc := 1) (ci := 12) (C := R_Book) (T := F_Book) (N := 65) B 5 rfl rfl (by decide) i_Book (B.2.2.2.1 _ k_1848) rfl d_Book_fetch_1 ?_
  refine mv_istore_n (pc := 4) B d_Book_fetch_4 rfl (by decide) rfl ?_
  refine mv_aload_n (pc := 5) B d_Book_fetch_5 rfl 1 rfl ?_
  refine mv_callVUv (pc := 6) (n := 0) (ci := 12) (C := R_Book) B (mK_ok sk sv) hNs rfl rfl (c_Book_pass_y l hi _ len _ _ hS.1) rfl (ma_goodc kc_Book_pass) (B.2.2.2.1 _ k_2173) (B.2.2.2.1 _ k_2175) (B.2.2.2.1 _ ks_90) (B.2.2.2.1 _ k_13) ⟨by decide +kernel, by decide +kernel, by decide +kernel⟩ rfl d_Book_fetch_6 rfl (Nat.le_of_ble_eq_true rfl) ⟨by decide, by decide⟩ ⟨by decide, by decide⟩ ⟨by decide, by decide⟩ (mv_noH hno _) (fun τ9 g9 => Or.inr ⟨rfl, hS.2.2.2.2.2.2.tr g9.bf⟩) (fun σ6 h6 => ?_)
  have w6 := hS.w (by rw [hk]; decide)
  obtain ⟨d6, t6, u6, q6, g6⟩ := h6
  have hS := hS.pass q6 g6
  have hL6 := hS.le
  refine mv_aload_n (pc := 9) B d_Book_fetch_9 rfl 1 rfl ?_
  refine mv_callVUv (pc := 10) (n := 0) (ci := 12) (C := R_Book) B (mK_ok sk sv) hNs rfl rfl (c_Book_name_y l hi _ len _ _ hS.1) rfl (ma_goodc kc_Book_name) (B.2.2.2.1 _ k_2194) (B.2.2.2.1 _ k_2196) (B.2.2.2.1 _ ks_94) (B.2.2.2.1 _ k_13) ⟨by decide +kernel, by decide +kernel, by decide +kernel⟩ rfl d_Book_fetch_10 rfl (Nat.le_of_ble_eq_true rfl) ⟨by decide, by decide⟩ ⟨by decide, by decide⟩ ⟨by decide, by decide⟩ (mv_noH hno _) (fun τ9 g9 => Or.inr ⟨rfl, hS.2.2.2.2.2.2.tr g9⟩) (fun σ10 h10 => ?_)
  obtain ⟨k10, d10, ⟨t10, u10, q10, g10⟩, y10⟩ := h10
  have w10 := hS.w (by rw [k10]; decide)
  have hsp := name_sp (c1 := 0) (c2 := 0) y10 hS.1.sp
  have hS := hS.name q10 g10 y10
  have hL10 := hS.le
  refine mv_aload_n (pc := 13) B d_Book_fetch_13 rfl 1 rfl ?_
  refine mv_getI (pc := 14) (ci := 12) (C := R_Book) (T := F_Book) (N := 65) B 49 rfl rfl (by decide) i_Book (B.2.2.2.1 _ k_1898) rfl d_Book_fetch_14 ?_
  refine mv_istore_n (pc := 17) B d_Book_fetch_17 rfl (by decide) rfl ?_
  refine mv_aload_n (pc := 18) B d_Book_fetch_18 rfl 2 rfl ?_
  refine mv_getI (pc := 19) (ci := 12) (C := R_Book) (T := F_Book) (N := 65) B 50 rfl rfl (by decide) i_Book (B.2.2.2.1 _ k_1899) rfl d_Book_fetch_19 ?_
  refine mv_istore_n (pc := 22) B d_Book_fetch_22 rfl (by decide) rfl ?_
  refine mv_aload_n (pc := 23) B d_Book_fetch_23 rfl 3 rfl ?_
  refine mv_ldcwS (pc := 24) B (hNs.2.1 145 (by decide)).1 d_Book_fetch_24 ?_
  refine mv_callVUv (pc := 27) (n := 1) (ci := 12) (C := R_Book) B (mK_ok sk sv) hNs rfl rfl (c_Book_needWord_y l hi _ 145 (by decide) len _ _ hS.1) rfl (ma_goodc kc_Book_needWord) (B.2.2.2.1 _ k_2159) (B.2.2.2.1 _ k_2161) (B.2.2.2.1 _ ks_87) (B.2.2.2.1 _ k_13) ⟨by decide +kernel, by decide +kernel, by decide +kernel⟩ rfl d_Book_fetch_27 rfl (Nat.le_of_ble_eq_true rfl) ⟨by decide, by decide⟩ ⟨by decide, by decide⟩ ⟨by decide, by decide⟩ (mv_noH hno _) (fun τ9 g9 => Or.inr ⟨rfl, hS.2.2.2.2.2.2.tr g9.bf⟩) (fun σ27 h27 => ?_)
  obtain ⟨k27, d27, t27, u27, q27, g27⟩ := h27
  have w27 := hS.w (by rw [k27]; decide)
  have hS := hS.pass q27 g27
  have hL27 := hS.le
  refine mv_aload_n (pc := 30) B d_Book_fetch_30 rfl 3 rfl ?_
  refine mv_callVUv (pc := 31) (n := 0) (ci := 12) (C := R_Book) B (mK_ok sk sv) hNs rfl rfl (c_Book_name_y l hi _ len _ _ hS.1) rfl (ma_goodc kc_Book_name) (B.2.2.2.1 _ k_2194) (B.2.2.2.1 _ k_2196) (B.2.2.2.1 _ ks_94) (B.2.2.2.1 _ k_13) ⟨by decide +kernel, by decide +kernel, by decide +kernel⟩ rfl d_Book_fetch_31 rfl (Nat.le_of_ble_eq_true rfl) ⟨by decide, by decide⟩ ⟨by decide, by decide⟩ ⟨by decide, by decide⟩ (mv_noH hno _) (fun τ9 g9 => Or.inr ⟨rfl, hS.2.2.2.2.2.2.tr g9⟩) (fun σ31 h31 => ?_)
  obtain ⟨k31, d31, ⟨t31, u31, q31, g31⟩, y31⟩ := h31
  have w31 := hS.w (by rw [k31]; decide)
  have hsp2 := name_sp (c1 := 0) (c2 := 0) y31 hS.1.sp
  have hS := hS.name q31 g31 y31
  have hL31 := hS.le
  refine mv_aload_n (pc := 34) B d_Book_fetch_34 rfl 3 rfl ?_
  refine mv_bipush (pc := 35) (v := 59) B d_Book_fetch_35 (by decide) ?_
  refine mv_callVUv (pc := 37) (n := 1) (ci := 12) (C := R_Book) B (mK_ok sk sv) hNs rfl rfl (c_Book_need_y l hi _ _ len _ _ hS.1) rfl (ma_goodc kc_Book_need) (B.2.2.2.1 _ k_2177) (B.2.2.2.1 _ k_2179) (B.2.2.2.1 _ ks_91) (B.2.2.2.1 _ k_13) ⟨by decide +kernel, by decide +kernel, by decide +kernel⟩ rfl d_Book_fetch_37 rfl (Nat.le_of_ble_eq_true rfl) ⟨by decide, by decide⟩ ⟨by decide, by decide⟩ ⟨by decide, by decide⟩ (mv_noH hno _) (fun τ9 g9 => Or.inr ⟨rfl, hS.2.2.2.2.2.2.tr g9.bf⟩) (fun σ37 h37 => ?_)
  obtain ⟨k37, d37, t37, u37, q37, g37⟩ := h37
  have w37 := hS.w (by rw [k37]; decide)
  have hS := hS.pass q37 g37
  have hL37 := hS.le
  have hsp3 : Sp len (mv_i σ37 108 49) (mv_i σ37 108 50) := by rw [q37.1.1.1 108 49 (by omega) (by omega), q37.1.1.1 108 50 (by omega) (by omega)]; exact hsp2
  refine mv_aload_n (pc := 40) B d_Book_fetch_40 rfl 3 rfl ?_
  refine mv_iload_n (pc := 41) B d_Book_fetch_41 rfl 1 rfl ?_
  refine mv_iload_n (pc := 42) B d_Book_fetch_42 rfl 0 rfl ?_
  refine mv_callVi (pc := 43) (n := 2) (ci := 12) (C := R_Book) B (mK_ok sk sv) hNs rfl rfl (c_Book_thing_y l hi _ _ _ len hS.R hS.1.1.2.2.2.2.2 hS.C.1 hsp) rfl (ma_goodc kc_Book_thing) (B.2.2.2.1 _ k_2212) (B.2.2.2.1 _ k_2214) (B.2.2.2.1 _ ks_97) (B.2.2.2.1 _ k_13) ⟨by decide +kernel, by decide +kernel, by decide +kernel⟩ rfl d_Book_fetch_43 rfl (Nat.le_of_ble_eq_true rfl) ⟨by decide, by decide⟩ ⟨by decide, by decide⟩ ⟨by decide, by decide⟩ (mv_noH hno _) (fun v43 σ43 h43 => ?_)
  obtain ⟨e43, z43⟩ := h43
  have e43 := e43.symm
  subst e43
  refine mv_istore (pc := 46) B d_Book_fetch_46 (by decide) rfl ?_
  refine mv_aload_n (pc := 48) B d_Book_fetch_48 rfl 4 rfl ?_
  refine mv_aload_n (pc := 49) B d_Book_fetch_49 rfl 4 rfl ?_
  refine mv_getI (pc := 50) (ci := 12) (C := R_Book) (T := F_Book) (N := 65) B 49 rfl rfl (by decide) i_Book (B.2.2.2.1 _ k_1898) rfl d_Book_fetch_50 ?_
  refine mv_aload_n (pc := 53) B d_Book_fetch_53 rfl 4 rfl ?_
  refine mv_getI (pc := 54) (ci := 12) (C := R_Book) (T := F_Book) (N := 65) B 50 rfl rfl (by decide) i_Book (B.2.2.2.1 _ k_1899) rfl d_Book_fetch_54 ?_
  refine mv_callVi (pc := 57) (n := 2) (ci := 12) (C := R_Book) B (mK_ok sk sv) hNs rfl rfl (c_Book_thing_y l hi _ _ _ len hS.R hS.1.1.2.2.2.2.2 hS.C.1 hsp3) rfl (ma_goodc kc_Book_thing) (B.2.2.2.1 _ k_2212) (B.2.2.2.1 _ k_2214) (B.2.2.2.1 _ ks_97) (B.2.2.2.1 _ k_13) ⟨by decide +kernel, by decide +kernel, by decide +kernel⟩ rfl d_Book_fetch_57 rfl (Nat.le_of_ble_eq_true rfl) ⟨by decide, by decide⟩ ⟨by decide, by decide⟩ ⟨by decide, by decide⟩ (mv_noH hno _) (fun v57 σ57 h57 => ?_)
  obtain ⟨e57, z57⟩ := h57
  have e57 := e57.symm
  subst e57
  have j195 : ∀ (S9 : mv_H) (hS : ZT 108 len σ S9 th n k cb 0 t37 u37), mv_V p l e ({ frames := 7, cells := 0, slots := 0, locals := 151 }) s m ([.ref (al 108)] : List Value).toArray below meth c (mg dA D al ext) 8 0 0 (mv_Q (mg dA D al ext) below s 0 0 (mv_Uv (ZO 108 len b1 σ) ("MachineLoomModel$Book$Wrong", al 141) (BF 108 σ))) S9 195 [] [] := by
    intro S9 hS
    exact mv_vret (pc := 195) B hr d_Book_fetch_195 (Nat.le_refl _) (Nat.le_refl _) (Or.inl ⟨rfl, _, _, _, _, _, _, hS, by omega⟩)
  have j167 : ∀ (τ : mv_H) (r9 : Int32) (m9 : Int32) (hT : FT 108 σ37 τ) (hr9 : r9 = 0 ∨ (0 ≤ v43.toInt ∧ v43.toInt < (mv_i σ37 108 17).toInt)) (hm9 : m9 = 0 ∨ (0 ≤ v57.toInt ∧ v57.toInt < (mv_i σ37 108 17).toInt)), mv_V p l e ({ frames := 7, cells := 0, slots := 0, locals := 151 }) s m ([.ref (al 108)] : List Value).toArray below meth c (mg dA D al ext) 8 0 0 (mv_Q (mg dA D al ext) below s 0 0 (mv_Uv (ZO 108 len b1 σ) ("MachineLoomModel$Book$Wrong", al 141) (BF 108 σ))) τ 167 [(0, .ref (al 108)), (4, .int v43), (5, .int v57), (6, .int r9), (7, .int m9)] [] := by
    intro τ r9 m9 hT hr9 hm9
    have hS := hS.ft hT
    refine mv_aload_n (pc := 167) B d_Book_fetch_167 rfl 0 rfl ?_
    refine mv_dup (pc := 168) B d_Book_fetch_168 rfl ?_
    refine mv_getI (pc := 169) (ci := 12) (C := R_Book) (T := F_Book) (N := 65) B 22 rfl rfl (by decide) i_Book (B.2.2.2.1 _ k_1867) rfl d_Book_fetch_169 ?_
    refine mv_iconst (pc := 172) (v := 1) B d_Book_fetch_172 (by decide) ?_
    refine mv_iadd (pc := 173) B d_Book_fetch_173 ?_
    refine mv_putI (pc := 174) (ci := 12) (C := R_Book) (T := F_Book) (N := 65) B 22 rfl rfl (by decide) i_Book t_Book_ok n_Book (B.2.2.2.1 _ k_1867) rfl rfl rfl rfl d_Book_fetch_174 ?_
    refine mv_gen (fun S177 eS177 => ?_)
    have hS := hS.i (j := 22) (v := mv_i τ 108 22 + 1) (Or.inl rfl)
    rw [← eS177] at hS
    clear eS177
    refine mv_aload_n (pc := 177) B d_Book_fetch_177 rfl 0 rfl ?_
    refine mv_getI (pc := 178) (ci := 12) (C := R_Book) (T := F_Book) (N := 65) B 22 rfl rfl (by decide) i_Book (B.2.2.2.1 _ k_1867) rfl d_Book_fetch_178 ?_
    refine mv_iconst (pc := 181) (v := 1) B d_Book_fetch_181 (by decide) ?_
    refine mv_icmp_gt (pc := 182) (tgt := 195) B d_Book_fetch_182 rfl (fun h182 => ?_) (fun h182 => ?_)
    · skip
      refine mv_lpick [] rfl ?_
      exact j195 _ hS
    · skip
      refine mv_iload (pc := 185) B d_Book_fetch_185 3 rfl ?_
      refine mv_if_eq (pc := 187) (tgt := 195) B d_Book_fetch_187 rfl (fun h187 => ?_) (fun h187 => ?_)
      · skip
        refine mv_lpick [] rfl ?_
        exact j195 _ hS
      · skip
        have hr9 := hr9.resolve_left h187
        refine mv_iload (pc := 190) B d_Book_fetch_190 4 rfl ?_
        refine mv_if_ne (pc := 192) (tgt := 196) B d_Book_fetch_192 rfl (fun h192 => ?_) (fun h192 => ?_)
        · skip
          have hm9 := hm9.resolve_left h192
          refine mv_aload_n (pc := 196) B d_Book_fetch_196 rfl 0 rfl ?_
          refine mv_iload (pc := 197) B d_Book_fetch_197 1 rfl ?_
          refine mv_putI (pc := 199) (ci := 12) (C := R_Book) (T := F_Book) (N := 65) B 18 rfl rfl (by decide) i_Book t_Book_ok n_Book (B.2.2.2.1 _ k_1862) rfl rfl rfl rfl d_Book_fetch_199 ?_
          refine mv_aload_n (pc := 202) B d_Book_fetch_202 rfl 0 rfl ?_
          refine mv_iload (pc := 203) B d_Book_fetch_203 2 rfl ?_
          refine mv_putI (pc := 205) (ci := 12) (C := R_Book) (T := F_Book) (N := 65) B 21 rfl rfl (by decide) i_Book t_Book_ok n_Book (B.2.2.2.1 _ k_1866) rfl rfl rfl rfl d_Book_fetch_205 ?_
          exact mv_vret (pc := 208) B hr d_Book_fetch_208 (Nat.le_refl _) (Nat.le_refl _) (Or.inl ⟨rfl, _, _, _, _, _, _, hS.fetch (by omega) (by omega), by omega⟩)
        · skip
          refine mv_lpick [] rfl ?_
          exact j195 _ hS
  have j153 : ∀ (τ : mv_H) (p9 : Int32) (r9 : Int32) (m9 : Int32) (hT : FT 108 σ37 τ) (hr9 : r9 = 0 ∨ (0 ≤ v43.toInt ∧ v43.toInt < (mv_i σ37 108 17).toInt)) (hm9 : m9 = 0 ∨ (0 ≤ v57.toInt ∧ v57.toInt < (mv_i σ37 108 17).toInt)), mv_V p l e ({ frames := 7, cells := 0, slots := 0, locals := 151 }) s m ([.ref (al 108)] : List Value).toArray below meth c (mg dA D al ext) 8 0 0 (mv_Q (mg dA D al ext) below s 0 0 (mv_Uv (ZO 108 len b1 σ) ("MachineLoomModel$Book$Wrong", al 141) (BF 108 σ))) τ 153 [(0, .ref (al 108)), (1, .int p9), (4, .int v43), (5, .int v57), (6, .int r9), (7, .int m9)] [] := by
    intro τ p9 r9 m9 hT hr9 hm9
    have hS := hS.ft hT
    refine mv_aload_n (pc := 153) B d_Book_fetch_153 rfl 0 rfl ?_
    refine mv_getI (pc := 154) (ci := 12) (C := R_Book) (T := F_Book) (N := 65) B 22 rfl rfl (by decide) i_Book (B.2.2.2.1 _ k_1867) rfl d_Book_fetch_154 ?_
    refine mv_if_le (pc := 157) (tgt := 167) B d_Book_fetch_157 rfl (fun h157 => ?_) (fun h157 => ?_)
    · skip
      refine mv_lpick [0, 2, 3, 4, 5] rfl ?_
      exact j167 _ _ _ (by first | exact hT | exact hT.of h164) hr9 hm9
    · skip
      refine mv_aload_n (pc := 160) B d_Book_fetch_160 rfl 0 rfl ?_
      refine mv_bipush (pc := 161) (v := 6) B d_Book_fetch_161 (by decide) ?_
      refine mv_iload_n (pc := 163) B d_Book_fetch_163 rfl 1 rfl ?_
      refine mv_callVv (pc := 164) (n := 2) (ci := 12) (C := R_Book) B (mK_ok sk sv) hNs rfl rfl (c_Book_fault_y l hi _ _ _ (by decide)) rfl (ma_goodc kc_Book_fault) (B.2.2.2.1 _ k_2185) (B.2.2.2.1 _ k_2187) (B.2.2.2.1 _ ks_92) (B.2.2.2.1 _ k_13) ⟨by decide +kernel, by decide +kernel, by decide +kernel⟩ rfl d_Book_fetch_164 rfl (Nat.le_of_ble_eq_true rfl) ⟨by decide, by decide⟩ ⟨by decide, by decide⟩ ⟨by decide, by decide⟩ (mv_noH hno _) (fun σ164 h164 => ?_)
      refine mv_lpick [0, 2, 3, 4, 5] rfl ?_
      exact j167 _ _ _ (by first | exact hT | exact hT.of h164) hr9 hm9
  have j139 : ∀ (τ : mv_H) (p9 : Int32) (r9 : Int32) (m9 : Int32) (hT : FT 108 σ37 τ) (hr9 : r9 = 0 ∨ (0 ≤ v43.toInt ∧ v43.toInt < (mv_i σ37 108 17).toInt)) (hm9 : m9 = 0 ∨ (0 ≤ v57.toInt ∧ v57.toInt < (mv_i σ37 108 17).toInt)), mv_V p l e ({ frames := 7, cells := 0, slots := 0, locals := 151 }) s m ([.ref (al 108)] : List Value).toArray below meth c (mg dA D al ext) 8 0 0 (mv_Q (mg dA D al ext) below s 0 0 (mv_Uv (ZO 108 len b1 σ) ("MachineLoomModel$Book$Wrong", al 141) (BF 108 σ))) τ 139 [(0, .ref (al 108)), (1, .int p9), (4, .int v43), (5, .int v57), (6, .int r9), (7, .int m9)] [] := by
    intro τ p9 r9 m9 hT hr9 hm9
    have hS := hS.ft hT
    refine mv_iload (pc := 139) B d_Book_fetch_139 5 rfl ?_
    refine mv_if_ne (pc := 141) (tgt := 153) B d_Book_fetch_141 rfl (fun h141 => ?_) (fun h141 => ?_)
    · skip
      refine mv_lpick [0, 1, 2, 3, 4, 5] rfl ?_
      exact j153 _ _ _ _ (by first | exact hT | exact hT.of h150) hr9 hm9
    · skip
      refine mv_aload_n (pc := 144) B d_Book_fetch_144 rfl 0 rfl ?_
      refine mv_iconst (pc := 145) (v := 2) B d_Book_fetch_145 (by decide) ?_
      refine mv_aload_n (pc := 146) B d_Book_fetch_146 rfl 0 rfl ?_
      refine mv_getI (pc := 147) (ci := 12) (C := R_Book) (T := F_Book) (N := 65) B 49 rfl rfl (by decide) i_Book (B.2.2.2.1 _ k_1898) rfl d_Book_fetch_147 ?_
      refine mv_callVv (pc := 150) (n := 2) (ci := 12) (C := R_Book) B (mK_ok sk sv) hNs rfl rfl (c_Book_fault_y l hi _ _ _ (by decide)) rfl (ma_goodc kc_Book_fault) (B.2.2.2.1 _ k_2185) (B.2.2.2.1 _ k_2187) (B.2.2.2.1 _ ks_92) (B.2.2.2.1 _ k_13) ⟨by decide +kernel, by decide +kernel, by decide +kernel⟩ rfl d_Book_fetch_150 rfl (Nat.le_of_ble_eq_true rfl) ⟨by decide, by decide⟩ ⟨by decide, by decide⟩ ⟨by decide, by decide⟩ (mv_noH hno _) (fun σ150 h150 => ?_)
      refine mv_lpick [0, 1, 2, 3, 4, 5] rfl ?_
      exact j153 _ _ _ _ (by first | exact hT | exact hT.of h150) hr9 hm9
  have j126 : ∀ (p9 : Int32) (a9 : Int32) (r9 : Int32) (m9 : Int32) (hr9 : r9 = 0 ∨ (0 ≤ v43.toInt ∧ v43.toInt < (mv_i σ37 108 17).toInt)) (hm9 : m9 = 0 ∨ (0 ≤ v57.toInt ∧ v57.toInt < (mv_i σ37 108 17).toInt)), mv_V p l e ({ frames := 7, cells := 0, slots := 0, locals := 151 }) s m ([.ref (al 108)] : List Value).toArray below meth c (mg dA D al ext) 8 0 0 (mv_Q (mg dA D al ext) below s 0 0 (mv_Uv (ZO 108 len b1 σ) ("MachineLoomModel$Book$Wrong", al 141) (BF 108 σ))) σ37 126 [(0, .ref (al 108)), (1, .int p9), (2, .int a9), (4, .int v43), (5, .int v57), (6, .int r9)] [.int m9] := by
    intro p9 a9 r9 m9 hr9 hm9
    refine mv_istore (pc := 126) B d_Book_fetch_126 (by decide) rfl ?_
    refine mv_iload (pc := 128) B d_Book_fetch_128 6 rfl ?_
    refine mv_if_ne (pc := 130) (tgt := 139) B d_Book_fetch_130 rfl (fun h130 => ?_) (fun h130 => ?_)
    · skip
      refine mv_lpick [1, 2, 4, 5, 6, 0] rfl ?_
      exact j139 _ _ _ _ (by first | exact FT.rf | exact FT.rf.of h136) hr9 hm9
    · skip
      refine mv_aload_n (pc := 133) B d_Book_fetch_133 rfl 1 rfl ?_
      refine mv_iconst (pc := 134) (v := 2) B d_Book_fetch_134 (by decide) ?_
      refine mv_iload_n (pc := 135) B d_Book_fetch_135 rfl 3 rfl ?_
      refine mv_callVv (pc := 136) (n := 2) (ci := 12) (C := R_Book) B (mK_ok sk sv) hNs rfl rfl (c_Book_fault_y l hi _ _ _ (by decide)) rfl (ma_goodc kc_Book_fault) (B.2.2.2.1 _ k_2185) (B.2.2.2.1 _ k_2187) (B.2.2.2.1 _ ks_92) (B.2.2.2.1 _ k_13) ⟨by decide +kernel, by decide +kernel, by decide +kernel⟩ rfl d_Book_fetch_136 rfl (Nat.le_of_ble_eq_true rfl) ⟨by decide, by decide⟩ ⟨by decide, by decide⟩ ⟨by decide, by decide⟩ (mv_noH hno _) (fun σ136 h136 => ?_)
      refine mv_lpick [1, 2, 4, 5, 6, 0] rfl ?_
      exact j139 _ _ _ _ (by first | exact FT.rf | exact FT.rf.of h136) hr9 hm9
  have j82 : ∀ (p9 : Int32) (a9 : Int32) (r9 : Int32) (hr9 : r9 = 0 ∨ (0 ≤ v43.toInt ∧ v43.toInt < (mv_i σ37 108 17).toInt)), mv_V p l e ({ frames := 7, cells := 0, slots := 0, locals := 151 }) s m ([.ref (al 108)] : List Value).toArray below meth c (mg dA D al ext) 8 0 0 (mv_Q (mg dA D al ext) below s 0 0 (mv_Uv (ZO 108 len b1 σ) ("MachineLoomModel$Book$Wrong", al 141) (BF 108 σ))) σ37 82 [(0, .ref (al 108)), (1, .int p9), (2, .int a9), (4, .int v43), (5, .int v57)] [.int r9] := by
    intro p9 a9 r9 hr9
    refine mv_istore (pc := 82) B d_Book_fetch_82 (by decide) rfl ?_
    refine mv_iload (pc := 84) B d_Book_fetch_84 5 rfl ?_
    refine mv_if_lt (pc := 86) (tgt := 125) B d_Book_fetch_86 rfl (fun h86 => ?_) (fun h86 => ?_)
    · skip
      refine mv_iconst (pc := 125) (v := 0) B d_Book_fetch_125 (by decide) ?_
      refine mv_lpick [1, 2, 3, 4, 5, 0] rfl ?_
      exact j126 _ _ _ _ hr9 (by first | exact Or.inl rfl | exact Or.inr (by omega))
    · skip
      have y57 := z57.resolve_left (fun z => h86 (by rw [z]; decide))
      refine mv_aload_n (pc := 89) B d_Book_fetch_89 rfl 1 rfl ?_
      refine mv_getR (pc := 90) (ci := 12) (C := R_Book) (T := F_Book) (N := 65) B 15 rfl rfl (by decide) i_Book (B.2.2.2.1 _ k_1858) rfl (hS.R.1 _ 15 _ rfl) d_Book_fetch_90 ?_
      refine mv_iload (pc := 93) B d_Book_fetch_93 5 rfl ?_
      refine mv_zald (pc := 95) B rfl (i32_in (show 0 ≤ v57.toInt by omega) (show v57.toInt < 4100 by omega)) d_Book_fetch_95 ?_
      refine mv_if_eq (pc := 96) (tgt := 125) B d_Book_fetch_96 rfl (fun h96 => ?_) (fun h96 => ?_)
      · skip
        refine mv_iconst (pc := 125) (v := 0) B d_Book_fetch_125 (by decide) ?_
        refine mv_lpick [1, 2, 3, 4, 5, 0] rfl ?_
        exact j126 _ _ _ _ hr9 (by first | exact Or.inl rfl | exact Or.inr (by omega))
      · skip
        refine mv_aload_n (pc := 99) B d_Book_fetch_99 rfl 1 rfl ?_
        refine mv_getR (pc := 100) (ci := 12) (C := R_Book) (T := F_Book) (N := 65) B 12 rfl rfl (by decide) i_Book (B.2.2.2.1 _ k_1855) rfl (hS.R.1 _ 12 _ rfl) d_Book_fetch_100 ?_
        refine mv_iload (pc := 103) B d_Book_fetch_103 5 rfl ?_
        refine mv_iald (pc := 105) B rfl (i32_in (show 0 ≤ v57.toInt by omega) (show v57.toInt < 4100 by omega)) d_Book_fetch_105 ?_
        refine mv_bipush (pc := 106) (v := 8) B d_Book_fetch_106 (by decide) ?_
        refine mv_icmp_eq (pc := 108) (tgt := 121) B d_Book_fetch_108 rfl (fun h108 => ?_) (fun h108 => ?_)
        · skip
          refine mv_iconst (pc := 121) (v := 1) B d_Book_fetch_121 (by decide) ?_
          refine mv_goto (pc := 122) (tgt := 126) B d_Book_fetch_122 rfl ?_
          refine mv_lpick [1, 2, 3, 4, 5, 0] rfl ?_
          exact j126 _ _ _ _ hr9 (by first | exact Or.inl rfl | exact Or.inr (by omega))
        · skip
          refine mv_aload_n (pc := 111) B d_Book_fetch_111 rfl 1 rfl ?_
          refine mv_getR (pc := 112) (ci := 12) (C := R_Book) (T := F_Book) (N := 65) B 12 rfl rfl (by decide) i_Book (B.2.2.2.1 _ k_1855) rfl (hS.R.1 _ 12 _ rfl) d_Book_fetch_112 ?_
          refine mv_iload (pc := 115) B d_Book_fetch_115 5 rfl ?_
          refine mv_iald (pc := 117) B rfl (i32_in (show 0 ≤ v57.toInt by omega) (show v57.toInt < 4100 by omega)) d_Book_fetch_117 ?_
          refine mv_if_ne (pc := 118) (tgt := 125) B d_Book_fetch_118 rfl (fun h118 => ?_) (fun h118 => ?_)
          · skip
            refine mv_iconst (pc := 125) (v := 0) B d_Book_fetch_125 (by decide) ?_
            refine mv_lpick [1, 2, 3, 4, 5, 0] rfl ?_
            exact j126 _ _ _ _ hr9 (by first | exact Or.inl rfl | exact Or.inr (by omega))
          · skip
            refine mv_iconst (pc := 121) (v := 1) B d_Book_fetch_121 (by decide) ?_
            refine mv_goto (pc := 122) (tgt := 126) B d_Book_fetch_122 rfl ?_
            refine mv_lpick [1, 2, 3, 4, 5, 0] rfl ?_
            exact j126 _ _ _ _ hr9 (by first | exact Or.inl rfl | exact Or.inr (by omega))
  refine mv_istore (pc := 60) B d_Book_fetch_60 (by decide) rfl ?_
  refine mv_iload (pc := 62) B d_Book_fetch_62 1 rfl ?_
  refine mv_if_lt (pc := 64) (tgt := 81) B d_Book_fetch_64 rfl (fun h64 => ?_) (fun h64 => ?_)
  · skip
    refine mv_iconst (pc := 81) (v := 0) B d_Book_fetch_81 (by decide) ?_
    refine mv_lpick [5, 4, 3, 1, 0] rfl ?_
    exact j82 _ _ _ (by first | exact Or.inl rfl | exact Or.inr (by omega))
  · skip
    have y43 := z43.resolve_left (fun z => h64 (by rw [z]; decide))
    refine mv_aload_n (pc := 67) B d_Book_fetch_67 rfl 5 rfl ?_
    refine mv_getR (pc := 68) (ci := 12) (C := R_Book) (T := F_Book) (N := 65) B 15 rfl rfl (by decide) i_Book (B.2.2.2.1 _ k_1858) rfl (hS.R.1 _ 15 _ rfl) d_Book_fetch_68 ?_
    refine mv_iload (pc := 71) B d_Book_fetch_71 1 rfl ?_
    refine mv_zald (pc := 73) B rfl (i32_in (show 0 ≤ v43.toInt by omega) (show v43.toInt < 4100 by omega)) d_Book_fetch_73 ?_
    refine mv_if_ne (pc := 74) (tgt := 81) B d_Book_fetch_74 rfl (fun h74 => ?_) (fun h74 => ?_)
    · skip
      refine mv_iconst (pc := 81) (v := 0) B d_Book_fetch_81 (by decide) ?_
      refine mv_lpick [5, 4, 3, 1, 0] rfl ?_
      exact j82 _ _ _ (by first | exact Or.inl rfl | exact Or.inr (by omega))
    · skip
      refine mv_iconst (pc := 77) (v := 1) B d_Book_fetch_77 (by decide) ?_
      refine mv_goto (pc := 78) (tgt := 82) B d_Book_fetch_78 rfl ?_
      refine mv_lpick [5, 4, 3, 1, 0] rfl ?_
      exact j82 _ _ _ (by first | exact Or.inl rfl | exact Or.inr (by omega))
