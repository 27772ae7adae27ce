/-! the reference reads a right text: nodes below a bound stand whole -/
def NB (P m : Nat) (h h' : mv_H) : Prop := (∀ o k, P + 18 ≤ o → o ≤ P + 25 → k < m → mv_a h' o k = mv_a h o k) ∧ ∀ k, k < m → mv_b h' (P + 24) k = mv_b h (P + 24) k
theorem NB.refl (P m : Nat) (h : mv_H) : NB P m h h := ⟨fun _ _ _ _ _ => rfl, fun _ _ => rfl⟩
theorem NB.trans {P m m1 : Nat} {h h1 h2 : mv_H} (a : NB P m h h1) (b : NB P m1 h1 h2) (e : m ≤ m1) : NB P m h h2 := ⟨fun o k q1 q2 q3 => (b.1 o k q1 q2 (by omega)).trans (a.1 o k q1 q2 q3), fun k q => (b.2 k (by omega)).trans (a.2 k q)⟩
theorem NB.le {P m m1 : Nat} {h h1 : mv_H} (a : NB P m h h1) (e : m1 ≤ m) : NB P m1 h h1 := ⟨fun o k q1 q2 q3 => a.1 o k q1 q2 (by omega), fun k q => a.2 k (by omega)⟩
theorem NB.nf {P lo m n : Nat} {h h' : mv_H} (a : NB P m h h') (X : XFr P n h h') : NFr P lo m h h' :=
  ⟨fun k _ hk _ => ⟨a.1 (P + 18) k (by omega) (by omega) hk, a.1 (P + 19) k (by omega) (by omega) hk, a.1 (P + 20) k (by omega) (by omega) hk, a.1 (P + 21) k (by omega) (by omega) hk, a.1 (P + 23) k (by omega) (by omega) hk, a.2 k hk⟩, fun k _ hk _ => a.1 (P + 22) k (by omega) (by omega) (by omega), fun o k q _ => by rw [X.a o (by omega)]⟩
/-- a depth set: nothing of this changes -/
theorem NB.dp {P m : Nat} {h h' : mv_H} (a : NB P m h h') (x y : Int32) : NB P m (mv_si h P 8 x) (mv_si h' P 8 y) := a
/-- a node more -/
def ndH (P m : Nat) (s x y z : Int32) (w : Nat) (h : mv_H) : mv_H := mv_sa (mv_sa (mv_sa (mv_sa (mv_sa (mv_sa (mv_sa (mv_si h P 48 (nI (m + 1))) (P + 18) m s) (P + 19) m x) (P + 20) m y) (P + 21) m z) (P + 23) m (nI w)) (P + 22) m (-1)) (P + 25) m (vp_nar .boolean (0 : Int32))
theorem ndH_a {P m : Nat} {s x y z : Int32} {w : Nat} {h : mv_H} (o k : Nat) : mv_a (ndH P m s x y z w h) o k = if o = P + 25 ∧ k = m then vp_nar .boolean (0 : Int32) else if o = P + 22 ∧ k = m then -1 else if o = P + 23 ∧ k = m then nI w else if o = P + 21 ∧ k = m then z else if o = P + 20 ∧ k = m then y else if o = P + 19 ∧ k = m then x else if o = P + 18 ∧ k = m then s else mv_a h o k := rfl
theorem ndH_o {P m : Nat} {s x y z : Int32} {w : Nat} {h : mv_H} (o k : Nat) (q : ¬ k = m) : mv_a (ndH P m s x y z w h) o k = mv_a h o k := by
  rw [ndH_a, if_neg (fun z => q z.2), if_neg (fun z => q z.2), if_neg (fun z => q z.2), if_neg (fun z => q z.2), if_neg (fun z => q z.2), if_neg (fun z => q z.2), if_neg (fun z => q z.2)]
theorem ndH_18 {P m : Nat} {s x y z : Int32} {w : Nat} {h : mv_H} : mv_a (ndH P m s x y z w h) (P + 18) m = s := by
  rw [ndH_a, if_neg (by omega), if_neg (by omega), if_neg (by omega), if_neg (by omega), if_neg (by omega), if_neg (by omega), if_pos ⟨rfl, rfl⟩]
theorem ndH_19 {P m : Nat} {s x y z : Int32} {w : Nat} {h : mv_H} : mv_a (ndH P m s x y z w h) (P + 19) m = x := by
  rw [ndH_a, if_neg (by omega), if_neg (by omega), if_neg (by omega), if_neg (by omega), if_neg (by omega), if_pos ⟨rfl, rfl⟩]
theorem ndH_20 {P m : Nat} {s x y z : Int32} {w : Nat} {h : mv_H} : mv_a (ndH P m s x y z w h) (P + 20) m = y := by
  rw [ndH_a, if_neg (by omega), if_neg (by omega), if_neg (by omega), if_neg (by omega), if_pos ⟨rfl, rfl⟩]
theorem ndH_21 {P m : Nat} {s x y z : Int32} {w : Nat} {h : mv_H} : mv_a (ndH P m s x y z w h) (P + 21) m = z := by
  rw [ndH_a, if_neg (by omega), if_neg (by omega), if_neg (by omega), if_pos ⟨rfl, rfl⟩]
theorem ndH_22 {P m : Nat} {s x y z : Int32} {w : Nat} {h : mv_H} : mv_a (ndH P m s x y z w h) (P + 22) m = -1 := by
  rw [ndH_a, if_neg (by omega), if_pos ⟨rfl, rfl⟩]
theorem ndH_23 {P m : Nat} {s x y z : Int32} {w : Nat} {h : mv_H} : mv_a (ndH P m s x y z w h) (P + 23) m = nI w := by
  rw [ndH_a, if_neg (by omega), if_neg (by omega), if_pos ⟨rfl, rfl⟩]
theorem ndH_25 {P m : Nat} {s x y z : Int32} {w : Nat} {h : mv_H} : mv_a (ndH P m s x y z w h) (P + 25) m = 0 := by
  rw [ndH_a, if_pos ⟨rfl, rfl⟩]; decide
theorem ndH_B {P m : Nat} {s x y z : Int32} {w : Nat} {h : mv_H} : NB P m h (ndH P m s x y z w h) := ⟨fun o k _ _ hk => ndH_o o k (by omega), fun _ _ => rfl⟩
theorem ndH_X {P m : Nat} {s x y z : Int32} {w : Nat} {h : mv_H} : XFr P m h (ndH P m s x y z w h) := by
  have ei : ∀ o k, mv_i (ndH P m s x y z w h) o k = if o = P ∧ k = 48 then nI (m + 1) else mv_i h o k := fun o k => rfl
  refine ⟨fun o k q => by rw [ei, if_neg (by omega)], rfl, rfl, fun o q => ?_, fun k q => ndH_o _ k (by omega), fun _ _ => rfl⟩
  funext k
  rw [ndH_a, if_neg (by omega), if_neg (by omega), if_neg (by omega), if_neg (by omega), if_neg (by omega), if_neg (by omega), if_neg (by omega)]
theorem nNx {P N : Nat} {T : Nat → Nat} {lk : List Nat → Nat × Nat} {b : Bool} {d m : Nat} {h : mv_H} (E : ESq P N T lk b d h m) (hm : m < 33000) (s x y z : Int32) {w : Nat} (hw : w ≤ 40000) (j : Nat) (v : Int64) : f_Book_node P (rB P N h j v) s x y z (nI w) = some (nI m, rB P N (ndH P m s x y z w h) j v) ∧ ESq P N T lk b d (ndH P m s x y z w h) (m + 1) := by
  have hP := E.hb.p
  have e48 : mv_i (rB P N h j v) P 48 = nI m := (rB_o j v (by omega)).trans E.nd
  have ei : ∀ o k, mv_i (ndH P m s x y z w h) o k = if o = P ∧ k = 48 then nI (m + 1) else mv_i h o k := fun o k => rfl
  refine ⟨?_, E.fr ndH_X ?_ (fun w => w) ?_ ?_⟩
  · unfold f_Book_node
    rw [e48, nI1 (by omega), xvi_n hm (by decide), cln (by omega)]
    simp only [cond_true, xk_s]
    rw [rB_si (by omega), rB_sa (by omega), rB_sa (by omega), rB_sa (by omega), rB_sa (by omega), rB_sa (by omega), rB_sa (by omega), rB_sa (by omega)]
    rfl
  · rw [ei, if_neg (by omega)]; exact E.fa
  · rw [ei, if_pos ⟨rfl, rfl⟩]
  · intro i h2 h3
    have : i = m := by omega
    subst this
    exact ⟨w, hw, ndH_23⟩
/-- the nodes below, with a node more -/
theorem ND.nd {P Tn lo m : Nat} {s x y z : Int32} {w0 : Nat} {h : mv_H} {C LW : List Nat} {n r k w : Nat} {D : DnE} (N : ND P h Tn lo C LW n r k w D) (hk : k < m) : ND P (ndH P m s x y z w0 h) Tn lo C LW n r k w D := N.fr (ndH_B.nf ndH_X) hk
/-- a field set: the nodes stand -/
theorem ND.sd {P T lo : Nat} {h : mv_H} {C LW : List Nat} {n r x w : Nat} {D : DnE} (N : ND P h T lo C LW n r x w D) (o k : Nat) (y : Int32) : ND P (mv_si h o k y) T lo C LW n r x w D := by
  have f : NFr P lo (x + 1) h (mv_si h o k y) := ⟨fun _ _ _ _ => ⟨rfl, rfl, rfl, rfl, rfl, rfl⟩, fun _ _ _ _ => rfl, fun _ _ _ _ => rfl⟩
  exact N.fr f (Nat.lt_succ_self _)
/-! names: what their numbers are -/
def ZZ1 (lz : LZ) (C LW : List Nat) (Tn : Nat) (lf tf : Option Nat) (slot wid : Nat → Int32) (cq cf : Nat) (one : Bool) (nm : List Nat) : Prop := match lf with
  | some i => lz nm < 64 ∧ slot i = nI (lz nm) ∧ LW[lz nm]? = some (wid i).toNatClampNeg ∧ (wid i).toNatClampNeg ≤ 64
  | none => if one = true ∧ isl cq = true ∧ 0 < cf then lz nm = 64 + cq ∧ cq < 128 ∧ cf = cntL cq C ∧ cntL cq C ≤ 64 else match tf with
    | some t => lz nm = t
    | none => True
def ZZ (T : Nat → Nat) (lz : LZ) (C LW : List Nat) (Tn N : Nat) (lf tf : Nat → Nat → Option Nat) (slot wid : Nat → Int32) (ck : Nat → Nat) (cf : Nat → Nat) : Prop := ∀ q e, q ≤ e → e ≤ N → ZZ1 lz C LW Tn (lf q e) (tf q e) slot wid (ck q) (cf q) (decide (e - q = 1)) (tn T q (e - q))
def ZQ (P N : Nat) (T : Nat → Nat) (lz : LZ) (C LW : List Nat) (Tn : Nat) (h : mv_H) : Prop := (mv_i h P 17).toNatClampNeg = Tn ∧ ZZ T lz C LW Tn N (lfz P h) (tfz P h) (mv_a h (P + 17)) (mv_a h (P + 16)) (ck h N) (cfz P N h)
theorem ZQ.fr {P N m : Nat} {T : Nat → Nat} {lz : LZ} {C LW : List Nat} {Tn : Nat} {h h' : mv_H} (Z : ZQ P N T lz C LW Tn h) (X : XFr P m h h') (hP : 74 ≤ P) : ZQ P N T lz C LW Tn h' := by
  have e1 : lfz P h' = lfz P h := by
    funext q e
    unfold lfz
    rw [X.a 71 (by omega), X.i P 35 (by omega), X.a (P + 14) (by omega), X.a (P + 15) (by omega)]
  have e2 : tfz P h' = tfz P h := by
    funext q e
    unfold tfz
    rw [X.a 71 (by omega), X.i P 17 (by omega), X.a (P + 1) (by omega), X.a (P + 2) (by omega)]
  have e3 : cfz P N h' = cfz P N h := by
    funext q
    unfold cfz
    rw [ck_fr X hP, X.i P 30 (by omega), X.i P 29 (by omega), X.a (P + 10) (by omega), X.a (P + 13) (by omega)]
  unfold ZQ
  rw [X.i P 17 (by omega), e1, e2, e3, ck_fr X hP, X.a (P + 17) (by omega), X.a (P + 16) (by omega)]
  exact Z
theorem ZQ.dep {P N : Nat} {T : Nat → Nat} {lz : LZ} {C LW : List Nat} {Tn : Nat} {h : mv_H} (Z : ZQ P N T lz C LW Tn h) (x : Int32) : ZQ P N T lz C LW Tn (mv_si h P 8 x) := by
  have ei : ∀ k, ¬ k = 8 → mv_i (mv_si h P 8 x) P k = mv_i h P k := fun k hk => mv_u_ne (mv_i h) _ (by omega)
  have e1 : lfz P (mv_si h P 8 x) = lfz P h := by
    funext q e
    unfold lfz
    rw [ei 35 (by omega)]
    rfl
  have e2 : tfz P (mv_si h P 8 x) = tfz P h := by
    funext q e
    unfold tfz
    rw [ei 17 (by omega)]
    rfl
  have e3 : cfz P N (mv_si h P 8 x) = cfz P N h := by
    funext q
    unfold cfz
    rw [ei 30 (by omega), ei 29 (by omega)]
    rfl
  unfold ZQ
  rw [ei 17 (by omega), e1, e2, e3]
  exact Z
/-! steps of good roads -/
theorem psG {P N : Nat} {T : Nat → Nat} {d : Nat} {h : mv_H} (H : HB P N T d h) {j : Nat} (G : gkT T N j) (h1 : ¬ kdT T N j = 1) (h2 : ¬ kdT T N j = 2) (v : Int64) {u : Unit} (e : gd (ps (txT T N) d j) = some u) : d ≤ 60 ∧ gkT T N (j + 1) ∧ ∃ v', f_Book_pass P (rB P N h j v) = some (some 0, rB P N h (j + 1) v') := by
  have e := gdS e
  rcases pS H G h1 h2 v with ⟨p1, G1, v1, e1⟩ | ⟨p1, g, e1⟩
  · exact ⟨ps_d p1, G1, v1, e1⟩
  · rw [p1] at e; cases e
theorem nG {P N : Nat} {T : Nat → Nat} {d : Nat} {h : mv_H} (H : HB P N T d h) {j : Nat} (G : gkT T N j) {c : Nat} {k : Int32} (hc : ¬ c = 1 ∧ ¬ c = 2) (hk : (tok T N j).1 = k ↔ kdT T N j = c) (v : Int64) {u : Unit} (e : ndq (txT T N) d j c = some u) : kdT T N j = c ∧ d ≤ 60 ∧ gkT T N (j + 1) ∧ ∃ v', f_Book_need P (rB P N h j v) k = some (some 0, rB P N h (j + 1) v') := by
  rcases ndS H G hc hk v with ⟨k1, p1, G1, s1, v1, e1⟩ | ⟨s1, g, e1⟩
  · exact ⟨k1, ps_d p1, G1, v1, e1⟩
  · rw [s1] at e; cases e
/-- how deep a node's EXPR may be -/
def rho (mo a d : Nat) : Nat := if mo = 0 then 10 * (62 - d) else if mo = 1 then 10 * (61 - d) + 9 - a else 10 * (61 - d) + 1
section XG
variable (P N : Nat) (T : Nat → Nat) (lk : List Nat → Nat × Nat) (C LW : List Nat) (Tn : Nat)
/-- the outcome of a part of an EXPR, on a good road -/
def XGq (rr d j m : Nat) (h : mv_H) (r : VD) (res : Option (Option Int32 × mv_H)) : Prop := ∃ x h' v' m', res = some (some (nI x), rB P N h' r.1 v') ∧ XRq P N T lk true d j r.1 m m' h h' x r.2.1 ∧ NB P m h h' ∧ ND P h' Tn m C LW (x + 1) rr x r.2.1 r.2.2 ∧ mv_a h' (P + 22) x = -1
def preg (mo a : Nat) (α : Int32) (j : Nat) : Prop := preq T N mo a α j ∧ (mo = 6 → (kdT T N j = 211 ∧ α = 1) ∨ (kdT T N j = 212 ∧ α = 0))
def IHg (lz : LZ) (nn : Nat) : Prop := ∀ (mo a : Nat) (α : Int32) (d j : Nat) (h : mv_H) (m : Nat) (v : Int64) (r : VD), Fq nn mo a d → ESq P N T lk true d h m → ZQ P N T lz C LW Tn h → gkT T N j → m ≤ j → preg N T mo a α j → tR (txT T N) lk lz C nn mo a d j = some r → XGq P N T lk C LW Tn (rho mo a d) d j m h r (f_BookR P nn mo α (rB P N h j v))
end XG
theorem preg0 {T : Nat → Nat} {N a : Nat} {α : Int32} {j mo : Nat} (h : mo = 0 ∨ mo = 2 ∨ mo = 3 ∨ mo = 4) : preg N T mo a α j := ⟨pre0 T N a α j h, fun q => by omega⟩
theorem preg1 {T : Nat → Nat} {N a : Nat} (ha : a ≤ 8) {j : Nat} : preg N T 1 a (nI a) j := ⟨pre1 T N ha j, fun q => by omega⟩
theorem vp0 : vp_nar .boolean (0 : Int32) = 0 := by decide
