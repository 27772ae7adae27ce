/-! a whole array anew; System.arraycopy between byte arrays; what stays the same -/
def mv_ca (σ : mv_H) (o : Nat) (f : Nat → Int32) : mv_H := (σ.1, σ.2.1, σ.2.2.1, (fun o' => if o' = o then f else σ.2.2.2.1 o'), σ.2.2.2.2)
theorem mv_wl_ca {G : mv_G} {σ : mv_H} {o n : Nat} {ty : FieldType} {f : Nat → Int32} (h : (mv_sh G)[o]? = some (.inr (ty, n))) (hty : mv_isI ty = true) :
    mv_wl G (mv_ca σ o f) = (mv_wl G σ).set o (mv_al G o, .inl (mv_dA G ty, n, .inl f)) :=
  mv_wl_arr h (by
    have e : mv_a (mv_ca σ o f) o = f := if_pos rfl
    cases ty <;> first | (show (n, Sum.inl (mv_a (mv_ca σ o f) o)) = _; rw [e]) | cases hty)
    (fun o' t ho => mv_ce_ext (σ := σ) (τ := mv_ca σ o f) rfl rfl rfl (if_neg ho) rfl t)
section MVY
variable {p : Program} {l : Launch} {e : Env} {R : Room} {s : State} {m : MethodId} {args : Array Value} {below : List Frame} {meth : Method} {c : Code} {G : mv_G} {ws : List Cond} {own : String} {cc : ByteArray} {nL : Nat} {cells slots : Nat} {Q : State → Prop} {σ : mv_H} {pc : Nat} {L : List (Nat × Value)} {rest : List Value}
theorem mv_copyb (B : mv_B p s m args meth c G ws own cc nL) {index : Nat} (hlink : (Cond.methodLink own index arraycopyName).before args s = true) (hnat : (Cond.native arraycopyName).before args s = true) (hstat : (Cond.static arraycopyName).before args s = true) (hini : (Cond.initialized "java/lang/System").before args s = true)
    {o0 o1 n0 n1 : Nat} (hs0 : (mv_sh G)[o0]? = some (.inr (.byte, n0))) (hs1 : (mv_sh G)[o1]? = some (.inr (.byte, n1))) {sp dp n : Int32} (h1 : ¬ sp < 0) (h2 : ¬ dp < 0) (h3 : ¬ n < 0) (h4 : sp.toNatClampNeg + n.toNatClampNeg ≤ n0) (h5 : dp.toNatClampNeg + n.toNatClampNeg ≤ n1)
    (hfit : ∀ i, i < n.toNatClampNeg → fits .byte (.int (mv_a σ o0 (sp.toNatClampNeg + i))) = true) (hframes : 1 ≤ R.frames) (hlocals : (rest.map fun v => v.category).sum + (nativeFrameWords "java/lang/System" "arraycopy" 5 + 11) ≤ R.locals) (hdg : decode cc pc = .ok (.invokestatic index, 3))
    (kk : mv_V p l e R s m args below meth c G nL cells slots Q (mv_ca σ o1 (va_cpy (mv_a σ o0) (mv_a σ o1) sp.toNatClampNeg dp.toNatClampNeg n.toNatClampNeg)) (pc + 3) L rest) :
    mv_V p l e R s m args below meth c G nL cells slots Q σ pc L (.int n :: .int dp :: .ref (mv_al G o1) :: .int sp :: .ref (mv_al G o0) :: rest) := fun H locs ls g1 g2 g3 => by
  refine va_copyi (ty := .byte) B.1.1 B.1.2 (by rw [B.2.1]; exact g3.1.symm) B.2.2.1 hlink hnat hstat hini B.2.2.2.2.1 g1 (mv_wl_D B.2.2.2.2.2.1 σ s.heap.size) g2 o0 o1 2 2 (mv_wl_a σ hs0) (mv_wl_a σ hs1) rfl rfl rfl h1 h2 h3 h4 h5 hfit hframes hlocals hdg (fun H1 locs1 k1 k2 k3 => ?_)
  rw [← mv_wl_ca hs1 rfl] at k1
  exact kk H1 locs1 ls k1 k3 g3
end MVY
def Fr (pi : Nat → Nat → Prop) (pa pb : Nat → Prop) (σ τ : mv_H) : Prop := (∀ o k, ¬ pi o k → mv_i τ o k = mv_i σ o k) ∧ (∀ o, ¬ pa o → mv_a τ o = mv_a σ o) ∧ (∀ o, ¬ pb o → mv_b τ o = mv_b σ o) ∧ mv_l τ = mv_l σ ∧ mv_r τ = mv_r σ
theorem Fr.rf {pi : Nat → Nat → Prop} {pa pb : Nat → Prop} {σ : mv_H} : Fr pi pa pb σ σ := ⟨fun _ _ _ => rfl, fun _ _ => rfl, fun _ _ => rfl, rfl, rfl⟩
theorem Fr.tr {pi : Nat → Nat → Prop} {pa pb : Nat → Prop} {σ τ υ : mv_H} (h : Fr pi pa pb σ τ) (g : Fr pi pa pb τ υ) : Fr pi pa pb σ υ :=
  ⟨fun o k q => (g.1 o k q).trans (h.1 o k q), fun o q => (g.2.1 o q).trans (h.2.1 o q), fun o q => (g.2.2.1 o q).trans (h.2.2.1 o q), g.2.2.2.1.trans h.2.2.2.1, g.2.2.2.2.trans h.2.2.2.2⟩
theorem Fr.up {pi pi' : Nat → Nat → Prop} {pa pb pa' pb' : Nat → Prop} {σ τ : mv_H} (h : Fr pi pa pb σ τ) (hi : ∀ o k, pi o k → pi' o k) (ha : ∀ o, pa o → pa' o) (hb : ∀ o, pb o → pb' o) : Fr pi' pa' pb' σ τ :=
  ⟨fun o k q => h.1 o k (fun z => q (hi o k z)), fun o q => h.2.1 o (fun z => q (ha o z)), fun o q => h.2.2.1 o (fun z => q (hb o z)), h.2.2.2.1, h.2.2.2.2⟩
theorem Fr.si {pi : Nat → Nat → Prop} {pa pb : Nat → Prop} {σ τ : mv_H} (h : Fr pi pa pb σ τ) {o k : Nat} {v : Int32} (q : pi o k) : Fr pi pa pb σ (mv_si τ o k v) :=
  ⟨fun o' k' g => (mv_u_ne _ _ (fun z => g (by rw [z.1, z.2]; exact q))).trans (h.1 o' k' g), h.2.1, h.2.2.1, h.2.2.2.1, h.2.2.2.2⟩
theorem Fr.sa {pi : Nat → Nat → Prop} {pa pb : Nat → Prop} {σ τ : mv_H} (h : Fr pi pa pb σ τ) {o k : Nat} {v : Int32} (q : pa o) : Fr pi pa pb σ (mv_sa τ o k v) :=
  ⟨h.1, fun o' g => (mv_u_o _ _ (fun z => g (by rw [z]; exact q))).trans (h.2.1 o' g), h.2.2.1, h.2.2.2.1, h.2.2.2.2⟩
theorem Fr.sb {pi : Nat → Nat → Prop} {pa pb : Nat → Prop} {σ τ : mv_H} (h : Fr pi pa pb σ τ) {o k : Nat} {v : Int64} (q : pb o) : Fr pi pa pb σ (mv_sb τ o k v) :=
  ⟨h.1, h.2.1, fun o' g => (mv_u_o _ _ (fun z => g (by rw [z]; exact q))).trans (h.2.2.1 o' g), h.2.2.2.1, h.2.2.2.2⟩
theorem Fr.ca {pi : Nat → Nat → Prop} {pa pb : Nat → Prop} {σ τ : mv_H} (h : Fr pi pa pb σ τ) {o : Nat} {f : Nat → Int32} (q : pa o) : Fr pi pa pb σ (mv_ca τ o f) :=
  ⟨h.1, fun o' g => (show (if o' = o then f else mv_a τ o') = mv_a σ o' from (if_neg (fun z => g (by rw [z]; exact q))).trans (h.2.1 o' g)), h.2.2.1, h.2.2.2.1, h.2.2.2.2⟩
/-! reading behind a store -/
theorem rd_i (σ : mv_H) (o k : Nat) (v : Int32) (o' k' : Nat) : mv_i (mv_si σ o k v) o' k' = if o' = o ∧ k' = k then v else mv_i σ o' k' := rfl
theorem rd_a (σ : mv_H) (o k : Nat) (v : Int32) (o' k' : Nat) : mv_a (mv_sa σ o k v) o' k' = if o' = o ∧ k' = k then v else mv_a σ o' k' := rfl
theorem rd_b (σ : mv_H) (o k : Nat) (v : Int64) (o' k' : Nat) : mv_b (mv_sb σ o k v) o' k' = if o' = o ∧ k' = k then v else mv_b σ o' k' := rfl
theorem rd_c (σ : mv_H) (o : Nat) (f : Nat → Int32) (o' k' : Nat) : mv_a (mv_ca σ o f) o' k' = if o' = o then f k' else mv_a σ o' k' := by
  show (if o' = o then f else mv_a σ o') k' = _
  split <;> rfl
theorem fits_b {x : Int32} (h1 : -128 ≤ x.toInt) (h2 : x.toInt ≤ 127) : fits .byte (.int x) = true := by
  have a1 : (-128 : Int32).toInt = -128 := by decide
  have a2 : (127 : Int32).toInt = 127 := by decide
  show (decide (-128 ≤ x) && decide (x ≤ 127)) = true
  rw [Bool.and_eq_true]
  exact ⟨decide_eq_true (Int32.le_iff_toInt_le.mpr (by rw [a1]; omega)), decide_eq_true (Int32.le_iff_toInt_le.mpr (by rw [a2]; omega))⟩
theorem ltc {x : Int32} (h : 0 ≤ x.toInt) : ¬ x < 0 := by
  rw [Int32.lt_iff_toInt_lt]
  simp only [Int32.reduceToInt]
  omega
theorem i32_addE {x y z : Int32} (e : z = x + y) (h1 : -2147483648 ≤ x.toInt + y.toInt) (h2 : x.toInt + y.toInt < 2147483648) : z.toInt = x.toInt + y.toInt := by rw [e]; exact i32_add h1 h2
theorem i32_subE {x y z : Int32} (e : z = x - y) (h1 : -2147483648 ≤ x.toInt - y.toInt) (h2 : x.toInt - y.toInt < 2147483648) : z.toInt = x.toInt - y.toInt := by rw [e]; exact i32_sub h1 h2
theorem i32_mulE {x y z : Int32} (e : z = x * y) (h1 : -2147483648 ≤ x.toInt * y.toInt) (h2 : x.toInt * y.toInt < 2147483648) : z.toInt = x.toInt * y.toInt := by rw [e]; exact i32_mul h1 h2
theorem i32_inc {x : Int32} (h : x.toInt < 2147483647) : (x + 1).toInt = x.toInt + 1 := i32_add (x := x) (y := 1) (by have := i32_rng x; show -2147483648 ≤ x.toInt + 1; omega) (by show x.toInt + 1 < 2147483648; omega)
