/-! Weaver: register, file, fetch -/
/-- what an ITEM without a block may change -/
abbrev IF (P : Nat) : mv_H → mv_H → Prop := Fr (fun o k => (o = 3 ∧ 7 ≤ k ∧ k ≤ 9) ∨ o = 21 ∨ (o = P ∧ (k ≤ 1 ∨ (6 ≤ k ∧ k ≤ 9)))) (fun o => o = 14 ∨ o = 15 ∨ (P + 1 ≤ o ∧ o ≤ P + 4)) (fun _ => False)
section IFS
variable {P M : Nat} {σ τ : mv_H}
theorem IF.wt (h : IF P σ τ) : WT P σ τ := h.up (fun o k q => by omega) (fun o q => by omega) (fun o q => q.elim)
theorem IF.tk3 (h : IF P σ τ) (a d w : Int32) : IF P σ (tk3 τ a d w) := ((h.si (Or.inl ⟨rfl, by omega, by omega⟩)).si (Or.inl ⟨rfl, by omega, by omega⟩)).si (Or.inl ⟨rfl, by omega, by omega⟩)
theorem IF.tell (h : IF P σ τ) (x y : Int32) : IF P σ (ex_tell τ x y) := (h.si (Or.inr (Or.inl rfl))).si (Or.inr (Or.inl rfl))
theorem IF.know (h : IF P σ τ) (i : Nat) (k x : Int32) : IF P σ (mv_sa (mv_sa τ 14 i k) 15 i x) := (h.sa (Or.inl rfl)).sa (Or.inr (Or.inl rfl))
theorem IF.thing (h : IF P σ τ) (w c z s : Int32) : IF P σ (pr_thing P τ w c z s) := ((((((h.sa (Or.inr (Or.inr ⟨by omega, by omega⟩))).sa (Or.inr (Or.inr ⟨by omega, by omega⟩))).sa (Or.inr (Or.inr ⟨by omega, by omega⟩))).sa (Or.inr (Or.inr ⟨by omega, by omega⟩))).si (Or.inr (Or.inr ⟨rfl, Or.inr ⟨by omega, by omega⟩⟩))).si (Or.inr (Or.inr ⟨rfl, Or.inr ⟨by omega, by omega⟩⟩))).si (Or.inr (Or.inr ⟨rfl, Or.inl (by omega)⟩))
theorem IF.p (h : IF P σ τ) {k : Nat} (hk : k ≤ 1 ∨ (6 ≤ k ∧ k ≤ 9)) (v : Int32) : IF P σ (mv_si τ P k v) := h.si (Or.inr (Or.inr ⟨rfl, hk⟩))
theorem WS.it {sz th th' s a a2 ns no : Nat} {bl : List Bk} (h : WS P σ sz th s a ns no bl) (g : IF P σ τ) (hP : PQ P) (e7 : (mv_i τ 3 7).toInt = a2) (e9 : (mv_i τ 3 9).toInt < 0) (e8 : (mv_i τ 3 8).toInt = (mv_i σ 3 8).toInt) (ha : a ≤ a2) (hz : a2 < sz) (hN : mv_i τ 21 0 = 0 → mv_i σ 21 0 = 0) (ht : th ≤ th') : WS P τ sz th' s a2 ns no bl := by
  obtain ⟨⟨h1, h2, h3, h4, h5, h6, h7, h8⟩, ⟨h9, h10, h11⟩, h12, h13, h14⟩ := h
  unfold PQ at hP
  have k4 := g.2.1 4 (by omega)
  unfold WS
  rw [k4, g.1 2 15 (by omega), g.2.1 28 (by omega), g.2.1 29 (by omega), g.2.1 30 (by omega), g.2.1 31 (by omega), g.2.2.1 (P + 10) (fun q => q), g.1 13 7 (by omega), g.2.1 (P + 9) (by omega), g.1 P 17 (by omega), g.2.1 (P + 7) (by omega)]
  have := nCd_mono (mv_a σ 4) ha
  exact ⟨⟨e7, e9, by omega, by omega, hz, by omega, by omega, by omega⟩, ⟨h9, h10, h11⟩, h12, h13, fun q => by obtain ⟨hg, k⟩ := h14 (hN q); exact ⟨hg, k.upt ht⟩⟩
theorem WN.it {n th sl no : Nat} (h : WN P M σ n th sl no) (hP : PQ P) (g : Fr (fun o k => (o = 3 ∧ 7 ≤ k ∧ k ≤ 9) ∨ o = 21) (fun _ => False) (fun _ => False) σ τ) : WN P M τ n th sl no := by
  unfold PQ at hP
  exact h.fr (funext fun k => g.1 13 k (by omega)) (g.1 P 0 (by omega)) (g.1 P 1 (by omega)) (g.1 P 6 (by omega)) (g.1 P 7 (by omega)) (g.1 P 8 (by omega)) (g.1 P 9 (by omega)) (g.1 P 10 (by omega)) (g.2.1 14 (fun q => q)) (g.2.1 15 (fun q => q)) (g.2.1 19 (fun q => q)) (g.2.1 (P + 2) (fun q => q)) (g.2.1 (P + 3) (fun q => q))
theorem WN.tk3 {n th sl no : Nat} (h : WN P M σ n th sl no) (hP : PQ P) (a d w : Int32) : WN P M (tk3 σ a d w) n th sl no := h.it hP (((Fr.rf.si (Or.inl ⟨rfl, by omega, by omega⟩)).si (Or.inl ⟨rfl, by omega, by omega⟩)).si (Or.inl ⟨rfl, by omega, by omega⟩))
theorem WN.tell {n th sl no : Nat} (h : WN P M σ n th sl no) (hP : PQ P) (x y : Int32) : WN P M (ex_tell σ x y) n th sl no := h.it hP ((Fr.rf.si (Or.inr rfl)).si (Or.inr rfl))
theorem num_n {v u : Int32} (hu : 0 ≤ u.toInt) (h : (τ = σ ∧ 1 ≤ v.toInt ∧ v.toInt ≤ u.toInt) ∨ (v = 0 ∧ ∃ x y, τ = ex_tell σ x y ∧ ¬ x = 0)) : ∃ x y, τ = ex_tell σ x y ∧ (x = 0 → mv_i σ 21 0 = 0) ∧ 0 ≤ v.toInt ∧ v.toInt ≤ u.toInt := by
  rcases h with ⟨h1, h2, h3⟩ | ⟨h1, x, y, h2, h3⟩
  · exact ⟨mv_i σ 21 0, mv_i σ 21 1, by unfold ex_tell; rw [mv_si_self, mv_si_self]; exact h1, fun q => q, by omega, h3⟩
  · have e : (0 : Int32).toInt = 0 := rfl
    exact ⟨x, y, h2, fun q => absurd q h3, by rw [h1]; exact Int.le_refl _, by rw [h1, e]; exact hu⟩
/-- one THING more -/
theorem WN.thing {n th sl no ac : Nat} (h : WN P M σ n th sl no) (hP : PQ P) (h64 : th < 64) (hac : (mv_i σ P 7).toInt = ac) {w c z s2 y k x : Int32} (hc : 0 ≤ c.toInt) (hc2 : ac + c.toInt ≤ 65536) (hy : 0 ≤ y.toInt) (hk : k = 1 ∨ k = 2) (hx : x = mv_i σ P 1) (hs : (c = 0 ∧ s2 = mv_i σ P 6 + 1) ∨ (¬ c = 0 ∧ s2 = mv_i σ P 6 + c)) : ∃ sl2, WN P M (pr_thing P (mv_sa (mv_sa σ 14 y.toNatClampNeg k) 15 y.toNatClampNeg x) w c z s2) n (th + 1) sl2 no := by
  obtain ⟨h1, ⟨k1, k2, k3, k4, k5, k6, k7, k8⟩, h3, h4, ⟨ac', m1, m2, m3⟩, h6, h7⟩ := h
  have hac' : ac' = ac := by omega
  subst hac'
  have ec : (mv_i σ P 1).toNatClampNeg = th := by have := i32_cl (x := mv_i σ P 1) (by omega); omega
  have c0 : ∀ q : Int32, q = 0 → q.toInt = 0 := fun q e => by rw [e]; rfl
  have e6 : s2.toInt = sl + (if c = 0 then 1 else c.toInt) ∧ s2.toInt ≤ ac' + c.toInt + th + 1 := by
    rcases hs with ⟨q1, q2⟩ | ⟨q1, q2⟩
    · rw [q2, if_pos q1, i32_inc (by omega)]; have := c0 c q1; omega
    · have : (mv_i σ P 6 + c).toInt = (mv_i σ P 6).toInt + c.toInt := i32_add (by omega) (by omega)
      rw [q2, if_neg q1, this]; omega
  have e7 : (mv_i σ P 7 + c).toInt = ac' + c.toInt := by rw [i32_add (by omega) (by omega)]; omega
  have e1 : (mv_i σ P 1 + 1).toInt = th + 1 := by rw [i32_inc (by omega)]; omega
  have hpos : 0 ≤ s2.toInt ∧ sl ≤ s2.toInt ∧ sl + 1 ≤ s2.toInt ∧ sl + c.toInt ≤ s2.toInt := by
    by_cases q : c = 0
    · rw [if_pos q] at e6; have := c0 c q; omega
    · have : ¬ c.toInt = 0 := fun z => q (Int32.toInt_inj.mp z)
      rw [if_neg q] at e6; omega
  obtain ⟨T, eT⟩ : ∃ T, T = pr_thing P (mv_sa (mv_sa σ 14 y.toNatClampNeg k) 15 y.toNatClampNeg x) w c z s2 := ⟨_, rfl⟩
  unfold PQ at hP
  have i1 : mv_i T P 1 = mv_i σ P 1 + 1 := by rw [eT]; exact ri_eq _ _ _ _
  have i7 : mv_i T P 7 = mv_i σ P 7 + c := by rw [eT]; exact (ri_ne (by omega)).trans (ri_eq _ _ _ _)
  have i6 : mv_i T P 6 = s2 := by rw [eT]; exact ((ri_ne (by omega)).trans (ri_ne (by omega))).trans (ri_eq _ _ _ _)
  have io : ∀ o k, ¬ (o = P ∧ (k = 1 ∨ k = 6 ∨ k = 7)) → mv_i T o k = mv_i σ o k := fun o k q => by rw [eT]; exact ((ri_ne (by omega)).trans (ri_ne (by omega))).trans (ri_ne (by omega))
  have ao : ∀ o, ¬ (P + 1 ≤ o ∧ o ≤ P + 4) → mv_a T o = mv_a (mv_sa (mv_sa σ 14 y.toNatClampNeg k) 15 y.toNatClampNeg x) o := fun o q => by rw [eT]; exact (((ra_ne (by omega)).trans (ra_ne (by omega))).trans (ra_ne (by omega))).trans (ra_ne (by omega))
  have b2 : mv_a (mv_sa (mv_sa σ 14 y.toNatClampNeg k) 15 y.toNatClampNeg x) (P + 2) = mv_a σ (P + 2) := (ra_ne (by omega)).trans (ra_ne (by omega))
  have b3 : mv_a (mv_sa (mv_sa σ 14 y.toNatClampNeg k) 15 y.toNatClampNeg x) (P + 3) = mv_a σ (P + 3) := (ra_ne (by omega)).trans (ra_ne (by omega))
  have a2 : ∀ j, mv_a T (P + 2) j = if j = th then c else mv_a σ (P + 2) j := fun j => by
    have q1 : mv_a T (P + 2) = mv_a (mv_sa (mv_sa (mv_sa (mv_sa σ 14 y.toNatClampNeg k) 15 y.toNatClampNeg x) (P + 1) (mv_i σ P 1).toNatClampNeg w) (P + 2) (mv_i σ P 1).toNatClampNeg c) (P + 2) := by rw [eT]; exact (ra_ne (by omega)).trans (ra_ne (by omega))
    have q2 : mv_a (mv_sa (mv_sa (mv_sa σ 14 y.toNatClampNeg k) 15 y.toNatClampNeg x) (P + 1) (mv_i σ P 1).toNatClampNeg w) (P + 2) = mv_a σ (P + 2) := (ra_ne (by omega)).trans b2
    rw [q1, row1, q2, ec]
  have a3 : ∀ j, mv_a T (P + 3) j = if j = th then mv_i σ P 6 else mv_a σ (P + 3) j := fun j => by
    have q1 : mv_a T (P + 3) = mv_a (mv_sa (mv_sa (mv_sa (mv_sa (mv_sa σ 14 y.toNatClampNeg k) 15 y.toNatClampNeg x) (P + 1) (mv_i σ P 1).toNatClampNeg w) (P + 2) (mv_i σ P 1).toNatClampNeg c) (P + 3) (mv_i σ P 1).toNatClampNeg (mv_i σ P 6)) (P + 3) := by rw [eT]; exact ra_ne (by omega)
    have q2 : mv_a (mv_sa (mv_sa (mv_sa (mv_sa σ 14 y.toNatClampNeg k) 15 y.toNatClampNeg x) (P + 1) (mv_i σ P 1).toNatClampNeg w) (P + 2) (mv_i σ P 1).toNatClampNeg c) (P + 3) = mv_a σ (P + 3) := ((ra_ne (by omega)).trans (ra_ne (by omega))).trans b3
    rw [q1, row1, q2, ec]
  have a14 : ∀ j, mv_a T 14 j = if j = y.toNatClampNeg then k else mv_a σ 14 j := fun j => by
    have q1 : mv_a (mv_sa (mv_sa σ 14 y.toNatClampNeg k) 15 y.toNatClampNeg x) 14 = mv_a (mv_sa σ 14 y.toNatClampNeg k) 14 := ra_ne (by omega)
    rw [ao 14 (by omega), q1, row1]
  have a15 : ∀ j, mv_a T 15 j = if j = y.toNatClampNeg then x else mv_a σ 15 j := fun j => by
    have q1 : mv_a (mv_sa σ 14 y.toNatClampNeg k) 15 = mv_a σ 15 := ra_ne (by omega)
    rw [ao 15 (by omega), row1, q1]
  have a19 : mv_a T 19 = mv_a σ 19 := (ao 19 (by omega)).trans ((ra_ne (by omega)).trans (ra_ne (by omega)))
  rw [← eT]
  clear eT
  refine ⟨s2.toInt.toNat, fun j hj => ?_, ⟨by rw [i1]; omega, by omega, by rw [i6]; omega, by omega, by rw [io P 0 (by omega)]; exact k5, by rw [io P 0 (by omega)]; exact k6, fun t ht => ?_, ?_⟩, ?_, by rw [io 13 7 (by omega), io 13 9 (by omega)]; exact h4, ⟨(ac' + c.toInt).toNat, by rw [i7]; omega, by omega, by omega⟩, by rw [io P 10 (by omega)]; exact h6, h7⟩
  · rw [a14, a15]
    have kk := h1 j hj
    by_cases e : j = y.toNatClampNeg
    · rw [if_pos e, if_pos e, hx]
      exact ⟨fun _ => by omega, fun q => by rcases hk with hk | hk <;> (rw [hk] at q; exact absurd q (by decide))⟩
    · rw [if_neg e, if_neg e]
      exact ⟨fun q => by have := kk.1 q; omega, kk.2⟩
  · rw [a2, a3]
    by_cases e : t = th
    · rw [if_pos e, if_pos e]
      exact ⟨c.toInt.toNat, sl, by omega, k3, by omega, by omega⟩
    · rw [if_neg e, if_neg e]
      obtain ⟨c1, f1, q1, q2, q3, q4⟩ := k7 t (by omega)
      exact ⟨c1, f1, q1, q2, by omega, by omega⟩
  · rw [io P 8 (by omega), io P 9 (by omega)]
    omega
  · unfold Ns
    rw [io 13 7 (by omega), a19]
    exact h3
/-- the register and the FILE of the fetch -/
theorem WN.fetch {n th sl no : Nat} (h : WN P M σ n th sl no) (hP : PQ P) {x y : Int32} (hx : 0 ≤ x.toInt ∧ x.toInt < th) (hy : 0 ≤ y.toInt ∧ y.toInt < th) : WN P M (mv_si (mv_si σ P 8 x) P 9 y) n th sl no := by
  obtain ⟨h1, ⟨k1, k2, k3, k4, k5, k6, k7, k8⟩, h3, h4, h5, h6, h7⟩ := h
  obtain ⟨T, eT⟩ : ∃ T, T = mv_si (mv_si σ P 8 x) P 9 y := ⟨_, rfl⟩
  unfold PQ at hP
  have i8 : mv_i T P 8 = x := by rw [eT]; exact (ri_ne (by omega)).trans (ri_eq _ _ _ _)
  have i9 : mv_i T P 9 = y := by rw [eT]; exact ri_eq _ _ _ _
  have io : ∀ o k, ¬ (o = P ∧ (k = 8 ∨ k = 9)) → mv_i T o k = mv_i σ o k := fun o k q => by rw [eT]; exact (ri_ne (by omega)).trans (ri_ne (by omega))
  have ea : mv_a T = mv_a σ := by rw [eT]; rfl
  rw [← eT]
  clear eT
  unfold WN NM Th Ns
  rw [ea, i8, i9, io P 0 (by omega), io P 1 (by omega), io P 6 (by omega), io P 7 (by omega), io P 10 (by omega), io 13 7 (by omega), io 13 9 (by omega)]
  exact ⟨h1, ⟨k1, k2, k3, k4, k5, k6, k7, Or.inr ⟨hx.1, hx.2, hy.1, hy.2⟩⟩, h3, h4, h5, h6, h7⟩
end IFS
def y_Weaver_register : MethodName := ⟨"MachineLoom$Weaver", "register", "()V"⟩
abbrev b_Weaver_register : ByteArray := prog_12_method_9_code
theorem kc_Weaver_register : Cond.code y_Weaver_register b_Weaver_register 3 (Option.none : Option Jvm.ClassFile.FieldType) ∈ ma := ma_of (tb_6 _ (List.mem_of_getElem? (i := 103) rfl)) rfl
theorem k_1266 : (Jvm.Cond.methodLink "MachineLoom$Weaver" (143 : Nat) ({ cls := "MachineLoom$Tokens", name := "take", desc := "(I)I" } : Jvm.MethodName)) ∈ ma := ma_of (tb_6 _ (List.mem_of_getElem? (i := 66) rfl)) rfl
theorem k_1304 : (Jvm.Cond.methodLink "MachineLoom$Weaver" (177 : Nat) ({ cls := "MachineLoom$Weaver", name := "numberUpTo", desc := "(II)I" } : Jvm.MethodName)) ∈ ma := ma_of (tb_6 _ (List.mem_of_getElem? (i := 104) rfl)) rfl
theorem k_1306 : (Jvm.Cond.instanceMethod ({ cls := "MachineLoom$Weaver", name := "numberUpTo", desc := "(II)I" } : Jvm.MethodName)) ∈ ma := ma_of (tb_6 _ (List.mem_of_getElem? (i := 106) rfl)) rfl
theorem ks_35 : Cond.selects "MachineLoom$Weaver" ⟨"MachineLoom$Weaver", "numberUpTo", "(II)I"⟩ ⟨"MachineLoom$Weaver", "numberUpTo", "(II)I"⟩ ∈ ma := ma_sel 35 rfl rfl
theorem k_1291 : (Jvm.Cond.methodLink "MachineLoom$Weaver" (79 : Nat) ({ cls := "MachineLoom$Tokens", name := "right", desc := "()Z" } : Jvm.MethodName)) ∈ ma := ma_of (tb_6 _ (List.mem_of_getElem? (i := 91) rfl)) rfl
theorem k_1292 : (Jvm.Cond.instanceMethod ({ cls := "MachineLoom$Tokens", name := "right", desc := "()Z" } : Jvm.MethodName)) ∈ ma := ma_of (tb_6 _ (List.mem_of_getElem? (i := 92) rfl)) rfl
theorem k_1293 : (Jvm.Cond.selects "MachineLoom$Tokens" ({ cls := "MachineLoom$Tokens", name := "right", desc := "()Z" } : Jvm.MethodName) ({ cls := "MachineLoom$Tokens", name := "right", desc := "()Z" } : Jvm.MethodName)) ∈ ma := ma_of (tb_6 _ (List.mem_of_getElem? (i := 93) rfl)) rfl
theorem k_1308 : (Jvm.Cond.methodLink "MachineLoom$Weaver" (181 : Nat) ({ cls := "MachineLoom$Weaver", name := "isNew", desc := "(II)Z" } : Jvm.MethodName)) ∈ ma := ma_of (tb_6 _ (List.mem_of_getElem? (i := 108) rfl)) rfl
theorem k_1310 : (Jvm.Cond.instanceMethod ({ cls := "MachineLoom$Weaver", name := "isNew", desc := "(II)Z" } : Jvm.MethodName)) ∈ ma := ma_of (tb_6 _ (List.mem_of_getElem? (i := 110) rfl)) rfl
theorem ks_36 : Cond.selects "MachineLoom$Weaver" ⟨"MachineLoom$Weaver", "isNew", "(II)Z"⟩ ⟨"MachineLoom$Weaver", "isNew", "(II)Z"⟩ ∈ ma := ma_sel 36 rfl rfl
theorem k_1325 : (Jvm.Cond.methodLink "MachineLoom$Weaver" (191 : Nat) ({ cls := "MachineLoom$Names", name := "know", desc := "(III)V" } : Jvm.MethodName)) ∈ ma := ma_of (tb_6 _ (List.mem_of_getElem? (i := 125) rfl)) rfl
theorem k_1329 : (Jvm.Cond.methodLink "MachineLoom$Weaver" (195 : Nat) ({ cls := "MachineLoom$Program", name := "addThing", desc := "(IIZ)V" } : Jvm.MethodName)) ∈ ma := ma_of (tb_6 _ (List.mem_of_getElem? (i := 129) rfl)) rfl
theorem k_1330 : (Jvm.Cond.instanceMethod ({ cls := "MachineLoom$Program", name := "addThing", desc := "(IIZ)V" } : Jvm.MethodName)) ∈ ma := ma_of (tb_6 _ (List.mem_of_getElem? (i := 130) rfl)) rfl
theorem k_1331 : (Jvm.Cond.selects "MachineLoom$Program" ({ cls := "MachineLoom$Program", name := "addThing", desc := "(IIZ)V" } : Jvm.MethodName) ({ cls := "MachineLoom$Program", name := "addThing", desc := "(IIZ)V" } : Jvm.MethodName)) ∈ ma := ma_of (tb_6 _ (List.mem_of_getElem? (i := 131) rfl)) rfl
theorem d_Weaver_register_0 : decode b_Weaver_register 0 = .ok (.aload_n 0, 1) := by decide +kernel
theorem d_Weaver_register_1 : decode b_Weaver_register 1 = .ok (.getfield 12, 3) := by decide +kernel
theorem d_Weaver_register_4 : decode b_Weaver_register 4 = .ok (.sipush 201, 3) := by decide +kernel
theorem d_Weaver_register_7 : decode b_Weaver_register 7 = .ok (.invokevirtual 143, 3) := by decide +kernel
theorem d_Weaver_register_10 : decode b_Weaver_register 10 = .ok (.pop, 1) := by decide +kernel
theorem d_Weaver_register_11 : decode b_Weaver_register 11 = .ok (.aload_n 0, 1) := by decide +kernel
theorem d_Weaver_register_12 : decode b_Weaver_register 12 = .ok (.getfield 12, 3) := by decide +kernel
theorem d_Weaver_register_15 : decode b_Weaver_register 15 = .ok (.iconst 3, 1) := by decide +kernel
theorem d_Weaver_register_16 : decode b_Weaver_register 16 = .ok (.invokevirtual 143, 3) := by decide +kernel
theorem d_Weaver_register_19 : decode b_Weaver_register 19 = .ok (.istore_n 1, 1) := by decide +kernel
theorem d_Weaver_register_20 : decode b_Weaver_register 20 = .ok (.aload_n 0, 1) := by decide +kernel
theorem d_Weaver_register_21 : decode b_Weaver_register 21 = .ok (.getfield 12, 3) := by decide +kernel
theorem d_Weaver_register_24 : decode b_Weaver_register 24 = .ok (.bipush 58, 2) := by decide +kernel
theorem d_Weaver_register_26 : decode b_Weaver_register 26 = .ok (.invokevirtual 143, 3) := by decide +kernel
theorem d_Weaver_register_29 : decode b_Weaver_register 29 = .ok (.pop, 1) := by decide +kernel
theorem d_Weaver_register_30 : decode b_Weaver_register 30 = .ok (.aload_n 0, 1) := by decide +kernel
theorem d_Weaver_register_31 : decode b_Weaver_register 31 = .ok (.aload_n 0, 1) := by decide +kernel
theorem d_Weaver_register_32 : decode b_Weaver_register 32 = .ok (.getfield 12, 3) := by decide +kernel
theorem d_Weaver_register_35 : decode b_Weaver_register 35 = .ok (.iconst 4, 1) := by decide +kernel
theorem d_Weaver_register_36 : decode b_Weaver_register 36 = .ok (.invokevirtual 143, 3) := by decide +kernel
theorem d_Weaver_register_39 : decode b_Weaver_register 39 = .ok (.bipush 64, 2) := by decide +kernel
theorem d_Weaver_register_41 : decode b_Weaver_register 41 = .ok (.invokevirtual 177, 3) := by decide +kernel
theorem d_Weaver_register_44 : decode b_Weaver_register 44 = .ok (.istore_n 2, 1) := by decide +kernel
theorem d_Weaver_register_45 : decode b_Weaver_register 45 = .ok (.aload_n 0, 1) := by decide +kernel
theorem d_Weaver_register_46 : decode b_Weaver_register 46 = .ok (.getfield 12, 3) := by decide +kernel
theorem d_Weaver_register_49 : decode b_Weaver_register 49 = .ok (.bipush 59, 2) := by decide +kernel
theorem d_Weaver_register_51 : decode b_Weaver_register 51 = .ok (.invokevirtual 143, 3) := by decide +kernel
theorem d_Weaver_register_54 : decode b_Weaver_register 54 = .ok (.pop, 1) := by decide +kernel
theorem d_Weaver_register_55 : decode b_Weaver_register 55 = .ok (.aload_n 0, 1) := by decide +kernel
theorem d_Weaver_register_56 : decode b_Weaver_register 56 = .ok (.getfield 12, 3) := by decide +kernel
theorem d_Weaver_register_59 : decode b_Weaver_register 59 = .ok (.invokevirtual 79, 3) := by decide +kernel
theorem d_Weaver_register_62 : decode b_Weaver_register 62 = .ok (.ifCond .eq (42), 3) := by decide +kernel
theorem d_Weaver_register_65 : decode b_Weaver_register 65 = .ok (.aload_n 0, 1) := by decide +kernel
theorem d_Weaver_register_66 : decode b_Weaver_register 66 = .ok (.iload_n 1, 1) := by decide +kernel
theorem d_Weaver_register_67 : decode b_Weaver_register 67 = .ok (.iconst 0, 1) := by decide +kernel
theorem d_Weaver_register_68 : decode b_Weaver_register 68 = .ok (.invokevirtual 181, 3) := by decide +kernel
theorem d_Weaver_register_71 : decode b_Weaver_register 71 = .ok (.ifCond .eq (33), 3) := by decide +kernel
theorem d_Weaver_register_74 : decode b_Weaver_register 74 = .ok (.aload_n 0, 1) := by decide +kernel
theorem d_Weaver_register_75 : decode b_Weaver_register 75 = .ok (.getfield 27, 3) := by decide +kernel
theorem d_Weaver_register_78 : decode b_Weaver_register 78 = .ok (.aload_n 0, 1) := by decide +kernel
theorem d_Weaver_register_79 : decode b_Weaver_register 79 = .ok (.iload_n 1, 1) := by decide +kernel
theorem d_Weaver_register_80 : decode b_Weaver_register 80 = .ok (.invokevirtual 185, 3) := by decide +kernel
theorem d_Weaver_register_83 : decode b_Weaver_register 83 = .ok (.iconst 1, 1) := by decide +kernel
theorem d_Weaver_register_84 : decode b_Weaver_register 84 = .ok (.aload_n 0, 1) := by decide +kernel
theorem d_Weaver_register_85 : decode b_Weaver_register 85 = .ok (.getfield 113, 3) := by decide +kernel
theorem d_Weaver_register_88 : decode b_Weaver_register 88 = .ok (.getfield 188, 3) := by decide +kernel
theorem d_Weaver_register_91 : decode b_Weaver_register 91 = .ok (.invokevirtual 191, 3) := by decide +kernel
theorem d_Weaver_register_94 : decode b_Weaver_register 94 = .ok (.aload_n 0, 1) := by decide +kernel
theorem d_Weaver_register_95 : decode b_Weaver_register 95 = .ok (.getfield 113, 3) := by decide +kernel
theorem d_Weaver_register_98 : decode b_Weaver_register 98 = .ok (.iload_n 2, 1) := by decide +kernel
theorem d_Weaver_register_99 : decode b_Weaver_register 99 = .ok (.iconst 0, 1) := by decide +kernel
theorem d_Weaver_register_100 : decode b_Weaver_register 100 = .ok (.iconst 0, 1) := by decide +kernel
theorem d_Weaver_register_101 : decode b_Weaver_register 101 = .ok (.invokevirtual 195, 3) := by decide +kernel
theorem d_Weaver_register_104 : decode b_Weaver_register 104 = .ok (.return_, 1) := by decide +kernel
set_option maxHeartbeats 4000000 in
set_option maxRecDepth 100000 in
theorem c_Weaver_register_a (l : Launch) {dA : FieldType → ClassId} {D : va_G} {al : Nat → Nat} {ext : mv_Sh} {sk sv : Nat → Nat} (hi : mv_inj (mg dA D al ext)) (σ : mv_H) {t tn len n z sz th sl s0 a ns no : Nat} (hG : WG 32 32768 512 ext σ t tn len n z sz) (hM : Mt (mv_a σ 24)) (hW : WN 32 512 σ n th sl no) (hS : WS 32 σ sz th s0 a ns no []) (hm0 : mv_i σ 2 6 = 0) (hk3 : mv_a σ 4 (mv_i σ 3 7).toNatClampNeg = 201) : mv_C l y_Weaver_register (Cond.code y_Weaver_register b_Weaver_register 3 (Option.none : Option Jvm.ClassFile.FieldType) :: ma) ({ frames := 3, cells := 0, slots := 0, locals := 68 }) (mg dA D al ext) (mK sk sv) [.ref (al 2)] σ (mv_Rv (fun σ1 => TP 32 512 σ σ1 n sz a)) := by
  refine mv_C.ofV (cc := b_Weaver_register) (nL := 3) (ret := (Option.none : Option Jvm.ClassFile.FieldType)) (by decide +kernel) rfl hi (Nat.le_of_ble_eq_true rfl) ?_
  intro p e s m below meth c B hNs hr hnm hno
  have hP : PQ 32 := by unfold PQ; omega
  have hR := hG.1
  have ht2 := hG.2.1.2.2.2.2.2.2
  have hF : IF 32 σ σ := Fr.rf
  have hN : mv_i σ 21 0 = 0 → mv_i σ 21 0 = 0 := fun q => q
  have hE := hG.2.2.1
  have hsz := hE.2.2.2.2.2
  have hsz2 := hE.2.2.2.1
  have hlen := hG.2.2.2.2.1
  have hlen2 := hG.2.2.2.2.2
  have t7 := hS.1.1
  have hw9 := hS.1.2.1
  have ha9 := hS.1.2.2.2.2.1
  have t9 : (mv_i σ 3 9).toInt = (mv_i σ 3 9).toInt := rfl
  have t8 : (mv_i σ 3 8).toInt = (mv_i σ 3 8).toInt := rfl
  have kp : mv_a σ 4 = mv_a σ 4 := rfl
  have k6 : mv_b σ 6 = mv_b σ 6 := rfl
  have hs5 := hS.1.2.2.2.2.2.1
  have hs6 := hS.1.2.2.2.2.2.2.1
  have hd8 := hS.1.2.2.1
  have hd9 := hS.1.2.2.2.1
  refine mv_aload_n (pc := 0) B d_Weaver_register_0 rfl 0 rfl ?_
  refine mv_getR (pc := 1) (ci := 1) (C := R_Weaver) (T := F_Weaver) (N := 16) B 0 rfl rfl (by decide) i_Weaver (B.2.2.2.1 _ k_228) rfl (hR.1 _ 0 _ rfl) d_Weaver_register_1 ?_
  refine mv_sipush (pc := 4) (v := 201) B d_Weaver_register_4 (by decide) ?_
  refine mv_callVi (pc := 7) (n := 1) (ci := 2) (C := R_Tokens) B (mK_ok sk sv) hNs rfl rfl (c_Tokens_takeN l hi _ _ hR.1 (hG.2.2.1.wt hF.wt hP ht2) (by omega) (by omega) (by decide)) rfl (ma_goodc kc_Tokens_take) (B.2.2.2.1 _ k_1266) (B.2.2.2.1 _ k_1267) (B.2.2.2.1 _ k_1268) (B.2.2.2.1 _ k_3) ⟨by decide +kernel, by decide +kernel, by decide +kernel⟩ rfl d_Weaver_register_7 rfl (Nat.le_of_ble_eq_true rfl) ⟨by decide, by decide⟩ ⟨by decide, by decide⟩ ⟨by decide, by decide⟩ (mv_noH hno _) (fun v7 σ7 h7 => ?_)
  obtain ⟨a7, w7, e7, r7⟩ := h7
  have q7 := r7.1
  have z7 := fun q => (r7.2.1 q).1
  have y7 := And.intro r7.2.2.2.1 r7.2.2.2.2.1
  subst e7
  have hw7 := r7.2.2.1 hw9 hk3 trivial
  refine mv_gen (fun S10 eS10 => ?_)
  have hR : Rw 32 (mv_r S10) := by rw [eS10]; exact hR
  have hF : IF 32 σ S10 := by rw [eS10]; exact hF.tk3 _ _ _
  have hN : mv_i S10 21 0 = 0 → mv_i σ 21 0 = 0 := by rw [eS10]; exact hN
  have t7 : (mv_i S10 3 7).toInt = a7.toInt := by rw [eS10]; rfl
  have t8 : (mv_i S10 3 8).toInt = (mv_i σ 3 8).toInt := by rw [eS10]; first | exact t8 | exact (sub_one (by omega)).trans (by omega) | exact (i32_inc (by omega)).trans (by omega)
  have t9 : (mv_i S10 3 9).toInt = w7.toInt := by rw [eS10]; rfl
  have kp := Eq.trans (show mv_a S10 4 = mv_a _ 4 by rw [eS10]; rfl) kp
  have k6 := Eq.trans (show mv_b S10 6 = mv_b _ 6 by rw [eS10]; rfl) k6
  have hW2 := hW
  have hW2 : WN 32 512 S10 n th sl no := by rw [eS10]; exact hW2.tk3 hP _ _ _
  clear eS10
  refine mv_pop (pc := 10) B d_Weaver_register_10 rfl ?_
  refine mv_aload_n (pc := 11) B d_Weaver_register_11 rfl 0 rfl ?_
  refine mv_getR (pc := 12) (ci := 1) (C := R_Weaver) (T := F_Weaver) (N := 16) B 0 rfl rfl (by decide) i_Weaver (B.2.2.2.1 _ k_228) rfl (hR.1 _ 0 _ rfl) d_Weaver_register_12 ?_
  refine mv_iconst (pc := 15) (v := 3) B d_Weaver_register_15 (by decide) ?_
  refine mv_callVi (pc := 16) (n := 1) (ci := 2) (C := R_Tokens) B (mK_ok sk sv) hNs rfl rfl (c_Tokens_takeN l hi _ _ hR.1 (hG.2.2.1.wt hF.wt hP ht2) (by omega) (by omega) (by decide)) rfl (ma_goodc kc_Tokens_take) (B.2.2.2.1 _ k_1266) (B.2.2.2.1 _ k_1267) (B.2.2.2.1 _ k_1268) (B.2.2.2.1 _ k_3) ⟨by decide +kernel, by decide +kernel, by decide +kernel⟩ rfl d_Weaver_register_16 rfl (Nat.le_of_ble_eq_true rfl) ⟨by decide, by decide⟩ ⟨by decide, by decide⟩ ⟨by decide, by decide⟩ (mv_noH hno _) (fun v16 σ16 h16 => ?_)
  have kz := k6
  obtain ⟨a16, w16, e16, r16⟩ := h16
  have q16 := r16.1
  have z16 := fun q => (r16.2.1 q).1
  have y16 := And.intro r16.2.2.2.1 r16.2.2.2.2.1
  subst e16
  have sy16 := TkR.sym (hG.2.2.1.wt hF.wt hP ht2) r16
  refine mv_gen (fun S19 eS19 => ?_)
  have hR : Rw 32 (mv_r S19) := by rw [eS19]; exact hR
  have hF : IF 32 σ S19 := by rw [eS19]; exact hF.tk3 _ _ _
  have hN : mv_i S19 21 0 = 0 → mv_i σ 21 0 = 0 := by rw [eS19]; exact hN
  have t7 : (mv_i S19 3 7).toInt = a16.toInt := by rw [eS19]; rfl
  have t8 : (mv_i S19 3 8).toInt = (mv_i σ 3 8).toInt := by rw [eS19]; first | exact t8 | exact (sub_one (by omega)).trans (by omega) | exact (i32_inc (by omega)).trans (by omega)
  have t9 : (mv_i S19 3 9).toInt = w16.toInt := by rw [eS19]; rfl
  have kp := Eq.trans (show mv_a S19 4 = mv_a _ 4 by rw [eS19]; rfl) kp
  have k6 := Eq.trans (show mv_b S19 6 = mv_b _ 6 by rw [eS19]; rfl) k6
  have hW2 : WN 32 512 S19 n th sl no := by rw [eS19]; exact hW2.tk3 hP _ _ _
  have k19 := k6
  have sy16 : 0 ≤ (mv_b σ 6 v16.toNatClampNeg).toInt ∧ (mv_b σ 6 v16.toNatClampNeg).toInt < n := by rw [← kz]; exact sy16
  clear eS19
  refine mv_istore_n (pc := 19) B d_Weaver_register_19 rfl (by decide) rfl ?_
  refine mv_aload_n (pc := 20) B d_Weaver_register_20 rfl 1 rfl ?_
  refine mv_getR (pc := 21) (ci := 1) (C := R_Weaver) (T := F_Weaver) (N := 16) B 0 rfl rfl (by decide) i_Weaver (B.2.2.2.1 _ k_228) rfl (hR.1 _ 0 _ rfl) d_Weaver_register_21 ?_
  refine mv_bipush (pc := 24) (v := 58) B d_Weaver_register_24 (by decide) ?_
  refine mv_callVi (pc := 26) (n := 1) (ci := 2) (C := R_Tokens) B (mK_ok sk sv) hNs rfl rfl (c_Tokens_takeN l hi _ _ hR.1 (hG.2.2.1.wt hF.wt hP ht2) (by omega) (by omega) (by decide)) rfl (ma_goodc kc_Tokens_take) (B.2.2.2.1 _ k_1266) (B.2.2.2.1 _ k_1267) (B.2.2.2.1 _ k_1268) (B.2.2.2.1 _ k_3) ⟨by decide +kernel, by decide +kernel, by decide +kernel⟩ rfl d_Weaver_register_26 rfl (Nat.le_of_ble_eq_true rfl) ⟨by decide, by decide⟩ ⟨by decide, by decide⟩ ⟨by decide, by decide⟩ (mv_noH hno _) (fun v26 σ26 h26 => ?_)
  obtain ⟨a26, w26, e26, r26⟩ := h26
  have q26 := r26.1
  have z26 := fun q => (r26.2.1 q).1
  have y26 := And.intro r26.2.2.2.1 r26.2.2.2.2.1
  subst e26
  refine mv_gen (fun S29 eS29 => ?_)
  have hR : Rw 32 (mv_r S29) := by rw [eS29]; exact hR
  have hF : IF 32 σ S29 := by rw [eS29]; exact hF.tk3 _ _ _
  have hN : mv_i S29 21 0 = 0 → mv_i σ 21 0 = 0 := by rw [eS29]; exact hN
  have t7 : (mv_i S29 3 7).toInt = a26.toInt := by rw [eS29]; rfl
  have t8 : (mv_i S29 3 8).toInt = (mv_i σ 3 8).toInt := by rw [eS29]; first | exact t8 | exact (sub_one (by omega)).trans (by omega) | exact (i32_inc (by omega)).trans (by omega)
  have t9 : (mv_i S29 3 9).toInt = w26.toInt := by rw [eS29]; rfl
  have kp := Eq.trans (show mv_a S29 4 = mv_a _ 4 by rw [eS29]; rfl) kp
  have k6 := Eq.trans (show mv_b S29 6 = mv_b _ 6 by rw [eS29]; rfl) k6
  have hW2 : WN 32 512 S29 n th sl no := by rw [eS29]; exact hW2.tk3 hP _ _ _
  clear eS29
  refine mv_pop (pc := 29) B d_Weaver_register_29 rfl ?_
  refine mv_aload_n (pc := 30) B d_Weaver_register_30 rfl 1 rfl ?_
  refine mv_aload_n (pc := 31) B d_Weaver_register_31 rfl 1 rfl ?_
  refine mv_getR (pc := 32) (ci := 1) (C := R_Weaver) (T := F_Weaver) (N := 16) B 0 rfl rfl (by decide) i_Weaver (B.2.2.2.1 _ k_228) rfl (hR.1 _ 0 _ rfl) d_Weaver_register_32 ?_
  refine mv_iconst (pc := 35) (v := 4) B d_Weaver_register_35 (by decide) ?_
  refine mv_callVi (pc := 36) (n := 1) (ci := 2) (C := R_Tokens) B (mK_ok sk sv) hNs rfl rfl (c_Tokens_takeN l hi _ _ hR.1 (hG.2.2.1.wt hF.wt hP ht2) (by omega) (by omega) (by decide)) rfl (ma_goodc kc_Tokens_take) (B.2.2.2.1 _ k_1266) (B.2.2.2.1 _ k_1267) (B.2.2.2.1 _ k_1268) (B.2.2.2.1 _ k_3) ⟨by decide +kernel, by decide +kernel, by decide +kernel⟩ rfl d_Weaver_register_36 rfl (Nat.le_of_ble_eq_true rfl) ⟨by decide, by decide⟩ ⟨by decide, by decide⟩ ⟨by decide, by decide⟩ (mv_noH hno _) (fun v36 σ36 h36 => ?_)
  obtain ⟨a36, w36, e36, r36⟩ := h36
  have q36 := r36.1
  have z36 := fun q => (r36.2.1 q).1
  have y36 := And.intro r36.2.2.2.1 r36.2.2.2.2.1
  subst e36
  refine mv_gen (fun S39 eS39 => ?_)
  have hR : Rw 32 (mv_r S39) := by rw [eS39]; exact hR
  have hF : IF 32 σ S39 := by rw [eS39]; exact hF.tk3 _ _ _
  have hN : mv_i S39 21 0 = 0 → mv_i σ 21 0 = 0 := by rw [eS39]; exact hN
  have t7 : (mv_i S39 3 7).toInt = a36.toInt := by rw [eS39]; rfl
  have t8 : (mv_i S39 3 8).toInt = (mv_i σ 3 8).toInt := by rw [eS39]; first | exact t8 | exact (sub_one (by omega)).trans (by omega) | exact (i32_inc (by omega)).trans (by omega)
  have t9 : (mv_i S39 3 9).toInt = w36.toInt := by rw [eS39]; rfl
  have kp := Eq.trans (show mv_a S39 4 = mv_a _ 4 by rw [eS39]; rfl) kp
  have k6 := Eq.trans (show mv_b S39 6 = mv_b _ 6 by rw [eS39]; rfl) k6
  have hW2 : WN 32 512 S39 n th sl no := by rw [eS39]; exact hW2.tk3 hP _ _ _
  clear eS39
  refine mv_bipush (pc := 39) (v := 64) B d_Weaver_register_39 (by decide) ?_
  refine mv_callVi (pc := 41) (n := 2) (ci := 1) (C := R_Weaver) B (mK_ok sk sv) hNs rfl rfl (c_Weaver_numberUpTo l hi _ _ _ hR.1 y36.1 (by omega) (by decide)) rfl (ma_goodc kc_Weaver_numberUpTo) (B.2.2.2.1 _ k_1304) (B.2.2.2.1 _ k_1306) (B.2.2.2.1 _ ks_35) (B.2.2.2.1 _ k_2) ⟨by decide +kernel, by decide +kernel, by decide +kernel⟩ rfl d_Weaver_register_41 rfl (Nat.le_of_ble_eq_true rfl) ⟨by decide, by decide⟩ ⟨by decide, by decide⟩ ⟨by decide, by decide⟩ (mv_noH hno _) (fun v41 σ41 h41 => ?_)
  obtain ⟨x41, y41, e41, z41, u41⟩ := num_n (by decide) h41
  subst e41
  refine mv_gen (fun S44 eS44 => ?_)
  have hR : Rw 32 (mv_r S44) := by rw [eS44]; exact hR
  have hF : IF 32 σ S44 := by rw [eS44]; exact hF.tell _ _
  have hN : mv_i S44 21 0 = 0 → mv_i σ 21 0 = 0 := by rw [eS44]; exact fun q => hN (z41 q)
  have t7 := Eq.trans (congrArg Int32.toInt (show mv_i S44 3 7 = mv_i _ 3 7 by rw [eS44]; rfl)) t7
  have t8 := Eq.trans (congrArg Int32.toInt (show mv_i S44 3 8 = mv_i _ 3 8 by rw [eS44]; rfl)) t8
  have t9 := Eq.trans (congrArg Int32.toInt (show mv_i S44 3 9 = mv_i _ 3 9 by rw [eS44]; rfl)) t9
  have kp := Eq.trans (show mv_a S44 4 = mv_a _ 4 by rw [eS44]; rfl) kp
  have k6 := Eq.trans (show mv_b S44 6 = mv_b _ 6 by rw [eS44]; rfl) k6
  have hW2 : WN 32 512 S44 n th sl no := by rw [eS44]; exact hW2.tell hP _ _
  clear eS44
  refine mv_istore_n (pc := 44) B d_Weaver_register_44 rfl (by decide) rfl ?_
  refine mv_aload_n (pc := 45) B d_Weaver_register_45 rfl 2 rfl ?_
  refine mv_getR (pc := 46) (ci := 1) (C := R_Weaver) (T := F_Weaver) (N := 16) B 0 rfl rfl (by decide) i_Weaver (B.2.2.2.1 _ k_228) rfl (hR.1 _ 0 _ rfl) d_Weaver_register_46 ?_
  refine mv_bipush (pc := 49) (v := 59) B d_Weaver_register_49 (by decide) ?_
  refine mv_callVi (pc := 51) (n := 1) (ci := 2) (C := R_Tokens) B (mK_ok sk sv) hNs rfl rfl (c_Tokens_takeN l hi _ _ hR.1 (hG.2.2.1.wt hF.wt hP ht2) (by omega) (by omega) (by decide)) rfl (ma_goodc kc_Tokens_take) (B.2.2.2.1 _ k_1266) (B.2.2.2.1 _ k_1267) (B.2.2.2.1 _ k_1268) (B.2.2.2.1 _ k_3) ⟨by decide +kernel, by decide +kernel, by decide +kernel⟩ rfl d_Weaver_register_51 rfl (Nat.le_of_ble_eq_true rfl) ⟨by decide, by decide⟩ ⟨by decide, by decide⟩ ⟨by decide, by decide⟩ (mv_noH hno _) (fun v51 σ51 h51 => ?_)
  obtain ⟨a51, w51, e51, r51⟩ := h51
  have q51 := r51.1
  have z51 := fun q => (r51.2.1 q).1
  have y51 := And.intro r51.2.2.2.1 r51.2.2.2.2.1
  subst e51
  refine mv_gen (fun S54 eS54 => ?_)
  have hR : Rw 32 (mv_r S54) := by rw [eS54]; exact hR
  have hF : IF 32 σ S54 := by rw [eS54]; exact hF.tk3 _ _ _
  have hN : mv_i S54 21 0 = 0 → mv_i σ 21 0 = 0 := by rw [eS54]; exact hN
  have t7 : (mv_i S54 3 7).toInt = a51.toInt := by rw [eS54]; rfl
  have t8 : (mv_i S54 3 8).toInt = (mv_i σ 3 8).toInt := by rw [eS54]; first | exact t8 | exact (sub_one (by omega)).trans (by omega) | exact (i32_inc (by omega)).trans (by omega)
  have t9 : (mv_i S54 3 9).toInt = w51.toInt := by rw [eS54]; rfl
  have kp := Eq.trans (show mv_a S54 4 = mv_a _ 4 by rw [eS54]; rfl) kp
  have k6 := Eq.trans (show mv_b S54 6 = mv_b _ 6 by rw [eS54]; rfl) k6
  have hW2 : WN 32 512 S54 n th sl no := by rw [eS54]; exact hW2.tk3 hP _ _ _
  have sy : 0 ≤ (mv_b S54 6 v16.toNatClampNeg).toInt ∧ (mv_b S54 6 v16.toNatClampNeg).toInt < n := by rw [k6]; exact sy16
  obtain ⟨ac, hac1, hac2, hac3⟩ := hW2.2.2.2.2.1
  clear eS54
  refine mv_pop (pc := 54) B d_Weaver_register_54 rfl ?_
  refine mv_aload_n (pc := 55) B d_Weaver_register_55 rfl 2 rfl ?_
  refine mv_getR (pc := 56) (ci := 1) (C := R_Weaver) (T := F_Weaver) (N := 16) B 0 rfl rfl (by decide) i_Weaver (B.2.2.2.1 _ k_228) rfl (hR.1 _ 0 _ rfl) d_Weaver_register_56 ?_
  refine mv_callVi (pc := 59) (n := 0) (ci := 2) (C := R_Tokens) B (mK_ok sk sv) hNs rfl rfl (c_Tokens_right l hi _) rfl (ma_goodc kc_Tokens_right) (B.2.2.2.1 _ k_1291) (B.2.2.2.1 _ k_1292) (B.2.2.2.1 _ k_1293) (B.2.2.2.1 _ k_3) ⟨by decide +kernel, by decide +kernel, by decide +kernel⟩ rfl d_Weaver_register_59 rfl (Nat.le_of_ble_eq_true rfl) ⟨by decide, by decide⟩ ⟨by decide, by decide⟩ ⟨by decide, by decide⟩ (mv_noH hno _) (fun v59 σ59 h59 => ?_)
  obtain ⟨e59, z59⟩ := h59
  have e59 := e59.symm
  subst e59
  refine mv_if_eq (pc := 62) (tgt := 104) B d_Weaver_register_62 rfl (fun h62 => ?_) (fun h62 => ?_)
  · skip
    have hw : ¬ (mv_i S54 3 9).toInt < 0 := fun q => by rw [if_pos (lt0.mpr q)] at z59; rw [z59] at h62; exact absurd h62 (by decide)
    have hend : TP 32 512 σ S54 n sz a := ⟨hF.wt, by rw [hF.2.1 24 (by decide)]; exact hM, th, sl, no, hW2, Or.inl (by omega)⟩
    exact mv_vret (pc := 104) B hr d_Weaver_register_104 (Nat.le_refl _) (Nat.le_refl _) ⟨rfl, hend⟩
  · skip
    have hw : (mv_i S54 3 9).toInt < 0 := Decidable.byContradiction fun q => h62 (by rw [z59, if_neg (fun z => q (lt0.mp z))])
    refine mv_aload_n (pc := 65) B d_Weaver_register_65 rfl 2 rfl ?_
    refine mv_iload_n (pc := 66) B d_Weaver_register_66 rfl 1 rfl ?_
    refine mv_iconst (pc := 67) (v := 0) B d_Weaver_register_67 (by decide) ?_
    refine mv_callVi (pc := 68) (n := 2) (ci := 1) (C := R_Weaver) B (mK_ok sk sv) hNs rfl rfl (c_Weaver_isNew_a l hi _ _ _ hR (hG.2.2.1.wt hF.wt hP ht2) y16.1 y16.2 sy.1 sy.2 hW2.2.1 ac hac1 hac2 (by decide) (by decide)) rfl (ma_goodc kc_Weaver_isNew) (B.2.2.2.1 _ k_1308) (B.2.2.2.1 _ k_1310) (B.2.2.2.1 _ ks_36) (B.2.2.2.1 _ k_2) ⟨by decide +kernel, by decide +kernel, by decide +kernel⟩ rfl d_Weaver_register_68 rfl (Nat.le_of_ble_eq_true rfl) ⟨by decide, by decide⟩ ⟨by decide, by decide⟩ ⟨by decide, by decide⟩ (mv_noH hno _) (fun v68 σ68 h68 => ?_)
    refine mv_if_eq (pc := 71) (tgt := 104) B d_Weaver_register_71 rfl (fun h71 => ?_) (fun h71 => ?_)
    · skip
      have hend : TP 32 512 σ σ68 n sz a := by
        rcases h68 with ⟨-, x9, y9, q1, q2⟩ | ⟨q1, -⟩
        · subst q1
          have hF := hF.tell x9 y9
          exact ⟨hF.wt, by rw [hF.2.1 24 (by decide)]; exact hM, th, sl, no, hW2.tell hP _ _, Or.inr ⟨a + 5, by omega, Or.inl ⟨(hF.1 2 6 (by decide)).trans hm0, s0, ns, hS.it hF hP (show (mv_i S54 3 7).toInt = _ by omega) hw t8 (by omega) (by omega) (fun q => absurd q q2) (Nat.le_refl _)⟩⟩⟩
        · rw [q1] at h71; exact absurd h71 (by decide)
      exact mv_vret (pc := 104) B hr d_Weaver_register_104 (Nat.le_refl _) (Nat.le_refl _) ⟨rfl, hend⟩
    · skip
      obtain ⟨-, e68, n68, m68⟩ := h68.resolve_left (fun q => h71 q.1)
      subst e68
      have hth := hW2.2.1.1
      have k21 := l2i_nn (x := mv_b σ68 6 v16.toNatClampNeg) sy.1 (by have := (hG.2.2.1).1.2.1; omega)
      have hn16 := hG.2.2.1.1.2.1
      refine mv_aload_n (pc := 74) B d_Weaver_register_74 rfl 2 rfl ?_
      refine mv_getR (pc := 75) (ci := 1) (C := R_Weaver) (T := F_Weaver) (N := 16) B 1 rfl rfl (by decide) i_Weaver (B.2.2.2.1 _ k_229) rfl (hR.1 _ 1 _ rfl) d_Weaver_register_75 ?_
      refine mv_aload_n (pc := 78) B d_Weaver_register_78 rfl 2 rfl ?_
      refine mv_iload_n (pc := 79) B d_Weaver_register_79 rfl 1 rfl ?_
      refine mv_callVi (pc := 80) (n := 1) (ci := 1) (C := R_Weaver) B (mK_ok sk sv) hNs rfl rfl (c_Weaver_symbolOf l hi _ _ hR.1 y16.1 (by omega)) rfl (ma_goodc kc_Weaver_symbolOf) (B.2.2.2.1 _ k_1312) (B.2.2.2.1 _ k_1314) (B.2.2.2.1 _ ks_37) (B.2.2.2.1 _ k_2) ⟨by decide +kernel, by decide +kernel, by decide +kernel⟩ rfl d_Weaver_register_80 rfl (Nat.le_of_ble_eq_true rfl) ⟨by decide, by decide⟩ ⟨by decide, by decide⟩ ⟨by decide, by decide⟩ (mv_noH hno _) (fun v80 σ80 h80 => ?_)
      obtain ⟨e80, z80⟩ := h80
      have e80 := e80.symm
      subst e80
      have z81 : v80.toInt = (mv_b σ68 6 v16.toNatClampNeg).toInt := by rw [z80]; exact k21
      refine mv_iconst (pc := 83) (v := 1) B d_Weaver_register_83 (by decide) ?_
      refine mv_aload_n (pc := 84) B d_Weaver_register_84 rfl 2 rfl ?_
      refine mv_getR (pc := 85) (ci := 1) (C := R_Weaver) (T := F_Weaver) (N := 16) B 5 rfl rfl (by decide) i_Weaver (B.2.2.2.1 _ k_235) rfl hR.2.2.1 d_Weaver_register_85 ?_
      refine mv_getI (pc := 88) (ci := 7) (C := R_Program) (T := F_Program) (N := 19) B 1 rfl rfl (by decide) i_Program (B.2.2.2.1 _ k_316) rfl d_Weaver_register_88 ?_
      refine mv_callVv (pc := 91) (n := 3) (ci := 4) (C := R_Names) B (mK_ok sk sv) hNs rfl rfl (c_Names_know l hi _ _ _ _ hR.1 (by omega) (by omega)) rfl (ma_goodc kc_Names_know) (B.2.2.2.1 _ k_1325) (B.2.2.2.1 _ k_1326) (B.2.2.2.1 _ k_1327) (B.2.2.2.1 _ k_5) ⟨by decide +kernel, by decide +kernel, by decide +kernel⟩ rfl d_Weaver_register_91 rfl (Nat.le_of_ble_eq_true rfl) ⟨by decide, by decide⟩ ⟨by decide, by decide⟩ ⟨by decide, by decide⟩ (mv_noH hno _) (fun σ91 h91 => ?_)
      subst h91
      refine mv_aload_n (pc := 94) B d_Weaver_register_94 rfl 2 rfl ?_
      refine mv_getR (pc := 95) (ci := 1) (C := R_Weaver) (T := F_Weaver) (N := 16) B 5 rfl rfl (by decide) i_Weaver (B.2.2.2.1 _ k_235) rfl hR.2.2.1 d_Weaver_register_95 ?_
      refine mv_iload_n (pc := 98) B d_Weaver_register_98 rfl 0 rfl ?_
      refine mv_iconst (pc := 99) (v := 0) B d_Weaver_register_99 (by decide) ?_
      refine mv_iconst (pc := 100) (v := 0) B d_Weaver_register_100 (by decide) ?_
      refine mv_callVv (pc := 101) (n := 3) (ci := 7) (C := R_Program) B (mK_ok sk sv) hNs rfl rfl (c_Program_addThing_a l hi _ _ _ _ hR.2.1 (show 0 ≤ (mv_i σ68 32 1).toInt by omega) (show (mv_i σ68 32 1).toInt < 64 by omega)) rfl (ma_goodc kc_Program_addThing) (B.2.2.2.1 _ k_1329) (B.2.2.2.1 _ k_1330) (B.2.2.2.1 _ k_1331) (B.2.2.2.1 _ k_8) ⟨by decide +kernel, by decide +kernel, by decide +kernel⟩ rfl d_Weaver_register_101 rfl (Nat.le_of_ble_eq_true rfl) ⟨by decide, by decide⟩ ⟨by decide, by decide⟩ ⟨by decide, by decide⟩ (mv_noH hno _) (fun σ101 h101 => ?_)
      obtain ⟨z9, s9, e101, d101⟩ := h101
      subst e101
      obtain ⟨sl2, w2⟩ := hW2.thing hP n68 hac1 (w := v41) (c := 0) (z := z9) (s2 := s9) (y := v80) (k := 1) (x := mv_i σ68 32 1) (by decide) m68 (by omega) (Or.inl rfl) rfl d101
      have hF := (hF.know v80.toNatClampNeg 1 (mv_i σ68 32 1)).thing v41 0 z9 s9
      refine mv_gen (fun S104 eS104 => ?_)
      rw [← eS104] at w2 hF
      have hend : TP 32 512 σ S104 n sz a := ⟨hF.wt, by rw [hF.2.1 24 (by decide)]; exact hM, th + 1, sl2, no, w2, Or.inr ⟨a + 5, by omega, Or.inl ⟨(hF.1 2 6 (by decide)).trans hm0, s0, ns, hS.it hF hP (by rw [eS104]; show (mv_i σ68 3 7).toInt = _; omega) (by rw [eS104]; exact hw) (by rw [eS104]; exact t8) (by omega) (by omega) (fun q => by rw [eS104] at q; exact hN q) (Nat.le_succ _)⟩⟩⟩
      clear eS104
      exact mv_vret (pc := 104) B hr d_Weaver_register_104 (Nat.le_refl _) (Nat.le_refl _) ⟨rfl, hend⟩
set_option maxHeartbeats 4000000 in
set_option maxRecDepth 100000 in
theorem c_Weaver_register_b (l : Launch) {dA : FieldType → ClassId} {D : va_G} {al : Nat → Nat} {ext : mv_Sh} {sk sv : Nat → Nat} (hi : mv_inj (mg dA D al ext)) (σ : mv_H) {t tn len n z sz th sl s0 a ns no : Nat} (hG : WG 48 32768 512 ext σ t tn len n z sz) (hM : Mt (mv_a σ 24)) (hW : WN 48 512 σ n th sl no) (hS : WS 48 σ sz th s0 a ns no []) (hm0 : mv_i σ 2 6 = 0) (hk3 : mv_a σ 4 (mv_i σ 3 7).toNatClampNeg = 201) : mv_C l y_Weaver_register (Cond.code y_Weaver_register b_Weaver_register 3 (Option.none : Option Jvm.ClassFile.FieldType) :: ma) ({ frames := 3, cells := 0, slots := 0, locals := 68 }) (mg dA D al ext) (mK sk sv) [.ref (al 2)] σ (mv_Rv (fun σ1 => TP 48 512 σ σ1 n sz a)) := by
  refine mv_C.ofV (cc := b_Weaver_register) (nL := 3) (ret := (Option.none : Option Jvm.ClassFile.FieldType)) (by decide +kernel) rfl hi (Nat.le_of_ble_eq_true rfl) ?_
  intro p e s m below meth c B hNs hr hnm hno
  have hP : PQ 48 := by unfold PQ; omega
  have hR := hG.1
  have ht2 := hG.2.1.2.2.2.2.2.2
  have hF : IF 48 σ σ := Fr.rf
  have hN : mv_i σ 21 0 = 0 → mv_i σ 21 0 = 0 := fun q => q
  have hE := hG.2.2.1
  have hsz := hE.2.2.2.2.2
  have hsz2 := hE.2.2.2.1
  have hlen := hG.2.2.2.2.1
  have hlen2 := hG.2.2.2.2.2
  have t7 := hS.1.1
  have hw9 := hS.1.2.1
  have ha9 := hS.1.2.2.2.2.1
  have t9 : (mv_i σ 3 9).toInt = (mv_i σ 3 9).toInt := rfl
  have t8 : (mv_i σ 3 8).toInt = (mv_i σ 3 8).toInt := rfl
  have kp : mv_a σ 4 = mv_a σ 4 := rfl
  have k6 : mv_b σ 6 = mv_b σ 6 := rfl
  have hs5 := hS.1.2.2.2.2.2.1
  have hs6 := hS.1.2.2.2.2.2.2.1
  have hd8 := hS.1.2.2.1
  have hd9 := hS.1.2.2.2.1
  refine mv_aload_n (pc := 0) B d_Weaver_register_0 rfl 0 rfl ?_
  refine mv_getR (pc := 1) (ci := 1) (C := R_Weaver) (T := F_Weaver) (N := 16) B 0 rfl rfl (by decide) i_Weaver (B.2.2.2.1 _ k_228) rfl (hR.1 _ 0 _ rfl) d_Weaver_register_1 ?_
  refine mv_sipush (pc := 4) (v := 201) B d_Weaver_register_4 (by decide) ?_
  refine mv_callVi (pc := 7) (n := 1) (ci := 2) (C := R_Tokens) B (mK_ok sk sv) hNs rfl rfl (c_Tokens_takeN l hi _ _ hR.1 (hG.2.2.1.wt hF.wt hP ht2) (by omega) (by omega) (by decide)) rfl (ma_goodc kc_Tokens_take) (B.2.2.2.1 _ k_1266) (B.2.2.2.1 _ k_1267) (B.2.2.2.1 _ k_1268) (B.2.2.2.1 _ k_3) ⟨by decide +kernel, by decide +kernel, by decide +kernel⟩ rfl d_Weaver_register_7 rfl (Nat.le_of_ble_eq_true rfl) ⟨by decide, by decide⟩ ⟨by decide, by decide⟩ ⟨by decide, by decide⟩ (mv_noH hno _) (fun v7 σ7 h7 => ?_)
  obtain ⟨a7, w7, e7, r7⟩ := h7
  have q7 := r7.1
  have z7 := fun q => (r7.2.1 q).1
  have y7 := And.intro r7.2.2.2.1 r7.2.2.2.2.1
  subst e7
  have hw7 := r7.2.2.1 hw9 hk3 trivial
  refine mv_gen (fun S10 eS10 => ?_)
  have hR : Rw 48 (mv_r S10) := by rw [eS10]; exact hR
  have hF : IF 48 σ S10 := by rw [eS10]; exact hF.tk3 _ _ _
  have hN : mv_i S10 21 0 = 0 → mv_i σ 21 0 = 0 := by rw [eS10]; exact hN
  have t7 : (mv_i S10 3 7).toInt = a7.toInt := by rw [eS10]; rfl
  have t8 : (mv_i S10 3 8).toInt = (mv_i σ 3 8).toInt := by rw [eS10]; first | exact t8 | exact (sub_one (by omega)).trans (by omega) | exact (i32_inc (by omega)).trans (by omega)
  have t9 : (mv_i S10 3 9).toInt = w7.toInt := by rw [eS10]; rfl
  have kp := Eq.trans (show mv_a S10 4 = mv_a _ 4 by rw [eS10]; rfl) kp
  have k6 := Eq.trans (show mv_b S10 6 = mv_b _ 6 by rw [eS10]; rfl) k6
  have hW2 := hW
  have hW2 : WN 48 512 S10 n th sl no := by rw [eS10]; exact hW2.tk3 hP _ _ _
  clear eS10
  refine mv_pop (pc := 10) B d_Weaver_register_10 rfl ?_
  refine mv_aload_n (pc := 11) B d_Weaver_register_11 rfl 0 rfl ?_
  refine mv_getR (pc := 12) (ci := 1) (C := R_Weaver) (T := F_Weaver) (N := 16) B 0 rfl rfl (by decide) i_Weaver (B.2.2.2.1 _ k_228) rfl (hR.1 _ 0 _ rfl) d_Weaver_register_12 ?_
  refine mv_iconst (pc := 15) (v := 3) B d_Weaver_register_15 (by decide) ?_
  refine mv_callVi (pc := 16) (n := 1) (ci := 2) (C := R_Tokens) B (mK_ok sk sv) hNs rfl rfl (c_Tokens_takeN l hi _ _ hR.1 (hG.2.2.1.wt hF.wt hP ht2) (by omega) (by omega) (by decide)) rfl (ma_goodc kc_Tokens_take) (B.2.2.2.1 _ k_1266) (B.2.2.2.1 _ k_1267) (B.2.2.2.1 _ k_1268) (B.2.2.2.1 _ k_3) ⟨by decide +kernel, by decide +kernel, by decide +kernel⟩ rfl d_Weaver_register_16 rfl (Nat.le_of_ble_eq_true rfl) ⟨by decide, by decide⟩ ⟨by decide, by decide⟩ ⟨by decide, by decide⟩ (mv_noH hno _) (fun v16 σ16 h16 => ?_)
  have kz := k6
  obtain ⟨a16, w16, e16, r16⟩ := h16
  have q16 := r16.1
  have z16 := fun q => (r16.2.1 q).1
  have y16 := And.intro r16.2.2.2.1 r16.2.2.2.2.1
  subst e16
  have sy16 := TkR.sym (hG.2.2.1.wt hF.wt hP ht2) r16
  refine mv_gen (fun S19 eS19 => ?_)
  have hR : Rw 48 (mv_r S19) := by rw [eS19]; exact hR
  have hF : IF 48 σ S19 := by rw [eS19]; exact hF.tk3 _ _ _
  have hN : mv_i S19 21 0 = 0 → mv_i σ 21 0 = 0 := by rw [eS19]; exact hN
  have t7 : (mv_i S19 3 7).toInt = a16.toInt := by rw [eS19]; rfl
  have t8 : (mv_i S19 3 8).toInt = (mv_i σ 3 8).toInt := by rw [eS19]; first | exact t8 | exact (sub_one (by omega)).trans (by omega) | exact (i32_inc (by omega)).trans (by omega)
  have t9 : (mv_i S19 3 9).toInt = w16.toInt := by rw [eS19]; rfl
  have kp := Eq.trans (show mv_a S19 4 = mv_a _ 4 by rw [eS19]; rfl) kp
  have k6 := Eq.trans (show mv_b S19 6 = mv_b _ 6 by rw [eS19]; rfl) k6
  have hW2 : WN 48 512 S19 n th sl no := by rw [eS19]; exact hW2.tk3 hP _ _ _
  have k19 := k6
  have sy16 : 0 ≤ (mv_b σ 6 v16.toNatClampNeg).toInt ∧ (mv_b σ 6 v16.toNatClampNeg).toInt < n := by rw [← kz]; exact sy16
  clear eS19
  refine mv_istore_n (pc := 19) B d_Weaver_register_19 rfl (by decide) rfl ?_
  refine mv_aload_n (pc := 20) B d_Weaver_register_20 rfl 1 rfl ?_
  refine mv_getR (pc := 21) (ci := 1) (C := R_Weaver) (T := F_Weaver) (N := 16) B 0 rfl rfl (by decide) i_Weaver (B.2.2.2.1 _ k_228) rfl (hR.1 _ 0 _ rfl) d_Weaver_register_21 ?_
  refine mv_bipush (pc := 24) (v := 58) B d_Weaver_register_24 (by decide) ?_
  refine mv_callVi (pc := 26) (n := 1) (ci := 2) (C := R_Tokens) B (mK_ok sk sv) hNs rfl rfl (c_Tokens_takeN l hi _ _ hR.1 (hG.2.2.1.wt hF.wt hP ht2) (by omega) (by omega) (by decide)) rfl (ma_goodc kc_Tokens_take) (B.2.2.2.1 _ k_1266) (B.2.2.2.1 _ k_1267) (B.2.2.2.1 _ k_1268) (B.2.2.2.1 _ k_3) ⟨by decide +kernel, by decide +kernel, by decide +kernel⟩ rfl d_Weaver_register_26 rfl (Nat.le_of_ble_eq_true rfl) ⟨by decide, by decide⟩ ⟨by decide, by decide⟩ ⟨by decide, by decide⟩ (mv_noH hno _) (fun v26 σ26 h26 => ?_)
  obtain ⟨a26, w26, e26, r26⟩ := h26
  have q26 := r26.1
  have z26 := fun q => (r26.2.1 q).1
  have y26 := And.intro r26.2.2.2.1 r26.2.2.2.2.1
  subst e26
  refine mv_gen (fun S29 eS29 => ?_)
  have hR : Rw 48 (mv_r S29) := by rw [eS29]; exact hR
  have hF : IF 48 σ S29 := by rw [eS29]; exact hF.tk3 _ _ _
  have hN : mv_i S29 21 0 = 0 → mv_i σ 21 0 = 0 := by rw [eS29]; exact hN
  have t7 : (mv_i S29 3 7).toInt = a26.toInt := by rw [eS29]; rfl
  have t8 : (mv_i S29 3 8).toInt = (mv_i σ 3 8).toInt := by rw [eS29]; first | exact t8 | exact (sub_one (by omega)).trans (by omega) | exact (i32_inc (by omega)).trans (by omega)
  have t9 : (mv_i S29 3 9).toInt = w26.toInt := by rw [eS29]; rfl
  have kp := Eq.trans (show mv_a S29 4 = mv_a _ 4 by rw [eS29]; rfl) kp
  have k6 := Eq.trans (show mv_b S29 6 = mv_b _ 6 by rw [eS29]; rfl) k6
  have hW2 : WN 48 512 S29 n th sl no := by rw [eS29]; exact hW2.tk3 hP _ _ _
  clear eS29
  refine mv_pop (pc := 29) B d_Weaver_register_29 rfl ?_
  refine mv_aload_n (pc := 30) B d_Weaver_register_30 rfl 1 rfl ?_
  refine mv_aload_n (pc := 31) B d_Weaver_register_31 rfl 1 rfl ?_
  refine mv_getR (pc := 32) (ci := 1) (C := R_Weaver) (T := F_Weaver) (N := 16) B 0 rfl rfl (by decide) i_Weaver (B.2.2.2.1 _ k_228) rfl (hR.1 _ 0 _ rfl) d_Weaver_register_32 ?_
  refine mv_iconst (pc := 35) (v := 4) B d_Weaver_register_35 (by decide) ?_
  refine mv_callVi (pc := 36) (n := 1) (ci := 2) (C := R_Tokens) B (mK_ok sk sv) hNs rfl rfl (c_Tokens_takeN l hi _ _ hR.1 (hG.2.2.1.wt hF.wt hP ht2) (by omega) (by omega) (by decide)) rfl (ma_goodc kc_Tokens_take) (B.2.2.2.1 _ k_1266) (B.2.2.2.1 _ k_1267) (B.2.2.2.1 _ k_1268) (B.2.2.2.1 _ k_3) ⟨by decide +kernel, by decide +kernel, by decide +kernel⟩ rfl d_Weaver_register_36 rfl (Nat.le_of_ble_eq_true rfl) ⟨by decide, by decide⟩ ⟨by decide, by decide⟩ ⟨by decide, by decide⟩ (mv_noH hno _) (fun v36 σ36 h36 => ?_)
  obtain ⟨a36, w36, e36, r36⟩ := h36
  have q36 := r36.1
  have z36 := fun q => (r36.2.1 q).1
  have y36 := And.intro r36.2.2.2.1 r36.2.2.2.2.1
  subst e36
  refine mv_gen (fun S39 eS39 => ?_)
  have hR : Rw 48 (mv_r S39) := by rw [eS39]; exact hR
  have hF : IF 48 σ S39 := by rw [eS39]; exact hF.tk3 _ _ _
  have hN : mv_i S39 21 0 = 0 → mv_i σ 21 0 = 0 := by rw [eS39]; exact hN
  have t7 : (mv_i S39 3 7).toInt = a36.toInt := by rw [eS39]; rfl
  have t8 : (mv_i S39 3 8).toInt = (mv_i σ 3 8).toInt := by rw [eS39]; first | exact t8 | exact (sub_one (by omega)).trans (by omega) | exact (i32_inc (by omega)).trans (by omega)
  have t9 : (mv_i S39 3 9).toInt = w36.toInt := by rw [eS39]; rfl
  have kp := Eq.trans (show mv_a S39 4 = mv_a _ 4 by rw [eS39]; rfl) kp
  have k6 := Eq.trans (show mv_b S39 6 = mv_b _ 6 by rw [eS39]; rfl) k6
  have hW2 : WN 48 512 S39 n th sl no := by rw [eS39]; exact hW2.tk3 hP _ _ _
  clear eS39
  refine mv_bipush (pc := 39) (v := 64) B d_Weaver_register_39 (by decide) ?_
  refine mv_callVi (pc := 41) (n := 2) (ci := 1) (C := R_Weaver) B (mK_ok sk sv) hNs rfl rfl (c_Weaver_numberUpTo l hi _ _ _ hR.1 y36.1 (by omega) (by decide)) rfl (ma_goodc kc_Weaver_numberUpTo) (B.2.2.2.1 _ k_1304) (B.2.2.2.1 _ k_1306) (B.2.2.2.1 _ ks_35) (B.2.2.2.1 _ k_2) ⟨by decide +kernel, by decide +kernel, by decide +kernel⟩ rfl d_Weaver_register_41 rfl (Nat.le_of_ble_eq_true rfl) ⟨by decide, by decide⟩ ⟨by decide, by decide⟩ ⟨by decide, by decide⟩ (mv_noH hno _) (fun v41 σ41 h41 => ?_)
  obtain ⟨x41, y41, e41, z41, u41⟩ := num_n (by decide) h41
  subst e41
  refine mv_gen (fun S44 eS44 => ?_)
  have hR : Rw 48 (mv_r S44) := by rw [eS44]; exact hR
  have hF : IF 48 σ S44 := by rw [eS44]; exact hF.tell _ _
  have hN : mv_i S44 21 0 = 0 → mv_i σ 21 0 = 0 := by rw [eS44]; exact fun q => hN (z41 q)
  have t7 := Eq.trans (congrArg Int32.toInt (show mv_i S44 3 7 = mv_i _ 3 7 by rw [eS44]; rfl)) t7
  have t8 := Eq.trans (congrArg Int32.toInt (show mv_i S44 3 8 = mv_i _ 3 8 by rw [eS44]; rfl)) t8
  have t9 := Eq.trans (congrArg Int32.toInt (show mv_i S44 3 9 = mv_i _ 3 9 by rw [eS44]; rfl)) t9
  have kp := Eq.trans (show mv_a S44 4 = mv_a _ 4 by rw [eS44]; rfl) kp
  have k6 := Eq.trans (show mv_b S44 6 = mv_b _ 6 by rw [eS44]; rfl) k6
  have hW2 : WN 48 512 S44 n th sl no := by rw [eS44]; exact hW2.tell hP _ _
  clear eS44
  refine mv_istore_n (pc := 44) B d_Weaver_register_44 rfl (by decide) rfl ?_
  refine mv_aload_n (pc := 45) B d_Weaver_register_45 rfl 2 rfl ?_
  refine mv_getR (pc := 46) (ci := 1) (C := R_Weaver) (T := F_Weaver) (N := 16) B 0 rfl rfl (by decide) i_Weaver (B.2.2.2.1 _ k_228) rfl (hR.1 _ 0 _ rfl) d_Weaver_register_46 ?_
  refine mv_bipush (pc := 49) (v := 59) B d_Weaver_register_49 (by decide) ?_
  refine mv_callVi (pc := 51) (n := 1) (ci := 2) (C := R_Tokens) B (mK_ok sk sv) hNs rfl rfl (c_Tokens_takeN l hi _ _ hR.1 (hG.2.2.1.wt hF.wt hP ht2) (by omega) (by omega) (by decide)) rfl (ma_goodc kc_Tokens_take) (B.2.2.2.1 _ k_1266) (B.2.2.2.1 _ k_1267) (B.2.2.2.1 _ k_1268) (B.2.2.2.1 _ k_3) ⟨by decide +kernel, by decide +kernel, by decide +kernel⟩ rfl d_Weaver_register_51 rfl (Nat.le_of_ble_eq_true rfl) ⟨by decide, by decide⟩ ⟨by decide, by decide⟩ ⟨by decide, by decide⟩ (mv_noH hno _) (fun v51 σ51 h51 => ?_)
  obtain ⟨a51, w51, e51, r51⟩ := h51
  have q51 := r51.1
  have z51 := fun q => (r51.2.1 q).1
  have y51 := And.intro r51.2.2.2.1 r51.2.2.2.2.1
  subst e51
  refine mv_gen (fun S54 eS54 => ?_)
  have hR : Rw 48 (mv_r S54) := by rw [eS54]; exact hR
  have hF : IF 48 σ S54 := by rw [eS54]; exact hF.tk3 _ _ _
  have hN : mv_i S54 21 0 = 0 → mv_i σ 21 0 = 0 := by rw [eS54]; exact hN
  have t7 : (mv_i S54 3 7).toInt = a51.toInt := by rw [eS54]; rfl
  have t8 : (mv_i S54 3 8).toInt = (mv_i σ 3 8).toInt := by rw [eS54]; first | exact t8 | exact (sub_one (by omega)).trans (by omega) | exact (i32_inc (by omega)).trans (by omega)
  have t9 : (mv_i S54 3 9).toInt = w51.toInt := by rw [eS54]; rfl
  have kp := Eq.trans (show mv_a S54 4 = mv_a _ 4 by rw [eS54]; rfl) kp
  have k6 := Eq.trans (show mv_b S54 6 = mv_b _ 6 by rw [eS54]; rfl) k6
  have hW2 : WN 48 512 S54 n th sl no := by rw [eS54]; exact hW2.tk3 hP _ _ _
  have sy : 0 ≤ (mv_b S54 6 v16.toNatClampNeg).toInt ∧ (mv_b S54 6 v16.toNatClampNeg).toInt < n := by rw [k6]; exact sy16
  obtain ⟨ac, hac1, hac2, hac3⟩ := hW2.2.2.2.2.1
  clear eS54
  refine mv_pop (pc := 54) B d_Weaver_register_54 rfl ?_
  refine mv_aload_n (pc := 55) B d_Weaver_register_55 rfl 2 rfl ?_
  refine mv_getR (pc := 56) (ci := 1) (C := R_Weaver) (T := F_Weaver) (N := 16) B 0 rfl rfl (by decide) i_Weaver (B.2.2.2.1 _ k_228) rfl (hR.1 _ 0 _ rfl) d_Weaver_register_56 ?_
  refine mv_callVi (pc := 59) (n := 0) (ci := 2) (C := R_Tokens) B (mK_ok sk sv) hNs rfl rfl (c_Tokens_right l hi _) rfl (ma_goodc kc_Tokens_right) (B.2.2.2.1 _ k_1291) (B.2.2.2.1 _ k_1292) (B.2.2.2.1 _ k_1293) (B.2.2.2.1 _ k_3) ⟨by decide +kernel, by decide +kernel, by decide +kernel⟩ rfl d_Weaver_register_59 rfl (Nat.le_of_ble_eq_true rfl) ⟨by decide, by decide⟩ ⟨by decide, by decide⟩ ⟨by decide, by decide⟩ (mv_noH hno _) (fun v59 σ59 h59 => ?_)
  obtain ⟨e59, z59⟩ := h59
  have e59 := e59.symm
  subst e59
  refine mv_if_eq (pc := 62) (tgt := 104) B d_Weaver_register_62 rfl (fun h62 => ?_) (fun h62 => ?_)
  · skip
    have hw : ¬ (mv_i S54 3 9).toInt < 0 := fun q => by rw [if_pos (lt0.mpr q)] at z59; rw [z59] at h62; exact absurd h62 (by decide)
    have hend : TP 48 512 σ S54 n sz a := ⟨hF.wt, by rw [hF.2.1 24 (by decide)]; exact hM, th, sl, no, hW2, Or.inl (by omega)⟩
    exact mv_vret (pc := 104) B hr d_Weaver_register_104 (Nat.le_refl _) (Nat.le_refl _) ⟨rfl, hend⟩
  · skip
    have hw : (mv_i S54 3 9).toInt < 0 := Decidable.byContradiction fun q => h62 (by rw [z59, if_neg (fun z => q (lt0.mp z))])
    refine mv_aload_n (pc := 65) B d_Weaver_register_65 rfl 2 rfl ?_
    refine mv_iload_n (pc := 66) B d_Weaver_register_66 rfl 1 rfl ?_
    refine mv_iconst (pc := 67) (v := 0) B d_Weaver_register_67 (by decide) ?_
    refine mv_callVi (pc := 68) (n := 2) (ci := 1) (C := R_Weaver) B (mK_ok sk sv) hNs rfl rfl (c_Weaver_isNew_b l hi _ _ _ hR (hG.2.2.1.wt hF.wt hP ht2) y16.1 y16.2 sy.1 sy.2 hW2.2.1 ac hac1 hac2 (by decide) (by decide)) rfl (ma_goodc kc_Weaver_isNew) (B.2.2.2.1 _ k_1308) (B.2.2.2.1 _ k_1310) (B.2.2.2.1 _ ks_36) (B.2.2.2.1 _ k_2) ⟨by decide +kernel, by decide +kernel, by decide +kernel⟩ rfl d_Weaver_register_68 rfl (Nat.le_of_ble_eq_true rfl) ⟨by decide, by decide⟩ ⟨by decide, by decide⟩ ⟨by decide, by decide⟩ (mv_noH hno _) (fun v68 σ68 h68 => ?_)
    refine mv_if_eq (pc := 71) (tgt := 104) B d_Weaver_register_71 rfl (fun h71 => ?_) (fun h71 => ?_)
    · skip
      have hend : TP 48 512 σ σ68 n sz a := by
        rcases h68 with ⟨-, x9, y9, q1, q2⟩ | ⟨q1, -⟩
        · subst q1
          have hF := hF.tell x9 y9
          exact ⟨hF.wt, by rw [hF.2.1 24 (by decide)]; exact hM, th, sl, no, hW2.tell hP _ _, Or.inr ⟨a + 5, by omega, Or.inl ⟨(hF.1 2 6 (by decide)).trans hm0, s0, ns, hS.it hF hP (show (mv_i S54 3 7).toInt = _ by omega) hw t8 (by omega) (by omega) (fun q => absurd q q2) (Nat.le_refl _)⟩⟩⟩
        · rw [q1] at h71; exact absurd h71 (by decide)
      exact mv_vret (pc := 104) B hr d_Weaver_register_104 (Nat.le_refl _) (Nat.le_refl _) ⟨rfl, hend⟩
    · skip
      obtain ⟨-, e68, n68, m68⟩ := h68.resolve_left (fun q => h71 q.1)
      subst e68
      have hth := hW2.2.1.1
      have k21 := l2i_nn (x := mv_b σ68 6 v16.toNatClampNeg) sy.1 (by have := (hG.2.2.1).1.2.1; omega)
      have hn16 := hG.2.2.1.1.2.1
      refine mv_aload_n (pc := 74) B d_Weaver_register_74 rfl 2 rfl ?_
      refine mv_getR (pc := 75) (ci := 1) (C := R_Weaver) (T := F_Weaver) (N := 16) B 1 rfl rfl (by decide) i_Weaver (B.2.2.2.1 _ k_229) rfl (hR.1 _ 1 _ rfl) d_Weaver_register_75 ?_
      refine mv_aload_n (pc := 78) B d_Weaver_register_78 rfl 2 rfl ?_
      refine mv_iload_n (pc := 79) B d_Weaver_register_79 rfl 1 rfl ?_
      refine mv_callVi (pc := 80) (n := 1) (ci := 1) (C := R_Weaver) B (mK_ok sk sv) hNs rfl rfl (c_Weaver_symbolOf l hi _ _ hR.1 y16.1 (by omega)) rfl (ma_goodc kc_Weaver_symbolOf) (B.2.2.2.1 _ k_1312) (B.2.2.2.1 _ k_1314) (B.2.2.2.1 _ ks_37) (B.2.2.2.1 _ k_2) ⟨by decide +kernel, by decide +kernel, by decide +kernel⟩ rfl d_Weaver_register_80 rfl (Nat.le_of_ble_eq_true rfl) ⟨by decide, by decide⟩ ⟨by decide, by decide⟩ ⟨by decide, by decide⟩ (mv_noH hno _) (fun v80 σ80 h80 => ?_)
      obtain ⟨e80, z80⟩ := h80
      have e80 := e80.symm
      subst e80
      have z81 : v80.toInt = (mv_b σ68 6 v16.toNatClampNeg).toInt := by rw [z80]; exact k21
      refine mv_iconst (pc := 83) (v := 1) B d_Weaver_register_83 (by decide) ?_
      refine mv_aload_n (pc := 84) B d_Weaver_register_84 rfl 2 rfl ?_
      refine mv_getR (pc := 85) (ci := 1) (C := R_Weaver) (T := F_Weaver) (N := 16) B 5 rfl rfl (by decide) i_Weaver (B.2.2.2.1 _ k_235) rfl hR.2.2.1 d_Weaver_register_85 ?_
      refine mv_getI (pc := 88) (ci := 7) (C := R_Program) (T := F_Program) (N := 19) B 1 rfl rfl (by decide) i_Program (B.2.2.2.1 _ k_316) rfl d_Weaver_register_88 ?_
      refine mv_callVv (pc := 91) (n := 3) (ci := 4) (C := R_Names) B (mK_ok sk sv) hNs rfl rfl (c_Names_know l hi _ _ _ _ hR.1 (by omega) (by omega)) rfl (ma_goodc kc_Names_know) (B.2.2.2.1 _ k_1325) (B.2.2.2.1 _ k_1326) (B.2.2.2.1 _ k_1327) (B.2.2.2.1 _ k_5) ⟨by decide +kernel, by decide +kernel, by decide +kernel⟩ rfl d_Weaver_register_91 rfl (Nat.le_of_ble_eq_true rfl) ⟨by decide, by decide⟩ ⟨by decide, by decide⟩ ⟨by decide, by decide⟩ (mv_noH hno _) (fun σ91 h91 => ?_)
      subst h91
      refine mv_aload_n (pc := 94) B d_Weaver_register_94 rfl 2 rfl ?_
      refine mv_getR (pc := 95) (ci := 1) (C := R_Weaver) (T := F_Weaver) (N := 16) B 5 rfl rfl (by decide) i_Weaver (B.2.2.2.1 _ k_235) rfl hR.2.2.1 d_Weaver_register_95 ?_
      refine mv_iload_n (pc := 98) B d_Weaver_register_98 rfl 0 rfl ?_
      refine mv_iconst (pc := 99) (v := 0) B d_Weaver_register_99 (by decide) ?_
      refine mv_iconst (pc := 100) (v := 0) B d_Weaver_register_100 (by decide) ?_
      refine mv_callVv (pc := 101) (n := 3) (ci := 7) (C := R_Program) B (mK_ok sk sv) hNs rfl rfl (c_Program_addThing_b l hi _ _ _ _ hR.2.1 (show 0 ≤ (mv_i σ68 48 1).toInt by omega) (show (mv_i σ68 48 1).toInt < 64 by omega)) rfl (ma_goodc kc_Program_addThing) (B.2.2.2.1 _ k_1329) (B.2.2.2.1 _ k_1330) (B.2.2.2.1 _ k_1331) (B.2.2.2.1 _ k_8) ⟨by decide +kernel, by decide +kernel, by decide +kernel⟩ rfl d_Weaver_register_101 rfl (Nat.le_of_ble_eq_true rfl) ⟨by decide, by decide⟩ ⟨by decide, by decide⟩ ⟨by decide, by decide⟩ (mv_noH hno _) (fun σ101 h101 => ?_)
      obtain ⟨z9, s9, e101, d101⟩ := h101
      subst e101
      obtain ⟨sl2, w2⟩ := hW2.thing hP n68 hac1 (w := v41) (c := 0) (z := z9) (s2 := s9) (y := v80) (k := 1) (x := mv_i σ68 48 1) (by decide) m68 (by omega) (Or.inl rfl) rfl d101
      have hF := (hF.know v80.toNatClampNeg 1 (mv_i σ68 48 1)).thing v41 0 z9 s9
      refine mv_gen (fun S104 eS104 => ?_)
      rw [← eS104] at w2 hF
      have hend : TP 48 512 σ S104 n sz a := ⟨hF.wt, by rw [hF.2.1 24 (by decide)]; exact hM, th + 1, sl2, no, w2, Or.inr ⟨a + 5, by omega, Or.inl ⟨(hF.1 2 6 (by decide)).trans hm0, s0, ns, hS.it hF hP (by rw [eS104]; show (mv_i σ68 3 7).toInt = _; omega) (by rw [eS104]; exact hw) (by rw [eS104]; exact t8) (by omega) (by omega) (fun q => by rw [eS104] at q; exact hN q) (Nat.le_succ _)⟩⟩⟩
      clear eS104
      exact mv_vret (pc := 104) B hr d_Weaver_register_104 (Nat.le_refl _) (Nat.le_refl _) ⟨rfl, hend⟩
set_option maxHeartbeats 4000000 in
set_option maxRecDepth 100000 in
theorem c_Weaver_register_c (l : Launch) {dA : FieldType → ClassId} {D : va_G} {al : Nat → Nat} {sk sv : Nat → Nat} (hi : mv_inj (mg dA D al me)) (σ : mv_H) {t tn len n z sz th sl s0 a ns no : Nat} (hG : WG 145 8192 48 me σ t tn len n z sz) (hM : Mt (mv_a σ 24)) (hW : WN 145 48 σ n th sl no) (hS : WS 145 σ sz th s0 a ns no []) (hm0 : mv_i σ 2 6 = 0) (hk3 : mv_a σ 4 (mv_i σ 3 7).toNatClampNeg = 201) : mv_C l y_Weaver_register (Cond.code y_Weaver_register b_Weaver_register 3 (Option.none : Option Jvm.ClassFile.FieldType) :: ma) ({ frames := 3, cells := 0, slots := 0, locals := 68 }) (mg dA D al me) (mK sk sv) [.ref (al 2)] σ (mv_Rv (fun σ1 => TP 145 48 σ σ1 n sz a)) := by
  refine mv_C.ofV (cc := b_Weaver_register) (nL := 3) (ret := (Option.none : Option Jvm.ClassFile.FieldType)) (by decide +kernel) rfl hi (Nat.le_of_ble_eq_true rfl) ?_
  intro p e s m below meth c B hNs hr hnm hno
  have hP : PQ 145 := by unfold PQ; omega
  have hR := hG.1
  have ht2 := hG.2.1.2.2.2.2.2.2
  have hF : IF 145 σ σ := Fr.rf
  have hN : mv_i σ 21 0 = 0 → mv_i σ 21 0 = 0 := fun q => q
  have hE := hG.2.2.1
  have hsz := hE.2.2.2.2.2
  have hsz2 := hE.2.2.2.1
  have hlen := hG.2.2.2.2.1
  have hlen2 := hG.2.2.2.2.2
  have t7 := hS.1.1
  have hw9 := hS.1.2.1
  have ha9 := hS.1.2.2.2.2.1
  have t9 : (mv_i σ 3 9).toInt = (mv_i σ 3 9).toInt := rfl
  have t8 : (mv_i σ 3 8).toInt = (mv_i σ 3 8).toInt := rfl
  have kp : mv_a σ 4 = mv_a σ 4 := rfl
  have k6 : mv_b σ 6 = mv_b σ 6 := rfl
  have hs5 := hS.1.2.2.2.2.2.1
  have hs6 := hS.1.2.2.2.2.2.2.1
  have hd8 := hS.1.2.2.1
  have hd9 := hS.1.2.2.2.1
  refine mv_aload_n (pc := 0) B d_Weaver_register_0 rfl 0 rfl ?_
  refine mv_getR (pc := 1) (ci := 1) (C := R_Weaver) (T := F_Weaver) (N := 16) B 0 rfl rfl (by decide) i_Weaver (B.2.2.2.1 _ k_228) rfl (hR.1 _ 0 _ rfl) d_Weaver_register_1 ?_
  refine mv_sipush (pc := 4) (v := 201) B d_Weaver_register_4 (by decide) ?_
  refine mv_callVi (pc := 7) (n := 1) (ci := 2) (C := R_Tokens) B (mK_ok sk sv) hNs rfl rfl (c_Tokens_takeN l hi _ _ hR.1 (hG.2.2.1.wt hF.wt hP ht2) (by omega) (by omega) (by decide)) rfl (ma_goodc kc_Tokens_take) (B.2.2.2.1 _ k_1266) (B.2.2.2.1 _ k_1267) (B.2.2.2.1 _ k_1268) (B.2.2.2.1 _ k_3) ⟨by decide +kernel, by decide +kernel, by decide +kernel⟩ rfl d_Weaver_register_7 rfl (Nat.le_of_ble_eq_true rfl) ⟨by decide, by decide⟩ ⟨by decide, by decide⟩ ⟨by decide, by decide⟩ (mv_noH hno _) (fun v7 σ7 h7 => ?_)
  obtain ⟨a7, w7, e7, r7⟩ := h7
  have q7 := r7.1
  have z7 := fun q => (r7.2.1 q).1
  have y7 := And.intro r7.2.2.2.1 r7.2.2.2.2.1
  subst e7
  have hw7 := r7.2.2.1 hw9 hk3 trivial
  refine mv_gen (fun S10 eS10 => ?_)
  have hR : Rw 145 (mv_r S10) := by rw [eS10]; exact hR
  have hF : IF 145 σ S10 := by rw [eS10]; exact hF.tk3 _ _ _
  have hN : mv_i S10 21 0 = 0 → mv_i σ 21 0 = 0 := by rw [eS10]; exact hN
  have t7 : (mv_i S10 3 7).toInt = a7.toInt := by rw [eS10]; rfl
  have t8 : (mv_i S10 3 8).toInt = (mv_i σ 3 8).toInt := by rw [eS10]; first | exact t8 | exact (sub_one (by omega)).trans (by omega) | exact (i32_inc (by omega)).trans (by omega)
  have t9 : (mv_i S10 3 9).toInt = w7.toInt := by rw [eS10]; rfl
  have kp := Eq.trans (show mv_a S10 4 = mv_a _ 4 by rw [eS10]; rfl) kp
  have k6 := Eq.trans (show mv_b S10 6 = mv_b _ 6 by rw [eS10]; rfl) k6
  have hW2 := hW
  have hW2 : WN 145 48 S10 n th sl no := by rw [eS10]; exact hW2.tk3 hP _ _ _
  clear eS10
  refine mv_pop (pc := 10) B d_Weaver_register_10 rfl ?_
  refine mv_aload_n (pc := 11) B d_Weaver_register_11 rfl 0 rfl ?_
  refine mv_getR (pc := 12) (ci := 1) (C := R_Weaver) (T := F_Weaver) (N := 16) B 0 rfl rfl (by decide) i_Weaver (B.2.2.2.1 _ k_228) rfl (hR.1 _ 0 _ rfl) d_Weaver_register_12 ?_
  refine mv_iconst (pc := 15) (v := 3) B d_Weaver_register_15 (by decide) ?_
  refine mv_callVi (pc := 16) (n := 1) (ci := 2) (C := R_Tokens) B (mK_ok sk sv) hNs rfl rfl (c_Tokens_takeN l hi _ _ hR.1 (hG.2.2.1.wt hF.wt hP ht2) (by omega) (by omega) (by decide)) rfl (ma_goodc kc_Tokens_take) (B.2.2.2.1 _ k_1266) (B.2.2.2.1 _ k_1267) (B.2.2.2.1 _ k_1268) (B.2.2.2.1 _ k_3) ⟨by decide +kernel, by decide +kernel, by decide +kernel⟩ rfl d_Weaver_register_16 rfl (Nat.le_of_ble_eq_true rfl) ⟨by decide, by decide⟩ ⟨by decide, by decide⟩ ⟨by decide, by decide⟩ (mv_noH hno _) (fun v16 σ16 h16 => ?_)
  have kz := k6
  obtain ⟨a16, w16, e16, r16⟩ := h16
  have q16 := r16.1
  have z16 := fun q => (r16.2.1 q).1
  have y16 := And.intro r16.2.2.2.1 r16.2.2.2.2.1
  subst e16
  have sy16 := TkR.sym (hG.2.2.1.wt hF.wt hP ht2) r16
  refine mv_gen (fun S19 eS19 => ?_)
  have hR : Rw 145 (mv_r S19) := by rw [eS19]; exact hR
  have hF : IF 145 σ S19 := by rw [eS19]; exact hF.tk3 _ _ _
  have hN : mv_i S19 21 0 = 0 → mv_i σ 21 0 = 0 := by rw [eS19]; exact hN
  have t7 : (mv_i S19 3 7).toInt = a16.toInt := by rw [eS19]; rfl
  have t8 : (mv_i S19 3 8).toInt = (mv_i σ 3 8).toInt := by rw [eS19]; first | exact t8 | exact (sub_one (by omega)).trans (by omega) | exact (i32_inc (by omega)).trans (by omega)
  have t9 : (mv_i S19 3 9).toInt = w16.toInt := by rw [eS19]; rfl
  have kp := Eq.trans (show mv_a S19 4 = mv_a _ 4 by rw [eS19]; rfl) kp
  have k6 := Eq.trans (show mv_b S19 6 = mv_b _ 6 by rw [eS19]; rfl) k6
  have hW2 : WN 145 48 S19 n th sl no := by rw [eS19]; exact hW2.tk3 hP _ _ _
  have k19 := k6
  have sy16 : 0 ≤ (mv_b σ 6 v16.toNatClampNeg).toInt ∧ (mv_b σ 6 v16.toNatClampNeg).toInt < n := by rw [← kz]; exact sy16
  clear eS19
  refine mv_istore_n (pc := 19) B d_Weaver_register_19 rfl (by decide) rfl ?_
  refine mv_aload_n (pc := 20) B d_Weaver_register_20 rfl 1 rfl ?_
  refine mv_getR (pc := 21) (ci := 1) (C := R_Weaver) (T := F_Weaver) (N := 16) B 0 rfl rfl (by decide) i_Weaver (B.2.2.2.1 _ k_228) rfl (hR.1 _ 0 _ rfl) d_Weaver_register_21 ?_
  refine mv_bipush (pc := 24) (v := 58) B d_Weaver_register_24 (by decide) ?_
  refine mv_callVi (pc := 26) (n := 1) (ci := 2) (C := R_Tokens) B (mK_ok sk sv) hNs rfl rfl (c_Tokens_takeN l hi _ _ hR.1 (hG.2.2.1.wt hF.wt hP ht2) (by omega) (by omega) (by decide)) rfl (ma_goodc kc_Tokens_take) (B.2.2.2.1 _ k_1266) (B.2.2.2.1 _ k_1267) (B.2.2.2.1 _ k_1268) (B.2.2.2.1 _ k_3) ⟨by decide +kernel, by decide +kernel, by decide +kernel⟩ rfl d_Weaver_register_26 rfl (Nat.le_of_ble_eq_true rfl) ⟨by decide, by decide⟩ ⟨by decide, by decide⟩ ⟨by decide, by decide⟩ (mv_noH hno _) (fun v26 σ26 h26 => ?_)
  obtain ⟨a26, w26, e26, r26⟩ := h26
  have q26 := r26.1
  have z26 := fun q => (r26.2.1 q).1
  have y26 := And.intro r26.2.2.2.1 r26.2.2.2.2.1
  subst e26
  refine mv_gen (fun S29 eS29 => ?_)
  have hR : Rw 145 (mv_r S29) := by rw [eS29]; exact hR
  have hF : IF 145 σ S29 := by rw [eS29]; exact hF.tk3 _ _ _
  have hN : mv_i S29 21 0 = 0 → mv_i σ 21 0 = 0 := by rw [eS29]; exact hN
  have t7 : (mv_i S29 3 7).toInt = a26.toInt := by rw [eS29]; rfl
  have t8 : (mv_i S29 3 8).toInt = (mv_i σ 3 8).toInt := by rw [eS29]; first | exact t8 | exact (sub_one (by omega)).trans (by omega) | exact (i32_inc (by omega)).trans (by omega)
  have t9 : (mv_i S29 3 9).toInt = w26.toInt := by rw [eS29]; rfl
  have kp := Eq.trans (show mv_a S29 4 = mv_a _ 4 by rw [eS29]; rfl) kp
  have k6 := Eq.trans (show mv_b S29 6 = mv_b _ 6 by rw [eS29]; rfl) k6
  have hW2 : WN 145 48 S29 n th sl no := by rw [eS29]; exact hW2.tk3 hP _ _ _
  clear eS29
  refine mv_pop (pc := 29) B d_Weaver_register_29 rfl ?_
  refine mv_aload_n (pc := 30) B d_Weaver_register_30 rfl 1 rfl ?_
  refine mv_aload_n (pc := 31) B d_Weaver_register_31 rfl 1 rfl ?_
  refine mv_getR (pc := 32) (ci := 1) (C := R_Weaver) (T := F_Weaver) (N := 16) B 0 rfl rfl (by decide) i_Weaver (B.2.2.2.1 _ k_228) rfl (hR.1 _ 0 _ rfl) d_Weaver_register_32 ?_
  refine mv_iconst (pc := 35) (v := 4) B d_Weaver_register_35 (by decide) ?_
  refine mv_callVi (pc := 36) (n := 1) (ci := 2) (C := R_Tokens) B (mK_ok sk sv) hNs rfl rfl (c_Tokens_takeN l hi _ _ hR.1 (hG.2.2.1.wt hF.wt hP ht2) (by omega) (by omega) (by decide)) rfl (ma_goodc kc_Tokens_take) (B.2.2.2.1 _ k_1266) (B.2.2.2.1 _ k_1267) (B.2.2.2.1 _ k_1268) (B.2.2.2.1 _ k_3) ⟨by decide +kernel, by decide +kernel, by decide +kernel⟩ rfl d_Weaver_register_36 rfl (Nat.le_of_ble_eq_true rfl) ⟨by decide, by decide⟩ ⟨by decide, by decide⟩ ⟨by decide, by decide⟩ (mv_noH hno _) (fun v36 σ36 h36 => ?_)
  obtain ⟨a36, w36, e36, r36⟩ := h36
  have q36 := r36.1
  have z36 := fun q => (r36.2.1 q).1
  have y36 := And.intro r36.2.2.2.1 r36.2.2.2.2.1
  subst e36
  refine mv_gen (fun S39 eS39 => ?_)
  have hR : Rw 145 (mv_r S39) := by rw [eS39]; exact hR
  have hF : IF 145 σ S39 := by rw [eS39]; exact hF.tk3 _ _ _
  have hN : mv_i S39 21 0 = 0 → mv_i σ 21 0 = 0 := by rw [eS39]; exact hN
  have t7 : (mv_i S39 3 7).toInt = a36.toInt := by rw [eS39]; rfl
  have t8 : (mv_i S39 3 8).toInt = (mv_i σ 3 8).toInt := by rw [eS39]; first | exact t8 | exact (sub_one (by omega)).trans (by omega) | exact (i32_inc (by omega)).trans (by omega)
  have t9 : (mv_i S39 3 9).toInt = w36.toInt := by rw [eS39]; rfl
  have kp := Eq.trans (show mv_a S39 4 = mv_a _ 4 by rw [eS39]; rfl) kp
  have k6 := Eq.trans (show mv_b S39 6 = mv_b _ 6 by rw [eS39]; rfl) k6
  have hW2 : WN 145 48 S39 n th sl no := by rw [eS39]; exact hW2.tk3 hP _ _ _
  clear eS39
  refine mv_bipush (pc := 39) (v := 64) B d_Weaver_register_39 (by decide) ?_
  refine mv_callVi (pc := 41) (n := 2) (ci := 1) (C := R_Weaver) B (mK_ok sk sv) hNs rfl rfl (c_Weaver_numberUpTo l hi _ _ _ hR.1 y36.1 (by omega) (by decide)) rfl (ma_goodc kc_Weaver_numberUpTo) (B.2.2.2.1 _ k_1304) (B.2.2.2.1 _ k_1306) (B.2.2.2.1 _ ks_35) (B.2.2.2.1 _ k_2) ⟨by decide +kernel, by decide +kernel, by decide +kernel⟩ rfl d_Weaver_register_41 rfl (Nat.le_of_ble_eq_true rfl) ⟨by decide, by decide⟩ ⟨by decide, by decide⟩ ⟨by decide, by decide⟩ (mv_noH hno _) (fun v41 σ41 h41 => ?_)
  obtain ⟨x41, y41, e41, z41, u41⟩ := num_n (by decide) h41
  subst e41
  refine mv_gen (fun S44 eS44 => ?_)
  have hR : Rw 145 (mv_r S44) := by rw [eS44]; exact hR
  have hF : IF 145 σ S44 := by rw [eS44]; exact hF.tell _ _
  have hN : mv_i S44 21 0 = 0 → mv_i σ 21 0 = 0 := by rw [eS44]; exact fun q => hN (z41 q)
  have t7 := Eq.trans (congrArg Int32.toInt (show mv_i S44 3 7 = mv_i _ 3 7 by rw [eS44]; rfl)) t7
  have t8 := Eq.trans (congrArg Int32.toInt (show mv_i S44 3 8 = mv_i _ 3 8 by rw [eS44]; rfl)) t8
  have t9 := Eq.trans (congrArg Int32.toInt (show mv_i S44 3 9 = mv_i _ 3 9 by rw [eS44]; rfl)) t9
  have kp := Eq.trans (show mv_a S44 4 = mv_a _ 4 by rw [eS44]; rfl) kp
  have k6 := Eq.trans (show mv_b S44 6 = mv_b _ 6 by rw [eS44]; rfl) k6
  have hW2 : WN 145 48 S44 n th sl no := by rw [eS44]; exact hW2.tell hP _ _
  clear eS44
  refine mv_istore_n (pc := 44) B d_Weaver_register_44 rfl (by decide) rfl ?_
  refine mv_aload_n (pc := 45) B d_Weaver_register_45 rfl 2 rfl ?_
  refine mv_getR (pc := 46) (ci := 1) (C := R_Weaver) (T := F_Weaver) (N := 16) B 0 rfl rfl (by decide) i_Weaver (B.2.2.2.1 _ k_228) rfl (hR.1 _ 0 _ rfl) d_Weaver_register_46 ?_
  refine mv_bipush (pc := 49) (v := 59) B d_Weaver_register_49 (by decide) ?_
  refine mv_callVi (pc := 51) (n := 1) (ci := 2) (C := R_Tokens) B (mK_ok sk sv) hNs rfl rfl (c_Tokens_takeN l hi _ _ hR.1 (hG.2.2.1.wt hF.wt hP ht2) (by omega) (by omega) (by decide)) rfl (ma_goodc kc_Tokens_take) (B.2.2.2.1 _ k_1266) (B.2.2.2.1 _ k_1267) (B.2.2.2.1 _ k_1268) (B.2.2.2.1 _ k_3) ⟨by decide +kernel, by decide +kernel, by decide +kernel⟩ rfl d_Weaver_register_51 rfl (Nat.le_of_ble_eq_true rfl) ⟨by decide, by decide⟩ ⟨by decide, by decide⟩ ⟨by decide, by decide⟩ (mv_noH hno _) (fun v51 σ51 h51 => ?_)
  obtain ⟨a51, w51, e51, r51⟩ := h51
  have q51 := r51.1
  have z51 := fun q => (r51.2.1 q).1
  have y51 := And.intro r51.2.2.2.1 r51.2.2.2.2.1
  subst e51
  refine mv_gen (fun S54 eS54 => ?_)
  have hR : Rw 145 (mv_r S54) := by rw [eS54]; exact hR
  have hF : IF 145 σ S54 := by rw [eS54]; exact hF.tk3 _ _ _
  have hN : mv_i S54 21 0 = 0 → mv_i σ 21 0 = 0 := by rw [eS54]; exact hN
  have t7 : (mv_i S54 3 7).toInt = a51.toInt := by rw [eS54]; rfl
  have t8 : (mv_i S54 3 8).toInt = (mv_i σ 3 8).toInt := by rw [eS54]; first | exact t8 | exact (sub_one (by omega)).trans (by omega) | exact (i32_inc (by omega)).trans (by omega)
  have t9 : (mv_i S54 3 9).toInt = w51.toInt := by rw [eS54]; rfl
  have kp := Eq.trans (show mv_a S54 4 = mv_a _ 4 by rw [eS54]; rfl) kp
  have k6 := Eq.trans (show mv_b S54 6 = mv_b _ 6 by rw [eS54]; rfl) k6
  have hW2 : WN 145 48 S54 n th sl no := by rw [eS54]; exact hW2.tk3 hP _ _ _
  have sy : 0 ≤ (mv_b S54 6 v16.toNatClampNeg).toInt ∧ (mv_b S54 6 v16.toNatClampNeg).toInt < n := by rw [k6]; exact sy16
  obtain ⟨ac, hac1, hac2, hac3⟩ := hW2.2.2.2.2.1
  clear eS54
  refine mv_pop (pc := 54) B d_Weaver_register_54 rfl ?_
  refine mv_aload_n (pc := 55) B d_Weaver_register_55 rfl 2 rfl ?_
  refine mv_getR (pc := 56) (ci := 1) (C := R_Weaver) (T := F_Weaver) (N := 16) B 0 rfl rfl (by decide) i_Weaver (B.2.2.2.1 _ k_228) rfl (hR.1 _ 0 _ rfl) d_Weaver_register_56 ?_
  refine mv_callVi (pc := 59) (n := 0) (ci := 2) (C := R_Tokens) B (mK_ok sk sv) hNs rfl rfl (c_Tokens_right l hi _) rfl (ma_goodc kc_Tokens_right) (B.2.2.2.1 _ k_1291) (B.2.2.2.1 _ k_1292) (B.2.2.2.1 _ k_1293) (B.2.2.2.1 _ k_3) ⟨by decide +kernel, by decide +kernel, by decide +kernel⟩ rfl d_Weaver_register_59 rfl (Nat.le_of_ble_eq_true rfl) ⟨by decide, by decide⟩ ⟨by decide, by decide⟩ ⟨by decide, by decide⟩ (mv_noH hno _) (fun v59 σ59 h59 => ?_)
  obtain ⟨e59, z59⟩ := h59
  have e59 := e59.symm
  subst e59
  refine mv_if_eq (pc := 62) (tgt := 104) B d_Weaver_register_62 rfl (fun h62 => ?_) (fun h62 => ?_)
  · skip
    have hw : ¬ (mv_i S54 3 9).toInt < 0 := fun q => by rw [if_pos (lt0.mpr q)] at z59; rw [z59] at h62; exact absurd h62 (by decide)
    have hend : TP 145 48 σ S54 n sz a := ⟨hF.wt, by rw [hF.2.1 24 (by decide)]; exact hM, th, sl, no, hW2, Or.inl (by omega)⟩
    exact mv_vret (pc := 104) B hr d_Weaver_register_104 (Nat.le_refl _) (Nat.le_refl _) ⟨rfl, hend⟩
  · skip
    have hw : (mv_i S54 3 9).toInt < 0 := Decidable.byContradiction fun q => h62 (by rw [z59, if_neg (fun z => q (lt0.mp z))])
    refine mv_aload_n (pc := 65) B d_Weaver_register_65 rfl 2 rfl ?_
    refine mv_iload_n (pc := 66) B d_Weaver_register_66 rfl 1 rfl ?_
    refine mv_iconst (pc := 67) (v := 0) B d_Weaver_register_67 (by decide) ?_
    refine mv_callVi (pc := 68) (n := 2) (ci := 1) (C := R_Weaver) B (mK_ok sk sv) hNs rfl rfl (c_Weaver_isNew_c l hi _ _ _ hR (hG.2.2.1.wt hF.wt hP ht2) y16.1 y16.2 sy.1 sy.2 hW2.2.1 ac hac1 hac2 (by decide) (by decide)) rfl (ma_goodc kc_Weaver_isNew) (B.2.2.2.1 _ k_1308) (B.2.2.2.1 _ k_1310) (B.2.2.2.1 _ ks_36) (B.2.2.2.1 _ k_2) ⟨by decide +kernel, by decide +kernel, by decide +kernel⟩ rfl d_Weaver_register_68 rfl (Nat.le_of_ble_eq_true rfl) ⟨by decide, by decide⟩ ⟨by decide, by decide⟩ ⟨by decide, by decide⟩ (mv_noH hno _) (fun v68 σ68 h68 => ?_)
    refine mv_if_eq (pc := 71) (tgt := 104) B d_Weaver_register_71 rfl (fun h71 => ?_) (fun h71 => ?_)
    · skip
      have hend : TP 145 48 σ σ68 n sz a := by
        rcases h68 with ⟨-, x9, y9, q1, q2⟩ | ⟨q1, -⟩
        · subst q1
          have hF := hF.tell x9 y9
          exact ⟨hF.wt, by rw [hF.2.1 24 (by decide)]; exact hM, th, sl, no, hW2.tell hP _ _, Or.inr ⟨a + 5, by omega, Or.inl ⟨(hF.1 2 6 (by decide)).trans hm0, s0, ns, hS.it hF hP (show (mv_i S54 3 7).toInt = _ by omega) hw t8 (by omega) (by omega) (fun q => absurd q q2) (Nat.le_refl _)⟩⟩⟩
        · rw [q1] at h71; exact absurd h71 (by decide)
      exact mv_vret (pc := 104) B hr d_Weaver_register_104 (Nat.le_refl _) (Nat.le_refl _) ⟨rfl, hend⟩
    · skip
      obtain ⟨-, e68, n68, m68⟩ := h68.resolve_left (fun q => h71 q.1)
      subst e68
      have hth := hW2.2.1.1
      have k21 := l2i_nn (x := mv_b σ68 6 v16.toNatClampNeg) sy.1 (by have := (hG.2.2.1).1.2.1; omega)
      have hn16 := hG.2.2.1.1.2.1
      refine mv_aload_n (pc := 74) B d_Weaver_register_74 rfl 2 rfl ?_
      refine mv_getR (pc := 75) (ci := 1) (C := R_Weaver) (T := F_Weaver) (N := 16) B 1 rfl rfl (by decide) i_Weaver (B.2.2.2.1 _ k_229) rfl (hR.1 _ 1 _ rfl) d_Weaver_register_75 ?_
      refine mv_aload_n (pc := 78) B d_Weaver_register_78 rfl 2 rfl ?_
      refine mv_iload_n (pc := 79) B d_Weaver_register_79 rfl 1 rfl ?_
      refine mv_callVi (pc := 80) (n := 1) (ci := 1) (C := R_Weaver) B (mK_ok sk sv) hNs rfl rfl (c_Weaver_symbolOf l hi _ _ hR.1 y16.1 (by omega)) rfl (ma_goodc kc_Weaver_symbolOf) (B.2.2.2.1 _ k_1312) (B.2.2.2.1 _ k_1314) (B.2.2.2.1 _ ks_37) (B.2.2.2.1 _ k_2) ⟨by decide +kernel, by decide +kernel, by decide +kernel⟩ rfl d_Weaver_register_80 rfl (Nat.le_of_ble_eq_true rfl) ⟨by decide, by decide⟩ ⟨by decide, by decide⟩ ⟨by decide, by decide⟩ (mv_noH hno _) (fun v80 σ80 h80 => ?_)
      obtain ⟨e80, z80⟩ := h80
      have e80 := e80.symm
      subst e80
      have z81 : v80.toInt = (mv_b σ68 6 v16.toNatClampNeg).toInt := by rw [z80]; exact k21
      refine mv_iconst (pc := 83) (v := 1) B d_Weaver_register_83 (by decide) ?_
      refine mv_aload_n (pc := 84) B d_Weaver_register_84 rfl 2 rfl ?_
      refine mv_getR (pc := 85) (ci := 1) (C := R_Weaver) (T := F_Weaver) (N := 16) B 5 rfl rfl (by decide) i_Weaver (B.2.2.2.1 _ k_235) rfl hR.2.2.1 d_Weaver_register_85 ?_
      refine mv_getI (pc := 88) (ci := 7) (C := R_Program) (T := F_Program) (N := 19) B 1 rfl rfl (by decide) i_Program (B.2.2.2.1 _ k_316) rfl d_Weaver_register_88 ?_
      refine mv_callVv (pc := 91) (n := 3) (ci := 4) (C := R_Names) B (mK_ok sk sv) hNs rfl rfl (c_Names_know l hi _ _ _ _ hR.1 (by omega) (by omega)) rfl (ma_goodc kc_Names_know) (B.2.2.2.1 _ k_1325) (B.2.2.2.1 _ k_1326) (B.2.2.2.1 _ k_1327) (B.2.2.2.1 _ k_5) ⟨by decide +kernel, by decide +kernel, by decide +kernel⟩ rfl d_Weaver_register_91 rfl (Nat.le_of_ble_eq_true rfl) ⟨by decide, by decide⟩ ⟨by decide, by decide⟩ ⟨by decide, by decide⟩ (mv_noH hno _) (fun σ91 h91 => ?_)
      subst h91
      refine mv_aload_n (pc := 94) B d_Weaver_register_94 rfl 2 rfl ?_
      refine mv_getR (pc := 95) (ci := 1) (C := R_Weaver) (T := F_Weaver) (N := 16) B 5 rfl rfl (by decide) i_Weaver (B.2.2.2.1 _ k_235) rfl hR.2.2.1 d_Weaver_register_95 ?_
      refine mv_iload_n (pc := 98) B d_Weaver_register_98 rfl 0 rfl ?_
      refine mv_iconst (pc := 99) (v := 0) B d_Weaver_register_99 (by decide) ?_
      refine mv_iconst (pc := 100) (v := 0) B d_Weaver_register_100 (by decide) ?_
      refine mv_callVv (pc := 101) (n := 3) (ci := 7) (C := R_Program) B (mK_ok sk sv) hNs rfl rfl (c_Program_addThing_c l hi _ _ _ _ hR.2.1 (show 0 ≤ (mv_i σ68 145 1).toInt by omega) (show (mv_i σ68 145 1).toInt < 64 by omega)) rfl (ma_goodc kc_Program_addThing) (B.2.2.2.1 _ k_1329) (B.2.2.2.1 _ k_1330) (B.2.2.2.1 _ k_1331) (B.2.2.2.1 _ k_8) ⟨by decide +kernel, by decide +kernel, by decide +kernel⟩ rfl d_Weaver_register_101 rfl (Nat.le_of_ble_eq_true rfl) ⟨by decide, by decide⟩ ⟨by decide, by decide⟩ ⟨by decide, by decide⟩ (mv_noH hno _) (fun σ101 h101 => ?_)
      obtain ⟨z9, s9, e101, d101⟩ := h101
      subst e101
      obtain ⟨sl2, w2⟩ := hW2.thing hP n68 hac1 (w := v41) (c := 0) (z := z9) (s2 := s9) (y := v80) (k := 1) (x := mv_i σ68 145 1) (by decide) m68 (by omega) (Or.inl rfl) rfl d101
      have hF := (hF.know v80.toNatClampNeg 1 (mv_i σ68 145 1)).thing v41 0 z9 s9
      refine mv_gen (fun S104 eS104 => ?_)
      rw [← eS104] at w2 hF
      have hend : TP 145 48 σ S104 n sz a := ⟨hF.wt, by rw [hF.2.1 24 (by decide)]; exact hM, th + 1, sl2, no, w2, Or.inr ⟨a + 5, by omega, Or.inl ⟨(hF.1 2 6 (by decide)).trans hm0, s0, ns, hS.it hF hP (by rw [eS104]; show (mv_i σ68 3 7).toInt = _; omega) (by rw [eS104]; exact hw) (by rw [eS104]; exact t8) (by omega) (by omega) (fun q => by rw [eS104] at q; exact hN q) (Nat.le_succ _)⟩⟩⟩
      clear eS104
      exact mv_vret (pc := 104) B hr d_Weaver_register_104 (Nat.le_refl _) (Nat.le_refl _) ⟨rfl, hend⟩
def y_Weaver_file : MethodName := ⟨"MachineLoom$Weaver", "file", "()V"⟩
abbrev b_Weaver_file : ByteArray := prog_12_method_10_code
theorem kc_Weaver_file : Cond.code y_Weaver_file b_Weaver_file 5 (Option.none : Option Jvm.ClassFile.FieldType) ∈ ma := ma_of (tb_6 _ (List.mem_of_getElem? (i := 136) rfl)) rfl
theorem k_1299 : (Jvm.Cond.methodLink "MachineLoom$Weaver" (159 : Nat) ({ cls := "MachineLoom$Tokens", name := "kind", desc := "()I" } : Jvm.MethodName)) ∈ ma := ma_of (tb_6 _ (List.mem_of_getElem? (i := 99) rfl)) rfl
theorem d_Weaver_file_0 : decode b_Weaver_file 0 = .ok (.aload_n 0, 1) := by decide +kernel
theorem d_Weaver_file_1 : decode b_Weaver_file 1 = .ok (.getfield 12, 3) := by decide +kernel
theorem d_Weaver_file_4 : decode b_Weaver_file 4 = .ok (.sipush 202, 3) := by decide +kernel
theorem d_Weaver_file_7 : decode b_Weaver_file 7 = .ok (.invokevirtual 143, 3) := by decide +kernel
theorem d_Weaver_file_10 : decode b_Weaver_file 10 = .ok (.pop, 1) := by decide +kernel
theorem d_Weaver_file_11 : decode b_Weaver_file 11 = .ok (.aload_n 0, 1) := by decide +kernel
theorem d_Weaver_file_12 : decode b_Weaver_file 12 = .ok (.getfield 12, 3) := by decide +kernel
theorem d_Weaver_file_15 : decode b_Weaver_file 15 = .ok (.iconst 3, 1) := by decide +kernel
theorem d_Weaver_file_16 : decode b_Weaver_file 16 = .ok (.invokevirtual 143, 3) := by decide +kernel
theorem d_Weaver_file_19 : decode b_Weaver_file 19 = .ok (.istore_n 1, 1) := by decide +kernel
theorem d_Weaver_file_20 : decode b_Weaver_file 20 = .ok (.aload_n 0, 1) := by decide +kernel
theorem d_Weaver_file_21 : decode b_Weaver_file 21 = .ok (.getfield 12, 3) := by decide +kernel
theorem d_Weaver_file_24 : decode b_Weaver_file 24 = .ok (.bipush 58, 2) := by decide +kernel
theorem d_Weaver_file_26 : decode b_Weaver_file 26 = .ok (.invokevirtual 143, 3) := by decide +kernel
theorem d_Weaver_file_29 : decode b_Weaver_file 29 = .ok (.pop, 1) := by decide +kernel
theorem d_Weaver_file_30 : decode b_Weaver_file 30 = .ok (.aload_n 0, 1) := by decide +kernel
theorem d_Weaver_file_31 : decode b_Weaver_file 31 = .ok (.aload_n 0, 1) := by decide +kernel
theorem d_Weaver_file_32 : decode b_Weaver_file 32 = .ok (.getfield 12, 3) := by decide +kernel
theorem d_Weaver_file_35 : decode b_Weaver_file 35 = .ok (.iconst 4, 1) := by decide +kernel
theorem d_Weaver_file_36 : decode b_Weaver_file 36 = .ok (.invokevirtual 143, 3) := by decide +kernel
theorem d_Weaver_file_39 : decode b_Weaver_file 39 = .ok (.bipush 64, 2) := by decide +kernel
theorem d_Weaver_file_41 : decode b_Weaver_file 41 = .ok (.invokevirtual 177, 3) := by decide +kernel
theorem d_Weaver_file_44 : decode b_Weaver_file 44 = .ok (.istore_n 2, 1) := by decide +kernel
theorem d_Weaver_file_45 : decode b_Weaver_file 45 = .ok (.aload_n 0, 1) := by decide +kernel
theorem d_Weaver_file_46 : decode b_Weaver_file 46 = .ok (.getfield 12, 3) := by decide +kernel
theorem d_Weaver_file_49 : decode b_Weaver_file 49 = .ok (.bipush 91, 2) := by decide +kernel
theorem d_Weaver_file_51 : decode b_Weaver_file 51 = .ok (.invokevirtual 143, 3) := by decide +kernel
theorem d_Weaver_file_54 : decode b_Weaver_file 54 = .ok (.pop, 1) := by decide +kernel
theorem d_Weaver_file_55 : decode b_Weaver_file 55 = .ok (.aload_n 0, 1) := by decide +kernel
theorem d_Weaver_file_56 : decode b_Weaver_file 56 = .ok (.aload_n 0, 1) := by decide +kernel
theorem d_Weaver_file_57 : decode b_Weaver_file 57 = .ok (.getfield 12, 3) := by decide +kernel
theorem d_Weaver_file_60 : decode b_Weaver_file 60 = .ok (.iconst 4, 1) := by decide +kernel
theorem d_Weaver_file_61 : decode b_Weaver_file 61 = .ok (.invokevirtual 143, 3) := by decide +kernel
theorem d_Weaver_file_64 : decode b_Weaver_file 64 = .ok (.ldc 199, 2) := by decide +kernel
theorem d_Weaver_file_66 : decode b_Weaver_file 66 = .ok (.invokevirtual 177, 3) := by decide +kernel
theorem d_Weaver_file_69 : decode b_Weaver_file 69 = .ok (.istore_n 3, 1) := by decide +kernel
theorem d_Weaver_file_70 : decode b_Weaver_file 70 = .ok (.aload_n 0, 1) := by decide +kernel
theorem d_Weaver_file_71 : decode b_Weaver_file 71 = .ok (.getfield 12, 3) := by decide +kernel
theorem d_Weaver_file_74 : decode b_Weaver_file 74 = .ok (.bipush 93, 2) := by decide +kernel
theorem d_Weaver_file_76 : decode b_Weaver_file 76 = .ok (.invokevirtual 143, 3) := by decide +kernel
theorem d_Weaver_file_79 : decode b_Weaver_file 79 = .ok (.pop, 1) := by decide +kernel
theorem d_Weaver_file_80 : decode b_Weaver_file 80 = .ok (.aload_n 0, 1) := by decide +kernel
theorem d_Weaver_file_81 : decode b_Weaver_file 81 = .ok (.getfield 12, 3) := by decide +kernel
theorem d_Weaver_file_84 : decode b_Weaver_file 84 = .ok (.invokevirtual 159, 3) := by decide +kernel
theorem d_Weaver_file_87 : decode b_Weaver_file 87 = .ok (.sipush 203, 3) := by decide +kernel
theorem d_Weaver_file_90 : decode b_Weaver_file 90 = .ok (.if_icmp .ne (7), 3) := by decide +kernel
theorem d_Weaver_file_93 : decode b_Weaver_file 93 = .ok (.iconst 1, 1) := by decide +kernel
theorem d_Weaver_file_94 : decode b_Weaver_file 94 = .ok (.goto (4), 3) := by decide +kernel
theorem d_Weaver_file_97 : decode b_Weaver_file 97 = .ok (.iconst 0, 1) := by decide +kernel
theorem d_Weaver_file_98 : decode b_Weaver_file 98 = .ok (.istore 4, 2) := by decide +kernel
theorem d_Weaver_file_100 : decode b_Weaver_file 100 = .ok (.iload 4, 2) := by decide +kernel
theorem d_Weaver_file_102 : decode b_Weaver_file 102 = .ok (.ifCond .eq (14), 3) := by decide +kernel
theorem d_Weaver_file_105 : decode b_Weaver_file 105 = .ok (.aload_n 0, 1) := by decide +kernel
theorem d_Weaver_file_106 : decode b_Weaver_file 106 = .ok (.getfield 12, 3) := by decide +kernel
theorem d_Weaver_file_109 : decode b_Weaver_file 109 = .ok (.sipush 203, 3) := by decide +kernel
theorem d_Weaver_file_112 : decode b_Weaver_file 112 = .ok (.invokevirtual 143, 3) := by decide +kernel
theorem d_Weaver_file_115 : decode b_Weaver_file 115 = .ok (.pop, 1) := by decide +kernel
theorem d_Weaver_file_116 : decode b_Weaver_file 116 = .ok (.aload_n 0, 1) := by decide +kernel
theorem d_Weaver_file_117 : decode b_Weaver_file 117 = .ok (.getfield 12, 3) := by decide +kernel
theorem d_Weaver_file_120 : decode b_Weaver_file 120 = .ok (.bipush 59, 2) := by decide +kernel
theorem d_Weaver_file_122 : decode b_Weaver_file 122 = .ok (.invokevirtual 143, 3) := by decide +kernel
theorem d_Weaver_file_125 : decode b_Weaver_file 125 = .ok (.pop, 1) := by decide +kernel
theorem d_Weaver_file_126 : decode b_Weaver_file 126 = .ok (.iload_n 2, 1) := by decide +kernel
theorem d_Weaver_file_127 : decode b_Weaver_file 127 = .ok (.ifCond .eq (7), 3) := by decide +kernel
theorem d_Weaver_file_130 : decode b_Weaver_file 130 = .ok (.iload_n 3, 1) := by decide +kernel
theorem d_Weaver_file_131 : decode b_Weaver_file 131 = .ok (.ifCond .ne (7), 3) := by decide +kernel
theorem d_Weaver_file_134 : decode b_Weaver_file 134 = .ok (.iconst 0, 1) := by decide +kernel
theorem d_Weaver_file_135 : decode b_Weaver_file 135 = .ok (.istore_n 2, 1) := by decide +kernel
theorem d_Weaver_file_136 : decode b_Weaver_file 136 = .ok (.iconst 0, 1) := by decide +kernel
theorem d_Weaver_file_137 : decode b_Weaver_file 137 = .ok (.istore_n 3, 1) := by decide +kernel
theorem d_Weaver_file_138 : decode b_Weaver_file 138 = .ok (.aload_n 0, 1) := by decide +kernel
theorem d_Weaver_file_139 : decode b_Weaver_file 139 = .ok (.getfield 12, 3) := by decide +kernel
theorem d_Weaver_file_142 : decode b_Weaver_file 142 = .ok (.invokevirtual 79, 3) := by decide +kernel
theorem d_Weaver_file_145 : decode b_Weaver_file 145 = .ok (.ifCond .eq (43), 3) := by decide +kernel
theorem d_Weaver_file_148 : decode b_Weaver_file 148 = .ok (.aload_n 0, 1) := by decide +kernel
theorem d_Weaver_file_149 : decode b_Weaver_file 149 = .ok (.iload_n 1, 1) := by decide +kernel
theorem d_Weaver_file_150 : decode b_Weaver_file 150 = .ok (.iload_n 3, 1) := by decide +kernel
theorem d_Weaver_file_151 : decode b_Weaver_file 151 = .ok (.invokevirtual 181, 3) := by decide +kernel
theorem d_Weaver_file_154 : decode b_Weaver_file 154 = .ok (.ifCond .eq (34), 3) := by decide +kernel
theorem d_Weaver_file_157 : decode b_Weaver_file 157 = .ok (.aload_n 0, 1) := by decide +kernel
theorem d_Weaver_file_158 : decode b_Weaver_file 158 = .ok (.getfield 27, 3) := by decide +kernel
theorem d_Weaver_file_161 : decode b_Weaver_file 161 = .ok (.aload_n 0, 1) := by decide +kernel
theorem d_Weaver_file_162 : decode b_Weaver_file 162 = .ok (.iload_n 1, 1) := by decide +kernel
theorem d_Weaver_file_163 : decode b_Weaver_file 163 = .ok (.invokevirtual 185, 3) := by decide +kernel
theorem d_Weaver_file_166 : decode b_Weaver_file 166 = .ok (.iconst 2, 1) := by decide +kernel
theorem d_Weaver_file_167 : decode b_Weaver_file 167 = .ok (.aload_n 0, 1) := by decide +kernel
theorem d_Weaver_file_168 : decode b_Weaver_file 168 = .ok (.getfield 113, 3) := by decide +kernel
theorem d_Weaver_file_171 : decode b_Weaver_file 171 = .ok (.getfield 188, 3) := by decide +kernel
theorem d_Weaver_file_174 : decode b_Weaver_file 174 = .ok (.invokevirtual 191, 3) := by decide +kernel
theorem d_Weaver_file_177 : decode b_Weaver_file 177 = .ok (.aload_n 0, 1) := by decide +kernel
theorem d_Weaver_file_178 : decode b_Weaver_file 178 = .ok (.getfield 113, 3) := by decide +kernel
theorem d_Weaver_file_181 : decode b_Weaver_file 181 = .ok (.iload_n 2, 1) := by decide +kernel
theorem d_Weaver_file_182 : decode b_Weaver_file 182 = .ok (.iload_n 3, 1) := by decide +kernel
theorem d_Weaver_file_183 : decode b_Weaver_file 183 = .ok (.iload 4, 2) := by decide +kernel
theorem d_Weaver_file_185 : decode b_Weaver_file 185 = .ok (.invokevirtual 195, 3) := by decide +kernel
theorem d_Weaver_file_188 : decode b_Weaver_file 188 = .ok (.return_, 1) := by decide +kernel
set_option maxHeartbeats 4000000 in
set_option maxRecDepth 100000 in
theorem c_Weaver_file_a (l : Launch) {dA : FieldType → ClassId} {D : va_G} {al : Nat → Nat} {ext : mv_Sh} {sk sv : Nat → Nat} (hi : mv_inj (mg dA D al ext)) (σ : mv_H) {t tn len n z sz th sl s0 a ns no : Nat} (hG : WG 32 32768 512 ext σ t tn len n z sz) (hM : Mt (mv_a σ 24)) (hW : WN 32 512 σ n th sl no) (hS : WS 32 σ sz th s0 a ns no []) (hm0 : mv_i σ 2 6 = 0) (hk3 : mv_a σ 4 (mv_i σ 3 7).toNatClampNeg = 202) : mv_C l y_Weaver_file (Cond.code y_Weaver_file b_Weaver_file 5 (Option.none : Option Jvm.ClassFile.FieldType) :: ma) ({ frames := 3, cells := 0, slots := 0, locals := 68 }) (mg dA D al ext) (mK sk sv) [.ref (al 2)] σ (mv_Rv (fun σ1 => TP 32 512 σ σ1 n sz a)) := by
  refine mv_C.ofV (cc := b_Weaver_file) (nL := 5) (ret := (Option.none : Option Jvm.ClassFile.FieldType)) (by decide +kernel) rfl hi (Nat.le_of_ble_eq_true rfl) ?_
  intro p e s m below meth c B hNs hr hnm hno
  have hP : PQ 32 := by unfold PQ; omega
  have hR := hG.1
  have ht2 := hG.2.1.2.2.2.2.2.2
  have hF : IF 32 σ σ := Fr.rf
  have hN : mv_i σ 21 0 = 0 → mv_i σ 21 0 = 0 := fun q => q
  have hE := hG.2.2.1
  have hsz := hE.2.2.2.2.2
  have hsz2 := hE.2.2.2.1
  have hlen := hG.2.2.2.2.1
  have hlen2 := hG.2.2.2.2.2
  have t7 := hS.1.1
  have hw9 := hS.1.2.1
  have ha9 := hS.1.2.2.2.2.1
  have t9 : (mv_i σ 3 9).toInt = (mv_i σ 3 9).toInt := rfl
  have t8 : (mv_i σ 3 8).toInt = (mv_i σ 3 8).toInt := rfl
  have kp : mv_a σ 4 = mv_a σ 4 := rfl
  have k6 : mv_b σ 6 = mv_b σ 6 := rfl
  have hs5 := hS.1.2.2.2.2.2.1
  have hs6 := hS.1.2.2.2.2.2.2.1
  have hd8 := hS.1.2.2.1
  have hd9 := hS.1.2.2.2.1
  have j138 : ∀ (υ : mv_H) (tk1 : Int32) (wi : Int32) (ce : Int32) (fl : Int32) (hR : Rw 32 (mv_r υ)) (hF : IF 32 σ υ) (hN : mv_i υ 21 0 = 0 → mv_i σ 21 0 = 0) (hW2 : WN 32 512 υ n th sl no) (t7 : 1 ≤ (mv_i υ 3 7).toInt ∧ (mv_i υ 3 7).toInt < sz ∧ a + 1 ≤ (mv_i υ 3 7).toInt) (t8 : (mv_i υ 3 8).toInt = (mv_i σ 3 8).toInt) (kp : mv_a υ 4 = mv_a σ 4) (k6 : mv_b υ 6 = mv_b σ 6) (sy16 : 0 ≤ (mv_b σ 6 tk1.toNatClampNeg).toInt ∧ (mv_b σ 6 tk1.toNatClampNeg).toInt < n) (b1 : 0 ≤ tk1.toInt ∧ tk1.toInt < sz) (hce : 0 ≤ ce.toInt ∧ ce.toInt ≤ 65536), mv_V p l e ({ frames := 3, cells := 0, slots := 0, locals := 68 }) s m ([.ref (al 2)] : List Value).toArray below meth c (mg dA D al ext) 5 0 0 (mv_Q (mg dA D al ext) below s 0 0 (mv_Rv (fun σ1 => TP 32 512 σ σ1 n sz a))) υ 138 [(2, .int wi), (3, .int ce), (4, .int fl), (1, .int tk1), (0, .ref (al 2))] [] := by
    intro υ tk1 wi ce fl hR hF hN hW2 t7 t8 kp k6 sy16 b1 hce
    obtain ⟨ac, hac1, hac2, hac3⟩ := hW2.2.2.2.2.1
    refine mv_aload_n (pc := 138) B d_Weaver_file_138 rfl 4 rfl ?_
    refine mv_getR (pc := 139) (ci := 1) (C := R_Weaver) (T := F_Weaver) (N := 16) B 0 rfl rfl (by decide) i_Weaver (B.2.2.2.1 _ k_228) rfl (hR.1 _ 0 _ rfl) d_Weaver_file_139 ?_
    refine mv_callVi (pc := 142) (n := 0) (ci := 2) (C := R_Tokens) B (mK_ok sk sv) hNs rfl rfl (c_Tokens_right l hi _) rfl (ma_goodc kc_Tokens_right) (B.2.2.2.1 _ k_1291) (B.2.2.2.1 _ k_1292) (B.2.2.2.1 _ k_1293) (B.2.2.2.1 _ k_3) ⟨by decide +kernel, by decide +kernel, by decide +kernel⟩ rfl d_Weaver_file_142 rfl (Nat.le_of_ble_eq_true rfl) ⟨by decide, by decide⟩ ⟨by decide, by decide⟩ ⟨by decide, by decide⟩ (mv_noH hno _) (fun v142 σ142 h142 => ?_)
    obtain ⟨e59, z59⟩ := h142
    have e59 := e59.symm
    subst e59
    refine mv_if_eq (pc := 145) (tgt := 188) B d_Weaver_file_145 rfl (fun h145 => ?_) (fun h145 => ?_)
    · skip
      have hw : ¬ (mv_i υ 3 9).toInt < 0 := fun q => by rw [if_pos (lt0.mpr q)] at z59; rw [z59] at h145; exact absurd h145 (by decide)
      have hend : TP 32 512 σ υ n sz a := ⟨hF.wt, by rw [hF.2.1 24 (by decide)]; exact hM, th, sl, no, hW2, Or.inl (by omega)⟩
      exact mv_vret (pc := 188) B hr d_Weaver_file_188 (Nat.le_refl _) (Nat.le_refl _) ⟨rfl, hend⟩
    · skip
      have hw : (mv_i υ 3 9).toInt < 0 := Decidable.byContradiction fun q => h145 (by rw [z59, if_neg (fun z => q (lt0.mp z))])
      refine mv_aload_n (pc := 148) B d_Weaver_file_148 rfl 4 rfl ?_
      refine mv_iload_n (pc := 149) B d_Weaver_file_149 rfl 3 rfl ?_
      refine mv_iload_n (pc := 150) B d_Weaver_file_150 rfl 1 rfl ?_
      refine mv_callVi (pc := 151) (n := 2) (ci := 1) (C := R_Weaver) B (mK_ok sk sv) hNs rfl rfl (c_Weaver_isNew_a l hi _ _ _ hR (hG.2.2.1.wt hF.wt hP ht2) b1.1 b1.2 (by rw [k6]; exact sy16.1) (by rw [k6]; exact sy16.2) hW2.2.1 ac hac1 hac2 (by omega) (by omega)) rfl (ma_goodc kc_Weaver_isNew) (B.2.2.2.1 _ k_1308) (B.2.2.2.1 _ k_1310) (B.2.2.2.1 _ ks_36) (B.2.2.2.1 _ k_2) ⟨by decide +kernel, by decide +kernel, by decide +kernel⟩ rfl d_Weaver_file_151 rfl (Nat.le_of_ble_eq_true rfl) ⟨by decide, by decide⟩ ⟨by decide, by decide⟩ ⟨by decide, by decide⟩ (mv_noH hno _) (fun v151 σ151 h151 => ?_)
      refine mv_if_eq (pc := 154) (tgt := 188) B d_Weaver_file_154 rfl (fun h154 => ?_) (fun h154 => ?_)
      · skip
        have hend : TP 32 512 σ σ151 n sz a := by
          rcases h151 with ⟨-, x9, y9, q1, q2⟩ | ⟨q1, -⟩
          · subst q1
            have hF := hF.tell x9 y9
            exact ⟨hF.wt, by rw [hF.2.1 24 (by decide)]; exact hM, th, sl, no, hW2.tell hP _ _, Or.inr ⟨(mv_i υ 3 7).toInt.toNat, by omega, Or.inl ⟨(hF.1 2 6 (by decide)).trans hm0, s0, ns, hS.it hF hP (show (mv_i υ 3 7).toInt = _ by omega) hw t8 (by omega) (by omega) (fun q => absurd q q2) (Nat.le_refl _)⟩⟩⟩
          · rw [q1] at h154; exact absurd h154 (by decide)
        exact mv_vret (pc := 188) B hr d_Weaver_file_188 (Nat.le_refl _) (Nat.le_refl _) ⟨rfl, hend⟩
      · skip
        obtain ⟨-, e68, n68, m68⟩ := h151.resolve_left (fun q => h154 q.1)
        have e68 := e68.symm
        subst e68
        have hth := hW2.2.1.1
        have hn16 := hG.2.2.1.1.2.1
        have k21 := l2i_nn (x := mv_b υ 6 tk1.toNatClampNeg) (by rw [k6]; exact sy16.1) (by rw [k6]; omega)
        have k22 : (mv_b υ 6 tk1.toNatClampNeg).toInt = (mv_b σ 6 tk1.toNatClampNeg).toInt := by rw [k6]
        refine mv_aload_n (pc := 157) B d_Weaver_file_157 rfl 4 rfl ?_
        refine mv_getR (pc := 158) (ci := 1) (C := R_Weaver) (T := F_Weaver) (N := 16) B 1 rfl rfl (by decide) i_Weaver (B.2.2.2.1 _ k_229) rfl (hR.1 _ 1 _ rfl) d_Weaver_file_158 ?_
        refine mv_aload_n (pc := 161) B d_Weaver_file_161 rfl 4 rfl ?_
        refine mv_iload_n (pc := 162) B d_Weaver_file_162 rfl 3 rfl ?_
        refine mv_callVi (pc := 163) (n := 1) (ci := 1) (C := R_Weaver) B (mK_ok sk sv) hNs rfl rfl (c_Weaver_symbolOf l hi _ _ hR.1 b1.1 (by omega)) rfl (ma_goodc kc_Weaver_symbolOf) (B.2.2.2.1 _ k_1312) (B.2.2.2.1 _ k_1314) (B.2.2.2.1 _ ks_37) (B.2.2.2.1 _ k_2) ⟨by decide +kernel, by decide +kernel, by decide +kernel⟩ rfl d_Weaver_file_163 rfl (Nat.le_of_ble_eq_true rfl) ⟨by decide, by decide⟩ ⟨by decide, by decide⟩ ⟨by decide, by decide⟩ (mv_noH hno _) (fun v163 σ163 h163 => ?_)
        obtain ⟨e80, z80⟩ := h163
        have e80 := e80.symm
        subst e80
        have z81 : v163.toInt = (mv_b υ 6 tk1.toNatClampNeg).toInt := by rw [z80]; exact k21
        refine mv_iconst (pc := 166) (v := 2) B d_Weaver_file_166 (by decide) ?_
        refine mv_aload_n (pc := 167) B d_Weaver_file_167 rfl 4 rfl ?_
        refine mv_getR (pc := 168) (ci := 1) (C := R_Weaver) (T := F_Weaver) (N := 16) B 5 rfl rfl (by decide) i_Weaver (B.2.2.2.1 _ k_235) rfl hR.2.2.1 d_Weaver_file_168 ?_
        refine mv_getI (pc := 171) (ci := 7) (C := R_Program) (T := F_Program) (N := 19) B 1 rfl rfl (by decide) i_Program (B.2.2.2.1 _ k_316) rfl d_Weaver_file_171 ?_
        refine mv_callVv (pc := 174) (n := 3) (ci := 4) (C := R_Names) B (mK_ok sk sv) hNs rfl rfl (c_Names_know l hi _ _ _ _ hR.1 (by omega) (by omega)) rfl (ma_goodc kc_Names_know) (B.2.2.2.1 _ k_1325) (B.2.2.2.1 _ k_1326) (B.2.2.2.1 _ k_1327) (B.2.2.2.1 _ k_5) ⟨by decide +kernel, by decide +kernel, by decide +kernel⟩ rfl d_Weaver_file_174 rfl (Nat.le_of_ble_eq_true rfl) ⟨by decide, by decide⟩ ⟨by decide, by decide⟩ ⟨by decide, by decide⟩ (mv_noH hno _) (fun σ174 h174 => ?_)
        subst h174
        refine mv_aload_n (pc := 177) B d_Weaver_file_177 rfl 4 rfl ?_
        refine mv_getR (pc := 178) (ci := 1) (C := R_Weaver) (T := F_Weaver) (N := 16) B 5 rfl rfl (by decide) i_Weaver (B.2.2.2.1 _ k_235) rfl hR.2.2.1 d_Weaver_file_178 ?_
        refine mv_iload_n (pc := 181) B d_Weaver_file_181 rfl 0 rfl ?_
        refine mv_iload_n (pc := 182) B d_Weaver_file_182 rfl 1 rfl ?_
        refine mv_iload (pc := 183) B d_Weaver_file_183 2 rfl ?_
        refine mv_callVv (pc := 185) (n := 3) (ci := 7) (C := R_Program) B (mK_ok sk sv) hNs rfl rfl (c_Program_addThing_a l hi _ _ _ _ hR.2.1 (show 0 ≤ (mv_i υ 32 1).toInt by omega) (show (mv_i υ 32 1).toInt < 64 by omega)) rfl (ma_goodc kc_Program_addThing) (B.2.2.2.1 _ k_1329) (B.2.2.2.1 _ k_1330) (B.2.2.2.1 _ k_1331) (B.2.2.2.1 _ k_8) ⟨by decide +kernel, by decide +kernel, by decide +kernel⟩ rfl d_Weaver_file_185 rfl (Nat.le_of_ble_eq_true rfl) ⟨by decide, by decide⟩ ⟨by decide, by decide⟩ ⟨by decide, by decide⟩ (mv_noH hno _) (fun σ185 h185 => ?_)
        obtain ⟨z9, s9, e101, d101⟩ := h185
        subst e101
        obtain ⟨sl2, w2⟩ := hW2.thing hP n68 hac1 (w := wi) (c := ce) (z := z9) (s2 := s9) (y := v163) (k := 2) (x := mv_i υ 32 1) (by omega) m68 (by omega) (Or.inr rfl) rfl d101
        have hF := (hF.know v163.toNatClampNeg 2 (mv_i υ 32 1)).thing wi ce z9 s9
        refine mv_gen (fun S104 eS104 => ?_)
        rw [← eS104] at w2 hF
        have hend : TP 32 512 σ S104 n sz a := ⟨hF.wt, by rw [hF.2.1 24 (by decide)]; exact hM, th + 1, sl2, no, w2, Or.inr ⟨(mv_i υ 3 7).toInt.toNat, by omega, Or.inl ⟨(hF.1 2 6 (by decide)).trans hm0, s0, ns, hS.it hF hP (by rw [eS104]; show (mv_i υ 3 7).toInt = _; omega) (by rw [eS104]; exact hw) (by rw [eS104]; exact t8) (by omega) (by omega) (fun q => by rw [eS104] at q; exact hN q) (Nat.le_succ _)⟩⟩⟩
        clear eS104
        exact mv_vret (pc := 188) B hr d_Weaver_file_188 (Nat.le_refl _) (Nat.le_refl _) ⟨rfl, hend⟩
  have j116 : ∀ (υ : mv_H) (tk1 : Int32) (wi : Int32) (ce : Int32) (fl : Int32) (hR : Rw 32 (mv_r υ)) (hF : IF 32 σ υ) (hN : mv_i υ 21 0 = 0 → mv_i σ 21 0 = 0) (hW2 : WN 32 512 υ n th sl no) (t7 : 1 ≤ (mv_i υ 3 7).toInt ∧ (mv_i υ 3 7).toInt < sz ∧ a + 1 ≤ (mv_i υ 3 7).toInt) (t8 : (mv_i υ 3 8).toInt = (mv_i σ 3 8).toInt) (kp : mv_a υ 4 = mv_a σ 4) (k6 : mv_b υ 6 = mv_b σ 6) (sy16 : 0 ≤ (mv_b σ 6 tk1.toNatClampNeg).toInt ∧ (mv_b σ 6 tk1.toNatClampNeg).toInt < n) (b1 : 0 ≤ tk1.toInt ∧ tk1.toInt < sz) (hce : 0 ≤ ce.toInt ∧ ce.toInt ≤ 65536), mv_V p l e ({ frames := 3, cells := 0, slots := 0, locals := 68 }) s m ([.ref (al 2)] : List Value).toArray below meth c (mg dA D al ext) 5 0 0 (mv_Q (mg dA D al ext) below s 0 0 (mv_Rv (fun σ1 => TP 32 512 σ σ1 n sz a))) υ 116 [(2, .int wi), (3, .int ce), (4, .int fl), (1, .int tk1), (0, .ref (al 2))] [] := by
    intro υ tk1 wi ce fl hR hF hN hW2 t7 t8 kp k6 sy16 b1 hce
    refine mv_aload_n (pc := 116) B d_Weaver_file_116 rfl 4 rfl ?_
    refine mv_getR (pc := 117) (ci := 1) (C := R_Weaver) (T := F_Weaver) (N := 16) B 0 rfl rfl (by decide) i_Weaver (B.2.2.2.1 _ k_228) rfl (hR.1 _ 0 _ rfl) d_Weaver_file_117 ?_
    refine mv_bipush (pc := 120) (v := 59) B d_Weaver_file_120 (by decide) ?_
    refine mv_callVi (pc := 122) (n := 1) (ci := 2) (C := R_Tokens) B (mK_ok sk sv) hNs rfl rfl (c_Tokens_takeN l hi _ _ hR.1 (hG.2.2.1.wt hF.wt hP ht2) (by omega) (by omega) (by decide)) rfl (ma_goodc kc_Tokens_take) (B.2.2.2.1 _ k_1266) (B.2.2.2.1 _ k_1267) (B.2.2.2.1 _ k_1268) (B.2.2.2.1 _ k_3) ⟨by decide +kernel, by decide +kernel, by decide +kernel⟩ rfl d_Weaver_file_122 rfl (Nat.le_of_ble_eq_true rfl) ⟨by decide, by decide⟩ ⟨by decide, by decide⟩ ⟨by decide, by decide⟩ (mv_noH hno _) (fun v122 σ122 h122 => ?_)
    obtain ⟨a122, w122, e122, r122⟩ := h122
    have q122 := r122.1
    have z122 := fun q => (r122.2.1 q).1
    have y122 := And.intro r122.2.2.2.1 r122.2.2.2.2.1
    subst e122
    refine mv_gen (fun S125 eS125 => ?_)
    have hR : Rw 32 (mv_r S125) := by rw [eS125]; exact hR
    have hF : IF 32 σ S125 := by rw [eS125]; exact hF.tk3 _ _ _
    have hN : mv_i S125 21 0 = 0 → mv_i σ 21 0 = 0 := by rw [eS125]; exact hN
    have t7 : (mv_i S125 3 7).toInt = a122.toInt := by rw [eS125]; rfl
    have t8 : (mv_i S125 3 8).toInt = (mv_i σ 3 8).toInt := by rw [eS125]; first | exact t8 | exact (sub_one (by omega)).trans (by omega) | exact (i32_inc (by omega)).trans (by omega)
    have t9 : (mv_i S125 3 9).toInt = w122.toInt := by rw [eS125]; rfl
    have kp := Eq.trans (show mv_a S125 4 = mv_a _ 4 by rw [eS125]; rfl) kp
    have k6 := Eq.trans (show mv_b S125 6 = mv_b _ 6 by rw [eS125]; rfl) k6
    have hW2 : WN 32 512 S125 n th sl no := by rw [eS125]; exact hW2.tk3 hP _ _ _
    clear eS125
    refine mv_pop (pc := 125) B d_Weaver_file_125 rfl ?_
    refine mv_iload_n (pc := 126) B d_Weaver_file_126 rfl 0 rfl ?_
    refine mv_if_eq (pc := 127) (tgt := 134) B d_Weaver_file_127 rfl (fun h127 => ?_) (fun h127 => ?_)
    · skip
      refine mv_iconst (pc := 134) (v := 0) B d_Weaver_file_134 (by decide) ?_
      refine mv_istore_n (pc := 135) B d_Weaver_file_135 rfl (by decide) rfl ?_
      refine mv_iconst (pc := 136) (v := 0) B d_Weaver_file_136 (by decide) ?_
      refine mv_istore_n (pc := 137) B d_Weaver_file_137 rfl (by decide) rfl ?_
      refine mv_lpick [1, 0, 2, 3, 4] rfl ?_
      exact j138 _ _ _ _ _ hR hF hN hW2 (by omega) t8 kp k6 sy16 b1 (by first | exact hce | decide)
    · skip
      refine mv_iload_n (pc := 130) B d_Weaver_file_130 rfl 1 rfl ?_
      refine mv_if_ne (pc := 131) (tgt := 138) B d_Weaver_file_131 rfl (fun h131 => ?_) (fun h131 => ?_)
      · skip
        refine mv_lpick [0, 1, 2, 3, 4] rfl ?_
        exact j138 _ _ _ _ _ hR hF hN hW2 (by omega) t8 kp k6 sy16 b1 (by first | exact hce | decide)
      · skip
        refine mv_iconst (pc := 134) (v := 0) B d_Weaver_file_134 (by decide) ?_
        refine mv_istore_n (pc := 135) B d_Weaver_file_135 rfl (by decide) rfl ?_
        refine mv_iconst (pc := 136) (v := 0) B d_Weaver_file_136 (by decide) ?_
        refine mv_istore_n (pc := 137) B d_Weaver_file_137 rfl (by decide) rfl ?_
        refine mv_lpick [1, 0, 2, 3, 4] rfl ?_
        exact j138 _ _ _ _ _ hR hF hN hW2 (by omega) t8 kp k6 sy16 b1 (by first | exact hce | decide)
  have j98 : ∀ (υ : mv_H) (tk1 : Int32) (wi : Int32) (ce : Int32) (fl : Int32) (hR : Rw 32 (mv_r υ)) (hF : IF 32 σ υ) (hN : mv_i υ 21 0 = 0 → mv_i σ 21 0 = 0) (hW2 : WN 32 512 υ n th sl no) (t7 : 1 ≤ (mv_i υ 3 7).toInt ∧ (mv_i υ 3 7).toInt < sz ∧ a + 1 ≤ (mv_i υ 3 7).toInt) (t8 : (mv_i υ 3 8).toInt = (mv_i σ 3 8).toInt) (kp : mv_a υ 4 = mv_a σ 4) (k6 : mv_b υ 6 = mv_b σ 6) (sy16 : 0 ≤ (mv_b σ 6 tk1.toNatClampNeg).toInt ∧ (mv_b σ 6 tk1.toNatClampNeg).toInt < n) (b1 : 0 ≤ tk1.toInt ∧ tk1.toInt < sz) (hce : 0 ≤ ce.toInt ∧ ce.toInt ≤ 65536), mv_V p l e ({ frames := 3, cells := 0, slots := 0, locals := 68 }) s m ([.ref (al 2)] : List Value).toArray below meth c (mg dA D al ext) 5 0 0 (mv_Q (mg dA D al ext) below s 0 0 (mv_Rv (fun σ1 => TP 32 512 σ σ1 n sz a))) υ 98 [(2, .int wi), (3, .int ce), (1, .int tk1), (0, .ref (al 2))] [.int fl] := by
    intro υ tk1 wi ce fl hR hF hN hW2 t7 t8 kp k6 sy16 b1 hce
    refine mv_istore (pc := 98) B d_Weaver_file_98 (by decide) rfl ?_
    refine mv_iload (pc := 100) B d_Weaver_file_100 0 rfl ?_
    refine mv_if_eq (pc := 102) (tgt := 116) B d_Weaver_file_102 rfl (fun h102 => ?_) (fun h102 => ?_)
    · skip
      refine mv_lpick [1, 2, 0, 3, 4] rfl ?_
      exact j116 _ _ _ _ _ hR hF hN hW2 (by omega) t8 kp k6 sy16 b1 hce
    · skip
      refine mv_aload_n (pc := 105) B d_Weaver_file_105 rfl 4 rfl ?_
      refine mv_getR (pc := 106) (ci := 1) (C := R_Weaver) (T := F_Weaver) (N := 16) B 0 rfl rfl (by decide) i_Weaver (B.2.2.2.1 _ k_228) rfl (hR.1 _ 0 _ rfl) d_Weaver_file_106 ?_
      refine mv_sipush (pc := 109) (v := 203) B d_Weaver_file_109 (by decide) ?_
      refine mv_callVi (pc := 112) (n := 1) (ci := 2) (C := R_Tokens) B (mK_ok sk sv) hNs rfl rfl (c_Tokens_takeN l hi _ _ hR.1 (hG.2.2.1.wt hF.wt hP ht2) (by omega) (by omega) (by decide)) rfl (ma_goodc kc_Tokens_take) (B.2.2.2.1 _ k_1266) (B.2.2.2.1 _ k_1267) (B.2.2.2.1 _ k_1268) (B.2.2.2.1 _ k_3) ⟨by decide +kernel, by decide +kernel, by decide +kernel⟩ rfl d_Weaver_file_112 rfl (Nat.le_of_ble_eq_true rfl) ⟨by decide, by decide⟩ ⟨by decide, by decide⟩ ⟨by decide, by decide⟩ (mv_noH hno _) (fun v112 σ112 h112 => ?_)
      obtain ⟨a112, w112, e112, r112⟩ := h112
      have q112 := r112.1
      have z112 := fun q => (r112.2.1 q).1
      have y112 := And.intro r112.2.2.2.1 r112.2.2.2.2.1
      subst e112
      refine mv_gen (fun S115 eS115 => ?_)
      have hR : Rw 32 (mv_r S115) := by rw [eS115]; exact hR
      have hF : IF 32 σ S115 := by rw [eS115]; exact hF.tk3 _ _ _
      have hN : mv_i S115 21 0 = 0 → mv_i σ 21 0 = 0 := by rw [eS115]; exact hN
      have t7 : (mv_i S115 3 7).toInt = a112.toInt := by rw [eS115]; rfl
      have t8 : (mv_i S115 3 8).toInt = (mv_i σ 3 8).toInt := by rw [eS115]; first | exact t8 | exact (sub_one (by omega)).trans (by omega) | exact (i32_inc (by omega)).trans (by omega)
      have t9 : (mv_i S115 3 9).toInt = w112.toInt := by rw [eS115]; rfl
      have kp := Eq.trans (show mv_a S115 4 = mv_a _ 4 by rw [eS115]; rfl) kp
      have k6 := Eq.trans (show mv_b S115 6 = mv_b _ 6 by rw [eS115]; rfl) k6
      have hW2 : WN 32 512 S115 n th sl no := by rw [eS115]; exact hW2.tk3 hP _ _ _
      clear eS115
      refine mv_pop (pc := 115) B d_Weaver_file_115 rfl ?_
      refine mv_lpick [1, 2, 0, 3, 4] rfl ?_
      exact j116 _ _ _ _ _ hR hF hN hW2 (by omega) t8 kp k6 sy16 b1 hce
  refine mv_aload_n (pc := 0) B d_Weaver_file_0 rfl 0 rfl ?_
  refine mv_getR (pc := 1) (ci := 1) (C := R_Weaver) (T := F_Weaver) (N := 16) B 0 rfl rfl (by decide) i_Weaver (B.2.2.2.1 _ k_228) rfl (hR.1 _ 0 _ rfl) d_Weaver_file_1 ?_
  refine mv_sipush (pc := 4) (v := 202) B d_Weaver_file_4 (by decide) ?_
  refine mv_callVi (pc := 7) (n := 1) (ci := 2) (C := R_Tokens) B (mK_ok sk sv) hNs rfl rfl (c_Tokens_takeN l hi _ _ hR.1 (hG.2.2.1.wt hF.wt hP ht2) (by omega) (by omega) (by decide)) rfl (ma_goodc kc_Tokens_take) (B.2.2.2.1 _ k_1266) (B.2.2.2.1 _ k_1267) (B.2.2.2.1 _ k_1268) (B.2.2.2.1 _ k_3) ⟨by decide +kernel, by decide +kernel, by decide +kernel⟩ rfl d_Weaver_file_7 rfl (Nat.le_of_ble_eq_true rfl) ⟨by decide, by decide⟩ ⟨by decide, by decide⟩ ⟨by decide, by decide⟩ (mv_noH hno _) (fun v7 σ7 h7 => ?_)
  obtain ⟨a7, w7, e7, r7⟩ := h7
  have q7 := r7.1
  have z7 := fun q => (r7.2.1 q).1
  have y7 := And.intro r7.2.2.2.1 r7.2.2.2.2.1
  subst e7
  have hw7 := r7.2.2.1 hw9 hk3 trivial
  refine mv_gen (fun S10 eS10 => ?_)
  have hR : Rw 32 (mv_r S10) := by rw [eS10]; exact hR
  have hF : IF 32 σ S10 := by rw [eS10]; exact hF.tk3 _ _ _
  have hN : mv_i S10 21 0 = 0 → mv_i σ 21 0 = 0 := by rw [eS10]; exact hN
  have t7 : (mv_i S10 3 7).toInt = a7.toInt := by rw [eS10]; rfl
  have t8 : (mv_i S10 3 8).toInt = (mv_i σ 3 8).toInt := by rw [eS10]; first | exact t8 | exact (sub_one (by omega)).trans (by omega) | exact (i32_inc (by omega)).trans (by omega)
  have t9 : (mv_i S10 3 9).toInt = w7.toInt := by rw [eS10]; rfl
  have kp := Eq.trans (show mv_a S10 4 = mv_a _ 4 by rw [eS10]; rfl) kp
  have k6 := Eq.trans (show mv_b S10 6 = mv_b _ 6 by rw [eS10]; rfl) k6
  have hW2 := hW
  have hW2 : WN 32 512 S10 n th sl no := by rw [eS10]; exact hW2.tk3 hP _ _ _
  clear eS10
  refine mv_pop (pc := 10) B d_Weaver_file_10 rfl ?_
  refine mv_aload_n (pc := 11) B d_Weaver_file_11 rfl 0 rfl ?_
  refine mv_getR (pc := 12) (ci := 1) (C := R_Weaver) (T := F_Weaver) (N := 16) B 0 rfl rfl (by decide) i_Weaver (B.2.2.2.1 _ k_228) rfl (hR.1 _ 0 _ rfl) d_Weaver_file_12 ?_
  refine mv_iconst (pc := 15) (v := 3) B d_Weaver_file_15 (by decide) ?_
  refine mv_callVi (pc := 16) (n := 1) (ci := 2) (C := R_Tokens) B (mK_ok sk sv) hNs rfl rfl (c_Tokens_takeN l hi _ _ hR.1 (hG.2.2.1.wt hF.wt hP ht2) (by omega) (by omega) (by decide)) rfl (ma_goodc kc_Tokens_take) (B.2.2.2.1 _ k_1266) (B.2.2.2.1 _ k_1267) (B.2.2.2.1 _ k_1268) (B.2.2.2.1 _ k_3) ⟨by decide +kernel, by decide +kernel, by decide +kernel⟩ rfl d_Weaver_file_16 rfl (Nat.le_of_ble_eq_true rfl) ⟨by decide, by decide⟩ ⟨by decide, by decide⟩ ⟨by decide, by decide⟩ (mv_noH hno _) (fun v16 σ16 h16 => ?_)
  have kz := k6
  obtain ⟨a16, w16, e16, r16⟩ := h16
  have q16 := r16.1
  have z16 := fun q => (r16.2.1 q).1
  have y16 := And.intro r16.2.2.2.1 r16.2.2.2.2.1
  subst e16
  have sy16 := TkR.sym (hG.2.2.1.wt hF.wt hP ht2) r16
  refine mv_gen (fun S19 eS19 => ?_)
  have hR : Rw 32 (mv_r S19) := by rw [eS19]; exact hR
  have hF : IF 32 σ S19 := by rw [eS19]; exact hF.tk3 _ _ _
  have hN : mv_i S19 21 0 = 0 → mv_i σ 21 0 = 0 := by rw [eS19]; exact hN
  have t7 : (mv_i S19 3 7).toInt = a16.toInt := by rw [eS19]; rfl
  have t8 : (mv_i S19 3 8).toInt = (mv_i σ 3 8).toInt := by rw [eS19]; first | exact t8 | exact (sub_one (by omega)).trans (by omega) | exact (i32_inc (by omega)).trans (by omega)
  have t9 : (mv_i S19 3 9).toInt = w16.toInt := by rw [eS19]; rfl
  have kp := Eq.trans (show mv_a S19 4 = mv_a _ 4 by rw [eS19]; rfl) kp
  have k6 := Eq.trans (show mv_b S19 6 = mv_b _ 6 by rw [eS19]; rfl) k6
  have hW2 : WN 32 512 S19 n th sl no := by rw [eS19]; exact hW2.tk3 hP _ _ _
  have sy16 : 0 ≤ (mv_b σ 6 v16.toNatClampNeg).toInt ∧ (mv_b σ 6 v16.toNatClampNeg).toInt < n := by rw [← kz]; exact sy16
  clear eS19
  refine mv_istore_n (pc := 19) B d_Weaver_file_19 rfl (by decide) rfl ?_
  refine mv_aload_n (pc := 20) B d_Weaver_file_20 rfl 1 rfl ?_
  refine mv_getR (pc := 21) (ci := 1) (C := R_Weaver) (T := F_Weaver) (N := 16) B 0 rfl rfl (by decide) i_Weaver (B.2.2.2.1 _ k_228) rfl (hR.1 _ 0 _ rfl) d_Weaver_file_21 ?_
  refine mv_bipush (pc := 24) (v := 58) B d_Weaver_file_24 (by decide) ?_
  refine mv_callVi (pc := 26) (n := 1) (ci := 2) (C := R_Tokens) B (mK_ok sk sv) hNs rfl rfl (c_Tokens_takeN l hi _ _ hR.1 (hG.2.2.1.wt hF.wt hP ht2) (by omega) (by omega) (by decide)) rfl (ma_goodc kc_Tokens_take) (B.2.2.2.1 _ k_1266) (B.2.2.2.1 _ k_1267) (B.2.2.2.1 _ k_1268) (B.2.2.2.1 _ k_3) ⟨by decide +kernel, by decide +kernel, by decide +kernel⟩ rfl d_Weaver_file_26 rfl (Nat.le_of_ble_eq_true rfl) ⟨by decide, by decide⟩ ⟨by decide, by decide⟩ ⟨by decide, by decide⟩ (mv_noH hno _) (fun v26 σ26 h26 => ?_)
  obtain ⟨a26, w26, e26, r26⟩ := h26
  have q26 := r26.1
  have z26 := fun q => (r26.2.1 q).1
  have y26 := And.intro r26.2.2.2.1 r26.2.2.2.2.1
  subst e26
  refine mv_gen (fun S29 eS29 => ?_)
  have hR : Rw 32 (mv_r S29) := by rw [eS29]; exact hR
  have hF : IF 32 σ S29 := by rw [eS29]; exact hF.tk3 _ _ _
  have hN : mv_i S29 21 0 = 0 → mv_i σ 21 0 = 0 := by rw [eS29]; exact hN
  have t7 : (mv_i S29 3 7).toInt = a26.toInt := by rw [eS29]; rfl
  have t8 : (mv_i S29 3 8).toInt = (mv_i σ 3 8).toInt := by rw [eS29]; first | exact t8 | exact (sub_one (by omega)).trans (by omega) | exact (i32_inc (by omega)).trans (by omega)
  have t9 : (mv_i S29 3 9).toInt = w26.toInt := by rw [eS29]; rfl
  have kp := Eq.trans (show mv_a S29 4 = mv_a _ 4 by rw [eS29]; rfl) kp
  have k6 := Eq.trans (show mv_b S29 6 = mv_b _ 6 by rw [eS29]; rfl) k6
  have hW2 : WN 32 512 S29 n th sl no := by rw [eS29]; exact hW2.tk3 hP _ _ _
  clear eS29
  refine mv_pop (pc := 29) B d_Weaver_file_29 rfl ?_
  refine mv_aload_n (pc := 30) B d_Weaver_file_30 rfl 1 rfl ?_
  refine mv_aload_n (pc := 31) B d_Weaver_file_31 rfl 1 rfl ?_
  refine mv_getR (pc := 32) (ci := 1) (C := R_Weaver) (T := F_Weaver) (N := 16) B 0 rfl rfl (by decide) i_Weaver (B.2.2.2.1 _ k_228) rfl (hR.1 _ 0 _ rfl) d_Weaver_file_32 ?_
  refine mv_iconst (pc := 35) (v := 4) B d_Weaver_file_35 (by decide) ?_
  refine mv_callVi (pc := 36) (n := 1) (ci := 2) (C := R_Tokens) B (mK_ok sk sv) hNs rfl rfl (c_Tokens_takeN l hi _ _ hR.1 (hG.2.2.1.wt hF.wt hP ht2) (by omega) (by omega) (by decide)) rfl (ma_goodc kc_Tokens_take) (B.2.2.2.1 _ k_1266) (B.2.2.2.1 _ k_1267) (B.2.2.2.1 _ k_1268) (B.2.2.2.1 _ k_3) ⟨by decide +kernel, by decide +kernel, by decide +kernel⟩ rfl d_Weaver_file_36 rfl (Nat.le_of_ble_eq_true rfl) ⟨by decide, by decide⟩ ⟨by decide, by decide⟩ ⟨by decide, by decide⟩ (mv_noH hno _) (fun v36 σ36 h36 => ?_)
  obtain ⟨a36, w36, e36, r36⟩ := h36
  have q36 := r36.1
  have z36 := fun q => (r36.2.1 q).1
  have y36 := And.intro r36.2.2.2.1 r36.2.2.2.2.1
  subst e36
  refine mv_gen (fun S39 eS39 => ?_)
  have hR : Rw 32 (mv_r S39) := by rw [eS39]; exact hR
  have hF : IF 32 σ S39 := by rw [eS39]; exact hF.tk3 _ _ _
  have hN : mv_i S39 21 0 = 0 → mv_i σ 21 0 = 0 := by rw [eS39]; exact hN
  have t7 : (mv_i S39 3 7).toInt = a36.toInt := by rw [eS39]; rfl
  have t8 : (mv_i S39 3 8).toInt = (mv_i σ 3 8).toInt := by rw [eS39]; first | exact t8 | exact (sub_one (by omega)).trans (by omega) | exact (i32_inc (by omega)).trans (by omega)
  have t9 : (mv_i S39 3 9).toInt = w36.toInt := by rw [eS39]; rfl
  have kp := Eq.trans (show mv_a S39 4 = mv_a _ 4 by rw [eS39]; rfl) kp
  have k6 := Eq.trans (show mv_b S39 6 = mv_b _ 6 by rw [eS39]; rfl) k6
  have hW2 : WN 32 512 S39 n th sl no := by rw [eS39]; exact hW2.tk3 hP _ _ _
  clear eS39
  refine mv_bipush (pc := 39) (v := 64) B d_Weaver_file_39 (by decide) ?_
  refine mv_callVi (pc := 41) (n := 2) (ci := 1) (C := R_Weaver) B (mK_ok sk sv) hNs rfl rfl (c_Weaver_numberUpTo l hi _ _ _ hR.1 y36.1 (by omega) (by decide)) rfl (ma_goodc kc_Weaver_numberUpTo) (B.2.2.2.1 _ k_1304) (B.2.2.2.1 _ k_1306) (B.2.2.2.1 _ ks_35) (B.2.2.2.1 _ k_2) ⟨by decide +kernel, by decide +kernel, by decide +kernel⟩ rfl d_Weaver_file_41 rfl (Nat.le_of_ble_eq_true rfl) ⟨by decide, by decide⟩ ⟨by decide, by decide⟩ ⟨by decide, by decide⟩ (mv_noH hno _) (fun v41 σ41 h41 => ?_)
  obtain ⟨x41, y41, e41, z41, u41⟩ := num_n (by decide) h41
  subst e41
  refine mv_gen (fun S44 eS44 => ?_)
  have hR : Rw 32 (mv_r S44) := by rw [eS44]; exact hR
  have hF : IF 32 σ S44 := by rw [eS44]; exact hF.tell _ _
  have hN : mv_i S44 21 0 = 0 → mv_i σ 21 0 = 0 := by rw [eS44]; exact fun q => hN (z41 q)
  have t7 := Eq.trans (congrArg Int32.toInt (show mv_i S44 3 7 = mv_i _ 3 7 by rw [eS44]; rfl)) t7
  have t8 := Eq.trans (congrArg Int32.toInt (show mv_i S44 3 8 = mv_i _ 3 8 by rw [eS44]; rfl)) t8
  have t9 := Eq.trans (congrArg Int32.toInt (show mv_i S44 3 9 = mv_i _ 3 9 by rw [eS44]; rfl)) t9
  have kp := Eq.trans (show mv_a S44 4 = mv_a _ 4 by rw [eS44]; rfl) kp
  have k6 := Eq.trans (show mv_b S44 6 = mv_b _ 6 by rw [eS44]; rfl) k6
  have hW2 : WN 32 512 S44 n th sl no := by rw [eS44]; exact hW2.tell hP _ _
  clear eS44
  refine mv_istore_n (pc := 44) B d_Weaver_file_44 rfl (by decide) rfl ?_
  refine mv_aload_n (pc := 45) B d_Weaver_file_45 rfl 2 rfl ?_
  refine mv_getR (pc := 46) (ci := 1) (C := R_Weaver) (T := F_Weaver) (N := 16) B 0 rfl rfl (by decide) i_Weaver (B.2.2.2.1 _ k_228) rfl (hR.1 _ 0 _ rfl) d_Weaver_file_46 ?_
  refine mv_bipush (pc := 49) (v := 91) B d_Weaver_file_49 (by decide) ?_
  refine mv_callVi (pc := 51) (n := 1) (ci := 2) (C := R_Tokens) B (mK_ok sk sv) hNs rfl rfl (c_Tokens_takeN l hi _ _ hR.1 (hG.2.2.1.wt hF.wt hP ht2) (by omega) (by omega) (by decide)) rfl (ma_goodc kc_Tokens_take) (B.2.2.2.1 _ k_1266) (B.2.2.2.1 _ k_1267) (B.2.2.2.1 _ k_1268) (B.2.2.2.1 _ k_3) ⟨by decide +kernel, by decide +kernel, by decide +kernel⟩ rfl d_Weaver_file_51 rfl (Nat.le_of_ble_eq_true rfl) ⟨by decide, by decide⟩ ⟨by decide, by decide⟩ ⟨by decide, by decide⟩ (mv_noH hno _) (fun v51 σ51 h51 => ?_)
  obtain ⟨a51, w51, e51, r51⟩ := h51
  have q51 := r51.1
  have z51 := fun q => (r51.2.1 q).1
  have y51 := And.intro r51.2.2.2.1 r51.2.2.2.2.1
  subst e51
  refine mv_gen (fun S54 eS54 => ?_)
  have hR : Rw 32 (mv_r S54) := by rw [eS54]; exact hR
  have hF : IF 32 σ S54 := by rw [eS54]; exact hF.tk3 _ _ _
  have hN : mv_i S54 21 0 = 0 → mv_i σ 21 0 = 0 := by rw [eS54]; exact hN
  have t7 : (mv_i S54 3 7).toInt = a51.toInt := by rw [eS54]; rfl
  have t8 : (mv_i S54 3 8).toInt = (mv_i σ 3 8).toInt := by rw [eS54]; first | exact t8 | exact (sub_one (by omega)).trans (by omega) | exact (i32_inc (by omega)).trans (by omega)
  have t9 : (mv_i S54 3 9).toInt = w51.toInt := by rw [eS54]; rfl
  have kp := Eq.trans (show mv_a S54 4 = mv_a _ 4 by rw [eS54]; rfl) kp
  have k6 := Eq.trans (show mv_b S54 6 = mv_b _ 6 by rw [eS54]; rfl) k6
  have hW2 : WN 32 512 S54 n th sl no := by rw [eS54]; exact hW2.tk3 hP _ _ _
  clear eS54
  refine mv_pop (pc := 54) B d_Weaver_file_54 rfl ?_
  refine mv_aload_n (pc := 55) B d_Weaver_file_55 rfl 2 rfl ?_
  refine mv_aload_n (pc := 56) B d_Weaver_file_56 rfl 2 rfl ?_
  refine mv_getR (pc := 57) (ci := 1) (C := R_Weaver) (T := F_Weaver) (N := 16) B 0 rfl rfl (by decide) i_Weaver (B.2.2.2.1 _ k_228) rfl (hR.1 _ 0 _ rfl) d_Weaver_file_57 ?_
  refine mv_iconst (pc := 60) (v := 4) B d_Weaver_file_60 (by decide) ?_
  refine mv_callVi (pc := 61) (n := 1) (ci := 2) (C := R_Tokens) B (mK_ok sk sv) hNs rfl rfl (c_Tokens_takeN l hi _ _ hR.1 (hG.2.2.1.wt hF.wt hP ht2) (by omega) (by omega) (by decide)) rfl (ma_goodc kc_Tokens_take) (B.2.2.2.1 _ k_1266) (B.2.2.2.1 _ k_1267) (B.2.2.2.1 _ k_1268) (B.2.2.2.1 _ k_3) ⟨by decide +kernel, by decide +kernel, by decide +kernel⟩ rfl d_Weaver_file_61 rfl (Nat.le_of_ble_eq_true rfl) ⟨by decide, by decide⟩ ⟨by decide, by decide⟩ ⟨by decide, by decide⟩ (mv_noH hno _) (fun v61 σ61 h61 => ?_)
  obtain ⟨a61, w61, e61, r61⟩ := h61
  have q61 := r61.1
  have z61 := fun q => (r61.2.1 q).1
  have y61 := And.intro r61.2.2.2.1 r61.2.2.2.2.1
  subst e61
  refine mv_gen (fun S64 eS64 => ?_)
  have hR : Rw 32 (mv_r S64) := by rw [eS64]; exact hR
  have hF : IF 32 σ S64 := by rw [eS64]; exact hF.tk3 _ _ _
  have hN : mv_i S64 21 0 = 0 → mv_i σ 21 0 = 0 := by rw [eS64]; exact hN
  have t7 : (mv_i S64 3 7).toInt = a61.toInt := by rw [eS64]; rfl
  have t8 : (mv_i S64 3 8).toInt = (mv_i σ 3 8).toInt := by rw [eS64]; first | exact t8 | exact (sub_one (by omega)).trans (by omega) | exact (i32_inc (by omega)).trans (by omega)
  have t9 : (mv_i S64 3 9).toInt = w61.toInt := by rw [eS64]; rfl
  have kp := Eq.trans (show mv_a S64 4 = mv_a _ 4 by rw [eS64]; rfl) kp
  have k6 := Eq.trans (show mv_b S64 6 = mv_b _ 6 by rw [eS64]; rfl) k6
  have hW2 : WN 32 512 S64 n th sl no := by rw [eS64]; exact hW2.tk3 hP _ _ _
  clear eS64
  refine mv_ldc (pc := 64) (v := 65536) B (B.2.2.2.1 _ k_1324) d_Weaver_file_64 ?_
  refine mv_callVi (pc := 66) (n := 2) (ci := 1) (C := R_Weaver) B (mK_ok sk sv) hNs rfl rfl (c_Weaver_numberUpTo l hi _ _ _ hR.1 y61.1 (by omega) (by decide)) rfl (ma_goodc kc_Weaver_numberUpTo) (B.2.2.2.1 _ k_1304) (B.2.2.2.1 _ k_1306) (B.2.2.2.1 _ ks_35) (B.2.2.2.1 _ k_2) ⟨by decide +kernel, by decide +kernel, by decide +kernel⟩ rfl d_Weaver_file_66 rfl (Nat.le_of_ble_eq_true rfl) ⟨by decide, by decide⟩ ⟨by decide, by decide⟩ ⟨by decide, by decide⟩ (mv_noH hno _) (fun v66 σ66 h66 => ?_)
  obtain ⟨x66, y66, e66, z66, u66⟩ := num_n (by decide) h66
  subst e66
  have u66 : 0 ≤ v66.toInt ∧ v66.toInt ≤ 65536 := u66
  refine mv_gen (fun S69 eS69 => ?_)
  have hR : Rw 32 (mv_r S69) := by rw [eS69]; exact hR
  have hF : IF 32 σ S69 := by rw [eS69]; exact hF.tell _ _
  have hN : mv_i S69 21 0 = 0 → mv_i σ 21 0 = 0 := by rw [eS69]; exact fun q => hN (z66 q)
  have t7 := Eq.trans (congrArg Int32.toInt (show mv_i S69 3 7 = mv_i _ 3 7 by rw [eS69]; rfl)) t7
  have t8 := Eq.trans (congrArg Int32.toInt (show mv_i S69 3 8 = mv_i _ 3 8 by rw [eS69]; rfl)) t8
  have t9 := Eq.trans (congrArg Int32.toInt (show mv_i S69 3 9 = mv_i _ 3 9 by rw [eS69]; rfl)) t9
  have kp := Eq.trans (show mv_a S69 4 = mv_a _ 4 by rw [eS69]; rfl) kp
  have k6 := Eq.trans (show mv_b S69 6 = mv_b _ 6 by rw [eS69]; rfl) k6
  have hW2 : WN 32 512 S69 n th sl no := by rw [eS69]; exact hW2.tell hP _ _
  clear eS69
  refine mv_istore_n (pc := 69) B d_Weaver_file_69 rfl (by decide) rfl ?_
  refine mv_aload_n (pc := 70) B d_Weaver_file_70 rfl 3 rfl ?_
  refine mv_getR (pc := 71) (ci := 1) (C := R_Weaver) (T := F_Weaver) (N := 16) B 0 rfl rfl (by decide) i_Weaver (B.2.2.2.1 _ k_228) rfl (hR.1 _ 0 _ rfl) d_Weaver_file_71 ?_
  refine mv_bipush (pc := 74) (v := 93) B d_Weaver_file_74 (by decide) ?_
  refine mv_callVi (pc := 76) (n := 1) (ci := 2) (C := R_Tokens) B (mK_ok sk sv) hNs rfl rfl (c_Tokens_takeN l hi _ _ hR.1 (hG.2.2.1.wt hF.wt hP ht2) (by omega) (by omega) (by decide)) rfl (ma_goodc kc_Tokens_take) (B.2.2.2.1 _ k_1266) (B.2.2.2.1 _ k_1267) (B.2.2.2.1 _ k_1268) (B.2.2.2.1 _ k_3) ⟨by decide +kernel, by decide +kernel, by decide +kernel⟩ rfl d_Weaver_file_76 rfl (Nat.le_of_ble_eq_true rfl) ⟨by decide, by decide⟩ ⟨by decide, by decide⟩ ⟨by decide, by decide⟩ (mv_noH hno _) (fun v76 σ76 h76 => ?_)
  obtain ⟨a76, w76, e76, r76⟩ := h76
  have q76 := r76.1
  have z76 := fun q => (r76.2.1 q).1
  have y76 := And.intro r76.2.2.2.1 r76.2.2.2.2.1
  subst e76
  refine mv_gen (fun S79 eS79 => ?_)
  have hR : Rw 32 (mv_r S79) := by rw [eS79]; exact hR
  have hF : IF 32 σ S79 := by rw [eS79]; exact hF.tk3 _ _ _
  have hN : mv_i S79 21 0 = 0 → mv_i σ 21 0 = 0 := by rw [eS79]; exact hN
  have t7 : (mv_i S79 3 7).toInt = a76.toInt := by rw [eS79]; rfl
  have t8 : (mv_i S79 3 8).toInt = (mv_i σ 3 8).toInt := by rw [eS79]; first | exact t8 | exact (sub_one (by omega)).trans (by omega) | exact (i32_inc (by omega)).trans (by omega)
  have t9 : (mv_i S79 3 9).toInt = w76.toInt := by rw [eS79]; rfl
  have kp := Eq.trans (show mv_a S79 4 = mv_a _ 4 by rw [eS79]; rfl) kp
  have k6 := Eq.trans (show mv_b S79 6 = mv_b _ 6 by rw [eS79]; rfl) k6
  have hW2 : WN 32 512 S79 n th sl no := by rw [eS79]; exact hW2.tk3 hP _ _ _
  clear eS79
  refine mv_pop (pc := 79) B d_Weaver_file_79 rfl ?_
  refine mv_aload_n (pc := 80) B d_Weaver_file_80 rfl 3 rfl ?_
  refine mv_getR (pc := 81) (ci := 1) (C := R_Weaver) (T := F_Weaver) (N := 16) B 0 rfl rfl (by decide) i_Weaver (B.2.2.2.1 _ k_228) rfl (hR.1 _ 0 _ rfl) d_Weaver_file_81 ?_
  refine mv_callVi (pc := 84) (n := 0) (ci := 2) (C := R_Tokens) B (mK_ok sk sv) hNs rfl rfl (c_Tokens_kind l hi _ hR.1 (i32_in (by omega) (by omega))) rfl (ma_goodc kc_Tokens_kind) (B.2.2.2.1 _ k_1299) (B.2.2.2.1 _ k_1271) (B.2.2.2.1 _ k_1272) (B.2.2.2.1 _ k_3) ⟨by decide +kernel, by decide +kernel, by decide +kernel⟩ rfl d_Weaver_file_84 rfl (Nat.le_of_ble_eq_true rfl) ⟨by decide, by decide⟩ ⟨by decide, by decide⟩ ⟨by decide, by decide⟩ (mv_noH hno _) (fun v84 σ84 h84 => ?_)
  obtain ⟨e84, -⟩ := h84
  have e84 := e84.symm
  subst e84
  refine mv_sipush (pc := 87) (v := 203) B d_Weaver_file_87 (by decide) ?_
  refine mv_icmp_ne (pc := 90) (tgt := 97) B d_Weaver_file_90 rfl (fun h90 => ?_) (fun h90 => ?_)
  · skip
    refine mv_iconst (pc := 97) (v := 0) B d_Weaver_file_97 (by decide) ?_
    refine mv_lpick [1, 0, 2, 3] rfl ?_
    exact j98 _ _ _ _ _ hR hF hN hW2 (by omega) t8 kp k6 sy16 y16 u66
  · skip
    refine mv_iconst (pc := 93) (v := 1) B d_Weaver_file_93 (by decide) ?_
    refine mv_goto (pc := 94) (tgt := 98) B d_Weaver_file_94 rfl ?_
    refine mv_lpick [1, 0, 2, 3] rfl ?_
    exact j98 _ _ _ _ _ hR hF hN hW2 (by omega) t8 kp k6 sy16 y16 u66
set_option maxHeartbeats 4000000 in
set_option maxRecDepth 100000 in
theorem c_Weaver_file_b (l : Launch) {dA : FieldType → ClassId} {D : va_G} {al : Nat → Nat} {ext : mv_Sh} {sk sv : Nat → Nat} (hi : mv_inj (mg dA D al ext)) (σ : mv_H) {t tn len n z sz th sl s0 a ns no : Nat} (hG : WG 48 32768 512 ext σ t tn len n z sz) (hM : Mt (mv_a σ 24)) (hW : WN 48 512 σ n th sl no) (hS : WS 48 σ sz th s0 a ns no []) (hm0 : mv_i σ 2 6 = 0) (hk3 : mv_a σ 4 (mv_i σ 3 7).toNatClampNeg = 202) : mv_C l y_Weaver_file (Cond.code y_Weaver_file b_Weaver_file 5 (Option.none : Option Jvm.ClassFile.FieldType) :: ma) ({ frames := 3, cells := 0, slots := 0, locals := 68 }) (mg dA D al ext) (mK sk sv) [.ref (al 2)] σ (mv_Rv (fun σ1 => TP 48 512 σ σ1 n sz a)) := by
  refine mv_C.ofV (cc := b_Weaver_file) (nL := 5) (ret := (Option.none : Option Jvm.ClassFile.FieldType)) (by decide +kernel) rfl hi (Nat.le_of_ble_eq_true rfl) ?_
  intro p e s m below meth c B hNs hr hnm hno
  have hP : PQ 48 := by unfold PQ; omega
  have hR := hG.1
  have ht2 := hG.2.1.2.2.2.2.2.2
  have hF : IF 48 σ σ := Fr.rf
  have hN : mv_i σ 21 0 = 0 → mv_i σ 21 0 = 0 := fun q => q
  have hE := hG.2.2.1
  have hsz := hE.2.2.2.2.2
  have hsz2 := hE.2.2.2.1
  have hlen := hG.2.2.2.2.1
  have hlen2 := hG.2.2.2.2.2
  have t7 := hS.1.1
  have hw9 := hS.1.2.1
  have ha9 := hS.1.2.2.2.2.1
  have t9 : (mv_i σ 3 9).toInt = (mv_i σ 3 9).toInt := rfl
  have t8 : (mv_i σ 3 8).toInt = (mv_i σ 3 8).toInt := rfl
  have kp : mv_a σ 4 = mv_a σ 4 := rfl
  have k6 : mv_b σ 6 = mv_b σ 6 := rfl
  have hs5 := hS.1.2.2.2.2.2.1
  have hs6 := hS.1.2.2.2.2.2.2.1
  have hd8 := hS.1.2.2.1
  have hd9 := hS.1.2.2.2.1
  have j138 : ∀ (υ : mv_H) (tk1 : Int32) (wi : Int32) (ce : Int32) (fl : Int32) (hR : Rw 48 (mv_r υ)) (hF : IF 48 σ υ) (hN : mv_i υ 21 0 = 0 → mv_i σ 21 0 = 0) (hW2 : WN 48 512 υ n th sl no) (t7 : 1 ≤ (mv_i υ 3 7).toInt ∧ (mv_i υ 3 7).toInt < sz ∧ a + 1 ≤ (mv_i υ 3 7).toInt) (t8 : (mv_i υ 3 8).toInt = (mv_i σ 3 8).toInt) (kp : mv_a υ 4 = mv_a σ 4) (k6 : mv_b υ 6 = mv_b σ 6) (sy16 : 0 ≤ (mv_b σ 6 tk1.toNatClampNeg).toInt ∧ (mv_b σ 6 tk1.toNatClampNeg).toInt < n) (b1 : 0 ≤ tk1.toInt ∧ tk1.toInt < sz) (hce : 0 ≤ ce.toInt ∧ ce.toInt ≤ 65536), mv_V p l e ({ frames := 3, cells := 0, slots := 0, locals := 68 }) s m ([.ref (al 2)] : List Value).toArray below meth c (mg dA D al ext) 5 0 0 (mv_Q (mg dA D al ext) below s 0 0 (mv_Rv (fun σ1 => TP 48 512 σ σ1 n sz a))) υ 138 [(2, .int wi), (3, .int ce), (4, .int fl), (1, .int tk1), (0, .ref (al 2))] [] := by
    intro υ tk1 wi ce fl hR hF hN hW2 t7 t8 kp k6 sy16 b1 hce
    obtain ⟨ac, hac1, hac2, hac3⟩ := hW2.2.2.2.2.1
    refine mv_aload_n (pc := 138) B d_Weaver_file_138 rfl 4 rfl ?_
    refine mv_getR (pc := 139) (ci := 1) (C := R_Weaver) (T := F_Weaver) (N := 16) B 0 rfl rfl (by decide) i_Weaver (B.2.2.2.1 _ k_228) rfl (hR.1 _ 0 _ rfl) d_Weaver_file_139 ?_
    refine mv_callVi (pc := 142) (n := 0) (ci := 2) (C := R_Tokens) B (mK_ok sk sv) hNs rfl rfl (c_Tokens_right l hi _) rfl (ma_goodc kc_Tokens_right) (B.2.2.2.1 _ k_1291) (B.2.2.2.1 _ k_1292) (B.2.2.2.1 _ k_1293) (B.2.2.2.1 _ k_3) ⟨by decide +kernel, by decide +kernel, by decide +kernel⟩ rfl d_Weaver_file_142 rfl (Nat.le_of_ble_eq_true rfl) ⟨by decide, by decide⟩ ⟨by decide, by decide⟩ ⟨by decide, by decide⟩ (mv_noH hno _) (fun v142 σ142 h142 => ?_)
    obtain ⟨e59, z59⟩ := h142
    have e59 := e59.symm
    subst e59
    refine mv_if_eq (pc := 145) (tgt := 188) B d_Weaver_file_145 rfl (fun h145 => ?_) (fun h145 => ?_)
    · skip
      have hw : ¬ (mv_i υ 3 9).toInt < 0 := fun q => by rw [if_pos (lt0.mpr q)] at z59; rw [z59] at h145; exact absurd h145 (by decide)
      have hend : TP 48 512 σ υ n sz a := ⟨hF.wt, by rw [hF.2.1 24 (by decide)]; exact hM, th, sl, no, hW2, Or.inl (by omega)⟩
      exact mv_vret (pc := 188) B hr d_Weaver_file_188 (Nat.le_refl _) (Nat.le_refl _) ⟨rfl, hend⟩
    · skip
      have hw : (mv_i υ 3 9).toInt < 0 := Decidable.byContradiction fun q => h145 (by rw [z59, if_neg (fun z => q (lt0.mp z))])
      refine mv_aload_n (pc := 148) B d_Weaver_file_148 rfl 4 rfl ?_
      refine mv_iload_n (pc := 149) B d_Weaver_file_149 rfl 3 rfl ?_
      refine mv_iload_n (pc := 150) B d_Weaver_file_150 rfl 1 rfl ?_
      refine mv_callVi (pc := 151) (n := 2) (ci := 1) (C := R_Weaver) B (mK_ok sk sv) hNs rfl rfl (c_Weaver_isNew_b l hi _ _ _ hR (hG.2.2.1.wt hF.wt hP ht2) b1.1 b1.2 (by rw [k6]; exact sy16.1) (by rw [k6]; exact sy16.2) hW2.2.1 ac hac1 hac2 (by omega) (by omega)) rfl (ma_goodc kc_Weaver_isNew) (B.2.2.2.1 _ k_1308) (B.2.2.2.1 _ k_1310) (B.2.2.2.1 _ ks_36) (B.2.2.2.1 _ k_2) ⟨by decide +kernel, by decide +kernel, by decide +kernel⟩ rfl d_Weaver_file_151 rfl (Nat.le_of_ble_eq_true rfl) ⟨by decide, by decide⟩ ⟨by decide, by decide⟩ ⟨by decide, by decide⟩ (mv_noH hno _) (fun v151 σ151 h151 => ?_)
      refine mv_if_eq (pc := 154) (tgt := 188) B d_Weaver_file_154 rfl (fun h154 => ?_) (fun h154 => ?_)
      · skip
        have hend : TP 48 512 σ σ151 n sz a := by
          rcases h151 with ⟨-, x9, y9, q1, q2⟩ | ⟨q1, -⟩
          · subst q1
            have hF := hF.tell x9 y9
            exact ⟨hF.wt, by rw [hF.2.1 24 (by decide)]; exact hM, th, sl, no, hW2.tell hP _ _, Or.inr ⟨(mv_i υ 3 7).toInt.toNat, by omega, Or.inl ⟨(hF.1 2 6 (by decide)).trans hm0, s0, ns, hS.it hF hP (show (mv_i υ 3 7).toInt = _ by omega) hw t8 (by omega) (by omega) (fun q => absurd q q2) (Nat.le_refl _)⟩⟩⟩
          · rw [q1] at h154; exact absurd h154 (by decide)
        exact mv_vret (pc := 188) B hr d_Weaver_file_188 (Nat.le_refl _) (Nat.le_refl _) ⟨rfl, hend⟩
      · skip
        obtain ⟨-, e68, n68, m68⟩ := h151.resolve_left (fun q => h154 q.1)
        have e68 := e68.symm
        subst e68
        have hth := hW2.2.1.1
        have hn16 := hG.2.2.1.1.2.1
        have k21 := l2i_nn (x := mv_b υ 6 tk1.toNatClampNeg) (by rw [k6]; exact sy16.1) (by rw [k6]; omega)
        have k22 : (mv_b υ 6 tk1.toNatClampNeg).toInt = (mv_b σ 6 tk1.toNatClampNeg).toInt := by rw [k6]
        refine mv_aload_n (pc := 157) B d_Weaver_file_157 rfl 4 rfl ?_
        refine mv_getR (pc := 158) (ci := 1) (C := R_Weaver) (T := F_Weaver) (N := 16) B 1 rfl rfl (by decide) i_Weaver (B.2.2.2.1 _ k_229) rfl (hR.1 _ 1 _ rfl) d_Weaver_file_158 ?_
        refine mv_aload_n (pc := 161) B d_Weaver_file_161 rfl 4 rfl ?_
        refine mv_iload_n (pc := 162) B d_Weaver_file_162 rfl 3 rfl ?_
        refine mv_callVi (pc := 163) (n := 1) (ci := 1) (C := R_Weaver) B (mK_ok sk sv) hNs rfl rfl (c_Weaver_symbolOf l hi _ _ hR.1 b1.1 (by omega)) rfl (ma_goodc kc_Weaver_symbolOf) (B.2.2.2.1 _ k_1312) (B.2.2.2.1 _ k_1314) (B.2.2.2.1 _ ks_37) (B.2.2.2.1 _ k_2) ⟨by decide +kernel, by decide +kernel, by decide +kernel⟩ rfl d_Weaver_file_163 rfl (Nat.le_of_ble_eq_true rfl) ⟨by decide, by decide⟩ ⟨by decide, by decide⟩ ⟨by decide, by decide⟩ (mv_noH hno _) (fun v163 σ163 h163 => ?_)
        obtain ⟨e80, z80⟩ := h163
        have e80 := e80.symm
        subst e80
        have z81 : v163.toInt = (mv_b υ 6 tk1.toNatClampNeg).toInt := by rw [z80]; exact k21
        refine mv_iconst (pc := 166) (v := 2) B d_Weaver_file_166 (by decide) ?_
        refine mv_aload_n (pc := 167) B d_Weaver_file_167 rfl 4 rfl ?_
        refine mv_getR (pc := 168) (ci := 1) (C := R_Weaver) (T := F_Weaver) (N := 16) B 5 rfl rfl (by decide) i_Weaver (B.2.2.2.1 _ k_235) rfl hR.2.2.1 d_Weaver_file_168 ?_
        refine mv_getI (pc := 171) (ci := 7) (C := R_Program) (T := F_Program) (N := 19) B 1 rfl rfl (by decide) i_Program (B.2.2.2.1 _ k_316) rfl d_Weaver_file_171 ?_
        refine mv_callVv (pc := 174) (n := 3) (ci := 4) (C := R_Names) B (mK_ok sk sv) hNs rfl rfl (c_Names_know l hi _ _ _ _ hR.1 (by omega) (by omega)) rfl (ma_goodc kc_Names_know) (B.2.2.2.1 _ k_1325) (B.2.2.2.1 _ k_1326) (B.2.2.2.1 _ k_1327) (B.2.2.2.1 _ k_5) ⟨by decide +kernel, by decide +kernel, by decide +kernel⟩ rfl d_Weaver_file_174 rfl (Nat.le_of_ble_eq_true rfl) ⟨by decide, by decide⟩ ⟨by decide, by decide⟩ ⟨by decide, by decide⟩ (mv_noH hno _) (fun σ174 h174 => ?_)
        subst h174
        refine mv_aload_n (pc := 177) B d_Weaver_file_177 rfl 4 rfl ?_
        refine mv_getR (pc := 178) (ci := 1) (C := R_Weaver) (T := F_Weaver) (N := 16) B 5 rfl rfl (by decide) i_Weaver (B.2.2.2.1 _ k_235) rfl hR.2.2.1 d_Weaver_file_178 ?_
        refine mv_iload_n (pc := 181) B d_Weaver_file_181 rfl 0 rfl ?_
        refine mv_iload_n (pc := 182) B d_Weaver_file_182 rfl 1 rfl ?_
        refine mv_iload (pc := 183) B d_Weaver_file_183 2 rfl ?_
        refine mv_callVv (pc := 185) (n := 3) (ci := 7) (C := R_Program) B (mK_ok sk sv) hNs rfl rfl (c_Program_addThing_b l hi _ _ _ _ hR.2.1 (show 0 ≤ (mv_i υ 48 1).toInt by omega) (show (mv_i υ 48 1).toInt < 64 by omega)) rfl (ma_goodc kc_Program_addThing) (B.2.2.2.1 _ k_1329) (B.2.2.2.1 _ k_1330) (B.2.2.2.1 _ k_1331) (B.2.2.2.1 _ k_8) ⟨by decide +kernel, by decide +kernel, by decide +kernel⟩ rfl d_Weaver_file_185 rfl (Nat.le_of_ble_eq_true rfl) ⟨by decide, by decide⟩ ⟨by decide, by decide⟩ ⟨by decide, by decide⟩ (mv_noH hno _) (fun σ185 h185 => ?_)
        obtain ⟨z9, s9, e101, d101⟩ := h185
        subst e101
        obtain ⟨sl2, w2⟩ := hW2.thing hP n68 hac1 (w := wi) (c := ce) (z := z9) (s2 := s9) (y := v163) (k := 2) (x := mv_i υ 48 1) (by omega) m68 (by omega) (Or.inr rfl) rfl d101
        have hF := (hF.know v163.toNatClampNeg 2 (mv_i υ 48 1)).thing wi ce z9 s9
        refine mv_gen (fun S104 eS104 => ?_)
        rw [← eS104] at w2 hF
        have hend : TP 48 512 σ S104 n sz a := ⟨hF.wt, by rw [hF.2.1 24 (by decide)]; exact hM, th + 1, sl2, no, w2, Or.inr ⟨(mv_i υ 3 7).toInt.toNat, by omega, Or.inl ⟨(hF.1 2 6 (by decide)).trans hm0, s0, ns, hS.it hF hP (by rw [eS104]; show (mv_i υ 3 7).toInt = _; omega) (by rw [eS104]; exact hw) (by rw [eS104]; exact t8) (by omega) (by omega) (fun q => by rw [eS104] at q; exact hN q) (Nat.le_succ _)⟩⟩⟩
        clear eS104
        exact mv_vret (pc := 188) B hr d_Weaver_file_188 (Nat.le_refl _) (Nat.le_refl _) ⟨rfl, hend⟩
  have j116 : ∀ (υ : mv_H) (tk1 : Int32) (wi : Int32) (ce : Int32) (fl : Int32) (hR : Rw 48 (mv_r υ)) (hF : IF 48 σ υ) (hN : mv_i υ 21 0 = 0 → mv_i σ 21 0 = 0) (hW2 : WN 48 512 υ n th sl no) (t7 : 1 ≤ (mv_i υ 3 7).toInt ∧ (mv_i υ 3 7).toInt < sz ∧ a + 1 ≤ (mv_i υ 3 7).toInt) (t8 : (mv_i υ 3 8).toInt = (mv_i σ 3 8).toInt) (kp : mv_a υ 4 = mv_a σ 4) (k6 : mv_b υ 6 = mv_b σ 6) (sy16 : 0 ≤ (mv_b σ 6 tk1.toNatClampNeg).toInt ∧ (mv_b σ 6 tk1.toNatClampNeg).toInt < n) (b1 : 0 ≤ tk1.toInt ∧ tk1.toInt < sz) (hce : 0 ≤ ce.toInt ∧ ce.toInt ≤ 65536), mv_V p l e ({ frames := 3, cells := 0, slots := 0, locals := 68 }) s m ([.ref (al 2)] : List Value).toArray below meth c (mg dA D al ext) 5 0 0 (mv_Q (mg dA D al ext) below s 0 0 (mv_Rv (fun σ1 => TP 48 512 σ σ1 n sz a))) υ 116 [(2, .int wi), (3, .int ce), (4, .int fl), (1, .int tk1), (0, .ref (al 2))] [] := by
    intro υ tk1 wi ce fl hR hF hN hW2 t7 t8 kp k6 sy16 b1 hce
    refine mv_aload_n (pc := 116) B d_Weaver_file_116 rfl 4 rfl ?_
    refine mv_getR (pc := 117) (ci := 1) (C := R_Weaver) (T := F_Weaver) (N := 16) B 0 rfl rfl (by decide) i_Weaver (B.2.2.2.1 _ k_228) rfl (hR.1 _ 0 _ rfl) d_Weaver_file_117 ?_
    refine mv_bipush (pc := 120) (v := 59) B d_Weaver_file_120 (by decide) ?_
    refine mv_callVi (pc := 122) (n := 1) (ci := 2) (C := R_Tokens) B (mK_ok sk sv) hNs rfl rfl (c_Tokens_takeN l hi _ _ hR.1 (hG.2.2.1.wt hF.wt hP ht2) (by omega) (by omega) (by decide)) rfl (ma_goodc kc_Tokens_take) (B.2.2.2.1 _ k_1266) (B.2.2.2.1 _ k_1267) (B.2.2.2.1 _ k_1268) (B.2.2.2.1 _ k_3) ⟨by decide +kernel, by decide +kernel, by decide +kernel⟩ rfl d_Weaver_file_122 rfl (Nat.le_of_ble_eq_true rfl) ⟨by decide, by decide⟩ ⟨by decide, by decide⟩ ⟨by decide, by decide⟩ (mv_noH hno _) (fun v122 σ122 h122 => ?_)
    obtain ⟨a122, w122, e122, r122⟩ := h122
    have q122 := r122.1
    have z122 := fun q => (r122.2.1 q).1
    have y122 := And.intro r122.2.2.2.1 r122.2.2.2.2.1
    subst e122
    refine mv_gen (fun S125 eS125 => ?_)
    have hR : Rw 48 (mv_r S125) := by rw [eS125]; exact hR
    have hF : IF 48 σ S125 := by rw [eS125]; exact hF.tk3 _ _ _
    have hN : mv_i S125 21 0 = 0 → mv_i σ 21 0 = 0 := by rw [eS125]; exact hN
    have t7 : (mv_i S125 3 7).toInt = a122.toInt := by rw [eS125]; rfl
    have t8 : (mv_i S125 3 8).toInt = (mv_i σ 3 8).toInt := by rw [eS125]; first | exact t8 | exact (sub_one (by omega)).trans (by omega) | exact (i32_inc (by omega)).trans (by omega)
    have t9 : (mv_i S125 3 9).toInt = w122.toInt := by rw [eS125]; rfl
    have kp := Eq.trans (show mv_a S125 4 = mv_a _ 4 by rw [eS125]; rfl) kp
    have k6 := Eq.trans (show mv_b S125 6 = mv_b _ 6 by rw [eS125]; rfl) k6
    have hW2 : WN 48 512 S125 n th sl no := by rw [eS125]; exact hW2.tk3 hP _ _ _
    clear eS125
    refine mv_pop (pc := 125) B d_Weaver_file_125 rfl ?_
    refine mv_iload_n (pc := 126) B d_Weaver_file_126 rfl 0 rfl ?_
    refine mv_if_eq (pc := 127) (tgt := 134) B d_Weaver_file_127 rfl (fun h127 => ?_) (fun h127 => ?_)
    · skip
      refine mv_iconst (pc := 134) (v := 0) B d_Weaver_file_134 (by decide) ?_
      refine mv_istore_n (pc := 135) B d_Weaver_file_135 rfl (by decide) rfl ?_
      refine mv_iconst (pc := 136) (v := 0) B d_Weaver_file_136 (by decide) ?_
      refine mv_istore_n (pc := 137) B d_Weaver_file_137 rfl (by decide) rfl ?_
      refine mv_lpick [1, 0, 2, 3, 4] rfl ?_
      exact j138 _ _ _ _ _ hR hF hN hW2 (by omega) t8 kp k6 sy16 b1 (by first | exact hce | decide)
    · skip
      refine mv_iload_n (pc := 130) B d_Weaver_file_130 rfl 1 rfl ?_
      refine mv_if_ne (pc := 131) (tgt := 138) B d_Weaver_file_131 rfl (fun h131 => ?_) (fun h131 => ?_)
      · skip
        refine mv_lpick [0, 1, 2, 3, 4] rfl ?_
        exact j138 _ _ _ _ _ hR hF hN hW2 (by omega) t8 kp k6 sy16 b1 (by first | exact hce | decide)
      · skip
        refine mv_iconst (pc := 134) (v := 0) B d_Weaver_file_134 (by decide) ?_
        refine mv_istore_n (pc := 135) B d_Weaver_file_135 rfl (by decide) rfl ?_
        refine mv_iconst (pc := 136) (v := 0) B d_Weaver_file_136 (by decide) ?_
        refine mv_istore_n (pc := 137) B d_Weaver_file_137 rfl (by decide) rfl ?_
        refine mv_lpick [1, 0, 2, 3, 4] rfl ?_
        exact j138 _ _ _ _ _ hR hF hN hW2 (by omega) t8 kp k6 sy16 b1 (by first | exact hce | decide)
  have j98 : ∀ (υ : mv_H) (tk1 : Int32) (wi : Int32) (ce : Int32) (fl : Int32) (hR : Rw 48 (mv_r υ)) (hF : IF 48 σ υ) (hN : mv_i υ 21 0 = 0 → mv_i σ 21 0 = 0) (hW2 : WN 48 512 υ n th sl no) (t7 : 1 ≤ (mv_i υ 3 7).toInt ∧ (mv_i υ 3 7).toInt < sz ∧ a + 1 ≤ (mv_i υ 3 7).toInt) (t8 : (mv_i υ 3 8).toInt = (mv_i σ 3 8).toInt) (kp : mv_a υ 4 = mv_a σ 4) (k6 : mv_b υ 6 = mv_b σ 6) (sy16 : 0 ≤ (mv_b σ 6 tk1.toNatClampNeg).toInt ∧ (mv_b σ 6 tk1.toNatClampNeg).toInt < n) (b1 : 0 ≤ tk1.toInt ∧ tk1.toInt < sz) (hce : 0 ≤ ce.toInt ∧ ce.toInt ≤ 65536), mv_V p l e ({ frames := 3, cells := 0, slots := 0, locals := 68 }) s m ([.ref (al 2)] : List Value).toArray below meth c (mg dA D al ext) 5 0 0 (mv_Q (mg dA D al ext) below s 0 0 (mv_Rv (fun σ1 => TP 48 512 σ σ1 n sz a))) υ 98 [(2, .int wi), (3, .int ce), (1, .int tk1), (0, .ref (al 2))] [.int fl] := by
    intro υ tk1 wi ce fl hR hF hN hW2 t7 t8 kp k6 sy16 b1 hce
    refine mv_istore (pc := 98) B d_Weaver_file_98 (by decide) rfl ?_
    refine mv_iload (pc := 100) B d_Weaver_file_100 0 rfl ?_
    refine mv_if_eq (pc := 102) (tgt := 116) B d_Weaver_file_102 rfl (fun h102 => ?_) (fun h102 => ?_)
    · skip
      refine mv_lpick [1, 2, 0, 3, 4] rfl ?_
      exact j116 _ _ _ _ _ hR hF hN hW2 (by omega) t8 kp k6 sy16 b1 hce
    · skip
      refine mv_aload_n (pc := 105) B d_Weaver_file_105 rfl 4 rfl ?_
      refine mv_getR (pc := 106) (ci := 1) (C := R_Weaver) (T := F_Weaver) (N := 16) B 0 rfl rfl (by decide) i_Weaver (B.2.2.2.1 _ k_228) rfl (hR.1 _ 0 _ rfl) d_Weaver_file_106 ?_
      refine mv_sipush (pc := 109) (v := 203) B d_Weaver_file_109 (by decide) ?_
      refine mv_callVi (pc := 112) (n := 1) (ci := 2) (C := R_Tokens) B (mK_ok sk sv) hNs rfl rfl (c_Tokens_takeN l hi _ _ hR.1 (hG.2.2.1.wt hF.wt hP ht2) (by omega) (by omega) (by decide)) rfl (ma_goodc kc_Tokens_take) (B.2.2.2.1 _ k_1266) (B.2.2.2.1 _ k_1267) (B.2.2.2.1 _ k_1268) (B.2.2.2.1 _ k_3) ⟨by decide +kernel, by decide +kernel, by decide +kernel⟩ rfl d_Weaver_file_112 rfl (Nat.le_of_ble_eq_true rfl) ⟨by decide, by decide⟩ ⟨by decide, by decide⟩ ⟨by decide, by decide⟩ (mv_noH hno _) (fun v112 σ112 h112 => ?_)
      obtain ⟨a112, w112, e112, r112⟩ := h112
      have q112 := r112.1
      have z112 := fun q => (r112.2.1 q).1
      have y112 := And.intro r112.2.2.2.1 r112.2.2.2.2.1
      subst e112
      refine mv_gen (fun S115 eS115 => ?_)
      have hR : Rw 48 (mv_r S115) := by rw [eS115]; exact hR
      have hF : IF 48 σ S115 := by rw [eS115]; exact hF.tk3 _ _ _
      have hN : mv_i S115 21 0 = 0 → mv_i σ 21 0 = 0 := by rw [eS115]; exact hN
      have t7 : (mv_i S115 3 7).toInt = a112.toInt := by rw [eS115]; rfl
      have t8 : (mv_i S115 3 8).toInt = (mv_i σ 3 8).toInt := by rw [eS115]; first | exact t8 | exact (sub_one (by omega)).trans (by omega) | exact (i32_inc (by omega)).trans (by omega)
      have t9 : (mv_i S115 3 9).toInt = w112.toInt := by rw [eS115]; rfl
      have kp := Eq.trans (show mv_a S115 4 = mv_a _ 4 by rw [eS115]; rfl) kp
      have k6 := Eq.trans (show mv_b S115 6 = mv_b _ 6 by rw [eS115]; rfl) k6
      have hW2 : WN 48 512 S115 n th sl no := by rw [eS115]; exact hW2.tk3 hP _ _ _
      clear eS115
      refine mv_pop (pc := 115) B d_Weaver_file_115 rfl ?_
      refine mv_lpick [1, 2, 0, 3, 4] rfl ?_
      exact j116 _ _ _ _ _ hR hF hN hW2 (by omega) t8 kp k6 sy16 b1 hce
  refine mv_aload_n (pc := 0) B d_Weaver_file_0 rfl 0 rfl ?_
  refine mv_getR (pc := 1) (ci := 1) (C := R_Weaver) (T := F_Weaver) (N := 16) B 0 rfl rfl (by decide) i_Weaver (B.2.2.2.1 _ k_228) rfl (hR.1 _ 0 _ rfl) d_Weaver_file_1 ?_
  refine mv_sipush (pc := 4) (v := 202) B d_Weaver_file_4 (by decide) ?_
  refine mv_callVi (pc := 7) (n := 1) (ci := 2) (C := R_Tokens) B (mK_ok sk sv) hNs rfl rfl (c_Tokens_takeN l hi _ _ hR.1 (hG.2.2.1.wt hF.wt hP ht2) (by omega) (by omega) (by decide)) rfl (ma_goodc kc_Tokens_take) (B.2.2.2.1 _ k_1266) (B.2.2.2.1 _ k_1267) (B.2.2.2.1 _ k_1268) (B.2.2.2.1 _ k_3) ⟨by decide +kernel, by decide +kernel, by decide +kernel⟩ rfl d_Weaver_file_7 rfl (Nat.le_of_ble_eq_true rfl) ⟨by decide, by decide⟩ ⟨by decide, by decide⟩ ⟨by decide, by decide⟩ (mv_noH hno _) (fun v7 σ7 h7 => ?_)
  obtain ⟨a7, w7, e7, r7⟩ := h7
  have q7 := r7.1
  have z7 := fun q => (r7.2.1 q).1
  have y7 := And.intro r7.2.2.2.1 r7.2.2.2.2.1
  subst e7
  have hw7 := r7.2.2.1 hw9 hk3 trivial
  refine mv_gen (fun S10 eS10 => ?_)
  have hR : Rw 48 (mv_r S10) := by rw [eS10]; exact hR
  have hF : IF 48 σ S10 := by rw [eS10]; exact hF.tk3 _ _ _
  have hN : mv_i S10 21 0 = 0 → mv_i σ 21 0 = 0 := by rw [eS10]; exact hN
  have t7 : (mv_i S10 3 7).toInt = a7.toInt := by rw [eS10]; rfl
  have t8 : (mv_i S10 3 8).toInt = (mv_i σ 3 8).toInt := by rw [eS10]; first | exact t8 | exact (sub_one (by omega)).trans (by omega) | exact (i32_inc (by omega)).trans (by omega)
  have t9 : (mv_i S10 3 9).toInt = w7.toInt := by rw [eS10]; rfl
  have kp := Eq.trans (show mv_a S10 4 = mv_a _ 4 by rw [eS10]; rfl) kp
  have k6 := Eq.trans (show mv_b S10 6 = mv_b _ 6 by rw [eS10]; rfl) k6
  have hW2 := hW
  have hW2 : WN 48 512 S10 n th sl no := by rw [eS10]; exact hW2.tk3 hP _ _ _
  clear eS10
  refine mv_pop (pc := 10) B d_Weaver_file_10 rfl ?_
  refine mv_aload_n (pc := 11) B d_Weaver_file_11 rfl 0 rfl ?_
  refine mv_getR (pc := 12) (ci := 1) (C := R_Weaver) (T := F_Weaver) (N := 16) B 0 rfl rfl (by decide) i_Weaver (B.2.2.2.1 _ k_228) rfl (hR.1 _ 0 _ rfl) d_Weaver_file_12 ?_
  refine mv_iconst (pc := 15) (v := 3) B d_Weaver_file_15 (by decide) ?_
  refine mv_callVi (pc := 16) (n := 1) (ci := 2) (C := R_Tokens) B (mK_ok sk sv) hNs rfl rfl (c_Tokens_takeN l hi _ _ hR.1 (hG.2.2.1.wt hF.wt hP ht2) (by omega) (by omega) (by decide)) rfl (ma_goodc kc_Tokens_take) (B.2.2.2.1 _ k_1266) (B.2.2.2.1 _ k_1267) (B.2.2.2.1 _ k_1268) (B.2.2.2.1 _ k_3) ⟨by decide +kernel, by decide +kernel, by decide +kernel⟩ rfl d_Weaver_file_16 rfl (Nat.le_of_ble_eq_true rfl) ⟨by decide, by decide⟩ ⟨by decide, by decide⟩ ⟨by decide, by decide⟩ (mv_noH hno _) (fun v16 σ16 h16 => ?_)
  have kz := k6
  obtain ⟨a16, w16, e16, r16⟩ := h16
  have q16 := r16.1
  have z16 := fun q => (r16.2.1 q).1
  have y16 := And.intro r16.2.2.2.1 r16.2.2.2.2.1
  subst e16
  have sy16 := TkR.sym (hG.2.2.1.wt hF.wt hP ht2) r16
  refine mv_gen (fun S19 eS19 => ?_)
  have hR : Rw 48 (mv_r S19) := by rw [eS19]; exact hR
  have hF : IF 48 σ S19 := by rw [eS19]; exact hF.tk3 _ _ _
  have hN : mv_i S19 21 0 = 0 → mv_i σ 21 0 = 0 := by rw [eS19]; exact hN
  have t7 : (mv_i S19 3 7).toInt = a16.toInt := by rw [eS19]; rfl
  have t8 : (mv_i S19 3 8).toInt = (mv_i σ 3 8).toInt := by rw [eS19]; first | exact t8 | exact (sub_one (by omega)).trans (by omega) | exact (i32_inc (by omega)).trans (by omega)
  have t9 : (mv_i S19 3 9).toInt = w16.toInt := by rw [eS19]; rfl
  have kp := Eq.trans (show mv_a S19 4 = mv_a _ 4 by rw [eS19]; rfl) kp
  have k6 := Eq.trans (show mv_b S19 6 = mv_b _ 6 by rw [eS19]; rfl) k6
  have hW2 : WN 48 512 S19 n th sl no := by rw [eS19]; exact hW2.tk3 hP _ _ _
  have sy16 : 0 ≤ (mv_b σ 6 v16.toNatClampNeg).toInt ∧ (mv_b σ 6 v16.toNatClampNeg).toInt < n := by rw [← kz]; exact sy16
  clear eS19
  refine mv_istore_n (pc := 19) B d_Weaver_file_19 rfl (by decide) rfl ?_
  refine mv_aload_n (pc := 20) B d_Weaver_file_20 rfl 1 rfl ?_
  refine mv_getR (pc := 21) (ci := 1) (C := R_Weaver) (T := F_Weaver) (N := 16) B 0 rfl rfl (by decide) i_Weaver (B.2.2.2.1 _ k_228) rfl (hR.1 _ 0 _ rfl) d_Weaver_file_21 ?_
  refine mv_bipush (pc := 24) (v := 58) B d_Weaver_file_24 (by decide) ?_
  refine mv_callVi (pc := 26) (n := 1) (ci := 2) (C := R_Tokens) B (mK_ok sk sv) hNs rfl rfl (c_Tokens_takeN l hi _ _ hR.1 (hG.2.2.1.wt hF.wt hP ht2) (by omega) (by omega) (by decide)) rfl (ma_goodc kc_Tokens_take) (B.2.2.2.1 _ k_1266) (B.2.2.2.1 _ k_1267) (B.2.2.2.1 _ k_1268) (B.2.2.2.1 _ k_3) ⟨by decide +kernel, by decide +kernel, by decide +kernel⟩ rfl d_Weaver_file_26 rfl (Nat.le_of_ble_eq_true rfl) ⟨by decide, by decide⟩ ⟨by decide, by decide⟩ ⟨by decide, by decide⟩ (mv_noH hno _) (fun v26 σ26 h26 => ?_)
  obtain ⟨a26, w26, e26, r26⟩ := h26
  have q26 := r26.1
  have z26 := fun q => (r26.2.1 q).1
  have y26 := And.intro r26.2.2.2.1 r26.2.2.2.2.1
  subst e26
  refine mv_gen (fun S29 eS29 => ?_)
  have hR : Rw 48 (mv_r S29) := by rw [eS29]; exact hR
  have hF : IF 48 σ S29 := by rw [eS29]; exact hF.tk3 _ _ _
  have hN : mv_i S29 21 0 = 0 → mv_i σ 21 0 = 0 := by rw [eS29]; exact hN
  have t7 : (mv_i S29 3 7).toInt = a26.toInt := by rw [eS29]; rfl
  have t8 : (mv_i S29 3 8).toInt = (mv_i σ 3 8).toInt := by rw [eS29]; first | exact t8 | exact (sub_one (by omega)).trans (by omega) | exact (i32_inc (by omega)).trans (by omega)
  have t9 : (mv_i S29 3 9).toInt = w26.toInt := by rw [eS29]; rfl
  have kp := Eq.trans (show mv_a S29 4 = mv_a _ 4 by rw [eS29]; rfl) kp
  have k6 := Eq.trans (show mv_b S29 6 = mv_b _ 6 by rw [eS29]; rfl) k6
  have hW2 : WN 48 512 S29 n th sl no := by rw [eS29]; exact hW2.tk3 hP _ _ _
  clear eS29
  refine mv_pop (pc := 29) B d_Weaver_file_29 rfl ?_
  refine mv_aload_n (pc := 30) B d_Weaver_file_30 rfl 1 rfl ?_
  refine mv_aload_n (pc := 31) B d_Weaver_file_31 rfl 1 rfl ?_
  refine mv_getR (pc := 32) (ci := 1) (C := R_Weaver) (T := F_Weaver) (N := 16) B 0 rfl rfl (by decide) i_Weaver (B.2.2.2.1 _ k_228) rfl (hR.1 _ 0 _ rfl) d_Weaver_file_32 ?_
  refine mv_iconst (pc := 35) (v := 4) B d_Weaver_file_35 (by decide) ?_
  refine mv_callVi (pc := 36) (n := 1) (ci := 2) (C := R_Tokens) B (mK_ok sk sv) hNs rfl rfl (c_Tokens_takeN l hi _ _ hR.1 (hG.2.2.1.wt hF.wt hP ht2) (by omega) (by omega) (by decide)) rfl (ma_goodc kc_Tokens_take) (B.2.2.2.1 _ k_1266) (B.2.2.2.1 _ k_1267) (B.2.2.2.1 _ k_1268) (B.2.2.2.1 _ k_3) ⟨by decide +kernel, by decide +kernel, by decide +kernel⟩ rfl d_Weaver_file_36 rfl (Nat.le_of_ble_eq_true rfl) ⟨by decide, by decide⟩ ⟨by decide, by decide⟩ ⟨by decide, by decide⟩ (mv_noH hno _) (fun v36 σ36 h36 => ?_)
  obtain ⟨a36, w36, e36, r36⟩ := h36
  have q36 := r36.1
  have z36 := fun q => (r36.2.1 q).1
  have y36 := And.intro r36.2.2.2.1 r36.2.2.2.2.1
  subst e36
  refine mv_gen (fun S39 eS39 => ?_)
  have hR : Rw 48 (mv_r S39) := by rw [eS39]; exact hR
  have hF : IF 48 σ S39 := by rw [eS39]; exact hF.tk3 _ _ _
  have hN : mv_i S39 21 0 = 0 → mv_i σ 21 0 = 0 := by rw [eS39]; exact hN
  have t7 : (mv_i S39 3 7).toInt = a36.toInt := by rw [eS39]; rfl
  have t8 : (mv_i S39 3 8).toInt = (mv_i σ 3 8).toInt := by rw [eS39]; first | exact t8 | exact (sub_one (by omega)).trans (by omega) | exact (i32_inc (by omega)).trans (by omega)
  have t9 : (mv_i S39 3 9).toInt = w36.toInt := by rw [eS39]; rfl
  have kp := Eq.trans (show mv_a S39 4 = mv_a _ 4 by rw [eS39]; rfl) kp
  have k6 := Eq.trans (show mv_b S39 6 = mv_b _ 6 by rw [eS39]; rfl) k6
  have hW2 : WN 48 512 S39 n th sl no := by rw [eS39]; exact hW2.tk3 hP _ _ _
  clear eS39
  refine mv_bipush (pc := 39) (v := 64) B d_Weaver_file_39 (by decide) ?_
  refine mv_callVi (pc := 41) (n := 2) (ci := 1) (C := R_Weaver) B (mK_ok sk sv) hNs rfl rfl (c_Weaver_numberUpTo l hi _ _ _ hR.1 y36.1 (by omega) (by decide)) rfl (ma_goodc kc_Weaver_numberUpTo) (B.2.2.2.1 _ k_1304) (B.2.2.2.1 _ k_1306) (B.2.2.2.1 _ ks_35) (B.2.2.2.1 _ k_2) ⟨by decide +kernel, by decide +kernel, by decide +kernel⟩ rfl d_Weaver_file_41 rfl (Nat.le_of_ble_eq_true rfl) ⟨by decide, by decide⟩ ⟨by decide, by decide⟩ ⟨by decide, by decide⟩ (mv_noH hno _) (fun v41 σ41 h41 => ?_)
  obtain ⟨x41, y41, e41, z41, u41⟩ := num_n (by decide) h41
  subst e41
  refine mv_gen (fun S44 eS44 => ?_)
  have hR : Rw 48 (mv_r S44) := by rw [eS44]; exact hR
  have hF : IF 48 σ S44 := by rw [eS44]; exact hF.tell _ _
  have hN : mv_i S44 21 0 = 0 → mv_i σ 21 0 = 0 := by rw [eS44]; exact fun q => hN (z41 q)
  have t7 := Eq.trans (congrArg Int32.toInt (show mv_i S44 3 7 = mv_i _ 3 7 by rw [eS44]; rfl)) t7
  have t8 := Eq.trans (congrArg Int32.toInt (show mv_i S44 3 8 = mv_i _ 3 8 by rw [eS44]; rfl)) t8
  have t9 := Eq.trans (congrArg Int32.toInt (show mv_i S44 3 9 = mv_i _ 3 9 by rw [eS44]; rfl)) t9
  have kp := Eq.trans (show mv_a S44 4 = mv_a _ 4 by rw [eS44]; rfl) kp
  have k6 := Eq.trans (show mv_b S44 6 = mv_b _ 6 by rw [eS44]; rfl) k6
  have hW2 : WN 48 512 S44 n th sl no := by rw [eS44]; exact hW2.tell hP _ _
  clear eS44
  refine mv_istore_n (pc := 44) B d_Weaver_file_44 rfl (by decide) rfl ?_
  refine mv_aload_n (pc := 45) B d_Weaver_file_45 rfl 2 rfl ?_
  refine mv_getR (pc := 46) (ci := 1) (C := R_Weaver) (T := F_Weaver) (N := 16) B 0 rfl rfl (by decide) i_Weaver (B.2.2.2.1 _ k_228) rfl (hR.1 _ 0 _ rfl) d_Weaver_file_46 ?_
  refine mv_bipush (pc := 49) (v := 91) B d_Weaver_file_49 (by decide) ?_
  refine mv_callVi (pc := 51) (n := 1) (ci := 2) (C := R_Tokens) B (mK_ok sk sv) hNs rfl rfl (c_Tokens_takeN l hi _ _ hR.1 (hG.2.2.1.wt hF.wt hP ht2) (by omega) (by omega) (by decide)) rfl (ma_goodc kc_Tokens_take) (B.2.2.2.1 _ k_1266) (B.2.2.2.1 _ k_1267) (B.2.2.2.1 _ k_1268) (B.2.2.2.1 _ k_3) ⟨by decide +kernel, by decide +kernel, by decide +kernel⟩ rfl d_Weaver_file_51 rfl (Nat.le_of_ble_eq_true rfl) ⟨by decide, by decide⟩ ⟨by decide, by decide⟩ ⟨by decide, by decide⟩ (mv_noH hno _) (fun v51 σ51 h51 => ?_)
  obtain ⟨a51, w51, e51, r51⟩ := h51
  have q51 := r51.1
  have z51 := fun q => (r51.2.1 q).1
  have y51 := And.intro r51.2.2.2.1 r51.2.2.2.2.1
  subst e51
  refine mv_gen (fun S54 eS54 => ?_)
  have hR : Rw 48 (mv_r S54) := by rw [eS54]; exact hR
  have hF : IF 48 σ S54 := by rw [eS54]; exact hF.tk3 _ _ _
  have hN : mv_i S54 21 0 = 0 → mv_i σ 21 0 = 0 := by rw [eS54]; exact hN
  have t7 : (mv_i S54 3 7).toInt = a51.toInt := by rw [eS54]; rfl
  have t8 : (mv_i S54 3 8).toInt = (mv_i σ 3 8).toInt := by rw [eS54]; first | exact t8 | exact (sub_one (by omega)).trans (by omega) | exact (i32_inc (by omega)).trans (by omega)
  have t9 : (mv_i S54 3 9).toInt = w51.toInt := by rw [eS54]; rfl
  have kp := Eq.trans (show mv_a S54 4 = mv_a _ 4 by rw [eS54]; rfl) kp
  have k6 := Eq.trans (show mv_b S54 6 = mv_b _ 6 by rw [eS54]; rfl) k6
  have hW2 : WN 48 512 S54 n th sl no := by rw [eS54]; exact hW2.tk3 hP _ _ _
  clear eS54
  refine mv_pop (pc := 54) B d_Weaver_file_54 rfl ?_
  refine mv_aload_n (pc := 55) B d_Weaver_file_55 rfl 2 rfl ?_
  refine mv_aload_n (pc := 56) B d_Weaver_file_56 rfl 2 rfl ?_
  refine mv_getR (pc := 57) (ci := 1) (C := R_Weaver) (T := F_Weaver) (N := 16) B 0 rfl rfl (by decide) i_Weaver (B.2.2.2.1 _ k_228) rfl (hR.1 _ 0 _ rfl) d_Weaver_file_57 ?_
  refine mv_iconst (pc := 60) (v := 4) B d_Weaver_file_60 (by decide) ?_
  refine mv_callVi (pc := 61) (n := 1) (ci := 2) (C := R_Tokens) B (mK_ok sk sv) hNs rfl rfl (c_Tokens_takeN l hi _ _ hR.1 (hG.2.2.1.wt hF.wt hP ht2) (by omega) (by omega) (by decide)) rfl (ma_goodc kc_Tokens_take) (B.2.2.2.1 _ k_1266) (B.2.2.2.1 _ k_1267) (B.2.2.2.1 _ k_1268) (B.2.2.2.1 _ k_3) ⟨by decide +kernel, by decide +kernel, by decide +kernel⟩ rfl d_Weaver_file_61 rfl (Nat.le_of_ble_eq_true rfl) ⟨by decide, by decide⟩ ⟨by decide, by decide⟩ ⟨by decide, by decide⟩ (mv_noH hno _) (fun v61 σ61 h61 => ?_)
  obtain ⟨a61, w61, e61, r61⟩ := h61
  have q61 := r61.1
  have z61 := fun q => (r61.2.1 q).1
  have y61 := And.intro r61.2.2.2.1 r61.2.2.2.2.1
  subst e61
  refine mv_gen (fun S64 eS64 => ?_)
  have hR : Rw 48 (mv_r S64) := by rw [eS64]; exact hR
  have hF : IF 48 σ S64 := by rw [eS64]; exact hF.tk3 _ _ _
  have hN : mv_i S64 21 0 = 0 → mv_i σ 21 0 = 0 := by rw [eS64]; exact hN
  have t7 : (mv_i S64 3 7).toInt = a61.toInt := by rw [eS64]; rfl
  have t8 : (mv_i S64 3 8).toInt = (mv_i σ 3 8).toInt := by rw [eS64]; first | exact t8 | exact (sub_one (by omega)).trans (by omega) | exact (i32_inc (by omega)).trans (by omega)
  have t9 : (mv_i S64 3 9).toInt = w61.toInt := by rw [eS64]; rfl
  have kp := Eq.trans (show mv_a S64 4 = mv_a _ 4 by rw [eS64]; rfl) kp
  have k6 := Eq.trans (show mv_b S64 6 = mv_b _ 6 by rw [eS64]; rfl) k6
  have hW2 : WN 48 512 S64 n th sl no := by rw [eS64]; exact hW2.tk3 hP _ _ _
  clear eS64
  refine mv_ldc (pc := 64) (v := 65536) B (B.2.2.2.1 _ k_1324) d_Weaver_file_64 ?_
  refine mv_callVi (pc := 66) (n := 2) (ci := 1) (C := R_Weaver) B (mK_ok sk sv) hNs rfl rfl (c_Weaver_numberUpTo l hi _ _ _ hR.1 y61.1 (by omega) (by decide)) rfl (ma_goodc kc_Weaver_numberUpTo) (B.2.2.2.1 _ k_1304) (B.2.2.2.1 _ k_1306) (B.2.2.2.1 _ ks_35) (B.2.2.2.1 _ k_2) ⟨by decide +kernel, by decide +kernel, by decide +kernel⟩ rfl d_Weaver_file_66 rfl (Nat.le_of_ble_eq_true rfl) ⟨by decide, by decide⟩ ⟨by decide, by decide⟩ ⟨by decide, by decide⟩ (mv_noH hno _) (fun v66 σ66 h66 => ?_)
  obtain ⟨x66, y66, e66, z66, u66⟩ := num_n (by decide) h66
  subst e66
  have u66 : 0 ≤ v66.toInt ∧ v66.toInt ≤ 65536 := u66
  refine mv_gen (fun S69 eS69 => ?_)
  have hR : Rw 48 (mv_r S69) := by rw [eS69]; exact hR
  have hF : IF 48 σ S69 := by rw [eS69]; exact hF.tell _ _
  have hN : mv_i S69 21 0 = 0 → mv_i σ 21 0 = 0 := by rw [eS69]; exact fun q => hN (z66 q)
  have t7 := Eq.trans (congrArg Int32.toInt (show mv_i S69 3 7 = mv_i _ 3 7 by rw [eS69]; rfl)) t7
  have t8 := Eq.trans (congrArg Int32.toInt (show mv_i S69 3 8 = mv_i _ 3 8 by rw [eS69]; rfl)) t8
  have t9 := Eq.trans (congrArg Int32.toInt (show mv_i S69 3 9 = mv_i _ 3 9 by rw [eS69]; rfl)) t9
  have kp := Eq.trans (show mv_a S69 4 = mv_a _ 4 by rw [eS69]; rfl) kp
  have k6 := Eq.trans (show mv_b S69 6 = mv_b _ 6 by rw [eS69]; rfl) k6
  have hW2 : WN 48 512 S69 n th sl no := by rw [eS69]; exact hW2.tell hP _ _
  clear eS69
  refine mv_istore_n (pc := 69) B d_Weaver_file_69 rfl (by decide) rfl ?_
  refine mv_aload_n (pc := 70) B d_Weaver_file_70 rfl 3 rfl ?_
  refine mv_getR (pc := 71) (ci := 1) (C := R_Weaver) (T := F_Weaver) (N := 16) B 0 rfl rfl (by decide) i_Weaver (B.2.2.2.1 _ k_228) rfl (hR.1 _ 0 _ rfl) d_Weaver_file_71 ?_
  refine mv_bipush (pc := 74) (v := 93) B d_Weaver_file_74 (by decide) ?_
  refine mv_callVi (pc := 76) (n := 1) (ci := 2) (C := R_Tokens) B (mK_ok sk sv) hNs rfl rfl (c_Tokens_takeN l hi _ _ hR.1 (hG.2.2.1.wt hF.wt hP ht2) (by omega) (by omega) (by decide)) rfl (ma_goodc kc_Tokens_take) (B.2.2.2.1 _ k_1266) (B.2.2.2.1 _ k_1267) (B.2.2.2.1 _ k_1268) (B.2.2.2.1 _ k_3) ⟨by decide +kernel, by decide +kernel, by decide +kernel⟩ rfl d_Weaver_file_76 rfl (Nat.le_of_ble_eq_true rfl) ⟨by decide, by decide⟩ ⟨by decide, by decide⟩ ⟨by decide, by decide⟩ (mv_noH hno _) (fun v76 σ76 h76 => ?_)
  obtain ⟨a76, w76, e76, r76⟩ := h76
  have q76 := r76.1
  have z76 := fun q => (r76.2.1 q).1
  have y76 := And.intro r76.2.2.2.1 r76.2.2.2.2.1
  subst e76
  refine mv_gen (fun S79 eS79 => ?_)
  have hR : Rw 48 (mv_r S79) := by rw [eS79]; exact hR
  have hF : IF 48 σ S79 := by rw [eS79]; exact hF.tk3 _ _ _
  have hN : mv_i S79 21 0 = 0 → mv_i σ 21 0 = 0 := by rw [eS79]; exact hN
  have t7 : (mv_i S79 3 7).toInt = a76.toInt := by rw [eS79]; rfl
  have t8 : (mv_i S79 3 8).toInt = (mv_i σ 3 8).toInt := by rw [eS79]; first | exact t8 | exact (sub_one (by omega)).trans (by omega) | exact (i32_inc (by omega)).trans (by omega)
  have t9 : (mv_i S79 3 9).toInt = w76.toInt := by rw [eS79]; rfl
  have kp := Eq.trans (show mv_a S79 4 = mv_a _ 4 by rw [eS79]; rfl) kp
  have k6 := Eq.trans (show mv_b S79 6 = mv_b _ 6 by rw [eS79]; rfl) k6
  have hW2 : WN 48 512 S79 n th sl no := by rw [eS79]; exact hW2.tk3 hP _ _ _
  clear eS79
  refine mv_pop (pc := 79) B d_Weaver_file_79 rfl ?_
  refine mv_aload_n (pc := 80) B d_Weaver_file_80 rfl 3 rfl ?_
  refine mv_getR (pc := 81) (ci := 1) (C := R_Weaver) (T := F_Weaver) (N := 16) B 0 rfl rfl (by decide) i_Weaver (B.2.2.2.1 _ k_228) rfl (hR.1 _ 0 _ rfl) d_Weaver_file_81 ?_
  refine mv_callVi (pc := 84) (n := 0) (ci := 2) (C := R_Tokens) B (mK_ok sk sv) hNs rfl rfl (c_Tokens_kind l hi _ hR.1 (i32_in (by omega) (by omega))) rfl (ma_goodc kc_Tokens_kind) (B.2.2.2.1 _ k_1299) (B.2.2.2.1 _ k_1271) (B.2.2.2.1 _ k_1272) (B.2.2.2.1 _ k_3) ⟨by decide +kernel, by decide +kernel, by decide +kernel⟩ rfl d_Weaver_file_84 rfl (Nat.le_of_ble_eq_true rfl) ⟨by decide, by decide⟩ ⟨by decide, by decide⟩ ⟨by decide, by decide⟩ (mv_noH hno _) (fun v84 σ84 h84 => ?_)
  obtain ⟨e84, -⟩ := h84
  have e84 := e84.symm
  subst e84
  refine mv_sipush (pc := 87) (v := 203) B d_Weaver_file_87 (by decide) ?_
  refine mv_icmp_ne (pc := 90) (tgt := 97) B d_Weaver_file_90 rfl (fun h90 => ?_) (fun h90 => ?_)
  · skip
    refine mv_iconst (pc := 97) (v := 0) B d_Weaver_file_97 (by decide) ?_
    refine mv_lpick [1, 0, 2, 3] rfl ?_
    exact j98 _ _ _ _ _ hR hF hN hW2 (by omega) t8 kp k6 sy16 y16 u66
  · skip
    refine mv_iconst (pc := 93) (v := 1) B d_Weaver_file_93 (by decide) ?_
    refine mv_goto (pc := 94) (tgt := 98) B d_Weaver_file_94 rfl ?_
    refine mv_lpick [1, 0, 2, 3] rfl ?_
    exact j98 _ _ _ _ _ hR hF hN hW2 (by omega) t8 kp k6 sy16 y16 u66
set_option maxHeartbeats 4000000 in
set_option maxRecDepth 100000 in
theorem c_Weaver_file_c (l : Launch) {dA : FieldType → ClassId} {D : va_G} {al : Nat → Nat} {sk sv : Nat → Nat} (hi : mv_inj (mg dA D al me)) (σ : mv_H) {t tn len n z sz th sl s0 a ns no : Nat} (hG : WG 145 8192 48 me σ t tn len n z sz) (hM : Mt (mv_a σ 24)) (hW : WN 145 48 σ n th sl no) (hS : WS 145 σ sz th s0 a ns no []) (hm0 : mv_i σ 2 6 = 0) (hk3 : mv_a σ 4 (mv_i σ 3 7).toNatClampNeg = 202) : mv_C l y_Weaver_file (Cond.code y_Weaver_file b_Weaver_file 5 (Option.none : Option Jvm.ClassFile.FieldType) :: ma) ({ frames := 3, cells := 0, slots := 0, locals := 68 }) (mg dA D al me) (mK sk sv) [.ref (al 2)] σ (mv_Rv (fun σ1 => TP 145 48 σ σ1 n sz a)) := by
  refine mv_C.ofV (cc := b_Weaver_file) (nL := 5) (ret := (Option.none : Option Jvm.ClassFile.FieldType)) (by decide +kernel) rfl hi (Nat.le_of_ble_eq_true rfl) ?_
  intro p e s m below meth c B hNs hr hnm hno
  have hP : PQ 145 := by unfold PQ; omega
  have hR := hG.1
  have ht2 := hG.2.1.2.2.2.2.2.2
  have hF : IF 145 σ σ := Fr.rf
  have hN : mv_i σ 21 0 = 0 → mv_i σ 21 0 = 0 := fun q => q
  have hE := hG.2.2.1
  have hsz := hE.2.2.2.2.2
  have hsz2 := hE.2.2.2.1
  have hlen := hG.2.2.2.2.1
  have hlen2 := hG.2.2.2.2.2
  have t7 := hS.1.1
  have hw9 := hS.1.2.1
  have ha9 := hS.1.2.2.2.2.1
  have t9 : (mv_i σ 3 9).toInt = (mv_i σ 3 9).toInt := rfl
  have t8 : (mv_i σ 3 8).toInt = (mv_i σ 3 8).toInt := rfl
  have kp : mv_a σ 4 = mv_a σ 4 := rfl
  have k6 : mv_b σ 6 = mv_b σ 6 := rfl
  have hs5 := hS.1.2.2.2.2.2.1
  have hs6 := hS.1.2.2.2.2.2.2.1
  have hd8 := hS.1.2.2.1
  have hd9 := hS.1.2.2.2.1
  have j138 : ∀ (υ : mv_H) (tk1 : Int32) (wi : Int32) (ce : Int32) (fl : Int32) (hR : Rw 145 (mv_r υ)) (hF : IF 145 σ υ) (hN : mv_i υ 21 0 = 0 → mv_i σ 21 0 = 0) (hW2 : WN 145 48 υ n th sl no) (t7 : 1 ≤ (mv_i υ 3 7).toInt ∧ (mv_i υ 3 7).toInt < sz ∧ a + 1 ≤ (mv_i υ 3 7).toInt) (t8 : (mv_i υ 3 8).toInt = (mv_i σ 3 8).toInt) (kp : mv_a υ 4 = mv_a σ 4) (k6 : mv_b υ 6 = mv_b σ 6) (sy16 : 0 ≤ (mv_b σ 6 tk1.toNatClampNeg).toInt ∧ (mv_b σ 6 tk1.toNatClampNeg).toInt < n) (b1 : 0 ≤ tk1.toInt ∧ tk1.toInt < sz) (hce : 0 ≤ ce.toInt ∧ ce.toInt ≤ 65536), mv_V p l e ({ frames := 3, cells := 0, slots := 0, locals := 68 }) s m ([.ref (al 2)] : List Value).toArray below meth c (mg dA D al me) 5 0 0 (mv_Q (mg dA D al me) below s 0 0 (mv_Rv (fun σ1 => TP 145 48 σ σ1 n sz a))) υ 138 [(2, .int wi), (3, .int ce), (4, .int fl), (1, .int tk1), (0, .ref (al 2))] [] := by
    intro υ tk1 wi ce fl hR hF hN hW2 t7 t8 kp k6 sy16 b1 hce
    obtain ⟨ac, hac1, hac2, hac3⟩ := hW2.2.2.2.2.1
    refine mv_aload_n (pc := 138) B d_Weaver_file_138 rfl 4 rfl ?_
    refine mv_getR (pc := 139) (ci := 1) (C := R_Weaver) (T := F_Weaver) (N := 16) B 0 rfl rfl (by decide) i_Weaver (B.2.2.2.1 _ k_228) rfl (hR.1 _ 0 _ rfl) d_Weaver_file_139 ?_
    refine mv_callVi (pc := 142) (n := 0) (ci := 2) (C := R_Tokens) B (mK_ok sk sv) hNs rfl rfl (c_Tokens_right l hi _) rfl (ma_goodc kc_Tokens_right) (B.2.2.2.1 _ k_1291) (B.2.2.2.1 _ k_1292) (B.2.2.2.1 _ k_1293) (B.2.2.2.1 _ k_3) ⟨by decide +kernel, by decide +kernel, by decide +kernel⟩ rfl d_Weaver_file_142 rfl (Nat.le_of_ble_eq_true rfl) ⟨by decide, by decide⟩ ⟨by decide, by decide⟩ ⟨by decide, by decide⟩ (mv_noH hno _) (fun v142 σ142 h142 => ?_)
    obtain ⟨e59, z59⟩ := h142
    have e59 := e59.symm
    subst e59
    refine mv_if_eq (pc := 145) (tgt := 188) B d_Weaver_file_145 rfl (fun h145 => ?_) (fun h145 => ?_)
    · skip
      have hw : ¬ (mv_i υ 3 9).toInt < 0 := fun q => by rw [if_pos (lt0.mpr q)] at z59; rw [z59] at h145; exact absurd h145 (by decide)
      have hend : TP 145 48 σ υ n sz a := ⟨hF.wt, by rw [hF.2.1 24 (by decide)]; exact hM, th, sl, no, hW2, Or.inl (by omega)⟩
      exact mv_vret (pc := 188) B hr d_Weaver_file_188 (Nat.le_refl _) (Nat.le_refl _) ⟨rfl, hend⟩
    · skip
      have hw : (mv_i υ 3 9).toInt < 0 := Decidable.byContradiction fun q => h145 (by rw [z59, if_neg (fun z => q (lt0.mp z))])
      refine mv_aload_n (pc := 148) B d_Weaver_file_148 rfl 4 rfl ?_
      refine mv_iload_n (pc := 149) B d_Weaver_file_149 rfl 3 rfl ?_
      refine mv_iload_n (pc := 150) B d_Weaver_file_150 rfl 1 rfl ?_
      refine mv_callVi (pc := 151) (n := 2) (ci := 1) (C := R_Weaver) B (mK_ok sk sv) hNs rfl rfl (c_Weaver_isNew_c l hi _ _ _ hR (hG.2.2.1.wt hF.wt hP ht2) b1.1 b1.2 (by rw [k6]; exact sy16.1) (by rw [k6]; exact sy16.2) hW2.2.1 ac hac1 hac2 (by omega) (by omega)) rfl (ma_goodc kc_Weaver_isNew) (B.2.2.2.1 _ k_1308) (B.2.2.2.1 _ k_1310) (B.2.2.2.1 _ ks_36) (B.2.2.2.1 _ k_2) ⟨by decide +kernel, by decide +kernel, by decide +kernel⟩ rfl d_Weaver_file_151 rfl (Nat.le_of_ble_eq_true rfl) ⟨by decide, by decide⟩ ⟨by decide, by decide⟩ ⟨by decide, by decide⟩ (mv_noH hno _) (fun v151 σ151 h151 => ?_)
      refine mv_if_eq (pc := 154) (tgt := 188) B d_Weaver_file_154 rfl (fun h154 => ?_) (fun h154 => ?_)
      · skip
        have hend : TP 145 48 σ σ151 n sz a := by
          rcases h151 with ⟨-, x9, y9, q1, q2⟩ | ⟨q1, -⟩
          · subst q1
            have hF := hF.tell x9 y9
            exact ⟨hF.wt, by rw [hF.2.1 24 (by decide)]; exact hM, th, sl, no, hW2.tell hP _ _, Or.inr ⟨(mv_i υ 3 7).toInt.toNat, by omega, Or.inl ⟨(hF.1 2 6 (by decide)).trans hm0, s0, ns, hS.it hF hP (show (mv_i υ 3 7).toInt = _ by omega) hw t8 (by omega) (by omega) (fun q => absurd q q2) (Nat.le_refl _)⟩⟩⟩
          · rw [q1] at h154; exact absurd h154 (by decide)
        exact mv_vret (pc := 188) B hr d_Weaver_file_188 (Nat.le_refl _) (Nat.le_refl _) ⟨rfl, hend⟩
      · skip
        obtain ⟨-, e68, n68, m68⟩ := h151.resolve_left (fun q => h154 q.1)
        have e68 := e68.symm
        subst e68
        have hth := hW2.2.1.1
        have hn16 := hG.2.2.1.1.2.1
        have k21 := l2i_nn (x := mv_b υ 6 tk1.toNatClampNeg) (by rw [k6]; exact sy16.1) (by rw [k6]; omega)
        have k22 : (mv_b υ 6 tk1.toNatClampNeg).toInt = (mv_b σ 6 tk1.toNatClampNeg).toInt := by rw [k6]
        refine mv_aload_n (pc := 157) B d_Weaver_file_157 rfl 4 rfl ?_
        refine mv_getR (pc := 158) (ci := 1) (C := R_Weaver) (T := F_Weaver) (N := 16) B 1 rfl rfl (by decide) i_Weaver (B.2.2.2.1 _ k_229) rfl (hR.1 _ 1 _ rfl) d_Weaver_file_158 ?_
        refine mv_aload_n (pc := 161) B d_Weaver_file_161 rfl 4 rfl ?_
        refine mv_iload_n (pc := 162) B d_Weaver_file_162 rfl 3 rfl ?_
        refine mv_callVi (pc := 163) (n := 1) (ci := 1) (C := R_Weaver) B (mK_ok sk sv) hNs rfl rfl (c_Weaver_symbolOf l hi _ _ hR.1 b1.1 (by omega)) rfl (ma_goodc kc_Weaver_symbolOf) (B.2.2.2.1 _ k_1312) (B.2.2.2.1 _ k_1314) (B.2.2.2.1 _ ks_37) (B.2.2.2.1 _ k_2) ⟨by decide +kernel, by decide +kernel, by decide +kernel⟩ rfl d_Weaver_file_163 rfl (Nat.le_of_ble_eq_true rfl) ⟨by decide, by decide⟩ ⟨by decide, by decide⟩ ⟨by decide, by decide⟩ (mv_noH hno _) (fun v163 σ163 h163 => ?_)
        obtain ⟨e80, z80⟩ := h163
        have e80 := e80.symm
        subst e80
        have z81 : v163.toInt = (mv_b υ 6 tk1.toNatClampNeg).toInt := by rw [z80]; exact k21
        refine mv_iconst (pc := 166) (v := 2) B d_Weaver_file_166 (by decide) ?_
        refine mv_aload_n (pc := 167) B d_Weaver_file_167 rfl 4 rfl ?_
        refine mv_getR (pc := 168) (ci := 1) (C := R_Weaver) (T := F_Weaver) (N := 16) B 5 rfl rfl (by decide) i_Weaver (B.2.2.2.1 _ k_235) rfl hR.2.2.1 d_Weaver_file_168 ?_
        refine mv_getI (pc := 171) (ci := 7) (C := R_Program) (T := F_Program) (N := 19) B 1 rfl rfl (by decide) i_Program (B.2.2.2.1 _ k_316) rfl d_Weaver_file_171 ?_
        refine mv_callVv (pc := 174) (n := 3) (ci := 4) (C := R_Names) B (mK_ok sk sv) hNs rfl rfl (c_Names_know l hi _ _ _ _ hR.1 (by omega) (by omega)) rfl (ma_goodc kc_Names_know) (B.2.2.2.1 _ k_1325) (B.2.2.2.1 _ k_1326) (B.2.2.2.1 _ k_1327) (B.2.2.2.1 _ k_5) ⟨by decide +kernel, by decide +kernel, by decide +kernel⟩ rfl d_Weaver_file_174 rfl (Nat.le_of_ble_eq_true rfl) ⟨by decide, by decide⟩ ⟨by decide, by decide⟩ ⟨by decide, by decide⟩ (mv_noH hno _) (fun σ174 h174 => ?_)
        subst h174
        refine mv_aload_n (pc := 177) B d_Weaver_file_177 rfl 4 rfl ?_
        refine mv_getR (pc := 178) (ci := 1) (C := R_Weaver) (T := F_Weaver) (N := 16) B 5 rfl rfl (by decide) i_Weaver (B.2.2.2.1 _ k_235) rfl hR.2.2.1 d_Weaver_file_178 ?_
        refine mv_iload_n (pc := 181) B d_Weaver_file_181 rfl 0 rfl ?_
        refine mv_iload_n (pc := 182) B d_Weaver_file_182 rfl 1 rfl ?_
        refine mv_iload (pc := 183) B d_Weaver_file_183 2 rfl ?_
        refine mv_callVv (pc := 185) (n := 3) (ci := 7) (C := R_Program) B (mK_ok sk sv) hNs rfl rfl (c_Program_addThing_c l hi _ _ _ _ hR.2.1 (show 0 ≤ (mv_i υ 145 1).toInt by omega) (show (mv_i υ 145 1).toInt < 64 by omega)) rfl (ma_goodc kc_Program_addThing) (B.2.2.2.1 _ k_1329) (B.2.2.2.1 _ k_1330) (B.2.2.2.1 _ k_1331) (B.2.2.2.1 _ k_8) ⟨by decide +kernel, by decide +kernel, by decide +kernel⟩ rfl d_Weaver_file_185 rfl (Nat.le_of_ble_eq_true rfl) ⟨by decide, by decide⟩ ⟨by decide, by decide⟩ ⟨by decide, by decide⟩ (mv_noH hno _) (fun σ185 h185 => ?_)
        obtain ⟨z9, s9, e101, d101⟩ := h185
        subst e101
        obtain ⟨sl2, w2⟩ := hW2.thing hP n68 hac1 (w := wi) (c := ce) (z := z9) (s2 := s9) (y := v163) (k := 2) (x := mv_i υ 145 1) (by omega) m68 (by omega) (Or.inr rfl) rfl d101
        have hF := (hF.know v163.toNatClampNeg 2 (mv_i υ 145 1)).thing wi ce z9 s9
        refine mv_gen (fun S104 eS104 => ?_)
        rw [← eS104] at w2 hF
        have hend : TP 145 48 σ S104 n sz a := ⟨hF.wt, by rw [hF.2.1 24 (by decide)]; exact hM, th + 1, sl2, no, w2, Or.inr ⟨(mv_i υ 3 7).toInt.toNat, by omega, Or.inl ⟨(hF.1 2 6 (by decide)).trans hm0, s0, ns, hS.it hF hP (by rw [eS104]; show (mv_i υ 3 7).toInt = _; omega) (by rw [eS104]; exact hw) (by rw [eS104]; exact t8) (by omega) (by omega) (fun q => by rw [eS104] at q; exact hN q) (Nat.le_succ _)⟩⟩⟩
        clear eS104
        exact mv_vret (pc := 188) B hr d_Weaver_file_188 (Nat.le_refl _) (Nat.le_refl _) ⟨rfl, hend⟩
  have j116 : ∀ (υ : mv_H) (tk1 : Int32) (wi : Int32) (ce : Int32) (fl : Int32) (hR : Rw 145 (mv_r υ)) (hF : IF 145 σ υ) (hN : mv_i υ 21 0 = 0 → mv_i σ 21 0 = 0) (hW2 : WN 145 48 υ n th sl no) (t7 : 1 ≤ (mv_i υ 3 7).toInt ∧ (mv_i υ 3 7).toInt < sz ∧ a + 1 ≤ (mv_i υ 3 7).toInt) (t8 : (mv_i υ 3 8).toInt = (mv_i σ 3 8).toInt) (kp : mv_a υ 4 = mv_a σ 4) (k6 : mv_b υ 6 = mv_b σ 6) (sy16 : 0 ≤ (mv_b σ 6 tk1.toNatClampNeg).toInt ∧ (mv_b σ 6 tk1.toNatClampNeg).toInt < n) (b1 : 0 ≤ tk1.toInt ∧ tk1.toInt < sz) (hce : 0 ≤ ce.toInt ∧ ce.toInt ≤ 65536), mv_V p l e ({ frames := 3, cells := 0, slots := 0, locals := 68 }) s m ([.ref (al 2)] : List Value).toArray below meth c (mg dA D al me) 5 0 0 (mv_Q (mg dA D al me) below s 0 0 (mv_Rv (fun σ1 => TP 145 48 σ σ1 n sz a))) υ 116 [(2, .int wi), (3, .int ce), (4, .int fl), (1, .int tk1), (0, .ref (al 2))] [] := by
    intro υ tk1 wi ce fl hR hF hN hW2 t7 t8 kp k6 sy16 b1 hce
    refine mv_aload_n (pc := 116) B d_Weaver_file_116 rfl 4 rfl ?_
    refine mv_getR (pc := 117) (ci := 1) (C := R_Weaver) (T := F_Weaver) (N := 16) B 0 rfl rfl (by decide) i_Weaver (B.2.2.2.1 _ k_228) rfl (hR.1 _ 0 _ rfl) d_Weaver_file_117 ?_
    refine mv_bipush (pc := 120) (v := 59) B d_Weaver_file_120 (by decide) ?_
    refine mv_callVi (pc := 122) (n := 1) (ci := 2) (C := R_Tokens) B (mK_ok sk sv) hNs rfl rfl (c_Tokens_takeN l hi _ _ hR.1 (hG.2.2.1.wt hF.wt hP ht2) (by omega) (by omega) (by decide)) rfl (ma_goodc kc_Tokens_take) (B.2.2.2.1 _ k_1266) (B.2.2.2.1 _ k_1267) (B.2.2.2.1 _ k_1268) (B.2.2.2.1 _ k_3) ⟨by decide +kernel, by decide +kernel, by decide +kernel⟩ rfl d_Weaver_file_122 rfl (Nat.le_of_ble_eq_true rfl) ⟨by decide, by decide⟩ ⟨by decide, by decide⟩ ⟨by decide, by decide⟩ (mv_noH hno _) (fun v122 σ122 h122 => ?_)
    obtain ⟨a122, w122, e122, r122⟩ := h122
    have q122 := r122.1
    have z122 := fun q => (r122.2.1 q).1
    have y122 := And.intro r122.2.2.2.1 r122.2.2.2.2.1
    subst e122
    refine mv_gen (fun S125 eS125 => ?_)
    have hR : Rw 145 (mv_r S125) := by rw [eS125]; exact hR
    have hF : IF 145 σ S125 := by rw [eS125]; exact hF.tk3 _ _ _
    have hN : mv_i S125 21 0 = 0 → mv_i σ 21 0 = 0 := by rw [eS125]; exact hN
    have t7 : (mv_i S125 3 7).toInt = a122.toInt := by rw [eS125]; rfl
    have t8 : (mv_i S125 3 8).toInt = (mv_i σ 3 8).toInt := by rw [eS125]; first | exact t8 | exact (sub_one (by omega)).trans (by omega) | exact (i32_inc (by omega)).trans (by omega)
    have t9 : (mv_i S125 3 9).toInt = w122.toInt := by rw [eS125]; rfl
    have kp := Eq.trans (show mv_a S125 4 = mv_a _ 4 by rw [eS125]; rfl) kp
    have k6 := Eq.trans (show mv_b S125 6 = mv_b _ 6 by rw [eS125]; rfl) k6
    have hW2 : WN 145 48 S125 n th sl no := by rw [eS125]; exact hW2.tk3 hP _ _ _
    clear eS125
    refine mv_pop (pc := 125) B d_Weaver_file_125 rfl ?_
    refine mv_iload_n (pc := 126) B d_Weaver_file_126 rfl 0 rfl ?_
    refine mv_if_eq (pc := 127) (tgt := 134) B d_Weaver_file_127 rfl (fun h127 => ?_) (fun h127 => ?_)
    · skip
      refine mv_iconst (pc := 134) (v := 0) B d_Weaver_file_134 (by decide) ?_
      refine mv_istore_n (pc := 135) B d_Weaver_file_135 rfl (by decide) rfl ?_
      refine mv_iconst (pc := 136) (v := 0) B d_Weaver_file_136 (by decide) ?_
      refine mv_istore_n (pc := 137) B d_Weaver_file_137 rfl (by decide) rfl ?_
      refine mv_lpick [1, 0, 2, 3, 4] rfl ?_
      exact j138 _ _ _ _ _ hR hF hN hW2 (by omega) t8 kp k6 sy16 b1 (by first | exact hce | decide)
    · skip
      refine mv_iload_n (pc := 130) B d_Weaver_file_130 rfl 1 rfl ?_
      refine mv_if_ne (pc := 131) (tgt := 138) B d_Weaver_file_131 rfl (fun h131 => ?_) (fun h131 => ?_)
      · skip
        refine mv_lpick [0, 1, 2, 3, 4] rfl ?_
        exact j138 _ _ _ _ _ hR hF hN hW2 (by omega) t8 kp k6 sy16 b1 (by first | exact hce | decide)
      · skip
        refine mv_iconst (pc := 134) (v := 0) B d_Weaver_file_134 (by decide) ?_
        refine mv_istore_n (pc := 135) B d_Weaver_file_135 rfl (by decide) rfl ?_
        refine mv_iconst (pc := 136) (v := 0) B d_Weaver_file_136 (by decide) ?_
        refine mv_istore_n (pc := 137) B d_Weaver_file_137 rfl (by decide) rfl ?_
        refine mv_lpick [1, 0, 2, 3, 4] rfl ?_
        exact j138 _ _ _ _ _ hR hF hN hW2 (by omega) t8 kp k6 sy16 b1 (by first | exact hce | decide)
  have j98 : ∀ (υ : mv_H) (tk1 : Int32) (wi : Int32) (ce : Int32) (fl : Int32) (hR : Rw 145 (mv_r υ)) (hF : IF 145 σ υ) (hN : mv_i υ 21 0 = 0 → mv_i σ 21 0 = 0) (hW2 : WN 145 48 υ n th sl no) (t7 : 1 ≤ (mv_i υ 3 7).toInt ∧ (mv_i υ 3 7).toInt < sz ∧ a + 1 ≤ (mv_i υ 3 7).toInt) (t8 : (mv_i υ 3 8).toInt = (mv_i σ 3 8).toInt) (kp : mv_a υ 4 = mv_a σ 4) (k6 : mv_b υ 6 = mv_b σ 6) (sy16 : 0 ≤ (mv_b σ 6 tk1.toNatClampNeg).toInt ∧ (mv_b σ 6 tk1.toNatClampNeg).toInt < n) (b1 : 0 ≤ tk1.toInt ∧ tk1.toInt < sz) (hce : 0 ≤ ce.toInt ∧ ce.toInt ≤ 65536), mv_V p l e ({ frames := 3, cells := 0, slots := 0, locals := 68 }) s m ([.ref (al 2)] : List Value).toArray below meth c (mg dA D al me) 5 0 0 (mv_Q (mg dA D al me) below s 0 0 (mv_Rv (fun σ1 => TP 145 48 σ σ1 n sz a))) υ 98 [(2, .int wi), (3, .int ce), (1, .int tk1), (0, .ref (al 2))] [.int fl] := by
    intro υ tk1 wi ce fl hR hF hN hW2 t7 t8 kp k6 sy16 b1 hce
    refine mv_istore (pc := 98) B d_Weaver_file_98 (by decide) rfl ?_
    refine mv_iload (pc := 100) B d_Weaver_file_100 0 rfl ?_
    refine mv_if_eq (pc := 102) (tgt := 116) B d_Weaver_file_102 rfl (fun h102 => ?_) (fun h102 => ?_)
    · skip
      refine mv_lpick [1, 2, 0, 3, 4] rfl ?_
      exact j116 _ _ _ _ _ hR hF hN hW2 (by omega) t8 kp k6 sy16 b1 hce
    · skip
      refine mv_aload_n (pc := 105) B d_Weaver_file_105 rfl 4 rfl ?_
      refine mv_getR (pc := 106) (ci := 1) (C := R_Weaver) (T := F_Weaver) (N := 16) B 0 rfl rfl (by decide) i_Weaver (B.2.2.2.1 _ k_228) rfl (hR.1 _ 0 _ rfl) d_Weaver_file_106 ?_
      refine mv_sipush (pc := 109) (v := 203) B d_Weaver_file_109 (by decide) ?_
      refine mv_callVi (pc := 112) (n := 1) (ci := 2) (C := R_Tokens) B (mK_ok sk sv) hNs rfl rfl (c_Tokens_takeN l hi _ _ hR.1 (hG.2.2.1.wt hF.wt hP ht2) (by omega) (by omega) (by decide)) rfl (ma_goodc kc_Tokens_take) (B.2.2.2.1 _ k_1266) (B.2.2.2.1 _ k_1267) (B.2.2.2.1 _ k_1268) (B.2.2.2.1 _ k_3) ⟨by decide +kernel, by decide +kernel, by decide +kernel⟩ rfl d_Weaver_file_112 rfl (Nat.le_of_ble_eq_true rfl) ⟨by decide, by decide⟩ ⟨by decide, by decide⟩ ⟨by decide, by decide⟩ (mv_noH hno _) (fun v112 σ112 h112 => ?_)
      obtain ⟨a112, w112, e112, r112⟩ := h112
      have q112 := r112.1
      have z112 := fun q => (r112.2.1 q).1
      have y112 := And.intro r112.2.2.2.1 r112.2.2.2.2.1
      subst e112
      refine mv_gen (fun S115 eS115 => ?_)
      have hR : Rw 145 (mv_r S115) := by rw [eS115]; exact hR
      have hF : IF 145 σ S115 := by rw [eS115]; exact hF.tk3 _ _ _
      have hN : mv_i S115 21 0 = 0 → mv_i σ 21 0 = 0 := by rw [eS115]; exact hN
      have t7 : (mv_i S115 3 7).toInt = a112.toInt := by rw [eS115]; rfl
      have t8 : (mv_i S115 3 8).toInt = (mv_i σ 3 8).toInt := by rw [eS115]; first | exact t8 | exact (sub_one (by omega)).trans (by omega) | exact (i32_inc (by omega)).trans (by omega)
      have t9 : (mv_i S115 3 9).toInt = w112.toInt := by rw [eS115]; rfl
      have kp := Eq.trans (show mv_a S115 4 = mv_a _ 4 by rw [eS115]; rfl) kp
      have k6 := Eq.trans (show mv_b S115 6 = mv_b _ 6 by rw [eS115]; rfl) k6
      have hW2 : WN 145 48 S115 n th sl no := by rw [eS115]; exact hW2.tk3 hP _ _ _
      clear eS115
      refine mv_pop (pc := 115) B d_Weaver_file_115 rfl ?_
      refine mv_lpick [1, 2, 0, 3, 4] rfl ?_
      exact j116 _ _ _ _ _ hR hF hN hW2 (by omega) t8 kp k6 sy16 b1 hce
  refine mv_aload_n (pc := 0) B d_Weaver_file_0 rfl 0 rfl ?_
  refine mv_getR (pc := 1) (ci := 1) (C := R_Weaver) (T := F_Weaver) (N := 16) B 0 rfl rfl (by decide) i_Weaver (B.2.2.2.1 _ k_228) rfl (hR.1 _ 0 _ rfl) d_Weaver_file_1 ?_
  refine mv_sipush (pc := 4) (v := 202) B d_Weaver_file_4 (by decide) ?_
  refine mv_callVi (pc := 7) (n := 1) (ci := 2) (C := R_Tokens) B (mK_ok sk sv) hNs rfl rfl (c_Tokens_takeN l hi _ _ hR.1 (hG.2.2.1.wt hF.wt hP ht2) (by omega) (by omega) (by decide)) rfl (ma_goodc kc_Tokens_take) (B.2.2.2.1 _ k_1266) (B.2.2.2.1 _ k_1267) (B.2.2.2.1 _ k_1268) (B.2.2.2.1 _ k_3) ⟨by decide +kernel, by decide +kernel, by decide +kernel⟩ rfl d_Weaver_file_7 rfl (Nat.le_of_ble_eq_true rfl) ⟨by decide, by decide⟩ ⟨by decide, by decide⟩ ⟨by decide, by decide⟩ (mv_noH hno _) (fun v7 σ7 h7 => ?_)
  obtain ⟨a7, w7, e7, r7⟩ := h7
  have q7 := r7.1
  have z7 := fun q => (r7.2.1 q).1
  have y7 := And.intro r7.2.2.2.1 r7.2.2.2.2.1
  subst e7
  have hw7 := r7.2.2.1 hw9 hk3 trivial
  refine mv_gen (fun S10 eS10 => ?_)
  have hR : Rw 145 (mv_r S10) := by rw [eS10]; exact hR
  have hF : IF 145 σ S10 := by rw [eS10]; exact hF.tk3 _ _ _
  have hN : mv_i S10 21 0 = 0 → mv_i σ 21 0 = 0 := by rw [eS10]; exact hN
  have t7 : (mv_i S10 3 7).toInt = a7.toInt := by rw [eS10]; rfl
  have t8 : (mv_i S10 3 8).toInt = (mv_i σ 3 8).toInt := by rw [eS10]; first | exact t8 | exact (sub_one (by omega)).trans (by omega) | exact (i32_inc (by omega)).trans (by omega)
  have t9 : (mv_i S10 3 9).toInt = w7.toInt := by rw [eS10]; rfl
  have kp := Eq.trans (show mv_a S10 4 = mv_a _ 4 by rw [eS10]; rfl) kp
  have k6 := Eq.trans (show mv_b S10 6 = mv_b _ 6 by rw [eS10]; rfl) k6
  have hW2 := hW
  have hW2 : WN 145 48 S10 n th sl no := by rw [eS10]; exact hW2.tk3 hP _ _ _
  clear eS10
  refine mv_pop (pc := 10) B d_Weaver_file_10 rfl ?_
  refine mv_aload_n (pc := 11) B d_Weaver_file_11 rfl 0 rfl ?_
  refine mv_getR (pc := 12) (ci := 1) (C := R_Weaver) (T := F_Weaver) (N := 16) B 0 rfl rfl (by decide) i_Weaver (B.2.2.2.1 _ k_228) rfl (hR.1 _ 0 _ rfl) d_Weaver_file_12 ?_
  refine mv_iconst (pc := 15) (v := 3) B d_Weaver_file_15 (by decide) ?_
  refine mv_callVi (pc := 16) (n := 1) (ci := 2) (C := R_Tokens) B (mK_ok sk sv) hNs rfl rfl (c_Tokens_takeN l hi _ _ hR.1 (hG.2.2.1.wt hF.wt hP ht2) (by omega) (by omega) (by decide)) rfl (ma_goodc kc_Tokens_take) (B.2.2.2.1 _ k_1266) (B.2.2.2.1 _ k_1267) (B.2.2.2.1 _ k_1268) (B.2.2.2.1 _ k_3) ⟨by decide +kernel, by decide +kernel, by decide +kernel⟩ rfl d_Weaver_file_16 rfl (Nat.le_of_ble_eq_true rfl) ⟨by decide, by decide⟩ ⟨by decide, by decide⟩ ⟨by decide, by decide⟩ (mv_noH hno _) (fun v16 σ16 h16 => ?_)
  have kz := k6
  obtain ⟨a16, w16, e16, r16⟩ := h16
  have q16 := r16.1
  have z16 := fun q => (r16.2.1 q).1
  have y16 := And.intro r16.2.2.2.1 r16.2.2.2.2.1
  subst e16
  have sy16 := TkR.sym (hG.2.2.1.wt hF.wt hP ht2) r16
  refine mv_gen (fun S19 eS19 => ?_)
  have hR : Rw 145 (mv_r S19) := by rw [eS19]; exact hR
  have hF : IF 145 σ S19 := by rw [eS19]; exact hF.tk3 _ _ _
  have hN : mv_i S19 21 0 = 0 → mv_i σ 21 0 = 0 := by rw [eS19]; exact hN
  have t7 : (mv_i S19 3 7).toInt = a16.toInt := by rw [eS19]; rfl
  have t8 : (mv_i S19 3 8).toInt = (mv_i σ 3 8).toInt := by rw [eS19]; first | exact t8 | exact (sub_one (by omega)).trans (by omega) | exact (i32_inc (by omega)).trans (by omega)
  have t9 : (mv_i S19 3 9).toInt = w16.toInt := by rw [eS19]; rfl
  have kp := Eq.trans (show mv_a S19 4 = mv_a _ 4 by rw [eS19]; rfl) kp
  have k6 := Eq.trans (show mv_b S19 6 = mv_b _ 6 by rw [eS19]; rfl) k6
  have hW2 : WN 145 48 S19 n th sl no := by rw [eS19]; exact hW2.tk3 hP _ _ _
  have sy16 : 0 ≤ (mv_b σ 6 v16.toNatClampNeg).toInt ∧ (mv_b σ 6 v16.toNatClampNeg).toInt < n := by rw [← kz]; exact sy16
  clear eS19
  refine mv_istore_n (pc := 19) B d_Weaver_file_19 rfl (by decide) rfl ?_
  refine mv_aload_n (pc := 20) B d_Weaver_file_20 rfl 1 rfl ?_
  refine mv_getR (pc := 21) (ci := 1) (C := R_Weaver) (T := F_Weaver) (N := 16) B 0 rfl rfl (by decide) i_Weaver (B.2.2.2.1 _ k_228) rfl (hR.1 _ 0 _ rfl) d_Weaver_file_21 ?_
  refine mv_bipush (pc := 24) (v := 58) B d_Weaver_file_24 (by decide) ?_
  refine mv_callVi (pc := 26) (n := 1) (ci := 2) (C := R_Tokens) B (mK_ok sk sv) hNs rfl rfl (c_Tokens_takeN l hi _ _ hR.1 (hG.2.2.1.wt hF.wt hP ht2) (by omega) (by omega) (by decide)) rfl (ma_goodc kc_Tokens_take) (B.2.2.2.1 _ k_1266) (B.2.2.2.1 _ k_1267) (B.2.2.2.1 _ k_1268) (B.2.2.2.1 _ k_3) ⟨by decide +kernel, by decide +kernel, by decide +kernel⟩ rfl d_Weaver_file_26 rfl (Nat.le_of_ble_eq_true rfl) ⟨by decide, by decide⟩ ⟨by decide, by decide⟩ ⟨by decide, by decide⟩ (mv_noH hno _) (fun v26 σ26 h26 => ?_)
  obtain ⟨a26, w26, e26, r26⟩ := h26
  have q26 := r26.1
  have z26 := fun q => (r26.2.1 q).1
  have y26 := And.intro r26.2.2.2.1 r26.2.2.2.2.1
  subst e26
  refine mv_gen (fun S29 eS29 => ?_)
  have hR : Rw 145 (mv_r S29) := by rw [eS29]; exact hR
  have hF : IF 145 σ S29 := by rw [eS29]; exact hF.tk3 _ _ _
  have hN : mv_i S29 21 0 = 0 → mv_i σ 21 0 = 0 := by rw [eS29]; exact hN
  have t7 : (mv_i S29 3 7).toInt = a26.toInt := by rw [eS29]; rfl
  have t8 : (mv_i S29 3 8).toInt = (mv_i σ 3 8).toInt := by rw [eS29]; first | exact t8 | exact (sub_one (by omega)).trans (by omega) | exact (i32_inc (by omega)).trans (by omega)
  have t9 : (mv_i S29 3 9).toInt = w26.toInt := by rw [eS29]; rfl
  have kp := Eq.trans (show mv_a S29 4 = mv_a _ 4 by rw [eS29]; rfl) kp
  have k6 := Eq.trans (show mv_b S29 6 = mv_b _ 6 by rw [eS29]; rfl) k6
  have hW2 : WN 145 48 S29 n th sl no := by rw [eS29]; exact hW2.tk3 hP _ _ _
  clear eS29
  refine mv_pop (pc := 29) B d_Weaver_file_29 rfl ?_
  refine mv_aload_n (pc := 30) B d_Weaver_file_30 rfl 1 rfl ?_
  refine mv_aload_n (pc := 31) B d_Weaver_file_31 rfl 1 rfl ?_
  refine mv_getR (pc := 32) (ci := 1) (C := R_Weaver) (T := F_Weaver) (N := 16) B 0 rfl rfl (by decide) i_Weaver (B.2.2.2.1 _ k_228) rfl (hR.1 _ 0 _ rfl) d_Weaver_file_32 ?_
  refine mv_iconst (pc := 35) (v := 4) B d_Weaver_file_35 (by decide) ?_
  refine mv_callVi (pc := 36) (n := 1) (ci := 2) (C := R_Tokens) B (mK_ok sk sv) hNs rfl rfl (c_Tokens_takeN l hi _ _ hR.1 (hG.2.2.1.wt hF.wt hP ht2) (by omega) (by omega) (by decide)) rfl (ma_goodc kc_Tokens_take) (B.2.2.2.1 _ k_1266) (B.2.2.2.1 _ k_1267) (B.2.2.2.1 _ k_1268) (B.2.2.2.1 _ k_3) ⟨by decide +kernel, by decide +kernel, by decide +kernel⟩ rfl d_Weaver_file_36 rfl (Nat.le_of_ble_eq_true rfl) ⟨by decide, by decide⟩ ⟨by decide, by decide⟩ ⟨by decide, by decide⟩ (mv_noH hno _) (fun v36 σ36 h36 => ?_)
  obtain ⟨a36, w36, e36, r36⟩ := h36
  have q36 := r36.1
  have z36 := fun q => (r36.2.1 q).1
  have y36 := And.intro r36.2.2.2.1 r36.2.2.2.2.1
  subst e36
  refine mv_gen (fun S39 eS39 => ?_)
  have hR : Rw 145 (mv_r S39) := by rw [eS39]; exact hR
  have hF : IF 145 σ S39 := by rw [eS39]; exact hF.tk3 _ _ _
  have hN : mv_i S39 21 0 = 0 → mv_i σ 21 0 = 0 := by rw [eS39]; exact hN
  have t7 : (mv_i S39 3 7).toInt = a36.toInt := by rw [eS39]; rfl
  have t8 : (mv_i S39 3 8).toInt = (mv_i σ 3 8).toInt := by rw [eS39]; first | exact t8 | exact (sub_one (by omega)).trans (by omega) | exact (i32_inc (by omega)).trans (by omega)
  have t9 : (mv_i S39 3 9).toInt = w36.toInt := by rw [eS39]; rfl
  have kp := Eq.trans (show mv_a S39 4 = mv_a _ 4 by rw [eS39]; rfl) kp
  have k6 := Eq.trans (show mv_b S39 6 = mv_b _ 6 by rw [eS39]; rfl) k6
  have hW2 : WN 145 48 S39 n th sl no := by rw [eS39]; exact hW2.tk3 hP _ _ _
  clear eS39
  refine mv_bipush (pc := 39) (v := 64) B d_Weaver_file_39 (by decide) ?_
  refine mv_callVi (pc := 41) (n := 2) (ci := 1) (C := R_Weaver) B (mK_ok sk sv) hNs rfl rfl (c_Weaver_numberUpTo l hi _ _ _ hR.1 y36.1 (by omega) (by decide)) rfl (ma_goodc kc_Weaver_numberUpTo) (B.2.2.2.1 _ k_1304) (B.2.2.2.1 _ k_1306) (B.2.2.2.1 _ ks_35) (B.2.2.2.1 _ k_2) ⟨by decide +kernel, by decide +kernel, by decide +kernel⟩ rfl d_Weaver_file_41 rfl (Nat.le_of_ble_eq_true rfl) ⟨by decide, by decide⟩ ⟨by decide, by decide⟩ ⟨by decide, by decide⟩ (mv_noH hno _) (fun v41 σ41 h41 => ?_)
  obtain ⟨x41, y41, e41, z41, u41⟩ := num_n (by decide) h41
  subst e41
  refine mv_gen (fun S44 eS44 => ?_)
  have hR : Rw 145 (mv_r S44) := by rw [eS44]; exact hR
  have hF : IF 145 σ S44 := by rw [eS44]; exact hF.tell _ _
  have hN : mv_i S44 21 0 = 0 → mv_i σ 21 0 = 0 := by rw [eS44]; exact fun q => hN (z41 q)
  have t7 := Eq.trans (congrArg Int32.toInt (show mv_i S44 3 7 = mv_i _ 3 7 by rw [eS44]; rfl)) t7
  have t8 := Eq.trans (congrArg Int32.toInt (show mv_i S44 3 8 = mv_i _ 3 8 by rw [eS44]; rfl)) t8
  have t9 := Eq.trans (congrArg Int32.toInt (show mv_i S44 3 9 = mv_i _ 3 9 by rw [eS44]; rfl)) t9
  have kp := Eq.trans (show mv_a S44 4 = mv_a _ 4 by rw [eS44]; rfl) kp
  have k6 := Eq.trans (show mv_b S44 6 = mv_b _ 6 by rw [eS44]; rfl) k6
  have hW2 : WN 145 48 S44 n th sl no := by rw [eS44]; exact hW2.tell hP _ _
  clear eS44
  refine mv_istore_n (pc := 44) B d_Weaver_file_44 rfl (by decide) rfl ?_
  refine mv_aload_n (pc := 45) B d_Weaver_file_45 rfl 2 rfl ?_
  refine mv_getR (pc := 46) (ci := 1) (C := R_Weaver) (T := F_Weaver) (N := 16) B 0 rfl rfl (by decide) i_Weaver (B.2.2.2.1 _ k_228) rfl (hR.1 _ 0 _ rfl) d_Weaver_file_46 ?_
  refine mv_bipush (pc := 49) (v := 91) B d_Weaver_file_49 (by decide) ?_
  refine mv_callVi (pc := 51) (n := 1) (ci := 2) (C := R_Tokens) B (mK_ok sk sv) hNs rfl rfl (c_Tokens_takeN l hi _ _ hR.1 (hG.2.2.1.wt hF.wt hP ht2) (by omega) (by omega) (by decide)) rfl (ma_goodc kc_Tokens_take) (B.2.2.2.1 _ k_1266) (B.2.2.2.1 _ k_1267) (B.2.2.2.1 _ k_1268) (B.2.2.2.1 _ k_3) ⟨by decide +kernel, by decide +kernel, by decide +kernel⟩ rfl d_Weaver_file_51 rfl (Nat.le_of_ble_eq_true rfl) ⟨by decide, by decide⟩ ⟨by decide, by decide⟩ ⟨by decide, by decide⟩ (mv_noH hno _) (fun v51 σ51 h51 => ?_)
  obtain ⟨a51, w51, e51, r51⟩ := h51
  have q51 := r51.1
  have z51 := fun q => (r51.2.1 q).1
  have y51 := And.intro r51.2.2.2.1 r51.2.2.2.2.1
  subst e51
  refine mv_gen (fun S54 eS54 => ?_)
  have hR : Rw 145 (mv_r S54) := by rw [eS54]; exact hR
  have hF : IF 145 σ S54 := by rw [eS54]; exact hF.tk3 _ _ _
  have hN : mv_i S54 21 0 = 0 → mv_i σ 21 0 = 0 := by rw [eS54]; exact hN
  have t7 : (mv_i S54 3 7).toInt = a51.toInt := by rw [eS54]; rfl
  have t8 : (mv_i S54 3 8).toInt = (mv_i σ 3 8).toInt := by rw [eS54]; first | exact t8 | exact (sub_one (by omega)).trans (by omega) | exact (i32_inc (by omega)).trans (by omega)
  have t9 : (mv_i S54 3 9).toInt = w51.toInt := by rw [eS54]; rfl
  have kp := Eq.trans (show mv_a S54 4 = mv_a _ 4 by rw [eS54]; rfl) kp
  have k6 := Eq.trans (show mv_b S54 6 = mv_b _ 6 by rw [eS54]; rfl) k6
  have hW2 : WN 145 48 S54 n th sl no := by rw [eS54]; exact hW2.tk3 hP _ _ _
  clear eS54
  refine mv_pop (pc := 54) B d_Weaver_file_54 rfl ?_
  refine mv_aload_n (pc := 55) B d_Weaver_file_55 rfl 2 rfl ?_
  refine mv_aload_n (pc := 56) B d_Weaver_file_56 rfl 2 rfl ?_
  refine mv_getR (pc := 57) (ci := 1) (C := R_Weaver) (T := F_Weaver) (N := 16) B 0 rfl rfl (by decide) i_Weaver (B.2.2.2.1 _ k_228) rfl (hR.1 _ 0 _ rfl) d_Weaver_file_57 ?_
  refine mv_iconst (pc := 60) (v := 4) B d_Weaver_file_60 (by decide) ?_
  refine mv_callVi (pc := 61) (n := 1) (ci := 2) (C := R_Tokens) B (mK_ok sk sv) hNs rfl rfl (c_Tokens_takeN l hi _ _ hR.1 (hG.2.2.1.wt hF.wt hP ht2) (by omega) (by omega) (by decide)) rfl (ma_goodc kc_Tokens_take) (B.2.2.2.1 _ k_1266) (B.2.2.2.1 _ k_1267) (B.2.2.2.1 _ k_1268) (B.2.2.2.1 _ k_3) ⟨by decide +kernel, by decide +kernel, by decide +kernel⟩ rfl d_Weaver_file_61 rfl (Nat.le_of_ble_eq_true rfl) ⟨by decide, by decide⟩ ⟨by decide, by decide⟩ ⟨by decide, by decide⟩ (mv_noH hno _) (fun v61 σ61 h61 => ?_)
  obtain ⟨a61, w61, e61, r61⟩ := h61
  have q61 := r61.1
  have z61 := fun q => (r61.2.1 q).1
  have y61 := And.intro r61.2.2.2.1 r61.2.2.2.2.1
  subst e61
  refine mv_gen (fun S64 eS64 => ?_)
  have hR : Rw 145 (mv_r S64) := by rw [eS64]; exact hR
  have hF : IF 145 σ S64 := by rw [eS64]; exact hF.tk3 _ _ _
  have hN : mv_i S64 21 0 = 0 → mv_i σ 21 0 = 0 := by rw [eS64]; exact hN
  have t7 : (mv_i S64 3 7).toInt = a61.toInt := by rw [eS64]; rfl
  have t8 : (mv_i S64 3 8).toInt = (mv_i σ 3 8).toInt := by rw [eS64]; first | exact t8 | exact (sub_one (by omega)).trans (by omega) | exact (i32_inc (by omega)).trans (by omega)
  have t9 : (mv_i S64 3 9).toInt = w61.toInt := by rw [eS64]; rfl
  have kp := Eq.trans (show mv_a S64 4 = mv_a _ 4 by rw [eS64]; rfl) kp
  have k6 := Eq.trans (show mv_b S64 6 = mv_b _ 6 by rw [eS64]; rfl) k6
  have hW2 : WN 145 48 S64 n th sl no := by rw [eS64]; exact hW2.tk3 hP _ _ _
  clear eS64
  refine mv_ldc (pc := 64) (v := 65536) B (B.2.2.2.1 _ k_1324) d_Weaver_file_64 ?_
  refine mv_callVi (pc := 66) (n := 2) (ci := 1) (C := R_Weaver) B (mK_ok sk sv) hNs rfl rfl (c_Weaver_numberUpTo l hi _ _ _ hR.1 y61.1 (by omega) (by decide)) rfl (ma_goodc kc_Weaver_numberUpTo) (B.2.2.2.1 _ k_1304) (B.2.2.2.1 _ k_1306) (B.2.2.2.1 _ ks_35) (B.2.2.2.1 _ k_2) ⟨by decide +kernel, by decide +kernel, by decide +kernel⟩ rfl d_Weaver_file_66 rfl (Nat.le_of_ble_eq_true rfl) ⟨by decide, by decide⟩ ⟨by decide, by decide⟩ ⟨by decide, by decide⟩ (mv_noH hno _) (fun v66 σ66 h66 => ?_)
  obtain ⟨x66, y66, e66, z66, u66⟩ := num_n (by decide) h66
  subst e66
  have u66 : 0 ≤ v66.toInt ∧ v66.toInt ≤ 65536 := u66
  refine mv_gen (fun S69 eS69 => ?_)
  have hR : Rw 145 (mv_r S69) := by rw [eS69]; exact hR
  have hF : IF 145 σ S69 := by rw [eS69]; exact hF.tell _ _
  have hN : mv_i S69 21 0 = 0 → mv_i σ 21 0 = 0 := by rw [eS69]; exact fun q => hN (z66 q)
  have t7 := Eq.trans (congrArg Int32.toInt (show mv_i S69 3 7 = mv_i _ 3 7 by rw [eS69]; rfl)) t7
  have t8 := Eq.trans (congrArg Int32.toInt (show mv_i S69 3 8 = mv_i _ 3 8 by rw [eS69]; rfl)) t8
  have t9 := Eq.trans (congrArg Int32.toInt (show mv_i S69 3 9 = mv_i _ 3 9 by rw [eS69]; rfl)) t9
  have kp := Eq.trans (show mv_a S69 4 = mv_a _ 4 by rw [eS69]; rfl) kp
  have k6 := Eq.trans (show mv_b S69 6 = mv_b _ 6 by rw [eS69]; rfl) k6
  have hW2 : WN 145 48 S69 n th sl no := by rw [eS69]; exact hW2.tell hP _ _
  clear eS69
  refine mv_istore_n (pc := 69) B d_Weaver_file_69 rfl (by decide) rfl ?_
  refine mv_aload_n (pc := 70) B d_Weaver_file_70 rfl 3 rfl ?_
  refine mv_getR (pc := 71) (ci := 1) (C := R_Weaver) (T := F_Weaver) (N := 16) B 0 rfl rfl (by decide) i_Weaver (B.2.2.2.1 _ k_228) rfl (hR.1 _ 0 _ rfl) d_Weaver_file_71 ?_
  refine mv_bipush (pc := 74) (v := 93) B d_Weaver_file_74 (by decide) ?_
  refine mv_callVi (pc := 76) (n := 1) (ci := 2) (C := R_Tokens) B (mK_ok sk sv) hNs rfl rfl (c_Tokens_takeN l hi _ _ hR.1 (hG.2.2.1.wt hF.wt hP ht2) (by omega) (by omega) (by decide)) rfl (ma_goodc kc_Tokens_take) (B.2.2.2.1 _ k_1266) (B.2.2.2.1 _ k_1267) (B.2.2.2.1 _ k_1268) (B.2.2.2.1 _ k_3) ⟨by decide +kernel, by decide +kernel, by decide +kernel⟩ rfl d_Weaver_file_76 rfl (Nat.le_of_ble_eq_true rfl) ⟨by decide, by decide⟩ ⟨by decide, by decide⟩ ⟨by decide, by decide⟩ (mv_noH hno _) (fun v76 σ76 h76 => ?_)
  obtain ⟨a76, w76, e76, r76⟩ := h76
  have q76 := r76.1
  have z76 := fun q => (r76.2.1 q).1
  have y76 := And.intro r76.2.2.2.1 r76.2.2.2.2.1
  subst e76
  refine mv_gen (fun S79 eS79 => ?_)
  have hR : Rw 145 (mv_r S79) := by rw [eS79]; exact hR
  have hF : IF 145 σ S79 := by rw [eS79]; exact hF.tk3 _ _ _
  have hN : mv_i S79 21 0 = 0 → mv_i σ 21 0 = 0 := by rw [eS79]; exact hN
  have t7 : (mv_i S79 3 7).toInt = a76.toInt := by rw [eS79]; rfl
  have t8 : (mv_i S79 3 8).toInt = (mv_i σ 3 8).toInt := by rw [eS79]; first | exact t8 | exact (sub_one (by omega)).trans (by omega) | exact (i32_inc (by omega)).trans (by omega)
  have t9 : (mv_i S79 3 9).toInt = w76.toInt := by rw [eS79]; rfl
  have kp := Eq.trans (show mv_a S79 4 = mv_a _ 4 by rw [eS79]; rfl) kp
  have k6 := Eq.trans (show mv_b S79 6 = mv_b _ 6 by rw [eS79]; rfl) k6
  have hW2 : WN 145 48 S79 n th sl no := by rw [eS79]; exact hW2.tk3 hP _ _ _
  clear eS79
  refine mv_pop (pc := 79) B d_Weaver_file_79 rfl ?_
  refine mv_aload_n (pc := 80) B d_Weaver_file_80 rfl 3 rfl ?_
  refine mv_getR (pc := 81) (ci := 1) (C := R_Weaver) (T := F_Weaver) (N := 16) B 0 rfl rfl (by decide) i_Weaver (B.2.2.2.1 _ k_228) rfl (hR.1 _ 0 _ rfl) d_Weaver_file_81 ?_
  refine mv_callVi (pc := 84) (n := 0) (ci := 2) (C := R_Tokens) B (mK_ok sk sv) hNs rfl rfl (c_Tokens_kind l hi _ hR.1 (i32_in (by omega) (by omega))) rfl (ma_goodc kc_Tokens_kind) (B.2.2.2.1 _ k_1299) (B.2.2.2.1 _ k_1271) (B.2.2.2.1 _ k_1272) (B.2.2.2.1 _ k_3) ⟨by decide +kernel, by decide +kernel, by decide +kernel⟩ rfl d_Weaver_file_84 rfl (Nat.le_of_ble_eq_true rfl) ⟨by decide, by decide⟩ ⟨by decide, by decide⟩ ⟨by decide, by decide⟩ (mv_noH hno _) (fun v84 σ84 h84 => ?_)
  obtain ⟨e84, -⟩ := h84
  have e84 := e84.symm
  subst e84
  refine mv_sipush (pc := 87) (v := 203) B d_Weaver_file_87 (by decide) ?_
  refine mv_icmp_ne (pc := 90) (tgt := 97) B d_Weaver_file_90 rfl (fun h90 => ?_) (fun h90 => ?_)
  · skip
    refine mv_iconst (pc := 97) (v := 0) B d_Weaver_file_97 (by decide) ?_
    refine mv_lpick [1, 0, 2, 3] rfl ?_
    exact j98 _ _ _ _ _ hR hF hN hW2 (by omega) t8 kp k6 sy16 y16 u66
  · skip
    refine mv_iconst (pc := 93) (v := 1) B d_Weaver_file_93 (by decide) ?_
    refine mv_goto (pc := 94) (tgt := 98) B d_Weaver_file_94 rfl ?_
    refine mv_lpick [1, 0, 2, 3] rfl ?_
    exact j98 _ _ _ _ _ hR hF hN hW2 (by omega) t8 kp k6 sy16 y16 u66
def y_Weaver_fetch : MethodName := ⟨"MachineLoom$Weaver", "fetch", "()V"⟩
abbrev b_Weaver_fetch : ByteArray := prog_12_method_12_code
theorem kc_Weaver_fetch : Cond.code y_Weaver_fetch b_Weaver_fetch 6 (Option.none : Option Jvm.ClassFile.FieldType) ∈ ma := ma_of (tb_6 _ (List.mem_of_getElem? (i := 140) rfl)) rfl
theorem k_138 : (Jvm.Cond.fieldLink "MachineLoom$Weaver" (209 : Nat) "MachineLoom$Names" "indexes" "[I") ∈ ma := ma_of (tb_1 _ (List.mem_of_getElem? (i := 138) rfl)) rfl
theorem k_321 : (Jvm.Cond.fieldLink "MachineLoom$Weaver" (212 : Nat) "MachineLoom$Program" "widths" "[I") ∈ ma := ma_of (tb_2 _ (List.mem_of_getElem? (i := 81) rfl)) rfl
theorem k_339 : (Jvm.Cond.fieldLink "MachineLoom$Weaver" (215 : Nat) "MachineLoom$Program" "fetchRegister" "I") ∈ ma := ma_of (tb_2 _ (List.mem_of_getElem? (i := 99) rfl)) rfl
theorem k_342 : (Jvm.Cond.fieldLink "MachineLoom$Weaver" (206 : Nat) "MachineLoom$Program" "fetchFile" "I") ∈ ma := ma_of (tb_2 _ (List.mem_of_getElem? (i := 102) rfl)) rfl
theorem d_Weaver_fetch_0 : decode b_Weaver_fetch 0 = .ok (.aload_n 0, 1) := by decide +kernel
theorem d_Weaver_fetch_1 : decode b_Weaver_fetch 1 = .ok (.getfield 12, 3) := by decide +kernel
theorem d_Weaver_fetch_4 : decode b_Weaver_fetch 4 = .ok (.sipush 204, 3) := by decide +kernel
theorem d_Weaver_fetch_7 : decode b_Weaver_fetch 7 = .ok (.invokevirtual 143, 3) := by decide +kernel
theorem d_Weaver_fetch_10 : decode b_Weaver_fetch 10 = .ok (.istore_n 1, 1) := by decide +kernel
theorem d_Weaver_fetch_11 : decode b_Weaver_fetch 11 = .ok (.aload_n 0, 1) := by decide +kernel
theorem d_Weaver_fetch_12 : decode b_Weaver_fetch 12 = .ok (.getfield 12, 3) := by decide +kernel
theorem d_Weaver_fetch_15 : decode b_Weaver_fetch 15 = .ok (.iconst 3, 1) := by decide +kernel
theorem d_Weaver_fetch_16 : decode b_Weaver_fetch 16 = .ok (.invokevirtual 143, 3) := by decide +kernel
theorem d_Weaver_fetch_19 : decode b_Weaver_fetch 19 = .ok (.istore_n 2, 1) := by decide +kernel
theorem d_Weaver_fetch_20 : decode b_Weaver_fetch 20 = .ok (.aload_n 0, 1) := by decide +kernel
theorem d_Weaver_fetch_21 : decode b_Weaver_fetch 21 = .ok (.getfield 12, 3) := by decide +kernel
theorem d_Weaver_fetch_24 : decode b_Weaver_fetch 24 = .ok (.sipush 205, 3) := by decide +kernel
theorem d_Weaver_fetch_27 : decode b_Weaver_fetch 27 = .ok (.invokevirtual 143, 3) := by decide +kernel
theorem d_Weaver_fetch_30 : decode b_Weaver_fetch 30 = .ok (.pop, 1) := by decide +kernel
theorem d_Weaver_fetch_31 : decode b_Weaver_fetch 31 = .ok (.aload_n 0, 1) := by decide +kernel
theorem d_Weaver_fetch_32 : decode b_Weaver_fetch 32 = .ok (.getfield 12, 3) := by decide +kernel
theorem d_Weaver_fetch_35 : decode b_Weaver_fetch 35 = .ok (.iconst 3, 1) := by decide +kernel
theorem d_Weaver_fetch_36 : decode b_Weaver_fetch 36 = .ok (.invokevirtual 143, 3) := by decide +kernel
theorem d_Weaver_fetch_39 : decode b_Weaver_fetch 39 = .ok (.istore_n 3, 1) := by decide +kernel
theorem d_Weaver_fetch_40 : decode b_Weaver_fetch 40 = .ok (.aload_n 0, 1) := by decide +kernel
theorem d_Weaver_fetch_41 : decode b_Weaver_fetch 41 = .ok (.getfield 12, 3) := by decide +kernel
theorem d_Weaver_fetch_44 : decode b_Weaver_fetch 44 = .ok (.bipush 59, 2) := by decide +kernel
theorem d_Weaver_fetch_46 : decode b_Weaver_fetch 46 = .ok (.invokevirtual 143, 3) := by decide +kernel
theorem d_Weaver_fetch_49 : decode b_Weaver_fetch 49 = .ok (.pop, 1) := by decide +kernel
theorem d_Weaver_fetch_50 : decode b_Weaver_fetch 50 = .ok (.aload_n 0, 1) := by decide +kernel
theorem d_Weaver_fetch_51 : decode b_Weaver_fetch 51 = .ok (.getfield 12, 3) := by decide +kernel
theorem d_Weaver_fetch_54 : decode b_Weaver_fetch 54 = .ok (.invokevirtual 79, 3) := by decide +kernel
theorem d_Weaver_fetch_57 : decode b_Weaver_fetch 57 = .ok (.ifCond .ne (4), 3) := by decide +kernel
theorem d_Weaver_fetch_60 : decode b_Weaver_fetch 60 = .ok (.return_, 1) := by decide +kernel
theorem d_Weaver_fetch_61 : decode b_Weaver_fetch 61 = .ok (.aload_n 0, 1) := by decide +kernel
theorem d_Weaver_fetch_62 : decode b_Weaver_fetch 62 = .ok (.getfield 113, 3) := by decide +kernel
theorem d_Weaver_fetch_65 : decode b_Weaver_fetch 65 = .ok (.getfield 206, 3) := by decide +kernel
theorem d_Weaver_fetch_68 : decode b_Weaver_fetch 68 = .ok (.ifCond .lt (10), 3) := by decide +kernel
theorem d_Weaver_fetch_71 : decode b_Weaver_fetch 71 = .ok (.aload_n 0, 1) := by decide +kernel
theorem d_Weaver_fetch_72 : decode b_Weaver_fetch 72 = .ok (.iload_n 1, 1) := by decide +kernel
theorem d_Weaver_fetch_73 : decode b_Weaver_fetch 73 = .ok (.bipush 6, 2) := by decide +kernel
theorem d_Weaver_fetch_75 : decode b_Weaver_fetch 75 = .ok (.invokevirtual 158, 3) := by decide +kernel
theorem d_Weaver_fetch_78 : decode b_Weaver_fetch 78 = .ok (.aload_n 0, 1) := by decide +kernel
theorem d_Weaver_fetch_79 : decode b_Weaver_fetch 79 = .ok (.getfield 27, 3) := by decide +kernel
theorem d_Weaver_fetch_82 : decode b_Weaver_fetch 82 = .ok (.getfield 209, 3) := by decide +kernel
theorem d_Weaver_fetch_85 : decode b_Weaver_fetch 85 = .ok (.aload_n 0, 1) := by decide +kernel
theorem d_Weaver_fetch_86 : decode b_Weaver_fetch 86 = .ok (.iload_n 2, 1) := by decide +kernel
theorem d_Weaver_fetch_87 : decode b_Weaver_fetch 87 = .ok (.invokevirtual 185, 3) := by decide +kernel
theorem d_Weaver_fetch_90 : decode b_Weaver_fetch 90 = .ok (.iaload, 1) := by decide +kernel
theorem d_Weaver_fetch_91 : decode b_Weaver_fetch 91 = .ok (.istore 4, 2) := by decide +kernel
theorem d_Weaver_fetch_93 : decode b_Weaver_fetch 93 = .ok (.aload_n 0, 1) := by decide +kernel
theorem d_Weaver_fetch_94 : decode b_Weaver_fetch 94 = .ok (.getfield 27, 3) := by decide +kernel
theorem d_Weaver_fetch_97 : decode b_Weaver_fetch 97 = .ok (.getfield 209, 3) := by decide +kernel
theorem d_Weaver_fetch_100 : decode b_Weaver_fetch 100 = .ok (.aload_n 0, 1) := by decide +kernel
theorem d_Weaver_fetch_101 : decode b_Weaver_fetch 101 = .ok (.iload_n 3, 1) := by decide +kernel
theorem d_Weaver_fetch_102 : decode b_Weaver_fetch 102 = .ok (.invokevirtual 185, 3) := by decide +kernel
theorem d_Weaver_fetch_105 : decode b_Weaver_fetch 105 = .ok (.iaload, 1) := by decide +kernel
theorem d_Weaver_fetch_106 : decode b_Weaver_fetch 106 = .ok (.istore 5, 2) := by decide +kernel
theorem d_Weaver_fetch_108 : decode b_Weaver_fetch 108 = .ok (.aload_n 0, 1) := by decide +kernel
theorem d_Weaver_fetch_109 : decode b_Weaver_fetch 109 = .ok (.getfield 27, 3) := by decide +kernel
theorem d_Weaver_fetch_112 : decode b_Weaver_fetch 112 = .ok (.aload_n 0, 1) := by decide +kernel
theorem d_Weaver_fetch_113 : decode b_Weaver_fetch 113 = .ok (.iload_n 2, 1) := by decide +kernel
theorem d_Weaver_fetch_114 : decode b_Weaver_fetch 114 = .ok (.invokevirtual 185, 3) := by decide +kernel
theorem d_Weaver_fetch_117 : decode b_Weaver_fetch 117 = .ok (.invokevirtual 200, 3) := by decide +kernel
theorem d_Weaver_fetch_120 : decode b_Weaver_fetch 120 = .ok (.iconst 1, 1) := by decide +kernel
theorem d_Weaver_fetch_121 : decode b_Weaver_fetch 121 = .ok (.if_icmp .eq (12), 3) := by decide +kernel
theorem d_Weaver_fetch_124 : decode b_Weaver_fetch 124 = .ok (.aload_n 0, 1) := by decide +kernel
theorem d_Weaver_fetch_125 : decode b_Weaver_fetch 125 = .ok (.iload_n 2, 1) := by decide +kernel
theorem d_Weaver_fetch_126 : decode b_Weaver_fetch 126 = .ok (.iconst 2, 1) := by decide +kernel
theorem d_Weaver_fetch_127 : decode b_Weaver_fetch 127 = .ok (.invokevirtual 158, 3) := by decide +kernel
theorem d_Weaver_fetch_130 : decode b_Weaver_fetch 130 = .ok (.goto (61), 3) := by decide +kernel
theorem d_Weaver_fetch_133 : decode b_Weaver_fetch 133 = .ok (.aload_n 0, 1) := by decide +kernel
theorem d_Weaver_fetch_134 : decode b_Weaver_fetch 134 = .ok (.getfield 27, 3) := by decide +kernel
theorem d_Weaver_fetch_137 : decode b_Weaver_fetch 137 = .ok (.aload_n 0, 1) := by decide +kernel
theorem d_Weaver_fetch_138 : decode b_Weaver_fetch 138 = .ok (.iload_n 3, 1) := by decide +kernel
theorem d_Weaver_fetch_139 : decode b_Weaver_fetch 139 = .ok (.invokevirtual 185, 3) := by decide +kernel
theorem d_Weaver_fetch_142 : decode b_Weaver_fetch 142 = .ok (.invokevirtual 200, 3) := by decide +kernel
theorem d_Weaver_fetch_145 : decode b_Weaver_fetch 145 = .ok (.iconst 2, 1) := by decide +kernel
theorem d_Weaver_fetch_146 : decode b_Weaver_fetch 146 = .ok (.if_icmp .ne (18), 3) := by decide +kernel
theorem d_Weaver_fetch_149 : decode b_Weaver_fetch 149 = .ok (.aload_n 0, 1) := by decide +kernel
theorem d_Weaver_fetch_150 : decode b_Weaver_fetch 150 = .ok (.getfield 113, 3) := by decide +kernel
theorem d_Weaver_fetch_153 : decode b_Weaver_fetch 153 = .ok (.getfield 212, 3) := by decide +kernel
theorem d_Weaver_fetch_156 : decode b_Weaver_fetch 156 = .ok (.iload 5, 2) := by decide +kernel
theorem d_Weaver_fetch_158 : decode b_Weaver_fetch 158 = .ok (.iaload, 1) := by decide +kernel
theorem d_Weaver_fetch_159 : decode b_Weaver_fetch 159 = .ok (.bipush 8, 2) := by decide +kernel
theorem d_Weaver_fetch_161 : decode b_Weaver_fetch 161 = .ok (.if_icmp .eq (12), 3) := by decide +kernel
theorem d_Weaver_fetch_164 : decode b_Weaver_fetch 164 = .ok (.aload_n 0, 1) := by decide +kernel
theorem d_Weaver_fetch_165 : decode b_Weaver_fetch 165 = .ok (.iload_n 3, 1) := by decide +kernel
theorem d_Weaver_fetch_166 : decode b_Weaver_fetch 166 = .ok (.iconst 2, 1) := by decide +kernel
theorem d_Weaver_fetch_167 : decode b_Weaver_fetch 167 = .ok (.invokevirtual 158, 3) := by decide +kernel
theorem d_Weaver_fetch_170 : decode b_Weaver_fetch 170 = .ok (.goto (21), 3) := by decide +kernel
theorem d_Weaver_fetch_173 : decode b_Weaver_fetch 173 = .ok (.aload_n 0, 1) := by decide +kernel
theorem d_Weaver_fetch_174 : decode b_Weaver_fetch 174 = .ok (.getfield 113, 3) := by decide +kernel
theorem d_Weaver_fetch_177 : decode b_Weaver_fetch 177 = .ok (.iload 4, 2) := by decide +kernel
theorem d_Weaver_fetch_179 : decode b_Weaver_fetch 179 = .ok (.putfield 215, 3) := by decide +kernel
theorem d_Weaver_fetch_182 : decode b_Weaver_fetch 182 = .ok (.aload_n 0, 1) := by decide +kernel
theorem d_Weaver_fetch_183 : decode b_Weaver_fetch 183 = .ok (.getfield 113, 3) := by decide +kernel
theorem d_Weaver_fetch_186 : decode b_Weaver_fetch 186 = .ok (.iload 5, 2) := by decide +kernel
theorem d_Weaver_fetch_188 : decode b_Weaver_fetch 188 = .ok (.putfield 206, 3) := by decide +kernel
theorem d_Weaver_fetch_191 : decode b_Weaver_fetch 191 = .ok (.return_, 1) := by decide +kernel
set_option maxHeartbeats 4000000 in
set_option maxRecDepth 100000 in
theorem c_Weaver_fetch_a (l : Launch) {dA : FieldType → ClassId} {D : va_G} {al : Nat → Nat} {ext : mv_Sh} {sk sv : Nat → Nat} (hi : mv_inj (mg dA D al ext)) (σ : mv_H) {t tn len n z sz th sl s0 a ns no : Nat} (hG : WG 32 32768 512 ext σ t tn len n z sz) (hM : Mt (mv_a σ 24)) (hW : WN 32 512 σ n th sl no) (hS : WS 32 σ sz th s0 a ns no []) (hm0 : mv_i σ 2 6 = 0) (hk3 : mv_a σ 4 (mv_i σ 3 7).toNatClampNeg = 204) : mv_C l y_Weaver_fetch (Cond.code y_Weaver_fetch b_Weaver_fetch 6 (Option.none : Option Jvm.ClassFile.FieldType) :: ma) ({ frames := 2, cells := 0, slots := 0, locals := 44 }) (mg dA D al ext) (mK sk sv) [.ref (al 2)] σ (mv_Rv (fun σ1 => TP 32 512 σ σ1 n sz a)) := by
  refine mv_C.ofV (cc := b_Weaver_fetch) (nL := 6) (ret := (Option.none : Option Jvm.ClassFile.FieldType)) (by decide +kernel) rfl hi (Nat.le_of_ble_eq_true rfl) ?_
  intro p e s m below meth c B hNs hr hnm hno
  have hP : PQ 32 := by unfold PQ; omega
  have hR := hG.1
  have ht2 := hG.2.1.2.2.2.2.2.2
  have hF : IF 32 σ σ := Fr.rf
  have hN : mv_i σ 21 0 = 0 → mv_i σ 21 0 = 0 := fun q => q
  have hE := hG.2.2.1
  have hsz := hE.2.2.2.2.2
  have hsz2 := hE.2.2.2.1
  have hlen := hG.2.2.2.2.1
  have hlen2 := hG.2.2.2.2.2
  have t7 := hS.1.1
  have hw9 := hS.1.2.1
  have ha9 := hS.1.2.2.2.2.1
  have t9 : (mv_i σ 3 9).toInt = (mv_i σ 3 9).toInt := rfl
  have t8 : (mv_i σ 3 8).toInt = (mv_i σ 3 8).toInt := rfl
  have kp : mv_a σ 4 = mv_a σ 4 := rfl
  have k6 : mv_b σ 6 = mv_b σ 6 := rfl
  have hs5 := hS.1.2.2.2.2.2.1
  have hs6 := hS.1.2.2.2.2.2.2.1
  have hd8 := hS.1.2.2.1
  have hd9 := hS.1.2.2.2.1
  have j78 : ∀ (υ : mv_H) (tk1 : Int32) (tk2 : Int32) (tk3 : Int32) (hR : Rw 32 (mv_r υ)) (hF : IF 32 σ υ) (hN : mv_i υ 21 0 = 0 → mv_i σ 21 0 = 0) (hW2 : WN 32 512 υ n th sl no) (t7 : (mv_i υ 3 7).toInt < sz ∧ a + 1 ≤ (mv_i υ 3 7).toInt) (t8 : (mv_i υ 3 8).toInt = (mv_i σ 3 8).toInt) (hw : (mv_i υ 3 9).toInt < 0) (k6 : mv_b υ 6 = mv_b σ 6) (b2 : 0 ≤ tk2.toInt ∧ tk2.toInt < sz) (b3 : 0 ≤ tk3.toInt ∧ tk3.toInt < sz) (sy2 : 0 ≤ (mv_b υ 6 tk2.toNatClampNeg).toInt ∧ (mv_b υ 6 tk2.toNatClampNeg).toInt < n) (sy3 : 0 ≤ (mv_b υ 6 tk3.toNatClampNeg).toInt ∧ (mv_b υ 6 tk3.toNatClampNeg).toInt < n), mv_V p l e ({ frames := 2, cells := 0, slots := 0, locals := 44 }) s m ([.ref (al 2)] : List Value).toArray below meth c (mg dA D al ext) 6 0 0 (mv_Q (mg dA D al ext) below s 0 0 (mv_Rv (fun σ1 => TP 32 512 σ σ1 n sz a))) υ 78 [(3, .int tk3), (2, .int tk2), (1, .int tk1), (0, .ref (al 2))] [] := by
    intro υ tk1 tk2 tk3 hR hF hN hW2 t7 t8 hw k6 b2 b3 sy2 sy3
    have hn16 := hG.2.2.1.1.2.1
    have ht64 := hW2.2.1.2.1
    have l2tk2 := l2i_nn (x := mv_b υ 6 tk2.toNatClampNeg) sy2.1 (by omega)
    have l2tk3 := l2i_nn (x := mv_b υ 6 tk3.toNatClampNeg) sy3.1 (by omega)
    refine mv_aload_n (pc := 78) B d_Weaver_fetch_78 rfl 3 rfl ?_
    refine mv_getR (pc := 79) (ci := 1) (C := R_Weaver) (T := F_Weaver) (N := 16) B 1 rfl rfl (by decide) i_Weaver (B.2.2.2.1 _ k_229) rfl (hR.1 _ 1 _ rfl) d_Weaver_fetch_79 ?_
    refine mv_getR (pc := 82) (ci := 4) (C := R_Names) (T := F_Names) (N := 10) B 2 rfl rfl (by decide) i_Names (B.2.2.2.1 _ k_138) rfl (hR.1 _ 2 _ rfl) d_Weaver_fetch_82 ?_
    refine mv_aload_n (pc := 85) B d_Weaver_fetch_85 rfl 3 rfl ?_
    refine mv_iload_n (pc := 86) B d_Weaver_fetch_86 rfl 1 rfl ?_
    refine mv_callVi (pc := 87) (n := 1) (ci := 1) (C := R_Weaver) B (mK_ok sk sv) hNs rfl rfl (c_Weaver_symbolOf l hi _ _ hR.1 b2.1 (by omega)) rfl (ma_goodc kc_Weaver_symbolOf) (B.2.2.2.1 _ k_1312) (B.2.2.2.1 _ k_1314) (B.2.2.2.1 _ ks_37) (B.2.2.2.1 _ k_2) ⟨by decide +kernel, by decide +kernel, by decide +kernel⟩ rfl d_Weaver_fetch_87 rfl (Nat.le_of_ble_eq_true rfl) ⟨by decide, by decide⟩ ⟨by decide, by decide⟩ ⟨by decide, by decide⟩ (mv_noH hno _) (fun v87 σ87 h87 => ?_)
    obtain ⟨e87, z87⟩ := h87
    have e87 := e87.symm
    subst e87
    have u87 : v87.toInt = (mv_b υ 6 tk2.toNatClampNeg).toInt := by rw [z87]; exact l2tk2
    refine mv_iald (pc := 90) B rfl (i32_in (by omega) (by omega)) d_Weaver_fetch_90 ?_
    refine mv_istore (pc := 91) B d_Weaver_fetch_91 (by decide) rfl ?_
    refine mv_aload_n (pc := 93) B d_Weaver_fetch_93 rfl 4 rfl ?_
    refine mv_getR (pc := 94) (ci := 1) (C := R_Weaver) (T := F_Weaver) (N := 16) B 1 rfl rfl (by decide) i_Weaver (B.2.2.2.1 _ k_229) rfl (hR.1 _ 1 _ rfl) d_Weaver_fetch_94 ?_
    refine mv_getR (pc := 97) (ci := 4) (C := R_Names) (T := F_Names) (N := 10) B 2 rfl rfl (by decide) i_Names (B.2.2.2.1 _ k_138) rfl (hR.1 _ 2 _ rfl) d_Weaver_fetch_97 ?_
    refine mv_aload_n (pc := 100) B d_Weaver_fetch_100 rfl 4 rfl ?_
    refine mv_iload_n (pc := 101) B d_Weaver_fetch_101 rfl 1 rfl ?_
    refine mv_callVi (pc := 102) (n := 1) (ci := 1) (C := R_Weaver) B (mK_ok sk sv) hNs rfl rfl (c_Weaver_symbolOf l hi _ _ hR.1 b3.1 (by omega)) rfl (ma_goodc kc_Weaver_symbolOf) (B.2.2.2.1 _ k_1312) (B.2.2.2.1 _ k_1314) (B.2.2.2.1 _ ks_37) (B.2.2.2.1 _ k_2) ⟨by decide +kernel, by decide +kernel, by decide +kernel⟩ rfl d_Weaver_fetch_102 rfl (Nat.le_of_ble_eq_true rfl) ⟨by decide, by decide⟩ ⟨by decide, by decide⟩ ⟨by decide, by decide⟩ (mv_noH hno _) (fun v102 σ102 h102 => ?_)
    obtain ⟨e102, z102⟩ := h102
    have e102 := e102.symm
    subst e102
    have u102 : v102.toInt = (mv_b υ 6 tk3.toNatClampNeg).toInt := by rw [z102]; exact l2tk3
    refine mv_iald (pc := 105) B rfl (i32_in (by omega) (by omega)) d_Weaver_fetch_105 ?_
    refine mv_istore (pc := 106) B d_Weaver_fetch_106 (by decide) rfl ?_
    refine mv_aload_n (pc := 108) B d_Weaver_fetch_108 rfl 5 rfl ?_
    refine mv_getR (pc := 109) (ci := 1) (C := R_Weaver) (T := F_Weaver) (N := 16) B 1 rfl rfl (by decide) i_Weaver (B.2.2.2.1 _ k_229) rfl (hR.1 _ 1 _ rfl) d_Weaver_fetch_109 ?_
    refine mv_aload_n (pc := 112) B d_Weaver_fetch_112 rfl 5 rfl ?_
    refine mv_iload_n (pc := 113) B d_Weaver_fetch_113 rfl 3 rfl ?_
    refine mv_callVi (pc := 114) (n := 1) (ci := 1) (C := R_Weaver) B (mK_ok sk sv) hNs rfl rfl (c_Weaver_symbolOf l hi _ _ hR.1 b2.1 (by omega)) rfl (ma_goodc kc_Weaver_symbolOf) (B.2.2.2.1 _ k_1312) (B.2.2.2.1 _ k_1314) (B.2.2.2.1 _ ks_37) (B.2.2.2.1 _ k_2) ⟨by decide +kernel, by decide +kernel, by decide +kernel⟩ rfl d_Weaver_fetch_114 rfl (Nat.le_of_ble_eq_true rfl) ⟨by decide, by decide⟩ ⟨by decide, by decide⟩ ⟨by decide, by decide⟩ (mv_noH hno _) (fun v114 σ114 h114 => ?_)
    obtain ⟨e114, z114⟩ := h114
    have e114 := e114.symm
    subst e114
    have u114 : v114.toInt = (mv_b υ 6 tk2.toNatClampNeg).toInt := by rw [z114]; exact l2tk2
    refine mv_callVi (pc := 117) (n := 1) (ci := 4) (C := R_Names) B (mK_ok sk sv) hNs rfl rfl (c_Names_kindOf l hi _ _ hR.1 n z (hG.2.2.1.wt hF.wt hP ht2).1 (by omega) (by omega)) rfl (ma_goodc kc_Names_kindOf) (B.2.2.2.1 _ k_1316) (B.2.2.2.1 _ k_1317) (B.2.2.2.1 _ k_1318) (B.2.2.2.1 _ k_5) ⟨by decide +kernel, by decide +kernel, by decide +kernel⟩ rfl d_Weaver_fetch_117 rfl (Nat.le_of_ble_eq_true rfl) ⟨by decide, by decide⟩ ⟨by decide, by decide⟩ ⟨by decide, by decide⟩ (mv_noH hno _) (fun v117 σ117 h117 => ?_)
    obtain ⟨e117, z117⟩ := h117
    have e117 := e117.symm
    subst e117
    refine mv_iconst (pc := 120) (v := 1) B d_Weaver_fetch_120 (by decide) ?_
    refine mv_icmp_eq (pc := 121) (tgt := 133) B d_Weaver_fetch_121 rfl (fun h121 => ?_) (fun h121 => ?_)
    · skip
      have q2 : v114 = v87 := z114.trans z87.symm
      have n2 := (hW2.1 v87.toNatClampNeg (by have := i32_cl (x := v87) (by omega); omega)).1 (Or.inl (by rw [q2] at z117; exact (z117.resolve_left (fun q => by rw [q] at h121; exact absurd h121 (by decide))).symm.trans h121))
      refine mv_aload_n (pc := 133) B d_Weaver_fetch_133 rfl 5 rfl ?_
      refine mv_getR (pc := 134) (ci := 1) (C := R_Weaver) (T := F_Weaver) (N := 16) B 1 rfl rfl (by decide) i_Weaver (B.2.2.2.1 _ k_229) rfl (hR.1 _ 1 _ rfl) d_Weaver_fetch_134 ?_
      refine mv_aload_n (pc := 137) B d_Weaver_fetch_137 rfl 5 rfl ?_
      refine mv_iload_n (pc := 138) B d_Weaver_fetch_138 rfl 2 rfl ?_
      refine mv_callVi (pc := 139) (n := 1) (ci := 1) (C := R_Weaver) B (mK_ok sk sv) hNs rfl rfl (c_Weaver_symbolOf l hi _ _ hR.1 b3.1 (by omega)) rfl (ma_goodc kc_Weaver_symbolOf) (B.2.2.2.1 _ k_1312) (B.2.2.2.1 _ k_1314) (B.2.2.2.1 _ ks_37) (B.2.2.2.1 _ k_2) ⟨by decide +kernel, by decide +kernel, by decide +kernel⟩ rfl d_Weaver_fetch_139 rfl (Nat.le_of_ble_eq_true rfl) ⟨by decide, by decide⟩ ⟨by decide, by decide⟩ ⟨by decide, by decide⟩ (mv_noH hno _) (fun v139 σ139 h139 => ?_)
      obtain ⟨e139, z139⟩ := h139
      have e139 := e139.symm
      subst e139
      have u139 : v139.toInt = (mv_b υ 6 tk3.toNatClampNeg).toInt := by rw [z139]; exact l2tk3
      refine mv_callVi (pc := 142) (n := 1) (ci := 4) (C := R_Names) B (mK_ok sk sv) hNs rfl rfl (c_Names_kindOf l hi _ _ hR.1 n z (hG.2.2.1.wt hF.wt hP ht2).1 (by omega) (by omega)) rfl (ma_goodc kc_Names_kindOf) (B.2.2.2.1 _ k_1316) (B.2.2.2.1 _ k_1317) (B.2.2.2.1 _ k_1318) (B.2.2.2.1 _ k_5) ⟨by decide +kernel, by decide +kernel, by decide +kernel⟩ rfl d_Weaver_fetch_142 rfl (Nat.le_of_ble_eq_true rfl) ⟨by decide, by decide⟩ ⟨by decide, by decide⟩ ⟨by decide, by decide⟩ (mv_noH hno _) (fun v142 σ142 h142 => ?_)
      obtain ⟨e142, z142⟩ := h142
      have e142 := e142.symm
      subst e142
      refine mv_iconst (pc := 145) (v := 2) B d_Weaver_fetch_145 (by decide) ?_
      refine mv_icmp_ne (pc := 146) (tgt := 164) B d_Weaver_fetch_146 rfl (fun h146 => ?_) (fun h146 => ?_)
      · skip
        refine mv_aload_n (pc := 164) B d_Weaver_fetch_164 rfl 5 rfl ?_
        refine mv_iload_n (pc := 165) B d_Weaver_fetch_165 rfl 2 rfl ?_
        refine mv_iconst (pc := 166) (v := 2) B d_Weaver_fetch_166 (by decide) ?_
        refine mv_callVv (pc := 167) (n := 2) (ci := 1) (C := R_Weaver) B (mK_ok sk sv) hNs rfl rfl (c_Weaver_tell l hi _ _ _ hR.1 b3.1 (by omega) (by decide)) rfl (ma_goodc kc_Weaver_tell) (B.2.2.2.1 _ k_1282) (B.2.2.2.1 _ k_1284) (B.2.2.2.1 _ ks_32) (B.2.2.2.1 _ k_2) ⟨by decide +kernel, by decide +kernel, by decide +kernel⟩ rfl d_Weaver_fetch_167 rfl (Nat.le_of_ble_eq_true rfl) ⟨by decide, by decide⟩ ⟨by decide, by decide⟩ ⟨by decide, by decide⟩ (mv_noH hno _) (fun σ167 h167 => ?_)
        obtain ⟨x9, y9, q1, q2⟩ := h167
        subst q1
        have hend : TP 32 512 σ (ex_tell υ x9 y9) n sz a := by
          have hF := hF.tell x9 y9
          exact ⟨hF.wt, by rw [hF.2.1 24 (by decide)]; exact hM, th, sl, no, hW2.tell hP _ _, Or.inr ⟨(mv_i υ 3 7).toInt.toNat, by omega, Or.inl ⟨(hF.1 2 6 (by decide)).trans hm0, s0, ns, hS.it hF hP (show (mv_i υ 3 7).toInt = _ by omega) hw t8 (by omega) (by omega) (fun q => absurd q q2) (Nat.le_refl _)⟩⟩⟩
        refine mv_goto (pc := 170) (tgt := 191) B d_Weaver_fetch_170 rfl ?_
        exact mv_vret (pc := 191) B hr d_Weaver_fetch_191 (Nat.le_refl _) (Nat.le_refl _) ⟨rfl, hend⟩
      · skip
        have q3 : v139 = v102 := z139.trans z102.symm
        have n3 := (hW2.1 v102.toNatClampNeg (by have := i32_cl (x := v102) (by omega); omega)).1 (Or.inr (by rw [q3] at z142; exact (z142.resolve_left (fun q => by rw [q] at h146; exact absurd h146 (by decide))).symm.trans h146))
        refine mv_aload_n (pc := 149) B d_Weaver_fetch_149 rfl 5 rfl ?_
        refine mv_getR (pc := 150) (ci := 1) (C := R_Weaver) (T := F_Weaver) (N := 16) B 5 rfl rfl (by decide) i_Weaver (B.2.2.2.1 _ k_235) rfl hR.2.2.1 d_Weaver_fetch_150 ?_
        refine mv_getR (pc := 153) (ci := 7) (C := R_Program) (T := F_Program) (N := 19) B 2 rfl rfl (by decide) i_Program (B.2.2.2.1 _ k_321) rfl (hR.2.1 _ 2 33 rfl) d_Weaver_fetch_153 ?_
        refine mv_iload (pc := 156) B d_Weaver_fetch_156 0 rfl ?_
        refine mv_iald (pc := 158) B rfl (i32_in n3.1 (by omega)) d_Weaver_fetch_158 ?_
        refine mv_bipush (pc := 159) (v := 8) B d_Weaver_fetch_159 (by decide) ?_
        refine mv_icmp_eq (pc := 161) (tgt := 173) B d_Weaver_fetch_161 rfl (fun h161 => ?_) (fun h161 => ?_)
        · skip
          have hend : TP 32 512 σ (mv_si (mv_si υ 32 8 (mv_a υ 15 v87.toNatClampNeg)) 32 9 (mv_a υ 15 v102.toNatClampNeg)) n sz a := by
            have hF := (hF.p (k := 8) (by omega) (mv_a υ 15 v87.toNatClampNeg)).p (k := 9) (by omega) (mv_a υ 15 v102.toNatClampNeg)
            exact ⟨hF.wt, by rw [hF.2.1 24 (by decide)]; exact hM, th, sl, no, hW2.fetch hP n2 n3, Or.inr ⟨(mv_i υ 3 7).toInt.toNat, by omega, Or.inl ⟨(hF.1 2 6 (by decide)).trans hm0, s0, ns, hS.it hF hP (show (mv_i υ 3 7).toInt = _ by omega) hw t8 (by omega) (by omega) hN (Nat.le_refl _)⟩⟩⟩
          refine mv_aload_n (pc := 173) B d_Weaver_fetch_173 rfl 5 rfl ?_
          refine mv_getR (pc := 174) (ci := 1) (C := R_Weaver) (T := F_Weaver) (N := 16) B 5 rfl rfl (by decide) i_Weaver (B.2.2.2.1 _ k_235) rfl hR.2.2.1 d_Weaver_fetch_174 ?_
          refine mv_iload (pc := 177) B d_Weaver_fetch_177 1 rfl ?_
          refine mv_putI (pc := 179) (ci := 7) (C := R_Program) (T := F_Program) (N := 19) B 8 rfl rfl (by decide) i_Program t_Program_ok n_Program (B.2.2.2.1 _ k_339) rfl rfl rfl rfl d_Weaver_fetch_179 ?_
          refine mv_aload_n (pc := 182) B d_Weaver_fetch_182 rfl 5 rfl ?_
          refine mv_getR (pc := 183) (ci := 1) (C := R_Weaver) (T := F_Weaver) (N := 16) B 5 rfl rfl (by decide) i_Weaver (B.2.2.2.1 _ k_235) rfl hR.2.2.1 d_Weaver_fetch_183 ?_
          refine mv_iload (pc := 186) B d_Weaver_fetch_186 0 rfl ?_
          refine mv_putI (pc := 188) (ci := 7) (C := R_Program) (T := F_Program) (N := 19) B 9 rfl rfl (by decide) i_Program t_Program_ok n_Program (B.2.2.2.1 _ k_342) rfl rfl rfl rfl d_Weaver_fetch_188 ?_
          exact mv_vret (pc := 191) B hr d_Weaver_fetch_191 (Nat.le_refl _) (Nat.le_refl _) ⟨rfl, hend⟩
        · skip
          refine mv_aload_n (pc := 164) B d_Weaver_fetch_164 rfl 5 rfl ?_
          refine mv_iload_n (pc := 165) B d_Weaver_fetch_165 rfl 2 rfl ?_
          refine mv_iconst (pc := 166) (v := 2) B d_Weaver_fetch_166 (by decide) ?_
          refine mv_callVv (pc := 167) (n := 2) (ci := 1) (C := R_Weaver) B (mK_ok sk sv) hNs rfl rfl (c_Weaver_tell l hi _ _ _ hR.1 b3.1 (by omega) (by decide)) rfl (ma_goodc kc_Weaver_tell) (B.2.2.2.1 _ k_1282) (B.2.2.2.1 _ k_1284) (B.2.2.2.1 _ ks_32) (B.2.2.2.1 _ k_2) ⟨by decide +kernel, by decide +kernel, by decide +kernel⟩ rfl d_Weaver_fetch_167 rfl (Nat.le_of_ble_eq_true rfl) ⟨by decide, by decide⟩ ⟨by decide, by decide⟩ ⟨by decide, by decide⟩ (mv_noH hno _) (fun σ167 h167 => ?_)
          obtain ⟨x9, y9, q1, q2⟩ := h167
          subst q1
          have hend : TP 32 512 σ (ex_tell υ x9 y9) n sz a := by
            have hF := hF.tell x9 y9
            exact ⟨hF.wt, by rw [hF.2.1 24 (by decide)]; exact hM, th, sl, no, hW2.tell hP _ _, Or.inr ⟨(mv_i υ 3 7).toInt.toNat, by omega, Or.inl ⟨(hF.1 2 6 (by decide)).trans hm0, s0, ns, hS.it hF hP (show (mv_i υ 3 7).toInt = _ by omega) hw t8 (by omega) (by omega) (fun q => absurd q q2) (Nat.le_refl _)⟩⟩⟩
          refine mv_goto (pc := 170) (tgt := 191) B d_Weaver_fetch_170 rfl ?_
          exact mv_vret (pc := 191) B hr d_Weaver_fetch_191 (Nat.le_refl _) (Nat.le_refl _) ⟨rfl, hend⟩
    · skip
      refine mv_aload_n (pc := 124) B d_Weaver_fetch_124 rfl 5 rfl ?_
      refine mv_iload_n (pc := 125) B d_Weaver_fetch_125 rfl 3 rfl ?_
      refine mv_iconst (pc := 126) (v := 2) B d_Weaver_fetch_126 (by decide) ?_
      refine mv_callVv (pc := 127) (n := 2) (ci := 1) (C := R_Weaver) B (mK_ok sk sv) hNs rfl rfl (c_Weaver_tell l hi _ _ _ hR.1 b2.1 (by omega) (by decide)) rfl (ma_goodc kc_Weaver_tell) (B.2.2.2.1 _ k_1282) (B.2.2.2.1 _ k_1284) (B.2.2.2.1 _ ks_32) (B.2.2.2.1 _ k_2) ⟨by decide +kernel, by decide +kernel, by decide +kernel⟩ rfl d_Weaver_fetch_127 rfl (Nat.le_of_ble_eq_true rfl) ⟨by decide, by decide⟩ ⟨by decide, by decide⟩ ⟨by decide, by decide⟩ (mv_noH hno _) (fun σ127 h127 => ?_)
      obtain ⟨x9, y9, q1, q2⟩ := h127
      subst q1
      have hend : TP 32 512 σ (ex_tell υ x9 y9) n sz a := by
        have hF := hF.tell x9 y9
        exact ⟨hF.wt, by rw [hF.2.1 24 (by decide)]; exact hM, th, sl, no, hW2.tell hP _ _, Or.inr ⟨(mv_i υ 3 7).toInt.toNat, by omega, Or.inl ⟨(hF.1 2 6 (by decide)).trans hm0, s0, ns, hS.it hF hP (show (mv_i υ 3 7).toInt = _ by omega) hw t8 (by omega) (by omega) (fun q => absurd q q2) (Nat.le_refl _)⟩⟩⟩
      refine mv_goto (pc := 130) (tgt := 191) B d_Weaver_fetch_130 rfl ?_
      exact mv_vret (pc := 191) B hr d_Weaver_fetch_191 (Nat.le_refl _) (Nat.le_refl _) ⟨rfl, hend⟩
  refine mv_aload_n (pc := 0) B d_Weaver_fetch_0 rfl 0 rfl ?_
  refine mv_getR (pc := 1) (ci := 1) (C := R_Weaver) (T := F_Weaver) (N := 16) B 0 rfl rfl (by decide) i_Weaver (B.2.2.2.1 _ k_228) rfl (hR.1 _ 0 _ rfl) d_Weaver_fetch_1 ?_
  refine mv_sipush (pc := 4) (v := 204) B d_Weaver_fetch_4 (by decide) ?_
  refine mv_callVi (pc := 7) (n := 1) (ci := 2) (C := R_Tokens) B (mK_ok sk sv) hNs rfl rfl (c_Tokens_takeN l hi _ _ hR.1 (hG.2.2.1.wt hF.wt hP ht2) (by omega) (by omega) (by decide)) rfl (ma_goodc kc_Tokens_take) (B.2.2.2.1 _ k_1266) (B.2.2.2.1 _ k_1267) (B.2.2.2.1 _ k_1268) (B.2.2.2.1 _ k_3) ⟨by decide +kernel, by decide +kernel, by decide +kernel⟩ rfl d_Weaver_fetch_7 rfl (Nat.le_of_ble_eq_true rfl) ⟨by decide, by decide⟩ ⟨by decide, by decide⟩ ⟨by decide, by decide⟩ (mv_noH hno _) (fun v7 σ7 h7 => ?_)
  obtain ⟨a7, w7, e7, r7⟩ := h7
  have q7 := r7.1
  have z7 := fun q => (r7.2.1 q).1
  have y7 := And.intro r7.2.2.2.1 r7.2.2.2.2.1
  subst e7
  have hw7 := r7.2.2.1 hw9 hk3 trivial
  refine mv_gen (fun S10 eS10 => ?_)
  have hR : Rw 32 (mv_r S10) := by rw [eS10]; exact hR
  have hF : IF 32 σ S10 := by rw [eS10]; exact hF.tk3 _ _ _
  have hN : mv_i S10 21 0 = 0 → mv_i σ 21 0 = 0 := by rw [eS10]; exact hN
  have t7 : (mv_i S10 3 7).toInt = a7.toInt := by rw [eS10]; rfl
  have t8 : (mv_i S10 3 8).toInt = (mv_i σ 3 8).toInt := by rw [eS10]; first | exact t8 | exact (sub_one (by omega)).trans (by omega) | exact (i32_inc (by omega)).trans (by omega)
  have t9 : (mv_i S10 3 9).toInt = w7.toInt := by rw [eS10]; rfl
  have kp := Eq.trans (show mv_a S10 4 = mv_a _ 4 by rw [eS10]; rfl) kp
  have k6 := Eq.trans (show mv_b S10 6 = mv_b _ 6 by rw [eS10]; rfl) k6
  have hW2 := hW
  have hW2 : WN 32 512 S10 n th sl no := by rw [eS10]; exact hW2.tk3 hP _ _ _
  clear eS10
  refine mv_istore_n (pc := 10) B d_Weaver_fetch_10 rfl (by decide) rfl ?_
  refine mv_aload_n (pc := 11) B d_Weaver_fetch_11 rfl 1 rfl ?_
  refine mv_getR (pc := 12) (ci := 1) (C := R_Weaver) (T := F_Weaver) (N := 16) B 0 rfl rfl (by decide) i_Weaver (B.2.2.2.1 _ k_228) rfl (hR.1 _ 0 _ rfl) d_Weaver_fetch_12 ?_
  refine mv_iconst (pc := 15) (v := 3) B d_Weaver_fetch_15 (by decide) ?_
  refine mv_callVi (pc := 16) (n := 1) (ci := 2) (C := R_Tokens) B (mK_ok sk sv) hNs rfl rfl (c_Tokens_takeN l hi _ _ hR.1 (hG.2.2.1.wt hF.wt hP ht2) (by omega) (by omega) (by decide)) rfl (ma_goodc kc_Tokens_take) (B.2.2.2.1 _ k_1266) (B.2.2.2.1 _ k_1267) (B.2.2.2.1 _ k_1268) (B.2.2.2.1 _ k_3) ⟨by decide +kernel, by decide +kernel, by decide +kernel⟩ rfl d_Weaver_fetch_16 rfl (Nat.le_of_ble_eq_true rfl) ⟨by decide, by decide⟩ ⟨by decide, by decide⟩ ⟨by decide, by decide⟩ (mv_noH hno _) (fun v16 σ16 h16 => ?_)
  have kz := k6
  obtain ⟨a16, w16, e16, r16⟩ := h16
  have q16 := r16.1
  have z16 := fun q => (r16.2.1 q).1
  have y16 := And.intro r16.2.2.2.1 r16.2.2.2.2.1
  subst e16
  have sy16 := TkR.sym (hG.2.2.1.wt hF.wt hP ht2) r16
  refine mv_gen (fun S19 eS19 => ?_)
  have hR : Rw 32 (mv_r S19) := by rw [eS19]; exact hR
  have hF : IF 32 σ S19 := by rw [eS19]; exact hF.tk3 _ _ _
  have hN : mv_i S19 21 0 = 0 → mv_i σ 21 0 = 0 := by rw [eS19]; exact hN
  have t7 : (mv_i S19 3 7).toInt = a16.toInt := by rw [eS19]; rfl
  have t8 : (mv_i S19 3 8).toInt = (mv_i σ 3 8).toInt := by rw [eS19]; first | exact t8 | exact (sub_one (by omega)).trans (by omega) | exact (i32_inc (by omega)).trans (by omega)
  have t9 : (mv_i S19 3 9).toInt = w16.toInt := by rw [eS19]; rfl
  have kp := Eq.trans (show mv_a S19 4 = mv_a _ 4 by rw [eS19]; rfl) kp
  have k6 := Eq.trans (show mv_b S19 6 = mv_b _ 6 by rw [eS19]; rfl) k6
  have hW2 : WN 32 512 S19 n th sl no := by rw [eS19]; exact hW2.tk3 hP _ _ _
  have sy16 : 0 ≤ (mv_b σ 6 v16.toNatClampNeg).toInt ∧ (mv_b σ 6 v16.toNatClampNeg).toInt < n := by rw [← kz]; exact sy16
  clear eS19
  refine mv_istore_n (pc := 19) B d_Weaver_fetch_19 rfl (by decide) rfl ?_
  refine mv_aload_n (pc := 20) B d_Weaver_fetch_20 rfl 2 rfl ?_
  refine mv_getR (pc := 21) (ci := 1) (C := R_Weaver) (T := F_Weaver) (N := 16) B 0 rfl rfl (by decide) i_Weaver (B.2.2.2.1 _ k_228) rfl (hR.1 _ 0 _ rfl) d_Weaver_fetch_21 ?_
  refine mv_sipush (pc := 24) (v := 205) B d_Weaver_fetch_24 (by decide) ?_
  refine mv_callVi (pc := 27) (n := 1) (ci := 2) (C := R_Tokens) B (mK_ok sk sv) hNs rfl rfl (c_Tokens_takeN l hi _ _ hR.1 (hG.2.2.1.wt hF.wt hP ht2) (by omega) (by omega) (by decide)) rfl (ma_goodc kc_Tokens_take) (B.2.2.2.1 _ k_1266) (B.2.2.2.1 _ k_1267) (B.2.2.2.1 _ k_1268) (B.2.2.2.1 _ k_3) ⟨by decide +kernel, by decide +kernel, by decide +kernel⟩ rfl d_Weaver_fetch_27 rfl (Nat.le_of_ble_eq_true rfl) ⟨by decide, by decide⟩ ⟨by decide, by decide⟩ ⟨by decide, by decide⟩ (mv_noH hno _) (fun v27 σ27 h27 => ?_)
  obtain ⟨a27, w27, e27, r27⟩ := h27
  have q27 := r27.1
  have z27 := fun q => (r27.2.1 q).1
  have y27 := And.intro r27.2.2.2.1 r27.2.2.2.2.1
  subst e27
  refine mv_gen (fun S30 eS30 => ?_)
  have hR : Rw 32 (mv_r S30) := by rw [eS30]; exact hR
  have hF : IF 32 σ S30 := by rw [eS30]; exact hF.tk3 _ _ _
  have hN : mv_i S30 21 0 = 0 → mv_i σ 21 0 = 0 := by rw [eS30]; exact hN
  have t7 : (mv_i S30 3 7).toInt = a27.toInt := by rw [eS30]; rfl
  have t8 : (mv_i S30 3 8).toInt = (mv_i σ 3 8).toInt := by rw [eS30]; first | exact t8 | exact (sub_one (by omega)).trans (by omega) | exact (i32_inc (by omega)).trans (by omega)
  have t9 : (mv_i S30 3 9).toInt = w27.toInt := by rw [eS30]; rfl
  have kp := Eq.trans (show mv_a S30 4 = mv_a _ 4 by rw [eS30]; rfl) kp
  have k6 := Eq.trans (show mv_b S30 6 = mv_b _ 6 by rw [eS30]; rfl) k6
  have hW2 : WN 32 512 S30 n th sl no := by rw [eS30]; exact hW2.tk3 hP _ _ _
  clear eS30
  refine mv_pop (pc := 30) B d_Weaver_fetch_30 rfl ?_
  refine mv_aload_n (pc := 31) B d_Weaver_fetch_31 rfl 2 rfl ?_
  refine mv_getR (pc := 32) (ci := 1) (C := R_Weaver) (T := F_Weaver) (N := 16) B 0 rfl rfl (by decide) i_Weaver (B.2.2.2.1 _ k_228) rfl (hR.1 _ 0 _ rfl) d_Weaver_fetch_32 ?_
  refine mv_iconst (pc := 35) (v := 3) B d_Weaver_fetch_35 (by decide) ?_
  refine mv_callVi (pc := 36) (n := 1) (ci := 2) (C := R_Tokens) B (mK_ok sk sv) hNs rfl rfl (c_Tokens_takeN l hi _ _ hR.1 (hG.2.2.1.wt hF.wt hP ht2) (by omega) (by omega) (by decide)) rfl (ma_goodc kc_Tokens_take) (B.2.2.2.1 _ k_1266) (B.2.2.2.1 _ k_1267) (B.2.2.2.1 _ k_1268) (B.2.2.2.1 _ k_3) ⟨by decide +kernel, by decide +kernel, by decide +kernel⟩ rfl d_Weaver_fetch_36 rfl (Nat.le_of_ble_eq_true rfl) ⟨by decide, by decide⟩ ⟨by decide, by decide⟩ ⟨by decide, by decide⟩ (mv_noH hno _) (fun v36 σ36 h36 => ?_)
  have kz2 := k6
  obtain ⟨a36, w36, e36, r36⟩ := h36
  have q36 := r36.1
  have z36 := fun q => (r36.2.1 q).1
  have y36 := And.intro r36.2.2.2.1 r36.2.2.2.2.1
  subst e36
  have sy36 := TkR.sym (hG.2.2.1.wt hF.wt hP ht2) r36
  refine mv_gen (fun S39 eS39 => ?_)
  have hR : Rw 32 (mv_r S39) := by rw [eS39]; exact hR
  have hF : IF 32 σ S39 := by rw [eS39]; exact hF.tk3 _ _ _
  have hN : mv_i S39 21 0 = 0 → mv_i σ 21 0 = 0 := by rw [eS39]; exact hN
  have t7 : (mv_i S39 3 7).toInt = a36.toInt := by rw [eS39]; rfl
  have t8 : (mv_i S39 3 8).toInt = (mv_i σ 3 8).toInt := by rw [eS39]; first | exact t8 | exact (sub_one (by omega)).trans (by omega) | exact (i32_inc (by omega)).trans (by omega)
  have t9 : (mv_i S39 3 9).toInt = w36.toInt := by rw [eS39]; rfl
  have kp := Eq.trans (show mv_a S39 4 = mv_a _ 4 by rw [eS39]; rfl) kp
  have k6 := Eq.trans (show mv_b S39 6 = mv_b _ 6 by rw [eS39]; rfl) k6
  have hW2 : WN 32 512 S39 n th sl no := by rw [eS39]; exact hW2.tk3 hP _ _ _
  have sy36 : 0 ≤ (mv_b σ 6 v36.toNatClampNeg).toInt ∧ (mv_b σ 6 v36.toNatClampNeg).toInt < n := by rw [← kz2]; exact sy36
  clear eS39
  refine mv_istore_n (pc := 39) B d_Weaver_fetch_39 rfl (by decide) rfl ?_
  refine mv_aload_n (pc := 40) B d_Weaver_fetch_40 rfl 3 rfl ?_
  refine mv_getR (pc := 41) (ci := 1) (C := R_Weaver) (T := F_Weaver) (N := 16) B 0 rfl rfl (by decide) i_Weaver (B.2.2.2.1 _ k_228) rfl (hR.1 _ 0 _ rfl) d_Weaver_fetch_41 ?_
  refine mv_bipush (pc := 44) (v := 59) B d_Weaver_fetch_44 (by decide) ?_
  refine mv_callVi (pc := 46) (n := 1) (ci := 2) (C := R_Tokens) B (mK_ok sk sv) hNs rfl rfl (c_Tokens_takeN l hi _ _ hR.1 (hG.2.2.1.wt hF.wt hP ht2) (by omega) (by omega) (by decide)) rfl (ma_goodc kc_Tokens_take) (B.2.2.2.1 _ k_1266) (B.2.2.2.1 _ k_1267) (B.2.2.2.1 _ k_1268) (B.2.2.2.1 _ k_3) ⟨by decide +kernel, by decide +kernel, by decide +kernel⟩ rfl d_Weaver_fetch_46 rfl (Nat.le_of_ble_eq_true rfl) ⟨by decide, by decide⟩ ⟨by decide, by decide⟩ ⟨by decide, by decide⟩ (mv_noH hno _) (fun v46 σ46 h46 => ?_)
  obtain ⟨a46, w46, e46, r46⟩ := h46
  have q46 := r46.1
  have z46 := fun q => (r46.2.1 q).1
  have y46 := And.intro r46.2.2.2.1 r46.2.2.2.2.1
  subst e46
  refine mv_gen (fun S49 eS49 => ?_)
  have hR : Rw 32 (mv_r S49) := by rw [eS49]; exact hR
  have hF : IF 32 σ S49 := by rw [eS49]; exact hF.tk3 _ _ _
  have hN : mv_i S49 21 0 = 0 → mv_i σ 21 0 = 0 := by rw [eS49]; exact hN
  have t7 : (mv_i S49 3 7).toInt = a46.toInt := by rw [eS49]; rfl
  have t8 : (mv_i S49 3 8).toInt = (mv_i σ 3 8).toInt := by rw [eS49]; first | exact t8 | exact (sub_one (by omega)).trans (by omega) | exact (i32_inc (by omega)).trans (by omega)
  have t9 : (mv_i S49 3 9).toInt = w46.toInt := by rw [eS49]; rfl
  have kp := Eq.trans (show mv_a S49 4 = mv_a _ 4 by rw [eS49]; rfl) kp
  have k6 := Eq.trans (show mv_b S49 6 = mv_b _ 6 by rw [eS49]; rfl) k6
  have hW2 : WN 32 512 S49 n th sl no := by rw [eS49]; exact hW2.tk3 hP _ _ _
  clear eS49
  refine mv_pop (pc := 49) B d_Weaver_fetch_49 rfl ?_
  refine mv_aload_n (pc := 50) B d_Weaver_fetch_50 rfl 3 rfl ?_
  refine mv_getR (pc := 51) (ci := 1) (C := R_Weaver) (T := F_Weaver) (N := 16) B 0 rfl rfl (by decide) i_Weaver (B.2.2.2.1 _ k_228) rfl (hR.1 _ 0 _ rfl) d_Weaver_fetch_51 ?_
  refine mv_callVi (pc := 54) (n := 0) (ci := 2) (C := R_Tokens) B (mK_ok sk sv) hNs rfl rfl (c_Tokens_right l hi _) rfl (ma_goodc kc_Tokens_right) (B.2.2.2.1 _ k_1291) (B.2.2.2.1 _ k_1292) (B.2.2.2.1 _ k_1293) (B.2.2.2.1 _ k_3) ⟨by decide +kernel, by decide +kernel, by decide +kernel⟩ rfl d_Weaver_fetch_54 rfl (Nat.le_of_ble_eq_true rfl) ⟨by decide, by decide⟩ ⟨by decide, by decide⟩ ⟨by decide, by decide⟩ (mv_noH hno _) (fun v54 σ54 h54 => ?_)
  obtain ⟨e54, z54⟩ := h54
  have e54 := e54.symm
  subst e54
  refine mv_if_ne (pc := 57) (tgt := 61) B d_Weaver_fetch_57 rfl (fun h57 => ?_) (fun h57 => ?_)
  · skip
    have hw : (mv_i S49 3 9).toInt < 0 := Decidable.byContradiction fun q => h57 (by rw [z54, if_neg (fun z => q (lt0.mp z))])
    refine mv_aload_n (pc := 61) B d_Weaver_fetch_61 rfl 3 rfl ?_
    refine mv_getR (pc := 62) (ci := 1) (C := R_Weaver) (T := F_Weaver) (N := 16) B 5 rfl rfl (by decide) i_Weaver (B.2.2.2.1 _ k_235) rfl hR.2.2.1 d_Weaver_fetch_62 ?_
    refine mv_getI (pc := 65) (ci := 7) (C := R_Program) (T := F_Program) (N := 19) B 9 rfl rfl (by decide) i_Program (B.2.2.2.1 _ k_342) rfl d_Weaver_fetch_65 ?_
    refine mv_if_lt (pc := 68) (tgt := 78) B d_Weaver_fetch_68 rfl (fun h68 => ?_) (fun h68 => ?_)
    · skip
      have go := j78 S49 v7 v16 v36 hR hF hN hW2 (by omega) t8 hw k6 y16 y36 (by rw [k6]; exact sy16) (by rw [k6]; exact sy36)
      refine mv_lpick [0, 1, 2, 3] rfl ?_
      exact go
    · skip
      refine mv_aload_n (pc := 71) B d_Weaver_fetch_71 rfl 3 rfl ?_
      refine mv_iload_n (pc := 72) B d_Weaver_fetch_72 rfl 2 rfl ?_
      refine mv_bipush (pc := 73) (v := 6) B d_Weaver_fetch_73 (by decide) ?_
      refine mv_callVv (pc := 75) (n := 2) (ci := 1) (C := R_Weaver) B (mK_ok sk sv) hNs rfl rfl (c_Weaver_tell l hi _ _ _ hR.1 y7.1 (by omega) (by decide)) rfl (ma_goodc kc_Weaver_tell) (B.2.2.2.1 _ k_1282) (B.2.2.2.1 _ k_1284) (B.2.2.2.1 _ ks_32) (B.2.2.2.1 _ k_2) ⟨by decide +kernel, by decide +kernel, by decide +kernel⟩ rfl d_Weaver_fetch_75 rfl (Nat.le_of_ble_eq_true rfl) ⟨by decide, by decide⟩ ⟨by decide, by decide⟩ ⟨by decide, by decide⟩ (mv_noH hno _) (fun σ75 h75 => ?_)
      obtain ⟨x9, y9, q1, q2⟩ := h75
      subst q1
      have go := j78 (ex_tell S49 x9 y9) v7 v16 v36 hR (hF.tell x9 y9) (fun q => absurd q q2) (hW2.tell hP _ _) (show (mv_i S49 3 7).toInt < sz ∧ a + 1 ≤ (mv_i S49 3 7).toInt by omega) t8 hw k6 y16 y36 (by show 0 ≤ (mv_b S49 6 _).toInt ∧ (mv_b S49 6 _).toInt < n; rw [k6]; exact sy16) (by show 0 ≤ (mv_b S49 6 _).toInt ∧ (mv_b S49 6 _).toInt < n; rw [k6]; exact sy36)
      refine mv_lpick [0, 1, 2, 3] rfl ?_
      exact go
  · skip
    have hw : ¬ (mv_i S49 3 9).toInt < 0 := fun q => by rw [if_pos (lt0.mpr q)] at z54; rw [z54] at h57; exact absurd h57 (by decide)
    have hend : TP 32 512 σ S49 n sz a := ⟨hF.wt, by rw [hF.2.1 24 (by decide)]; exact hM, th, sl, no, hW2, Or.inl (by omega)⟩
    exact mv_vret (pc := 60) B hr d_Weaver_fetch_60 (Nat.le_refl _) (Nat.le_refl _) ⟨rfl, hend⟩
set_option maxHeartbeats 4000000 in
set_option maxRecDepth 100000 in
theorem c_Weaver_fetch_b (l : Launch) {dA : FieldType → ClassId} {D : va_G} {al : Nat → Nat} {ext : mv_Sh} {sk sv : Nat → Nat} (hi : mv_inj (mg dA D al ext)) (σ : mv_H) {t tn len n z sz th sl s0 a ns no : Nat} (hG : WG 48 32768 512 ext σ t tn len n z sz) (hM : Mt (mv_a σ 24)) (hW : WN 48 512 σ n th sl no) (hS : WS 48 σ sz th s0 a ns no []) (hm0 : mv_i σ 2 6 = 0) (hk3 : mv_a σ 4 (mv_i σ 3 7).toNatClampNeg = 204) : mv_C l y_Weaver_fetch (Cond.code y_Weaver_fetch b_Weaver_fetch 6 (Option.none : Option Jvm.ClassFile.FieldType) :: ma) ({ frames := 2, cells := 0, slots := 0, locals := 44 }) (mg dA D al ext) (mK sk sv) [.ref (al 2)] σ (mv_Rv (fun σ1 => TP 48 512 σ σ1 n sz a)) := by
  refine mv_C.ofV (cc := b_Weaver_fetch) (nL := 6) (ret := (Option.none : Option Jvm.ClassFile.FieldType)) (by decide +kernel) rfl hi (Nat.le_of_ble_eq_true rfl) ?_
  intro p e s m below meth c B hNs hr hnm hno
  have hP : PQ 48 := by unfold PQ; omega
  have hR := hG.1
  have ht2 := hG.2.1.2.2.2.2.2.2
  have hF : IF 48 σ σ := Fr.rf
  have hN : mv_i σ 21 0 = 0 → mv_i σ 21 0 = 0 := fun q => q
  have hE := hG.2.2.1
  have hsz := hE.2.2.2.2.2
  have hsz2 := hE.2.2.2.1
  have hlen := hG.2.2.2.2.1
  have hlen2 := hG.2.2.2.2.2
  have t7 := hS.1.1
  have hw9 := hS.1.2.1
  have ha9 := hS.1.2.2.2.2.1
  have t9 : (mv_i σ 3 9).toInt = (mv_i σ 3 9).toInt := rfl
  have t8 : (mv_i σ 3 8).toInt = (mv_i σ 3 8).toInt := rfl
  have kp : mv_a σ 4 = mv_a σ 4 := rfl
  have k6 : mv_b σ 6 = mv_b σ 6 := rfl
  have hs5 := hS.1.2.2.2.2.2.1
  have hs6 := hS.1.2.2.2.2.2.2.1
  have hd8 := hS.1.2.2.1
  have hd9 := hS.1.2.2.2.1
  have j78 : ∀ (υ : mv_H) (tk1 : Int32) (tk2 : Int32) (tk3 : Int32) (hR : Rw 48 (mv_r υ)) (hF : IF 48 σ υ) (hN : mv_i υ 21 0 = 0 → mv_i σ 21 0 = 0) (hW2 : WN 48 512 υ n th sl no) (t7 : (mv_i υ 3 7).toInt < sz ∧ a + 1 ≤ (mv_i υ 3 7).toInt) (t8 : (mv_i υ 3 8).toInt = (mv_i σ 3 8).toInt) (hw : (mv_i υ 3 9).toInt < 0) (k6 : mv_b υ 6 = mv_b σ 6) (b2 : 0 ≤ tk2.toInt ∧ tk2.toInt < sz) (b3 : 0 ≤ tk3.toInt ∧ tk3.toInt < sz) (sy2 : 0 ≤ (mv_b υ 6 tk2.toNatClampNeg).toInt ∧ (mv_b υ 6 tk2.toNatClampNeg).toInt < n) (sy3 : 0 ≤ (mv_b υ 6 tk3.toNatClampNeg).toInt ∧ (mv_b υ 6 tk3.toNatClampNeg).toInt < n), mv_V p l e ({ frames := 2, cells := 0, slots := 0, locals := 44 }) s m ([.ref (al 2)] : List Value).toArray below meth c (mg dA D al ext) 6 0 0 (mv_Q (mg dA D al ext) below s 0 0 (mv_Rv (fun σ1 => TP 48 512 σ σ1 n sz a))) υ 78 [(3, .int tk3), (2, .int tk2), (1, .int tk1), (0, .ref (al 2))] [] := by
    intro υ tk1 tk2 tk3 hR hF hN hW2 t7 t8 hw k6 b2 b3 sy2 sy3
    have hn16 := hG.2.2.1.1.2.1
    have ht64 := hW2.2.1.2.1
    have l2tk2 := l2i_nn (x := mv_b υ 6 tk2.toNatClampNeg) sy2.1 (by omega)
    have l2tk3 := l2i_nn (x := mv_b υ 6 tk3.toNatClampNeg) sy3.1 (by omega)
    refine mv_aload_n (pc := 78) B d_Weaver_fetch_78 rfl 3 rfl ?_
    refine mv_getR (pc := 79) (ci := 1) (C := R_Weaver) (T := F_Weaver) (N := 16) B 1 rfl rfl (by decide) i_Weaver (B.2.2.2.1 _ k_229) rfl (hR.1 _ 1 _ rfl) d_Weaver_fetch_79 ?_
    refine mv_getR (pc := 82) (ci := 4) (C := R_Names) (T := F_Names) (N := 10) B 2 rfl rfl (by decide) i_Names (B.2.2.2.1 _ k_138) rfl (hR.1 _ 2 _ rfl) d_Weaver_fetch_82 ?_
    refine mv_aload_n (pc := 85) B d_Weaver_fetch_85 rfl 3 rfl ?_
    refine mv_iload_n (pc := 86) B d_Weaver_fetch_86 rfl 1 rfl ?_
    refine mv_callVi (pc := 87) (n := 1) (ci := 1) (C := R_Weaver) B (mK_ok sk sv) hNs rfl rfl (c_Weaver_symbolOf l hi _ _ hR.1 b2.1 (by omega)) rfl (ma_goodc kc_Weaver_symbolOf) (B.2.2.2.1 _ k_1312) (B.2.2.2.1 _ k_1314) (B.2.2.2.1 _ ks_37) (B.2.2.2.1 _ k_2) ⟨by decide +kernel, by decide +kernel, by decide +kernel⟩ rfl d_Weaver_fetch_87 rfl (Nat.le_of_ble_eq_true rfl) ⟨by decide, by decide⟩ ⟨by decide, by decide⟩ ⟨by decide, by decide⟩ (mv_noH hno _) (fun v87 σ87 h87 => ?_)
    obtain ⟨e87, z87⟩ := h87
    have e87 := e87.symm
    subst e87
    have u87 : v87.toInt = (mv_b υ 6 tk2.toNatClampNeg).toInt := by rw [z87]; exact l2tk2
    refine mv_iald (pc := 90) B rfl (i32_in (by omega) (by omega)) d_Weaver_fetch_90 ?_
    refine mv_istore (pc := 91) B d_Weaver_fetch_91 (by decide) rfl ?_
    refine mv_aload_n (pc := 93) B d_Weaver_fetch_93 rfl 4 rfl ?_
    refine mv_getR (pc := 94) (ci := 1) (C := R_Weaver) (T := F_Weaver) (N := 16) B 1 rfl rfl (by decide) i_Weaver (B.2.2.2.1 _ k_229) rfl (hR.1 _ 1 _ rfl) d_Weaver_fetch_94 ?_
    refine mv_getR (pc := 97) (ci := 4) (C := R_Names) (T := F_Names) (N := 10) B 2 rfl rfl (by decide) i_Names (B.2.2.2.1 _ k_138) rfl (hR.1 _ 2 _ rfl) d_Weaver_fetch_97 ?_
    refine mv_aload_n (pc := 100) B d_Weaver_fetch_100 rfl 4 rfl ?_
    refine mv_iload_n (pc := 101) B d_Weaver_fetch_101 rfl 1 rfl ?_
    refine mv_callVi (pc := 102) (n := 1) (ci := 1) (C := R_Weaver) B (mK_ok sk sv) hNs rfl rfl (c_Weaver_symbolOf l hi _ _ hR.1 b3.1 (by omega)) rfl (ma_goodc kc_Weaver_symbolOf) (B.2.2.2.1 _ k_1312) (B.2.2.2.1 _ k_1314) (B.2.2.2.1 _ ks_37) (B.2.2.2.1 _ k_2) ⟨by decide +kernel, by decide +kernel, by decide +kernel⟩ rfl d_Weaver_fetch_102 rfl (Nat.le_of_ble_eq_true rfl) ⟨by decide, by decide⟩ ⟨by decide, by decide⟩ ⟨by decide, by decide⟩ (mv_noH hno _) (fun v102 σ102 h102 => ?_)
    obtain ⟨e102, z102⟩ := h102
    have e102 := e102.symm
    subst e102
    have u102 : v102.toInt = (mv_b υ 6 tk3.toNatClampNeg).toInt := by rw [z102]; exact l2tk3
    refine mv_iald (pc := 105) B rfl (i32_in (by omega) (by omega)) d_Weaver_fetch_105 ?_
    refine mv_istore (pc := 106) B d_Weaver_fetch_106 (by decide) rfl ?_
    refine mv_aload_n (pc := 108) B d_Weaver_fetch_108 rfl 5 rfl ?_
    refine mv_getR (pc := 109) (ci := 1) (C := R_Weaver) (T := F_Weaver) (N := 16) B 1 rfl rfl (by decide) i_Weaver (B.2.2.2.1 _ k_229) rfl (hR.1 _ 1 _ rfl) d_Weaver_fetch_109 ?_
    refine mv_aload_n (pc := 112) B d_Weaver_fetch_112 rfl 5 rfl ?_
    refine mv_iload_n (pc := 113) B d_Weaver_fetch_113 rfl 3 rfl ?_
    refine mv_callVi (pc := 114) (n := 1) (ci := 1) (C := R_Weaver) B (mK_ok sk sv) hNs rfl rfl (c_Weaver_symbolOf l hi _ _ hR.1 b2.1 (by omega)) rfl (ma_goodc kc_Weaver_symbolOf) (B.2.2.2.1 _ k_1312) (B.2.2.2.1 _ k_1314) (B.2.2.2.1 _ ks_37) (B.2.2.2.1 _ k_2) ⟨by decide +kernel, by decide +kernel, by decide +kernel⟩ rfl d_Weaver_fetch_114 rfl (Nat.le_of_ble_eq_true rfl) ⟨by decide, by decide⟩ ⟨by decide, by decide⟩ ⟨by decide, by decide⟩ (mv_noH hno _) (fun v114 σ114 h114 => ?_)
    obtain ⟨e114, z114⟩ := h114
    have e114 := e114.symm
    subst e114
    have u114 : v114.toInt = (mv_b υ 6 tk2.toNatClampNeg).toInt := by rw [z114]; exact l2tk2
    refine mv_callVi (pc := 117) (n := 1) (ci := 4) (C := R_Names) B (mK_ok sk sv) hNs rfl rfl (c_Names_kindOf l hi _ _ hR.1 n z (hG.2.2.1.wt hF.wt hP ht2).1 (by omega) (by omega)) rfl (ma_goodc kc_Names_kindOf) (B.2.2.2.1 _ k_1316) (B.2.2.2.1 _ k_1317) (B.2.2.2.1 _ k_1318) (B.2.2.2.1 _ k_5) ⟨by decide +kernel, by decide +kernel, by decide +kernel⟩ rfl d_Weaver_fetch_117 rfl (Nat.le_of_ble_eq_true rfl) ⟨by decide, by decide⟩ ⟨by decide, by decide⟩ ⟨by decide, by decide⟩ (mv_noH hno _) (fun v117 σ117 h117 => ?_)
    obtain ⟨e117, z117⟩ := h117
    have e117 := e117.symm
    subst e117
    refine mv_iconst (pc := 120) (v := 1) B d_Weaver_fetch_120 (by decide) ?_
    refine mv_icmp_eq (pc := 121) (tgt := 133) B d_Weaver_fetch_121 rfl (fun h121 => ?_) (fun h121 => ?_)
    · skip
      have q2 : v114 = v87 := z114.trans z87.symm
      have n2 := (hW2.1 v87.toNatClampNeg (by have := i32_cl (x := v87) (by omega); omega)).1 (Or.inl (by rw [q2] at z117; exact (z117.resolve_left (fun q => by rw [q] at h121; exact absurd h121 (by decide))).symm.trans h121))
      refine mv_aload_n (pc := 133) B d_Weaver_fetch_133 rfl 5 rfl ?_
      refine mv_getR (pc := 134) (ci := 1) (C := R_Weaver) (T := F_Weaver) (N := 16) B 1 rfl rfl (by decide) i_Weaver (B.2.2.2.1 _ k_229) rfl (hR.1 _ 1 _ rfl) d_Weaver_fetch_134 ?_
      refine mv_aload_n (pc := 137) B d_Weaver_fetch_137 rfl 5 rfl ?_
      refine mv_iload_n (pc := 138) B d_Weaver_fetch_138 rfl 2 rfl ?_
      refine mv_callVi (pc := 139) (n := 1) (ci := 1) (C := R_Weaver) B (mK_ok sk sv) hNs rfl rfl (c_Weaver_symbolOf l hi _ _ hR.1 b3.1 (by omega)) rfl (ma_goodc kc_Weaver_symbolOf) (B.2.2.2.1 _ k_1312) (B.2.2.2.1 _ k_1314) (B.2.2.2.1 _ ks_37) (B.2.2.2.1 _ k_2) ⟨by decide +kernel, by decide +kernel, by decide +kernel⟩ rfl d_Weaver_fetch_139 rfl (Nat.le_of_ble_eq_true rfl) ⟨by decide, by decide⟩ ⟨by decide, by decide⟩ ⟨by decide, by decide⟩ (mv_noH hno _) (fun v139 σ139 h139 => ?_)
      obtain ⟨e139, z139⟩ := h139
      have e139 := e139.symm
      subst e139
      have u139 : v139.toInt = (mv_b υ 6 tk3.toNatClampNeg).toInt := by rw [z139]; exact l2tk3
      refine mv_callVi (pc := 142) (n := 1) (ci := 4) (C := R_Names) B (mK_ok sk sv) hNs rfl rfl (c_Names_kindOf l hi _ _ hR.1 n z (hG.2.2.1.wt hF.wt hP ht2).1 (by omega) (by omega)) rfl (ma_goodc kc_Names_kindOf) (B.2.2.2.1 _ k_1316) (B.2.2.2.1 _ k_1317) (B.2.2.2.1 _ k_1318) (B.2.2.2.1 _ k_5) ⟨by decide +kernel, by decide +kernel, by decide +kernel⟩ rfl d_Weaver_fetch_142 rfl (Nat.le_of_ble_eq_true rfl) ⟨by decide, by decide⟩ ⟨by decide, by decide⟩ ⟨by decide, by decide⟩ (mv_noH hno _) (fun v142 σ142 h142 => ?_)
      obtain ⟨e142, z142⟩ := h142
      have e142 := e142.symm
      subst e142
      refine mv_iconst (pc := 145) (v := 2) B d_Weaver_fetch_145 (by decide) ?_
      refine mv_icmp_ne (pc := 146) (tgt := 164) B d_Weaver_fetch_146 rfl (fun h146 => ?_) (fun h146 => ?_)
      · skip
        refine mv_aload_n (pc := 164) B d_Weaver_fetch_164 rfl 5 rfl ?_
        refine mv_iload_n (pc := 165) B d_Weaver_fetch_165 rfl 2 rfl ?_
        refine mv_iconst (pc := 166) (v := 2) B d_Weaver_fetch_166 (by decide) ?_
        refine mv_callVv (pc := 167) (n := 2) (ci := 1) (C := R_Weaver) B (mK_ok sk sv) hNs rfl rfl (c_Weaver_tell l hi _ _ _ hR.1 b3.1 (by omega) (by decide)) rfl (ma_goodc kc_Weaver_tell) (B.2.2.2.1 _ k_1282) (B.2.2.2.1 _ k_1284) (B.2.2.2.1 _ ks_32) (B.2.2.2.1 _ k_2) ⟨by decide +kernel, by decide +kernel, by decide +kernel⟩ rfl d_Weaver_fetch_167 rfl (Nat.le_of_ble_eq_true rfl) ⟨by decide, by decide⟩ ⟨by decide, by decide⟩ ⟨by decide, by decide⟩ (mv_noH hno _) (fun σ167 h167 => ?_)
        obtain ⟨x9, y9, q1, q2⟩ := h167
        subst q1
        have hend : TP 48 512 σ (ex_tell υ x9 y9) n sz a := by
          have hF := hF.tell x9 y9
          exact ⟨hF.wt, by rw [hF.2.1 24 (by decide)]; exact hM, th, sl, no, hW2.tell hP _ _, Or.inr ⟨(mv_i υ 3 7).toInt.toNat, by omega, Or.inl ⟨(hF.1 2 6 (by decide)).trans hm0, s0, ns, hS.it hF hP (show (mv_i υ 3 7).toInt = _ by omega) hw t8 (by omega) (by omega) (fun q => absurd q q2) (Nat.le_refl _)⟩⟩⟩
        refine mv_goto (pc := 170) (tgt := 191) B d_Weaver_fetch_170 rfl ?_
        exact mv_vret (pc := 191) B hr d_Weaver_fetch_191 (Nat.le_refl _) (Nat.le_refl _) ⟨rfl, hend⟩
      · skip
        have q3 : v139 = v102 := z139.trans z102.symm
        have n3 := (hW2.1 v102.toNatClampNeg (by have := i32_cl (x := v102) (by omega); omega)).1 (Or.inr (by rw [q3] at z142; exact (z142.resolve_left (fun q => by rw [q] at h146; exact absurd h146 (by decide))).symm.trans h146))
        refine mv_aload_n (pc := 149) B d_Weaver_fetch_149 rfl 5 rfl ?_
        refine mv_getR (pc := 150) (ci := 1) (C := R_Weaver) (T := F_Weaver) (N := 16) B 5 rfl rfl (by decide) i_Weaver (B.2.2.2.1 _ k_235) rfl hR.2.2.1 d_Weaver_fetch_150 ?_
        refine mv_getR (pc := 153) (ci := 7) (C := R_Program) (T := F_Program) (N := 19) B 2 rfl rfl (by decide) i_Program (B.2.2.2.1 _ k_321) rfl (hR.2.1 _ 2 49 rfl) d_Weaver_fetch_153 ?_
        refine mv_iload (pc := 156) B d_Weaver_fetch_156 0 rfl ?_
        refine mv_iald (pc := 158) B rfl (i32_in n3.1 (by omega)) d_Weaver_fetch_158 ?_
        refine mv_bipush (pc := 159) (v := 8) B d_Weaver_fetch_159 (by decide) ?_
        refine mv_icmp_eq (pc := 161) (tgt := 173) B d_Weaver_fetch_161 rfl (fun h161 => ?_) (fun h161 => ?_)
        · skip
          have hend : TP 48 512 σ (mv_si (mv_si υ 48 8 (mv_a υ 15 v87.toNatClampNeg)) 48 9 (mv_a υ 15 v102.toNatClampNeg)) n sz a := by
            have hF := (hF.p (k := 8) (by omega) (mv_a υ 15 v87.toNatClampNeg)).p (k := 9) (by omega) (mv_a υ 15 v102.toNatClampNeg)
            exact ⟨hF.wt, by rw [hF.2.1 24 (by decide)]; exact hM, th, sl, no, hW2.fetch hP n2 n3, Or.inr ⟨(mv_i υ 3 7).toInt.toNat, by omega, Or.inl ⟨(hF.1 2 6 (by decide)).trans hm0, s0, ns, hS.it hF hP (show (mv_i υ 3 7).toInt = _ by omega) hw t8 (by omega) (by omega) hN (Nat.le_refl _)⟩⟩⟩
          refine mv_aload_n (pc := 173) B d_Weaver_fetch_173 rfl 5 rfl ?_
          refine mv_getR (pc := 174) (ci := 1) (C := R_Weaver) (T := F_Weaver) (N := 16) B 5 rfl rfl (by decide) i_Weaver (B.2.2.2.1 _ k_235) rfl hR.2.2.1 d_Weaver_fetch_174 ?_
          refine mv_iload (pc := 177) B d_Weaver_fetch_177 1 rfl ?_
          refine mv_putI (pc := 179) (ci := 7) (C := R_Program) (T := F_Program) (N := 19) B 8 rfl rfl (by decide) i_Program t_Program_ok n_Program (B.2.2.2.1 _ k_339) rfl rfl rfl rfl d_Weaver_fetch_179 ?_
          refine mv_aload_n (pc := 182) B d_Weaver_fetch_182 rfl 5 rfl ?_
          refine mv_getR (pc := 183) (ci := 1) (C := R_Weaver) (T := F_Weaver) (N := 16) B 5 rfl rfl (by decide) i_Weaver (B.2.2.2.1 _ k_235) rfl hR.2.2.1 d_Weaver_fetch_183 ?_
          refine mv_iload (pc := 186) B d_Weaver_fetch_186 0 rfl ?_
          refine mv_putI (pc := 188) (ci := 7) (C := R_Program) (T := F_Program) (N := 19) B 9 rfl rfl (by decide) i_Program t_Program_ok n_Program (B.2.2.2.1 _ k_342) rfl rfl rfl rfl d_Weaver_fetch_188 ?_
          exact mv_vret (pc := 191) B hr d_Weaver_fetch_191 (Nat.le_refl _) (Nat.le_refl _) ⟨rfl, hend⟩
        · skip
          refine mv_aload_n (pc := 164) B d_Weaver_fetch_164 rfl 5 rfl ?_
          refine mv_iload_n (pc := 165) B d_Weaver_fetch_165 rfl 2 rfl ?_
          refine mv_iconst (pc := 166) (v := 2) B d_Weaver_fetch_166 (by decide) ?_
          refine mv_callVv (pc := 167) (n := 2) (ci := 1) (C := R_Weaver) B (mK_ok sk sv) hNs rfl rfl (c_Weaver_tell l hi _ _ _ hR.1 b3.1 (by omega) (by decide)) rfl (ma_goodc kc_Weaver_tell) (B.2.2.2.1 _ k_1282) (B.2.2.2.1 _ k_1284) (B.2.2.2.1 _ ks_32) (B.2.2.2.1 _ k_2) ⟨by decide +kernel, by decide +kernel, by decide +kernel⟩ rfl d_Weaver_fetch_167 rfl (Nat.le_of_ble_eq_true rfl) ⟨by decide, by decide⟩ ⟨by decide, by decide⟩ ⟨by decide, by decide⟩ (mv_noH hno _) (fun σ167 h167 => ?_)
          obtain ⟨x9, y9, q1, q2⟩ := h167
          subst q1
          have hend : TP 48 512 σ (ex_tell υ x9 y9) n sz a := by
            have hF := hF.tell x9 y9
            exact ⟨hF.wt, by rw [hF.2.1 24 (by decide)]; exact hM, th, sl, no, hW2.tell hP _ _, Or.inr ⟨(mv_i υ 3 7).toInt.toNat, by omega, Or.inl ⟨(hF.1 2 6 (by decide)).trans hm0, s0, ns, hS.it hF hP (show (mv_i υ 3 7).toInt = _ by omega) hw t8 (by omega) (by omega) (fun q => absurd q q2) (Nat.le_refl _)⟩⟩⟩
          refine mv_goto (pc := 170) (tgt := 191) B d_Weaver_fetch_170 rfl ?_
          exact mv_vret (pc := 191) B hr d_Weaver_fetch_191 (Nat.le_refl _) (Nat.le_refl _) ⟨rfl, hend⟩
    · skip
      refine mv_aload_n (pc := 124) B d_Weaver_fetch_124 rfl 5 rfl ?_
      refine mv_iload_n (pc := 125) B d_Weaver_fetch_125 rfl 3 rfl ?_
      refine mv_iconst (pc := 126) (v := 2) B d_Weaver_fetch_126 (by decide) ?_
      refine mv_callVv (pc := 127) (n := 2) (ci := 1) (C := R_Weaver) B (mK_ok sk sv) hNs rfl rfl (c_Weaver_tell l hi _ _ _ hR.1 b2.1 (by omega) (by decide)) rfl (ma_goodc kc_Weaver_tell) (B.2.2.2.1 _ k_1282) (B.2.2.2.1 _ k_1284) (B.2.2.2.1 _ ks_32) (B.2.2.2.1 _ k_2) ⟨by decide +kernel, by decide +kernel, by decide +kernel⟩ rfl d_Weaver_fetch_127 rfl (Nat.le_of_ble_eq_true rfl) ⟨by decide, by decide⟩ ⟨by decide, by decide⟩ ⟨by decide, by decide⟩ (mv_noH hno _) (fun σ127 h127 => ?_)
      obtain ⟨x9, y9, q1, q2⟩ := h127
      subst q1
      have hend : TP 48 512 σ (ex_tell υ x9 y9) n sz a := by
        have hF := hF.tell x9 y9
        exact ⟨hF.wt, by rw [hF.2.1 24 (by decide)]; exact hM, th, sl, no, hW2.tell hP _ _, Or.inr ⟨(mv_i υ 3 7).toInt.toNat, by omega, Or.inl ⟨(hF.1 2 6 (by decide)).trans hm0, s0, ns, hS.it hF hP (show (mv_i υ 3 7).toInt = _ by omega) hw t8 (by omega) (by omega) (fun q => absurd q q2) (Nat.le_refl _)⟩⟩⟩
      refine mv_goto (pc := 130) (tgt := 191) B d_Weaver_fetch_130 rfl ?_
      exact mv_vret (pc := 191) B hr d_Weaver_fetch_191 (Nat.le_refl _) (Nat.le_refl _) ⟨rfl, hend⟩
  refine mv_aload_n (pc := 0) B d_Weaver_fetch_0 rfl 0 rfl ?_
  refine mv_getR (pc := 1) (ci := 1) (C := R_Weaver) (T := F_Weaver) (N := 16) B 0 rfl rfl (by decide) i_Weaver (B.2.2.2.1 _ k_228) rfl (hR.1 _ 0 _ rfl) d_Weaver_fetch_1 ?_
  refine mv_sipush (pc := 4) (v := 204) B d_Weaver_fetch_4 (by decide) ?_
  refine mv_callVi (pc := 7) (n := 1) (ci := 2) (C := R_Tokens) B (mK_ok sk sv) hNs rfl rfl (c_Tokens_takeN l hi _ _ hR.1 (hG.2.2.1.wt hF.wt hP ht2) (by omega) (by omega) (by decide)) rfl (ma_goodc kc_Tokens_take) (B.2.2.2.1 _ k_1266) (B.2.2.2.1 _ k_1267) (B.2.2.2.1 _ k_1268) (B.2.2.2.1 _ k_3) ⟨by decide +kernel, by decide +kernel, by decide +kernel⟩ rfl d_Weaver_fetch_7 rfl (Nat.le_of_ble_eq_true rfl) ⟨by decide, by decide⟩ ⟨by decide, by decide⟩ ⟨by decide, by decide⟩ (mv_noH hno _) (fun v7 σ7 h7 => ?_)
  obtain ⟨a7, w7, e7, r7⟩ := h7
  have q7 := r7.1
  have z7 := fun q => (r7.2.1 q).1
  have y7 := And.intro r7.2.2.2.1 r7.2.2.2.2.1
  subst e7
  have hw7 := r7.2.2.1 hw9 hk3 trivial
  refine mv_gen (fun S10 eS10 => ?_)
  have hR : Rw 48 (mv_r S10) := by rw [eS10]; exact hR
  have hF : IF 48 σ S10 := by rw [eS10]; exact hF.tk3 _ _ _
  have hN : mv_i S10 21 0 = 0 → mv_i σ 21 0 = 0 := by rw [eS10]; exact hN
  have t7 : (mv_i S10 3 7).toInt = a7.toInt := by rw [eS10]; rfl
  have t8 : (mv_i S10 3 8).toInt = (mv_i σ 3 8).toInt := by rw [eS10]; first | exact t8 | exact (sub_one (by omega)).trans (by omega) | exact (i32_inc (by omega)).trans (by omega)
  have t9 : (mv_i S10 3 9).toInt = w7.toInt := by rw [eS10]; rfl
  have kp := Eq.trans (show mv_a S10 4 = mv_a _ 4 by rw [eS10]; rfl) kp
  have k6 := Eq.trans (show mv_b S10 6 = mv_b _ 6 by rw [eS10]; rfl) k6
  have hW2 := hW
  have hW2 : WN 48 512 S10 n th sl no := by rw [eS10]; exact hW2.tk3 hP _ _ _
  clear eS10
  refine mv_istore_n (pc := 10) B d_Weaver_fetch_10 rfl (by decide) rfl ?_
  refine mv_aload_n (pc := 11) B d_Weaver_fetch_11 rfl 1 rfl ?_
  refine mv_getR (pc := 12) (ci := 1) (C := R_Weaver) (T := F_Weaver) (N := 16) B 0 rfl rfl (by decide) i_Weaver (B.2.2.2.1 _ k_228) rfl (hR.1 _ 0 _ rfl) d_Weaver_fetch_12 ?_
  refine mv_iconst (pc := 15) (v := 3) B d_Weaver_fetch_15 (by decide) ?_
  refine mv_callVi (pc := 16) (n := 1) (ci := 2) (C := R_Tokens) B (mK_ok sk sv) hNs rfl rfl (c_Tokens_takeN l hi _ _ hR.1 (hG.2.2.1.wt hF.wt hP ht2) (by omega) (by omega) (by decide)) rfl (ma_goodc kc_Tokens_take) (B.2.2.2.1 _ k_1266) (B.2.2.2.1 _ k_1267) (B.2.2.2.1 _ k_1268) (B.2.2.2.1 _ k_3) ⟨by decide +kernel, by decide +kernel, by decide +kernel⟩ rfl d_Weaver_fetch_16 rfl (Nat.le_of_ble_eq_true rfl) ⟨by decide, by decide⟩ ⟨by decide, by decide⟩ ⟨by decide, by decide⟩ (mv_noH hno _) (fun v16 σ16 h16 => ?_)
  have kz := k6
  obtain ⟨a16, w16, e16, r16⟩ := h16
  have q16 := r16.1
  have z16 := fun q => (r16.2.1 q).1
  have y16 := And.intro r16.2.2.2.1 r16.2.2.2.2.1
  subst e16
  have sy16 := TkR.sym (hG.2.2.1.wt hF.wt hP ht2) r16
  refine mv_gen (fun S19 eS19 => ?_)
  have hR : Rw 48 (mv_r S19) := by rw [eS19]; exact hR
  have hF : IF 48 σ S19 := by rw [eS19]; exact hF.tk3 _ _ _
  have hN : mv_i S19 21 0 = 0 → mv_i σ 21 0 = 0 := by rw [eS19]; exact hN
  have t7 : (mv_i S19 3 7).toInt = a16.toInt := by rw [eS19]; rfl
  have t8 : (mv_i S19 3 8).toInt = (mv_i σ 3 8).toInt := by rw [eS19]; first | exact t8 | exact (sub_one (by omega)).trans (by omega) | exact (i32_inc (by omega)).trans (by omega)
  have t9 : (mv_i S19 3 9).toInt = w16.toInt := by rw [eS19]; rfl
  have kp := Eq.trans (show mv_a S19 4 = mv_a _ 4 by rw [eS19]; rfl) kp
  have k6 := Eq.trans (show mv_b S19 6 = mv_b _ 6 by rw [eS19]; rfl) k6
  have hW2 : WN 48 512 S19 n th sl no := by rw [eS19]; exact hW2.tk3 hP _ _ _
  have sy16 : 0 ≤ (mv_b σ 6 v16.toNatClampNeg).toInt ∧ (mv_b σ 6 v16.toNatClampNeg).toInt < n := by rw [← kz]; exact sy16
  clear eS19
  refine mv_istore_n (pc := 19) B d_Weaver_fetch_19 rfl (by decide) rfl ?_
  refine mv_aload_n (pc := 20) B d_Weaver_fetch_20 rfl 2 rfl ?_
  refine mv_getR (pc := 21) (ci := 1) (C := R_Weaver) (T := F_Weaver) (N := 16) B 0 rfl rfl (by decide) i_Weaver (B.2.2.2.1 _ k_228) rfl (hR.1 _ 0 _ rfl) d_Weaver_fetch_21 ?_
  refine mv_sipush (pc := 24) (v := 205) B d_Weaver_fetch_24 (by decide) ?_
  refine mv_callVi (pc := 27) (n := 1) (ci := 2) (C := R_Tokens) B (mK_ok sk sv) hNs rfl rfl (c_Tokens_takeN l hi _ _ hR.1 (hG.2.2.1.wt hF.wt hP ht2) (by omega) (by omega) (by decide)) rfl (ma_goodc kc_Tokens_take) (B.2.2.2.1 _ k_1266) (B.2.2.2.1 _ k_1267) (B.2.2.2.1 _ k_1268) (B.2.2.2.1 _ k_3) ⟨by decide +kernel, by decide +kernel, by decide +kernel⟩ rfl d_Weaver_fetch_27 rfl (Nat.le_of_ble_eq_true rfl) ⟨by decide, by decide⟩ ⟨by decide, by decide⟩ ⟨by decide, by decide⟩ (mv_noH hno _) (fun v27 σ27 h27 => ?_)
  obtain ⟨a27, w27, e27, r27⟩ := h27
  have q27 := r27.1
  have z27 := fun q => (r27.2.1 q).1
  have y27 := And.intro r27.2.2.2.1 r27.2.2.2.2.1
  subst e27
  refine mv_gen (fun S30 eS30 => ?_)
  have hR : Rw 48 (mv_r S30) := by rw [eS30]; exact hR
  have hF : IF 48 σ S30 := by rw [eS30]; exact hF.tk3 _ _ _
  have hN : mv_i S30 21 0 = 0 → mv_i σ 21 0 = 0 := by rw [eS30]; exact hN
  have t7 : (mv_i S30 3 7).toInt = a27.toInt := by rw [eS30]; rfl
  have t8 : (mv_i S30 3 8).toInt = (mv_i σ 3 8).toInt := by rw [eS30]; first | exact t8 | exact (sub_one (by omega)).trans (by omega) | exact (i32_inc (by omega)).trans (by omega)
  have t9 : (mv_i S30 3 9).toInt = w27.toInt := by rw [eS30]; rfl
  have kp := Eq.trans (show mv_a S30 4 = mv_a _ 4 by rw [eS30]; rfl) kp
  have k6 := Eq.trans (show mv_b S30 6 = mv_b _ 6 by rw [eS30]; rfl) k6
  have hW2 : WN 48 512 S30 n th sl no := by rw [eS30]; exact hW2.tk3 hP _ _ _
  clear eS30
  refine mv_pop (pc := 30) B d_Weaver_fetch_30 rfl ?_
  refine mv_aload_n (pc := 31) B d_Weaver_fetch_31 rfl 2 rfl ?_
  refine mv_getR (pc := 32) (ci := 1) (C := R_Weaver) (T := F_Weaver) (N := 16) B 0 rfl rfl (by decide) i_Weaver (B.2.2.2.1 _ k_228) rfl (hR.1 _ 0 _ rfl) d_Weaver_fetch_32 ?_
  refine mv_iconst (pc := 35) (v := 3) B d_Weaver_fetch_35 (by decide) ?_
  refine mv_callVi (pc := 36) (n := 1) (ci := 2) (C := R_Tokens) B (mK_ok sk sv) hNs rfl rfl (c_Tokens_takeN l hi _ _ hR.1 (hG.2.2.1.wt hF.wt hP ht2) (by omega) (by omega) (by decide)) rfl (ma_goodc kc_Tokens_take) (B.2.2.2.1 _ k_1266) (B.2.2.2.1 _ k_1267) (B.2.2.2.1 _ k_1268) (B.2.2.2.1 _ k_3) ⟨by decide +kernel, by decide +kernel, by decide +kernel⟩ rfl d_Weaver_fetch_36 rfl (Nat.le_of_ble_eq_true rfl) ⟨by decide, by decide⟩ ⟨by decide, by decide⟩ ⟨by decide, by decide⟩ (mv_noH hno _) (fun v36 σ36 h36 => ?_)
  have kz2 := k6
  obtain ⟨a36, w36, e36, r36⟩ := h36
  have q36 := r36.1
  have z36 := fun q => (r36.2.1 q).1
  have y36 := And.intro r36.2.2.2.1 r36.2.2.2.2.1
  subst e36
  have sy36 := TkR.sym (hG.2.2.1.wt hF.wt hP ht2) r36
  refine mv_gen (fun S39 eS39 => ?_)
  have hR : Rw 48 (mv_r S39) := by rw [eS39]; exact hR
  have hF : IF 48 σ S39 := by rw [eS39]; exact hF.tk3 _ _ _
  have hN : mv_i S39 21 0 = 0 → mv_i σ 21 0 = 0 := by rw [eS39]; exact hN
  have t7 : (mv_i S39 3 7).toInt = a36.toInt := by rw [eS39]; rfl
  have t8 : (mv_i S39 3 8).toInt = (mv_i σ 3 8).toInt := by rw [eS39]; first | exact t8 | exact (sub_one (by omega)).trans (by omega) | exact (i32_inc (by omega)).trans (by omega)
  have t9 : (mv_i S39 3 9).toInt = w36.toInt := by rw [eS39]; rfl
  have kp := Eq.trans (show mv_a S39 4 = mv_a _ 4 by rw [eS39]; rfl) kp
  have k6 := Eq.trans (show mv_b S39 6 = mv_b _ 6 by rw [eS39]; rfl) k6
  have hW2 : WN 48 512 S39 n th sl no := by rw [eS39]; exact hW2.tk3 hP _ _ _
  have sy36 : 0 ≤ (mv_b σ 6 v36.toNatClampNeg).toInt ∧ (mv_b σ 6 v36.toNatClampNeg).toInt < n := by rw [← kz2]; exact sy36
  clear eS39
  refine mv_istore_n (pc := 39) B d_Weaver_fetch_39 rfl (by decide) rfl ?_
  refine mv_aload_n (pc := 40) B d_Weaver_fetch_40 rfl 3 rfl ?_
  refine mv_getR (pc := 41) (ci := 1) (C := R_Weaver) (T := F_Weaver) (N := 16) B 0 rfl rfl (by decide) i_Weaver (B.2.2.2.1 _ k_228) rfl (hR.1 _ 0 _ rfl) d_Weaver_fetch_41 ?_
  refine mv_bipush (pc := 44) (v := 59) B d_Weaver_fetch_44 (by decide) ?_
  refine mv_callVi (pc := 46) (n := 1) (ci := 2) (C := R_Tokens) B (mK_ok sk sv) hNs rfl rfl (c_Tokens_takeN l hi _ _ hR.1 (hG.2.2.1.wt hF.wt hP ht2) (by omega) (by omega) (by decide)) rfl (ma_goodc kc_Tokens_take) (B.2.2.2.1 _ k_1266) (B.2.2.2.1 _ k_1267) (B.2.2.2.1 _ k_1268) (B.2.2.2.1 _ k_3) ⟨by decide +kernel, by decide +kernel, by decide +kernel⟩ rfl d_Weaver_fetch_46 rfl (Nat.le_of_ble_eq_true rfl) ⟨by decide, by decide⟩ ⟨by decide, by decide⟩ ⟨by decide, by decide⟩ (mv_noH hno _) (fun v46 σ46 h46 => ?_)
  obtain ⟨a46, w46, e46, r46⟩ := h46
  have q46 := r46.1
  have z46 := fun q => (r46.2.1 q).1
  have y46 := And.intro r46.2.2.2.1 r46.2.2.2.2.1
  subst e46
  refine mv_gen (fun S49 eS49 => ?_)
  have hR : Rw 48 (mv_r S49) := by rw [eS49]; exact hR
  have hF : IF 48 σ S49 := by rw [eS49]; exact hF.tk3 _ _ _
  have hN : mv_i S49 21 0 = 0 → mv_i σ 21 0 = 0 := by rw [eS49]; exact hN
  have t7 : (mv_i S49 3 7).toInt = a46.toInt := by rw [eS49]; rfl
  have t8 : (mv_i S49 3 8).toInt = (mv_i σ 3 8).toInt := by rw [eS49]; first | exact t8 | exact (sub_one (by omega)).trans (by omega) | exact (i32_inc (by omega)).trans (by omega)
  have t9 : (mv_i S49 3 9).toInt = w46.toInt := by rw [eS49]; rfl
  have kp := Eq.trans (show mv_a S49 4 = mv_a _ 4 by rw [eS49]; rfl) kp
  have k6 := Eq.trans (show mv_b S49 6 = mv_b _ 6 by rw [eS49]; rfl) k6
  have hW2 : WN 48 512 S49 n th sl no := by rw [eS49]; exact hW2.tk3 hP _ _ _
  clear eS49
  refine mv_pop (pc := 49) B d_Weaver_fetch_49 rfl ?_
  refine mv_aload_n (pc := 50) B d_Weaver_fetch_50 rfl 3 rfl ?_
  refine mv_getR (pc := 51) (ci := 1) (C := R_Weaver) (T := F_Weaver) (N := 16) B 0 rfl rfl (by decide) i_Weaver (B.2.2.2.1 _ k_228) rfl (hR.1 _ 0 _ rfl) d_Weaver_fetch_51 ?_
  refine mv_callVi (pc := 54) (n := 0) (ci := 2) (C := R_Tokens) B (mK_ok sk sv) hNs rfl rfl (c_Tokens_right l hi _) rfl (ma_goodc kc_Tokens_right) (B.2.2.2.1 _ k_1291) (B.2.2.2.1 _ k_1292) (B.2.2.2.1 _ k_1293) (B.2.2.2.1 _ k_3) ⟨by decide +kernel, by decide +kernel, by decide +kernel⟩ rfl d_Weaver_fetch_54 rfl (Nat.le_of_ble_eq_true rfl) ⟨by decide, by decide⟩ ⟨by decide, by decide⟩ ⟨by decide, by decide⟩ (mv_noH hno _) (fun v54 σ54 h54 => ?_)
  obtain ⟨e54, z54⟩ := h54
  have e54 := e54.symm
  subst e54
  refine mv_if_ne (pc := 57) (tgt := 61) B d_Weaver_fetch_57 rfl (fun h57 => ?_) (fun h57 => ?_)
  · skip
    have hw : (mv_i S49 3 9).toInt < 0 := Decidable.byContradiction fun q => h57 (by rw [z54, if_neg (fun z => q (lt0.mp z))])
    refine mv_aload_n (pc := 61) B d_Weaver_fetch_61 rfl 3 rfl ?_
    refine mv_getR (pc := 62) (ci := 1) (C := R_Weaver) (T := F_Weaver) (N := 16) B 5 rfl rfl (by decide) i_Weaver (B.2.2.2.1 _ k_235) rfl hR.2.2.1 d_Weaver_fetch_62 ?_
    refine mv_getI (pc := 65) (ci := 7) (C := R_Program) (T := F_Program) (N := 19) B 9 rfl rfl (by decide) i_Program (B.2.2.2.1 _ k_342) rfl d_Weaver_fetch_65 ?_
    refine mv_if_lt (pc := 68) (tgt := 78) B d_Weaver_fetch_68 rfl (fun h68 => ?_) (fun h68 => ?_)
    · skip
      have go := j78 S49 v7 v16 v36 hR hF hN hW2 (by omega) t8 hw k6 y16 y36 (by rw [k6]; exact sy16) (by rw [k6]; exact sy36)
      refine mv_lpick [0, 1, 2, 3] rfl ?_
      exact go
    · skip
      refine mv_aload_n (pc := 71) B d_Weaver_fetch_71 rfl 3 rfl ?_
      refine mv_iload_n (pc := 72) B d_Weaver_fetch_72 rfl 2 rfl ?_
      refine mv_bipush (pc := 73) (v := 6) B d_Weaver_fetch_73 (by decide) ?_
      refine mv_callVv (pc := 75) (n := 2) (ci := 1) (C := R_Weaver) B (mK_ok sk sv) hNs rfl rfl (c_Weaver_tell l hi _ _ _ hR.1 y7.1 (by omega) (by decide)) rfl (ma_goodc kc_Weaver_tell) (B.2.2.2.1 _ k_1282) (B.2.2.2.1 _ k_1284) (B.2.2.2.1 _ ks_32) (B.2.2.2.1 _ k_2) ⟨by decide +kernel, by decide +kernel, by decide +kernel⟩ rfl d_Weaver_fetch_75 rfl (Nat.le_of_ble_eq_true rfl) ⟨by decide, by decide⟩ ⟨by decide, by decide⟩ ⟨by decide, by decide⟩ (mv_noH hno _) (fun σ75 h75 => ?_)
      obtain ⟨x9, y9, q1, q2⟩ := h75
      subst q1
      have go := j78 (ex_tell S49 x9 y9) v7 v16 v36 hR (hF.tell x9 y9) (fun q => absurd q q2) (hW2.tell hP _ _) (show (mv_i S49 3 7).toInt < sz ∧ a + 1 ≤ (mv_i S49 3 7).toInt by omega) t8 hw k6 y16 y36 (by show 0 ≤ (mv_b S49 6 _).toInt ∧ (mv_b S49 6 _).toInt < n; rw [k6]; exact sy16) (by show 0 ≤ (mv_b S49 6 _).toInt ∧ (mv_b S49 6 _).toInt < n; rw [k6]; exact sy36)
      refine mv_lpick [0, 1, 2, 3] rfl ?_
      exact go
  · skip
    have hw : ¬ (mv_i S49 3 9).toInt < 0 := fun q => by rw [if_pos (lt0.mpr q)] at z54; rw [z54] at h57; exact absurd h57 (by decide)
    have hend : TP 48 512 σ S49 n sz a := ⟨hF.wt, by rw [hF.2.1 24 (by decide)]; exact hM, th, sl, no, hW2, Or.inl (by omega)⟩
    exact mv_vret (pc := 60) B hr d_Weaver_fetch_60 (Nat.le_refl _) (Nat.le_refl _) ⟨rfl, hend⟩
set_option maxHeartbeats 4000000 in
set_option maxRecDepth 100000 in
theorem c_Weaver_fetch_c (l : Launch) {dA : FieldType → ClassId} {D : va_G} {al : Nat → Nat} {sk sv : Nat → Nat} (hi : mv_inj (mg dA D al me)) (σ : mv_H) {t tn len n z sz th sl s0 a ns no : Nat} (hG : WG 145 8192 48 me σ t tn len n z sz) (hM : Mt (mv_a σ 24)) (hW : WN 145 48 σ n th sl no) (hS : WS 145 σ sz th s0 a ns no []) (hm0 : mv_i σ 2 6 = 0) (hk3 : mv_a σ 4 (mv_i σ 3 7).toNatClampNeg = 204) : mv_C l y_Weaver_fetch (Cond.code y_Weaver_fetch b_Weaver_fetch 6 (Option.none : Option Jvm.ClassFile.FieldType) :: ma) ({ frames := 2, cells := 0, slots := 0, locals := 44 }) (mg dA D al me) (mK sk sv) [.ref (al 2)] σ (mv_Rv (fun σ1 => TP 145 48 σ σ1 n sz a)) := by
  refine mv_C.ofV (cc := b_Weaver_fetch) (nL := 6) (ret := (Option.none : Option Jvm.ClassFile.FieldType)) (by decide +kernel) rfl hi (Nat.le_of_ble_eq_true rfl) ?_
  intro p e s m below meth c B hNs hr hnm hno
  have hP : PQ 145 := by unfold PQ; omega
  have hR := hG.1
  have ht2 := hG.2.1.2.2.2.2.2.2
  have hF : IF 145 σ σ := Fr.rf
  have hN : mv_i σ 21 0 = 0 → mv_i σ 21 0 = 0 := fun q => q
  have hE := hG.2.2.1
  have hsz := hE.2.2.2.2.2
  have hsz2 := hE.2.2.2.1
  have hlen := hG.2.2.2.2.1
  have hlen2 := hG.2.2.2.2.2
  have t7 := hS.1.1
  have hw9 := hS.1.2.1
  have ha9 := hS.1.2.2.2.2.1
  have t9 : (mv_i σ 3 9).toInt = (mv_i σ 3 9).toInt := rfl
  have t8 : (mv_i σ 3 8).toInt = (mv_i σ 3 8).toInt := rfl
  have kp : mv_a σ 4 = mv_a σ 4 := rfl
  have k6 : mv_b σ 6 = mv_b σ 6 := rfl
  have hs5 := hS.1.2.2.2.2.2.1
  have hs6 := hS.1.2.2.2.2.2.2.1
  have hd8 := hS.1.2.2.1
  have hd9 := hS.1.2.2.2.1
  have j78 : ∀ (υ : mv_H) (tk1 : Int32) (tk2 : Int32) (tk3 : Int32) (hR : Rw 145 (mv_r υ)) (hF : IF 145 σ υ) (hN : mv_i υ 21 0 = 0 → mv_i σ 21 0 = 0) (hW2 : WN 145 48 υ n th sl no) (t7 : (mv_i υ 3 7).toInt < sz ∧ a + 1 ≤ (mv_i υ 3 7).toInt) (t8 : (mv_i υ 3 8).toInt = (mv_i σ 3 8).toInt) (hw : (mv_i υ 3 9).toInt < 0) (k6 : mv_b υ 6 = mv_b σ 6) (b2 : 0 ≤ tk2.toInt ∧ tk2.toInt < sz) (b3 : 0 ≤ tk3.toInt ∧ tk3.toInt < sz) (sy2 : 0 ≤ (mv_b υ 6 tk2.toNatClampNeg).toInt ∧ (mv_b υ 6 tk2.toNatClampNeg).toInt < n) (sy3 : 0 ≤ (mv_b υ 6 tk3.toNatClampNeg).toInt ∧ (mv_b υ 6 tk3.toNatClampNeg).toInt < n), mv_V p l e ({ frames := 2, cells := 0, slots := 0, locals := 44 }) s m ([.ref (al 2)] : List Value).toArray below meth c (mg dA D al me) 6 0 0 (mv_Q (mg dA D al me) below s 0 0 (mv_Rv (fun σ1 => TP 145 48 σ σ1 n sz a))) υ 78 [(3, .int tk3), (2, .int tk2), (1, .int tk1), (0, .ref (al 2))] [] := by
    intro υ tk1 tk2 tk3 hR hF hN hW2 t7 t8 hw k6 b2 b3 sy2 sy3
    have hn16 := hG.2.2.1.1.2.1
    have ht64 := hW2.2.1.2.1
    have l2tk2 := l2i_nn (x := mv_b υ 6 tk2.toNatClampNeg) sy2.1 (by omega)
    have l2tk3 := l2i_nn (x := mv_b υ 6 tk3.toNatClampNeg) sy3.1 (by omega)
    refine mv_aload_n (pc := 78) B d_Weaver_fetch_78 rfl 3 rfl ?_
    refine mv_getR (pc := 79) (ci := 1) (C := R_Weaver) (T := F_Weaver) (N := 16) B 1 rfl rfl (by decide) i_Weaver (B.2.2.2.1 _ k_229) rfl (hR.1 _ 1 _ rfl) d_Weaver_fetch_79 ?_
    refine mv_getR (pc := 82) (ci := 4) (C := R_Names) (T := F_Names) (N := 10) B 2 rfl rfl (by decide) i_Names (B.2.2.2.1 _ k_138) rfl (hR.1 _ 2 _ rfl) d_Weaver_fetch_82 ?_
    refine mv_aload_n (pc := 85) B d_Weaver_fetch_85 rfl 3 rfl ?_
    refine mv_iload_n (pc := 86) B d_Weaver_fetch_86 rfl 1 rfl ?_
    refine mv_callVi (pc := 87) (n := 1) (ci := 1) (C := R_Weaver) B (mK_ok sk sv) hNs rfl rfl (c_Weaver_symbolOf l hi _ _ hR.1 b2.1 (by omega)) rfl (ma_goodc kc_Weaver_symbolOf) (B.2.2.2.1 _ k_1312) (B.2.2.2.1 _ k_1314) (B.2.2.2.1 _ ks_37) (B.2.2.2.1 _ k_2) ⟨by decide +kernel, by decide +kernel, by decide +kernel⟩ rfl d_Weaver_fetch_87 rfl (Nat.le_of_ble_eq_true rfl) ⟨by decide, by decide⟩ ⟨by decide, by decide⟩ ⟨by decide, by decide⟩ (mv_noH hno _) (fun v87 σ87 h87 => ?_)
    obtain ⟨e87, z87⟩ := h87
    have e87 := e87.symm
    subst e87
    have u87 : v87.toInt = (mv_b υ 6 tk2.toNatClampNeg).toInt := by rw [z87]; exact l2tk2
    refine mv_iald (pc := 90) B rfl (i32_in (by omega) (by omega)) d_Weaver_fetch_90 ?_
    refine mv_istore (pc := 91) B d_Weaver_fetch_91 (by decide) rfl ?_
    refine mv_aload_n (pc := 93) B d_Weaver_fetch_93 rfl 4 rfl ?_
    refine mv_getR (pc := 94) (ci := 1) (C := R_Weaver) (T := F_Weaver) (N := 16) B 1 rfl rfl (by decide) i_Weaver (B.2.2.2.1 _ k_229) rfl (hR.1 _ 1 _ rfl) d_Weaver_fetch_94 ?_
    refine mv_getR (pc := 97) (ci := 4) (C := R_Names) (T := F_Names) (N := 10) B 2 rfl rfl (by decide) i_Names (B.2.2.2.1 _ k_138) rfl (hR.1 _ 2 _ rfl) d_Weaver_fetch_97 ?_
    refine mv_aload_n (pc := 100) B d_Weaver_fetch_100 rfl 4 rfl ?_
    refine mv_iload_n (pc := 101) B d_Weaver_fetch_101 rfl 1 rfl ?_
    refine mv_callVi (pc := 102) (n := 1) (ci := 1) (C := R_Weaver) B (mK_ok sk sv) hNs rfl rfl (c_Weaver_symbolOf l hi _ _ hR.1 b3.1 (by omega)) rfl (ma_goodc kc_Weaver_symbolOf) (B.2.2.2.1 _ k_1312) (B.2.2.2.1 _ k_1314) (B.2.2.2.1 _ ks_37) (B.2.2.2.1 _ k_2) ⟨by decide +kernel, by decide +kernel, by decide +kernel⟩ rfl d_Weaver_fetch_102 rfl (Nat.le_of_ble_eq_true rfl) ⟨by decide, by decide⟩ ⟨by decide, by decide⟩ ⟨by decide, by decide⟩ (mv_noH hno _) (fun v102 σ102 h102 => ?_)
    obtain ⟨e102, z102⟩ := h102
    have e102 := e102.symm
    subst e102
    have u102 : v102.toInt = (mv_b υ 6 tk3.toNatClampNeg).toInt := by rw [z102]; exact l2tk3
    refine mv_iald (pc := 105) B rfl (i32_in (by omega) (by omega)) d_Weaver_fetch_105 ?_
    refine mv_istore (pc := 106) B d_Weaver_fetch_106 (by decide) rfl ?_
    refine mv_aload_n (pc := 108) B d_Weaver_fetch_108 rfl 5 rfl ?_
    refine mv_getR (pc := 109) (ci := 1) (C := R_Weaver) (T := F_Weaver) (N := 16) B 1 rfl rfl (by decide) i_Weaver (B.2.2.2.1 _ k_229) rfl (hR.1 _ 1 _ rfl) d_Weaver_fetch_109 ?_
    refine mv_aload_n (pc := 112) B d_Weaver_fetch_112 rfl 5 rfl ?_
    refine mv_iload_n (pc := 113) B d_Weaver_fetch_113 rfl 3 rfl ?_
    refine mv_callVi (pc := 114) (n := 1) (ci := 1) (C := R_Weaver) B (mK_ok sk sv) hNs rfl rfl (c_Weaver_symbolOf l hi _ _ hR.1 b2.1 (by omega)) rfl (ma_goodc kc_Weaver_symbolOf) (B.2.2.2.1 _ k_1312) (B.2.2.2.1 _ k_1314) (B.2.2.2.1 _ ks_37) (B.2.2.2.1 _ k_2) ⟨by decide +kernel, by decide +kernel, by decide +kernel⟩ rfl d_Weaver_fetch_114 rfl (Nat.le_of_ble_eq_true rfl) ⟨by decide, by decide⟩ ⟨by decide, by decide⟩ ⟨by decide, by decide⟩ (mv_noH hno _) (fun v114 σ114 h114 => ?_)
    obtain ⟨e114, z114⟩ := h114
    have e114 := e114.symm
    subst e114
    have u114 : v114.toInt = (mv_b υ 6 tk2.toNatClampNeg).toInt := by rw [z114]; exact l2tk2
    refine mv_callVi (pc := 117) (n := 1) (ci := 4) (C := R_Names) B (mK_ok sk sv) hNs rfl rfl (c_Names_kindOf l hi _ _ hR.1 n z (hG.2.2.1.wt hF.wt hP ht2).1 (by omega) (by omega)) rfl (ma_goodc kc_Names_kindOf) (B.2.2.2.1 _ k_1316) (B.2.2.2.1 _ k_1317) (B.2.2.2.1 _ k_1318) (B.2.2.2.1 _ k_5) ⟨by decide +kernel, by decide +kernel, by decide +kernel⟩ rfl d_Weaver_fetch_117 rfl (Nat.le_of_ble_eq_true rfl) ⟨by decide, by decide⟩ ⟨by decide, by decide⟩ ⟨by decide, by decide⟩ (mv_noH hno _) (fun v117 σ117 h117 => ?_)
    obtain ⟨e117, z117⟩ := h117
    have e117 := e117.symm
    subst e117
    refine mv_iconst (pc := 120) (v := 1) B d_Weaver_fetch_120 (by decide) ?_
    refine mv_icmp_eq (pc := 121) (tgt := 133) B d_Weaver_fetch_121 rfl (fun h121 => ?_) (fun h121 => ?_)
    · skip
      have q2 : v114 = v87 := z114.trans z87.symm
      have n2 := (hW2.1 v87.toNatClampNeg (by have := i32_cl (x := v87) (by omega); omega)).1 (Or.inl (by rw [q2] at z117; exact (z117.resolve_left (fun q => by rw [q] at h121; exact absurd h121 (by decide))).symm.trans h121))
      refine mv_aload_n (pc := 133) B d_Weaver_fetch_133 rfl 5 rfl ?_
      refine mv_getR (pc := 134) (ci := 1) (C := R_Weaver) (T := F_Weaver) (N := 16) B 1 rfl rfl (by decide) i_Weaver (B.2.2.2.1 _ k_229) rfl (hR.1 _ 1 _ rfl) d_Weaver_fetch_134 ?_
      refine mv_aload_n (pc := 137) B d_Weaver_fetch_137 rfl 5 rfl ?_
      refine mv_iload_n (pc := 138) B d_Weaver_fetch_138 rfl 2 rfl ?_
      refine mv_callVi (pc := 139) (n := 1) (ci := 1) (C := R_Weaver) B (mK_ok sk sv) hNs rfl rfl (c_Weaver_symbolOf l hi _ _ hR.1 b3.1 (by omega)) rfl (ma_goodc kc_Weaver_symbolOf) (B.2.2.2.1 _ k_1312) (B.2.2.2.1 _ k_1314) (B.2.2.2.1 _ ks_37) (B.2.2.2.1 _ k_2) ⟨by decide +kernel, by decide +kernel, by decide +kernel⟩ rfl d_Weaver_fetch_139 rfl (Nat.le_of_ble_eq_true rfl) ⟨by decide, by decide⟩ ⟨by decide, by decide⟩ ⟨by decide, by decide⟩ (mv_noH hno _) (fun v139 σ139 h139 => ?_)
      obtain ⟨e139, z139⟩ := h139
      have e139 := e139.symm
      subst e139
      have u139 : v139.toInt = (mv_b υ 6 tk3.toNatClampNeg).toInt := by rw [z139]; exact l2tk3
      refine mv_callVi (pc := 142) (n := 1) (ci := 4) (C := R_Names) B (mK_ok sk sv) hNs rfl rfl (c_Names_kindOf l hi _ _ hR.1 n z (hG.2.2.1.wt hF.wt hP ht2).1 (by omega) (by omega)) rfl (ma_goodc kc_Names_kindOf) (B.2.2.2.1 _ k_1316) (B.2.2.2.1 _ k_1317) (B.2.2.2.1 _ k_1318) (B.2.2.2.1 _ k_5) ⟨by decide +kernel, by decide +kernel, by decide +kernel⟩ rfl d_Weaver_fetch_142 rfl (Nat.le_of_ble_eq_true rfl) ⟨by decide, by decide⟩ ⟨by decide, by decide⟩ ⟨by decide, by decide⟩ (mv_noH hno _) (fun v142 σ142 h142 => ?_)
      obtain ⟨e142, z142⟩ := h142
      have e142 := e142.symm
      subst e142
      refine mv_iconst (pc := 145) (v := 2) B d_Weaver_fetch_145 (by decide) ?_
      refine mv_icmp_ne (pc := 146) (tgt := 164) B d_Weaver_fetch_146 rfl (fun h146 => ?_) (fun h146 => ?_)
      · skip
        refine mv_aload_n (pc := 164) B d_Weaver_fetch_164 rfl 5 rfl ?_
        refine mv_iload_n (pc := 165) B d_Weaver_fetch_165 rfl 2 rfl ?_
        refine mv_iconst (pc := 166) (v := 2) B d_Weaver_fetch_166 (by decide) ?_
        refine mv_callVv (pc := 167) (n := 2) (ci := 1) (C := R_Weaver) B (mK_ok sk sv) hNs rfl rfl (c_Weaver_tell l hi _ _ _ hR.1 b3.1 (by omega) (by decide)) rfl (ma_goodc kc_Weaver_tell) (B.2.2.2.1 _ k_1282) (B.2.2.2.1 _ k_1284) (B.2.2.2.1 _ ks_32) (B.2.2.2.1 _ k_2) ⟨by decide +kernel, by decide +kernel, by decide +kernel⟩ rfl d_Weaver_fetch_167 rfl (Nat.le_of_ble_eq_true rfl) ⟨by decide, by decide⟩ ⟨by decide, by decide⟩ ⟨by decide, by decide⟩ (mv_noH hno _) (fun σ167 h167 => ?_)
        obtain ⟨x9, y9, q1, q2⟩ := h167
        subst q1
        have hend : TP 145 48 σ (ex_tell υ x9 y9) n sz a := by
          have hF := hF.tell x9 y9
          exact ⟨hF.wt, by rw [hF.2.1 24 (by decide)]; exact hM, th, sl, no, hW2.tell hP _ _, Or.inr ⟨(mv_i υ 3 7).toInt.toNat, by omega, Or.inl ⟨(hF.1 2 6 (by decide)).trans hm0, s0, ns, hS.it hF hP (show (mv_i υ 3 7).toInt = _ by omega) hw t8 (by omega) (by omega) (fun q => absurd q q2) (Nat.le_refl _)⟩⟩⟩
        refine mv_goto (pc := 170) (tgt := 191) B d_Weaver_fetch_170 rfl ?_
        exact mv_vret (pc := 191) B hr d_Weaver_fetch_191 (Nat.le_refl _) (Nat.le_refl _) ⟨rfl, hend⟩
      · skip
        have q3 : v139 = v102 := z139.trans z102.symm
        have n3 := (hW2.1 v102.toNatClampNeg (by have := i32_cl (x := v102) (by omega); omega)).1 (Or.inr (by rw [q3] at z142; exact (z142.resolve_left (fun q => by rw [q] at h146; exact absurd h146 (by decide))).symm.trans h146))
        refine mv_aload_n (pc := 149) B d_Weaver_fetch_149 rfl 5 rfl ?_
        refine mv_getR (pc := 150) (ci := 1) (C := R_Weaver) (T := F_Weaver) (N := 16) B 5 rfl rfl (by decide) i_Weaver (B.2.2.2.1 _ k_235) rfl hR.2.2.1 d_Weaver_fetch_150 ?_
        refine mv_getR (pc := 153) (ci := 7) (C := R_Program) (T := F_Program) (N := 19) B 2 rfl rfl (by decide) i_Program (B.2.2.2.1 _ k_321) rfl (hR.2.1 _ 2 146 rfl) d_Weaver_fetch_153 ?_
        refine mv_iload (pc := 156) B d_Weaver_fetch_156 0 rfl ?_
        refine mv_iald (pc := 158) B rfl (i32_in n3.1 (by omega)) d_Weaver_fetch_158 ?_
        refine mv_bipush (pc := 159) (v := 8) B d_Weaver_fetch_159 (by decide) ?_
        refine mv_icmp_eq (pc := 161) (tgt := 173) B d_Weaver_fetch_161 rfl (fun h161 => ?_) (fun h161 => ?_)
        · skip
          have hend : TP 145 48 σ (mv_si (mv_si υ 145 8 (mv_a υ 15 v87.toNatClampNeg)) 145 9 (mv_a υ 15 v102.toNatClampNeg)) n sz a := by
            have hF := (hF.p (k := 8) (by omega) (mv_a υ 15 v87.toNatClampNeg)).p (k := 9) (by omega) (mv_a υ 15 v102.toNatClampNeg)
            exact ⟨hF.wt, by rw [hF.2.1 24 (by decide)]; exact hM, th, sl, no, hW2.fetch hP n2 n3, Or.inr ⟨(mv_i υ 3 7).toInt.toNat, by omega, Or.inl ⟨(hF.1 2 6 (by decide)).trans hm0, s0, ns, hS.it hF hP (show (mv_i υ 3 7).toInt = _ by omega) hw t8 (by omega) (by omega) hN (Nat.le_refl _)⟩⟩⟩
          refine mv_aload_n (pc := 173) B d_Weaver_fetch_173 rfl 5 rfl ?_
          refine mv_getR (pc := 174) (ci := 1) (C := R_Weaver) (T := F_Weaver) (N := 16) B 5 rfl rfl (by decide) i_Weaver (B.2.2.2.1 _ k_235) rfl hR.2.2.1 d_Weaver_fetch_174 ?_
          refine mv_iload (pc := 177) B d_Weaver_fetch_177 1 rfl ?_
          refine mv_putI (pc := 179) (ci := 7) (C := R_Program) (T := F_Program) (N := 19) B 8 rfl rfl (by decide) i_Program t_Program_ok n_Program (B.2.2.2.1 _ k_339) rfl rfl rfl rfl d_Weaver_fetch_179 ?_
          refine mv_aload_n (pc := 182) B d_Weaver_fetch_182 rfl 5 rfl ?_
          refine mv_getR (pc := 183) (ci := 1) (C := R_Weaver) (T := F_Weaver) (N := 16) B 5 rfl rfl (by decide) i_Weaver (B.2.2.2.1 _ k_235) rfl hR.2.2.1 d_Weaver_fetch_183 ?_
          refine mv_iload (pc := 186) B d_Weaver_fetch_186 0 rfl ?_
          refine mv_putI (pc := 188) (ci := 7) (C := R_Program) (T := F_Program) (N := 19) B 9 rfl rfl (by decide) i_Program t_Program_ok n_Program (B.2.2.2.1 _ k_342) rfl rfl rfl rfl d_Weaver_fetch_188 ?_
          exact mv_vret (pc := 191) B hr d_Weaver_fetch_191 (Nat.le_refl _) (Nat.le_refl _) ⟨rfl, hend⟩
        · skip
          refine mv_aload_n (pc := 164) B d_Weaver_fetch_164 rfl 5 rfl ?_
          refine mv_iload_n (pc := 165) B d_Weaver_fetch_165 rfl 2 rfl ?_
          refine mv_iconst (pc := 166) (v := 2) B d_Weaver_fetch_166 (by decide) ?_
          refine mv_callVv (pc := 167) (n := 2) (ci := 1) (C := R_Weaver) B (mK_ok sk sv) hNs rfl rfl (c_Weaver_tell l hi _ _ _ hR.1 b3.1 (by omega) (by decide)) rfl (ma_goodc kc_Weaver_tell) (B.2.2.2.1 _ k_1282) (B.2.2.2.1 _ k_1284) (B.2.2.2.1 _ ks_32) (B.2.2.2.1 _ k_2) ⟨by decide +kernel, by decide +kernel, by decide +kernel⟩ rfl d_Weaver_fetch_167 rfl (Nat.le_of_ble_eq_true rfl) ⟨by decide, by decide⟩ ⟨by decide, by decide⟩ ⟨by decide, by decide⟩ (mv_noH hno _) (fun σ167 h167 => ?_)
          obtain ⟨x9, y9, q1, q2⟩ := h167
          subst q1
          have hend : TP 145 48 σ (ex_tell υ x9 y9) n sz a := by
            have hF := hF.tell x9 y9
            exact ⟨hF.wt, by rw [hF.2.1 24 (by decide)]; exact hM, th, sl, no, hW2.tell hP _ _, Or.inr ⟨(mv_i υ 3 7).toInt.toNat, by omega, Or.inl ⟨(hF.1 2 6 (by decide)).trans hm0, s0, ns, hS.it hF hP (show (mv_i υ 3 7).toInt = _ by omega) hw t8 (by omega) (by omega) (fun q => absurd q q2) (Nat.le_refl _)⟩⟩⟩
          refine mv_goto (pc := 170) (tgt := 191) B d_Weaver_fetch_170 rfl ?_
          exact mv_vret (pc := 191) B hr d_Weaver_fetch_191 (Nat.le_refl _) (Nat.le_refl _) ⟨rfl, hend⟩
    · skip
      refine mv_aload_n (pc := 124) B d_Weaver_fetch_124 rfl 5 rfl ?_
      refine mv_iload_n (pc := 125) B d_Weaver_fetch_125 rfl 3 rfl ?_
      refine mv_iconst (pc := 126) (v := 2) B d_Weaver_fetch_126 (by decide) ?_
      refine mv_callVv (pc := 127) (n := 2) (ci := 1) (C := R_Weaver) B (mK_ok sk sv) hNs rfl rfl (c_Weaver_tell l hi _ _ _ hR.1 b2.1 (by omega) (by decide)) rfl (ma_goodc kc_Weaver_tell) (B.2.2.2.1 _ k_1282) (B.2.2.2.1 _ k_1284) (B.2.2.2.1 _ ks_32) (B.2.2.2.1 _ k_2) ⟨by decide +kernel, by decide +kernel, by decide +kernel⟩ rfl d_Weaver_fetch_127 rfl (Nat.le_of_ble_eq_true rfl) ⟨by decide, by decide⟩ ⟨by decide, by decide⟩ ⟨by decide, by decide⟩ (mv_noH hno _) (fun σ127 h127 => ?_)
      obtain ⟨x9, y9, q1, q2⟩ := h127
      subst q1
      have hend : TP 145 48 σ (ex_tell υ x9 y9) n sz a := by
        have hF := hF.tell x9 y9
        exact ⟨hF.wt, by rw [hF.2.1 24 (by decide)]; exact hM, th, sl, no, hW2.tell hP _ _, Or.inr ⟨(mv_i υ 3 7).toInt.toNat, by omega, Or.inl ⟨(hF.1 2 6 (by decide)).trans hm0, s0, ns, hS.it hF hP (show (mv_i υ 3 7).toInt = _ by omega) hw t8 (by omega) (by omega) (fun q => absurd q q2) (Nat.le_refl _)⟩⟩⟩
      refine mv_goto (pc := 130) (tgt := 191) B d_Weaver_fetch_130 rfl ?_
      exact mv_vret (pc := 191) B hr d_Weaver_fetch_191 (Nat.le_refl _) (Nat.le_refl _) ⟨rfl, hend⟩
  refine mv_aload_n (pc := 0) B d_Weaver_fetch_0 rfl 0 rfl ?_
  refine mv_getR (pc := 1) (ci := 1) (C := R_Weaver) (T := F_Weaver) (N := 16) B 0 rfl rfl (by decide) i_Weaver (B.2.2.2.1 _ k_228) rfl (hR.1 _ 0 _ rfl) d_Weaver_fetch_1 ?_
  refine mv_sipush (pc := 4) (v := 204) B d_Weaver_fetch_4 (by decide) ?_
  refine mv_callVi (pc := 7) (n := 1) (ci := 2) (C := R_Tokens) B (mK_ok sk sv) hNs rfl rfl (c_Tokens_takeN l hi _ _ hR.1 (hG.2.2.1.wt hF.wt hP ht2) (by omega) (by omega) (by decide)) rfl (ma_goodc kc_Tokens_take) (B.2.2.2.1 _ k_1266) (B.2.2.2.1 _ k_1267) (B.2.2.2.1 _ k_1268) (B.2.2.2.1 _ k_3) ⟨by decide +kernel, by decide +kernel, by decide +kernel⟩ rfl d_Weaver_fetch_7 rfl (Nat.le_of_ble_eq_true rfl) ⟨by decide, by decide⟩ ⟨by decide, by decide⟩ ⟨by decide, by decide⟩ (mv_noH hno _) (fun v7 σ7 h7 => ?_)
  obtain ⟨a7, w7, e7, r7⟩ := h7
  have q7 := r7.1
  have z7 := fun q => (r7.2.1 q).1
  have y7 := And.intro r7.2.2.2.1 r7.2.2.2.2.1
  subst e7
  have hw7 := r7.2.2.1 hw9 hk3 trivial
  refine mv_gen (fun S10 eS10 => ?_)
  have hR : Rw 145 (mv_r S10) := by rw [eS10]; exact hR
  have hF : IF 145 σ S10 := by rw [eS10]; exact hF.tk3 _ _ _
  have hN : mv_i S10 21 0 = 0 → mv_i σ 21 0 = 0 := by rw [eS10]; exact hN
  have t7 : (mv_i S10 3 7).toInt = a7.toInt := by rw [eS10]; rfl
  have t8 : (mv_i S10 3 8).toInt = (mv_i σ 3 8).toInt := by rw [eS10]; first | exact t8 | exact (sub_one (by omega)).trans (by omega) | exact (i32_inc (by omega)).trans (by omega)
  have t9 : (mv_i S10 3 9).toInt = w7.toInt := by rw [eS10]; rfl
  have kp := Eq.trans (show mv_a S10 4 = mv_a _ 4 by rw [eS10]; rfl) kp
  have k6 := Eq.trans (show mv_b S10 6 = mv_b _ 6 by rw [eS10]; rfl) k6
  have hW2 := hW
  have hW2 : WN 145 48 S10 n th sl no := by rw [eS10]; exact hW2.tk3 hP _ _ _
  clear eS10
  refine mv_istore_n (pc := 10) B d_Weaver_fetch_10 rfl (by decide) rfl ?_
  refine mv_aload_n (pc := 11) B d_Weaver_fetch_11 rfl 1 rfl ?_
  refine mv_getR (pc := 12) (ci := 1) (C := R_Weaver) (T := F_Weaver) (N := 16) B 0 rfl rfl (by decide) i_Weaver (B.2.2.2.1 _ k_228) rfl (hR.1 _ 0 _ rfl) d_Weaver_fetch_12 ?_
  refine mv_iconst (pc := 15) (v := 3) B d_Weaver_fetch_15 (by decide) ?_
  refine mv_callVi (pc := 16) (n := 1) (ci := 2) (C := R_Tokens) B (mK_ok sk sv) hNs rfl rfl (c_Tokens_takeN l hi _ _ hR.1 (hG.2.2.1.wt hF.wt hP ht2) (by omega) (by omega) (by decide)) rfl (ma_goodc kc_Tokens_take) (B.2.2.2.1 _ k_1266) (B.2.2.2.1 _ k_1267) (B.2.2.2.1 _ k_1268) (B.2.2.2.1 _ k_3) ⟨by decide +kernel, by decide +kernel, by decide +kernel⟩ rfl d_Weaver_fetch_16 rfl (Nat.le_of_ble_eq_true rfl) ⟨by decide, by decide⟩ ⟨by decide, by decide⟩ ⟨by decide, by decide⟩ (mv_noH hno _) (fun v16 σ16 h16 => ?_)
  have kz := k6
  obtain ⟨a16, w16, e16, r16⟩ := h16
  have q16 := r16.1
  have z16 := fun q => (r16.2.1 q).1
  have y16 := And.intro r16.2.2.2.1 r16.2.2.2.2.1
  subst e16
  have sy16 := TkR.sym (hG.2.2.1.wt hF.wt hP ht2) r16
  refine mv_gen (fun S19 eS19 => ?_)
  have hR : Rw 145 (mv_r S19) := by rw [eS19]; exact hR
  have hF : IF 145 σ S19 := by rw [eS19]; exact hF.tk3 _ _ _
  have hN : mv_i S19 21 0 = 0 → mv_i σ 21 0 = 0 := by rw [eS19]; exact hN
  have t7 : (mv_i S19 3 7).toInt = a16.toInt := by rw [eS19]; rfl
  have t8 : (mv_i S19 3 8).toInt = (mv_i σ 3 8).toInt := by rw [eS19]; first | exact t8 | exact (sub_one (by omega)).trans (by omega) | exact (i32_inc (by omega)).trans (by omega)
  have t9 : (mv_i S19 3 9).toInt = w16.toInt := by rw [eS19]; rfl
  have kp := Eq.trans (show mv_a S19 4 = mv_a _ 4 by rw [eS19]; rfl) kp
  have k6 := Eq.trans (show mv_b S19 6 = mv_b _ 6 by rw [eS19]; rfl) k6
  have hW2 : WN 145 48 S19 n th sl no := by rw [eS19]; exact hW2.tk3 hP _ _ _
  have sy16 : 0 ≤ (mv_b σ 6 v16.toNatClampNeg).toInt ∧ (mv_b σ 6 v16.toNatClampNeg).toInt < n := by rw [← kz]; exact sy16
  clear eS19
  refine mv_istore_n (pc := 19) B d_Weaver_fetch_19 rfl (by decide) rfl ?_
  refine mv_aload_n (pc := 20) B d_Weaver_fetch_20 rfl 2 rfl ?_
  refine mv_getR (pc := 21) (ci := 1) (C := R_Weaver) (T := F_Weaver) (N := 16) B 0 rfl rfl (by decide) i_Weaver (B.2.2.2.1 _ k_228) rfl (hR.1 _ 0 _ rfl) d_Weaver_fetch_21 ?_
  refine mv_sipush (pc := 24) (v := 205) B d_Weaver_fetch_24 (by decide) ?_
  refine mv_callVi (pc := 27) (n := 1) (ci := 2) (C := R_Tokens) B (mK_ok sk sv) hNs rfl rfl (c_Tokens_takeN l hi _ _ hR.1 (hG.2.2.1.wt hF.wt hP ht2) (by omega) (by omega) (by decide)) rfl (ma_goodc kc_Tokens_take) (B.2.2.2.1 _ k_1266) (B.2.2.2.1 _ k_1267) (B.2.2.2.1 _ k_1268) (B.2.2.2.1 _ k_3) ⟨by decide +kernel, by decide +kernel, by decide +kernel⟩ rfl d_Weaver_fetch_27 rfl (Nat.le_of_ble_eq_true rfl) ⟨by decide, by decide⟩ ⟨by decide, by decide⟩ ⟨by decide, by decide⟩ (mv_noH hno _) (fun v27 σ27 h27 => ?_)
  obtain ⟨a27, w27, e27, r27⟩ := h27
  have q27 := r27.1
  have z27 := fun q => (r27.2.1 q).1
  have y27 := And.intro r27.2.2.2.1 r27.2.2.2.2.1
  subst e27
  refine mv_gen (fun S30 eS30 => ?_)
  have hR : Rw 145 (mv_r S30) := by rw [eS30]; exact hR
  have hF : IF 145 σ S30 := by rw [eS30]; exact hF.tk3 _ _ _
  have hN : mv_i S30 21 0 = 0 → mv_i σ 21 0 = 0 := by rw [eS30]; exact hN
  have t7 : (mv_i S30 3 7).toInt = a27.toInt := by rw [eS30]; rfl
  have t8 : (mv_i S30 3 8).toInt = (mv_i σ 3 8).toInt := by rw [eS30]; first | exact t8 | exact (sub_one (by omega)).trans (by omega) | exact (i32_inc (by omega)).trans (by omega)
  have t9 : (mv_i S30 3 9).toInt = w27.toInt := by rw [eS30]; rfl
  have kp := Eq.trans (show mv_a S30 4 = mv_a _ 4 by rw [eS30]; rfl) kp
  have k6 := Eq.trans (show mv_b S30 6 = mv_b _ 6 by rw [eS30]; rfl) k6
  have hW2 : WN 145 48 S30 n th sl no := by rw [eS30]; exact hW2.tk3 hP _ _ _
  clear eS30
  refine mv_pop (pc := 30) B d_Weaver_fetch_30 rfl ?_
  refine mv_aload_n (pc := 31) B d_Weaver_fetch_31 rfl 2 rfl ?_
  refine mv_getR (pc := 32) (ci := 1) (C := R_Weaver) (T := F_Weaver) (N := 16) B 0 rfl rfl (by decide) i_Weaver (B.2.2.2.1 _ k_228) rfl (hR.1 _ 0 _ rfl) d_Weaver_fetch_32 ?_
  refine mv_iconst (pc := 35) (v := 3) B d_Weaver_fetch_35 (by decide) ?_
  refine mv_callVi (pc := 36) (n := 1) (ci := 2) (C := R_Tokens) B (mK_ok sk sv) hNs rfl rfl (c_Tokens_takeN l hi _ _ hR.1 (hG.2.2.1.wt hF.wt hP ht2) (by omega) (by omega) (by decide)) rfl (ma_goodc kc_Tokens_take) (B.2.2.2.1 _ k_1266) (B.2.2.2.1 _ k_1267) (B.2.2.2.1 _ k_1268) (B.2.2.2.1 _ k_3) ⟨by decide +kernel, by decide +kernel, by decide +kernel⟩ rfl d_Weaver_fetch_36 rfl (Nat.le_of_ble_eq_true rfl) ⟨by decide, by decide⟩ ⟨by decide, by decide⟩ ⟨by decide, by decide⟩ (mv_noH hno _) (fun v36 σ36 h36 => ?_)
  have kz2 := k6
  obtain ⟨a36, w36, e36, r36⟩ := h36
  have q36 := r36.1
  have z36 := fun q => (r36.2.1 q).1
  have y36 := And.intro r36.2.2.2.1 r36.2.2.2.2.1
  subst e36
  have sy36 := TkR.sym (hG.2.2.1.wt hF.wt hP ht2) r36
  refine mv_gen (fun S39 eS39 => ?_)
  have hR : Rw 145 (mv_r S39) := by rw [eS39]; exact hR
  have hF : IF 145 σ S39 := by rw [eS39]; exact hF.tk3 _ _ _
  have hN : mv_i S39 21 0 = 0 → mv_i σ 21 0 = 0 := by rw [eS39]; exact hN
  have t7 : (mv_i S39 3 7).toInt = a36.toInt := by rw [eS39]; rfl
  have t8 : (mv_i S39 3 8).toInt = (mv_i σ 3 8).toInt := by rw [eS39]; first | exact t8 | exact (sub_one (by omega)).trans (by omega) | exact (i32_inc (by omega)).trans (by omega)
  have t9 : (mv_i S39 3 9).toInt = w36.toInt := by rw [eS39]; rfl
  have kp := Eq.trans (show mv_a S39 4 = mv_a _ 4 by rw [eS39]; rfl) kp
  have k6 := Eq.trans (show mv_b S39 6 = mv_b _ 6 by rw [eS39]; rfl) k6
  have hW2 : WN 145 48 S39 n th sl no := by rw [eS39]; exact hW2.tk3 hP _ _ _
  have sy36 : 0 ≤ (mv_b σ 6 v36.toNatClampNeg).toInt ∧ (mv_b σ 6 v36.toNatClampNeg).toInt < n := by rw [← kz2]; exact sy36
  clear eS39
  refine mv_istore_n (pc := 39) B d_Weaver_fetch_39 rfl (by decide) rfl ?_
  refine mv_aload_n (pc := 40) B d_Weaver_fetch_40 rfl 3 rfl ?_
  refine mv_getR (pc := 41) (ci := 1) (C := R_Weaver) (T := F_Weaver) (N := 16) B 0 rfl rfl (by decide) i_Weaver (B.2.2.2.1 _ k_228) rfl (hR.1 _ 0 _ rfl) d_Weaver_fetch_41 ?_
  refine mv_bipush (pc := 44) (v := 59) B d_Weaver_fetch_44 (by decide) ?_
  refine mv_callVi (pc := 46) (n := 1) (ci := 2) (C := R_Tokens) B (mK_ok sk sv) hNs rfl rfl (c_Tokens_takeN l hi _ _ hR.1 (hG.2.2.1.wt hF.wt hP ht2) (by omega) (by omega) (by decide)) rfl (ma_goodc kc_Tokens_take) (B.2.2.2.1 _ k_1266) (B.2.2.2.1 _ k_1267) (B.2.2.2.1 _ k_1268) (B.2.2.2.1 _ k_3) ⟨by decide +kernel, by decide +kernel, by decide +kernel⟩ rfl d_Weaver_fetch_46 rfl (Nat.le_of_ble_eq_true rfl) ⟨by decide, by decide⟩ ⟨by decide, by decide⟩ ⟨by decide, by decide⟩ (mv_noH hno _) (fun v46 σ46 h46 => ?_)
  obtain ⟨a46, w46, e46, r46⟩ := h46
  have q46 := r46.1
  have z46 := fun q => (r46.2.1 q).1
  have y46 := And.intro r46.2.2.2.1 r46.2.2.2.2.1
  subst e46
  refine mv_gen (fun S49 eS49 => ?_)
  have hR : Rw 145 (mv_r S49) := by rw [eS49]; exact hR
  have hF : IF 145 σ S49 := by rw [eS49]; exact hF.tk3 _ _ _
  have hN : mv_i S49 21 0 = 0 → mv_i σ 21 0 = 0 := by rw [eS49]; exact hN
  have t7 : (mv_i S49 3 7).toInt = a46.toInt := by rw [eS49]; rfl
  have t8 : (mv_i S49 3 8).toInt = (mv_i σ 3 8).toInt := by rw [eS49]; first | exact t8 | exact (sub_one (by omega)).trans (by omega) | exact (i32_inc (by omega)).trans (by omega)
  have t9 : (mv_i S49 3 9).toInt = w46.toInt := by rw [eS49]; rfl
  have kp := Eq.trans (show mv_a S49 4 = mv_a _ 4 by rw [eS49]; rfl) kp
  have k6 := Eq.trans (show mv_b S49 6 = mv_b _ 6 by rw [eS49]; rfl) k6
  have hW2 : WN 145 48 S49 n th sl no := by rw [eS49]; exact hW2.tk3 hP _ _ _
  clear eS49
  refine mv_pop (pc := 49) B d_Weaver_fetch_49 rfl ?_
  refine mv_aload_n (pc := 50) B d_Weaver_fetch_50 rfl 3 rfl ?_
  refine mv_getR (pc := 51) (ci := 1) (C := R_Weaver) (T := F_Weaver) (N := 16) B 0 rfl rfl (by decide) i_Weaver (B.2.2.2.1 _ k_228) rfl (hR.1 _ 0 _ rfl) d_Weaver_fetch_51 ?_
  refine mv_callVi (pc := 54) (n := 0) (ci := 2) (C := R_Tokens) B (mK_ok sk sv) hNs rfl rfl (c_Tokens_right l hi _) rfl (ma_goodc kc_Tokens_right) (B.2.2.2.1 _ k_1291) (B.2.2.2.1 _ k_1292) (B.2.2.2.1 _ k_1293) (B.2.2.2.1 _ k_3) ⟨by decide +kernel, by decide +kernel, by decide +kernel⟩ rfl d_Weaver_fetch_54 rfl (Nat.le_of_ble_eq_true rfl) ⟨by decide, by decide⟩ ⟨by decide, by decide⟩ ⟨by decide, by decide⟩ (mv_noH hno _) (fun v54 σ54 h54 => ?_)
  obtain ⟨e54, z54⟩ := h54
  have e54 := e54.symm
  subst e54
  refine mv_if_ne (pc := 57) (tgt := 61) B d_Weaver_fetch_57 rfl (fun h57 => ?_) (fun h57 => ?_)
  · skip
    have hw : (mv_i S49 3 9).toInt < 0 := Decidable.byContradiction fun q => h57 (by rw [z54, if_neg (fun z => q (lt0.mp z))])
    refine mv_aload_n (pc := 61) B d_Weaver_fetch_61 rfl 3 rfl ?_
    refine mv_getR (pc := 62) (ci := 1) (C := R_Weaver) (T := F_Weaver) (N := 16) B 5 rfl rfl (by decide) i_Weaver (B.2.2.2.1 _ k_235) rfl hR.2.2.1 d_Weaver_fetch_62 ?_
    refine mv_getI (pc := 65) (ci := 7) (C := R_Program) (T := F_Program) (N := 19) B 9 rfl rfl (by decide) i_Program (B.2.2.2.1 _ k_342) rfl d_Weaver_fetch_65 ?_
    refine mv_if_lt (pc := 68) (tgt := 78) B d_Weaver_fetch_68 rfl (fun h68 => ?_) (fun h68 => ?_)
    · skip
      have go := j78 S49 v7 v16 v36 hR hF hN hW2 (by omega) t8 hw k6 y16 y36 (by rw [k6]; exact sy16) (by rw [k6]; exact sy36)
      refine mv_lpick [0, 1, 2, 3] rfl ?_
      exact go
    · skip
      refine mv_aload_n (pc := 71) B d_Weaver_fetch_71 rfl 3 rfl ?_
      refine mv_iload_n (pc := 72) B d_Weaver_fetch_72 rfl 2 rfl ?_
      refine mv_bipush (pc := 73) (v := 6) B d_Weaver_fetch_73 (by decide) ?_
      refine mv_callVv (pc := 75) (n := 2) (ci := 1) (C := R_Weaver) B (mK_ok sk sv) hNs rfl rfl (c_Weaver_tell l hi _ _ _ hR.1 y7.1 (by omega) (by decide)) rfl (ma_goodc kc_Weaver_tell) (B.2.2.2.1 _ k_1282) (B.2.2.2.1 _ k_1284) (B.2.2.2.1 _ ks_32) (B.2.2.2.1 _ k_2) ⟨by decide +kernel, by decide +kernel, by decide +kernel⟩ rfl d_Weaver_fetch_75 rfl (Nat.le_of_ble_eq_true rfl) ⟨by decide, by decide⟩ ⟨by decide, by decide⟩ ⟨by decide, by decide⟩ (mv_noH hno _) (fun σ75 h75 => ?_)
      obtain ⟨x9, y9, q1, q2⟩ := h75
      subst q1
      have go := j78 (ex_tell S49 x9 y9) v7 v16 v36 hR (hF.tell x9 y9) (fun q => absurd q q2) (hW2.tell hP _ _) (show (mv_i S49 3 7).toInt < sz ∧ a + 1 ≤ (mv_i S49 3 7).toInt by omega) t8 hw k6 y16 y36 (by show 0 ≤ (mv_b S49 6 _).toInt ∧ (mv_b S49 6 _).toInt < n; rw [k6]; exact sy16) (by show 0 ≤ (mv_b S49 6 _).toInt ∧ (mv_b S49 6 _).toInt < n; rw [k6]; exact sy36)
      refine mv_lpick [0, 1, 2, 3] rfl ?_
      exact go
  · skip
    have hw : ¬ (mv_i S49 3 9).toInt < 0 := fun q => by rw [if_pos (lt0.mpr q)] at z54; rw [z54] at h57; exact absurd h57 (by decide)
    have hend : TP 145 48 σ S49 n sz a := ⟨hF.wt, by rw [hF.2.1 24 (by decide)]; exact hM, th, sl, no, hW2, Or.inl (by omega)⟩
    exact mv_vret (pc := 60) B hr d_Weaver_fetch_60 (Nat.le_refl _) (Nat.le_refl _) ⟨rfl, hend⟩
