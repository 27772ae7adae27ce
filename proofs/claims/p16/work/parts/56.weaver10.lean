/-! Weaver: addLet, assign -/
/-- blocks and code, the code h high, open jumps ol; gi: what the EXPR was for is there -/
def KX (P : Nat) (σ : mv_H) (th s ns no : Nat) (bl ol : List Bk) (h : Nat) (gi : Prop) : Prop :=
  ((mv_i σ 2 15).toInt = bl.length ∧ BkR (mv_a σ 28) (mv_a σ 29) (mv_a σ 30) (mv_a σ 31) (mv_b σ (P + 10)) (mv_i σ 13 7).toInt bl ∧ Bo (mv_a σ (P + 9)) s ol) ∧ ((mv_i σ P 17).toInt = s ∧ nSet (mv_a σ (P + 9)) s = ns ∧ (mv_i σ 21 0 = 0 → gi ∧ ∃ hg, CS th s (mv_a σ (P + 9)) (mv_b σ (P + 10)) (mv_a σ (P + 7)) no ol hg h))
section KXS
variable {P M : Nat} {σ τ : mv_H} {th s ns no h : Nat} {bl ol : List Bk} {gi : Prop}
theorem KX.fr (k : KX P σ th s ns no bl ol h gi) (e2 : mv_i τ 2 15 = mv_i σ 2 15) (e13 : mv_i τ 13 7 = mv_i σ 13 7) (e17 : mv_i τ P 17 = mv_i σ P 17) (a28 : mv_a τ 28 = mv_a σ 28) (a29 : mv_a τ 29 = mv_a σ 29) (a30 : mv_a τ 30 = mv_a σ 30) (a31 : mv_a τ 31 = mv_a σ 31) (a9 : mv_a τ (P + 9) = mv_a σ (P + 9)) (b10 : mv_b τ (P + 10) = mv_b σ (P + 10)) (a7 : mv_a τ (P + 7) = mv_a σ (P + 7)) (hN : mv_i τ 21 0 = 0 → mv_i σ 21 0 = 0) : KX P τ th s ns no bl ol h gi := by
  obtain ⟨k1, k2, k3, k4⟩ := k
  unfold KX
  rw [e2, e13, e17, a28, a29, a30, a31, a9, b10, a7]
  exact ⟨k1, k2, k3, fun q => k4 (hN q)⟩
theorem KX.tok (k : KX P σ th s ns no bl ol h gi) (hP : PQ P) (a d w : Int32) : KX P (tk3 σ a d w) th s ns no bl ol h gi := by
  have e : ∀ o y, o ≠ 3 → mv_i (tk3 σ a d w) o y = mv_i σ o y := fun o y q => ((ri_ne (by omega)).trans (ri_ne (by omega))).trans (ri_ne (by omega))
  have hP2 := hP
  unfold PQ at hP2
  exact k.fr (e 2 15 (by omega)) (e 13 7 (by omega)) (e P 17 (by omega)) rfl rfl rfl rfl rfl rfl rfl (fun q => (e 21 0 (by omega)).symm.trans q)
theorem KX.tell (k : KX P σ th s ns no bl ol h gi) (hP : PQ P) {x : Int32} (hx : x = 0 → mv_i σ 21 0 = 0) (y : Int32) : KX P (ex_tell σ x y) th s ns no bl ol h gi := by
  have hP2 := hP
  unfold PQ at hP2
  have e : ∀ o y', o ≠ 21 → mv_i (ex_tell σ x y) o y' = mv_i σ o y' := fun o y' q => (ri_ne (by omega)).trans (ri_ne (by omega))
  exact k.fr (e 2 15 (by omega)) (e 13 7 (by omega)) (e P 17 (by omega)) rfl rfl rfl rfl rfl rfl rfl (fun q => hx q)
theorem KX.w (k : KX P σ th s ns no bl ol h gi) (hP : PQ P) {i : Nat} (hi : i ≠ 15) (v : Int32) : KX P (mv_si σ 2 i v) th s ns no bl ol h gi := by
  have hP2 := hP
  unfold PQ at hP2
  exact k.fr (ri_ne (by omega)) (ri_ne (by omega)) (ri_ne (by omega)) rfl rfl rfl rfl rfl rfl rfl (fun q => by rw [ri_ne (by omega)] at q; exact q)
theorem KX.rel (k : KX P σ th s ns no bl ol h gi) (hP : PQ P) (i : Nat) (v : Int32) : KX P (mv_si σ 22 i v) th s ns no bl ol h gi := by
  have hP2 := hP
  unfold PQ at hP2
  exact k.fr (ri_ne (by omega)) (ri_ne (by omega)) (ri_ne (by omega)) rfl rfl rfl rfl rfl rfl rfl (fun q => by rw [ri_ne (by omega)] at q; exact q)
theorem KX.emitG {h' : Nat} {ol' : List Bk} {gi' : Prop} {d : Int32} {w : Int64} (k : KX P σ th s ns no bl ol h gi) (hP : PQ P) (hs : s < 1000000) (hc : ∀ b ∈ bl, ∀ y ∈ b.2, y < s) (hO : ∀ f', (∀ j, f' j = if j = s then d else mv_a σ (P + 9) j) → Bo f' (s + 1) ol')
    (hC : gi → ∀ hg f' g', CS th s (mv_a σ (P + 9)) (mv_b σ (P + 10)) (mv_a σ (P + 7)) no ol hg h → (∀ j, f' j = if j = s then d else mv_a σ (P + 9) j) → (∀ j, g' j = if j = s then w else mv_b σ (P + 10) j) → gi' ∧ ∃ hg', CS th (s + 1) f' g' (mv_a σ (P + 7)) no ol' hg' h') : KX P (pr_emit P σ d w) th (s + 1) (ns + isSet d) no bl ol' h' gi' := by
  obtain ⟨⟨k1, k2, k3⟩, k4, k5, k6⟩ := k
  unfold PQ at hP
  have en : (mv_i σ P 17).toNatClampNeg = s := by have := i32_cl (x := mv_i σ P 17) (by omega); omega
  have ef : ∀ j, mv_a (pr_emit P σ d w) (P + 9) j = if j = s then d else mv_a σ (P + 9) j := fun j => by rw [em_f, en]
  have eg : ∀ j, mv_b (pr_emit P σ d w) (P + 10) j = if j = s then w else mv_b σ (P + 10) j := fun j => by rw [em_g, en]
  unfold KX
  rw [em_i σ d w (show ¬ (2 = P ∧ 15 = 17) by omega), em_a σ d w (show 28 ≠ P + 9 by omega), em_a σ d w (show 29 ≠ P + 9 by omega), em_a σ d w (show 30 ≠ P + 9 by omega), em_a σ d w (show 31 ≠ P + 9 by omega), em_i σ d w (show ¬ (13 = P ∧ 7 = 17) by omega), em_i17, em_i σ d w (show ¬ (21 = P ∧ 0 = 17) by omega), em_a σ d w (show P + 7 ≠ P + 9 by omega)]
  refine ⟨⟨k1, k2.gcon (fun b hb y hy => by rw [eg, if_neg (by have := hc b hb y hy; omega)]), hO _ ef⟩, by rw [i32_inc (by omega)]; omega, by rw [nSet_up ef, k5], fun q => ?_⟩
  obtain ⟨q1, hg, q2⟩ := k6 q
  exact hC q1 hg _ _ q2 ef eg
theorem Bo.lt {f : Nat → Int32} (h : Bo f s bl) : ∀ b ∈ bl, ∀ y ∈ b.2, y < s := fun b hb y hy => ((h b hb).2.1 y hy).1
theorem KX.set {d : Int32} {w : Int64} (k : KX P σ th s ns no bl bl h gi) (hP : PQ P) (hs : s < 1000000) (hd : ¬ d = 311 ∧ ¬ d = 312 ∧ ¬ d = 316 ∧ ¬ d = 317) (hO : Op1 th d w h 0) : KX P (pr_emit P σ d w) th (s + 1) (ns + isSet d) no bl bl 0 gi :=
  k.emitG hP hs k.1.2.2.lt (fun f' hf => k.1.2.2.up (by omega) (fun a q => by rw [hf, if_neg (by omega)])) (fun q hg f' g' c hf hw => ⟨q, _, c.op k.1.2.2 hf hw 0 hd hO (by omega)⟩)
theorem KX.trap {w : Int64} (k : KX P σ th s ns no bl bl 0 gi) (hP : PQ P) (hs : s < 1000000) : KX P (pr_emit P σ 316 w) th (s + 1) ns no bl bl 0 gi := by
  have := k.emitG (d := 316) (w := w) (h' := 0) (gi' := gi) hP hs k.1.2.2.lt (fun f' hf => k.1.2.2.up (by omega) (fun a q => by rw [hf, if_neg (by omega)])) (fun q hg f' g' c hf hw => ⟨q, _, c.emit k.1.2.2 hf hw 0 (Or.inl rfl) (by omega)⟩)
  rw [show isSet (316 : Int32) = 0 by decide] at this
  exact this
theorem KX.unless {w : Int64} {ex : List Nat} {u : Int32} (k : KX P σ th s ns no bl (((-1 : Int32), ex) :: bl) 1 gi) (hP : PQ P) (hs : s < 1000000) (hu : u.toInt = s) : KX P (pr_emit P σ 312 w) th (s + 1) ns no bl ((u, ex) :: bl) 0 gi := by
  have hb : ∀ f', (∀ j, f' j = if j = s then 312 else mv_a σ (P + 9) j) → Bo f' (s + 1) ((u, ex) :: bl) := fun f' hf => by
    have h3' := k.1.2.2.up (f' := f') (s' := s + 1) (by omega) (fun a q => by rw [hf, if_neg (by omega)])
    exact h3'.tail.cons ⟨fun v hv => by have e : v = s := (by have : u.toInt = v := hv; omega); subst e; exact ⟨by omega, by rw [hf, if_pos rfl]⟩, h3'.head.2.1, by show -1 ≤ u.toInt; omega⟩
  have := k.emitG (d := 312) (w := w) (h' := 0) (ol' := (u, ex) :: bl) (gi' := gi) hP hs k.1.2.2.tail.lt hb (fun q hg f' g' c hf hw => ⟨q, _, (c.unless (show (-1 : Int32).toInt = -1 by decide) k.1.2.2 hu hf hw).1⟩)
  rw [show isSet (312 : Int32) = 0 by decide] at this
  exact this
theorem KX.none {h' : Nat} {gi' : Prop} (k : KX P σ th s ns no bl ol h gi) (hg : ¬ gi) : KX P σ th s ns no bl ol h' gi' := ⟨k.1, k.2.1, k.2.2.1, fun q => absurd (k.2.2.2 q).1 hg⟩
theorem KX.ws {sz a : Nat} (k : KX P σ th s ns no bl bl 0 gi) (ht : (mv_i σ 3 7).toInt = a ∧ (mv_i σ 3 9).toInt < 0 ∧ (bl.length : Int) ≤ (mv_i σ 3 8).toInt ∧ (mv_i σ 3 8).toInt ≤ 60 ∧ a < sz ∧ s + 2 ≤ a ∧ 2 * ns + 2 ≤ a ∧ no ≤ nCd (mv_a σ 4) a) : WS P σ sz th s a ns no bl := ⟨ht, k.1, k.2.1, k.2.2.1, fun q => (k.2.2.2 q).2⟩
theorem WS.kx {sz a : Nat} (k : WS P σ sz th s a ns no bl) : KX P σ th s ns no bl bl 0 True := ⟨k.2.1, k.2.2.1, k.2.2.2.1, fun q => ⟨trivial, k.2.2.2.2 q⟩⟩
/-- a let more -/
def nm_let (σ : mv_H) (y w : Int32) : mv_H := mv_si (mv_sa (mv_si (mv_sa (mv_sa (mv_sa σ 14 y.toNatClampNeg 3) 15 y.toNatClampNeg (mv_i σ 13 9)) 19 (mv_i σ 13 7).toNatClampNeg y) 13 7 (mv_i σ 13 7 + 1)) 20 (mv_i σ 13 9).toNatClampNeg w) 13 9 (mv_i σ 13 9 + 1)
theorem WN.let {n sl : Nat} {y w : Int32} (k : WN P M σ n th sl no) (hP : PQ P) (hy : 0 ≤ y.toInt ∧ y.toInt < n) (hn : n ≤ 16448) (h64 : (mv_i σ 13 9).toInt < 64) : WN P M (nm_let σ y w) n th sl no := by
  obtain ⟨h1, h2, h3, h4, h5, h6, h7⟩ := k
  unfold PQ at hP
  have i13 : mv_i (nm_let σ y w) 13 7 = mv_i σ 13 7 + 1 := rfl
  have i9 : mv_i (nm_let σ y w) 13 9 = mv_i σ 13 9 + 1 := rfl
  have io : ∀ o k, o ≠ 13 → mv_i (nm_let σ y w) o k = mv_i σ o k := fun o k q => (ri_ne (by omega)).trans (ri_ne (by omega))
  have ao : ∀ o, o ≠ 14 ∧ o ≠ 15 ∧ o ≠ 19 ∧ o ≠ 20 → mv_a (nm_let σ y w) o = mv_a σ o := fun o q => (((ra_ne (by omega)).trans (ra_ne (by omega))).trans (ra_ne (by omega))).trans (ra_ne (by omega))
  have a14 : ∀ j, mv_a (nm_let σ y w) 14 j = if j = y.toNatClampNeg then 3 else mv_a σ 14 j := fun j => row1 σ 14 _ 3 j
  have a15 : ∀ j, mv_a (nm_let σ y w) 15 j = if j = y.toNatClampNeg then mv_i σ 13 9 else mv_a σ 15 j := fun j => row1 (mv_sa σ 14 y.toNatClampNeg 3) 15 _ (mv_i σ 13 9) j
  have a19 : ∀ j, mv_a (nm_let σ y w) 19 j = if j = (mv_i σ 13 7).toNatClampNeg then y else mv_a σ 19 j := fun j => row1 (mv_sa (mv_sa σ 14 y.toNatClampNeg 3) 15 y.toNatClampNeg (mv_i σ 13 9)) 19 _ y j
  have c7 := i32_cl (x := mv_i σ 13 7) h3.1
  have e7 := i32_inc (x := mv_i σ 13 7) (by omega)
  have e9 := i32_inc (x := mv_i σ 13 9) (by omega)
  have c8 := i32_cl (x := mv_i σ 13 7 + 1) (by omega)
  have h10 := h3.1
  unfold WN NM Th Ns at *
  rw [i13, i9, io P 0 (by omega), io P 1 (by omega), io P 6 (by omega), io P 7 (by omega), io P 8 (by omega), io P 9 (by omega), io P 10 (by omega), ao (P + 2) (by omega), ao (P + 3) (by omega)]
  refine ⟨fun j hj => ?_, h2, ⟨by omega, by omega, fun i hi => ?_⟩, ⟨by omega, by omega⟩, h5, h6, h7⟩
  · rw [a14, a15]
    by_cases e : j = y.toNatClampNeg
    · rw [if_pos e, if_pos e]
      exact ⟨fun q => absurd q (by decide), fun _ => ⟨by omega, h64⟩⟩
    · rw [if_neg e, if_neg e]
      exact h1 j hj
  · rw [a19]
    by_cases e : i = (mv_i σ 13 7).toNatClampNeg
    · rw [if_pos e]; omega
    · rw [if_neg e]
      exact h3.2.2 i (by omega)
theorem KX.let {y w : Int32} (k : KX P σ th s ns no bl ol h gi) (hP : PQ P) (h13 : (mv_i σ 13 7).toInt < 64) : KX P (nm_let σ y w) th s ns no bl ol h gi := by
  obtain ⟨⟨k1, k2, k3⟩, k4, k5, k6⟩ := k
  unfold PQ at hP
  have i13 : mv_i (nm_let σ y w) 13 7 = mv_i σ 13 7 + 1 := rfl
  have io : ∀ o k, o ≠ 13 → mv_i (nm_let σ y w) o k = mv_i σ o k := fun o k q => (ri_ne (by omega)).trans (ri_ne (by omega))
  have ao : ∀ o, o ≠ 14 ∧ o ≠ 15 ∧ o ≠ 19 ∧ o ≠ 20 → mv_a (nm_let σ y w) o = mv_a σ o := fun o q => (((ra_ne (by omega)).trans (ra_ne (by omega))).trans (ra_ne (by omega))).trans (ra_ne (by omega))
  have eb : mv_b (nm_let σ y w) = mv_b σ := rfl
  unfold KX
  rw [i13, io 2 15 (by omega), io P 17 (by omega), io 21 0 (by omega), ao 28 (by omega), ao 29 (by omega), ao 30 (by omega), ao 31 (by omega), ao (P + 9) (by omega), ao (P + 7) (by omega), eb]
  exact ⟨⟨k1, BkR.con bl _ _ k2 (by rw [i32_inc (by omega)]; omega) (fun _ _ => ⟨rfl, rfl, rfl, rfl⟩) (fun _ _ _ _ => rfl), k3⟩, k4, k5, k6⟩
theorem WT.let (g : WT P σ τ) (y w : Int32) : WT P σ (nm_let τ y w) := (((((g.sa (Or.inl ⟨by omega, by omega⟩)).sa (Or.inl ⟨by omega, by omega⟩)).sa (Or.inl ⟨by omega, by omega⟩)).si (Or.inr (Or.inr (Or.inl rfl)))).sa (Or.inl ⟨by omega, by omega⟩)).si (Or.inr (Or.inr (Or.inl rfl)))
end KXS
theorem Op1_slet (th : Nat) {w : Int64} (hw : 0 ≤ w.toInt ∧ w.toInt < 64) : Op1 th 313 w 1 0 := ⟨by show 1 ≤ 1; omega, rfl, fun _ => hw, fun q => absurd q (by decide), fun q => absurd q (by decide)⟩
theorem Op1_sreg (th : Nat) {w : Int64} (hw : 0 ≤ w.toInt ∧ w.toInt < th) : Op1 th 314 w 1 0 := ⟨by show 1 ≤ 1; omega, rfl, fun q => absurd q (by decide), fun q => absurd q (by decide), fun _ => hw⟩
theorem Op1_scell (th : Nat) {w : Int64} (hw : 0 ≤ w.toInt ∧ w.toInt < th) : Op1 th 315 w 2 0 := ⟨by show 2 ≤ 2; omega, rfl, fun q => absurd q (by decide), fun q => absurd q (by decide), fun _ => hw⟩
def y_Weaver_addLet : MethodName := ⟨"MachineLoom$Weaver", "addLet", "(I)V"⟩
abbrev b_Weaver_addLet : ByteArray := prog_12_method_22_code
theorem kc_Weaver_addLet : Cond.code y_Weaver_addLet b_Weaver_addLet 2 (Option.none : Option Jvm.ClassFile.FieldType) ∈ ma := ma_of (tb_7 _ (List.mem_of_getElem? (i := 90) rfl)) rfl
theorem k_1531 : (Jvm.Cond.methodLink "MachineLoom$Weaver" (305 : Nat) ({ cls := "MachineLoom$Names", name := "addLet", desc := "(II)V" } : Jvm.MethodName)) ∈ ma := ma_of (tb_7 _ (List.mem_of_getElem? (i := 91) rfl)) rfl
theorem k_1532 : (Jvm.Cond.instanceMethod ({ cls := "MachineLoom$Names", name := "addLet", desc := "(II)V" } : Jvm.MethodName)) ∈ ma := ma_of (tb_7 _ (List.mem_of_getElem? (i := 92) rfl)) rfl
theorem k_1533 : (Jvm.Cond.selects "MachineLoom$Names" ({ cls := "MachineLoom$Names", name := "addLet", desc := "(II)V" } : Jvm.MethodName) ({ cls := "MachineLoom$Names", name := "addLet", desc := "(II)V" } : Jvm.MethodName)) ∈ ma := ma_of (tb_7 _ (List.mem_of_getElem? (i := 93) rfl)) rfl
theorem d_Weaver_addLet_0 : decode b_Weaver_addLet 0 = .ok (.aload_n 0, 1) := by decide +kernel
theorem d_Weaver_addLet_1 : decode b_Weaver_addLet 1 = .ok (.getfield 290, 3) := by decide +kernel
theorem d_Weaver_addLet_4 : decode b_Weaver_addLet 4 = .ok (.ifCond .lt (34), 3) := by decide +kernel
theorem d_Weaver_addLet_7 : decode b_Weaver_addLet 7 = .ok (.aload_n 0, 1) := by decide +kernel
theorem d_Weaver_addLet_8 : decode b_Weaver_addLet 8 = .ok (.getfield 113, 3) := by decide +kernel
theorem d_Weaver_addLet_11 : decode b_Weaver_addLet 11 = .ok (.sipush 313, 3) := by decide +kernel
theorem d_Weaver_addLet_14 : decode b_Weaver_addLet 14 = .ok (.aload_n 0, 1) := by decide +kernel
theorem d_Weaver_addLet_15 : decode b_Weaver_addLet 15 = .ok (.getfield 27, 3) := by decide +kernel
theorem d_Weaver_addLet_18 : decode b_Weaver_addLet 18 = .ok (.getfield 293, 3) := by decide +kernel
theorem d_Weaver_addLet_21 : decode b_Weaver_addLet 21 = .ok (.i2l, 1) := by decide +kernel
theorem d_Weaver_addLet_22 : decode b_Weaver_addLet 22 = .ok (.invokevirtual 250, 3) := by decide +kernel
theorem d_Weaver_addLet_25 : decode b_Weaver_addLet 25 = .ok (.pop, 1) := by decide +kernel
theorem d_Weaver_addLet_26 : decode b_Weaver_addLet 26 = .ok (.aload_n 0, 1) := by decide +kernel
theorem d_Weaver_addLet_27 : decode b_Weaver_addLet 27 = .ok (.getfield 27, 3) := by decide +kernel
theorem d_Weaver_addLet_30 : decode b_Weaver_addLet 30 = .ok (.aload_n 0, 1) := by decide +kernel
theorem d_Weaver_addLet_31 : decode b_Weaver_addLet 31 = .ok (.getfield 290, 3) := by decide +kernel
theorem d_Weaver_addLet_34 : decode b_Weaver_addLet 34 = .ok (.iload_n 1, 1) := by decide +kernel
theorem d_Weaver_addLet_35 : decode b_Weaver_addLet 35 = .ok (.invokevirtual 305, 3) := by decide +kernel
theorem d_Weaver_addLet_38 : decode b_Weaver_addLet 38 = .ok (.return_, 1) := by decide +kernel
set_option maxHeartbeats 4000000 in
set_option maxRecDepth 100000 in
theorem c_Weaver_addLet_a (l : Launch) {dA : FieldType → ClassId} {D : va_G} {al : Nat → Nat} {ext : mv_Sh} {sk sv : Nat → Nat} (hi : mv_inj (mg dA D al ext)) (σ : mv_H) (w9 : Int32) {n th sl no s0 ns : Nat} {bl : List Bk} {gi : Prop} (hR : Rw 32 (mv_r σ)) (hM : Mt (mv_a σ 24)) (hW : WN 32 512 σ n th sl no) (hs : s0 < 32768) (hK : KX 32 σ th s0 ns no bl bl 1 gi) (hg1 : (mv_i σ 2 9).toInt < 0 → ¬ gi) (hg2 : 0 ≤ (mv_i σ 2 9).toInt → (mv_i σ 2 9).toInt < n ∧ (mv_i σ 13 9).toInt < 64) (hn16 : n ≤ 16448) : mv_C l y_Weaver_addLet (Cond.code y_Weaver_addLet b_Weaver_addLet 2 (Option.none : Option Jvm.ClassFile.FieldType) :: ma) ({ frames := 2, cells := 0, slots := 0, locals := 45 }) (mg dA D al ext) (mK sk sv) [.ref (al 2), .int w9] σ (mv_Rv (fun σ1 => WT 32 σ σ1 ∧ Mt (mv_a σ1 24) ∧ WN 32 512 σ1 n th sl no ∧ mv_i σ1 3 = mv_i σ 3 ∧ mv_i σ1 2 = mv_i σ 2 ∧ mv_a σ1 4 = mv_a σ 4 ∧ ∃ s2 ns2 gi2, s2 ≤ s0 + 1 ∧ ns2 = ns ∧ KX 32 σ1 th s2 ns2 no bl bl 0 gi2)) := by
  refine mv_C.ofV (cc := b_Weaver_addLet) (nL := 2) (ret := (Option.none : Option Jvm.ClassFile.FieldType)) (by decide +kernel) rfl hi (Nat.le_of_ble_eq_true rfl) ?_
  intro p e s m below meth c B hNs hr hnm hno
  have hP : PQ 32 := by unfold PQ; omega
  have h17 := hK.2.1
  have hl9 := hW.2.2.2.1
  have hl0 := hW.2.2.1.1
  refine mv_aload_n (pc := 0) B d_Weaver_addLet_0 rfl 0 rfl ?_
  refine mv_getI (pc := 1) (ci := 1) (C := R_Weaver) (T := F_Weaver) (N := 16) B 9 rfl rfl (by decide) i_Weaver (B.2.2.2.1 _ k_239) rfl d_Weaver_addLet_1 ?_
  refine mv_if_lt (pc := 4) (tgt := 38) B d_Weaver_addLet_4 rfl (fun h4 => ?_) (fun h4 => ?_)
  · skip
    rw [Int32.lt_iff_toInt_lt] at h4
    have h4 : (mv_i σ 2 9).toInt < 0 := h4
    exact mv_vret (pc := 38) B hr d_Weaver_addLet_38 (Nat.le_refl _) (Nat.le_refl _) ⟨rfl, by first | exact hend | exact ⟨WT0, hM, hW, rfl, rfl, rfl, s0, ns, True, Nat.le_succ _, rfl, hK.none (hg1 h4)⟩⟩
  · skip
    rw [Int32.lt_iff_toInt_lt] at h4
    have h4 : ¬ (mv_i σ 2 9).toInt < 0 := h4
    have g2 := hg2 (by omega)
    refine mv_aload_n (pc := 7) B d_Weaver_addLet_7 rfl 0 rfl ?_
    refine mv_getR (pc := 8) (ci := 1) (C := R_Weaver) (T := F_Weaver) (N := 16) B 5 rfl rfl (by decide) i_Weaver (B.2.2.2.1 _ k_235) rfl hR.2.2.1 d_Weaver_addLet_8 ?_
    refine mv_sipush (pc := 11) (v := 313) B d_Weaver_addLet_11 (by decide) ?_
    refine mv_aload_n (pc := 14) B d_Weaver_addLet_14 rfl 0 rfl ?_
    refine mv_getR (pc := 15) (ci := 1) (C := R_Weaver) (T := F_Weaver) (N := 16) B 1 rfl rfl (by decide) i_Weaver (B.2.2.2.1 _ k_229) rfl (hR.1 _ 1 _ rfl) d_Weaver_addLet_15 ?_
    refine mv_getI (pc := 18) (ci := 4) (C := R_Names) (T := F_Names) (N := 10) B 9 rfl rfl (by decide) i_Names (B.2.2.2.1 _ k_149) rfl d_Weaver_addLet_18 ?_
    refine mv_i2l (pc := 21) B d_Weaver_addLet_21 ?_
    refine mv_callVi (pc := 22) (n := 2) (ci := 7) (C := R_Program) B (mK_ok sk sv) hNs rfl rfl (c_Program_emit_a l hi _ _ _ hR.2.1 (by omega) (by omega)) rfl (ma_goodc kc_Program_emit) (B.2.2.2.1 _ k_1384) (B.2.2.2.1 _ k_1385) (B.2.2.2.1 _ k_1386) (B.2.2.2.1 _ k_8) ⟨by decide +kernel, by decide +kernel, by decide +kernel⟩ rfl d_Weaver_addLet_22 rfl (Nat.le_of_ble_eq_true rfl) ⟨by decide, by decide⟩ ⟨by decide, by decide⟩ ⟨by decide, by decide⟩ (mv_noH hno _) (fun v22 σ22 h22 => ?_)
    obtain ⟨e22, -⟩ := h22
    subst e22
    refine mv_pop (pc := 25) B d_Weaver_addLet_25 rfl ?_
    refine mv_aload_n (pc := 26) B d_Weaver_addLet_26 rfl 0 rfl ?_
    refine mv_getR (pc := 27) (ci := 1) (C := R_Weaver) (T := F_Weaver) (N := 16) B 1 rfl rfl (by decide) i_Weaver (B.2.2.2.1 _ k_229) rfl (hR.1 _ 1 _ rfl) d_Weaver_addLet_27 ?_
    refine mv_aload_n (pc := 30) B d_Weaver_addLet_30 rfl 0 rfl ?_
    refine mv_getI (pc := 31) (ci := 1) (C := R_Weaver) (T := F_Weaver) (N := 16) B 9 rfl rfl (by decide) i_Weaver (B.2.2.2.1 _ k_239) rfl d_Weaver_addLet_31 ?_
    refine mv_iload_n (pc := 34) B d_Weaver_addLet_34 rfl 1 rfl ?_
    refine mv_callVv (pc := 35) (n := 2) (ci := 4) (C := R_Names) B (mK_ok sk sv) hNs rfl rfl (c_Names_addLet l hi _ _ _ hR.1 (show 0 ≤ (mv_i σ 2 9).toInt by omega) (show (mv_i σ 2 9).toInt < 16448 by omega) (show 0 ≤ (mv_i σ 13 7).toInt by omega) (show (mv_i σ 13 7).toInt < 64 by omega) (show 0 ≤ (mv_i σ 13 9).toInt by omega) (show (mv_i σ 13 9).toInt < 64 by omega)) rfl (ma_goodc kc_Names_addLet) (B.2.2.2.1 _ k_1531) (B.2.2.2.1 _ k_1532) (B.2.2.2.1 _ k_1533) (B.2.2.2.1 _ k_5) ⟨by decide +kernel, by decide +kernel, by decide +kernel⟩ rfl d_Weaver_addLet_35 rfl (Nat.le_of_ble_eq_true rfl) ⟨by decide, by decide⟩ ⟨by decide, by decide⟩ ⟨by decide, by decide⟩ (mv_noH hno _) (fun σ35 h35 => ?_)
    have h35 : σ35 = nm_let (pr_emit 32 σ 313 (mv_i σ 13 9).toInt64) (mv_i σ 2 9) w9 := h35
    subst h35
    have kk := (hK.set (d := 313) (w := (mv_i σ 13 9).toInt64) hP (by omega) (by decide) (Op1_slet th (by rw [lg_toInt]; omega))).let (y := mv_i σ 2 9) (w := w9) hP (show (mv_i σ 13 7).toInt < 64 by omega)
    rw [show isSet (313 : Int32) = 0 by decide] at kk
    have hend : WT 32 σ (nm_let (pr_emit 32 σ 313 (mv_i σ 13 9).toInt64) (mv_i σ 2 9) w9) ∧ Mt (mv_a (nm_let (pr_emit 32 σ 313 (mv_i σ 13 9).toInt64) (mv_i σ 2 9) w9) 24) ∧ WN 32 512 (nm_let (pr_emit 32 σ 313 (mv_i σ 13 9).toInt64) (mv_i σ 2 9) w9) n th sl no ∧ mv_i (nm_let (pr_emit 32 σ 313 (mv_i σ 13 9).toInt64) (mv_i σ 2 9) w9) 3 = mv_i σ 3 ∧ mv_i (nm_let (pr_emit 32 σ 313 (mv_i σ 13 9).toInt64) (mv_i σ 2 9) w9) 2 = mv_i σ 2 ∧ mv_a (nm_let (pr_emit 32 σ 313 (mv_i σ 13 9).toInt64) (mv_i σ 2 9) w9) 4 = mv_a σ 4 ∧ ∃ s2 ns2 gi2, s2 ≤ s0 + 1 ∧ ns2 = ns ∧ KX 32 (nm_let (pr_emit 32 σ 313 (mv_i σ 13 9).toInt64) (mv_i σ 2 9) w9) th s2 ns2 no bl bl 0 gi2 := ⟨(WT0.emit _ _).let _ _, hM, WN.let (hW.of hP (OF.emit Fr.rf _ _)) hP ⟨by show 0 ≤ (mv_i σ 2 9).toInt; omega, g2.1⟩ hn16 g2.2, rfl, rfl, rfl, s0 + 1, ns, gi, Nat.le_refl _, rfl, kk⟩
    exact mv_vret (pc := 38) B hr d_Weaver_addLet_38 (Nat.le_refl _) (Nat.le_refl _) ⟨rfl, by first | exact hend | exact ⟨WT0, hM, hW, rfl, rfl, rfl, s0, ns, True, Nat.le_succ _, rfl, hK.none (hg1 h4)⟩⟩
set_option maxHeartbeats 4000000 in
set_option maxRecDepth 100000 in
theorem c_Weaver_addLet_b (l : Launch) {dA : FieldType → ClassId} {D : va_G} {al : Nat → Nat} {ext : mv_Sh} {sk sv : Nat → Nat} (hi : mv_inj (mg dA D al ext)) (σ : mv_H) (w9 : Int32) {n th sl no s0 ns : Nat} {bl : List Bk} {gi : Prop} (hR : Rw 48 (mv_r σ)) (hM : Mt (mv_a σ 24)) (hW : WN 48 512 σ n th sl no) (hs : s0 < 32768) (hK : KX 48 σ th s0 ns no bl bl 1 gi) (hg1 : (mv_i σ 2 9).toInt < 0 → ¬ gi) (hg2 : 0 ≤ (mv_i σ 2 9).toInt → (mv_i σ 2 9).toInt < n ∧ (mv_i σ 13 9).toInt < 64) (hn16 : n ≤ 16448) : mv_C l y_Weaver_addLet (Cond.code y_Weaver_addLet b_Weaver_addLet 2 (Option.none : Option Jvm.ClassFile.FieldType) :: ma) ({ frames := 2, cells := 0, slots := 0, locals := 45 }) (mg dA D al ext) (mK sk sv) [.ref (al 2), .int w9] σ (mv_Rv (fun σ1 => WT 48 σ σ1 ∧ Mt (mv_a σ1 24) ∧ WN 48 512 σ1 n th sl no ∧ mv_i σ1 3 = mv_i σ 3 ∧ mv_i σ1 2 = mv_i σ 2 ∧ mv_a σ1 4 = mv_a σ 4 ∧ ∃ s2 ns2 gi2, s2 ≤ s0 + 1 ∧ ns2 = ns ∧ KX 48 σ1 th s2 ns2 no bl bl 0 gi2)) := by
  refine mv_C.ofV (cc := b_Weaver_addLet) (nL := 2) (ret := (Option.none : Option Jvm.ClassFile.FieldType)) (by decide +kernel) rfl hi (Nat.le_of_ble_eq_true rfl) ?_
  intro p e s m below meth c B hNs hr hnm hno
  have hP : PQ 48 := by unfold PQ; omega
  have h17 := hK.2.1
  have hl9 := hW.2.2.2.1
  have hl0 := hW.2.2.1.1
  refine mv_aload_n (pc := 0) B d_Weaver_addLet_0 rfl 0 rfl ?_
  refine mv_getI (pc := 1) (ci := 1) (C := R_Weaver) (T := F_Weaver) (N := 16) B 9 rfl rfl (by decide) i_Weaver (B.2.2.2.1 _ k_239) rfl d_Weaver_addLet_1 ?_
  refine mv_if_lt (pc := 4) (tgt := 38) B d_Weaver_addLet_4 rfl (fun h4 => ?_) (fun h4 => ?_)
  · skip
    rw [Int32.lt_iff_toInt_lt] at h4
    have h4 : (mv_i σ 2 9).toInt < 0 := h4
    exact mv_vret (pc := 38) B hr d_Weaver_addLet_38 (Nat.le_refl _) (Nat.le_refl _) ⟨rfl, by first | exact hend | exact ⟨WT0, hM, hW, rfl, rfl, rfl, s0, ns, True, Nat.le_succ _, rfl, hK.none (hg1 h4)⟩⟩
  · skip
    rw [Int32.lt_iff_toInt_lt] at h4
    have h4 : ¬ (mv_i σ 2 9).toInt < 0 := h4
    have g2 := hg2 (by omega)
    refine mv_aload_n (pc := 7) B d_Weaver_addLet_7 rfl 0 rfl ?_
    refine mv_getR (pc := 8) (ci := 1) (C := R_Weaver) (T := F_Weaver) (N := 16) B 5 rfl rfl (by decide) i_Weaver (B.2.2.2.1 _ k_235) rfl hR.2.2.1 d_Weaver_addLet_8 ?_
    refine mv_sipush (pc := 11) (v := 313) B d_Weaver_addLet_11 (by decide) ?_
    refine mv_aload_n (pc := 14) B d_Weaver_addLet_14 rfl 0 rfl ?_
    refine mv_getR (pc := 15) (ci := 1) (C := R_Weaver) (T := F_Weaver) (N := 16) B 1 rfl rfl (by decide) i_Weaver (B.2.2.2.1 _ k_229) rfl (hR.1 _ 1 _ rfl) d_Weaver_addLet_15 ?_
    refine mv_getI (pc := 18) (ci := 4) (C := R_Names) (T := F_Names) (N := 10) B 9 rfl rfl (by decide) i_Names (B.2.2.2.1 _ k_149) rfl d_Weaver_addLet_18 ?_
    refine mv_i2l (pc := 21) B d_Weaver_addLet_21 ?_
    refine mv_callVi (pc := 22) (n := 2) (ci := 7) (C := R_Program) B (mK_ok sk sv) hNs rfl rfl (c_Program_emit_b l hi _ _ _ hR.2.1 (by omega) (by omega)) rfl (ma_goodc kc_Program_emit) (B.2.2.2.1 _ k_1384) (B.2.2.2.1 _ k_1385) (B.2.2.2.1 _ k_1386) (B.2.2.2.1 _ k_8) ⟨by decide +kernel, by decide +kernel, by decide +kernel⟩ rfl d_Weaver_addLet_22 rfl (Nat.le_of_ble_eq_true rfl) ⟨by decide, by decide⟩ ⟨by decide, by decide⟩ ⟨by decide, by decide⟩ (mv_noH hno _) (fun v22 σ22 h22 => ?_)
    obtain ⟨e22, -⟩ := h22
    subst e22
    refine mv_pop (pc := 25) B d_Weaver_addLet_25 rfl ?_
    refine mv_aload_n (pc := 26) B d_Weaver_addLet_26 rfl 0 rfl ?_
    refine mv_getR (pc := 27) (ci := 1) (C := R_Weaver) (T := F_Weaver) (N := 16) B 1 rfl rfl (by decide) i_Weaver (B.2.2.2.1 _ k_229) rfl (hR.1 _ 1 _ rfl) d_Weaver_addLet_27 ?_
    refine mv_aload_n (pc := 30) B d_Weaver_addLet_30 rfl 0 rfl ?_
    refine mv_getI (pc := 31) (ci := 1) (C := R_Weaver) (T := F_Weaver) (N := 16) B 9 rfl rfl (by decide) i_Weaver (B.2.2.2.1 _ k_239) rfl d_Weaver_addLet_31 ?_
    refine mv_iload_n (pc := 34) B d_Weaver_addLet_34 rfl 1 rfl ?_
    refine mv_callVv (pc := 35) (n := 2) (ci := 4) (C := R_Names) B (mK_ok sk sv) hNs rfl rfl (c_Names_addLet l hi _ _ _ hR.1 (show 0 ≤ (mv_i σ 2 9).toInt by omega) (show (mv_i σ 2 9).toInt < 16448 by omega) (show 0 ≤ (mv_i σ 13 7).toInt by omega) (show (mv_i σ 13 7).toInt < 64 by omega) (show 0 ≤ (mv_i σ 13 9).toInt by omega) (show (mv_i σ 13 9).toInt < 64 by omega)) rfl (ma_goodc kc_Names_addLet) (B.2.2.2.1 _ k_1531) (B.2.2.2.1 _ k_1532) (B.2.2.2.1 _ k_1533) (B.2.2.2.1 _ k_5) ⟨by decide +kernel, by decide +kernel, by decide +kernel⟩ rfl d_Weaver_addLet_35 rfl (Nat.le_of_ble_eq_true rfl) ⟨by decide, by decide⟩ ⟨by decide, by decide⟩ ⟨by decide, by decide⟩ (mv_noH hno _) (fun σ35 h35 => ?_)
    have h35 : σ35 = nm_let (pr_emit 48 σ 313 (mv_i σ 13 9).toInt64) (mv_i σ 2 9) w9 := h35
    subst h35
    have kk := (hK.set (d := 313) (w := (mv_i σ 13 9).toInt64) hP (by omega) (by decide) (Op1_slet th (by rw [lg_toInt]; omega))).let (y := mv_i σ 2 9) (w := w9) hP (show (mv_i σ 13 7).toInt < 64 by omega)
    rw [show isSet (313 : Int32) = 0 by decide] at kk
    have hend : WT 48 σ (nm_let (pr_emit 48 σ 313 (mv_i σ 13 9).toInt64) (mv_i σ 2 9) w9) ∧ Mt (mv_a (nm_let (pr_emit 48 σ 313 (mv_i σ 13 9).toInt64) (mv_i σ 2 9) w9) 24) ∧ WN 48 512 (nm_let (pr_emit 48 σ 313 (mv_i σ 13 9).toInt64) (mv_i σ 2 9) w9) n th sl no ∧ mv_i (nm_let (pr_emit 48 σ 313 (mv_i σ 13 9).toInt64) (mv_i σ 2 9) w9) 3 = mv_i σ 3 ∧ mv_i (nm_let (pr_emit 48 σ 313 (mv_i σ 13 9).toInt64) (mv_i σ 2 9) w9) 2 = mv_i σ 2 ∧ mv_a (nm_let (pr_emit 48 σ 313 (mv_i σ 13 9).toInt64) (mv_i σ 2 9) w9) 4 = mv_a σ 4 ∧ ∃ s2 ns2 gi2, s2 ≤ s0 + 1 ∧ ns2 = ns ∧ KX 48 (nm_let (pr_emit 48 σ 313 (mv_i σ 13 9).toInt64) (mv_i σ 2 9) w9) th s2 ns2 no bl bl 0 gi2 := ⟨(WT0.emit _ _).let _ _, hM, WN.let (hW.of hP (OF.emit Fr.rf _ _)) hP ⟨by show 0 ≤ (mv_i σ 2 9).toInt; omega, g2.1⟩ hn16 g2.2, rfl, rfl, rfl, s0 + 1, ns, gi, Nat.le_refl _, rfl, kk⟩
    exact mv_vret (pc := 38) B hr d_Weaver_addLet_38 (Nat.le_refl _) (Nat.le_refl _) ⟨rfl, by first | exact hend | exact ⟨WT0, hM, hW, rfl, rfl, rfl, s0, ns, True, Nat.le_succ _, rfl, hK.none (hg1 h4)⟩⟩
set_option maxHeartbeats 4000000 in
set_option maxRecDepth 100000 in
theorem c_Weaver_addLet_c (l : Launch) {dA : FieldType → ClassId} {D : va_G} {al : Nat → Nat} {sk sv : Nat → Nat} (hi : mv_inj (mg dA D al me)) (σ : mv_H) (w9 : Int32) {n th sl no s0 ns : Nat} {bl : List Bk} {gi : Prop} (hR : Rw 145 (mv_r σ)) (hM : Mt (mv_a σ 24)) (hW : WN 145 48 σ n th sl no) (hs : s0 < 8192) (hK : KX 145 σ th s0 ns no bl bl 1 gi) (hg1 : (mv_i σ 2 9).toInt < 0 → ¬ gi) (hg2 : 0 ≤ (mv_i σ 2 9).toInt → (mv_i σ 2 9).toInt < n ∧ (mv_i σ 13 9).toInt < 64) (hn16 : n ≤ 16448) : mv_C l y_Weaver_addLet (Cond.code y_Weaver_addLet b_Weaver_addLet 2 (Option.none : Option Jvm.ClassFile.FieldType) :: ma) ({ frames := 2, cells := 0, slots := 0, locals := 45 }) (mg dA D al me) (mK sk sv) [.ref (al 2), .int w9] σ (mv_Rv (fun σ1 => WT 145 σ σ1 ∧ Mt (mv_a σ1 24) ∧ WN 145 48 σ1 n th sl no ∧ mv_i σ1 3 = mv_i σ 3 ∧ mv_i σ1 2 = mv_i σ 2 ∧ mv_a σ1 4 = mv_a σ 4 ∧ ∃ s2 ns2 gi2, s2 ≤ s0 + 1 ∧ ns2 = ns ∧ KX 145 σ1 th s2 ns2 no bl bl 0 gi2)) := by
  refine mv_C.ofV (cc := b_Weaver_addLet) (nL := 2) (ret := (Option.none : Option Jvm.ClassFile.FieldType)) (by decide +kernel) rfl hi (Nat.le_of_ble_eq_true rfl) ?_
  intro p e s m below meth c B hNs hr hnm hno
  have hP : PQ 145 := by unfold PQ; omega
  have h17 := hK.2.1
  have hl9 := hW.2.2.2.1
  have hl0 := hW.2.2.1.1
  refine mv_aload_n (pc := 0) B d_Weaver_addLet_0 rfl 0 rfl ?_
  refine mv_getI (pc := 1) (ci := 1) (C := R_Weaver) (T := F_Weaver) (N := 16) B 9 rfl rfl (by decide) i_Weaver (B.2.2.2.1 _ k_239) rfl d_Weaver_addLet_1 ?_
  refine mv_if_lt (pc := 4) (tgt := 38) B d_Weaver_addLet_4 rfl (fun h4 => ?_) (fun h4 => ?_)
  · skip
    rw [Int32.lt_iff_toInt_lt] at h4
    have h4 : (mv_i σ 2 9).toInt < 0 := h4
    exact mv_vret (pc := 38) B hr d_Weaver_addLet_38 (Nat.le_refl _) (Nat.le_refl _) ⟨rfl, by first | exact hend | exact ⟨WT0, hM, hW, rfl, rfl, rfl, s0, ns, True, Nat.le_succ _, rfl, hK.none (hg1 h4)⟩⟩
  · skip
    rw [Int32.lt_iff_toInt_lt] at h4
    have h4 : ¬ (mv_i σ 2 9).toInt < 0 := h4
    have g2 := hg2 (by omega)
    refine mv_aload_n (pc := 7) B d_Weaver_addLet_7 rfl 0 rfl ?_
    refine mv_getR (pc := 8) (ci := 1) (C := R_Weaver) (T := F_Weaver) (N := 16) B 5 rfl rfl (by decide) i_Weaver (B.2.2.2.1 _ k_235) rfl hR.2.2.1 d_Weaver_addLet_8 ?_
    refine mv_sipush (pc := 11) (v := 313) B d_Weaver_addLet_11 (by decide) ?_
    refine mv_aload_n (pc := 14) B d_Weaver_addLet_14 rfl 0 rfl ?_
    refine mv_getR (pc := 15) (ci := 1) (C := R_Weaver) (T := F_Weaver) (N := 16) B 1 rfl rfl (by decide) i_Weaver (B.2.2.2.1 _ k_229) rfl (hR.1 _ 1 _ rfl) d_Weaver_addLet_15 ?_
    refine mv_getI (pc := 18) (ci := 4) (C := R_Names) (T := F_Names) (N := 10) B 9 rfl rfl (by decide) i_Names (B.2.2.2.1 _ k_149) rfl d_Weaver_addLet_18 ?_
    refine mv_i2l (pc := 21) B d_Weaver_addLet_21 ?_
    refine mv_callVi (pc := 22) (n := 2) (ci := 7) (C := R_Program) B (mK_ok sk sv) hNs rfl rfl (c_Program_emit_c l hi _ _ _ hR.2.1 (by omega) (by omega)) rfl (ma_goodc kc_Program_emit) (B.2.2.2.1 _ k_1384) (B.2.2.2.1 _ k_1385) (B.2.2.2.1 _ k_1386) (B.2.2.2.1 _ k_8) ⟨by decide +kernel, by decide +kernel, by decide +kernel⟩ rfl d_Weaver_addLet_22 rfl (Nat.le_of_ble_eq_true rfl) ⟨by decide, by decide⟩ ⟨by decide, by decide⟩ ⟨by decide, by decide⟩ (mv_noH hno _) (fun v22 σ22 h22 => ?_)
    obtain ⟨e22, -⟩ := h22
    subst e22
    refine mv_pop (pc := 25) B d_Weaver_addLet_25 rfl ?_
    refine mv_aload_n (pc := 26) B d_Weaver_addLet_26 rfl 0 rfl ?_
    refine mv_getR (pc := 27) (ci := 1) (C := R_Weaver) (T := F_Weaver) (N := 16) B 1 rfl rfl (by decide) i_Weaver (B.2.2.2.1 _ k_229) rfl (hR.1 _ 1 _ rfl) d_Weaver_addLet_27 ?_
    refine mv_aload_n (pc := 30) B d_Weaver_addLet_30 rfl 0 rfl ?_
    refine mv_getI (pc := 31) (ci := 1) (C := R_Weaver) (T := F_Weaver) (N := 16) B 9 rfl rfl (by decide) i_Weaver (B.2.2.2.1 _ k_239) rfl d_Weaver_addLet_31 ?_
    refine mv_iload_n (pc := 34) B d_Weaver_addLet_34 rfl 1 rfl ?_
    refine mv_callVv (pc := 35) (n := 2) (ci := 4) (C := R_Names) B (mK_ok sk sv) hNs rfl rfl (c_Names_addLet l hi _ _ _ hR.1 (show 0 ≤ (mv_i σ 2 9).toInt by omega) (show (mv_i σ 2 9).toInt < 16448 by omega) (show 0 ≤ (mv_i σ 13 7).toInt by omega) (show (mv_i σ 13 7).toInt < 64 by omega) (show 0 ≤ (mv_i σ 13 9).toInt by omega) (show (mv_i σ 13 9).toInt < 64 by omega)) rfl (ma_goodc kc_Names_addLet) (B.2.2.2.1 _ k_1531) (B.2.2.2.1 _ k_1532) (B.2.2.2.1 _ k_1533) (B.2.2.2.1 _ k_5) ⟨by decide +kernel, by decide +kernel, by decide +kernel⟩ rfl d_Weaver_addLet_35 rfl (Nat.le_of_ble_eq_true rfl) ⟨by decide, by decide⟩ ⟨by decide, by decide⟩ ⟨by decide, by decide⟩ (mv_noH hno _) (fun σ35 h35 => ?_)
    have h35 : σ35 = nm_let (pr_emit 145 σ 313 (mv_i σ 13 9).toInt64) (mv_i σ 2 9) w9 := h35
    subst h35
    have kk := (hK.set (d := 313) (w := (mv_i σ 13 9).toInt64) hP (by omega) (by decide) (Op1_slet th (by rw [lg_toInt]; omega))).let (y := mv_i σ 2 9) (w := w9) hP (show (mv_i σ 13 7).toInt < 64 by omega)
    rw [show isSet (313 : Int32) = 0 by decide] at kk
    have hend : WT 145 σ (nm_let (pr_emit 145 σ 313 (mv_i σ 13 9).toInt64) (mv_i σ 2 9) w9) ∧ Mt (mv_a (nm_let (pr_emit 145 σ 313 (mv_i σ 13 9).toInt64) (mv_i σ 2 9) w9) 24) ∧ WN 145 48 (nm_let (pr_emit 145 σ 313 (mv_i σ 13 9).toInt64) (mv_i σ 2 9) w9) n th sl no ∧ mv_i (nm_let (pr_emit 145 σ 313 (mv_i σ 13 9).toInt64) (mv_i σ 2 9) w9) 3 = mv_i σ 3 ∧ mv_i (nm_let (pr_emit 145 σ 313 (mv_i σ 13 9).toInt64) (mv_i σ 2 9) w9) 2 = mv_i σ 2 ∧ mv_a (nm_let (pr_emit 145 σ 313 (mv_i σ 13 9).toInt64) (mv_i σ 2 9) w9) 4 = mv_a σ 4 ∧ ∃ s2 ns2 gi2, s2 ≤ s0 + 1 ∧ ns2 = ns ∧ KX 145 (nm_let (pr_emit 145 σ 313 (mv_i σ 13 9).toInt64) (mv_i σ 2 9) w9) th s2 ns2 no bl bl 0 gi2 := ⟨(WT0.emit _ _).let _ _, hM, WN.let (hW.of hP (OF.emit Fr.rf _ _)) hP ⟨by show 0 ≤ (mv_i σ 2 9).toInt; omega, g2.1⟩ hn16 g2.2, rfl, rfl, rfl, s0 + 1, ns, gi, Nat.le_refl _, rfl, kk⟩
    exact mv_vret (pc := 38) B hr d_Weaver_addLet_38 (Nat.le_refl _) (Nat.le_refl _) ⟨rfl, by first | exact hend | exact ⟨WT0, hM, hW, rfl, rfl, rfl, s0, ns, True, Nat.le_succ _, rfl, hK.none (hg1 h4)⟩⟩
def y_Weaver_assign : MethodName := ⟨"MachineLoom$Weaver", "assign", "(I)V"⟩
abbrev b_Weaver_assign : ByteArray := prog_12_method_23_code
theorem kc_Weaver_assign : Cond.code y_Weaver_assign b_Weaver_assign 3 (Option.none : Option Jvm.ClassFile.FieldType) ∈ ma := ma_of (tb_7 _ (List.mem_of_getElem? (i := 99) rfl)) rfl
theorem d_Weaver_assign_0 : decode b_Weaver_assign 0 = .ok (.aload_n 0, 1) := by decide +kernel
theorem d_Weaver_assign_1 : decode b_Weaver_assign 1 = .ok (.getfield 290, 3) := by decide +kernel
theorem d_Weaver_assign_4 : decode b_Weaver_assign 4 = .ok (.ifCond .lt (68), 3) := by decide +kernel
theorem d_Weaver_assign_7 : decode b_Weaver_assign 7 = .ok (.aload_n 0, 1) := by decide +kernel
theorem d_Weaver_assign_8 : decode b_Weaver_assign 8 = .ok (.getfield 113, 3) := by decide +kernel
theorem d_Weaver_assign_11 : decode b_Weaver_assign 11 = .ok (.getfield 212, 3) := by decide +kernel
theorem d_Weaver_assign_14 : decode b_Weaver_assign 14 = .ok (.aload_n 0, 1) := by decide +kernel
theorem d_Weaver_assign_15 : decode b_Weaver_assign 15 = .ok (.getfield 290, 3) := by decide +kernel
theorem d_Weaver_assign_18 : decode b_Weaver_assign 18 = .ok (.iaload, 1) := by decide +kernel
theorem d_Weaver_assign_19 : decode b_Weaver_assign 19 = .ok (.istore_n 2, 1) := by decide +kernel
theorem d_Weaver_assign_20 : decode b_Weaver_assign 20 = .ok (.iload_n 1, 1) := by decide +kernel
theorem d_Weaver_assign_21 : decode b_Weaver_assign 21 = .ok (.ifCond .le (21), 3) := by decide +kernel
theorem d_Weaver_assign_24 : decode b_Weaver_assign 24 = .ok (.iload_n 2, 1) := by decide +kernel
theorem d_Weaver_assign_25 : decode b_Weaver_assign 25 = .ok (.ifCond .le (17), 3) := by decide +kernel
theorem d_Weaver_assign_28 : decode b_Weaver_assign 28 = .ok (.iload_n 1, 1) := by decide +kernel
theorem d_Weaver_assign_29 : decode b_Weaver_assign 29 = .ok (.iload_n 2, 1) := by decide +kernel
theorem d_Weaver_assign_30 : decode b_Weaver_assign 30 = .ok (.if_icmp .eq (12), 3) := by decide +kernel
theorem d_Weaver_assign_33 : decode b_Weaver_assign 33 = .ok (.aload_n 0, 1) := by decide +kernel
theorem d_Weaver_assign_34 : decode b_Weaver_assign 34 = .ok (.aload_n 0, 1) := by decide +kernel
theorem d_Weaver_assign_35 : decode b_Weaver_assign 35 = .ok (.getfield 281, 3) := by decide +kernel
theorem d_Weaver_assign_38 : decode b_Weaver_assign 38 = .ok (.iconst 4, 1) := by decide +kernel
theorem d_Weaver_assign_39 : decode b_Weaver_assign 39 = .ok (.invokevirtual 158, 3) := by decide +kernel
theorem d_Weaver_assign_42 : decode b_Weaver_assign 42 = .ok (.aload_n 0, 1) := by decide +kernel
theorem d_Weaver_assign_43 : decode b_Weaver_assign 43 = .ok (.getfield 113, 3) := by decide +kernel
theorem d_Weaver_assign_46 : decode b_Weaver_assign 46 = .ok (.aload_n 0, 1) := by decide +kernel
theorem d_Weaver_assign_47 : decode b_Weaver_assign 47 = .ok (.getfield 276, 3) := by decide +kernel
theorem d_Weaver_assign_50 : decode b_Weaver_assign 50 = .ok (.iconst 2, 1) := by decide +kernel
theorem d_Weaver_assign_51 : decode b_Weaver_assign 51 = .ok (.if_icmp .ne (9), 3) := by decide +kernel
theorem d_Weaver_assign_54 : decode b_Weaver_assign 54 = .ok (.sipush 314, 3) := by decide +kernel
theorem d_Weaver_assign_57 : decode b_Weaver_assign 57 = .ok (.goto (6), 3) := by decide +kernel
theorem d_Weaver_assign_60 : decode b_Weaver_assign 60 = .ok (.sipush 315, 3) := by decide +kernel
theorem d_Weaver_assign_63 : decode b_Weaver_assign 63 = .ok (.aload_n 0, 1) := by decide +kernel
theorem d_Weaver_assign_64 : decode b_Weaver_assign 64 = .ok (.getfield 290, 3) := by decide +kernel
theorem d_Weaver_assign_67 : decode b_Weaver_assign 67 = .ok (.i2l, 1) := by decide +kernel
theorem d_Weaver_assign_68 : decode b_Weaver_assign 68 = .ok (.invokevirtual 250, 3) := by decide +kernel
theorem d_Weaver_assign_71 : decode b_Weaver_assign 71 = .ok (.pop, 1) := by decide +kernel
theorem d_Weaver_assign_72 : decode b_Weaver_assign 72 = .ok (.return_, 1) := by decide +kernel
set_option maxHeartbeats 4000000 in
set_option maxRecDepth 100000 in
theorem c_Weaver_assign_a (l : Launch) {dA : FieldType → ClassId} {D : va_G} {al : Nat → Nat} {ext : mv_Sh} {sk sv : Nat → Nat} (hi : mv_inj (mg dA D al ext)) (σ : mv_H) (w9 : Int32) {n th sl no s0 ns : Nat} {bl : List Bk} {gi : Prop} (hR : Rw 32 (mv_r σ)) (hM : Mt (mv_a σ 24)) (hW : WN 32 512 σ n th sl no) (hs : s0 < 32768) {hq : Nat} (hK : KX 32 σ th s0 ns no bl bl hq gi) (hq9 : (mv_i σ 2 7 = 2 ∧ hq = 1) ∨ (mv_i σ 2 7 = 3 ∧ hq = 2)) (hg1 : (mv_i σ 2 9).toInt < 0 → ¬ gi) (hg2 : 0 ≤ (mv_i σ 2 9).toInt → (mv_i σ 2 9).toInt < th) (hgt : 0 ≤ (mv_i σ 2 8).toInt ∧ (mv_i σ 2 8).toInt < 32770) : mv_C l y_Weaver_assign (Cond.code y_Weaver_assign b_Weaver_assign 3 (Option.none : Option Jvm.ClassFile.FieldType) :: ma) ({ frames := 2, cells := 0, slots := 0, locals := 44 }) (mg dA D al ext) (mK sk sv) [.ref (al 2), .int w9] σ (mv_Rv (fun σ1 => WT 32 σ σ1 ∧ Mt (mv_a σ1 24) ∧ WN 32 512 σ1 n th sl no ∧ mv_i σ1 3 = mv_i σ 3 ∧ mv_i σ1 2 = mv_i σ 2 ∧ mv_a σ1 4 = mv_a σ 4 ∧ ∃ s2 ns2 gi2, s2 ≤ s0 + 1 ∧ ns2 ≤ ns + 1 ∧ KX 32 σ1 th s2 ns2 no bl bl 0 gi2)) := by
  refine mv_C.ofV (cc := b_Weaver_assign) (nL := 3) (ret := (Option.none : Option Jvm.ClassFile.FieldType)) (by decide +kernel) rfl hi (Nat.le_of_ble_eq_true rfl) ?_
  intro p e s m below meth c B hNs hr hnm hno
  have hP : PQ 32 := by unfold PQ; omega
  have j63 : ∀ (υ : mv_H) (dd : Int32) (hR : Rw 32 (mv_r υ)) (hV : WT 32 σ υ) (hM2 : Mt (mv_a υ 24)) (hW2 : WN 32 512 υ n th sl no) (i3 : mv_i υ 3 = mv_i σ 3) (i2 : mv_i υ 2 = mv_i σ 2) (a4 : mv_a υ 4 = mv_a σ 4) (hK2 : KX 32 υ th s0 ns no bl bl hq gi) (h40 : ¬ (mv_i σ 2 9).toInt < 0) (hdd : (dd = 314 ∧ hq = 1) ∨ (dd = 315 ∧ hq = 2)), mv_V p l e ({ frames := 2, cells := 0, slots := 0, locals := 44 }) s m ([.ref (al 2), .int w9] : List Value).toArray below meth c (mg dA D al ext) 3 0 0 (mv_Q (mg dA D al ext) below s 0 0 (mv_Rv (fun σ1 => WT 32 σ σ1 ∧ Mt (mv_a σ1 24) ∧ WN 32 512 σ1 n th sl no ∧ mv_i σ1 3 = mv_i σ 3 ∧ mv_i σ1 2 = mv_i σ 2 ∧ mv_a σ1 4 = mv_a σ 4 ∧ ∃ s2 ns2 gi2, s2 ≤ s0 + 1 ∧ ns2 ≤ ns + 1 ∧ KX 32 σ1 th s2 ns2 no bl bl 0 gi2))) υ 63 [(0, .ref (al 2))] [.int dd, .ref (al 32)] := by
    intro υ dd hR hV hM2 hW2 i3 i2 a4 hK2 h40 hdd
    refine mv_aload_n (pc := 63) B d_Weaver_assign_63 rfl 0 rfl ?_
    refine mv_getI (pc := 64) (ci := 1) (C := R_Weaver) (T := F_Weaver) (N := 16) B 9 rfl rfl (by decide) i_Weaver (B.2.2.2.1 _ k_239) rfl d_Weaver_assign_64 ?_
    refine mv_i2l (pc := 67) B d_Weaver_assign_67 ?_
    refine mv_callVi (pc := 68) (n := 2) (ci := 7) (C := R_Program) B (mK_ok sk sv) hNs rfl rfl (c_Program_emit_a l hi _ _ _ hR.2.1 (by have := hK2.2.1; omega) (by have := hK2.2.1; omega)) rfl (ma_goodc kc_Program_emit) (B.2.2.2.1 _ k_1384) (B.2.2.2.1 _ k_1385) (B.2.2.2.1 _ k_1386) (B.2.2.2.1 _ k_8) ⟨by decide +kernel, by decide +kernel, by decide +kernel⟩ rfl d_Weaver_assign_68 rfl (Nat.le_of_ble_eq_true rfl) ⟨by decide, by decide⟩ ⟨by decide, by decide⟩ ⟨by decide, by decide⟩ (mv_noH hno _) (fun v68 σ68 h68 => ?_)
    obtain ⟨e68, -⟩ := h68
    subst e68
    have e29 : mv_i υ 2 9 = mv_i σ 2 9 := congrFun i2 9
    have g2 := hg2 (by omega)
    have hop : Op1 th dd (mv_i υ 2 9).toInt64 hq 0 := by
      rw [e29]
      rcases hdd with ⟨q1, q2⟩ | ⟨q1, q2⟩
      · rw [q1, q2]; exact Op1_sreg th (by rw [lg_toInt]; omega)
      · rw [q1, q2]; exact Op1_scell th (by rw [lg_toInt]; omega)
    have kk := hK2.set (d := dd) (w := (mv_i υ 2 9).toInt64) hP (by omega) (by rcases hdd with ⟨q, -⟩ | ⟨q, -⟩ <;> (rw [q]; decide)) hop
    have hi1 : isSet dd = 1 := by rcases hdd with ⟨q, -⟩ | ⟨q, -⟩ <;> (rw [q]; decide)
    rw [hi1] at kk
    refine mv_pop (pc := 71) B d_Weaver_assign_71 rfl ?_
    exact mv_vret (pc := 72) B hr d_Weaver_assign_72 (Nat.le_refl _) (Nat.le_refl _) ⟨rfl, hV.emit _ _, hM2, hW2.of hP (OF.emit Fr.rf _ _), i3, i2, a4, s0 + 1, ns + 1, gi, Nat.le_refl _, Nat.le_refl _, kk⟩
  have j42 : ∀ (υ : mv_H) (hR : Rw 32 (mv_r υ)) (hV : WT 32 σ υ) (hM2 : Mt (mv_a υ 24)) (hW2 : WN 32 512 υ n th sl no) (i3 : mv_i υ 3 = mv_i σ 3) (i2 : mv_i υ 2 = mv_i σ 2) (a4 : mv_a υ 4 = mv_a σ 4) (hK2 : KX 32 υ th s0 ns no bl bl hq gi) (h40 : ¬ (mv_i σ 2 9).toInt < 0), mv_V p l e ({ frames := 2, cells := 0, slots := 0, locals := 44 }) s m ([.ref (al 2), .int w9] : List Value).toArray below meth c (mg dA D al ext) 3 0 0 (mv_Q (mg dA D al ext) below s 0 0 (mv_Rv (fun σ1 => WT 32 σ σ1 ∧ Mt (mv_a σ1 24) ∧ WN 32 512 σ1 n th sl no ∧ mv_i σ1 3 = mv_i σ 3 ∧ mv_i σ1 2 = mv_i σ 2 ∧ mv_a σ1 4 = mv_a σ 4 ∧ ∃ s2 ns2 gi2, s2 ≤ s0 + 1 ∧ ns2 ≤ ns + 1 ∧ KX 32 σ1 th s2 ns2 no bl bl 0 gi2))) υ 42 [(0, .ref (al 2))] [] := by
    intro υ hR hV hM2 hW2 i3 i2 a4 hK2 h40
    refine mv_aload_n (pc := 42) B d_Weaver_assign_42 rfl 0 rfl ?_
    refine mv_getR (pc := 43) (ci := 1) (C := R_Weaver) (T := F_Weaver) (N := 16) B 5 rfl rfl (by decide) i_Weaver (B.2.2.2.1 _ k_235) rfl hR.2.2.1 d_Weaver_assign_43 ?_
    refine mv_aload_n (pc := 46) B d_Weaver_assign_46 rfl 0 rfl ?_
    refine mv_getI (pc := 47) (ci := 1) (C := R_Weaver) (T := F_Weaver) (N := 16) B 7 rfl rfl (by decide) i_Weaver (B.2.2.2.1 _ k_237) rfl d_Weaver_assign_47 ?_
    refine mv_iconst (pc := 50) (v := 2) B d_Weaver_assign_50 (by decide) ?_
    refine mv_icmp_ne (pc := 51) (tgt := 60) B d_Weaver_assign_51 rfl (fun h51 => ?_) (fun h51 => ?_)
    · skip
      have hdd : ((315 : Int32) = 314 ∧ hq = 1) ∨ ((315 : Int32) = 315 ∧ hq = 2) := Or.inr ⟨rfl, by rw [show mv_i υ 2 7 = mv_i σ 2 7 from congrFun i2 7] at h51; rcases hq9 with q | q; exact absurd q.1 h51; exact q.2⟩
      refine mv_sipush (pc := 60) (v := 315) B d_Weaver_assign_60 (by decide) ?_
      refine mv_lpick [0] rfl ?_
      exact j63 _ _ hR hV hM2 hW2 i3 i2 a4 hK2 h40 hdd
    · skip
      have hdd : ((314 : Int32) = 314 ∧ hq = 1) ∨ ((314 : Int32) = 315 ∧ hq = 2) := Or.inl ⟨rfl, by rw [show mv_i υ 2 7 = mv_i σ 2 7 from congrFun i2 7] at h51; rcases hq9 with q | q; exact q.2; exact absurd (q.1.symm.trans h51) (by decide)⟩
      refine mv_sipush (pc := 54) (v := 314) B d_Weaver_assign_54 (by decide) ?_
      refine mv_goto (pc := 57) (tgt := 63) B d_Weaver_assign_57 rfl ?_
      refine mv_lpick [0] rfl ?_
      exact j63 _ _ hR hV hM2 hW2 i3 i2 a4 hK2 h40 hdd
  refine mv_aload_n (pc := 0) B d_Weaver_assign_0 rfl 0 rfl ?_
  refine mv_getI (pc := 1) (ci := 1) (C := R_Weaver) (T := F_Weaver) (N := 16) B 9 rfl rfl (by decide) i_Weaver (B.2.2.2.1 _ k_239) rfl d_Weaver_assign_1 ?_
  refine mv_if_lt (pc := 4) (tgt := 72) B d_Weaver_assign_4 rfl (fun h4 => ?_) (fun h4 => ?_)
  · skip
    rw [Int32.lt_iff_toInt_lt] at h4
    have h4 : (mv_i σ 2 9).toInt < 0 := h4
    exact mv_vret (pc := 72) B hr d_Weaver_assign_72 (Nat.le_refl _) (Nat.le_refl _) ⟨rfl, WT0, hM, hW, rfl, rfl, rfl, s0, ns, True, Nat.le_succ _, Nat.le_succ _, hK.none (hg1 h4)⟩
  · skip
    rw [Int32.lt_iff_toInt_lt] at h4
    have h4 : ¬ (mv_i σ 2 9).toInt < 0 := h4
    have g2 := hg2 (by omega)
    have ht64 := hW.2.1.2.1
    have go := j42 σ hR WT0 hM hW rfl rfl rfl hK h4
    refine mv_aload_n (pc := 7) B d_Weaver_assign_7 rfl 0 rfl ?_
    refine mv_getR (pc := 8) (ci := 1) (C := R_Weaver) (T := F_Weaver) (N := 16) B 5 rfl rfl (by decide) i_Weaver (B.2.2.2.1 _ k_235) rfl hR.2.2.1 d_Weaver_assign_8 ?_
    refine mv_getR (pc := 11) (ci := 7) (C := R_Program) (T := F_Program) (N := 19) B 2 rfl rfl (by decide) i_Program (B.2.2.2.1 _ k_321) rfl (hR.2.1 _ 2 33 rfl) d_Weaver_assign_11 ?_
    refine mv_aload_n (pc := 14) B d_Weaver_assign_14 rfl 0 rfl ?_
    refine mv_getI (pc := 15) (ci := 1) (C := R_Weaver) (T := F_Weaver) (N := 16) B 9 rfl rfl (by decide) i_Weaver (B.2.2.2.1 _ k_239) rfl d_Weaver_assign_15 ?_
    refine mv_iald (pc := 18) B rfl (i32_in (by omega) (by omega)) d_Weaver_assign_18 ?_
    refine mv_istore_n (pc := 19) B d_Weaver_assign_19 rfl (by decide) rfl ?_
    refine mv_iload_n (pc := 20) B d_Weaver_assign_20 rfl 2 rfl ?_
    refine mv_if_le (pc := 21) (tgt := 42) B d_Weaver_assign_21 rfl (fun h21 => ?_) (fun h21 => ?_)
    · skip
      refine mv_lpick [1] rfl ?_
      exact go
    · skip
      refine mv_iload_n (pc := 24) B d_Weaver_assign_24 rfl 0 rfl ?_
      refine mv_if_le (pc := 25) (tgt := 42) B d_Weaver_assign_25 rfl (fun h25 => ?_) (fun h25 => ?_)
      · skip
        refine mv_lpick [1] rfl ?_
        exact go
      · skip
        refine mv_iload_n (pc := 28) B d_Weaver_assign_28 rfl 2 rfl ?_
        refine mv_iload_n (pc := 29) B d_Weaver_assign_29 rfl 0 rfl ?_
        refine mv_icmp_eq (pc := 30) (tgt := 42) B d_Weaver_assign_30 rfl (fun h30 => ?_) (fun h30 => ?_)
        · skip
          refine mv_lpick [1] rfl ?_
          exact go
        · skip
          refine mv_aload_n (pc := 33) B d_Weaver_assign_33 rfl 1 rfl ?_
          refine mv_aload_n (pc := 34) B d_Weaver_assign_34 rfl 1 rfl ?_
          refine mv_getI (pc := 35) (ci := 1) (C := R_Weaver) (T := F_Weaver) (N := 16) B 8 rfl rfl (by decide) i_Weaver (B.2.2.2.1 _ k_238) rfl d_Weaver_assign_35 ?_
          refine mv_iconst (pc := 38) (v := 4) B d_Weaver_assign_38 (by decide) ?_
          refine mv_callVv (pc := 39) (n := 2) (ci := 1) (C := R_Weaver) B (mK_ok sk sv) hNs rfl rfl (c_Weaver_tell l hi _ _ _ hR.1 hgt.1 hgt.2 (by decide)) rfl (ma_goodc kc_Weaver_tell) (B.2.2.2.1 _ k_1282) (B.2.2.2.1 _ k_1284) (B.2.2.2.1 _ ks_32) (B.2.2.2.1 _ k_2) ⟨by decide +kernel, by decide +kernel, by decide +kernel⟩ rfl d_Weaver_assign_39 rfl (Nat.le_of_ble_eq_true rfl) ⟨by decide, by decide⟩ ⟨by decide, by decide⟩ ⟨by decide, by decide⟩ (mv_noH hno _) (fun σ39 h39 => ?_)
          obtain ⟨x9, y9, q1, q2⟩ := h39
          subst q1
          have go := j42 (ex_tell σ x9 y9) hR (WT0.tell _ _) hM (hW.tell hP _ _) rfl rfl rfl (hK.tell hP (fun q => absurd q q2) _) h4
          refine mv_lpick [1] rfl ?_
          exact go
set_option maxHeartbeats 4000000 in
set_option maxRecDepth 100000 in
theorem c_Weaver_assign_b (l : Launch) {dA : FieldType → ClassId} {D : va_G} {al : Nat → Nat} {ext : mv_Sh} {sk sv : Nat → Nat} (hi : mv_inj (mg dA D al ext)) (σ : mv_H) (w9 : Int32) {n th sl no s0 ns : Nat} {bl : List Bk} {gi : Prop} (hR : Rw 48 (mv_r σ)) (hM : Mt (mv_a σ 24)) (hW : WN 48 512 σ n th sl no) (hs : s0 < 32768) {hq : Nat} (hK : KX 48 σ th s0 ns no bl bl hq gi) (hq9 : (mv_i σ 2 7 = 2 ∧ hq = 1) ∨ (mv_i σ 2 7 = 3 ∧ hq = 2)) (hg1 : (mv_i σ 2 9).toInt < 0 → ¬ gi) (hg2 : 0 ≤ (mv_i σ 2 9).toInt → (mv_i σ 2 9).toInt < th) (hgt : 0 ≤ (mv_i σ 2 8).toInt ∧ (mv_i σ 2 8).toInt < 32770) : mv_C l y_Weaver_assign (Cond.code y_Weaver_assign b_Weaver_assign 3 (Option.none : Option Jvm.ClassFile.FieldType) :: ma) ({ frames := 2, cells := 0, slots := 0, locals := 44 }) (mg dA D al ext) (mK sk sv) [.ref (al 2), .int w9] σ (mv_Rv (fun σ1 => WT 48 σ σ1 ∧ Mt (mv_a σ1 24) ∧ WN 48 512 σ1 n th sl no ∧ mv_i σ1 3 = mv_i σ 3 ∧ mv_i σ1 2 = mv_i σ 2 ∧ mv_a σ1 4 = mv_a σ 4 ∧ ∃ s2 ns2 gi2, s2 ≤ s0 + 1 ∧ ns2 ≤ ns + 1 ∧ KX 48 σ1 th s2 ns2 no bl bl 0 gi2)) := by
  refine mv_C.ofV (cc := b_Weaver_assign) (nL := 3) (ret := (Option.none : Option Jvm.ClassFile.FieldType)) (by decide +kernel) rfl hi (Nat.le_of_ble_eq_true rfl) ?_
  intro p e s m below meth c B hNs hr hnm hno
  have hP : PQ 48 := by unfold PQ; omega
  have j63 : ∀ (υ : mv_H) (dd : Int32) (hR : Rw 48 (mv_r υ)) (hV : WT 48 σ υ) (hM2 : Mt (mv_a υ 24)) (hW2 : WN 48 512 υ n th sl no) (i3 : mv_i υ 3 = mv_i σ 3) (i2 : mv_i υ 2 = mv_i σ 2) (a4 : mv_a υ 4 = mv_a σ 4) (hK2 : KX 48 υ th s0 ns no bl bl hq gi) (h40 : ¬ (mv_i σ 2 9).toInt < 0) (hdd : (dd = 314 ∧ hq = 1) ∨ (dd = 315 ∧ hq = 2)), mv_V p l e ({ frames := 2, cells := 0, slots := 0, locals := 44 }) s m ([.ref (al 2), .int w9] : List Value).toArray below meth c (mg dA D al ext) 3 0 0 (mv_Q (mg dA D al ext) below s 0 0 (mv_Rv (fun σ1 => WT 48 σ σ1 ∧ Mt (mv_a σ1 24) ∧ WN 48 512 σ1 n th sl no ∧ mv_i σ1 3 = mv_i σ 3 ∧ mv_i σ1 2 = mv_i σ 2 ∧ mv_a σ1 4 = mv_a σ 4 ∧ ∃ s2 ns2 gi2, s2 ≤ s0 + 1 ∧ ns2 ≤ ns + 1 ∧ KX 48 σ1 th s2 ns2 no bl bl 0 gi2))) υ 63 [(0, .ref (al 2))] [.int dd, .ref (al 48)] := by
    intro υ dd hR hV hM2 hW2 i3 i2 a4 hK2 h40 hdd
    refine mv_aload_n (pc := 63) B d_Weaver_assign_63 rfl 0 rfl ?_
    refine mv_getI (pc := 64) (ci := 1) (C := R_Weaver) (T := F_Weaver) (N := 16) B 9 rfl rfl (by decide) i_Weaver (B.2.2.2.1 _ k_239) rfl d_Weaver_assign_64 ?_
    refine mv_i2l (pc := 67) B d_Weaver_assign_67 ?_
    refine mv_callVi (pc := 68) (n := 2) (ci := 7) (C := R_Program) B (mK_ok sk sv) hNs rfl rfl (c_Program_emit_b l hi _ _ _ hR.2.1 (by have := hK2.2.1; omega) (by have := hK2.2.1; omega)) rfl (ma_goodc kc_Program_emit) (B.2.2.2.1 _ k_1384) (B.2.2.2.1 _ k_1385) (B.2.2.2.1 _ k_1386) (B.2.2.2.1 _ k_8) ⟨by decide +kernel, by decide +kernel, by decide +kernel⟩ rfl d_Weaver_assign_68 rfl (Nat.le_of_ble_eq_true rfl) ⟨by decide, by decide⟩ ⟨by decide, by decide⟩ ⟨by decide, by decide⟩ (mv_noH hno _) (fun v68 σ68 h68 => ?_)
    obtain ⟨e68, -⟩ := h68
    subst e68
    have e29 : mv_i υ 2 9 = mv_i σ 2 9 := congrFun i2 9
    have g2 := hg2 (by omega)
    have hop : Op1 th dd (mv_i υ 2 9).toInt64 hq 0 := by
      rw [e29]
      rcases hdd with ⟨q1, q2⟩ | ⟨q1, q2⟩
      · rw [q1, q2]; exact Op1_sreg th (by rw [lg_toInt]; omega)
      · rw [q1, q2]; exact Op1_scell th (by rw [lg_toInt]; omega)
    have kk := hK2.set (d := dd) (w := (mv_i υ 2 9).toInt64) hP (by omega) (by rcases hdd with ⟨q, -⟩ | ⟨q, -⟩ <;> (rw [q]; decide)) hop
    have hi1 : isSet dd = 1 := by rcases hdd with ⟨q, -⟩ | ⟨q, -⟩ <;> (rw [q]; decide)
    rw [hi1] at kk
    refine mv_pop (pc := 71) B d_Weaver_assign_71 rfl ?_
    exact mv_vret (pc := 72) B hr d_Weaver_assign_72 (Nat.le_refl _) (Nat.le_refl _) ⟨rfl, hV.emit _ _, hM2, hW2.of hP (OF.emit Fr.rf _ _), i3, i2, a4, s0 + 1, ns + 1, gi, Nat.le_refl _, Nat.le_refl _, kk⟩
  have j42 : ∀ (υ : mv_H) (hR : Rw 48 (mv_r υ)) (hV : WT 48 σ υ) (hM2 : Mt (mv_a υ 24)) (hW2 : WN 48 512 υ n th sl no) (i3 : mv_i υ 3 = mv_i σ 3) (i2 : mv_i υ 2 = mv_i σ 2) (a4 : mv_a υ 4 = mv_a σ 4) (hK2 : KX 48 υ th s0 ns no bl bl hq gi) (h40 : ¬ (mv_i σ 2 9).toInt < 0), mv_V p l e ({ frames := 2, cells := 0, slots := 0, locals := 44 }) s m ([.ref (al 2), .int w9] : List Value).toArray below meth c (mg dA D al ext) 3 0 0 (mv_Q (mg dA D al ext) below s 0 0 (mv_Rv (fun σ1 => WT 48 σ σ1 ∧ Mt (mv_a σ1 24) ∧ WN 48 512 σ1 n th sl no ∧ mv_i σ1 3 = mv_i σ 3 ∧ mv_i σ1 2 = mv_i σ 2 ∧ mv_a σ1 4 = mv_a σ 4 ∧ ∃ s2 ns2 gi2, s2 ≤ s0 + 1 ∧ ns2 ≤ ns + 1 ∧ KX 48 σ1 th s2 ns2 no bl bl 0 gi2))) υ 42 [(0, .ref (al 2))] [] := by
    intro υ hR hV hM2 hW2 i3 i2 a4 hK2 h40
    refine mv_aload_n (pc := 42) B d_Weaver_assign_42 rfl 0 rfl ?_
    refine mv_getR (pc := 43) (ci := 1) (C := R_Weaver) (T := F_Weaver) (N := 16) B 5 rfl rfl (by decide) i_Weaver (B.2.2.2.1 _ k_235) rfl hR.2.2.1 d_Weaver_assign_43 ?_
    refine mv_aload_n (pc := 46) B d_Weaver_assign_46 rfl 0 rfl ?_
    refine mv_getI (pc := 47) (ci := 1) (C := R_Weaver) (T := F_Weaver) (N := 16) B 7 rfl rfl (by decide) i_Weaver (B.2.2.2.1 _ k_237) rfl d_Weaver_assign_47 ?_
    refine mv_iconst (pc := 50) (v := 2) B d_Weaver_assign_50 (by decide) ?_
    refine mv_icmp_ne (pc := 51) (tgt := 60) B d_Weaver_assign_51 rfl (fun h51 => ?_) (fun h51 => ?_)
    · skip
      have hdd : ((315 : Int32) = 314 ∧ hq = 1) ∨ ((315 : Int32) = 315 ∧ hq = 2) := Or.inr ⟨rfl, by rw [show mv_i υ 2 7 = mv_i σ 2 7 from congrFun i2 7] at h51; rcases hq9 with q | q; exact absurd q.1 h51; exact q.2⟩
      refine mv_sipush (pc := 60) (v := 315) B d_Weaver_assign_60 (by decide) ?_
      refine mv_lpick [0] rfl ?_
      exact j63 _ _ hR hV hM2 hW2 i3 i2 a4 hK2 h40 hdd
    · skip
      have hdd : ((314 : Int32) = 314 ∧ hq = 1) ∨ ((314 : Int32) = 315 ∧ hq = 2) := Or.inl ⟨rfl, by rw [show mv_i υ 2 7 = mv_i σ 2 7 from congrFun i2 7] at h51; rcases hq9 with q | q; exact q.2; exact absurd (q.1.symm.trans h51) (by decide)⟩
      refine mv_sipush (pc := 54) (v := 314) B d_Weaver_assign_54 (by decide) ?_
      refine mv_goto (pc := 57) (tgt := 63) B d_Weaver_assign_57 rfl ?_
      refine mv_lpick [0] rfl ?_
      exact j63 _ _ hR hV hM2 hW2 i3 i2 a4 hK2 h40 hdd
  refine mv_aload_n (pc := 0) B d_Weaver_assign_0 rfl 0 rfl ?_
  refine mv_getI (pc := 1) (ci := 1) (C := R_Weaver) (T := F_Weaver) (N := 16) B 9 rfl rfl (by decide) i_Weaver (B.2.2.2.1 _ k_239) rfl d_Weaver_assign_1 ?_
  refine mv_if_lt (pc := 4) (tgt := 72) B d_Weaver_assign_4 rfl (fun h4 => ?_) (fun h4 => ?_)
  · skip
    rw [Int32.lt_iff_toInt_lt] at h4
    have h4 : (mv_i σ 2 9).toInt < 0 := h4
    exact mv_vret (pc := 72) B hr d_Weaver_assign_72 (Nat.le_refl _) (Nat.le_refl _) ⟨rfl, WT0, hM, hW, rfl, rfl, rfl, s0, ns, True, Nat.le_succ _, Nat.le_succ _, hK.none (hg1 h4)⟩
  · skip
    rw [Int32.lt_iff_toInt_lt] at h4
    have h4 : ¬ (mv_i σ 2 9).toInt < 0 := h4
    have g2 := hg2 (by omega)
    have ht64 := hW.2.1.2.1
    have go := j42 σ hR WT0 hM hW rfl rfl rfl hK h4
    refine mv_aload_n (pc := 7) B d_Weaver_assign_7 rfl 0 rfl ?_
    refine mv_getR (pc := 8) (ci := 1) (C := R_Weaver) (T := F_Weaver) (N := 16) B 5 rfl rfl (by decide) i_Weaver (B.2.2.2.1 _ k_235) rfl hR.2.2.1 d_Weaver_assign_8 ?_
    refine mv_getR (pc := 11) (ci := 7) (C := R_Program) (T := F_Program) (N := 19) B 2 rfl rfl (by decide) i_Program (B.2.2.2.1 _ k_321) rfl (hR.2.1 _ 2 49 rfl) d_Weaver_assign_11 ?_
    refine mv_aload_n (pc := 14) B d_Weaver_assign_14 rfl 0 rfl ?_
    refine mv_getI (pc := 15) (ci := 1) (C := R_Weaver) (T := F_Weaver) (N := 16) B 9 rfl rfl (by decide) i_Weaver (B.2.2.2.1 _ k_239) rfl d_Weaver_assign_15 ?_
    refine mv_iald (pc := 18) B rfl (i32_in (by omega) (by omega)) d_Weaver_assign_18 ?_
    refine mv_istore_n (pc := 19) B d_Weaver_assign_19 rfl (by decide) rfl ?_
    refine mv_iload_n (pc := 20) B d_Weaver_assign_20 rfl 2 rfl ?_
    refine mv_if_le (pc := 21) (tgt := 42) B d_Weaver_assign_21 rfl (fun h21 => ?_) (fun h21 => ?_)
    · skip
      refine mv_lpick [1] rfl ?_
      exact go
    · skip
      refine mv_iload_n (pc := 24) B d_Weaver_assign_24 rfl 0 rfl ?_
      refine mv_if_le (pc := 25) (tgt := 42) B d_Weaver_assign_25 rfl (fun h25 => ?_) (fun h25 => ?_)
      · skip
        refine mv_lpick [1] rfl ?_
        exact go
      · skip
        refine mv_iload_n (pc := 28) B d_Weaver_assign_28 rfl 2 rfl ?_
        refine mv_iload_n (pc := 29) B d_Weaver_assign_29 rfl 0 rfl ?_
        refine mv_icmp_eq (pc := 30) (tgt := 42) B d_Weaver_assign_30 rfl (fun h30 => ?_) (fun h30 => ?_)
        · skip
          refine mv_lpick [1] rfl ?_
          exact go
        · skip
          refine mv_aload_n (pc := 33) B d_Weaver_assign_33 rfl 1 rfl ?_
          refine mv_aload_n (pc := 34) B d_Weaver_assign_34 rfl 1 rfl ?_
          refine mv_getI (pc := 35) (ci := 1) (C := R_Weaver) (T := F_Weaver) (N := 16) B 8 rfl rfl (by decide) i_Weaver (B.2.2.2.1 _ k_238) rfl d_Weaver_assign_35 ?_
          refine mv_iconst (pc := 38) (v := 4) B d_Weaver_assign_38 (by decide) ?_
          refine mv_callVv (pc := 39) (n := 2) (ci := 1) (C := R_Weaver) B (mK_ok sk sv) hNs rfl rfl (c_Weaver_tell l hi _ _ _ hR.1 hgt.1 hgt.2 (by decide)) rfl (ma_goodc kc_Weaver_tell) (B.2.2.2.1 _ k_1282) (B.2.2.2.1 _ k_1284) (B.2.2.2.1 _ ks_32) (B.2.2.2.1 _ k_2) ⟨by decide +kernel, by decide +kernel, by decide +kernel⟩ rfl d_Weaver_assign_39 rfl (Nat.le_of_ble_eq_true rfl) ⟨by decide, by decide⟩ ⟨by decide, by decide⟩ ⟨by decide, by decide⟩ (mv_noH hno _) (fun σ39 h39 => ?_)
          obtain ⟨x9, y9, q1, q2⟩ := h39
          subst q1
          have go := j42 (ex_tell σ x9 y9) hR (WT0.tell _ _) hM (hW.tell hP _ _) rfl rfl rfl (hK.tell hP (fun q => absurd q q2) _) h4
          refine mv_lpick [1] rfl ?_
          exact go
set_option maxHeartbeats 4000000 in
set_option maxRecDepth 100000 in
theorem c_Weaver_assign_c (l : Launch) {dA : FieldType → ClassId} {D : va_G} {al : Nat → Nat} {sk sv : Nat → Nat} (hi : mv_inj (mg dA D al me)) (σ : mv_H) (w9 : Int32) {n th sl no s0 ns : Nat} {bl : List Bk} {gi : Prop} (hR : Rw 145 (mv_r σ)) (hM : Mt (mv_a σ 24)) (hW : WN 145 48 σ n th sl no) (hs : s0 < 8192) {hq : Nat} (hK : KX 145 σ th s0 ns no bl bl hq gi) (hq9 : (mv_i σ 2 7 = 2 ∧ hq = 1) ∨ (mv_i σ 2 7 = 3 ∧ hq = 2)) (hg1 : (mv_i σ 2 9).toInt < 0 → ¬ gi) (hg2 : 0 ≤ (mv_i σ 2 9).toInt → (mv_i σ 2 9).toInt < th) (hgt : 0 ≤ (mv_i σ 2 8).toInt ∧ (mv_i σ 2 8).toInt < 32770) : mv_C l y_Weaver_assign (Cond.code y_Weaver_assign b_Weaver_assign 3 (Option.none : Option Jvm.ClassFile.FieldType) :: ma) ({ frames := 2, cells := 0, slots := 0, locals := 44 }) (mg dA D al me) (mK sk sv) [.ref (al 2), .int w9] σ (mv_Rv (fun σ1 => WT 145 σ σ1 ∧ Mt (mv_a σ1 24) ∧ WN 145 48 σ1 n th sl no ∧ mv_i σ1 3 = mv_i σ 3 ∧ mv_i σ1 2 = mv_i σ 2 ∧ mv_a σ1 4 = mv_a σ 4 ∧ ∃ s2 ns2 gi2, s2 ≤ s0 + 1 ∧ ns2 ≤ ns + 1 ∧ KX 145 σ1 th s2 ns2 no bl bl 0 gi2)) := by
  refine mv_C.ofV (cc := b_Weaver_assign) (nL := 3) (ret := (Option.none : Option Jvm.ClassFile.FieldType)) (by decide +kernel) rfl hi (Nat.le_of_ble_eq_true rfl) ?_
  intro p e s m below meth c B hNs hr hnm hno
  have hP : PQ 145 := by unfold PQ; omega
  have j63 : ∀ (υ : mv_H) (dd : Int32) (hR : Rw 145 (mv_r υ)) (hV : WT 145 σ υ) (hM2 : Mt (mv_a υ 24)) (hW2 : WN 145 48 υ n th sl no) (i3 : mv_i υ 3 = mv_i σ 3) (i2 : mv_i υ 2 = mv_i σ 2) (a4 : mv_a υ 4 = mv_a σ 4) (hK2 : KX 145 υ th s0 ns no bl bl hq gi) (h40 : ¬ (mv_i σ 2 9).toInt < 0) (hdd : (dd = 314 ∧ hq = 1) ∨ (dd = 315 ∧ hq = 2)), mv_V p l e ({ frames := 2, cells := 0, slots := 0, locals := 44 }) s m ([.ref (al 2), .int w9] : List Value).toArray below meth c (mg dA D al me) 3 0 0 (mv_Q (mg dA D al me) below s 0 0 (mv_Rv (fun σ1 => WT 145 σ σ1 ∧ Mt (mv_a σ1 24) ∧ WN 145 48 σ1 n th sl no ∧ mv_i σ1 3 = mv_i σ 3 ∧ mv_i σ1 2 = mv_i σ 2 ∧ mv_a σ1 4 = mv_a σ 4 ∧ ∃ s2 ns2 gi2, s2 ≤ s0 + 1 ∧ ns2 ≤ ns + 1 ∧ KX 145 σ1 th s2 ns2 no bl bl 0 gi2))) υ 63 [(0, .ref (al 2))] [.int dd, .ref (al 145)] := by
    intro υ dd hR hV hM2 hW2 i3 i2 a4 hK2 h40 hdd
    refine mv_aload_n (pc := 63) B d_Weaver_assign_63 rfl 0 rfl ?_
    refine mv_getI (pc := 64) (ci := 1) (C := R_Weaver) (T := F_Weaver) (N := 16) B 9 rfl rfl (by decide) i_Weaver (B.2.2.2.1 _ k_239) rfl d_Weaver_assign_64 ?_
    refine mv_i2l (pc := 67) B d_Weaver_assign_67 ?_
    refine mv_callVi (pc := 68) (n := 2) (ci := 7) (C := R_Program) B (mK_ok sk sv) hNs rfl rfl (c_Program_emit_c l hi _ _ _ hR.2.1 (by have := hK2.2.1; omega) (by have := hK2.2.1; omega)) rfl (ma_goodc kc_Program_emit) (B.2.2.2.1 _ k_1384) (B.2.2.2.1 _ k_1385) (B.2.2.2.1 _ k_1386) (B.2.2.2.1 _ k_8) ⟨by decide +kernel, by decide +kernel, by decide +kernel⟩ rfl d_Weaver_assign_68 rfl (Nat.le_of_ble_eq_true rfl) ⟨by decide, by decide⟩ ⟨by decide, by decide⟩ ⟨by decide, by decide⟩ (mv_noH hno _) (fun v68 σ68 h68 => ?_)
    obtain ⟨e68, -⟩ := h68
    subst e68
    have e29 : mv_i υ 2 9 = mv_i σ 2 9 := congrFun i2 9
    have g2 := hg2 (by omega)
    have hop : Op1 th dd (mv_i υ 2 9).toInt64 hq 0 := by
      rw [e29]
      rcases hdd with ⟨q1, q2⟩ | ⟨q1, q2⟩
      · rw [q1, q2]; exact Op1_sreg th (by rw [lg_toInt]; omega)
      · rw [q1, q2]; exact Op1_scell th (by rw [lg_toInt]; omega)
    have kk := hK2.set (d := dd) (w := (mv_i υ 2 9).toInt64) hP (by omega) (by rcases hdd with ⟨q, -⟩ | ⟨q, -⟩ <;> (rw [q]; decide)) hop
    have hi1 : isSet dd = 1 := by rcases hdd with ⟨q, -⟩ | ⟨q, -⟩ <;> (rw [q]; decide)
    rw [hi1] at kk
    refine mv_pop (pc := 71) B d_Weaver_assign_71 rfl ?_
    exact mv_vret (pc := 72) B hr d_Weaver_assign_72 (Nat.le_refl _) (Nat.le_refl _) ⟨rfl, hV.emit _ _, hM2, hW2.of hP (OF.emit Fr.rf _ _), i3, i2, a4, s0 + 1, ns + 1, gi, Nat.le_refl _, Nat.le_refl _, kk⟩
  have j42 : ∀ (υ : mv_H) (hR : Rw 145 (mv_r υ)) (hV : WT 145 σ υ) (hM2 : Mt (mv_a υ 24)) (hW2 : WN 145 48 υ n th sl no) (i3 : mv_i υ 3 = mv_i σ 3) (i2 : mv_i υ 2 = mv_i σ 2) (a4 : mv_a υ 4 = mv_a σ 4) (hK2 : KX 145 υ th s0 ns no bl bl hq gi) (h40 : ¬ (mv_i σ 2 9).toInt < 0), mv_V p l e ({ frames := 2, cells := 0, slots := 0, locals := 44 }) s m ([.ref (al 2), .int w9] : List Value).toArray below meth c (mg dA D al me) 3 0 0 (mv_Q (mg dA D al me) below s 0 0 (mv_Rv (fun σ1 => WT 145 σ σ1 ∧ Mt (mv_a σ1 24) ∧ WN 145 48 σ1 n th sl no ∧ mv_i σ1 3 = mv_i σ 3 ∧ mv_i σ1 2 = mv_i σ 2 ∧ mv_a σ1 4 = mv_a σ 4 ∧ ∃ s2 ns2 gi2, s2 ≤ s0 + 1 ∧ ns2 ≤ ns + 1 ∧ KX 145 σ1 th s2 ns2 no bl bl 0 gi2))) υ 42 [(0, .ref (al 2))] [] := by
    intro υ hR hV hM2 hW2 i3 i2 a4 hK2 h40
    refine mv_aload_n (pc := 42) B d_Weaver_assign_42 rfl 0 rfl ?_
    refine mv_getR (pc := 43) (ci := 1) (C := R_Weaver) (T := F_Weaver) (N := 16) B 5 rfl rfl (by decide) i_Weaver (B.2.2.2.1 _ k_235) rfl hR.2.2.1 d_Weaver_assign_43 ?_
    refine mv_aload_n (pc := 46) B d_Weaver_assign_46 rfl 0 rfl ?_
    refine mv_getI (pc := 47) (ci := 1) (C := R_Weaver) (T := F_Weaver) (N := 16) B 7 rfl rfl (by decide) i_Weaver (B.2.2.2.1 _ k_237) rfl d_Weaver_assign_47 ?_
    refine mv_iconst (pc := 50) (v := 2) B d_Weaver_assign_50 (by decide) ?_
    refine mv_icmp_ne (pc := 51) (tgt := 60) B d_Weaver_assign_51 rfl (fun h51 => ?_) (fun h51 => ?_)
    · skip
      have hdd : ((315 : Int32) = 314 ∧ hq = 1) ∨ ((315 : Int32) = 315 ∧ hq = 2) := Or.inr ⟨rfl, by rw [show mv_i υ 2 7 = mv_i σ 2 7 from congrFun i2 7] at h51; rcases hq9 with q | q; exact absurd q.1 h51; exact q.2⟩
      refine mv_sipush (pc := 60) (v := 315) B d_Weaver_assign_60 (by decide) ?_
      refine mv_lpick [0] rfl ?_
      exact j63 _ _ hR hV hM2 hW2 i3 i2 a4 hK2 h40 hdd
    · skip
      have hdd : ((314 : Int32) = 314 ∧ hq = 1) ∨ ((314 : Int32) = 315 ∧ hq = 2) := Or.inl ⟨rfl, by rw [show mv_i υ 2 7 = mv_i σ 2 7 from congrFun i2 7] at h51; rcases hq9 with q | q; exact q.2; exact absurd (q.1.symm.trans h51) (by decide)⟩
      refine mv_sipush (pc := 54) (v := 314) B d_Weaver_assign_54 (by decide) ?_
      refine mv_goto (pc := 57) (tgt := 63) B d_Weaver_assign_57 rfl ?_
      refine mv_lpick [0] rfl ?_
      exact j63 _ _ hR hV hM2 hW2 i3 i2 a4 hK2 h40 hdd
  refine mv_aload_n (pc := 0) B d_Weaver_assign_0 rfl 0 rfl ?_
  refine mv_getI (pc := 1) (ci := 1) (C := R_Weaver) (T := F_Weaver) (N := 16) B 9 rfl rfl (by decide) i_Weaver (B.2.2.2.1 _ k_239) rfl d_Weaver_assign_1 ?_
  refine mv_if_lt (pc := 4) (tgt := 72) B d_Weaver_assign_4 rfl (fun h4 => ?_) (fun h4 => ?_)
  · skip
    rw [Int32.lt_iff_toInt_lt] at h4
    have h4 : (mv_i σ 2 9).toInt < 0 := h4
    exact mv_vret (pc := 72) B hr d_Weaver_assign_72 (Nat.le_refl _) (Nat.le_refl _) ⟨rfl, WT0, hM, hW, rfl, rfl, rfl, s0, ns, True, Nat.le_succ _, Nat.le_succ _, hK.none (hg1 h4)⟩
  · skip
    rw [Int32.lt_iff_toInt_lt] at h4
    have h4 : ¬ (mv_i σ 2 9).toInt < 0 := h4
    have g2 := hg2 (by omega)
    have ht64 := hW.2.1.2.1
    have go := j42 σ hR WT0 hM hW rfl rfl rfl hK h4
    refine mv_aload_n (pc := 7) B d_Weaver_assign_7 rfl 0 rfl ?_
    refine mv_getR (pc := 8) (ci := 1) (C := R_Weaver) (T := F_Weaver) (N := 16) B 5 rfl rfl (by decide) i_Weaver (B.2.2.2.1 _ k_235) rfl hR.2.2.1 d_Weaver_assign_8 ?_
    refine mv_getR (pc := 11) (ci := 7) (C := R_Program) (T := F_Program) (N := 19) B 2 rfl rfl (by decide) i_Program (B.2.2.2.1 _ k_321) rfl (hR.2.1 _ 2 146 rfl) d_Weaver_assign_11 ?_
    refine mv_aload_n (pc := 14) B d_Weaver_assign_14 rfl 0 rfl ?_
    refine mv_getI (pc := 15) (ci := 1) (C := R_Weaver) (T := F_Weaver) (N := 16) B 9 rfl rfl (by decide) i_Weaver (B.2.2.2.1 _ k_239) rfl d_Weaver_assign_15 ?_
    refine mv_iald (pc := 18) B rfl (i32_in (by omega) (by omega)) d_Weaver_assign_18 ?_
    refine mv_istore_n (pc := 19) B d_Weaver_assign_19 rfl (by decide) rfl ?_
    refine mv_iload_n (pc := 20) B d_Weaver_assign_20 rfl 2 rfl ?_
    refine mv_if_le (pc := 21) (tgt := 42) B d_Weaver_assign_21 rfl (fun h21 => ?_) (fun h21 => ?_)
    · skip
      refine mv_lpick [1] rfl ?_
      exact go
    · skip
      refine mv_iload_n (pc := 24) B d_Weaver_assign_24 rfl 0 rfl ?_
      refine mv_if_le (pc := 25) (tgt := 42) B d_Weaver_assign_25 rfl (fun h25 => ?_) (fun h25 => ?_)
      · skip
        refine mv_lpick [1] rfl ?_
        exact go
      · skip
        refine mv_iload_n (pc := 28) B d_Weaver_assign_28 rfl 2 rfl ?_
        refine mv_iload_n (pc := 29) B d_Weaver_assign_29 rfl 0 rfl ?_
        refine mv_icmp_eq (pc := 30) (tgt := 42) B d_Weaver_assign_30 rfl (fun h30 => ?_) (fun h30 => ?_)
        · skip
          refine mv_lpick [1] rfl ?_
          exact go
        · skip
          refine mv_aload_n (pc := 33) B d_Weaver_assign_33 rfl 1 rfl ?_
          refine mv_aload_n (pc := 34) B d_Weaver_assign_34 rfl 1 rfl ?_
          refine mv_getI (pc := 35) (ci := 1) (C := R_Weaver) (T := F_Weaver) (N := 16) B 8 rfl rfl (by decide) i_Weaver (B.2.2.2.1 _ k_238) rfl d_Weaver_assign_35 ?_
          refine mv_iconst (pc := 38) (v := 4) B d_Weaver_assign_38 (by decide) ?_
          refine mv_callVv (pc := 39) (n := 2) (ci := 1) (C := R_Weaver) B (mK_ok sk sv) hNs rfl rfl (c_Weaver_tell l hi _ _ _ hR.1 hgt.1 hgt.2 (by decide)) rfl (ma_goodc kc_Weaver_tell) (B.2.2.2.1 _ k_1282) (B.2.2.2.1 _ k_1284) (B.2.2.2.1 _ ks_32) (B.2.2.2.1 _ k_2) ⟨by decide +kernel, by decide +kernel, by decide +kernel⟩ rfl d_Weaver_assign_39 rfl (Nat.le_of_ble_eq_true rfl) ⟨by decide, by decide⟩ ⟨by decide, by decide⟩ ⟨by decide, by decide⟩ (mv_noH hno _) (fun σ39 h39 => ?_)
          obtain ⟨x9, y9, q1, q2⟩ := h39
          subst q1
          have go := j42 (ex_tell σ x9 y9) hR (WT0.tell _ _) hM (hW.tell hP _ _) rfl rfl rfl (hK.tell hP (fun q => absurd q q2) _) h4
          refine mv_lpick [1] rfl ?_
          exact go
