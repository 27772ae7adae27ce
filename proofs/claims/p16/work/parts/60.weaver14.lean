/-! Weaver: weave -/
/-- what weaving may change, but for the tree -/
abbrev VG (P : Nat) : mv_H → mv_H → Prop := Fr (fun o k => o = 2 ∨ o = 3 ∨ (o = 7 ∧ k = 5) ∨ o = 13 ∨ o = 21 ∨ o = 22 ∨ o = P) (fun o => o = 4 ∨ o = 5 ∨ (8 ≤ o ∧ o ≤ 12) ∨ (14 ≤ o ∧ o ≤ 20) ∨ (23 ≤ o ∧ o ≤ 31) ∨ (P + 1 ≤ o ∧ o ≤ P + 9)) (fun o => o = 6 ∨ o = 18 ∨ o = P + 5 ∨ o = P + 6 ∨ o = P + 10)
def w_base (P t : Nat) (σ : mv_H) : mv_H := mv_sr (mv_sr (mv_sr σ 2 5 (some P)) 22 3 (some P)) 3 4 (some t)
theorem WT.vg {P : Nat} {σ τ : mv_H} (h : WT P σ τ) : VG P σ τ := h.up (fun o k q => by omega) (fun o q => by omega) (fun o q => by omega)
theorem pr_clear_i {P : Nat} {σ : mv_H} {o k : Nat} (h : o ≠ P) : mv_i (pr_clear P σ) o k = mv_i σ o k := (((((((ri_ne (by omega)).trans (ri_ne (by omega))).trans (ri_ne (by omega))).trans (ri_ne (by omega))).trans (ri_ne (by omega))).trans (ri_ne (by omega))).trans (ri_ne (by omega))).trans (ri_ne (by omega))
theorem w_beg_i {P : Nat} {σ : mv_H} {o k : Nat} (h : o ≠ 2 ∧ o ≠ 21 ∧ o ≠ P) : mv_i (w_beg P σ) o k = mv_i σ o k := (((((ri_ne (by omega)).trans (ri_ne (by omega))).trans (ri_ne (by omega))).trans (ri_ne (by omega))).trans (ri_ne (by omega))).trans (show mv_i (pr_clear P (mv_sr σ 2 5 (some P))) o k = mv_i σ o k from pr_clear_i h.2.2)
theorem VG.beg (P t : Nat) (σ : mv_H) : VG P (w_base P t σ) (mv_sr (w_beg P σ) 3 4 (some t)) := by
  refine ⟨fun o k q => ?_, fun _ _ => rfl, fun _ _ => rfl, rfl, rfl⟩
  show mv_i (w_beg P σ) o k = mv_i σ o k
  exact w_beg_i (by omega)
/-- what stays true from one TEXT to the next -/
def WP (σ : mv_H) : Prop := mv_a σ 4 0 = 0 ∧ 0 ≤ (mv_a σ 5 0).toInt ∧ mv_b σ 6 0 = 0 ∧ Ns σ ∧ Mt (mv_a σ 24)
/-- the end of weaving -/
def WV (P R M t : Nat) (σ : mv_H) (v : Int32) (σ1 : mv_H) : Prop := WP σ1 ∧ ∃ th sl, Th P σ1 th sl ∧ 0 ≤ (mv_i σ1 P 10).toInt ∧ (mv_i σ1 P 10).toInt ≤ M ∧ ((v = 0 ∧ VG P (w_base P t σ) σ1) ∨ (v = 1 ∧ (∃ υ, VG P (w_base P t σ) υ ∧ TrF P υ σ1) ∧ TreeOK P M σ1 ∧ CodeOK P R σ1 th))
section WVS
variable {P R M : Nat} {ext : mv_Sh} {σ τ : mv_H} {t tn len n z sz th sl no : Nat}
theorem WP.of (hG : WG P R M ext τ t tn len n z sz) (hM : Mt (mv_a τ 24)) (hW : WN P M τ n th sl no) : WP τ := ⟨hG.2.2.1.2.1.2.2.1, (hG.2.2.1.2.1.2.2.2.2 0 (by have := hG.2.2.1.2.2.1; omega)).2.2, hG.2.2.1.2.1.2.2.2.1, hW.2.2.1, hM⟩
theorem WV.bad (hG : WG P R M ext τ t tn len n z sz) (hM : Mt (mv_a τ 24)) (hW : WN P M τ n th sl no) (hF : VG P (w_base P t σ) τ) : WV P R M t σ 0 τ := ⟨WP.of hG hM hW, th, sl, hW.2.1, by have := hW.2.2.2.2.2.1; omega, by have h1 := hW.2.2.2.2.2.1; have h2 := hW.2.2.2.2.2.2; omega, Or.inl ⟨rfl, hF⟩⟩
theorem CodeOK.of {s a ns : Nat} (h : WS P τ sz th s a ns no []) (hN : mv_i τ 21 0 = 0) (hno : (mv_i τ P 10).toInt = no) (hR : sz ≤ len + 2) (hl : len ≤ R) (hl2 : len ≤ 10240) : CodeOK P R τ th := by
  obtain ⟨⟨h1, h2, h3, h4, h5, h6, h7, h8⟩, -, h12, h13, h14⟩ := h
  obtain ⟨hg, k1, k2, k3, k4, k5⟩ := h14 hN
  refine ⟨hg, s, h12, by omega, k1, fun a q => (k3 a q).elim (fun z => by obtain ⟨b, hb, -⟩ := z; exact absurd hb List.not_mem_nil) (fun z => z), fun j hj => k5 j (by omega), by rw [h13]; omega⟩
theorem TreeOK.wv (hP : PQ P) (hG : WG P R M ext τ t tn len n z sz) (hM : Mt (mv_a τ 24)) (hW : WN P M τ n th sl no) (hF : VG P (w_base P t σ) τ) (hC : CodeOK P R τ th) {υ : mv_H} (hT : TrF P τ υ) (hO : TreeOK P M υ) : WV P R M t σ 1 υ := by
  obtain ⟨p1, p2, p3, p4, p5⟩ := WP.of hG hM hW
  unfold PQ at hP
  have e : ∀ o k, o ≠ P + 11 → mv_i υ o k = mv_i τ o k := fun o k q => hT.1 o k (by omega)
  have ea : ∀ o, o < P + 12 → mv_a υ o = mv_a τ o := fun o q => hT.2.1 o (by omega)
  have eb : ∀ o, mv_b υ o = mv_b τ o := fun o => hT.2.2.1 o (fun q => q)
  have h10 := hW.2.2.2.2.2.1
  have h11 := hW.2.2.2.2.2.2
  refine ⟨⟨by rw [ea 4 (by omega)]; exact p1, by rw [ea 5 (by omega)]; exact p2, by rw [eb]; exact p3, ?_, by rw [ea 24 (by omega)]; exact p5⟩, th, sl, hW.2.1.fr (funext fun k => e P k (by omega)) (ea (P + 2) (by omega)) (ea (P + 3) (by omega)), by rw [e P 10 (by omega)]; omega, by rw [e P 10 (by omega)]; omega, Or.inr ⟨rfl, ⟨τ, hF, hT⟩, hO, ?_⟩⟩
  · unfold Ns
    rw [e 13 7 (by omega), ea 19 (by omega)]
    exact p4
  · unfold CodeOK
    rw [e P 17 (by omega), e P 10 (by omega), ea (P + 9) (by omega), ea (P + 7) (by omega), eb]
    exact hC
end WVS
/-- before a turn -/
def LQ (P M : Nat) (τ : mv_H) (n sz : Nat) (tt : Int) : Prop := ∃ th sl no, WN P M τ n th sl no ∧ (0 ≤ (mv_i τ 3 9).toInt ∨ (mv_i τ 2 6 = 4 ∧ ∃ s a ns, WS P τ sz th s a ns no []) ∨ ∃ a : Nat, tt < a ∧ WM P τ n sz th no a)
theorem WM.lt {P : Nat} {σ : mv_H} {n sz th no a : Nat} (h : WM P σ n sz th no a) : a < sz ∧ (mv_i σ 3 7).toInt = a ∧ (mv_i σ 3 9).toInt < 0 := by
  rcases h with ⟨-, s, ns, h⟩ | ⟨-, s, ns, bl, -, h⟩ | ⟨-, h⟩ | ⟨-, h⟩
  · exact ⟨h.1.2.2.2.2.1, h.1.1, h.1.2.1⟩
  · exact ⟨h.1.2.2.2.2.1, h.1.1, h.1.2.1⟩
  · obtain ⟨e0, bs, bd, s, ns, f0, g0, bl, ol, ms, ⟨-, h⟩, -⟩ := h
    exact ⟨h.2.2.2.2.2.1, h.1, h.2.1⟩
  · obtain ⟨e0, bs, bd, s, ns, f0, g0, bl, ol, ms, ⟨-, h⟩, -⟩ := h
    exact ⟨h.2.2.2.2.2.1, h.1, h.2.1⟩
theorem Gl.bs {gl : Int32} {bs bd B n th : Nat} {gi lets : Int} (h : Gl gl bs bd B gi n th lets) : bs ≤ 1 := by
  rcases h with ⟨-, h, -⟩ | ⟨-, h, -⟩ | ⟨-, h, -⟩ | ⟨-, h, -⟩ | ⟨-, h, -⟩ <;> omega
theorem TP.lq {P M : Nat} {σ τ : mv_H} {n sz a : Nat} (h : TP P M σ τ n sz a) (tt : Int) (ht : tt ≤ a) : LQ P M τ n sz tt := by
  obtain ⟨-, -, th, sl, no, h1, h2⟩ := h
  exact ⟨th, sl, no, h1, h2.elim Or.inl (fun q => by obtain ⟨a2, q1, q2⟩ := q; exact Or.inr (Or.inr ⟨a2, by omega, q2⟩))⟩
def y_Weaver_weave : MethodName := ⟨"MachineLoom$Weaver", "weave", "([BILMachineLoom$Program;)Z"⟩
abbrev b_Weaver_weave : ByteArray := prog_12_method_2_code
theorem kc_Weaver_weave : Cond.code y_Weaver_weave b_Weaver_weave 6 (Option.some Jvm.ClassFile.FieldType.boolean) ∈ ma := ma_of (tb_4 _ (List.mem_of_getElem? (i := 59) rfl)) rfl
theorem k_178 : (Jvm.Cond.fieldLink "MachineLoom$Weaver" (107 : Nat) "MachineLoom$Faults" "number" "I") ∈ ma := ma_of (tb_1 _ (List.mem_of_getElem? (i := 178) rfl)) rfl
theorem k_1540 : (Jvm.Cond.methodLink "MachineLoom$Weaver" (110 : Nat) ({ cls := "MachineLoom$Weaver", name := "areApart", desc := "()Z" } : Jvm.MethodName)) ∈ ma := ma_of (tb_7 _ (List.mem_of_getElem? (i := 100) rfl)) rfl
theorem k_1542 : (Jvm.Cond.instanceMethod ({ cls := "MachineLoom$Weaver", name := "areApart", desc := "()Z" } : Jvm.MethodName)) ∈ ma := ma_of (tb_7 _ (List.mem_of_getElem? (i := 102) rfl)) rfl
theorem ks_68 : Cond.selects "MachineLoom$Weaver" ⟨"MachineLoom$Weaver", "areApart", "()Z"⟩ ⟨"MachineLoom$Weaver", "areApart", "()Z"⟩ ∈ ma := ma_sel 68 rfl rfl
theorem k_365 : (Jvm.Cond.fieldLink "MachineLoom$Weaver" (117 : Nat) "MachineLoom$Program" "tree" "LMachineLoom$Tree;") ∈ ma := ma_of (tb_2 _ (List.mem_of_getElem? (i := 125) rfl)) rfl
theorem k_1548 : (Jvm.Cond.methodLink "MachineLoom$Weaver" (123 : Nat) ({ cls := "MachineLoom$Tree", name := "grow", desc := "(LMachineLoom$Program;)V" } : Jvm.MethodName)) ∈ ma := ma_of (tb_7 _ (List.mem_of_getElem? (i := 108) rfl)) rfl
theorem k_411 : (Jvm.Cond.instanceMethod ({ cls := "MachineLoom$Tree", name := "grow", desc := "(LMachineLoom$Program;)V" } : Jvm.MethodName)) ∈ ma := ma_of (tb_2 _ (List.mem_of_getElem? (i := 171) rfl)) rfl
theorem k_412 : (Jvm.Cond.selects "MachineLoom$Tree" ({ cls := "MachineLoom$Tree", name := "grow", desc := "(LMachineLoom$Program;)V" } : Jvm.MethodName) ({ cls := "MachineLoom$Tree", name := "grow", desc := "(LMachineLoom$Program;)V" } : Jvm.MethodName)) ∈ ma := ma_of (tb_2 _ (List.mem_of_getElem? (i := 172) rfl)) rfl
theorem k_106 : (Jvm.Cond.fieldLink "MachineLoom$Weaver" (100 : Nat) "MachineLoom$Tokens" "wrongPlace" "I") ∈ ma := ma_of (tb_1 _ (List.mem_of_getElem? (i := 106) rfl)) rfl
theorem k_1290 : (Jvm.Cond.constant "MachineLoom$Weaver" (74 : Nat) (131072 : Int32)) ∈ ma := ma_of (tb_6 _ (List.mem_of_getElem? (i := 90) rfl)) rfl
theorem k_1460 : (Jvm.Cond.methodLink "MachineLoom$Weaver" (92 : Nat) ({ cls := "MachineLoom$Exprs", name := "after", desc := "()I" } : Jvm.MethodName)) ∈ ma := ma_of (tb_7 _ (List.mem_of_getElem? (i := 20) rfl)) rfl
theorem k_1461 : (Jvm.Cond.instanceMethod ({ cls := "MachineLoom$Exprs", name := "after", desc := "()I" } : Jvm.MethodName)) ∈ ma := ma_of (tb_7 _ (List.mem_of_getElem? (i := 21) rfl)) rfl
theorem k_1462 : (Jvm.Cond.selects "MachineLoom$Exprs" ({ cls := "MachineLoom$Exprs", name := "after", desc := "()I" } : Jvm.MethodName) ({ cls := "MachineLoom$Exprs", name := "after", desc := "()I" } : Jvm.MethodName)) ∈ ma := ma_of (tb_7 _ (List.mem_of_getElem? (i := 22) rfl)) rfl
theorem k_1522 : (Jvm.Cond.methodLink "MachineLoom$Weaver" (96 : Nat) ({ cls := "MachineLoom$Weaver", name := "finish", desc := "()V" } : Jvm.MethodName)) ∈ ma := ma_of (tb_7 _ (List.mem_of_getElem? (i := 82) rfl)) rfl
theorem k_1524 : (Jvm.Cond.instanceMethod ({ cls := "MachineLoom$Weaver", name := "finish", desc := "()V" } : Jvm.MethodName)) ∈ ma := ma_of (tb_7 _ (List.mem_of_getElem? (i := 84) rfl)) rfl
theorem ks_65 : Cond.selects "MachineLoom$Weaver" ⟨"MachineLoom$Weaver", "finish", "()V"⟩ ⟨"MachineLoom$Weaver", "finish", "()V"⟩ ∈ ma := ma_sel 65 rfl rfl
theorem k_1410 : (Jvm.Cond.methodLink "MachineLoom$Weaver" (89 : Nat) ({ cls := "MachineLoom$Exprs", name := "operand", desc := "()Z" } : Jvm.MethodName)) ∈ ma := ma_of (tb_6 _ (List.mem_of_getElem? (i := 210) rfl)) rfl
theorem k_1411 : (Jvm.Cond.instanceMethod ({ cls := "MachineLoom$Exprs", name := "operand", desc := "()Z" } : Jvm.MethodName)) ∈ ma := ma_of (tb_6 _ (List.mem_of_getElem? (i := 211) rfl)) rfl
theorem k_1412 : (Jvm.Cond.selects "MachineLoom$Exprs" ({ cls := "MachineLoom$Exprs", name := "operand", desc := "()Z" } : Jvm.MethodName) ({ cls := "MachineLoom$Exprs", name := "operand", desc := "()Z" } : Jvm.MethodName)) ∈ ma := ma_of (tb_6 _ (List.mem_of_getElem? (i := 212) rfl)) rfl
theorem k_1363 : (Jvm.Cond.methodLink "MachineLoom$Weaver" (86 : Nat) ({ cls := "MachineLoom$Weaver", name := "statement", desc := "()V" } : Jvm.MethodName)) ∈ ma := ma_of (tb_6 _ (List.mem_of_getElem? (i := 163) rfl)) rfl
theorem k_1365 : (Jvm.Cond.instanceMethod ({ cls := "MachineLoom$Weaver", name := "statement", desc := "()V" } : Jvm.MethodName)) ∈ ma := ma_of (tb_6 _ (List.mem_of_getElem? (i := 165) rfl)) rfl
theorem ks_42 : Cond.selects "MachineLoom$Weaver" ⟨"MachineLoom$Weaver", "statement", "()V"⟩ ⟨"MachineLoom$Weaver", "statement", "()V"⟩ ∈ ma := ma_sel 42 rfl rfl
theorem k_1295 : (Jvm.Cond.methodLink "MachineLoom$Weaver" (83 : Nat) ({ cls := "MachineLoom$Weaver", name := "item", desc := "()V" } : Jvm.MethodName)) ∈ ma := ma_of (tb_6 _ (List.mem_of_getElem? (i := 95) rfl)) rfl
theorem k_1297 : (Jvm.Cond.instanceMethod ({ cls := "MachineLoom$Weaver", name := "item", desc := "()V" } : Jvm.MethodName)) ∈ ma := ma_of (tb_6 _ (List.mem_of_getElem? (i := 97) rfl)) rfl
theorem ks_33 : Cond.selects "MachineLoom$Weaver" ⟨"MachineLoom$Weaver", "item", "()V"⟩ ⟨"MachineLoom$Weaver", "item", "()V"⟩ ∈ ma := ma_sel 33 rfl rfl
theorem k_780 : (Jvm.Cond.methodLink "MachineLoom$Weaver" (60 : Nat) ({ cls := "MachineLoom$Weaver", name := "begin", desc := "(LMachineLoom$Program;)V" } : Jvm.MethodName)) ∈ ma := ma_of (tb_4 _ (List.mem_of_getElem? (i := 60) rfl)) rfl
theorem k_782 : (Jvm.Cond.instanceMethod ({ cls := "MachineLoom$Weaver", name := "begin", desc := "(LMachineLoom$Program;)V" } : Jvm.MethodName)) ∈ ma := ma_of (tb_4 _ (List.mem_of_getElem? (i := 62) rfl)) rfl
theorem ks_16 : Cond.selects "MachineLoom$Weaver" ⟨"MachineLoom$Weaver", "begin", "(LMachineLoom$Program;)V"⟩ ⟨"MachineLoom$Weaver", "begin", "(LMachineLoom$Program;)V"⟩ ∈ ma := ma_sel 16 rfl rfl
theorem k_789 : (Jvm.Cond.methodLink "MachineLoom$Weaver" (64 : Nat) ({ cls := "MachineLoom$Tokens", name := "cut", desc := "([BI)V" } : Jvm.MethodName)) ∈ ma := ma_of (tb_4 _ (List.mem_of_getElem? (i := 69) rfl)) rfl
theorem k_790 : (Jvm.Cond.instanceMethod ({ cls := "MachineLoom$Tokens", name := "cut", desc := "([BI)V" } : Jvm.MethodName)) ∈ ma := ma_of (tb_4 _ (List.mem_of_getElem? (i := 70) rfl)) rfl
theorem k_791 : (Jvm.Cond.selects "MachineLoom$Tokens" ({ cls := "MachineLoom$Tokens", name := "cut", desc := "([BI)V" } : Jvm.MethodName) ({ cls := "MachineLoom$Tokens", name := "cut", desc := "([BI)V" } : Jvm.MethodName)) ∈ ma := ma_of (tb_4 _ (List.mem_of_getElem? (i := 71) rfl)) rfl
theorem k_944 : (Jvm.Cond.methodLink "MachineLoom$Weaver" (68 : Nat) ({ cls := "MachineLoom$Names", name := "clear", desc := "()V" } : Jvm.MethodName)) ∈ ma := ma_of (tb_4 _ (List.mem_of_getElem? (i := 224) rfl)) rfl
theorem k_945 : (Jvm.Cond.instanceMethod ({ cls := "MachineLoom$Names", name := "clear", desc := "()V" } : Jvm.MethodName)) ∈ ma := ma_of (tb_4 _ (List.mem_of_getElem? (i := 225) rfl)) rfl
theorem k_946 : (Jvm.Cond.selects "MachineLoom$Names" ({ cls := "MachineLoom$Names", name := "clear", desc := "()V" } : Jvm.MethodName) ({ cls := "MachineLoom$Names", name := "clear", desc := "()V" } : Jvm.MethodName)) ∈ ma := ma_of (tb_4 _ (List.mem_of_getElem? (i := 226) rfl)) rfl
theorem k_1262 : (Jvm.Cond.methodLink "MachineLoom$Weaver" (71 : Nat) ({ cls := "MachineLoom$Weaver", name := "readBits", desc := "()V" } : Jvm.MethodName)) ∈ ma := ma_of (tb_6 _ (List.mem_of_getElem? (i := 62) rfl)) rfl
theorem k_1264 : (Jvm.Cond.instanceMethod ({ cls := "MachineLoom$Weaver", name := "readBits", desc := "()V" } : Jvm.MethodName)) ∈ ma := ma_of (tb_6 _ (List.mem_of_getElem? (i := 64) rfl)) rfl
theorem ks_31 : Cond.selects "MachineLoom$Weaver" ⟨"MachineLoom$Weaver", "readBits", "()V"⟩ ⟨"MachineLoom$Weaver", "readBits", "()V"⟩ ∈ ma := ma_sel 31 rfl rfl
theorem d_Weaver_weave_0 : decode b_Weaver_weave 0 = .ok (.aload_n 0, 1) := by decide +kernel
theorem d_Weaver_weave_1 : decode b_Weaver_weave 1 = .ok (.aload_n 3, 1) := by decide +kernel
theorem d_Weaver_weave_2 : decode b_Weaver_weave 2 = .ok (.invokevirtual 60, 3) := by decide +kernel
theorem d_Weaver_weave_5 : decode b_Weaver_weave 5 = .ok (.aload_n 0, 1) := by decide +kernel
theorem d_Weaver_weave_6 : decode b_Weaver_weave 6 = .ok (.getfield 12, 3) := by decide +kernel
theorem d_Weaver_weave_9 : decode b_Weaver_weave 9 = .ok (.aload_n 1, 1) := by decide +kernel
theorem d_Weaver_weave_10 : decode b_Weaver_weave 10 = .ok (.iload_n 2, 1) := by decide +kernel
theorem d_Weaver_weave_11 : decode b_Weaver_weave 11 = .ok (.invokevirtual 64, 3) := by decide +kernel
theorem d_Weaver_weave_14 : decode b_Weaver_weave 14 = .ok (.aload_n 0, 1) := by decide +kernel
theorem d_Weaver_weave_15 : decode b_Weaver_weave 15 = .ok (.getfield 27, 3) := by decide +kernel
theorem d_Weaver_weave_18 : decode b_Weaver_weave 18 = .ok (.invokevirtual 68, 3) := by decide +kernel
theorem d_Weaver_weave_21 : decode b_Weaver_weave 21 = .ok (.aload_n 0, 1) := by decide +kernel
theorem d_Weaver_weave_22 : decode b_Weaver_weave 22 = .ok (.invokevirtual 71, 3) := by decide +kernel
theorem d_Weaver_weave_25 : decode b_Weaver_weave 25 = .ok (.iconst 0, 1) := by decide +kernel
theorem d_Weaver_weave_26 : decode b_Weaver_weave 26 = .ok (.istore 4, 2) := by decide +kernel
theorem d_Weaver_weave_28 : decode b_Weaver_weave 28 = .ok (.iload 4, 2) := by decide +kernel
theorem d_Weaver_weave_30 : decode b_Weaver_weave 30 = .ok (.ldc 74, 2) := by decide +kernel
theorem d_Weaver_weave_32 : decode b_Weaver_weave 32 = .ok (.if_icmp .ge (119), 3) := by decide +kernel
theorem d_Weaver_weave_35 : decode b_Weaver_weave 35 = .ok (.aload_n 0, 1) := by decide +kernel
theorem d_Weaver_weave_36 : decode b_Weaver_weave 36 = .ok (.getfield 75, 3) := by decide +kernel
theorem d_Weaver_weave_39 : decode b_Weaver_weave 39 = .ok (.iconst 4, 1) := by decide +kernel
theorem d_Weaver_weave_40 : decode b_Weaver_weave 40 = .ok (.if_icmp .eq (111), 3) := by decide +kernel
theorem d_Weaver_weave_43 : decode b_Weaver_weave 43 = .ok (.aload_n 0, 1) := by decide +kernel
theorem d_Weaver_weave_44 : decode b_Weaver_weave 44 = .ok (.getfield 12, 3) := by decide +kernel
theorem d_Weaver_weave_47 : decode b_Weaver_weave 47 = .ok (.invokevirtual 79, 3) := by decide +kernel
theorem d_Weaver_weave_50 : decode b_Weaver_weave 50 = .ok (.ifCond .eq (101), 3) := by decide +kernel
theorem d_Weaver_weave_53 : decode b_Weaver_weave 53 = .ok (.aload_n 0, 1) := by decide +kernel
theorem d_Weaver_weave_54 : decode b_Weaver_weave 54 = .ok (.getfield 75, 3) := by decide +kernel
theorem d_Weaver_weave_57 : decode b_Weaver_weave 57 = .ok (.ifCond .ne (10), 3) := by decide +kernel
theorem d_Weaver_weave_60 : decode b_Weaver_weave 60 = .ok (.aload_n 0, 1) := by decide +kernel
theorem d_Weaver_weave_61 : decode b_Weaver_weave 61 = .ok (.invokevirtual 83, 3) := by decide +kernel
theorem d_Weaver_weave_64 : decode b_Weaver_weave 64 = .ok (.goto (81), 3) := by decide +kernel
theorem d_Weaver_weave_67 : decode b_Weaver_weave 67 = .ok (.aload_n 0, 1) := by decide +kernel
theorem d_Weaver_weave_68 : decode b_Weaver_weave 68 = .ok (.getfield 75, 3) := by decide +kernel
theorem d_Weaver_weave_71 : decode b_Weaver_weave 71 = .ok (.iconst 1, 1) := by decide +kernel
theorem d_Weaver_weave_72 : decode b_Weaver_weave 72 = .ok (.if_icmp .ne (10), 3) := by decide +kernel
theorem d_Weaver_weave_75 : decode b_Weaver_weave 75 = .ok (.aload_n 0, 1) := by decide +kernel
theorem d_Weaver_weave_76 : decode b_Weaver_weave 76 = .ok (.invokevirtual 86, 3) := by decide +kernel
theorem d_Weaver_weave_79 : decode b_Weaver_weave 79 = .ok (.goto (66), 3) := by decide +kernel
theorem d_Weaver_weave_82 : decode b_Weaver_weave 82 = .ok (.aload_n 0, 1) := by decide +kernel
theorem d_Weaver_weave_83 : decode b_Weaver_weave 83 = .ok (.getfield 75, 3) := by decide +kernel
theorem d_Weaver_weave_86 : decode b_Weaver_weave 86 = .ok (.iconst 2, 1) := by decide +kernel
theorem d_Weaver_weave_87 : decode b_Weaver_weave 87 = .ok (.if_icmp .ne (25), 3) := by decide +kernel
theorem d_Weaver_weave_90 : decode b_Weaver_weave 90 = .ok (.aload_n 0, 1) := by decide +kernel
theorem d_Weaver_weave_91 : decode b_Weaver_weave 91 = .ok (.aload_n 0, 1) := by decide +kernel
theorem d_Weaver_weave_92 : decode b_Weaver_weave 92 = .ok (.getfield 43, 3) := by decide +kernel
theorem d_Weaver_weave_95 : decode b_Weaver_weave 95 = .ok (.invokevirtual 89, 3) := by decide +kernel
theorem d_Weaver_weave_98 : decode b_Weaver_weave 98 = .ok (.ifCond .eq (7), 3) := by decide +kernel
theorem d_Weaver_weave_101 : decode b_Weaver_weave 101 = .ok (.iconst 3, 1) := by decide +kernel
theorem d_Weaver_weave_102 : decode b_Weaver_weave 102 = .ok (.goto (4), 3) := by decide +kernel
theorem d_Weaver_weave_105 : decode b_Weaver_weave 105 = .ok (.iconst 2, 1) := by decide +kernel
theorem d_Weaver_weave_106 : decode b_Weaver_weave 106 = .ok (.putfield 75, 3) := by decide +kernel
theorem d_Weaver_weave_109 : decode b_Weaver_weave 109 = .ok (.goto (36), 3) := by decide +kernel
theorem d_Weaver_weave_112 : decode b_Weaver_weave 112 = .ok (.aload_n 0, 1) := by decide +kernel
theorem d_Weaver_weave_113 : decode b_Weaver_weave 113 = .ok (.getfield 43, 3) := by decide +kernel
theorem d_Weaver_weave_116 : decode b_Weaver_weave 116 = .ok (.invokevirtual 92, 3) := by decide +kernel
theorem d_Weaver_weave_119 : decode b_Weaver_weave 119 = .ok (.istore 5, 2) := by decide +kernel
theorem d_Weaver_weave_121 : decode b_Weaver_weave 121 = .ok (.aload_n 0, 1) := by decide +kernel
theorem d_Weaver_weave_122 : decode b_Weaver_weave 122 = .ok (.iload 5, 2) := by decide +kernel
theorem d_Weaver_weave_124 : decode b_Weaver_weave 124 = .ok (.ifCond .ne (7), 3) := by decide +kernel
theorem d_Weaver_weave_127 : decode b_Weaver_weave 127 = .ok (.iconst 2, 1) := by decide +kernel
theorem d_Weaver_weave_128 : decode b_Weaver_weave 128 = .ok (.goto (4), 3) := by decide +kernel
theorem d_Weaver_weave_131 : decode b_Weaver_weave 131 = .ok (.iconst 3, 1) := by decide +kernel
theorem d_Weaver_weave_132 : decode b_Weaver_weave 132 = .ok (.putfield 75, 3) := by decide +kernel
theorem d_Weaver_weave_135 : decode b_Weaver_weave 135 = .ok (.iload 5, 2) := by decide +kernel
theorem d_Weaver_weave_137 : decode b_Weaver_weave 137 = .ok (.iconst 2, 1) := by decide +kernel
theorem d_Weaver_weave_138 : decode b_Weaver_weave 138 = .ok (.if_icmp .ne (7), 3) := by decide +kernel
theorem d_Weaver_weave_141 : decode b_Weaver_weave 141 = .ok (.aload_n 0, 1) := by decide +kernel
theorem d_Weaver_weave_142 : decode b_Weaver_weave 142 = .ok (.invokevirtual 96, 3) := by decide +kernel
theorem d_Weaver_weave_145 : decode b_Weaver_weave 145 = .ok (.iinc 4 (1), 3) := by decide +kernel
theorem d_Weaver_weave_148 : decode b_Weaver_weave 148 = .ok (.goto (-120), 3) := by decide +kernel
theorem d_Weaver_weave_151 : decode b_Weaver_weave 151 = .ok (.aload_n 0, 1) := by decide +kernel
theorem d_Weaver_weave_152 : decode b_Weaver_weave 152 = .ok (.getfield 12, 3) := by decide +kernel
theorem d_Weaver_weave_155 : decode b_Weaver_weave 155 = .ok (.invokevirtual 79, 3) := by decide +kernel
theorem d_Weaver_weave_158 : decode b_Weaver_weave 158 = .ok (.ifCond .ne (25), 3) := by decide +kernel
theorem d_Weaver_weave_161 : decode b_Weaver_weave 161 = .ok (.aload_n 0, 1) := by decide +kernel
theorem d_Weaver_weave_162 : decode b_Weaver_weave 162 = .ok (.getfield 34, 3) := by decide +kernel
theorem d_Weaver_weave_165 : decode b_Weaver_weave 165 = .ok (.invokevirtual 99, 3) := by decide +kernel
theorem d_Weaver_weave_168 : decode b_Weaver_weave 168 = .ok (.aload_n 0, 1) := by decide +kernel
theorem d_Weaver_weave_169 : decode b_Weaver_weave 169 = .ok (.getfield 34, 3) := by decide +kernel
theorem d_Weaver_weave_172 : decode b_Weaver_weave 172 = .ok (.aload_n 0, 1) := by decide +kernel
theorem d_Weaver_weave_173 : decode b_Weaver_weave 173 = .ok (.getfield 12, 3) := by decide +kernel
theorem d_Weaver_weave_176 : decode b_Weaver_weave 176 = .ok (.getfield 100, 3) := by decide +kernel
theorem d_Weaver_weave_179 : decode b_Weaver_weave 179 = .ok (.iconst 1, 1) := by decide +kernel
theorem d_Weaver_weave_180 : decode b_Weaver_weave 180 = .ok (.invokevirtual 103, 3) := by decide +kernel
theorem d_Weaver_weave_183 : decode b_Weaver_weave 183 = .ok (.aload_n 0, 1) := by decide +kernel
theorem d_Weaver_weave_184 : decode b_Weaver_weave 184 = .ok (.getfield 34, 3) := by decide +kernel
theorem d_Weaver_weave_187 : decode b_Weaver_weave 187 = .ok (.getfield 107, 3) := by decide +kernel
theorem d_Weaver_weave_190 : decode b_Weaver_weave 190 = .ok (.ifCond .ne (10), 3) := by decide +kernel
theorem d_Weaver_weave_193 : decode b_Weaver_weave 193 = .ok (.aload_n 0, 1) := by decide +kernel
theorem d_Weaver_weave_194 : decode b_Weaver_weave 194 = .ok (.invokevirtual 110, 3) := by decide +kernel
theorem d_Weaver_weave_197 : decode b_Weaver_weave 197 = .ok (.ifCond .ne (5), 3) := by decide +kernel
theorem d_Weaver_weave_200 : decode b_Weaver_weave 200 = .ok (.iconst 0, 1) := by decide +kernel
theorem d_Weaver_weave_201 : decode b_Weaver_weave 201 = .ok (.ireturn, 1) := by decide +kernel
theorem d_Weaver_weave_202 : decode b_Weaver_weave 202 = .ok (.aload_n 0, 1) := by decide +kernel
theorem d_Weaver_weave_203 : decode b_Weaver_weave 203 = .ok (.getfield 113, 3) := by decide +kernel
theorem d_Weaver_weave_206 : decode b_Weaver_weave 206 = .ok (.getfield 117, 3) := by decide +kernel
theorem d_Weaver_weave_209 : decode b_Weaver_weave 209 = .ok (.aload_n 0, 1) := by decide +kernel
theorem d_Weaver_weave_210 : decode b_Weaver_weave 210 = .ok (.getfield 113, 3) := by decide +kernel
theorem d_Weaver_weave_213 : decode b_Weaver_weave 213 = .ok (.invokevirtual 123, 3) := by decide +kernel
theorem d_Weaver_weave_216 : decode b_Weaver_weave 216 = .ok (.iconst 1, 1) := by decide +kernel
theorem d_Weaver_weave_217 : decode b_Weaver_weave 217 = .ok (.ireturn, 1) := by decide +kernel
set_option maxHeartbeats 4000000 in
set_option maxRecDepth 100000 in
theorem c_Weaver_weave_a (l : Launch) {dA : FieldType → ClassId} {D : va_G} {al : Nat → Nat} {ext : mv_Sh} {sk sv : Nat → Nat} (hi : mv_inj (mg dA D al ext)) (σ : mv_H) (t tn len : Nat) (w : Int32) (hm : mh (mv_r σ)) (hq : Ph 32 (mv_r σ)) (hts : (mb ++ ext)[t]? = some (.inr (.byte, tn))) (ht2 : t = 1 ∨ t = 144) (hw : w.toInt = len) (hl1 : len ≤ tn) (hl2 : tn ≤ 32768) (hby8 : ∀ i, i < tn → -128 ≤ (mv_a σ t i).toInt ∧ (mv_a σ t i).toInt ≤ 127) (hk0 : mv_a σ 4 0 = 0) (hp0 : 0 ≤ (mv_a σ 5 0).toInt) (hb0 : mv_b σ 6 0 = 0) (hNs0 : Ns σ) (hMt0 : Mt (mv_a σ 24)) (hlR : len ≤ 32768) (hl10 : len ≤ 10240) (hM9 : 512 = 512 ∨ qc (mv_a σ t) len ≤ 2 * 512) : mv_C l y_Weaver_weave (Cond.code y_Weaver_weave b_Weaver_weave 6 (Option.some Jvm.ClassFile.FieldType.boolean) :: ma) ({ frames := 7, cells := 0, slots := 0, locals := 176 }) (mg dA D al ext) (mK sk sv) [.ref (al 2), .ref (al t), .int w, .ref (al 32)] σ (mv_Ri (fun v σ1 => WV 32 32768 512 t σ v σ1)) := by
  refine mv_C.ofV (cc := b_Weaver_weave) (nL := 6) (ret := (Option.some Jvm.ClassFile.FieldType.boolean)) (by decide +kernel) rfl hi (Nat.le_of_ble_eq_true rfl) ?_
  intro p e s m below meth c B hNs hr hnm hno
  have hP : PQ 32 := by unfold PQ; omega
  have j183 : ∀ (ρ : mv_H) (n : Nat) (z : Nat) (sz : Nat) (υ : mv_H) (th : Nat) (sl : Nat) (no : Nat) (hG0 : WG 32 32768 512 ext ρ t tn len n z sz) (hF0 : VG 32 (w_base 32 t σ) ρ) (hV : WT 32 ρ υ) (hMt : Mt (mv_a υ 24)) (hW : WN 32 512 υ n th sl no) (hC : mv_i υ 21 0 = 0 → ∃ s9 a9 ns9, WS 32 υ sz th s9 a9 ns9 no []), mv_V p l e ({ frames := 7, cells := 0, slots := 0, locals := 176 }) s m ([.ref (al 2), .ref (al t), .int w, .ref (al 32)] : List Value).toArray below meth c (mg dA D al ext) 6 0 0 (mv_Q (mg dA D al ext) below s 0 0 (mv_Ri (fun v σ1 => WV 32 32768 512 t σ v σ1))) υ 183 [(0, .ref (al 2))] [] := by
    intro ρ n z sz υ th sl no hG0 hF0 hV hMt hW hC
    have hG := hG0.wt hV hP
    have hR := hG.1
    have hF := hF0.tr hV.vg
    have hnq := hW.2.2.2.2.2.1
    have hno2 := hW.2.2.2.2.2.2
    refine mv_aload_n (pc := 183) B d_Weaver_weave_183 rfl 0 rfl ?_
    refine mv_getR (pc := 184) (ci := 1) (C := R_Weaver) (T := F_Weaver) (N := 16) B 2 rfl rfl (by decide) i_Weaver (B.2.2.2.1 _ k_230) rfl (hR.1 _ 2 _ rfl) d_Weaver_weave_184 ?_
    refine mv_getI (pc := 187) (ci := 5) (C := R_Faults) (T := F_Faults) (N := 2) B 0 rfl rfl (by decide) i_Faults (B.2.2.2.1 _ k_178) rfl d_Weaver_weave_187 ?_
    refine mv_if_ne (pc := 190) (tgt := 200) B d_Weaver_weave_190 rfl (fun h190 => ?_) (fun h190 => ?_)
    · skip
      have hend := WV.bad (σ := σ) hG hMt hW hF
      refine mv_iconst (pc := 200) (v := 0) B d_Weaver_weave_200 (by decide) ?_
      exact mv_iret (pc := 201) B hr rfl d_Weaver_weave_201 (Nat.le_refl _) (Nat.le_refl _) ⟨_, rfl, by first | exact hend | exact hend⟩
    · skip
      obtain ⟨s9, a9, ns9, hS9⟩ := hC h190
      have hCo : CodeOK 32 32768 υ th := CodeOK.of (len := len) hS9 h190 hnq (hG.2.2.1.2.2.2.2.2) hG.2.2.2.2.1 hG.2.2.2.2.2
      refine mv_aload_n (pc := 193) B d_Weaver_weave_193 rfl 0 rfl ?_
      refine mv_callVi (pc := 194) (n := 0) (ci := 1) (C := R_Weaver) B (mK_ok sk sv) hNs rfl rfl (c_Weaver_areApart_a l hi _ hR no hnq hno2) rfl (ma_goodc kc_Weaver_areApart) (B.2.2.2.1 _ k_1540) (B.2.2.2.1 _ k_1542) (B.2.2.2.1 _ ks_68) (B.2.2.2.1 _ k_2) ⟨by decide +kernel, by decide +kernel, by decide +kernel⟩ rfl d_Weaver_weave_194 rfl (Nat.le_of_ble_eq_true rfl) ⟨by decide, by decide⟩ ⟨by decide, by decide⟩ ⟨by decide, by decide⟩ (mv_noH hno _) (fun v194 σ194 h194 => ?_)
      obtain ⟨f194, d194⟩ := h194
      refine mv_if_ne (pc := 197) (tgt := 202) B d_Weaver_weave_197 rfl (fun h197 => ?_) (fun h197 => ?_)
      · skip
        obtain ⟨-, e194⟩ := d194.resolve_left (fun q => h197 q.1)
        have e194 := e194.symm
        subst e194
        refine mv_aload_n (pc := 202) B d_Weaver_weave_202 rfl 0 rfl ?_
        refine mv_getR (pc := 203) (ci := 1) (C := R_Weaver) (T := F_Weaver) (N := 16) B 5 rfl rfl (by decide) i_Weaver (B.2.2.2.1 _ k_235) rfl hR.2.2.1 d_Weaver_weave_203 ?_
        refine mv_getR (pc := 206) (ci := 7) (C := R_Program) (T := F_Program) (N := 19) B 18 rfl rfl (by decide) i_Program (B.2.2.2.1 _ k_365) rfl (hR.2.1 _ 18 43 rfl) d_Weaver_weave_206 ?_
        refine mv_aload_n (pc := 209) B d_Weaver_weave_209 rfl 0 rfl ?_
        refine mv_getR (pc := 210) (ci := 1) (C := R_Weaver) (T := F_Weaver) (N := 16) B 5 rfl rfl (by decide) i_Weaver (B.2.2.2.1 _ k_235) rfl hR.2.2.1 d_Weaver_weave_210 ?_
        refine mv_callVv (pc := 213) (n := 1) (ci := 8) (C := R_Tree) B (mK_ok sk sv) hNs rfl rfl (c_Tree_grow_a l hi _ no hR.2.1 hnq hno2) rfl (ma_goodc kc_Tree_grow) (B.2.2.2.1 _ k_1548) (B.2.2.2.1 _ k_411) (B.2.2.2.1 _ k_412) (B.2.2.2.1 _ k_9) ⟨by decide +kernel, by decide +kernel, by decide +kernel⟩ rfl d_Weaver_weave_213 rfl (Nat.le_of_ble_eq_true rfl) ⟨by decide, by decide⟩ ⟨by decide, by decide⟩ ⟨by decide, by decide⟩ (mv_noH hno _) (fun σ213 h213 => ?_)
        obtain ⟨f213, k213⟩ := h213
        refine mv_iconst (pc := 216) (v := 1) B d_Weaver_weave_216 (by decide) ?_
        exact mv_iret (pc := 217) B hr rfl d_Weaver_weave_217 (Nat.le_refl _) (Nat.le_refl _) ⟨_, rfl, TreeOK.wv hP hG hMt hW hF hCo f213 k213⟩
      · skip
        obtain ⟨-, x9, y9, z9, q9⟩ := d194.resolve_right (fun q => by rw [h197] at q; exact absurd q.1 (by decide))
        have hend : WV 32 32768 512 t σ 0 σ194 := WV.bad (hG.wt f194 hP) (by rw [q9]; exact hMt) (by rw [q9]; exact (hW.tell hP _ _).of hP (OF.w Fr.rf 4 _)) (hF.tr f194.vg)
        refine mv_iconst (pc := 200) (v := 0) B d_Weaver_weave_200 (by decide) ?_
        exact mv_iret (pc := 201) B hr rfl d_Weaver_weave_201 (Nat.le_refl _) (Nat.le_refl _) ⟨_, rfl, by first | exact hend | exact hend⟩
  have j151 : ∀ (ρ : mv_H) (n : Nat) (z : Nat) (sz : Nat) (υ : mv_H) (th : Nat) (sl : Nat) (no : Nat) (hG0 : WG 32 32768 512 ext ρ t tn len n z sz) (hF0 : VG 32 (w_base 32 t σ) ρ) (hV : WT 32 ρ υ) (hMt : Mt (mv_a υ 24)) (hW : WN 32 512 υ n th sl no) (hE : 0 ≤ (mv_i υ 3 9).toInt ∨ ∃ s9 a9 ns9, WS 32 υ sz th s9 a9 ns9 no []), mv_V p l e ({ frames := 7, cells := 0, slots := 0, locals := 176 }) s m ([.ref (al 2), .ref (al t), .int w, .ref (al 32)] : List Value).toArray below meth c (mg dA D al ext) 6 0 0 (mv_Q (mg dA D al ext) below s 0 0 (mv_Ri (fun v σ1 => WV 32 32768 512 t σ v σ1))) υ 151 [(0, .ref (al 2))] [] := by
    intro ρ n z sz υ th sl no hG0 hF0 hV hMt hW hE
    have hG := hG0.wt hV hP
    have hR := hG.1
    refine mv_aload_n (pc := 151) B d_Weaver_weave_151 rfl 0 rfl ?_
    refine mv_getR (pc := 152) (ci := 1) (C := R_Weaver) (T := F_Weaver) (N := 16) B 0 rfl rfl (by decide) i_Weaver (B.2.2.2.1 _ k_228) rfl (hR.1 _ 0 _ rfl) d_Weaver_weave_152 ?_
    refine mv_callVi (pc := 155) (n := 0) (ci := 2) (C := R_Tokens) B (mK_ok sk sv) hNs rfl rfl (c_Tokens_right l hi _) rfl (ma_goodc kc_Tokens_right) (B.2.2.2.1 _ k_1291) (B.2.2.2.1 _ k_1292) (B.2.2.2.1 _ k_1293) (B.2.2.2.1 _ k_3) ⟨by decide +kernel, by decide +kernel, by decide +kernel⟩ rfl d_Weaver_weave_155 rfl (Nat.le_of_ble_eq_true rfl) ⟨by decide, by decide⟩ ⟨by decide, by decide⟩ ⟨by decide, by decide⟩ (mv_noH hno _) (fun v155 σ155 h155 => ?_)
    obtain ⟨e155, z155⟩ := h155
    have e155 := e155.symm
    subst e155
    refine mv_if_ne (pc := 158) (tgt := 183) B d_Weaver_weave_158 rfl (fun h158 => ?_) (fun h158 => ?_)
    · skip
      have hw : (mv_i υ 3 9).toInt < 0 := Decidable.byContradiction fun q => h158 (by rw [z155, if_neg (fun z => q (lt0.mp z))])
      have go := j183 ρ n z sz υ th sl no hG0 hF0 hV hMt hW (fun _ => hE.resolve_left (by omega))
      refine mv_lpick [0] rfl ?_
      exact go
    · skip
      refine mv_aload_n (pc := 161) B d_Weaver_weave_161 rfl 0 rfl ?_
      refine mv_getR (pc := 162) (ci := 1) (C := R_Weaver) (T := F_Weaver) (N := 16) B 2 rfl rfl (by decide) i_Weaver (B.2.2.2.1 _ k_230) rfl (hR.1 _ 2 _ rfl) d_Weaver_weave_162 ?_
      refine mv_callVv (pc := 165) (n := 0) (ci := 5) (C := R_Faults) B (mK_ok sk sv) hNs rfl rfl (c_Faults_clear l hi _) rfl (ma_goodc kc_Faults_clear) (B.2.2.2.1 _ k_785) (B.2.2.2.1 _ k_786) (B.2.2.2.1 _ k_787) (B.2.2.2.1 _ k_6) ⟨by decide +kernel, by decide +kernel, by decide +kernel⟩ rfl d_Weaver_weave_165 rfl (Nat.le_of_ble_eq_true rfl) ⟨by decide, by decide⟩ ⟨by decide, by decide⟩ ⟨by decide, by decide⟩ (mv_noH hno _) (fun σ165 h165 => ?_)
      subst h165
      refine mv_aload_n (pc := 168) B d_Weaver_weave_168 rfl 0 rfl ?_
      refine mv_getR (pc := 169) (ci := 1) (C := R_Weaver) (T := F_Weaver) (N := 16) B 2 rfl rfl (by decide) i_Weaver (B.2.2.2.1 _ k_230) rfl (hR.1 _ 2 _ rfl) d_Weaver_weave_169 ?_
      refine mv_aload_n (pc := 172) B d_Weaver_weave_172 rfl 0 rfl ?_
      refine mv_getR (pc := 173) (ci := 1) (C := R_Weaver) (T := F_Weaver) (N := 16) B 0 rfl rfl (by decide) i_Weaver (B.2.2.2.1 _ k_228) rfl (hR.1 _ 0 _ rfl) d_Weaver_weave_173 ?_
      refine mv_getI (pc := 176) (ci := 2) (C := R_Tokens) (T := F_Tokens) (N := 10) B 9 rfl rfl (by decide) i_Tokens (B.2.2.2.1 _ k_106) rfl d_Weaver_weave_176 ?_
      refine mv_iconst (pc := 179) (v := 1) B d_Weaver_weave_179 (by decide) ?_
      refine mv_callVv (pc := 180) (n := 2) (ci := 5) (C := R_Faults) B (mK_ok sk sv) hNs rfl rfl (c_Faults_tell l hi _ _ _) rfl (ma_goodc kc_Faults_tell) (B.2.2.2.1 _ k_1286) (B.2.2.2.1 _ k_1287) (B.2.2.2.1 _ k_1288) (B.2.2.2.1 _ k_6) ⟨by decide +kernel, by decide +kernel, by decide +kernel⟩ rfl d_Weaver_weave_180 rfl (Nat.le_of_ble_eq_true rfl) ⟨by decide, by decide⟩ ⟨by decide, by decide⟩ ⟨by decide, by decide⟩ (mv_noH hno _) (fun σ180 h180 => ?_)
      obtain ⟨x9, y9, e180, z180⟩ := tell_n (b := 1) (by decide) h180
      subst e180
      have go := j183 ρ n z sz (ex_tell (mv_si (mv_si υ 21 0 0) 21 1 (-1)) x9 y9) th sl no hG0 hF0 ((hV.tell 0 (-1)).tell x9 y9) hMt ((hW.tell hP 0 (-1)).tell hP x9 y9) (fun q => absurd q z180)
      refine mv_lpick [0] rfl ?_
      exact go
  have lp : ∀ (nn : Nat) (ρ : mv_H) (n : Nat) (z : Nat) (sz : Nat) (τ : mv_H) (tt : Int32) (hG0 : WG 32 32768 512 ext ρ t tn len n z sz) (hF0 : VG 32 (w_base 32 t σ) ρ) (hV : WT 32 ρ τ) (hMt : Mt (mv_a τ 24)) (q0 : 0 ≤ tt.toInt) (q1 : tt.toInt ≤ 131072) (hL0 : LQ 32 512 τ n sz tt.toInt), (131072 - tt.toInt).toNat < nn → mv_V p l e ({ frames := 7, cells := 0, slots := 0, locals := 176 }) s m ([.ref (al 2), .ref (al t), .int w, .ref (al 32)] : List Value).toArray below meth c (mg dA D al ext) 6 0 0 (mv_Q (mg dA D al ext) below s 0 0 (mv_Ri (fun v σ1 => WV 32 32768 512 t σ v σ1))) τ 28 [(4, .int tt), (0, .ref (al 2))] [] := by
    intro nn
    induction nn with
    | zero => intro ρ n z sz τ tt hG0 hF0 hV hMt q0 q1 hL0 hm; exact absurd hm (Nat.not_lt_zero _)
    | succ nn ih =>
      intro ρ n z sz τ tt hG0 hF0 hV hMt q0 q1 hL0 hm
      have hG := hG0.wt hV hP
      have hR := hG.1
      have ht2 := hG.2.1.2.2.2.2.2.2
      obtain ⟨th, sl, no, hW, hL⟩ := hL0
      have hszz := hG.2.2.1.2.2.2.1
      have j145 : ∀ (υ : mv_H) (h31 : tt.toInt < 131072) (wV : WT 32 ρ υ) (wM : Mt (mv_a υ 24)) (wL : LQ 32 512 υ n sz (tt.toInt + 1)), mv_V p l e ({ frames := 7, cells := 0, slots := 0, locals := 176 }) s m ([.ref (al 2), .ref (al t), .int w, .ref (al 32)] : List Value).toArray below meth c (mg dA D al ext) 6 0 0 (mv_Q (mg dA D al ext) below s 0 0 (mv_Ri (fun v σ1 => WV 32 32768 512 t σ v σ1))) υ 145 [(4, .int tt), (0, .ref (al 2))] [] := by
        intro υ h31 wV wM wL
        have t2 : (tt + 1).toInt = tt.toInt + 1 := i32_inc (by omega)
        have go := ih ρ n z sz υ (tt + 1) hG0 hF0 wV wM (by omega) (by omega) (by rw [t2]; exact wL) (by omega)
        refine mv_iinc (pc := 145) (j := 0) (v := 1) B d_Weaver_weave_145 rfl (by decide) (by decide) rfl ?_
        refine mv_goto (pc := 148) (tgt := 28) B d_Weaver_weave_148 rfl ?_
        refine mv_lpick [0, 1] rfl ?_
        exact go
      refine mv_iload (pc := 28) B d_Weaver_weave_28 0 rfl ?_
      refine mv_ldc (pc := 30) (v := 131072) B (B.2.2.2.1 _ k_1290) d_Weaver_weave_30 ?_
      refine mv_icmp_ge (pc := 32) (tgt := 151) B d_Weaver_weave_32 rfl (fun h32 => ?_) (fun h32 => ?_)
      · skip
        rw [Int32.le_iff_toInt_le] at h32
        have h32 : (131072 : Int) ≤ tt.toInt := h32
        have go := j151 ρ n z sz τ th sl no hG0 hF0 hV hMt hW (hL.elim Or.inl (fun q => q.elim (fun q => Or.inr q.2) (fun q => by obtain ⟨a9, q1, q2⟩ := q; have := q2.lt.1; omega)))
        refine mv_lpick [1] rfl ?_
        exact go
      · skip
        rw [Int32.le_iff_toInt_le] at h32
        have h32 : ¬ (131072 : Int) ≤ tt.toInt := h32
        have t2 : (tt + 1).toInt = tt.toInt + 1 := i32_inc (by omega)
        refine mv_aload_n (pc := 35) B d_Weaver_weave_35 rfl 1 rfl ?_
        refine mv_getI (pc := 36) (ci := 1) (C := R_Weaver) (T := F_Weaver) (N := 16) B 6 rfl rfl (by decide) i_Weaver (B.2.2.2.1 _ k_236) rfl d_Weaver_weave_36 ?_
        refine mv_iconst (pc := 39) (v := 4) B d_Weaver_weave_39 (by decide) ?_
        refine mv_icmp_eq (pc := 40) (tgt := 151) B d_Weaver_weave_40 rfl (fun h40 => ?_) (fun h40 => ?_)
        · skip
          have go := j151 ρ n z sz τ th sl no hG0 hF0 hV hMt hW (hL.elim Or.inl (fun q => q.elim (fun q => Or.inr q.2) (fun q => by obtain ⟨a9, q1, q2⟩ := q; rcases q2 with ⟨q2, -⟩ | ⟨q2, -⟩ | ⟨q2, -⟩ | ⟨q2, -⟩ <;> (rw [h40] at q2; exact absurd q2 (by decide)))))
          refine mv_lpick [1] rfl ?_
          exact go
        · skip
          refine mv_aload_n (pc := 43) B d_Weaver_weave_43 rfl 1 rfl ?_
          refine mv_getR (pc := 44) (ci := 1) (C := R_Weaver) (T := F_Weaver) (N := 16) B 0 rfl rfl (by decide) i_Weaver (B.2.2.2.1 _ k_228) rfl (hR.1 _ 0 _ rfl) d_Weaver_weave_44 ?_
          refine mv_callVi (pc := 47) (n := 0) (ci := 2) (C := R_Tokens) B (mK_ok sk sv) hNs rfl rfl (c_Tokens_right l hi _) rfl (ma_goodc kc_Tokens_right) (B.2.2.2.1 _ k_1291) (B.2.2.2.1 _ k_1292) (B.2.2.2.1 _ k_1293) (B.2.2.2.1 _ k_3) ⟨by decide +kernel, by decide +kernel, by decide +kernel⟩ rfl d_Weaver_weave_47 rfl (Nat.le_of_ble_eq_true rfl) ⟨by decide, by decide⟩ ⟨by decide, by decide⟩ ⟨by decide, by decide⟩ (mv_noH hno _) (fun v47 σ47 h47 => ?_)
          obtain ⟨e47, z47⟩ := h47
          have e47 := e47.symm
          subst e47
          refine mv_if_eq (pc := 50) (tgt := 151) B d_Weaver_weave_50 rfl (fun h50 => ?_) (fun h50 => ?_)
          · skip
            have hw : ¬ (mv_i τ 3 9).toInt < 0 := fun q => by rw [if_pos (lt0.mpr q)] at z47; rw [z47] at h50; exact absurd h50 (by decide)
            have go := j151 ρ n z sz τ th sl no hG0 hF0 hV hMt hW (Or.inl (by omega))
            refine mv_lpick [1] rfl ?_
            exact go
          · skip
            have hw : (mv_i τ 3 9).toInt < 0 := Decidable.byContradiction fun q => h50 (by rw [z47, if_neg (fun z => q (lt0.mp z))])
            obtain ⟨a9, hta, hWM⟩ := (hL.resolve_left (by omega)).resolve_left (fun q => h40 q.1)
            have hal := hWM.lt
            refine mv_aload_n (pc := 53) B d_Weaver_weave_53 rfl 1 rfl ?_
            refine mv_getI (pc := 54) (ci := 1) (C := R_Weaver) (T := F_Weaver) (N := 16) B 6 rfl rfl (by decide) i_Weaver (B.2.2.2.1 _ k_236) rfl d_Weaver_weave_54 ?_
            refine mv_if_ne (pc := 57) (tgt := 67) B d_Weaver_weave_57 rfl (fun h57 => ?_) (fun h57 => ?_)
            · skip
              refine mv_aload_n (pc := 67) B d_Weaver_weave_67 rfl 1 rfl ?_
              refine mv_getI (pc := 68) (ci := 1) (C := R_Weaver) (T := F_Weaver) (N := 16) B 6 rfl rfl (by decide) i_Weaver (B.2.2.2.1 _ k_236) rfl d_Weaver_weave_68 ?_
              refine mv_iconst (pc := 71) (v := 1) B d_Weaver_weave_71 (by decide) ?_
              refine mv_icmp_ne (pc := 72) (tgt := 82) B d_Weaver_weave_72 rfl (fun h72 => ?_) (fun h72 => ?_)
              · skip
                refine mv_aload_n (pc := 82) B d_Weaver_weave_82 rfl 1 rfl ?_
                refine mv_getI (pc := 83) (ci := 1) (C := R_Weaver) (T := F_Weaver) (N := 16) B 6 rfl rfl (by decide) i_Weaver (B.2.2.2.1 _ k_236) rfl d_Weaver_weave_83 ?_
                refine mv_iconst (pc := 86) (v := 2) B d_Weaver_weave_86 (by decide) ?_
                refine mv_icmp_ne (pc := 87) (tgt := 112) B d_Weaver_weave_87 rfl (fun h87 => ?_) (fun h87 => ?_)
                · skip
                  have hWE : WE 32 τ n sz th no a9 1 := by
                    rcases hWM with ⟨q, -⟩ | ⟨q, -⟩ | ⟨q, -⟩ | ⟨-, q⟩
                    · exact absurd q h57
                    · exact absurd q h72
                    · exact absurd q h87
                    · exact q
                  obtain ⟨e0, bs, bd, s9, ns9, f0, g0, bl, ol, ms, ⟨hX, hI⟩, hB2, hgt, hn2, hn4, hnc⟩ := hWE
                  have hbs := hB2.2.2.2.2.1.bs
                  have hB9 : SB 32 τ t len n z sz th sl := ⟨hG.1, hG.2.2.1, hW.1, hW.2.1⟩
                  refine mv_aload_n (pc := 112) B d_Weaver_weave_112 rfl 1 rfl ?_
                  refine mv_getR (pc := 113) (ci := 1) (C := R_Weaver) (T := F_Weaver) (N := 16) B 3 rfl rfl (by decide) i_Weaver (B.2.2.2.1 _ k_232) rfl (hR.1 _ 3 _ rfl) d_Weaver_weave_113 ?_
                  refine mv_callVi (pc := 116) (n := 0) (ci := 6) (C := R_Exprs) B (mK_ok sk sv) hNs rfl rfl (c_Exprs_after_a l hi _ hB9 ht2 hX hI hG.2.2.2.2.1 hbs) rfl (ma_goodc kc_Exprs_after) (B.2.2.2.1 _ k_1460) (B.2.2.2.1 _ k_1461) (B.2.2.2.1 _ k_1462) (B.2.2.2.1 _ k_7) ⟨by decide +kernel, by decide +kernel, by decide +kernel⟩ rfl d_Weaver_weave_116 rfl (Nat.le_of_ble_eq_true rfl) ⟨by decide, by decide⟩ ⟨by decide, by decide⟩ ⟨by decide, by decide⟩ (mv_noH hno _) (fun v116 σ116 h116 => ?_)
                  obtain ⟨f116, m116, d116⟩ := h116
                  refine mv_istore (pc := 119) B d_Weaver_weave_119 (by decide) rfl ?_
                  refine mv_aload_n (pc := 121) B d_Weaver_weave_121 rfl 2 rfl ?_
                  refine mv_iload (pc := 122) B d_Weaver_weave_122 0 rfl ?_
                  refine mv_if_ne (pc := 124) (tgt := 131) B d_Weaver_weave_124 rfl (fun h124 => ?_) (fun h124 => ?_)
                  · skip
                    refine mv_iconst (pc := 131) (v := 3) B d_Weaver_weave_131 (by decide) ?_
                    refine mv_putI (pc := 132) (ci := 1) (C := R_Weaver) (T := F_Weaver) (N := 16) B 6 rfl rfl (by decide) i_Weaver t_Weaver_ok n_Weaver (B.2.2.2.1 _ k_236) rfl rfl rfl rfl d_Weaver_weave_132 ?_
                    refine mv_gen (fun S135 eS135 => ?_)
                    have hmm : ¬ v116 = 0 → S135 = mv_si σ116 2 6 3 := by first | exact fun _ => eS135 | exact fun q => absurd h124 q
                    have hm0 : v116 = 0 → S135 = mv_si σ116 2 6 2 := by first | exact fun _ => eS135 | exact fun q => absurd q h124
                    have go1 : ¬ v116 = 2 → mv_V p l e ({ frames := 7, cells := 0, slots := 0, locals := 176 }) s m ([.ref (al 2), .ref (al t), .int w, .ref (al 32)] : List Value).toArray below meth c (mg dA D al ext) 6 0 0 (mv_Q (mg dA D al ext) below s 0 0 (mv_Ri (fun v σ1 => WV 32 32768 512 t σ v σ1))) S135 145 [(4, .int tt), (0, .ref (al 2))] [] := by
                      intro q2
                      have d1 := d116.resolve_left (fun q => q2 q.1)
                      by_cases q0 : v116 = 0
                      · rw [hm0 q0]
                        rw [q0] at d1
                        exact j145 (mv_si σ116 2 6 2) (by omega) (WT.w (P := 32) (hV.tr f116.wt) 6 2) m116 ⟨th, sl, no, (hW.rf f116 hP).of hP (OF.w Fr.rf 6 2), d1.2.elim Or.inl (fun q => by obtain ⟨ms2, s2, a2, q1, q2, q3⟩ := q; exact Or.inr (Or.inr ⟨a2, by omega, Or.inr (Or.inr (Or.inl ⟨rfl, WE.next hP f116 2 q2 q3 (by omega) hB2 hgt hn2 hn4 hnc⟩))⟩))⟩
                      · rw [hmm q0]
                        rw [d1.1.resolve_left q0] at d1
                        exact j145 (mv_si σ116 2 6 3) (by omega) (WT.w (P := 32) (hV.tr f116.wt) 6 3) m116 ⟨th, sl, no, (hW.rf f116 hP).of hP (OF.w Fr.rf 6 3), d1.2.elim Or.inl (fun q => by obtain ⟨ms2, s2, a2, q1, q2, q3⟩ := q; exact Or.inr (Or.inr ⟨a2, by omega, Or.inr (Or.inr (Or.inr ⟨rfl, WE.next hP f116 3 q2 q3 (by omega) hB2 hgt hn2 hn4 hnc⟩))⟩))⟩
                    clear eS135
                    refine mv_iload (pc := 135) B d_Weaver_weave_135 0 rfl ?_
                    refine mv_iconst (pc := 137) (v := 2) B d_Weaver_weave_137 (by decide) ?_
                    refine mv_icmp_ne (pc := 138) (tgt := 145) B d_Weaver_weave_138 rfl (fun h138 => ?_) (fun h138 => ?_)
                    · skip
                      have go := go1 h138
                      refine mv_lpick [1, 2] rfl ?_
                      exact go
                    · skip
                      have e135 := hmm (by rw [h138]; decide)
                      subst e135
                      have hG142 := hG.wt (WT.w (P := 32) f116.wt 6 3) hP
                      have hM142 : Mt (mv_a (mv_si σ116 2 6 3) 24) := m116
                      have hW142 := (hW.rf f116 hP).of hP (OF.w Fr.rf 6 3)
                      have i2 : ∀ k, k ≠ 6 → mv_i (mv_si σ116 2 6 3) 2 k = mv_i τ 2 k := fun k q => (ri_ne (by omega)).trans (f116.1 2 k (by omega))
                      have a7 : mv_a σ116 39 = mv_a τ 39 := f116.2.1 _ (by decide)
                      obtain ⟨-, s2, hX2, hI2⟩ := d116.resolve_right (fun q => by rw [h138] at q; exact absurd q.1 (by decide))
                      have hX142 : XM 32 th e0 bs (BLx th e0 f0 g0 (mv_a (mv_si σ116 2 6 3) 39) no ol (mv_i (mv_si σ116 2 6 3) 2 7 = 4 ∨ 0 ≤ (mv_i (mv_si σ116 2 6 3) 2 9).toInt)) f0 g0 ns9 (mv_si σ116 2 6 3) [] 1 1 s2 := by
                        rw [i2 7 (by decide), i2 9 (by decide)]
                        show XM 32 th e0 bs (BLx th e0 f0 g0 (mv_a σ116 39) no ol _) f0 g0 ns9 (mv_si σ116 2 6 3) [] 1 1 s2
                        rw [a7]
                        exact hX2.fr rfl rfl rfl rfl rfl rfl rfl rfl rfl
                      have hI142 : TI (mv_si σ116 2 6 3) sz bd [] s2 a9 := hI2.up rfl (Nat.le_refl _) (Nat.le_refl _) hI2.2.2.2.2.2.2
                      have hb15 : (mv_i (mv_si σ116 2 6 3) 2 15).toInt = bl.length := by rw [i2 15 (by decide)]; exact hB2.2.1
                      have hBk : BkR (mv_a (mv_si σ116 2 6 3) 28) (mv_a (mv_si σ116 2 6 3) 29) (mv_a (mv_si σ116 2 6 3) 30) (mv_a (mv_si σ116 2 6 3) 31) g0 (mv_i (mv_si σ116 2 6 3) 13 7).toInt bl := by
                        show BkR (mv_a σ116 28) (mv_a σ116 29) (mv_a σ116 30) (mv_a σ116 31) g0 (mv_i σ116 13 7).toInt bl
                        rw [f116.2.1 28 (by decide), f116.2.1 29 (by decide), f116.2.1 30 (by decide), f116.2.1 31 (by decide), f116.1 13 7 (by decide)]
                        exact hB2.2.2.1
                      have hGl : Gl (mv_i (mv_si σ116 2 6 3) 2 7) bs bd bl.length (mv_i (mv_si σ116 2 6 3) 2 9).toInt n th (mv_i (mv_si σ116 2 6 3) 13 9).toInt := by
                        rw [i2 7 (by decide), i2 9 (by decide), show mv_i (mv_si σ116 2 6 3) 13 9 = mv_i τ 13 9 from f116.1 13 9 (by decide)]
                        exact hB2.2.2.2.2.1
                      have hGx : Gx (mv_i (mv_si σ116 2 6 3) 2 7) g0 (mv_i (mv_si σ116 2 6 3) 2 10) bl ol := by rw [i2 7 (by decide), i2 10 (by decide)]; exact hB2.2.2.2.2.2
                      have hgt2 : mv_i (mv_si σ116 2 6 3) 2 7 = 1 ∨ (0 ≤ (mv_i (mv_si σ116 2 6 3) 2 8).toInt ∧ (mv_i (mv_si σ116 2 6 3) 2 8).toInt < 32770) := by rw [i2 7 (by decide), i2 8 (by decide)]; exact hgt
                      have hn42 : mv_i (mv_si σ116 2 6 3) 2 7 = 1 ∨ mv_i (mv_si σ116 2 6 3) 2 7 = 2 ∨ mv_i (mv_si σ116 2 6 3) 2 7 = 3 → 2 * ns9 + 4 ≤ a9 := by rw [i2 7 (by decide)]; exact hn4
                      have hnc2 : no ≤ nCd (mv_a (mv_si σ116 2 6 3) 4) a9 := by show no ≤ nCd (mv_a σ116 4) a9; rw [f116.2.1 4 (by decide)]; exact hnc
                      refine mv_aload_n (pc := 141) B d_Weaver_weave_141 rfl 2 rfl ?_
                      refine mv_callVv (pc := 142) (n := 0) (ci := 1) (C := R_Weaver) B (mK_ok sk sv) hNs rfl rfl (c_Weaver_finish_a l hi _ hG142 hM142 hW142 hX142 hI142 hB2.1 hb15 hBk hB2.2.2.2.1 hGl hGx hgt2 hn2 hn42 hnc2) rfl (ma_goodc kc_Weaver_finish) (B.2.2.2.1 _ k_1522) (B.2.2.2.1 _ k_1524) (B.2.2.2.1 _ ks_65) (B.2.2.2.1 _ k_2) ⟨by decide +kernel, by decide +kernel, by decide +kernel⟩ rfl d_Weaver_weave_142 rfl (Nat.le_of_ble_eq_true rfl) ⟨by decide, by decide⟩ ⟨by decide, by decide⟩ ⟨by decide, by decide⟩ (mv_noH hno _) (fun σ142 h142 => ?_)
                      have go := j145 σ142 (by omega) ((hV.tr (WT.w (P := 32) f116.wt 6 3)).tr h142.1) h142.2.1 (h142.lq _ (by omega))
                      refine mv_lpick [1, 2] rfl ?_
                      exact go
                  · skip
                    refine mv_iconst (pc := 127) (v := 2) B d_Weaver_weave_127 (by decide) ?_
                    refine mv_goto (pc := 128) (tgt := 132) B d_Weaver_weave_128 rfl ?_
                    refine mv_putI (pc := 132) (ci := 1) (C := R_Weaver) (T := F_Weaver) (N := 16) B 6 rfl rfl (by decide) i_Weaver t_Weaver_ok n_Weaver (B.2.2.2.1 _ k_236) rfl rfl rfl rfl d_Weaver_weave_132 ?_
                    refine mv_gen (fun S135 eS135 => ?_)
                    have hmm : ¬ v116 = 0 → S135 = mv_si σ116 2 6 3 := by first | exact fun _ => eS135 | exact fun q => absurd h124 q
                    have hm0 : v116 = 0 → S135 = mv_si σ116 2 6 2 := by first | exact fun _ => eS135 | exact fun q => absurd q h124
                    have go1 : ¬ v116 = 2 → mv_V p l e ({ frames := 7, cells := 0, slots := 0, locals := 176 }) s m ([.ref (al 2), .ref (al t), .int w, .ref (al 32)] : List Value).toArray below meth c (mg dA D al ext) 6 0 0 (mv_Q (mg dA D al ext) below s 0 0 (mv_Ri (fun v σ1 => WV 32 32768 512 t σ v σ1))) S135 145 [(4, .int tt), (0, .ref (al 2))] [] := by
                      intro q2
                      have d1 := d116.resolve_left (fun q => q2 q.1)
                      by_cases q0 : v116 = 0
                      · rw [hm0 q0]
                        rw [q0] at d1
                        exact j145 (mv_si σ116 2 6 2) (by omega) (WT.w (P := 32) (hV.tr f116.wt) 6 2) m116 ⟨th, sl, no, (hW.rf f116 hP).of hP (OF.w Fr.rf 6 2), d1.2.elim Or.inl (fun q => by obtain ⟨ms2, s2, a2, q1, q2, q3⟩ := q; exact Or.inr (Or.inr ⟨a2, by omega, Or.inr (Or.inr (Or.inl ⟨rfl, WE.next hP f116 2 q2 q3 (by omega) hB2 hgt hn2 hn4 hnc⟩))⟩))⟩
                      · rw [hmm q0]
                        rw [d1.1.resolve_left q0] at d1
                        exact j145 (mv_si σ116 2 6 3) (by omega) (WT.w (P := 32) (hV.tr f116.wt) 6 3) m116 ⟨th, sl, no, (hW.rf f116 hP).of hP (OF.w Fr.rf 6 3), d1.2.elim Or.inl (fun q => by obtain ⟨ms2, s2, a2, q1, q2, q3⟩ := q; exact Or.inr (Or.inr ⟨a2, by omega, Or.inr (Or.inr (Or.inr ⟨rfl, WE.next hP f116 3 q2 q3 (by omega) hB2 hgt hn2 hn4 hnc⟩))⟩))⟩
                    clear eS135
                    refine mv_iload (pc := 135) B d_Weaver_weave_135 0 rfl ?_
                    refine mv_iconst (pc := 137) (v := 2) B d_Weaver_weave_137 (by decide) ?_
                    refine mv_icmp_ne (pc := 138) (tgt := 145) B d_Weaver_weave_138 rfl (fun h138 => ?_) (fun h138 => ?_)
                    · skip
                      have go := go1 h138
                      refine mv_lpick [1, 2] rfl ?_
                      exact go
                    · skip
                      have e135 := hmm (by rw [h138]; decide)
                      subst e135
                      have hG142 := hG.wt (WT.w (P := 32) f116.wt 6 3) hP
                      have hM142 : Mt (mv_a (mv_si σ116 2 6 3) 24) := m116
                      have hW142 := (hW.rf f116 hP).of hP (OF.w Fr.rf 6 3)
                      have i2 : ∀ k, k ≠ 6 → mv_i (mv_si σ116 2 6 3) 2 k = mv_i τ 2 k := fun k q => (ri_ne (by omega)).trans (f116.1 2 k (by omega))
                      have a7 : mv_a σ116 39 = mv_a τ 39 := f116.2.1 _ (by decide)
                      obtain ⟨-, s2, hX2, hI2⟩ := d116.resolve_right (fun q => by rw [h138] at q; exact absurd q.1 (by decide))
                      have hX142 : XM 32 th e0 bs (BLx th e0 f0 g0 (mv_a (mv_si σ116 2 6 3) 39) no ol (mv_i (mv_si σ116 2 6 3) 2 7 = 4 ∨ 0 ≤ (mv_i (mv_si σ116 2 6 3) 2 9).toInt)) f0 g0 ns9 (mv_si σ116 2 6 3) [] 1 1 s2 := by
                        rw [i2 7 (by decide), i2 9 (by decide)]
                        show XM 32 th e0 bs (BLx th e0 f0 g0 (mv_a σ116 39) no ol _) f0 g0 ns9 (mv_si σ116 2 6 3) [] 1 1 s2
                        rw [a7]
                        exact hX2.fr rfl rfl rfl rfl rfl rfl rfl rfl rfl
                      have hI142 : TI (mv_si σ116 2 6 3) sz bd [] s2 a9 := hI2.up rfl (Nat.le_refl _) (Nat.le_refl _) hI2.2.2.2.2.2.2
                      have hb15 : (mv_i (mv_si σ116 2 6 3) 2 15).toInt = bl.length := by rw [i2 15 (by decide)]; exact hB2.2.1
                      have hBk : BkR (mv_a (mv_si σ116 2 6 3) 28) (mv_a (mv_si σ116 2 6 3) 29) (mv_a (mv_si σ116 2 6 3) 30) (mv_a (mv_si σ116 2 6 3) 31) g0 (mv_i (mv_si σ116 2 6 3) 13 7).toInt bl := by
                        show BkR (mv_a σ116 28) (mv_a σ116 29) (mv_a σ116 30) (mv_a σ116 31) g0 (mv_i σ116 13 7).toInt bl
                        rw [f116.2.1 28 (by decide), f116.2.1 29 (by decide), f116.2.1 30 (by decide), f116.2.1 31 (by decide), f116.1 13 7 (by decide)]
                        exact hB2.2.2.1
                      have hGl : Gl (mv_i (mv_si σ116 2 6 3) 2 7) bs bd bl.length (mv_i (mv_si σ116 2 6 3) 2 9).toInt n th (mv_i (mv_si σ116 2 6 3) 13 9).toInt := by
                        rw [i2 7 (by decide), i2 9 (by decide), show mv_i (mv_si σ116 2 6 3) 13 9 = mv_i τ 13 9 from f116.1 13 9 (by decide)]
                        exact hB2.2.2.2.2.1
                      have hGx : Gx (mv_i (mv_si σ116 2 6 3) 2 7) g0 (mv_i (mv_si σ116 2 6 3) 2 10) bl ol := by rw [i2 7 (by decide), i2 10 (by decide)]; exact hB2.2.2.2.2.2
                      have hgt2 : mv_i (mv_si σ116 2 6 3) 2 7 = 1 ∨ (0 ≤ (mv_i (mv_si σ116 2 6 3) 2 8).toInt ∧ (mv_i (mv_si σ116 2 6 3) 2 8).toInt < 32770) := by rw [i2 7 (by decide), i2 8 (by decide)]; exact hgt
                      have hn42 : mv_i (mv_si σ116 2 6 3) 2 7 = 1 ∨ mv_i (mv_si σ116 2 6 3) 2 7 = 2 ∨ mv_i (mv_si σ116 2 6 3) 2 7 = 3 → 2 * ns9 + 4 ≤ a9 := by rw [i2 7 (by decide)]; exact hn4
                      have hnc2 : no ≤ nCd (mv_a (mv_si σ116 2 6 3) 4) a9 := by show no ≤ nCd (mv_a σ116 4) a9; rw [f116.2.1 4 (by decide)]; exact hnc
                      refine mv_aload_n (pc := 141) B d_Weaver_weave_141 rfl 2 rfl ?_
                      refine mv_callVv (pc := 142) (n := 0) (ci := 1) (C := R_Weaver) B (mK_ok sk sv) hNs rfl rfl (c_Weaver_finish_a l hi _ hG142 hM142 hW142 hX142 hI142 hB2.1 hb15 hBk hB2.2.2.2.1 hGl hGx hgt2 hn2 hn42 hnc2) rfl (ma_goodc kc_Weaver_finish) (B.2.2.2.1 _ k_1522) (B.2.2.2.1 _ k_1524) (B.2.2.2.1 _ ks_65) (B.2.2.2.1 _ k_2) ⟨by decide +kernel, by decide +kernel, by decide +kernel⟩ rfl d_Weaver_weave_142 rfl (Nat.le_of_ble_eq_true rfl) ⟨by decide, by decide⟩ ⟨by decide, by decide⟩ ⟨by decide, by decide⟩ (mv_noH hno _) (fun σ142 h142 => ?_)
                      have go := j145 σ142 (by omega) ((hV.tr (WT.w (P := 32) f116.wt 6 3)).tr h142.1) h142.2.1 (h142.lq _ (by omega))
                      refine mv_lpick [1, 2] rfl ?_
                      exact go
                · skip
                  have hWE : WE 32 τ n sz th no a9 0 := by
                    rcases hWM with ⟨q, -⟩ | ⟨q, -⟩ | ⟨-, q⟩ | ⟨q, -⟩
                    · rw [h87] at q; exact absurd q (by decide)
                    · rw [h87] at q; exact absurd q (by decide)
                    · exact q
                    · rw [h87] at q; exact absurd q (by decide)
                  obtain ⟨e0, bs, bd, s9, ns9, f0, g0, bl, ol, ms, ⟨hX, hI⟩, hB2, hgt, hn2, hn4, hnc⟩ := hWE
                  have hbs := hB2.2.2.2.2.1.bs
                  have hB9 : SB 32 τ t len n z sz th sl := ⟨hG.1, hG.2.2.1, hW.1, hW.2.1⟩
                  refine mv_aload_n (pc := 90) B d_Weaver_weave_90 rfl 1 rfl ?_
                  refine mv_aload_n (pc := 91) B d_Weaver_weave_91 rfl 1 rfl ?_
                  refine mv_getR (pc := 92) (ci := 1) (C := R_Weaver) (T := F_Weaver) (N := 16) B 3 rfl rfl (by decide) i_Weaver (B.2.2.2.1 _ k_232) rfl (hR.1 _ 3 _ rfl) d_Weaver_weave_92 ?_
                  refine mv_callVi (pc := 95) (n := 0) (ci := 6) (C := R_Exprs) B (mK_ok sk sv) hNs rfl rfl (c_Exprs_operand_a l hi _ hB9 ht2 hX hI hG.2.2.2.2.1 hbs) rfl (ma_goodc kc_Exprs_operand) (B.2.2.2.1 _ k_1410) (B.2.2.2.1 _ k_1411) (B.2.2.2.1 _ k_1412) (B.2.2.2.1 _ k_7) ⟨by decide +kernel, by decide +kernel, by decide +kernel⟩ rfl d_Weaver_weave_95 rfl (Nat.le_of_ble_eq_true rfl) ⟨by decide, by decide⟩ ⟨by decide, by decide⟩ ⟨by decide, by decide⟩ (mv_noH hno _) (fun v95 σ95 h95 => ?_)
                  obtain ⟨f95, m95, v95z, d95⟩ := h95
                  have go := fun (mm : Int32) (hmm : (mm = 3 ∧ v95 = 1) ∨ (mm = 2 ∧ v95 = 0)) => j145 (mv_si σ95 2 6 mm) (by omega) (WT.w (P := 32) (hV.tr f95.wt) 6 mm) m95 ⟨th, sl, no, (hW.rf f95 hP).of hP (OF.w Fr.rf 6 mm), d95.elim Or.inl (fun q => by obtain ⟨ms2, s2, a2, q1, q2, q3⟩ := q; exact Or.inr (Or.inr ⟨a2, by omega, by rcases hmm with ⟨e1, e2⟩ | ⟨e1, e2⟩ <;> (subst e1; subst e2; first | exact Or.inr (Or.inr (Or.inr ⟨rfl, WE.next hP f95 3 q2 q3 (by omega) hB2 hgt hn2 hn4 hnc⟩)) | exact Or.inr (Or.inr (Or.inl ⟨rfl, WE.next hP f95 2 q2 q3 (by omega) hB2 hgt hn2 hn4 hnc⟩)))⟩))⟩
                  refine mv_if_eq (pc := 98) (tgt := 105) B d_Weaver_weave_98 rfl (fun h98 => ?_) (fun h98 => ?_)
                  · skip
                    have go := go 2 (Or.inr ⟨rfl, h98⟩)
                    refine mv_iconst (pc := 105) (v := 2) B d_Weaver_weave_105 (by decide) ?_
                    refine mv_putI (pc := 106) (ci := 1) (C := R_Weaver) (T := F_Weaver) (N := 16) B 6 rfl rfl (by decide) i_Weaver t_Weaver_ok n_Weaver (B.2.2.2.1 _ k_236) rfl rfl rfl rfl d_Weaver_weave_106 ?_
                    refine mv_goto (pc := 109) (tgt := 145) B d_Weaver_weave_109 rfl ?_
                    refine mv_lpick [0, 1] rfl ?_
                    exact go
                  · skip
                    have go := go 3 (Or.inl ⟨rfl, v95z.resolve_left h98⟩)
                    refine mv_iconst (pc := 101) (v := 3) B d_Weaver_weave_101 (by decide) ?_
                    refine mv_goto (pc := 102) (tgt := 106) B d_Weaver_weave_102 rfl ?_
                    refine mv_putI (pc := 106) (ci := 1) (C := R_Weaver) (T := F_Weaver) (N := 16) B 6 rfl rfl (by decide) i_Weaver t_Weaver_ok n_Weaver (B.2.2.2.1 _ k_236) rfl rfl rfl rfl d_Weaver_weave_106 ?_
                    refine mv_goto (pc := 109) (tgt := 145) B d_Weaver_weave_109 rfl ?_
                    refine mv_lpick [0, 1] rfl ?_
                    exact go
              · skip
                obtain ⟨s9, ns9, bl9, hne, hS0⟩ : ∃ s ns bl, ¬ bl = [] ∧ WS 32 τ sz th s a9 ns no bl := by
                  rcases hWM with ⟨q, -⟩ | ⟨-, q⟩ | ⟨q, -⟩ | ⟨q, -⟩
                  · rw [h72] at q; exact absurd q (by decide)
                  · exact q
                  · rw [h72] at q; exact absurd q (by decide)
                  · rw [h72] at q; exact absurd q (by decide)
                refine mv_aload_n (pc := 75) B d_Weaver_weave_75 rfl 1 rfl ?_
                refine mv_callVv (pc := 76) (n := 0) (ci := 1) (C := R_Weaver) B (mK_ok sk sv) hNs rfl rfl (c_Weaver_statement_a l hi _ hG hMt hW hS0 hne h72) rfl (ma_goodc kc_Weaver_statement) (B.2.2.2.1 _ k_1363) (B.2.2.2.1 _ k_1365) (B.2.2.2.1 _ ks_42) (B.2.2.2.1 _ k_2) ⟨by decide +kernel, by decide +kernel, by decide +kernel⟩ rfl d_Weaver_weave_76 rfl (Nat.le_of_ble_eq_true rfl) ⟨by decide, by decide⟩ ⟨by decide, by decide⟩ ⟨by decide, by decide⟩ (mv_noH hno _) (fun σ76 h76 => ?_)
                have go := j145 σ76 (by omega) (hV.tr h76.1) h76.2.1 (h76.lq _ (by omega))
                refine mv_goto (pc := 79) (tgt := 145) B d_Weaver_weave_79 rfl ?_
                refine mv_lpick [0, 1] rfl ?_
                exact go
            · skip
              obtain ⟨s9, ns9, hS0⟩ : ∃ s ns, WS 32 τ sz th s a9 ns no [] := by
                rcases hWM with ⟨-, q⟩ | ⟨q, -⟩ | ⟨q, -⟩ | ⟨q, -⟩
                · exact q
                · rw [h57] at q; exact absurd q (by decide)
                · rw [h57] at q; exact absurd q (by decide)
                · rw [h57] at q; exact absurd q (by decide)
              refine mv_aload_n (pc := 60) B d_Weaver_weave_60 rfl 1 rfl ?_
              refine mv_callVv (pc := 61) (n := 0) (ci := 1) (C := R_Weaver) B (mK_ok sk sv) hNs rfl rfl (c_Weaver_item_a l hi _ hG hMt hW hS0 h57) rfl (ma_goodc kc_Weaver_item) (B.2.2.2.1 _ k_1295) (B.2.2.2.1 _ k_1297) (B.2.2.2.1 _ ks_33) (B.2.2.2.1 _ k_2) ⟨by decide +kernel, by decide +kernel, by decide +kernel⟩ rfl d_Weaver_weave_61 rfl (Nat.le_of_ble_eq_true rfl) ⟨by decide, by decide⟩ ⟨by decide, by decide⟩ ⟨by decide, by decide⟩ (mv_noH hno _) (fun σ61 h61 => ?_)
              have go := j145 σ61 (by omega) (by rcases h61 with q | q; exact hV.tr q.1; rw [q]; exact hV.w 6 4) (by rcases h61 with q | q; exact q.2.1; rw [q]; exact hMt) (by rcases h61 with q | q; exact q.lq _ (by omega); rw [q]; exact ⟨th, sl, no, hW.of hP (OF.w Fr.rf 6 4), Or.inr (Or.inl ⟨rfl, s9, a9, ns9, hS0.fr hP rfl rfl rfl rfl rfl rfl rfl rfl rfl rfl rfl rfl (fun q => q)⟩)⟩)
              refine mv_goto (pc := 64) (tgt := 145) B d_Weaver_weave_64 rfl ?_
              refine mv_lpick [0, 1] rfl ?_
              exact go
  refine mv_aload_n (pc := 0) B d_Weaver_weave_0 rfl 0 rfl ?_
  refine mv_aload_n (pc := 1) B d_Weaver_weave_1 rfl 3 rfl ?_
  refine mv_callVv (pc := 2) (n := 1) (ci := 1) (C := R_Weaver) B (mK_ok sk sv) hNs rfl rfl (c_Weaver_begin_a l hi _ hm hq) rfl (ma_goodc kc_Weaver_begin) (B.2.2.2.1 _ k_780) (B.2.2.2.1 _ k_782) (B.2.2.2.1 _ ks_16) (B.2.2.2.1 _ k_2) ⟨by decide +kernel, by decide +kernel, by decide +kernel⟩ rfl d_Weaver_weave_2 rfl (Nat.le_of_ble_eq_true rfl) ⟨by decide, by decide⟩ ⟨by decide, by decide⟩ ⟨by decide, by decide⟩ (mv_noH hno _) (fun σ2 h2 => ?_)
  obtain ⟨e2, hR⟩ := h2
  subst e2
  have ett : mv_a (w_beg 32 σ) t = mv_a σ t := rfl
  refine mv_aload_n (pc := 5) B d_Weaver_weave_5 rfl 0 rfl ?_
  refine mv_getR (pc := 6) (ci := 1) (C := R_Weaver) (T := F_Weaver) (N := 16) B 0 rfl rfl (by decide) i_Weaver (B.2.2.2.1 _ k_228) rfl (hR.1 _ 0 _ rfl) d_Weaver_weave_6 ?_
  refine mv_aload_n (pc := 9) B d_Weaver_weave_9 rfl 1 rfl ?_
  refine mv_iload_n (pc := 10) B d_Weaver_weave_10 rfl 2 rfl ?_
  refine mv_callVv (pc := 11) (n := 2) (ci := 2) (C := R_Tokens) B (mK_ok sk sv) hNs rfl rfl (c_Tokens_cut l hi _ t tn len _ hR.1 hts ht2 hw hl1 hl2 (by rw [ett]; exact hby8) hk0 hp0 hb0) rfl (ma_goodc kc_Tokens_cut) (B.2.2.2.1 _ k_789) (B.2.2.2.1 _ k_790) (B.2.2.2.1 _ k_791) (B.2.2.2.1 _ k_3) ⟨by decide +kernel, by decide +kernel, by decide +kernel⟩ rfl d_Weaver_weave_11 rfl (Nat.le_of_ble_eq_true rfl) ⟨by decide, by decide⟩ ⟨by decide, by decide⟩ ⟨by decide, by decide⟩ (mv_noH hno _) (fun σ11 h11 => ?_)
  obtain ⟨g11, x11, t11, k11, i117, i118, i119⟩ := h11
  obtain ⟨n, z, sz, hSy, hTk, hs2, hs3, hs4, hs5, hs6⟩ := k11
  have hR : Rw 32 (mv_r σ11) := by rw [g11.2.2.2.2]; exact ⟨mh_sr hR.1 rfl, Ph_sr hP hR.2.1 (by omega), hR.2.2.1, hR.2.2.2⟩
  have i13 : ∀ k, mv_i σ11 13 k = mv_i σ 13 k := fun k => (g11.1 13 k (by omega)).trans (by show mv_i (w_beg 32 σ) 13 k = mv_i σ 13 k; rfl)
  have a19 : mv_a σ11 19 = mv_a σ 19 := g11.2.1 19 (by decide)
  have hNs11 : Ns σ11 := by unfold Ns; rw [i13, a19]; exact hNs0
  have iP : ∀ k, mv_i σ11 32 k = mv_i (w_beg 32 σ) 32 k := fun k => g11.1 32 k (by omega)
  have i2 : ∀ k, mv_i σ11 2 k = mv_i (w_beg 32 σ) 2 k := fun k => g11.1 2 k (by omega)
  refine mv_aload_n (pc := 14) B d_Weaver_weave_14 rfl 0 rfl ?_
  refine mv_getR (pc := 15) (ci := 1) (C := R_Weaver) (T := F_Weaver) (N := 16) B 1 rfl rfl (by decide) i_Weaver (B.2.2.2.1 _ k_229) rfl (hR.1 _ 1 _ rfl) d_Weaver_weave_15 ?_
  refine mv_callVv (pc := 18) (n := 0) (ci := 4) (C := R_Names) B (mK_ok sk sv) hNs rfl rfl (c_Names_clear l hi _ hR.1 n z hSy hNs11) rfl (ma_goodc kc_Names_clear) (B.2.2.2.1 _ k_944) (B.2.2.2.1 _ k_945) (B.2.2.2.1 _ k_946) (B.2.2.2.1 _ k_5) ⟨by decide +kernel, by decide +kernel, by decide +kernel⟩ rfl d_Weaver_weave_18 rfl (Nat.le_of_ble_eq_true rfl) ⟨by decide, by decide⟩ ⟨by decide, by decide⟩ ⟨by decide, by decide⟩ (mv_noH hno _) (fun σ18 h18 => ?_)
  obtain ⟨f18, n18, i187, i189⟩ := h18
  have hR : Rw 32 (mv_r σ18) := by rw [f18.2.2.2.2]; exact hR
  have v18 : WT 32 σ11 σ18 := f18.up (fun o k q => by omega) (fun o q => by omega) (fun o q => by omega)
  have hG11 : WG 32 32768 512 ext σ11 t tn len n z sz := ⟨by rw [← f18.2.2.2.2]; exact hR, x11, ⟨hSy, hTk, hs2, hs3, hs4, hs5⟩, hM9.elim Or.inl (fun q => Or.inr (by have : qc (mv_a σ11 t) len = qc (mv_a σ t) len := by { rw [t11]; rfl }; omega)), hlR, hl10⟩
  have hG18 := hG11.wt v18 hP
  have hF18 : VG 32 (w_base 32 t σ) σ18 := ((VG.beg 32 t σ).tr (g11.up (fun o k q => by omega) (fun o q => by omega) (fun o q => by omega))).tr v18.vg
  have hM18 : Mt (mv_a σ18 24) := by rw [f18.2.1 24 (by decide), g11.2.1 24 (by decide)]; exact hMt0
  have jP : ∀ k, mv_i σ18 32 k = mv_i (w_beg 32 σ) 32 k := fun k => (f18.1 32 k (by omega)).trans (iP k)
  have j2 : ∀ k, mv_i σ18 2 k = mv_i (w_beg 32 σ) 2 k := fun k => (f18.1 2 k (by omega)).trans (i2 k)
  have hW18 : WN 32 512 σ18 n 0 0 0 := ⟨fun y hy => by rw [n18 y hy]; exact ⟨fun q => absurd q (by decide), fun q => absurd q (by decide)⟩, ⟨by rw [jP]; rfl, by omega, by rw [jP]; rfl, by omega, by rw [jP]; show (0 : Int) ≤ (8 : Int32).toInt; decide, by rw [jP]; show (8 : Int32).toInt ≤ 64; decide, fun q hq => absurd hq (by omega), Or.inl ⟨by rw [jP]; show (-1 : Int32).toInt < 0; decide, by rw [jP]; show (-1 : Int32).toInt < 0; decide⟩⟩, ⟨by rw [i187]; decide, by rw [i187]; decide, fun i hi => by rw [i187] at hi; exact absurd hi (by show ¬ i < 0; omega)⟩, ⟨by rw [i187, i189]; decide, by rw [i189]; decide⟩, ⟨0, by rw [jP]; rfl, by omega, by omega⟩, by rw [jP]; rfl, by omega⟩
  have hK18 : KX 32 σ18 0 0 0 0 [] [] 0 True := ⟨⟨by rw [j2]; rfl, trivial, fun b hb => absurd hb List.not_mem_nil⟩, by rw [jP]; rfl, rfl, fun _ => ⟨trivial, fun _ => 0, fun _ => Nat.zero_le _, rfl, fun a q => absurd q (by omega), fun b hb => absurd hb List.not_mem_nil, fun j q => absurd q (by omega)⟩⟩
  have hm18 : mv_i σ18 2 6 = 0 := by rw [j2]; rfl
  have ht18 : (mv_i σ18 3 7).toInt = 1 := by rw [f18.1 3 7 (by decide), i117]; rfl
  have hd18 : (mv_i σ18 3 8).toInt = 0 := by rw [f18.1 3 8 (by decide), i118]; rfl
  refine mv_aload_n (pc := 21) B d_Weaver_weave_21 rfl 0 rfl ?_
  refine mv_callVv (pc := 22) (n := 0) (ci := 1) (C := R_Weaver) B (mK_ok sk sv) hNs rfl rfl (c_Weaver_readBits_a l hi _ hG18 hM18 hW18 rfl hK18 hm18 ht18 hd18) rfl (ma_goodc kc_Weaver_readBits) (B.2.2.2.1 _ k_1262) (B.2.2.2.1 _ k_1264) (B.2.2.2.1 _ ks_31) (B.2.2.2.1 _ k_2) ⟨by decide +kernel, by decide +kernel, by decide +kernel⟩ rfl d_Weaver_weave_22 rfl (Nat.le_of_ble_eq_true rfl) ⟨by decide, by decide⟩ ⟨by decide, by decide⟩ ⟨by decide, by decide⟩ (mv_noH hno _) (fun σ22 h22 => ?_)
  refine mv_iconst (pc := 25) (v := 0) B d_Weaver_weave_25 (by decide) ?_
  refine mv_istore (pc := 26) B d_Weaver_weave_26 (by decide) rfl ?_
  refine mv_lpick [0, 1] rfl ?_
  exact lp _ σ18 n z sz σ22 0 hG18 hF18 h22.1 h22.2.1 (by decide) (by decide) (h22.lq _ (by decide)) (Nat.lt_succ_self _)
set_option maxHeartbeats 4000000 in
set_option maxRecDepth 100000 in
theorem c_Weaver_weave_b (l : Launch) {dA : FieldType → ClassId} {D : va_G} {al : Nat → Nat} {ext : mv_Sh} {sk sv : Nat → Nat} (hi : mv_inj (mg dA D al ext)) (σ : mv_H) (t tn len : Nat) (w : Int32) (hm : mh (mv_r σ)) (hq : Ph 48 (mv_r σ)) (hts : (mb ++ ext)[t]? = some (.inr (.byte, tn))) (ht2 : t = 1 ∨ t = 144) (hw : w.toInt = len) (hl1 : len ≤ tn) (hl2 : tn ≤ 32768) (hby8 : ∀ i, i < tn → -128 ≤ (mv_a σ t i).toInt ∧ (mv_a σ t i).toInt ≤ 127) (hk0 : mv_a σ 4 0 = 0) (hp0 : 0 ≤ (mv_a σ 5 0).toInt) (hb0 : mv_b σ 6 0 = 0) (hNs0 : Ns σ) (hMt0 : Mt (mv_a σ 24)) (hlR : len ≤ 32768) (hl10 : len ≤ 10240) (hM9 : 512 = 512 ∨ qc (mv_a σ t) len ≤ 2 * 512) : mv_C l y_Weaver_weave (Cond.code y_Weaver_weave b_Weaver_weave 6 (Option.some Jvm.ClassFile.FieldType.boolean) :: ma) ({ frames := 7, cells := 0, slots := 0, locals := 176 }) (mg dA D al ext) (mK sk sv) [.ref (al 2), .ref (al t), .int w, .ref (al 48)] σ (mv_Ri (fun v σ1 => WV 48 32768 512 t σ v σ1)) := by
  refine mv_C.ofV (cc := b_Weaver_weave) (nL := 6) (ret := (Option.some Jvm.ClassFile.FieldType.boolean)) (by decide +kernel) rfl hi (Nat.le_of_ble_eq_true rfl) ?_
  intro p e s m below meth c B hNs hr hnm hno
  have hP : PQ 48 := by unfold PQ; omega
  have j183 : ∀ (ρ : mv_H) (n : Nat) (z : Nat) (sz : Nat) (υ : mv_H) (th : Nat) (sl : Nat) (no : Nat) (hG0 : WG 48 32768 512 ext ρ t tn len n z sz) (hF0 : VG 48 (w_base 48 t σ) ρ) (hV : WT 48 ρ υ) (hMt : Mt (mv_a υ 24)) (hW : WN 48 512 υ n th sl no) (hC : mv_i υ 21 0 = 0 → ∃ s9 a9 ns9, WS 48 υ sz th s9 a9 ns9 no []), mv_V p l e ({ frames := 7, cells := 0, slots := 0, locals := 176 }) s m ([.ref (al 2), .ref (al t), .int w, .ref (al 48)] : List Value).toArray below meth c (mg dA D al ext) 6 0 0 (mv_Q (mg dA D al ext) below s 0 0 (mv_Ri (fun v σ1 => WV 48 32768 512 t σ v σ1))) υ 183 [(0, .ref (al 2))] [] := by
    intro ρ n z sz υ th sl no hG0 hF0 hV hMt hW hC
    have hG := hG0.wt hV hP
    have hR := hG.1
    have hF := hF0.tr hV.vg
    have hnq := hW.2.2.2.2.2.1
    have hno2 := hW.2.2.2.2.2.2
    refine mv_aload_n (pc := 183) B d_Weaver_weave_183 rfl 0 rfl ?_
    refine mv_getR (pc := 184) (ci := 1) (C := R_Weaver) (T := F_Weaver) (N := 16) B 2 rfl rfl (by decide) i_Weaver (B.2.2.2.1 _ k_230) rfl (hR.1 _ 2 _ rfl) d_Weaver_weave_184 ?_
    refine mv_getI (pc := 187) (ci := 5) (C := R_Faults) (T := F_Faults) (N := 2) B 0 rfl rfl (by decide) i_Faults (B.2.2.2.1 _ k_178) rfl d_Weaver_weave_187 ?_
    refine mv_if_ne (pc := 190) (tgt := 200) B d_Weaver_weave_190 rfl (fun h190 => ?_) (fun h190 => ?_)
    · skip
      have hend := WV.bad (σ := σ) hG hMt hW hF
      refine mv_iconst (pc := 200) (v := 0) B d_Weaver_weave_200 (by decide) ?_
      exact mv_iret (pc := 201) B hr rfl d_Weaver_weave_201 (Nat.le_refl _) (Nat.le_refl _) ⟨_, rfl, by first | exact hend | exact hend⟩
    · skip
      obtain ⟨s9, a9, ns9, hS9⟩ := hC h190
      have hCo : CodeOK 48 32768 υ th := CodeOK.of (len := len) hS9 h190 hnq (hG.2.2.1.2.2.2.2.2) hG.2.2.2.2.1 hG.2.2.2.2.2
      refine mv_aload_n (pc := 193) B d_Weaver_weave_193 rfl 0 rfl ?_
      refine mv_callVi (pc := 194) (n := 0) (ci := 1) (C := R_Weaver) B (mK_ok sk sv) hNs rfl rfl (c_Weaver_areApart_b l hi _ hR no hnq hno2) rfl (ma_goodc kc_Weaver_areApart) (B.2.2.2.1 _ k_1540) (B.2.2.2.1 _ k_1542) (B.2.2.2.1 _ ks_68) (B.2.2.2.1 _ k_2) ⟨by decide +kernel, by decide +kernel, by decide +kernel⟩ rfl d_Weaver_weave_194 rfl (Nat.le_of_ble_eq_true rfl) ⟨by decide, by decide⟩ ⟨by decide, by decide⟩ ⟨by decide, by decide⟩ (mv_noH hno _) (fun v194 σ194 h194 => ?_)
      obtain ⟨f194, d194⟩ := h194
      refine mv_if_ne (pc := 197) (tgt := 202) B d_Weaver_weave_197 rfl (fun h197 => ?_) (fun h197 => ?_)
      · skip
        obtain ⟨-, e194⟩ := d194.resolve_left (fun q => h197 q.1)
        have e194 := e194.symm
        subst e194
        refine mv_aload_n (pc := 202) B d_Weaver_weave_202 rfl 0 rfl ?_
        refine mv_getR (pc := 203) (ci := 1) (C := R_Weaver) (T := F_Weaver) (N := 16) B 5 rfl rfl (by decide) i_Weaver (B.2.2.2.1 _ k_235) rfl hR.2.2.1 d_Weaver_weave_203 ?_
        refine mv_getR (pc := 206) (ci := 7) (C := R_Program) (T := F_Program) (N := 19) B 18 rfl rfl (by decide) i_Program (B.2.2.2.1 _ k_365) rfl (hR.2.1 _ 18 59 rfl) d_Weaver_weave_206 ?_
        refine mv_aload_n (pc := 209) B d_Weaver_weave_209 rfl 0 rfl ?_
        refine mv_getR (pc := 210) (ci := 1) (C := R_Weaver) (T := F_Weaver) (N := 16) B 5 rfl rfl (by decide) i_Weaver (B.2.2.2.1 _ k_235) rfl hR.2.2.1 d_Weaver_weave_210 ?_
        refine mv_callVv (pc := 213) (n := 1) (ci := 8) (C := R_Tree) B (mK_ok sk sv) hNs rfl rfl (c_Tree_grow_b l hi _ no hR.2.1 hnq hno2) rfl (ma_goodc kc_Tree_grow) (B.2.2.2.1 _ k_1548) (B.2.2.2.1 _ k_411) (B.2.2.2.1 _ k_412) (B.2.2.2.1 _ k_9) ⟨by decide +kernel, by decide +kernel, by decide +kernel⟩ rfl d_Weaver_weave_213 rfl (Nat.le_of_ble_eq_true rfl) ⟨by decide, by decide⟩ ⟨by decide, by decide⟩ ⟨by decide, by decide⟩ (mv_noH hno _) (fun σ213 h213 => ?_)
        obtain ⟨f213, k213⟩ := h213
        refine mv_iconst (pc := 216) (v := 1) B d_Weaver_weave_216 (by decide) ?_
        exact mv_iret (pc := 217) B hr rfl d_Weaver_weave_217 (Nat.le_refl _) (Nat.le_refl _) ⟨_, rfl, TreeOK.wv hP hG hMt hW hF hCo f213 k213⟩
      · skip
        obtain ⟨-, x9, y9, z9, q9⟩ := d194.resolve_right (fun q => by rw [h197] at q; exact absurd q.1 (by decide))
        have hend : WV 48 32768 512 t σ 0 σ194 := WV.bad (hG.wt f194 hP) (by rw [q9]; exact hMt) (by rw [q9]; exact (hW.tell hP _ _).of hP (OF.w Fr.rf 4 _)) (hF.tr f194.vg)
        refine mv_iconst (pc := 200) (v := 0) B d_Weaver_weave_200 (by decide) ?_
        exact mv_iret (pc := 201) B hr rfl d_Weaver_weave_201 (Nat.le_refl _) (Nat.le_refl _) ⟨_, rfl, by first | exact hend | exact hend⟩
  have j151 : ∀ (ρ : mv_H) (n : Nat) (z : Nat) (sz : Nat) (υ : mv_H) (th : Nat) (sl : Nat) (no : Nat) (hG0 : WG 48 32768 512 ext ρ t tn len n z sz) (hF0 : VG 48 (w_base 48 t σ) ρ) (hV : WT 48 ρ υ) (hMt : Mt (mv_a υ 24)) (hW : WN 48 512 υ n th sl no) (hE : 0 ≤ (mv_i υ 3 9).toInt ∨ ∃ s9 a9 ns9, WS 48 υ sz th s9 a9 ns9 no []), mv_V p l e ({ frames := 7, cells := 0, slots := 0, locals := 176 }) s m ([.ref (al 2), .ref (al t), .int w, .ref (al 48)] : List Value).toArray below meth c (mg dA D al ext) 6 0 0 (mv_Q (mg dA D al ext) below s 0 0 (mv_Ri (fun v σ1 => WV 48 32768 512 t σ v σ1))) υ 151 [(0, .ref (al 2))] [] := by
    intro ρ n z sz υ th sl no hG0 hF0 hV hMt hW hE
    have hG := hG0.wt hV hP
    have hR := hG.1
    refine mv_aload_n (pc := 151) B d_Weaver_weave_151 rfl 0 rfl ?_
    refine mv_getR (pc := 152) (ci := 1) (C := R_Weaver) (T := F_Weaver) (N := 16) B 0 rfl rfl (by decide) i_Weaver (B.2.2.2.1 _ k_228) rfl (hR.1 _ 0 _ rfl) d_Weaver_weave_152 ?_
    refine mv_callVi (pc := 155) (n := 0) (ci := 2) (C := R_Tokens) B (mK_ok sk sv) hNs rfl rfl (c_Tokens_right l hi _) rfl (ma_goodc kc_Tokens_right) (B.2.2.2.1 _ k_1291) (B.2.2.2.1 _ k_1292) (B.2.2.2.1 _ k_1293) (B.2.2.2.1 _ k_3) ⟨by decide +kernel, by decide +kernel, by decide +kernel⟩ rfl d_Weaver_weave_155 rfl (Nat.le_of_ble_eq_true rfl) ⟨by decide, by decide⟩ ⟨by decide, by decide⟩ ⟨by decide, by decide⟩ (mv_noH hno _) (fun v155 σ155 h155 => ?_)
    obtain ⟨e155, z155⟩ := h155
    have e155 := e155.symm
    subst e155
    refine mv_if_ne (pc := 158) (tgt := 183) B d_Weaver_weave_158 rfl (fun h158 => ?_) (fun h158 => ?_)
    · skip
      have hw : (mv_i υ 3 9).toInt < 0 := Decidable.byContradiction fun q => h158 (by rw [z155, if_neg (fun z => q (lt0.mp z))])
      have go := j183 ρ n z sz υ th sl no hG0 hF0 hV hMt hW (fun _ => hE.resolve_left (by omega))
      refine mv_lpick [0] rfl ?_
      exact go
    · skip
      refine mv_aload_n (pc := 161) B d_Weaver_weave_161 rfl 0 rfl ?_
      refine mv_getR (pc := 162) (ci := 1) (C := R_Weaver) (T := F_Weaver) (N := 16) B 2 rfl rfl (by decide) i_Weaver (B.2.2.2.1 _ k_230) rfl (hR.1 _ 2 _ rfl) d_Weaver_weave_162 ?_
      refine mv_callVv (pc := 165) (n := 0) (ci := 5) (C := R_Faults) B (mK_ok sk sv) hNs rfl rfl (c_Faults_clear l hi _) rfl (ma_goodc kc_Faults_clear) (B.2.2.2.1 _ k_785) (B.2.2.2.1 _ k_786) (B.2.2.2.1 _ k_787) (B.2.2.2.1 _ k_6) ⟨by decide +kernel, by decide +kernel, by decide +kernel⟩ rfl d_Weaver_weave_165 rfl (Nat.le_of_ble_eq_true rfl) ⟨by decide, by decide⟩ ⟨by decide, by decide⟩ ⟨by decide, by decide⟩ (mv_noH hno _) (fun σ165 h165 => ?_)
      subst h165
      refine mv_aload_n (pc := 168) B d_Weaver_weave_168 rfl 0 rfl ?_
      refine mv_getR (pc := 169) (ci := 1) (C := R_Weaver) (T := F_Weaver) (N := 16) B 2 rfl rfl (by decide) i_Weaver (B.2.2.2.1 _ k_230) rfl (hR.1 _ 2 _ rfl) d_Weaver_weave_169 ?_
      refine mv_aload_n (pc := 172) B d_Weaver_weave_172 rfl 0 rfl ?_
      refine mv_getR (pc := 173) (ci := 1) (C := R_Weaver) (T := F_Weaver) (N := 16) B 0 rfl rfl (by decide) i_Weaver (B.2.2.2.1 _ k_228) rfl (hR.1 _ 0 _ rfl) d_Weaver_weave_173 ?_
      refine mv_getI (pc := 176) (ci := 2) (C := R_Tokens) (T := F_Tokens) (N := 10) B 9 rfl rfl (by decide) i_Tokens (B.2.2.2.1 _ k_106) rfl d_Weaver_weave_176 ?_
      refine mv_iconst (pc := 179) (v := 1) B d_Weaver_weave_179 (by decide) ?_
      refine mv_callVv (pc := 180) (n := 2) (ci := 5) (C := R_Faults) B (mK_ok sk sv) hNs rfl rfl (c_Faults_tell l hi _ _ _) rfl (ma_goodc kc_Faults_tell) (B.2.2.2.1 _ k_1286) (B.2.2.2.1 _ k_1287) (B.2.2.2.1 _ k_1288) (B.2.2.2.1 _ k_6) ⟨by decide +kernel, by decide +kernel, by decide +kernel⟩ rfl d_Weaver_weave_180 rfl (Nat.le_of_ble_eq_true rfl) ⟨by decide, by decide⟩ ⟨by decide, by decide⟩ ⟨by decide, by decide⟩ (mv_noH hno _) (fun σ180 h180 => ?_)
      obtain ⟨x9, y9, e180, z180⟩ := tell_n (b := 1) (by decide) h180
      subst e180
      have go := j183 ρ n z sz (ex_tell (mv_si (mv_si υ 21 0 0) 21 1 (-1)) x9 y9) th sl no hG0 hF0 ((hV.tell 0 (-1)).tell x9 y9) hMt ((hW.tell hP 0 (-1)).tell hP x9 y9) (fun q => absurd q z180)
      refine mv_lpick [0] rfl ?_
      exact go
  have lp : ∀ (nn : Nat) (ρ : mv_H) (n : Nat) (z : Nat) (sz : Nat) (τ : mv_H) (tt : Int32) (hG0 : WG 48 32768 512 ext ρ t tn len n z sz) (hF0 : VG 48 (w_base 48 t σ) ρ) (hV : WT 48 ρ τ) (hMt : Mt (mv_a τ 24)) (q0 : 0 ≤ tt.toInt) (q1 : tt.toInt ≤ 131072) (hL0 : LQ 48 512 τ n sz tt.toInt), (131072 - tt.toInt).toNat < nn → mv_V p l e ({ frames := 7, cells := 0, slots := 0, locals := 176 }) s m ([.ref (al 2), .ref (al t), .int w, .ref (al 48)] : List Value).toArray below meth c (mg dA D al ext) 6 0 0 (mv_Q (mg dA D al ext) below s 0 0 (mv_Ri (fun v σ1 => WV 48 32768 512 t σ v σ1))) τ 28 [(4, .int tt), (0, .ref (al 2))] [] := by
    intro nn
    induction nn with
    | zero => intro ρ n z sz τ tt hG0 hF0 hV hMt q0 q1 hL0 hm; exact absurd hm (Nat.not_lt_zero _)
    | succ nn ih =>
      intro ρ n z sz τ tt hG0 hF0 hV hMt q0 q1 hL0 hm
      have hG := hG0.wt hV hP
      have hR := hG.1
      have ht2 := hG.2.1.2.2.2.2.2.2
      obtain ⟨th, sl, no, hW, hL⟩ := hL0
      have hszz := hG.2.2.1.2.2.2.1
      have j145 : ∀ (υ : mv_H) (h31 : tt.toInt < 131072) (wV : WT 48 ρ υ) (wM : Mt (mv_a υ 24)) (wL : LQ 48 512 υ n sz (tt.toInt + 1)), mv_V p l e ({ frames := 7, cells := 0, slots := 0, locals := 176 }) s m ([.ref (al 2), .ref (al t), .int w, .ref (al 48)] : List Value).toArray below meth c (mg dA D al ext) 6 0 0 (mv_Q (mg dA D al ext) below s 0 0 (mv_Ri (fun v σ1 => WV 48 32768 512 t σ v σ1))) υ 145 [(4, .int tt), (0, .ref (al 2))] [] := by
        intro υ h31 wV wM wL
        have t2 : (tt + 1).toInt = tt.toInt + 1 := i32_inc (by omega)
        have go := ih ρ n z sz υ (tt + 1) hG0 hF0 wV wM (by omega) (by omega) (by rw [t2]; exact wL) (by omega)
        refine mv_iinc (pc := 145) (j := 0) (v := 1) B d_Weaver_weave_145 rfl (by decide) (by decide) rfl ?_
        refine mv_goto (pc := 148) (tgt := 28) B d_Weaver_weave_148 rfl ?_
        refine mv_lpick [0, 1] rfl ?_
        exact go
      refine mv_iload (pc := 28) B d_Weaver_weave_28 0 rfl ?_
      refine mv_ldc (pc := 30) (v := 131072) B (B.2.2.2.1 _ k_1290) d_Weaver_weave_30 ?_
      refine mv_icmp_ge (pc := 32) (tgt := 151) B d_Weaver_weave_32 rfl (fun h32 => ?_) (fun h32 => ?_)
      · skip
        rw [Int32.le_iff_toInt_le] at h32
        have h32 : (131072 : Int) ≤ tt.toInt := h32
        have go := j151 ρ n z sz τ th sl no hG0 hF0 hV hMt hW (hL.elim Or.inl (fun q => q.elim (fun q => Or.inr q.2) (fun q => by obtain ⟨a9, q1, q2⟩ := q; have := q2.lt.1; omega)))
        refine mv_lpick [1] rfl ?_
        exact go
      · skip
        rw [Int32.le_iff_toInt_le] at h32
        have h32 : ¬ (131072 : Int) ≤ tt.toInt := h32
        have t2 : (tt + 1).toInt = tt.toInt + 1 := i32_inc (by omega)
        refine mv_aload_n (pc := 35) B d_Weaver_weave_35 rfl 1 rfl ?_
        refine mv_getI (pc := 36) (ci := 1) (C := R_Weaver) (T := F_Weaver) (N := 16) B 6 rfl rfl (by decide) i_Weaver (B.2.2.2.1 _ k_236) rfl d_Weaver_weave_36 ?_
        refine mv_iconst (pc := 39) (v := 4) B d_Weaver_weave_39 (by decide) ?_
        refine mv_icmp_eq (pc := 40) (tgt := 151) B d_Weaver_weave_40 rfl (fun h40 => ?_) (fun h40 => ?_)
        · skip
          have go := j151 ρ n z sz τ th sl no hG0 hF0 hV hMt hW (hL.elim Or.inl (fun q => q.elim (fun q => Or.inr q.2) (fun q => by obtain ⟨a9, q1, q2⟩ := q; rcases q2 with ⟨q2, -⟩ | ⟨q2, -⟩ | ⟨q2, -⟩ | ⟨q2, -⟩ <;> (rw [h40] at q2; exact absurd q2 (by decide)))))
          refine mv_lpick [1] rfl ?_
          exact go
        · skip
          refine mv_aload_n (pc := 43) B d_Weaver_weave_43 rfl 1 rfl ?_
          refine mv_getR (pc := 44) (ci := 1) (C := R_Weaver) (T := F_Weaver) (N := 16) B 0 rfl rfl (by decide) i_Weaver (B.2.2.2.1 _ k_228) rfl (hR.1 _ 0 _ rfl) d_Weaver_weave_44 ?_
          refine mv_callVi (pc := 47) (n := 0) (ci := 2) (C := R_Tokens) B (mK_ok sk sv) hNs rfl rfl (c_Tokens_right l hi _) rfl (ma_goodc kc_Tokens_right) (B.2.2.2.1 _ k_1291) (B.2.2.2.1 _ k_1292) (B.2.2.2.1 _ k_1293) (B.2.2.2.1 _ k_3) ⟨by decide +kernel, by decide +kernel, by decide +kernel⟩ rfl d_Weaver_weave_47 rfl (Nat.le_of_ble_eq_true rfl) ⟨by decide, by decide⟩ ⟨by decide, by decide⟩ ⟨by decide, by decide⟩ (mv_noH hno _) (fun v47 σ47 h47 => ?_)
          obtain ⟨e47, z47⟩ := h47
          have e47 := e47.symm
          subst e47
          refine mv_if_eq (pc := 50) (tgt := 151) B d_Weaver_weave_50 rfl (fun h50 => ?_) (fun h50 => ?_)
          · skip
            have hw : ¬ (mv_i τ 3 9).toInt < 0 := fun q => by rw [if_pos (lt0.mpr q)] at z47; rw [z47] at h50; exact absurd h50 (by decide)
            have go := j151 ρ n z sz τ th sl no hG0 hF0 hV hMt hW (Or.inl (by omega))
            refine mv_lpick [1] rfl ?_
            exact go
          · skip
            have hw : (mv_i τ 3 9).toInt < 0 := Decidable.byContradiction fun q => h50 (by rw [z47, if_neg (fun z => q (lt0.mp z))])
            obtain ⟨a9, hta, hWM⟩ := (hL.resolve_left (by omega)).resolve_left (fun q => h40 q.1)
            have hal := hWM.lt
            refine mv_aload_n (pc := 53) B d_Weaver_weave_53 rfl 1 rfl ?_
            refine mv_getI (pc := 54) (ci := 1) (C := R_Weaver) (T := F_Weaver) (N := 16) B 6 rfl rfl (by decide) i_Weaver (B.2.2.2.1 _ k_236) rfl d_Weaver_weave_54 ?_
            refine mv_if_ne (pc := 57) (tgt := 67) B d_Weaver_weave_57 rfl (fun h57 => ?_) (fun h57 => ?_)
            · skip
              refine mv_aload_n (pc := 67) B d_Weaver_weave_67 rfl 1 rfl ?_
              refine mv_getI (pc := 68) (ci := 1) (C := R_Weaver) (T := F_Weaver) (N := 16) B 6 rfl rfl (by decide) i_Weaver (B.2.2.2.1 _ k_236) rfl d_Weaver_weave_68 ?_
              refine mv_iconst (pc := 71) (v := 1) B d_Weaver_weave_71 (by decide) ?_
              refine mv_icmp_ne (pc := 72) (tgt := 82) B d_Weaver_weave_72 rfl (fun h72 => ?_) (fun h72 => ?_)
              · skip
                refine mv_aload_n (pc := 82) B d_Weaver_weave_82 rfl 1 rfl ?_
                refine mv_getI (pc := 83) (ci := 1) (C := R_Weaver) (T := F_Weaver) (N := 16) B 6 rfl rfl (by decide) i_Weaver (B.2.2.2.1 _ k_236) rfl d_Weaver_weave_83 ?_
                refine mv_iconst (pc := 86) (v := 2) B d_Weaver_weave_86 (by decide) ?_
                refine mv_icmp_ne (pc := 87) (tgt := 112) B d_Weaver_weave_87 rfl (fun h87 => ?_) (fun h87 => ?_)
                · skip
                  have hWE : WE 48 τ n sz th no a9 1 := by
                    rcases hWM with ⟨q, -⟩ | ⟨q, -⟩ | ⟨q, -⟩ | ⟨-, q⟩
                    · exact absurd q h57
                    · exact absurd q h72
                    · exact absurd q h87
                    · exact q
                  obtain ⟨e0, bs, bd, s9, ns9, f0, g0, bl, ol, ms, ⟨hX, hI⟩, hB2, hgt, hn2, hn4, hnc⟩ := hWE
                  have hbs := hB2.2.2.2.2.1.bs
                  have hB9 : SB 48 τ t len n z sz th sl := ⟨hG.1, hG.2.2.1, hW.1, hW.2.1⟩
                  refine mv_aload_n (pc := 112) B d_Weaver_weave_112 rfl 1 rfl ?_
                  refine mv_getR (pc := 113) (ci := 1) (C := R_Weaver) (T := F_Weaver) (N := 16) B 3 rfl rfl (by decide) i_Weaver (B.2.2.2.1 _ k_232) rfl (hR.1 _ 3 _ rfl) d_Weaver_weave_113 ?_
                  refine mv_callVi (pc := 116) (n := 0) (ci := 6) (C := R_Exprs) B (mK_ok sk sv) hNs rfl rfl (c_Exprs_after_b l hi _ hB9 ht2 hX hI hG.2.2.2.2.1 hbs) rfl (ma_goodc kc_Exprs_after) (B.2.2.2.1 _ k_1460) (B.2.2.2.1 _ k_1461) (B.2.2.2.1 _ k_1462) (B.2.2.2.1 _ k_7) ⟨by decide +kernel, by decide +kernel, by decide +kernel⟩ rfl d_Weaver_weave_116 rfl (Nat.le_of_ble_eq_true rfl) ⟨by decide, by decide⟩ ⟨by decide, by decide⟩ ⟨by decide, by decide⟩ (mv_noH hno _) (fun v116 σ116 h116 => ?_)
                  obtain ⟨f116, m116, d116⟩ := h116
                  refine mv_istore (pc := 119) B d_Weaver_weave_119 (by decide) rfl ?_
                  refine mv_aload_n (pc := 121) B d_Weaver_weave_121 rfl 2 rfl ?_
                  refine mv_iload (pc := 122) B d_Weaver_weave_122 0 rfl ?_
                  refine mv_if_ne (pc := 124) (tgt := 131) B d_Weaver_weave_124 rfl (fun h124 => ?_) (fun h124 => ?_)
                  · skip
                    refine mv_iconst (pc := 131) (v := 3) B d_Weaver_weave_131 (by decide) ?_
                    refine mv_putI (pc := 132) (ci := 1) (C := R_Weaver) (T := F_Weaver) (N := 16) B 6 rfl rfl (by decide) i_Weaver t_Weaver_ok n_Weaver (B.2.2.2.1 _ k_236) rfl rfl rfl rfl d_Weaver_weave_132 ?_
                    refine mv_gen (fun S135 eS135 => ?_)
                    have hmm : ¬ v116 = 0 → S135 = mv_si σ116 2 6 3 := by first | exact fun _ => eS135 | exact fun q => absurd h124 q
                    have hm0 : v116 = 0 → S135 = mv_si σ116 2 6 2 := by first | exact fun _ => eS135 | exact fun q => absurd q h124
                    have go1 : ¬ v116 = 2 → mv_V p l e ({ frames := 7, cells := 0, slots := 0, locals := 176 }) s m ([.ref (al 2), .ref (al t), .int w, .ref (al 48)] : List Value).toArray below meth c (mg dA D al ext) 6 0 0 (mv_Q (mg dA D al ext) below s 0 0 (mv_Ri (fun v σ1 => WV 48 32768 512 t σ v σ1))) S135 145 [(4, .int tt), (0, .ref (al 2))] [] := by
                      intro q2
                      have d1 := d116.resolve_left (fun q => q2 q.1)
                      by_cases q0 : v116 = 0
                      · rw [hm0 q0]
                        rw [q0] at d1
                        exact j145 (mv_si σ116 2 6 2) (by omega) (WT.w (P := 48) (hV.tr f116.wt) 6 2) m116 ⟨th, sl, no, (hW.rf f116 hP).of hP (OF.w Fr.rf 6 2), d1.2.elim Or.inl (fun q => by obtain ⟨ms2, s2, a2, q1, q2, q3⟩ := q; exact Or.inr (Or.inr ⟨a2, by omega, Or.inr (Or.inr (Or.inl ⟨rfl, WE.next hP f116 2 q2 q3 (by omega) hB2 hgt hn2 hn4 hnc⟩))⟩))⟩
                      · rw [hmm q0]
                        rw [d1.1.resolve_left q0] at d1
                        exact j145 (mv_si σ116 2 6 3) (by omega) (WT.w (P := 48) (hV.tr f116.wt) 6 3) m116 ⟨th, sl, no, (hW.rf f116 hP).of hP (OF.w Fr.rf 6 3), d1.2.elim Or.inl (fun q => by obtain ⟨ms2, s2, a2, q1, q2, q3⟩ := q; exact Or.inr (Or.inr ⟨a2, by omega, Or.inr (Or.inr (Or.inr ⟨rfl, WE.next hP f116 3 q2 q3 (by omega) hB2 hgt hn2 hn4 hnc⟩))⟩))⟩
                    clear eS135
                    refine mv_iload (pc := 135) B d_Weaver_weave_135 0 rfl ?_
                    refine mv_iconst (pc := 137) (v := 2) B d_Weaver_weave_137 (by decide) ?_
                    refine mv_icmp_ne (pc := 138) (tgt := 145) B d_Weaver_weave_138 rfl (fun h138 => ?_) (fun h138 => ?_)
                    · skip
                      have go := go1 h138
                      refine mv_lpick [1, 2] rfl ?_
                      exact go
                    · skip
                      have e135 := hmm (by rw [h138]; decide)
                      subst e135
                      have hG142 := hG.wt (WT.w (P := 48) f116.wt 6 3) hP
                      have hM142 : Mt (mv_a (mv_si σ116 2 6 3) 24) := m116
                      have hW142 := (hW.rf f116 hP).of hP (OF.w Fr.rf 6 3)
                      have i2 : ∀ k, k ≠ 6 → mv_i (mv_si σ116 2 6 3) 2 k = mv_i τ 2 k := fun k q => (ri_ne (by omega)).trans (f116.1 2 k (by omega))
                      have a7 : mv_a σ116 55 = mv_a τ 55 := f116.2.1 _ (by decide)
                      obtain ⟨-, s2, hX2, hI2⟩ := d116.resolve_right (fun q => by rw [h138] at q; exact absurd q.1 (by decide))
                      have hX142 : XM 48 th e0 bs (BLx th e0 f0 g0 (mv_a (mv_si σ116 2 6 3) 55) no ol (mv_i (mv_si σ116 2 6 3) 2 7 = 4 ∨ 0 ≤ (mv_i (mv_si σ116 2 6 3) 2 9).toInt)) f0 g0 ns9 (mv_si σ116 2 6 3) [] 1 1 s2 := by
                        rw [i2 7 (by decide), i2 9 (by decide)]
                        show XM 48 th e0 bs (BLx th e0 f0 g0 (mv_a σ116 55) no ol _) f0 g0 ns9 (mv_si σ116 2 6 3) [] 1 1 s2
                        rw [a7]
                        exact hX2.fr rfl rfl rfl rfl rfl rfl rfl rfl rfl
                      have hI142 : TI (mv_si σ116 2 6 3) sz bd [] s2 a9 := hI2.up rfl (Nat.le_refl _) (Nat.le_refl _) hI2.2.2.2.2.2.2
                      have hb15 : (mv_i (mv_si σ116 2 6 3) 2 15).toInt = bl.length := by rw [i2 15 (by decide)]; exact hB2.2.1
                      have hBk : BkR (mv_a (mv_si σ116 2 6 3) 28) (mv_a (mv_si σ116 2 6 3) 29) (mv_a (mv_si σ116 2 6 3) 30) (mv_a (mv_si σ116 2 6 3) 31) g0 (mv_i (mv_si σ116 2 6 3) 13 7).toInt bl := by
                        show BkR (mv_a σ116 28) (mv_a σ116 29) (mv_a σ116 30) (mv_a σ116 31) g0 (mv_i σ116 13 7).toInt bl
                        rw [f116.2.1 28 (by decide), f116.2.1 29 (by decide), f116.2.1 30 (by decide), f116.2.1 31 (by decide), f116.1 13 7 (by decide)]
                        exact hB2.2.2.1
                      have hGl : Gl (mv_i (mv_si σ116 2 6 3) 2 7) bs bd bl.length (mv_i (mv_si σ116 2 6 3) 2 9).toInt n th (mv_i (mv_si σ116 2 6 3) 13 9).toInt := by
                        rw [i2 7 (by decide), i2 9 (by decide), show mv_i (mv_si σ116 2 6 3) 13 9 = mv_i τ 13 9 from f116.1 13 9 (by decide)]
                        exact hB2.2.2.2.2.1
                      have hGx : Gx (mv_i (mv_si σ116 2 6 3) 2 7) g0 (mv_i (mv_si σ116 2 6 3) 2 10) bl ol := by rw [i2 7 (by decide), i2 10 (by decide)]; exact hB2.2.2.2.2.2
                      have hgt2 : mv_i (mv_si σ116 2 6 3) 2 7 = 1 ∨ (0 ≤ (mv_i (mv_si σ116 2 6 3) 2 8).toInt ∧ (mv_i (mv_si σ116 2 6 3) 2 8).toInt < 32770) := by rw [i2 7 (by decide), i2 8 (by decide)]; exact hgt
                      have hn42 : mv_i (mv_si σ116 2 6 3) 2 7 = 1 ∨ mv_i (mv_si σ116 2 6 3) 2 7 = 2 ∨ mv_i (mv_si σ116 2 6 3) 2 7 = 3 → 2 * ns9 + 4 ≤ a9 := by rw [i2 7 (by decide)]; exact hn4
                      have hnc2 : no ≤ nCd (mv_a (mv_si σ116 2 6 3) 4) a9 := by show no ≤ nCd (mv_a σ116 4) a9; rw [f116.2.1 4 (by decide)]; exact hnc
                      refine mv_aload_n (pc := 141) B d_Weaver_weave_141 rfl 2 rfl ?_
                      refine mv_callVv (pc := 142) (n := 0) (ci := 1) (C := R_Weaver) B (mK_ok sk sv) hNs rfl rfl (c_Weaver_finish_b l hi _ hG142 hM142 hW142 hX142 hI142 hB2.1 hb15 hBk hB2.2.2.2.1 hGl hGx hgt2 hn2 hn42 hnc2) rfl (ma_goodc kc_Weaver_finish) (B.2.2.2.1 _ k_1522) (B.2.2.2.1 _ k_1524) (B.2.2.2.1 _ ks_65) (B.2.2.2.1 _ k_2) ⟨by decide +kernel, by decide +kernel, by decide +kernel⟩ rfl d_Weaver_weave_142 rfl (Nat.le_of_ble_eq_true rfl) ⟨by decide, by decide⟩ ⟨by decide, by decide⟩ ⟨by decide, by decide⟩ (mv_noH hno _) (fun σ142 h142 => ?_)
                      have go := j145 σ142 (by omega) ((hV.tr (WT.w (P := 48) f116.wt 6 3)).tr h142.1) h142.2.1 (h142.lq _ (by omega))
                      refine mv_lpick [1, 2] rfl ?_
                      exact go
                  · skip
                    refine mv_iconst (pc := 127) (v := 2) B d_Weaver_weave_127 (by decide) ?_
                    refine mv_goto (pc := 128) (tgt := 132) B d_Weaver_weave_128 rfl ?_
                    refine mv_putI (pc := 132) (ci := 1) (C := R_Weaver) (T := F_Weaver) (N := 16) B 6 rfl rfl (by decide) i_Weaver t_Weaver_ok n_Weaver (B.2.2.2.1 _ k_236) rfl rfl rfl rfl d_Weaver_weave_132 ?_
                    refine mv_gen (fun S135 eS135 => ?_)
                    have hmm : ¬ v116 = 0 → S135 = mv_si σ116 2 6 3 := by first | exact fun _ => eS135 | exact fun q => absurd h124 q
                    have hm0 : v116 = 0 → S135 = mv_si σ116 2 6 2 := by first | exact fun _ => eS135 | exact fun q => absurd q h124
                    have go1 : ¬ v116 = 2 → mv_V p l e ({ frames := 7, cells := 0, slots := 0, locals := 176 }) s m ([.ref (al 2), .ref (al t), .int w, .ref (al 48)] : List Value).toArray below meth c (mg dA D al ext) 6 0 0 (mv_Q (mg dA D al ext) below s 0 0 (mv_Ri (fun v σ1 => WV 48 32768 512 t σ v σ1))) S135 145 [(4, .int tt), (0, .ref (al 2))] [] := by
                      intro q2
                      have d1 := d116.resolve_left (fun q => q2 q.1)
                      by_cases q0 : v116 = 0
                      · rw [hm0 q0]
                        rw [q0] at d1
                        exact j145 (mv_si σ116 2 6 2) (by omega) (WT.w (P := 48) (hV.tr f116.wt) 6 2) m116 ⟨th, sl, no, (hW.rf f116 hP).of hP (OF.w Fr.rf 6 2), d1.2.elim Or.inl (fun q => by obtain ⟨ms2, s2, a2, q1, q2, q3⟩ := q; exact Or.inr (Or.inr ⟨a2, by omega, Or.inr (Or.inr (Or.inl ⟨rfl, WE.next hP f116 2 q2 q3 (by omega) hB2 hgt hn2 hn4 hnc⟩))⟩))⟩
                      · rw [hmm q0]
                        rw [d1.1.resolve_left q0] at d1
                        exact j145 (mv_si σ116 2 6 3) (by omega) (WT.w (P := 48) (hV.tr f116.wt) 6 3) m116 ⟨th, sl, no, (hW.rf f116 hP).of hP (OF.w Fr.rf 6 3), d1.2.elim Or.inl (fun q => by obtain ⟨ms2, s2, a2, q1, q2, q3⟩ := q; exact Or.inr (Or.inr ⟨a2, by omega, Or.inr (Or.inr (Or.inr ⟨rfl, WE.next hP f116 3 q2 q3 (by omega) hB2 hgt hn2 hn4 hnc⟩))⟩))⟩
                    clear eS135
                    refine mv_iload (pc := 135) B d_Weaver_weave_135 0 rfl ?_
                    refine mv_iconst (pc := 137) (v := 2) B d_Weaver_weave_137 (by decide) ?_
                    refine mv_icmp_ne (pc := 138) (tgt := 145) B d_Weaver_weave_138 rfl (fun h138 => ?_) (fun h138 => ?_)
                    · skip
                      have go := go1 h138
                      refine mv_lpick [1, 2] rfl ?_
                      exact go
                    · skip
                      have e135 := hmm (by rw [h138]; decide)
                      subst e135
                      have hG142 := hG.wt (WT.w (P := 48) f116.wt 6 3) hP
                      have hM142 : Mt (mv_a (mv_si σ116 2 6 3) 24) := m116
                      have hW142 := (hW.rf f116 hP).of hP (OF.w Fr.rf 6 3)
                      have i2 : ∀ k, k ≠ 6 → mv_i (mv_si σ116 2 6 3) 2 k = mv_i τ 2 k := fun k q => (ri_ne (by omega)).trans (f116.1 2 k (by omega))
                      have a7 : mv_a σ116 55 = mv_a τ 55 := f116.2.1 _ (by decide)
                      obtain ⟨-, s2, hX2, hI2⟩ := d116.resolve_right (fun q => by rw [h138] at q; exact absurd q.1 (by decide))
                      have hX142 : XM 48 th e0 bs (BLx th e0 f0 g0 (mv_a (mv_si σ116 2 6 3) 55) no ol (mv_i (mv_si σ116 2 6 3) 2 7 = 4 ∨ 0 ≤ (mv_i (mv_si σ116 2 6 3) 2 9).toInt)) f0 g0 ns9 (mv_si σ116 2 6 3) [] 1 1 s2 := by
                        rw [i2 7 (by decide), i2 9 (by decide)]
                        show XM 48 th e0 bs (BLx th e0 f0 g0 (mv_a σ116 55) no ol _) f0 g0 ns9 (mv_si σ116 2 6 3) [] 1 1 s2
                        rw [a7]
                        exact hX2.fr rfl rfl rfl rfl rfl rfl rfl rfl rfl
                      have hI142 : TI (mv_si σ116 2 6 3) sz bd [] s2 a9 := hI2.up rfl (Nat.le_refl _) (Nat.le_refl _) hI2.2.2.2.2.2.2
                      have hb15 : (mv_i (mv_si σ116 2 6 3) 2 15).toInt = bl.length := by rw [i2 15 (by decide)]; exact hB2.2.1
                      have hBk : BkR (mv_a (mv_si σ116 2 6 3) 28) (mv_a (mv_si σ116 2 6 3) 29) (mv_a (mv_si σ116 2 6 3) 30) (mv_a (mv_si σ116 2 6 3) 31) g0 (mv_i (mv_si σ116 2 6 3) 13 7).toInt bl := by
                        show BkR (mv_a σ116 28) (mv_a σ116 29) (mv_a σ116 30) (mv_a σ116 31) g0 (mv_i σ116 13 7).toInt bl
                        rw [f116.2.1 28 (by decide), f116.2.1 29 (by decide), f116.2.1 30 (by decide), f116.2.1 31 (by decide), f116.1 13 7 (by decide)]
                        exact hB2.2.2.1
                      have hGl : Gl (mv_i (mv_si σ116 2 6 3) 2 7) bs bd bl.length (mv_i (mv_si σ116 2 6 3) 2 9).toInt n th (mv_i (mv_si σ116 2 6 3) 13 9).toInt := by
                        rw [i2 7 (by decide), i2 9 (by decide), show mv_i (mv_si σ116 2 6 3) 13 9 = mv_i τ 13 9 from f116.1 13 9 (by decide)]
                        exact hB2.2.2.2.2.1
                      have hGx : Gx (mv_i (mv_si σ116 2 6 3) 2 7) g0 (mv_i (mv_si σ116 2 6 3) 2 10) bl ol := by rw [i2 7 (by decide), i2 10 (by decide)]; exact hB2.2.2.2.2.2
                      have hgt2 : mv_i (mv_si σ116 2 6 3) 2 7 = 1 ∨ (0 ≤ (mv_i (mv_si σ116 2 6 3) 2 8).toInt ∧ (mv_i (mv_si σ116 2 6 3) 2 8).toInt < 32770) := by rw [i2 7 (by decide), i2 8 (by decide)]; exact hgt
                      have hn42 : mv_i (mv_si σ116 2 6 3) 2 7 = 1 ∨ mv_i (mv_si σ116 2 6 3) 2 7 = 2 ∨ mv_i (mv_si σ116 2 6 3) 2 7 = 3 → 2 * ns9 + 4 ≤ a9 := by rw [i2 7 (by decide)]; exact hn4
                      have hnc2 : no ≤ nCd (mv_a (mv_si σ116 2 6 3) 4) a9 := by show no ≤ nCd (mv_a σ116 4) a9; rw [f116.2.1 4 (by decide)]; exact hnc
                      refine mv_aload_n (pc := 141) B d_Weaver_weave_141 rfl 2 rfl ?_
                      refine mv_callVv (pc := 142) (n := 0) (ci := 1) (C := R_Weaver) B (mK_ok sk sv) hNs rfl rfl (c_Weaver_finish_b l hi _ hG142 hM142 hW142 hX142 hI142 hB2.1 hb15 hBk hB2.2.2.2.1 hGl hGx hgt2 hn2 hn42 hnc2) rfl (ma_goodc kc_Weaver_finish) (B.2.2.2.1 _ k_1522) (B.2.2.2.1 _ k_1524) (B.2.2.2.1 _ ks_65) (B.2.2.2.1 _ k_2) ⟨by decide +kernel, by decide +kernel, by decide +kernel⟩ rfl d_Weaver_weave_142 rfl (Nat.le_of_ble_eq_true rfl) ⟨by decide, by decide⟩ ⟨by decide, by decide⟩ ⟨by decide, by decide⟩ (mv_noH hno _) (fun σ142 h142 => ?_)
                      have go := j145 σ142 (by omega) ((hV.tr (WT.w (P := 48) f116.wt 6 3)).tr h142.1) h142.2.1 (h142.lq _ (by omega))
                      refine mv_lpick [1, 2] rfl ?_
                      exact go
                · skip
                  have hWE : WE 48 τ n sz th no a9 0 := by
                    rcases hWM with ⟨q, -⟩ | ⟨q, -⟩ | ⟨-, q⟩ | ⟨q, -⟩
                    · rw [h87] at q; exact absurd q (by decide)
                    · rw [h87] at q; exact absurd q (by decide)
                    · exact q
                    · rw [h87] at q; exact absurd q (by decide)
                  obtain ⟨e0, bs, bd, s9, ns9, f0, g0, bl, ol, ms, ⟨hX, hI⟩, hB2, hgt, hn2, hn4, hnc⟩ := hWE
                  have hbs := hB2.2.2.2.2.1.bs
                  have hB9 : SB 48 τ t len n z sz th sl := ⟨hG.1, hG.2.2.1, hW.1, hW.2.1⟩
                  refine mv_aload_n (pc := 90) B d_Weaver_weave_90 rfl 1 rfl ?_
                  refine mv_aload_n (pc := 91) B d_Weaver_weave_91 rfl 1 rfl ?_
                  refine mv_getR (pc := 92) (ci := 1) (C := R_Weaver) (T := F_Weaver) (N := 16) B 3 rfl rfl (by decide) i_Weaver (B.2.2.2.1 _ k_232) rfl (hR.1 _ 3 _ rfl) d_Weaver_weave_92 ?_
                  refine mv_callVi (pc := 95) (n := 0) (ci := 6) (C := R_Exprs) B (mK_ok sk sv) hNs rfl rfl (c_Exprs_operand_b l hi _ hB9 ht2 hX hI hG.2.2.2.2.1 hbs) rfl (ma_goodc kc_Exprs_operand) (B.2.2.2.1 _ k_1410) (B.2.2.2.1 _ k_1411) (B.2.2.2.1 _ k_1412) (B.2.2.2.1 _ k_7) ⟨by decide +kernel, by decide +kernel, by decide +kernel⟩ rfl d_Weaver_weave_95 rfl (Nat.le_of_ble_eq_true rfl) ⟨by decide, by decide⟩ ⟨by decide, by decide⟩ ⟨by decide, by decide⟩ (mv_noH hno _) (fun v95 σ95 h95 => ?_)
                  obtain ⟨f95, m95, v95z, d95⟩ := h95
                  have go := fun (mm : Int32) (hmm : (mm = 3 ∧ v95 = 1) ∨ (mm = 2 ∧ v95 = 0)) => j145 (mv_si σ95 2 6 mm) (by omega) (WT.w (P := 48) (hV.tr f95.wt) 6 mm) m95 ⟨th, sl, no, (hW.rf f95 hP).of hP (OF.w Fr.rf 6 mm), d95.elim Or.inl (fun q => by obtain ⟨ms2, s2, a2, q1, q2, q3⟩ := q; exact Or.inr (Or.inr ⟨a2, by omega, by rcases hmm with ⟨e1, e2⟩ | ⟨e1, e2⟩ <;> (subst e1; subst e2; first | exact Or.inr (Or.inr (Or.inr ⟨rfl, WE.next hP f95 3 q2 q3 (by omega) hB2 hgt hn2 hn4 hnc⟩)) | exact Or.inr (Or.inr (Or.inl ⟨rfl, WE.next hP f95 2 q2 q3 (by omega) hB2 hgt hn2 hn4 hnc⟩)))⟩))⟩
                  refine mv_if_eq (pc := 98) (tgt := 105) B d_Weaver_weave_98 rfl (fun h98 => ?_) (fun h98 => ?_)
                  · skip
                    have go := go 2 (Or.inr ⟨rfl, h98⟩)
                    refine mv_iconst (pc := 105) (v := 2) B d_Weaver_weave_105 (by decide) ?_
                    refine mv_putI (pc := 106) (ci := 1) (C := R_Weaver) (T := F_Weaver) (N := 16) B 6 rfl rfl (by decide) i_Weaver t_Weaver_ok n_Weaver (B.2.2.2.1 _ k_236) rfl rfl rfl rfl d_Weaver_weave_106 ?_
                    refine mv_goto (pc := 109) (tgt := 145) B d_Weaver_weave_109 rfl ?_
                    refine mv_lpick [0, 1] rfl ?_
                    exact go
                  · skip
                    have go := go 3 (Or.inl ⟨rfl, v95z.resolve_left h98⟩)
                    refine mv_iconst (pc := 101) (v := 3) B d_Weaver_weave_101 (by decide) ?_
                    refine mv_goto (pc := 102) (tgt := 106) B d_Weaver_weave_102 rfl ?_
                    refine mv_putI (pc := 106) (ci := 1) (C := R_Weaver) (T := F_Weaver) (N := 16) B 6 rfl rfl (by decide) i_Weaver t_Weaver_ok n_Weaver (B.2.2.2.1 _ k_236) rfl rfl rfl rfl d_Weaver_weave_106 ?_
                    refine mv_goto (pc := 109) (tgt := 145) B d_Weaver_weave_109 rfl ?_
                    refine mv_lpick [0, 1] rfl ?_
                    exact go
              · skip
                obtain ⟨s9, ns9, bl9, hne, hS0⟩ : ∃ s ns bl, ¬ bl = [] ∧ WS 48 τ sz th s a9 ns no bl := by
                  rcases hWM with ⟨q, -⟩ | ⟨-, q⟩ | ⟨q, -⟩ | ⟨q, -⟩
                  · rw [h72] at q; exact absurd q (by decide)
                  · exact q
                  · rw [h72] at q; exact absurd q (by decide)
                  · rw [h72] at q; exact absurd q (by decide)
                refine mv_aload_n (pc := 75) B d_Weaver_weave_75 rfl 1 rfl ?_
                refine mv_callVv (pc := 76) (n := 0) (ci := 1) (C := R_Weaver) B (mK_ok sk sv) hNs rfl rfl (c_Weaver_statement_b l hi _ hG hMt hW hS0 hne h72) rfl (ma_goodc kc_Weaver_statement) (B.2.2.2.1 _ k_1363) (B.2.2.2.1 _ k_1365) (B.2.2.2.1 _ ks_42) (B.2.2.2.1 _ k_2) ⟨by decide +kernel, by decide +kernel, by decide +kernel⟩ rfl d_Weaver_weave_76 rfl (Nat.le_of_ble_eq_true rfl) ⟨by decide, by decide⟩ ⟨by decide, by decide⟩ ⟨by decide, by decide⟩ (mv_noH hno _) (fun σ76 h76 => ?_)
                have go := j145 σ76 (by omega) (hV.tr h76.1) h76.2.1 (h76.lq _ (by omega))
                refine mv_goto (pc := 79) (tgt := 145) B d_Weaver_weave_79 rfl ?_
                refine mv_lpick [0, 1] rfl ?_
                exact go
            · skip
              obtain ⟨s9, ns9, hS0⟩ : ∃ s ns, WS 48 τ sz th s a9 ns no [] := by
                rcases hWM with ⟨-, q⟩ | ⟨q, -⟩ | ⟨q, -⟩ | ⟨q, -⟩
                · exact q
                · rw [h57] at q; exact absurd q (by decide)
                · rw [h57] at q; exact absurd q (by decide)
                · rw [h57] at q; exact absurd q (by decide)
              refine mv_aload_n (pc := 60) B d_Weaver_weave_60 rfl 1 rfl ?_
              refine mv_callVv (pc := 61) (n := 0) (ci := 1) (C := R_Weaver) B (mK_ok sk sv) hNs rfl rfl (c_Weaver_item_b l hi _ hG hMt hW hS0 h57) rfl (ma_goodc kc_Weaver_item) (B.2.2.2.1 _ k_1295) (B.2.2.2.1 _ k_1297) (B.2.2.2.1 _ ks_33) (B.2.2.2.1 _ k_2) ⟨by decide +kernel, by decide +kernel, by decide +kernel⟩ rfl d_Weaver_weave_61 rfl (Nat.le_of_ble_eq_true rfl) ⟨by decide, by decide⟩ ⟨by decide, by decide⟩ ⟨by decide, by decide⟩ (mv_noH hno _) (fun σ61 h61 => ?_)
              have go := j145 σ61 (by omega) (by rcases h61 with q | q; exact hV.tr q.1; rw [q]; exact hV.w 6 4) (by rcases h61 with q | q; exact q.2.1; rw [q]; exact hMt) (by rcases h61 with q | q; exact q.lq _ (by omega); rw [q]; exact ⟨th, sl, no, hW.of hP (OF.w Fr.rf 6 4), Or.inr (Or.inl ⟨rfl, s9, a9, ns9, hS0.fr hP rfl rfl rfl rfl rfl rfl rfl rfl rfl rfl rfl rfl (fun q => q)⟩)⟩)
              refine mv_goto (pc := 64) (tgt := 145) B d_Weaver_weave_64 rfl ?_
              refine mv_lpick [0, 1] rfl ?_
              exact go
  refine mv_aload_n (pc := 0) B d_Weaver_weave_0 rfl 0 rfl ?_
  refine mv_aload_n (pc := 1) B d_Weaver_weave_1 rfl 3 rfl ?_
  refine mv_callVv (pc := 2) (n := 1) (ci := 1) (C := R_Weaver) B (mK_ok sk sv) hNs rfl rfl (c_Weaver_begin_b l hi _ hm hq) rfl (ma_goodc kc_Weaver_begin) (B.2.2.2.1 _ k_780) (B.2.2.2.1 _ k_782) (B.2.2.2.1 _ ks_16) (B.2.2.2.1 _ k_2) ⟨by decide +kernel, by decide +kernel, by decide +kernel⟩ rfl d_Weaver_weave_2 rfl (Nat.le_of_ble_eq_true rfl) ⟨by decide, by decide⟩ ⟨by decide, by decide⟩ ⟨by decide, by decide⟩ (mv_noH hno _) (fun σ2 h2 => ?_)
  obtain ⟨e2, hR⟩ := h2
  subst e2
  have ett : mv_a (w_beg 48 σ) t = mv_a σ t := rfl
  refine mv_aload_n (pc := 5) B d_Weaver_weave_5 rfl 0 rfl ?_
  refine mv_getR (pc := 6) (ci := 1) (C := R_Weaver) (T := F_Weaver) (N := 16) B 0 rfl rfl (by decide) i_Weaver (B.2.2.2.1 _ k_228) rfl (hR.1 _ 0 _ rfl) d_Weaver_weave_6 ?_
  refine mv_aload_n (pc := 9) B d_Weaver_weave_9 rfl 1 rfl ?_
  refine mv_iload_n (pc := 10) B d_Weaver_weave_10 rfl 2 rfl ?_
  refine mv_callVv (pc := 11) (n := 2) (ci := 2) (C := R_Tokens) B (mK_ok sk sv) hNs rfl rfl (c_Tokens_cut l hi _ t tn len _ hR.1 hts ht2 hw hl1 hl2 (by rw [ett]; exact hby8) hk0 hp0 hb0) rfl (ma_goodc kc_Tokens_cut) (B.2.2.2.1 _ k_789) (B.2.2.2.1 _ k_790) (B.2.2.2.1 _ k_791) (B.2.2.2.1 _ k_3) ⟨by decide +kernel, by decide +kernel, by decide +kernel⟩ rfl d_Weaver_weave_11 rfl (Nat.le_of_ble_eq_true rfl) ⟨by decide, by decide⟩ ⟨by decide, by decide⟩ ⟨by decide, by decide⟩ (mv_noH hno _) (fun σ11 h11 => ?_)
  obtain ⟨g11, x11, t11, k11, i117, i118, i119⟩ := h11
  obtain ⟨n, z, sz, hSy, hTk, hs2, hs3, hs4, hs5, hs6⟩ := k11
  have hR : Rw 48 (mv_r σ11) := by rw [g11.2.2.2.2]; exact ⟨mh_sr hR.1 rfl, Ph_sr hP hR.2.1 (by omega), hR.2.2.1, hR.2.2.2⟩
  have i13 : ∀ k, mv_i σ11 13 k = mv_i σ 13 k := fun k => (g11.1 13 k (by omega)).trans (by show mv_i (w_beg 48 σ) 13 k = mv_i σ 13 k; rfl)
  have a19 : mv_a σ11 19 = mv_a σ 19 := g11.2.1 19 (by decide)
  have hNs11 : Ns σ11 := by unfold Ns; rw [i13, a19]; exact hNs0
  have iP : ∀ k, mv_i σ11 48 k = mv_i (w_beg 48 σ) 48 k := fun k => g11.1 48 k (by omega)
  have i2 : ∀ k, mv_i σ11 2 k = mv_i (w_beg 48 σ) 2 k := fun k => g11.1 2 k (by omega)
  refine mv_aload_n (pc := 14) B d_Weaver_weave_14 rfl 0 rfl ?_
  refine mv_getR (pc := 15) (ci := 1) (C := R_Weaver) (T := F_Weaver) (N := 16) B 1 rfl rfl (by decide) i_Weaver (B.2.2.2.1 _ k_229) rfl (hR.1 _ 1 _ rfl) d_Weaver_weave_15 ?_
  refine mv_callVv (pc := 18) (n := 0) (ci := 4) (C := R_Names) B (mK_ok sk sv) hNs rfl rfl (c_Names_clear l hi _ hR.1 n z hSy hNs11) rfl (ma_goodc kc_Names_clear) (B.2.2.2.1 _ k_944) (B.2.2.2.1 _ k_945) (B.2.2.2.1 _ k_946) (B.2.2.2.1 _ k_5) ⟨by decide +kernel, by decide +kernel, by decide +kernel⟩ rfl d_Weaver_weave_18 rfl (Nat.le_of_ble_eq_true rfl) ⟨by decide, by decide⟩ ⟨by decide, by decide⟩ ⟨by decide, by decide⟩ (mv_noH hno _) (fun σ18 h18 => ?_)
  obtain ⟨f18, n18, i187, i189⟩ := h18
  have hR : Rw 48 (mv_r σ18) := by rw [f18.2.2.2.2]; exact hR
  have v18 : WT 48 σ11 σ18 := f18.up (fun o k q => by omega) (fun o q => by omega) (fun o q => by omega)
  have hG11 : WG 48 32768 512 ext σ11 t tn len n z sz := ⟨by rw [← f18.2.2.2.2]; exact hR, x11, ⟨hSy, hTk, hs2, hs3, hs4, hs5⟩, hM9.elim Or.inl (fun q => Or.inr (by have : qc (mv_a σ11 t) len = qc (mv_a σ t) len := by { rw [t11]; rfl }; omega)), hlR, hl10⟩
  have hG18 := hG11.wt v18 hP
  have hF18 : VG 48 (w_base 48 t σ) σ18 := ((VG.beg 48 t σ).tr (g11.up (fun o k q => by omega) (fun o q => by omega) (fun o q => by omega))).tr v18.vg
  have hM18 : Mt (mv_a σ18 24) := by rw [f18.2.1 24 (by decide), g11.2.1 24 (by decide)]; exact hMt0
  have jP : ∀ k, mv_i σ18 48 k = mv_i (w_beg 48 σ) 48 k := fun k => (f18.1 48 k (by omega)).trans (iP k)
  have j2 : ∀ k, mv_i σ18 2 k = mv_i (w_beg 48 σ) 2 k := fun k => (f18.1 2 k (by omega)).trans (i2 k)
  have hW18 : WN 48 512 σ18 n 0 0 0 := ⟨fun y hy => by rw [n18 y hy]; exact ⟨fun q => absurd q (by decide), fun q => absurd q (by decide)⟩, ⟨by rw [jP]; rfl, by omega, by rw [jP]; rfl, by omega, by rw [jP]; show (0 : Int) ≤ (8 : Int32).toInt; decide, by rw [jP]; show (8 : Int32).toInt ≤ 64; decide, fun q hq => absurd hq (by omega), Or.inl ⟨by rw [jP]; show (-1 : Int32).toInt < 0; decide, by rw [jP]; show (-1 : Int32).toInt < 0; decide⟩⟩, ⟨by rw [i187]; decide, by rw [i187]; decide, fun i hi => by rw [i187] at hi; exact absurd hi (by show ¬ i < 0; omega)⟩, ⟨by rw [i187, i189]; decide, by rw [i189]; decide⟩, ⟨0, by rw [jP]; rfl, by omega, by omega⟩, by rw [jP]; rfl, by omega⟩
  have hK18 : KX 48 σ18 0 0 0 0 [] [] 0 True := ⟨⟨by rw [j2]; rfl, trivial, fun b hb => absurd hb List.not_mem_nil⟩, by rw [jP]; rfl, rfl, fun _ => ⟨trivial, fun _ => 0, fun _ => Nat.zero_le _, rfl, fun a q => absurd q (by omega), fun b hb => absurd hb List.not_mem_nil, fun j q => absurd q (by omega)⟩⟩
  have hm18 : mv_i σ18 2 6 = 0 := by rw [j2]; rfl
  have ht18 : (mv_i σ18 3 7).toInt = 1 := by rw [f18.1 3 7 (by decide), i117]; rfl
  have hd18 : (mv_i σ18 3 8).toInt = 0 := by rw [f18.1 3 8 (by decide), i118]; rfl
  refine mv_aload_n (pc := 21) B d_Weaver_weave_21 rfl 0 rfl ?_
  refine mv_callVv (pc := 22) (n := 0) (ci := 1) (C := R_Weaver) B (mK_ok sk sv) hNs rfl rfl (c_Weaver_readBits_b l hi _ hG18 hM18 hW18 rfl hK18 hm18 ht18 hd18) rfl (ma_goodc kc_Weaver_readBits) (B.2.2.2.1 _ k_1262) (B.2.2.2.1 _ k_1264) (B.2.2.2.1 _ ks_31) (B.2.2.2.1 _ k_2) ⟨by decide +kernel, by decide +kernel, by decide +kernel⟩ rfl d_Weaver_weave_22 rfl (Nat.le_of_ble_eq_true rfl) ⟨by decide, by decide⟩ ⟨by decide, by decide⟩ ⟨by decide, by decide⟩ (mv_noH hno _) (fun σ22 h22 => ?_)
  refine mv_iconst (pc := 25) (v := 0) B d_Weaver_weave_25 (by decide) ?_
  refine mv_istore (pc := 26) B d_Weaver_weave_26 (by decide) rfl ?_
  refine mv_lpick [0, 1] rfl ?_
  exact lp _ σ18 n z sz σ22 0 hG18 hF18 h22.1 h22.2.1 (by decide) (by decide) (h22.lq _ (by decide)) (Nat.lt_succ_self _)
set_option maxHeartbeats 4000000 in
set_option maxRecDepth 100000 in
theorem c_Weaver_weave_c (l : Launch) {dA : FieldType → ClassId} {D : va_G} {al : Nat → Nat} {sk sv : Nat → Nat} (hi : mv_inj (mg dA D al me)) (σ : mv_H) (t tn len : Nat) (w : Int32) (hm : mh (mv_r σ)) (hq : Ph 145 (mv_r σ)) (hts : (mb ++ me)[t]? = some (.inr (.byte, tn))) (ht2 : t = 1 ∨ t = 144) (hw : w.toInt = len) (hl1 : len ≤ tn) (hl2 : tn ≤ 32768) (hby8 : ∀ i, i < tn → -128 ≤ (mv_a σ t i).toInt ∧ (mv_a σ t i).toInt ≤ 127) (hk0 : mv_a σ 4 0 = 0) (hp0 : 0 ≤ (mv_a σ 5 0).toInt) (hb0 : mv_b σ 6 0 = 0) (hNs0 : Ns σ) (hMt0 : Mt (mv_a σ 24)) (hlR : len ≤ 8192) (hl10 : len ≤ 10240) (hM9 : 48 = 512 ∨ qc (mv_a σ t) len ≤ 2 * 48) : mv_C l y_Weaver_weave (Cond.code y_Weaver_weave b_Weaver_weave 6 (Option.some Jvm.ClassFile.FieldType.boolean) :: ma) ({ frames := 7, cells := 0, slots := 0, locals := 176 }) (mg dA D al me) (mK sk sv) [.ref (al 2), .ref (al t), .int w, .ref (al 145)] σ (mv_Ri (fun v σ1 => WV 145 8192 48 t σ v σ1)) := by
  refine mv_C.ofV (cc := b_Weaver_weave) (nL := 6) (ret := (Option.some Jvm.ClassFile.FieldType.boolean)) (by decide +kernel) rfl hi (Nat.le_of_ble_eq_true rfl) ?_
  intro p e s m below meth c B hNs hr hnm hno
  have hP : PQ 145 := by unfold PQ; omega
  have j183 : ∀ (ρ : mv_H) (n : Nat) (z : Nat) (sz : Nat) (υ : mv_H) (th : Nat) (sl : Nat) (no : Nat) (hG0 : WG 145 8192 48 me ρ t tn len n z sz) (hF0 : VG 145 (w_base 145 t σ) ρ) (hV : WT 145 ρ υ) (hMt : Mt (mv_a υ 24)) (hW : WN 145 48 υ n th sl no) (hC : mv_i υ 21 0 = 0 → ∃ s9 a9 ns9, WS 145 υ sz th s9 a9 ns9 no []), mv_V p l e ({ frames := 7, cells := 0, slots := 0, locals := 176 }) s m ([.ref (al 2), .ref (al t), .int w, .ref (al 145)] : List Value).toArray below meth c (mg dA D al me) 6 0 0 (mv_Q (mg dA D al me) below s 0 0 (mv_Ri (fun v σ1 => WV 145 8192 48 t σ v σ1))) υ 183 [(0, .ref (al 2))] [] := by
    intro ρ n z sz υ th sl no hG0 hF0 hV hMt hW hC
    have hG := hG0.wt hV hP
    have hR := hG.1
    have hF := hF0.tr hV.vg
    have hnq := hW.2.2.2.2.2.1
    have hno2 := hW.2.2.2.2.2.2
    refine mv_aload_n (pc := 183) B d_Weaver_weave_183 rfl 0 rfl ?_
    refine mv_getR (pc := 184) (ci := 1) (C := R_Weaver) (T := F_Weaver) (N := 16) B 2 rfl rfl (by decide) i_Weaver (B.2.2.2.1 _ k_230) rfl (hR.1 _ 2 _ rfl) d_Weaver_weave_184 ?_
    refine mv_getI (pc := 187) (ci := 5) (C := R_Faults) (T := F_Faults) (N := 2) B 0 rfl rfl (by decide) i_Faults (B.2.2.2.1 _ k_178) rfl d_Weaver_weave_187 ?_
    refine mv_if_ne (pc := 190) (tgt := 200) B d_Weaver_weave_190 rfl (fun h190 => ?_) (fun h190 => ?_)
    · skip
      have hend := WV.bad (σ := σ) hG hMt hW hF
      refine mv_iconst (pc := 200) (v := 0) B d_Weaver_weave_200 (by decide) ?_
      exact mv_iret (pc := 201) B hr rfl d_Weaver_weave_201 (Nat.le_refl _) (Nat.le_refl _) ⟨_, rfl, by first | exact hend | exact hend⟩
    · skip
      obtain ⟨s9, a9, ns9, hS9⟩ := hC h190
      have hCo : CodeOK 145 8192 υ th := CodeOK.of (len := len) hS9 h190 hnq (hG.2.2.1.2.2.2.2.2) hG.2.2.2.2.1 hG.2.2.2.2.2
      refine mv_aload_n (pc := 193) B d_Weaver_weave_193 rfl 0 rfl ?_
      refine mv_callVi (pc := 194) (n := 0) (ci := 1) (C := R_Weaver) B (mK_ok sk sv) hNs rfl rfl (c_Weaver_areApart_c l hi _ hR no hnq hno2) rfl (ma_goodc kc_Weaver_areApart) (B.2.2.2.1 _ k_1540) (B.2.2.2.1 _ k_1542) (B.2.2.2.1 _ ks_68) (B.2.2.2.1 _ k_2) ⟨by decide +kernel, by decide +kernel, by decide +kernel⟩ rfl d_Weaver_weave_194 rfl (Nat.le_of_ble_eq_true rfl) ⟨by decide, by decide⟩ ⟨by decide, by decide⟩ ⟨by decide, by decide⟩ (mv_noH hno _) (fun v194 σ194 h194 => ?_)
      obtain ⟨f194, d194⟩ := h194
      refine mv_if_ne (pc := 197) (tgt := 202) B d_Weaver_weave_197 rfl (fun h197 => ?_) (fun h197 => ?_)
      · skip
        obtain ⟨-, e194⟩ := d194.resolve_left (fun q => h197 q.1)
        have e194 := e194.symm
        subst e194
        refine mv_aload_n (pc := 202) B d_Weaver_weave_202 rfl 0 rfl ?_
        refine mv_getR (pc := 203) (ci := 1) (C := R_Weaver) (T := F_Weaver) (N := 16) B 5 rfl rfl (by decide) i_Weaver (B.2.2.2.1 _ k_235) rfl hR.2.2.1 d_Weaver_weave_203 ?_
        refine mv_getR (pc := 206) (ci := 7) (C := R_Program) (T := F_Program) (N := 19) B 18 rfl rfl (by decide) i_Program (B.2.2.2.1 _ k_365) rfl (hR.2.1 _ 18 156 rfl) d_Weaver_weave_206 ?_
        refine mv_aload_n (pc := 209) B d_Weaver_weave_209 rfl 0 rfl ?_
        refine mv_getR (pc := 210) (ci := 1) (C := R_Weaver) (T := F_Weaver) (N := 16) B 5 rfl rfl (by decide) i_Weaver (B.2.2.2.1 _ k_235) rfl hR.2.2.1 d_Weaver_weave_210 ?_
        refine mv_callVv (pc := 213) (n := 1) (ci := 8) (C := R_Tree) B (mK_ok sk sv) hNs rfl rfl (c_Tree_grow_c l hi _ no hR.2.1 hnq hno2) rfl (ma_goodc kc_Tree_grow) (B.2.2.2.1 _ k_1548) (B.2.2.2.1 _ k_411) (B.2.2.2.1 _ k_412) (B.2.2.2.1 _ k_9) ⟨by decide +kernel, by decide +kernel, by decide +kernel⟩ rfl d_Weaver_weave_213 rfl (Nat.le_of_ble_eq_true rfl) ⟨by decide, by decide⟩ ⟨by decide, by decide⟩ ⟨by decide, by decide⟩ (mv_noH hno _) (fun σ213 h213 => ?_)
        obtain ⟨f213, k213⟩ := h213
        refine mv_iconst (pc := 216) (v := 1) B d_Weaver_weave_216 (by decide) ?_
        exact mv_iret (pc := 217) B hr rfl d_Weaver_weave_217 (Nat.le_refl _) (Nat.le_refl _) ⟨_, rfl, TreeOK.wv hP hG hMt hW hF hCo f213 k213⟩
      · skip
        obtain ⟨-, x9, y9, z9, q9⟩ := d194.resolve_right (fun q => by rw [h197] at q; exact absurd q.1 (by decide))
        have hend : WV 145 8192 48 t σ 0 σ194 := WV.bad (hG.wt f194 hP) (by rw [q9]; exact hMt) (by rw [q9]; exact (hW.tell hP _ _).of hP (OF.w Fr.rf 4 _)) (hF.tr f194.vg)
        refine mv_iconst (pc := 200) (v := 0) B d_Weaver_weave_200 (by decide) ?_
        exact mv_iret (pc := 201) B hr rfl d_Weaver_weave_201 (Nat.le_refl _) (Nat.le_refl _) ⟨_, rfl, by first | exact hend | exact hend⟩
  have j151 : ∀ (ρ : mv_H) (n : Nat) (z : Nat) (sz : Nat) (υ : mv_H) (th : Nat) (sl : Nat) (no : Nat) (hG0 : WG 145 8192 48 me ρ t tn len n z sz) (hF0 : VG 145 (w_base 145 t σ) ρ) (hV : WT 145 ρ υ) (hMt : Mt (mv_a υ 24)) (hW : WN 145 48 υ n th sl no) (hE : 0 ≤ (mv_i υ 3 9).toInt ∨ ∃ s9 a9 ns9, WS 145 υ sz th s9 a9 ns9 no []), mv_V p l e ({ frames := 7, cells := 0, slots := 0, locals := 176 }) s m ([.ref (al 2), .ref (al t), .int w, .ref (al 145)] : List Value).toArray below meth c (mg dA D al me) 6 0 0 (mv_Q (mg dA D al me) below s 0 0 (mv_Ri (fun v σ1 => WV 145 8192 48 t σ v σ1))) υ 151 [(0, .ref (al 2))] [] := by
    intro ρ n z sz υ th sl no hG0 hF0 hV hMt hW hE
    have hG := hG0.wt hV hP
    have hR := hG.1
    refine mv_aload_n (pc := 151) B d_Weaver_weave_151 rfl 0 rfl ?_
    refine mv_getR (pc := 152) (ci := 1) (C := R_Weaver) (T := F_Weaver) (N := 16) B 0 rfl rfl (by decide) i_Weaver (B.2.2.2.1 _ k_228) rfl (hR.1 _ 0 _ rfl) d_Weaver_weave_152 ?_
    refine mv_callVi (pc := 155) (n := 0) (ci := 2) (C := R_Tokens) B (mK_ok sk sv) hNs rfl rfl (c_Tokens_right l hi _) rfl (ma_goodc kc_Tokens_right) (B.2.2.2.1 _ k_1291) (B.2.2.2.1 _ k_1292) (B.2.2.2.1 _ k_1293) (B.2.2.2.1 _ k_3) ⟨by decide +kernel, by decide +kernel, by decide +kernel⟩ rfl d_Weaver_weave_155 rfl (Nat.le_of_ble_eq_true rfl) ⟨by decide, by decide⟩ ⟨by decide, by decide⟩ ⟨by decide, by decide⟩ (mv_noH hno _) (fun v155 σ155 h155 => ?_)
    obtain ⟨e155, z155⟩ := h155
    have e155 := e155.symm
    subst e155
    refine mv_if_ne (pc := 158) (tgt := 183) B d_Weaver_weave_158 rfl (fun h158 => ?_) (fun h158 => ?_)
    · skip
      have hw : (mv_i υ 3 9).toInt < 0 := Decidable.byContradiction fun q => h158 (by rw [z155, if_neg (fun z => q (lt0.mp z))])
      have go := j183 ρ n z sz υ th sl no hG0 hF0 hV hMt hW (fun _ => hE.resolve_left (by omega))
      refine mv_lpick [0] rfl ?_
      exact go
    · skip
      refine mv_aload_n (pc := 161) B d_Weaver_weave_161 rfl 0 rfl ?_
      refine mv_getR (pc := 162) (ci := 1) (C := R_Weaver) (T := F_Weaver) (N := 16) B 2 rfl rfl (by decide) i_Weaver (B.2.2.2.1 _ k_230) rfl (hR.1 _ 2 _ rfl) d_Weaver_weave_162 ?_
      refine mv_callVv (pc := 165) (n := 0) (ci := 5) (C := R_Faults) B (mK_ok sk sv) hNs rfl rfl (c_Faults_clear l hi _) rfl (ma_goodc kc_Faults_clear) (B.2.2.2.1 _ k_785) (B.2.2.2.1 _ k_786) (B.2.2.2.1 _ k_787) (B.2.2.2.1 _ k_6) ⟨by decide +kernel, by decide +kernel, by decide +kernel⟩ rfl d_Weaver_weave_165 rfl (Nat.le_of_ble_eq_true rfl) ⟨by decide, by decide⟩ ⟨by decide, by decide⟩ ⟨by decide, by decide⟩ (mv_noH hno _) (fun σ165 h165 => ?_)
      subst h165
      refine mv_aload_n (pc := 168) B d_Weaver_weave_168 rfl 0 rfl ?_
      refine mv_getR (pc := 169) (ci := 1) (C := R_Weaver) (T := F_Weaver) (N := 16) B 2 rfl rfl (by decide) i_Weaver (B.2.2.2.1 _ k_230) rfl (hR.1 _ 2 _ rfl) d_Weaver_weave_169 ?_
      refine mv_aload_n (pc := 172) B d_Weaver_weave_172 rfl 0 rfl ?_
      refine mv_getR (pc := 173) (ci := 1) (C := R_Weaver) (T := F_Weaver) (N := 16) B 0 rfl rfl (by decide) i_Weaver (B.2.2.2.1 _ k_228) rfl (hR.1 _ 0 _ rfl) d_Weaver_weave_173 ?_
      refine mv_getI (pc := 176) (ci := 2) (C := R_Tokens) (T := F_Tokens) (N := 10) B 9 rfl rfl (by decide) i_Tokens (B.2.2.2.1 _ k_106) rfl d_Weaver_weave_176 ?_
      refine mv_iconst (pc := 179) (v := 1) B d_Weaver_weave_179 (by decide) ?_
      refine mv_callVv (pc := 180) (n := 2) (ci := 5) (C := R_Faults) B (mK_ok sk sv) hNs rfl rfl (c_Faults_tell l hi _ _ _) rfl (ma_goodc kc_Faults_tell) (B.2.2.2.1 _ k_1286) (B.2.2.2.1 _ k_1287) (B.2.2.2.1 _ k_1288) (B.2.2.2.1 _ k_6) ⟨by decide +kernel, by decide +kernel, by decide +kernel⟩ rfl d_Weaver_weave_180 rfl (Nat.le_of_ble_eq_true rfl) ⟨by decide, by decide⟩ ⟨by decide, by decide⟩ ⟨by decide, by decide⟩ (mv_noH hno _) (fun σ180 h180 => ?_)
      obtain ⟨x9, y9, e180, z180⟩ := tell_n (b := 1) (by decide) h180
      subst e180
      have go := j183 ρ n z sz (ex_tell (mv_si (mv_si υ 21 0 0) 21 1 (-1)) x9 y9) th sl no hG0 hF0 ((hV.tell 0 (-1)).tell x9 y9) hMt ((hW.tell hP 0 (-1)).tell hP x9 y9) (fun q => absurd q z180)
      refine mv_lpick [0] rfl ?_
      exact go
  have lp : ∀ (nn : Nat) (ρ : mv_H) (n : Nat) (z : Nat) (sz : Nat) (τ : mv_H) (tt : Int32) (hG0 : WG 145 8192 48 me ρ t tn len n z sz) (hF0 : VG 145 (w_base 145 t σ) ρ) (hV : WT 145 ρ τ) (hMt : Mt (mv_a τ 24)) (q0 : 0 ≤ tt.toInt) (q1 : tt.toInt ≤ 131072) (hL0 : LQ 145 48 τ n sz tt.toInt), (131072 - tt.toInt).toNat < nn → mv_V p l e ({ frames := 7, cells := 0, slots := 0, locals := 176 }) s m ([.ref (al 2), .ref (al t), .int w, .ref (al 145)] : List Value).toArray below meth c (mg dA D al me) 6 0 0 (mv_Q (mg dA D al me) below s 0 0 (mv_Ri (fun v σ1 => WV 145 8192 48 t σ v σ1))) τ 28 [(4, .int tt), (0, .ref (al 2))] [] := by
    intro nn
    induction nn with
    | zero => intro ρ n z sz τ tt hG0 hF0 hV hMt q0 q1 hL0 hm; exact absurd hm (Nat.not_lt_zero _)
    | succ nn ih =>
      intro ρ n z sz τ tt hG0 hF0 hV hMt q0 q1 hL0 hm
      have hG := hG0.wt hV hP
      have hR := hG.1
      have ht2 := hG.2.1.2.2.2.2.2.2
      obtain ⟨th, sl, no, hW, hL⟩ := hL0
      have hszz := hG.2.2.1.2.2.2.1
      have j145 : ∀ (υ : mv_H) (h31 : tt.toInt < 131072) (wV : WT 145 ρ υ) (wM : Mt (mv_a υ 24)) (wL : LQ 145 48 υ n sz (tt.toInt + 1)), mv_V p l e ({ frames := 7, cells := 0, slots := 0, locals := 176 }) s m ([.ref (al 2), .ref (al t), .int w, .ref (al 145)] : List Value).toArray below meth c (mg dA D al me) 6 0 0 (mv_Q (mg dA D al me) below s 0 0 (mv_Ri (fun v σ1 => WV 145 8192 48 t σ v σ1))) υ 145 [(4, .int tt), (0, .ref (al 2))] [] := by
        intro υ h31 wV wM wL
        have t2 : (tt + 1).toInt = tt.toInt + 1 := i32_inc (by omega)
        have go := ih ρ n z sz υ (tt + 1) hG0 hF0 wV wM (by omega) (by omega) (by rw [t2]; exact wL) (by omega)
        refine mv_iinc (pc := 145) (j := 0) (v := 1) B d_Weaver_weave_145 rfl (by decide) (by decide) rfl ?_
        refine mv_goto (pc := 148) (tgt := 28) B d_Weaver_weave_148 rfl ?_
        refine mv_lpick [0, 1] rfl ?_
        exact go
      refine mv_iload (pc := 28) B d_Weaver_weave_28 0 rfl ?_
      refine mv_ldc (pc := 30) (v := 131072) B (B.2.2.2.1 _ k_1290) d_Weaver_weave_30 ?_
      refine mv_icmp_ge (pc := 32) (tgt := 151) B d_Weaver_weave_32 rfl (fun h32 => ?_) (fun h32 => ?_)
      · skip
        rw [Int32.le_iff_toInt_le] at h32
        have h32 : (131072 : Int) ≤ tt.toInt := h32
        have go := j151 ρ n z sz τ th sl no hG0 hF0 hV hMt hW (hL.elim Or.inl (fun q => q.elim (fun q => Or.inr q.2) (fun q => by obtain ⟨a9, q1, q2⟩ := q; have := q2.lt.1; omega)))
        refine mv_lpick [1] rfl ?_
        exact go
      · skip
        rw [Int32.le_iff_toInt_le] at h32
        have h32 : ¬ (131072 : Int) ≤ tt.toInt := h32
        have t2 : (tt + 1).toInt = tt.toInt + 1 := i32_inc (by omega)
        refine mv_aload_n (pc := 35) B d_Weaver_weave_35 rfl 1 rfl ?_
        refine mv_getI (pc := 36) (ci := 1) (C := R_Weaver) (T := F_Weaver) (N := 16) B 6 rfl rfl (by decide) i_Weaver (B.2.2.2.1 _ k_236) rfl d_Weaver_weave_36 ?_
        refine mv_iconst (pc := 39) (v := 4) B d_Weaver_weave_39 (by decide) ?_
        refine mv_icmp_eq (pc := 40) (tgt := 151) B d_Weaver_weave_40 rfl (fun h40 => ?_) (fun h40 => ?_)
        · skip
          have go := j151 ρ n z sz τ th sl no hG0 hF0 hV hMt hW (hL.elim Or.inl (fun q => q.elim (fun q => Or.inr q.2) (fun q => by obtain ⟨a9, q1, q2⟩ := q; rcases q2 with ⟨q2, -⟩ | ⟨q2, -⟩ | ⟨q2, -⟩ | ⟨q2, -⟩ <;> (rw [h40] at q2; exact absurd q2 (by decide)))))
          refine mv_lpick [1] rfl ?_
          exact go
        · skip
          refine mv_aload_n (pc := 43) B d_Weaver_weave_43 rfl 1 rfl ?_
          refine mv_getR (pc := 44) (ci := 1) (C := R_Weaver) (T := F_Weaver) (N := 16) B 0 rfl rfl (by decide) i_Weaver (B.2.2.2.1 _ k_228) rfl (hR.1 _ 0 _ rfl) d_Weaver_weave_44 ?_
          refine mv_callVi (pc := 47) (n := 0) (ci := 2) (C := R_Tokens) B (mK_ok sk sv) hNs rfl rfl (c_Tokens_right l hi _) rfl (ma_goodc kc_Tokens_right) (B.2.2.2.1 _ k_1291) (B.2.2.2.1 _ k_1292) (B.2.2.2.1 _ k_1293) (B.2.2.2.1 _ k_3) ⟨by decide +kernel, by decide +kernel, by decide +kernel⟩ rfl d_Weaver_weave_47 rfl (Nat.le_of_ble_eq_true rfl) ⟨by decide, by decide⟩ ⟨by decide, by decide⟩ ⟨by decide, by decide⟩ (mv_noH hno _) (fun v47 σ47 h47 => ?_)
          obtain ⟨e47, z47⟩ := h47
          have e47 := e47.symm
          subst e47
          refine mv_if_eq (pc := 50) (tgt := 151) B d_Weaver_weave_50 rfl (fun h50 => ?_) (fun h50 => ?_)
          · skip
            have hw : ¬ (mv_i τ 3 9).toInt < 0 := fun q => by rw [if_pos (lt0.mpr q)] at z47; rw [z47] at h50; exact absurd h50 (by decide)
            have go := j151 ρ n z sz τ th sl no hG0 hF0 hV hMt hW (Or.inl (by omega))
            refine mv_lpick [1] rfl ?_
            exact go
          · skip
            have hw : (mv_i τ 3 9).toInt < 0 := Decidable.byContradiction fun q => h50 (by rw [z47, if_neg (fun z => q (lt0.mp z))])
            obtain ⟨a9, hta, hWM⟩ := (hL.resolve_left (by omega)).resolve_left (fun q => h40 q.1)
            have hal := hWM.lt
            refine mv_aload_n (pc := 53) B d_Weaver_weave_53 rfl 1 rfl ?_
            refine mv_getI (pc := 54) (ci := 1) (C := R_Weaver) (T := F_Weaver) (N := 16) B 6 rfl rfl (by decide) i_Weaver (B.2.2.2.1 _ k_236) rfl d_Weaver_weave_54 ?_
            refine mv_if_ne (pc := 57) (tgt := 67) B d_Weaver_weave_57 rfl (fun h57 => ?_) (fun h57 => ?_)
            · skip
              refine mv_aload_n (pc := 67) B d_Weaver_weave_67 rfl 1 rfl ?_
              refine mv_getI (pc := 68) (ci := 1) (C := R_Weaver) (T := F_Weaver) (N := 16) B 6 rfl rfl (by decide) i_Weaver (B.2.2.2.1 _ k_236) rfl d_Weaver_weave_68 ?_
              refine mv_iconst (pc := 71) (v := 1) B d_Weaver_weave_71 (by decide) ?_
              refine mv_icmp_ne (pc := 72) (tgt := 82) B d_Weaver_weave_72 rfl (fun h72 => ?_) (fun h72 => ?_)
              · skip
                refine mv_aload_n (pc := 82) B d_Weaver_weave_82 rfl 1 rfl ?_
                refine mv_getI (pc := 83) (ci := 1) (C := R_Weaver) (T := F_Weaver) (N := 16) B 6 rfl rfl (by decide) i_Weaver (B.2.2.2.1 _ k_236) rfl d_Weaver_weave_83 ?_
                refine mv_iconst (pc := 86) (v := 2) B d_Weaver_weave_86 (by decide) ?_
                refine mv_icmp_ne (pc := 87) (tgt := 112) B d_Weaver_weave_87 rfl (fun h87 => ?_) (fun h87 => ?_)
                · skip
                  have hWE : WE 145 τ n sz th no a9 1 := by
                    rcases hWM with ⟨q, -⟩ | ⟨q, -⟩ | ⟨q, -⟩ | ⟨-, q⟩
                    · exact absurd q h57
                    · exact absurd q h72
                    · exact absurd q h87
                    · exact q
                  obtain ⟨e0, bs, bd, s9, ns9, f0, g0, bl, ol, ms, ⟨hX, hI⟩, hB2, hgt, hn2, hn4, hnc⟩ := hWE
                  have hbs := hB2.2.2.2.2.1.bs
                  have hB9 : SB 145 τ t len n z sz th sl := ⟨hG.1, hG.2.2.1, hW.1, hW.2.1⟩
                  refine mv_aload_n (pc := 112) B d_Weaver_weave_112 rfl 1 rfl ?_
                  refine mv_getR (pc := 113) (ci := 1) (C := R_Weaver) (T := F_Weaver) (N := 16) B 3 rfl rfl (by decide) i_Weaver (B.2.2.2.1 _ k_232) rfl (hR.1 _ 3 _ rfl) d_Weaver_weave_113 ?_
                  refine mv_callVi (pc := 116) (n := 0) (ci := 6) (C := R_Exprs) B (mK_ok sk sv) hNs rfl rfl (c_Exprs_after_c l hi _ hB9 ht2 hX hI hG.2.2.2.2.1 hbs) rfl (ma_goodc kc_Exprs_after) (B.2.2.2.1 _ k_1460) (B.2.2.2.1 _ k_1461) (B.2.2.2.1 _ k_1462) (B.2.2.2.1 _ k_7) ⟨by decide +kernel, by decide +kernel, by decide +kernel⟩ rfl d_Weaver_weave_116 rfl (Nat.le_of_ble_eq_true rfl) ⟨by decide, by decide⟩ ⟨by decide, by decide⟩ ⟨by decide, by decide⟩ (mv_noH hno _) (fun v116 σ116 h116 => ?_)
                  obtain ⟨f116, m116, d116⟩ := h116
                  refine mv_istore (pc := 119) B d_Weaver_weave_119 (by decide) rfl ?_
                  refine mv_aload_n (pc := 121) B d_Weaver_weave_121 rfl 2 rfl ?_
                  refine mv_iload (pc := 122) B d_Weaver_weave_122 0 rfl ?_
                  refine mv_if_ne (pc := 124) (tgt := 131) B d_Weaver_weave_124 rfl (fun h124 => ?_) (fun h124 => ?_)
                  · skip
                    refine mv_iconst (pc := 131) (v := 3) B d_Weaver_weave_131 (by decide) ?_
                    refine mv_putI (pc := 132) (ci := 1) (C := R_Weaver) (T := F_Weaver) (N := 16) B 6 rfl rfl (by decide) i_Weaver t_Weaver_ok n_Weaver (B.2.2.2.1 _ k_236) rfl rfl rfl rfl d_Weaver_weave_132 ?_
                    refine mv_gen (fun S135 eS135 => ?_)
                    have hmm : ¬ v116 = 0 → S135 = mv_si σ116 2 6 3 := by first | exact fun _ => eS135 | exact fun q => absurd h124 q
                    have hm0 : v116 = 0 → S135 = mv_si σ116 2 6 2 := by first | exact fun _ => eS135 | exact fun q => absurd q h124
                    have go1 : ¬ v116 = 2 → mv_V p l e ({ frames := 7, cells := 0, slots := 0, locals := 176 }) s m ([.ref (al 2), .ref (al t), .int w, .ref (al 145)] : List Value).toArray below meth c (mg dA D al me) 6 0 0 (mv_Q (mg dA D al me) below s 0 0 (mv_Ri (fun v σ1 => WV 145 8192 48 t σ v σ1))) S135 145 [(4, .int tt), (0, .ref (al 2))] [] := by
                      intro q2
                      have d1 := d116.resolve_left (fun q => q2 q.1)
                      by_cases q0 : v116 = 0
                      · rw [hm0 q0]
                        rw [q0] at d1
                        exact j145 (mv_si σ116 2 6 2) (by omega) (WT.w (P := 145) (hV.tr f116.wt) 6 2) m116 ⟨th, sl, no, (hW.rf f116 hP).of hP (OF.w Fr.rf 6 2), d1.2.elim Or.inl (fun q => by obtain ⟨ms2, s2, a2, q1, q2, q3⟩ := q; exact Or.inr (Or.inr ⟨a2, by omega, Or.inr (Or.inr (Or.inl ⟨rfl, WE.next hP f116 2 q2 q3 (by omega) hB2 hgt hn2 hn4 hnc⟩))⟩))⟩
                      · rw [hmm q0]
                        rw [d1.1.resolve_left q0] at d1
                        exact j145 (mv_si σ116 2 6 3) (by omega) (WT.w (P := 145) (hV.tr f116.wt) 6 3) m116 ⟨th, sl, no, (hW.rf f116 hP).of hP (OF.w Fr.rf 6 3), d1.2.elim Or.inl (fun q => by obtain ⟨ms2, s2, a2, q1, q2, q3⟩ := q; exact Or.inr (Or.inr ⟨a2, by omega, Or.inr (Or.inr (Or.inr ⟨rfl, WE.next hP f116 3 q2 q3 (by omega) hB2 hgt hn2 hn4 hnc⟩))⟩))⟩
                    clear eS135
                    refine mv_iload (pc := 135) B d_Weaver_weave_135 0 rfl ?_
                    refine mv_iconst (pc := 137) (v := 2) B d_Weaver_weave_137 (by decide) ?_
                    refine mv_icmp_ne (pc := 138) (tgt := 145) B d_Weaver_weave_138 rfl (fun h138 => ?_) (fun h138 => ?_)
                    · skip
                      have go := go1 h138
                      refine mv_lpick [1, 2] rfl ?_
                      exact go
                    · skip
                      have e135 := hmm (by rw [h138]; decide)
                      subst e135
                      have hG142 := hG.wt (WT.w (P := 145) f116.wt 6 3) hP
                      have hM142 : Mt (mv_a (mv_si σ116 2 6 3) 24) := m116
                      have hW142 := (hW.rf f116 hP).of hP (OF.w Fr.rf 6 3)
                      have i2 : ∀ k, k ≠ 6 → mv_i (mv_si σ116 2 6 3) 2 k = mv_i τ 2 k := fun k q => (ri_ne (by omega)).trans (f116.1 2 k (by omega))
                      have a7 : mv_a σ116 152 = mv_a τ 152 := f116.2.1 _ (by decide)
                      obtain ⟨-, s2, hX2, hI2⟩ := d116.resolve_right (fun q => by rw [h138] at q; exact absurd q.1 (by decide))
                      have hX142 : XM 145 th e0 bs (BLx th e0 f0 g0 (mv_a (mv_si σ116 2 6 3) 152) no ol (mv_i (mv_si σ116 2 6 3) 2 7 = 4 ∨ 0 ≤ (mv_i (mv_si σ116 2 6 3) 2 9).toInt)) f0 g0 ns9 (mv_si σ116 2 6 3) [] 1 1 s2 := by
                        rw [i2 7 (by decide), i2 9 (by decide)]
                        show XM 145 th e0 bs (BLx th e0 f0 g0 (mv_a σ116 152) no ol _) f0 g0 ns9 (mv_si σ116 2 6 3) [] 1 1 s2
                        rw [a7]
                        exact hX2.fr rfl rfl rfl rfl rfl rfl rfl rfl rfl
                      have hI142 : TI (mv_si σ116 2 6 3) sz bd [] s2 a9 := hI2.up rfl (Nat.le_refl _) (Nat.le_refl _) hI2.2.2.2.2.2.2
                      have hb15 : (mv_i (mv_si σ116 2 6 3) 2 15).toInt = bl.length := by rw [i2 15 (by decide)]; exact hB2.2.1
                      have hBk : BkR (mv_a (mv_si σ116 2 6 3) 28) (mv_a (mv_si σ116 2 6 3) 29) (mv_a (mv_si σ116 2 6 3) 30) (mv_a (mv_si σ116 2 6 3) 31) g0 (mv_i (mv_si σ116 2 6 3) 13 7).toInt bl := by
                        show BkR (mv_a σ116 28) (mv_a σ116 29) (mv_a σ116 30) (mv_a σ116 31) g0 (mv_i σ116 13 7).toInt bl
                        rw [f116.2.1 28 (by decide), f116.2.1 29 (by decide), f116.2.1 30 (by decide), f116.2.1 31 (by decide), f116.1 13 7 (by decide)]
                        exact hB2.2.2.1
                      have hGl : Gl (mv_i (mv_si σ116 2 6 3) 2 7) bs bd bl.length (mv_i (mv_si σ116 2 6 3) 2 9).toInt n th (mv_i (mv_si σ116 2 6 3) 13 9).toInt := by
                        rw [i2 7 (by decide), i2 9 (by decide), show mv_i (mv_si σ116 2 6 3) 13 9 = mv_i τ 13 9 from f116.1 13 9 (by decide)]
                        exact hB2.2.2.2.2.1
                      have hGx : Gx (mv_i (mv_si σ116 2 6 3) 2 7) g0 (mv_i (mv_si σ116 2 6 3) 2 10) bl ol := by rw [i2 7 (by decide), i2 10 (by decide)]; exact hB2.2.2.2.2.2
                      have hgt2 : mv_i (mv_si σ116 2 6 3) 2 7 = 1 ∨ (0 ≤ (mv_i (mv_si σ116 2 6 3) 2 8).toInt ∧ (mv_i (mv_si σ116 2 6 3) 2 8).toInt < 32770) := by rw [i2 7 (by decide), i2 8 (by decide)]; exact hgt
                      have hn42 : mv_i (mv_si σ116 2 6 3) 2 7 = 1 ∨ mv_i (mv_si σ116 2 6 3) 2 7 = 2 ∨ mv_i (mv_si σ116 2 6 3) 2 7 = 3 → 2 * ns9 + 4 ≤ a9 := by rw [i2 7 (by decide)]; exact hn4
                      have hnc2 : no ≤ nCd (mv_a (mv_si σ116 2 6 3) 4) a9 := by show no ≤ nCd (mv_a σ116 4) a9; rw [f116.2.1 4 (by decide)]; exact hnc
                      refine mv_aload_n (pc := 141) B d_Weaver_weave_141 rfl 2 rfl ?_
                      refine mv_callVv (pc := 142) (n := 0) (ci := 1) (C := R_Weaver) B (mK_ok sk sv) hNs rfl rfl (c_Weaver_finish_c l hi _ hG142 hM142 hW142 hX142 hI142 hB2.1 hb15 hBk hB2.2.2.2.1 hGl hGx hgt2 hn2 hn42 hnc2) rfl (ma_goodc kc_Weaver_finish) (B.2.2.2.1 _ k_1522) (B.2.2.2.1 _ k_1524) (B.2.2.2.1 _ ks_65) (B.2.2.2.1 _ k_2) ⟨by decide +kernel, by decide +kernel, by decide +kernel⟩ rfl d_Weaver_weave_142 rfl (Nat.le_of_ble_eq_true rfl) ⟨by decide, by decide⟩ ⟨by decide, by decide⟩ ⟨by decide, by decide⟩ (mv_noH hno _) (fun σ142 h142 => ?_)
                      have go := j145 σ142 (by omega) ((hV.tr (WT.w (P := 145) f116.wt 6 3)).tr h142.1) h142.2.1 (h142.lq _ (by omega))
                      refine mv_lpick [1, 2] rfl ?_
                      exact go
                  · skip
                    refine mv_iconst (pc := 127) (v := 2) B d_Weaver_weave_127 (by decide) ?_
                    refine mv_goto (pc := 128) (tgt := 132) B d_Weaver_weave_128 rfl ?_
                    refine mv_putI (pc := 132) (ci := 1) (C := R_Weaver) (T := F_Weaver) (N := 16) B 6 rfl rfl (by decide) i_Weaver t_Weaver_ok n_Weaver (B.2.2.2.1 _ k_236) rfl rfl rfl rfl d_Weaver_weave_132 ?_
                    refine mv_gen (fun S135 eS135 => ?_)
                    have hmm : ¬ v116 = 0 → S135 = mv_si σ116 2 6 3 := by first | exact fun _ => eS135 | exact fun q => absurd h124 q
                    have hm0 : v116 = 0 → S135 = mv_si σ116 2 6 2 := by first | exact fun _ => eS135 | exact fun q => absurd q h124
                    have go1 : ¬ v116 = 2 → mv_V p l e ({ frames := 7, cells := 0, slots := 0, locals := 176 }) s m ([.ref (al 2), .ref (al t), .int w, .ref (al 145)] : List Value).toArray below meth c (mg dA D al me) 6 0 0 (mv_Q (mg dA D al me) below s 0 0 (mv_Ri (fun v σ1 => WV 145 8192 48 t σ v σ1))) S135 145 [(4, .int tt), (0, .ref (al 2))] [] := by
                      intro q2
                      have d1 := d116.resolve_left (fun q => q2 q.1)
                      by_cases q0 : v116 = 0
                      · rw [hm0 q0]
                        rw [q0] at d1
                        exact j145 (mv_si σ116 2 6 2) (by omega) (WT.w (P := 145) (hV.tr f116.wt) 6 2) m116 ⟨th, sl, no, (hW.rf f116 hP).of hP (OF.w Fr.rf 6 2), d1.2.elim Or.inl (fun q => by obtain ⟨ms2, s2, a2, q1, q2, q3⟩ := q; exact Or.inr (Or.inr ⟨a2, by omega, Or.inr (Or.inr (Or.inl ⟨rfl, WE.next hP f116 2 q2 q3 (by omega) hB2 hgt hn2 hn4 hnc⟩))⟩))⟩
                      · rw [hmm q0]
                        rw [d1.1.resolve_left q0] at d1
                        exact j145 (mv_si σ116 2 6 3) (by omega) (WT.w (P := 145) (hV.tr f116.wt) 6 3) m116 ⟨th, sl, no, (hW.rf f116 hP).of hP (OF.w Fr.rf 6 3), d1.2.elim Or.inl (fun q => by obtain ⟨ms2, s2, a2, q1, q2, q3⟩ := q; exact Or.inr (Or.inr ⟨a2, by omega, Or.inr (Or.inr (Or.inr ⟨rfl, WE.next hP f116 3 q2 q3 (by omega) hB2 hgt hn2 hn4 hnc⟩))⟩))⟩
                    clear eS135
                    refine mv_iload (pc := 135) B d_Weaver_weave_135 0 rfl ?_
                    refine mv_iconst (pc := 137) (v := 2) B d_Weaver_weave_137 (by decide) ?_
                    refine mv_icmp_ne (pc := 138) (tgt := 145) B d_Weaver_weave_138 rfl (fun h138 => ?_) (fun h138 => ?_)
                    · skip
                      have go := go1 h138
                      refine mv_lpick [1, 2] rfl ?_
                      exact go
                    · skip
                      have e135 := hmm (by rw [h138]; decide)
                      subst e135
                      have hG142 := hG.wt (WT.w (P := 145) f116.wt 6 3) hP
                      have hM142 : Mt (mv_a (mv_si σ116 2 6 3) 24) := m116
                      have hW142 := (hW.rf f116 hP).of hP (OF.w Fr.rf 6 3)
                      have i2 : ∀ k, k ≠ 6 → mv_i (mv_si σ116 2 6 3) 2 k = mv_i τ 2 k := fun k q => (ri_ne (by omega)).trans (f116.1 2 k (by omega))
                      have a7 : mv_a σ116 152 = mv_a τ 152 := f116.2.1 _ (by decide)
                      obtain ⟨-, s2, hX2, hI2⟩ := d116.resolve_right (fun q => by rw [h138] at q; exact absurd q.1 (by decide))
                      have hX142 : XM 145 th e0 bs (BLx th e0 f0 g0 (mv_a (mv_si σ116 2 6 3) 152) no ol (mv_i (mv_si σ116 2 6 3) 2 7 = 4 ∨ 0 ≤ (mv_i (mv_si σ116 2 6 3) 2 9).toInt)) f0 g0 ns9 (mv_si σ116 2 6 3) [] 1 1 s2 := by
                        rw [i2 7 (by decide), i2 9 (by decide)]
                        show XM 145 th e0 bs (BLx th e0 f0 g0 (mv_a σ116 152) no ol _) f0 g0 ns9 (mv_si σ116 2 6 3) [] 1 1 s2
                        rw [a7]
                        exact hX2.fr rfl rfl rfl rfl rfl rfl rfl rfl rfl
                      have hI142 : TI (mv_si σ116 2 6 3) sz bd [] s2 a9 := hI2.up rfl (Nat.le_refl _) (Nat.le_refl _) hI2.2.2.2.2.2.2
                      have hb15 : (mv_i (mv_si σ116 2 6 3) 2 15).toInt = bl.length := by rw [i2 15 (by decide)]; exact hB2.2.1
                      have hBk : BkR (mv_a (mv_si σ116 2 6 3) 28) (mv_a (mv_si σ116 2 6 3) 29) (mv_a (mv_si σ116 2 6 3) 30) (mv_a (mv_si σ116 2 6 3) 31) g0 (mv_i (mv_si σ116 2 6 3) 13 7).toInt bl := by
                        show BkR (mv_a σ116 28) (mv_a σ116 29) (mv_a σ116 30) (mv_a σ116 31) g0 (mv_i σ116 13 7).toInt bl
                        rw [f116.2.1 28 (by decide), f116.2.1 29 (by decide), f116.2.1 30 (by decide), f116.2.1 31 (by decide), f116.1 13 7 (by decide)]
                        exact hB2.2.2.1
                      have hGl : Gl (mv_i (mv_si σ116 2 6 3) 2 7) bs bd bl.length (mv_i (mv_si σ116 2 6 3) 2 9).toInt n th (mv_i (mv_si σ116 2 6 3) 13 9).toInt := by
                        rw [i2 7 (by decide), i2 9 (by decide), show mv_i (mv_si σ116 2 6 3) 13 9 = mv_i τ 13 9 from f116.1 13 9 (by decide)]
                        exact hB2.2.2.2.2.1
                      have hGx : Gx (mv_i (mv_si σ116 2 6 3) 2 7) g0 (mv_i (mv_si σ116 2 6 3) 2 10) bl ol := by rw [i2 7 (by decide), i2 10 (by decide)]; exact hB2.2.2.2.2.2
                      have hgt2 : mv_i (mv_si σ116 2 6 3) 2 7 = 1 ∨ (0 ≤ (mv_i (mv_si σ116 2 6 3) 2 8).toInt ∧ (mv_i (mv_si σ116 2 6 3) 2 8).toInt < 32770) := by rw [i2 7 (by decide), i2 8 (by decide)]; exact hgt
                      have hn42 : mv_i (mv_si σ116 2 6 3) 2 7 = 1 ∨ mv_i (mv_si σ116 2 6 3) 2 7 = 2 ∨ mv_i (mv_si σ116 2 6 3) 2 7 = 3 → 2 * ns9 + 4 ≤ a9 := by rw [i2 7 (by decide)]; exact hn4
                      have hnc2 : no ≤ nCd (mv_a (mv_si σ116 2 6 3) 4) a9 := by show no ≤ nCd (mv_a σ116 4) a9; rw [f116.2.1 4 (by decide)]; exact hnc
                      refine mv_aload_n (pc := 141) B d_Weaver_weave_141 rfl 2 rfl ?_
                      refine mv_callVv (pc := 142) (n := 0) (ci := 1) (C := R_Weaver) B (mK_ok sk sv) hNs rfl rfl (c_Weaver_finish_c l hi _ hG142 hM142 hW142 hX142 hI142 hB2.1 hb15 hBk hB2.2.2.2.1 hGl hGx hgt2 hn2 hn42 hnc2) rfl (ma_goodc kc_Weaver_finish) (B.2.2.2.1 _ k_1522) (B.2.2.2.1 _ k_1524) (B.2.2.2.1 _ ks_65) (B.2.2.2.1 _ k_2) ⟨by decide +kernel, by decide +kernel, by decide +kernel⟩ rfl d_Weaver_weave_142 rfl (Nat.le_of_ble_eq_true rfl) ⟨by decide, by decide⟩ ⟨by decide, by decide⟩ ⟨by decide, by decide⟩ (mv_noH hno _) (fun σ142 h142 => ?_)
                      have go := j145 σ142 (by omega) ((hV.tr (WT.w (P := 145) f116.wt 6 3)).tr h142.1) h142.2.1 (h142.lq _ (by omega))
                      refine mv_lpick [1, 2] rfl ?_
                      exact go
                · skip
                  have hWE : WE 145 τ n sz th no a9 0 := by
                    rcases hWM with ⟨q, -⟩ | ⟨q, -⟩ | ⟨-, q⟩ | ⟨q, -⟩
                    · rw [h87] at q; exact absurd q (by decide)
                    · rw [h87] at q; exact absurd q (by decide)
                    · exact q
                    · rw [h87] at q; exact absurd q (by decide)
                  obtain ⟨e0, bs, bd, s9, ns9, f0, g0, bl, ol, ms, ⟨hX, hI⟩, hB2, hgt, hn2, hn4, hnc⟩ := hWE
                  have hbs := hB2.2.2.2.2.1.bs
                  have hB9 : SB 145 τ t len n z sz th sl := ⟨hG.1, hG.2.2.1, hW.1, hW.2.1⟩
                  refine mv_aload_n (pc := 90) B d_Weaver_weave_90 rfl 1 rfl ?_
                  refine mv_aload_n (pc := 91) B d_Weaver_weave_91 rfl 1 rfl ?_
                  refine mv_getR (pc := 92) (ci := 1) (C := R_Weaver) (T := F_Weaver) (N := 16) B 3 rfl rfl (by decide) i_Weaver (B.2.2.2.1 _ k_232) rfl (hR.1 _ 3 _ rfl) d_Weaver_weave_92 ?_
                  refine mv_callVi (pc := 95) (n := 0) (ci := 6) (C := R_Exprs) B (mK_ok sk sv) hNs rfl rfl (c_Exprs_operand_c l hi _ hB9 ht2 hX hI hG.2.2.2.2.1 hbs) rfl (ma_goodc kc_Exprs_operand) (B.2.2.2.1 _ k_1410) (B.2.2.2.1 _ k_1411) (B.2.2.2.1 _ k_1412) (B.2.2.2.1 _ k_7) ⟨by decide +kernel, by decide +kernel, by decide +kernel⟩ rfl d_Weaver_weave_95 rfl (Nat.le_of_ble_eq_true rfl) ⟨by decide, by decide⟩ ⟨by decide, by decide⟩ ⟨by decide, by decide⟩ (mv_noH hno _) (fun v95 σ95 h95 => ?_)
                  obtain ⟨f95, m95, v95z, d95⟩ := h95
                  have go := fun (mm : Int32) (hmm : (mm = 3 ∧ v95 = 1) ∨ (mm = 2 ∧ v95 = 0)) => j145 (mv_si σ95 2 6 mm) (by omega) (WT.w (P := 145) (hV.tr f95.wt) 6 mm) m95 ⟨th, sl, no, (hW.rf f95 hP).of hP (OF.w Fr.rf 6 mm), d95.elim Or.inl (fun q => by obtain ⟨ms2, s2, a2, q1, q2, q3⟩ := q; exact Or.inr (Or.inr ⟨a2, by omega, by rcases hmm with ⟨e1, e2⟩ | ⟨e1, e2⟩ <;> (subst e1; subst e2; first | exact Or.inr (Or.inr (Or.inr ⟨rfl, WE.next hP f95 3 q2 q3 (by omega) hB2 hgt hn2 hn4 hnc⟩)) | exact Or.inr (Or.inr (Or.inl ⟨rfl, WE.next hP f95 2 q2 q3 (by omega) hB2 hgt hn2 hn4 hnc⟩)))⟩))⟩
                  refine mv_if_eq (pc := 98) (tgt := 105) B d_Weaver_weave_98 rfl (fun h98 => ?_) (fun h98 => ?_)
                  · skip
                    have go := go 2 (Or.inr ⟨rfl, h98⟩)
                    refine mv_iconst (pc := 105) (v := 2) B d_Weaver_weave_105 (by decide) ?_
                    refine mv_putI (pc := 106) (ci := 1) (C := R_Weaver) (T := F_Weaver) (N := 16) B 6 rfl rfl (by decide) i_Weaver t_Weaver_ok n_Weaver (B.2.2.2.1 _ k_236) rfl rfl rfl rfl d_Weaver_weave_106 ?_
                    refine mv_goto (pc := 109) (tgt := 145) B d_Weaver_weave_109 rfl ?_
                    refine mv_lpick [0, 1] rfl ?_
                    exact go
                  · skip
                    have go := go 3 (Or.inl ⟨rfl, v95z.resolve_left h98⟩)
                    refine mv_iconst (pc := 101) (v := 3) B d_Weaver_weave_101 (by decide) ?_
                    refine mv_goto (pc := 102) (tgt := 106) B d_Weaver_weave_102 rfl ?_
                    refine mv_putI (pc := 106) (ci := 1) (C := R_Weaver) (T := F_Weaver) (N := 16) B 6 rfl rfl (by decide) i_Weaver t_Weaver_ok n_Weaver (B.2.2.2.1 _ k_236) rfl rfl rfl rfl d_Weaver_weave_106 ?_
                    refine mv_goto (pc := 109) (tgt := 145) B d_Weaver_weave_109 rfl ?_
                    refine mv_lpick [0, 1] rfl ?_
                    exact go
              · skip
                obtain ⟨s9, ns9, bl9, hne, hS0⟩ : ∃ s ns bl, ¬ bl = [] ∧ WS 145 τ sz th s a9 ns no bl := by
                  rcases hWM with ⟨q, -⟩ | ⟨-, q⟩ | ⟨q, -⟩ | ⟨q, -⟩
                  · rw [h72] at q; exact absurd q (by decide)
                  · exact q
                  · rw [h72] at q; exact absurd q (by decide)
                  · rw [h72] at q; exact absurd q (by decide)
                refine mv_aload_n (pc := 75) B d_Weaver_weave_75 rfl 1 rfl ?_
                refine mv_callVv (pc := 76) (n := 0) (ci := 1) (C := R_Weaver) B (mK_ok sk sv) hNs rfl rfl (c_Weaver_statement_c l hi _ hG hMt hW hS0 hne h72) rfl (ma_goodc kc_Weaver_statement) (B.2.2.2.1 _ k_1363) (B.2.2.2.1 _ k_1365) (B.2.2.2.1 _ ks_42) (B.2.2.2.1 _ k_2) ⟨by decide +kernel, by decide +kernel, by decide +kernel⟩ rfl d_Weaver_weave_76 rfl (Nat.le_of_ble_eq_true rfl) ⟨by decide, by decide⟩ ⟨by decide, by decide⟩ ⟨by decide, by decide⟩ (mv_noH hno _) (fun σ76 h76 => ?_)
                have go := j145 σ76 (by omega) (hV.tr h76.1) h76.2.1 (h76.lq _ (by omega))
                refine mv_goto (pc := 79) (tgt := 145) B d_Weaver_weave_79 rfl ?_
                refine mv_lpick [0, 1] rfl ?_
                exact go
            · skip
              obtain ⟨s9, ns9, hS0⟩ : ∃ s ns, WS 145 τ sz th s a9 ns no [] := by
                rcases hWM with ⟨-, q⟩ | ⟨q, -⟩ | ⟨q, -⟩ | ⟨q, -⟩
                · exact q
                · rw [h57] at q; exact absurd q (by decide)
                · rw [h57] at q; exact absurd q (by decide)
                · rw [h57] at q; exact absurd q (by decide)
              refine mv_aload_n (pc := 60) B d_Weaver_weave_60 rfl 1 rfl ?_
              refine mv_callVv (pc := 61) (n := 0) (ci := 1) (C := R_Weaver) B (mK_ok sk sv) hNs rfl rfl (c_Weaver_item_c l hi _ hG hMt hW hS0 h57) rfl (ma_goodc kc_Weaver_item) (B.2.2.2.1 _ k_1295) (B.2.2.2.1 _ k_1297) (B.2.2.2.1 _ ks_33) (B.2.2.2.1 _ k_2) ⟨by decide +kernel, by decide +kernel, by decide +kernel⟩ rfl d_Weaver_weave_61 rfl (Nat.le_of_ble_eq_true rfl) ⟨by decide, by decide⟩ ⟨by decide, by decide⟩ ⟨by decide, by decide⟩ (mv_noH hno _) (fun σ61 h61 => ?_)
              have go := j145 σ61 (by omega) (by rcases h61 with q | q; exact hV.tr q.1; rw [q]; exact hV.w 6 4) (by rcases h61 with q | q; exact q.2.1; rw [q]; exact hMt) (by rcases h61 with q | q; exact q.lq _ (by omega); rw [q]; exact ⟨th, sl, no, hW.of hP (OF.w Fr.rf 6 4), Or.inr (Or.inl ⟨rfl, s9, a9, ns9, hS0.fr hP rfl rfl rfl rfl rfl rfl rfl rfl rfl rfl rfl rfl (fun q => q)⟩)⟩)
              refine mv_goto (pc := 64) (tgt := 145) B d_Weaver_weave_64 rfl ?_
              refine mv_lpick [0, 1] rfl ?_
              exact go
  refine mv_aload_n (pc := 0) B d_Weaver_weave_0 rfl 0 rfl ?_
  refine mv_aload_n (pc := 1) B d_Weaver_weave_1 rfl 3 rfl ?_
  refine mv_callVv (pc := 2) (n := 1) (ci := 1) (C := R_Weaver) B (mK_ok sk sv) hNs rfl rfl (c_Weaver_begin_c l hi _ hm hq) rfl (ma_goodc kc_Weaver_begin) (B.2.2.2.1 _ k_780) (B.2.2.2.1 _ k_782) (B.2.2.2.1 _ ks_16) (B.2.2.2.1 _ k_2) ⟨by decide +kernel, by decide +kernel, by decide +kernel⟩ rfl d_Weaver_weave_2 rfl (Nat.le_of_ble_eq_true rfl) ⟨by decide, by decide⟩ ⟨by decide, by decide⟩ ⟨by decide, by decide⟩ (mv_noH hno _) (fun σ2 h2 => ?_)
  obtain ⟨e2, hR⟩ := h2
  subst e2
  have ett : mv_a (w_beg 145 σ) t = mv_a σ t := rfl
  refine mv_aload_n (pc := 5) B d_Weaver_weave_5 rfl 0 rfl ?_
  refine mv_getR (pc := 6) (ci := 1) (C := R_Weaver) (T := F_Weaver) (N := 16) B 0 rfl rfl (by decide) i_Weaver (B.2.2.2.1 _ k_228) rfl (hR.1 _ 0 _ rfl) d_Weaver_weave_6 ?_
  refine mv_aload_n (pc := 9) B d_Weaver_weave_9 rfl 1 rfl ?_
  refine mv_iload_n (pc := 10) B d_Weaver_weave_10 rfl 2 rfl ?_
  refine mv_callVv (pc := 11) (n := 2) (ci := 2) (C := R_Tokens) B (mK_ok sk sv) hNs rfl rfl (c_Tokens_cut l hi _ t tn len _ hR.1 hts ht2 hw hl1 hl2 (by rw [ett]; exact hby8) hk0 hp0 hb0) rfl (ma_goodc kc_Tokens_cut) (B.2.2.2.1 _ k_789) (B.2.2.2.1 _ k_790) (B.2.2.2.1 _ k_791) (B.2.2.2.1 _ k_3) ⟨by decide +kernel, by decide +kernel, by decide +kernel⟩ rfl d_Weaver_weave_11 rfl (Nat.le_of_ble_eq_true rfl) ⟨by decide, by decide⟩ ⟨by decide, by decide⟩ ⟨by decide, by decide⟩ (mv_noH hno _) (fun σ11 h11 => ?_)
  obtain ⟨g11, x11, t11, k11, i117, i118, i119⟩ := h11
  obtain ⟨n, z, sz, hSy, hTk, hs2, hs3, hs4, hs5, hs6⟩ := k11
  have hR : Rw 145 (mv_r σ11) := by rw [g11.2.2.2.2]; exact ⟨mh_sr hR.1 rfl, Ph_sr hP hR.2.1 (by omega), hR.2.2.1, hR.2.2.2⟩
  have i13 : ∀ k, mv_i σ11 13 k = mv_i σ 13 k := fun k => (g11.1 13 k (by omega)).trans (by show mv_i (w_beg 145 σ) 13 k = mv_i σ 13 k; rfl)
  have a19 : mv_a σ11 19 = mv_a σ 19 := g11.2.1 19 (by decide)
  have hNs11 : Ns σ11 := by unfold Ns; rw [i13, a19]; exact hNs0
  have iP : ∀ k, mv_i σ11 145 k = mv_i (w_beg 145 σ) 145 k := fun k => g11.1 145 k (by omega)
  have i2 : ∀ k, mv_i σ11 2 k = mv_i (w_beg 145 σ) 2 k := fun k => g11.1 2 k (by omega)
  refine mv_aload_n (pc := 14) B d_Weaver_weave_14 rfl 0 rfl ?_
  refine mv_getR (pc := 15) (ci := 1) (C := R_Weaver) (T := F_Weaver) (N := 16) B 1 rfl rfl (by decide) i_Weaver (B.2.2.2.1 _ k_229) rfl (hR.1 _ 1 _ rfl) d_Weaver_weave_15 ?_
  refine mv_callVv (pc := 18) (n := 0) (ci := 4) (C := R_Names) B (mK_ok sk sv) hNs rfl rfl (c_Names_clear l hi _ hR.1 n z hSy hNs11) rfl (ma_goodc kc_Names_clear) (B.2.2.2.1 _ k_944) (B.2.2.2.1 _ k_945) (B.2.2.2.1 _ k_946) (B.2.2.2.1 _ k_5) ⟨by decide +kernel, by decide +kernel, by decide +kernel⟩ rfl d_Weaver_weave_18 rfl (Nat.le_of_ble_eq_true rfl) ⟨by decide, by decide⟩ ⟨by decide, by decide⟩ ⟨by decide, by decide⟩ (mv_noH hno _) (fun σ18 h18 => ?_)
  obtain ⟨f18, n18, i187, i189⟩ := h18
  have hR : Rw 145 (mv_r σ18) := by rw [f18.2.2.2.2]; exact hR
  have v18 : WT 145 σ11 σ18 := f18.up (fun o k q => by omega) (fun o q => by omega) (fun o q => by omega)
  have hG11 : WG 145 8192 48 me σ11 t tn len n z sz := ⟨by rw [← f18.2.2.2.2]; exact hR, x11, ⟨hSy, hTk, hs2, hs3, hs4, hs5⟩, hM9.elim Or.inl (fun q => Or.inr (by have : qc (mv_a σ11 t) len = qc (mv_a σ t) len := by { rw [t11]; rfl }; omega)), hlR, hl10⟩
  have hG18 := hG11.wt v18 hP
  have hF18 : VG 145 (w_base 145 t σ) σ18 := ((VG.beg 145 t σ).tr (g11.up (fun o k q => by omega) (fun o q => by omega) (fun o q => by omega))).tr v18.vg
  have hM18 : Mt (mv_a σ18 24) := by rw [f18.2.1 24 (by decide), g11.2.1 24 (by decide)]; exact hMt0
  have jP : ∀ k, mv_i σ18 145 k = mv_i (w_beg 145 σ) 145 k := fun k => (f18.1 145 k (by omega)).trans (iP k)
  have j2 : ∀ k, mv_i σ18 2 k = mv_i (w_beg 145 σ) 2 k := fun k => (f18.1 2 k (by omega)).trans (i2 k)
  have hW18 : WN 145 48 σ18 n 0 0 0 := ⟨fun y hy => by rw [n18 y hy]; exact ⟨fun q => absurd q (by decide), fun q => absurd q (by decide)⟩, ⟨by rw [jP]; rfl, by omega, by rw [jP]; rfl, by omega, by rw [jP]; show (0 : Int) ≤ (8 : Int32).toInt; decide, by rw [jP]; show (8 : Int32).toInt ≤ 64; decide, fun q hq => absurd hq (by omega), Or.inl ⟨by rw [jP]; show (-1 : Int32).toInt < 0; decide, by rw [jP]; show (-1 : Int32).toInt < 0; decide⟩⟩, ⟨by rw [i187]; decide, by rw [i187]; decide, fun i hi => by rw [i187] at hi; exact absurd hi (by show ¬ i < 0; omega)⟩, ⟨by rw [i187, i189]; decide, by rw [i189]; decide⟩, ⟨0, by rw [jP]; rfl, by omega, by omega⟩, by rw [jP]; rfl, by omega⟩
  have hK18 : KX 145 σ18 0 0 0 0 [] [] 0 True := ⟨⟨by rw [j2]; rfl, trivial, fun b hb => absurd hb List.not_mem_nil⟩, by rw [jP]; rfl, rfl, fun _ => ⟨trivial, fun _ => 0, fun _ => Nat.zero_le _, rfl, fun a q => absurd q (by omega), fun b hb => absurd hb List.not_mem_nil, fun j q => absurd q (by omega)⟩⟩
  have hm18 : mv_i σ18 2 6 = 0 := by rw [j2]; rfl
  have ht18 : (mv_i σ18 3 7).toInt = 1 := by rw [f18.1 3 7 (by decide), i117]; rfl
  have hd18 : (mv_i σ18 3 8).toInt = 0 := by rw [f18.1 3 8 (by decide), i118]; rfl
  refine mv_aload_n (pc := 21) B d_Weaver_weave_21 rfl 0 rfl ?_
  refine mv_callVv (pc := 22) (n := 0) (ci := 1) (C := R_Weaver) B (mK_ok sk sv) hNs rfl rfl (c_Weaver_readBits_c l hi _ hG18 hM18 hW18 rfl hK18 hm18 ht18 hd18) rfl (ma_goodc kc_Weaver_readBits) (B.2.2.2.1 _ k_1262) (B.2.2.2.1 _ k_1264) (B.2.2.2.1 _ ks_31) (B.2.2.2.1 _ k_2) ⟨by decide +kernel, by decide +kernel, by decide +kernel⟩ rfl d_Weaver_weave_22 rfl (Nat.le_of_ble_eq_true rfl) ⟨by decide, by decide⟩ ⟨by decide, by decide⟩ ⟨by decide, by decide⟩ (mv_noH hno _) (fun σ22 h22 => ?_)
  refine mv_iconst (pc := 25) (v := 0) B d_Weaver_weave_25 (by decide) ?_
  refine mv_istore (pc := 26) B d_Weaver_weave_26 (by decide) rfl ?_
  refine mv_lpick [0, 1] rfl ?_
  exact lp _ σ18 n z sz σ22 0 hG18 hF18 h22.1 h22.2.1 (by decide) (by decide) (h22.lq _ (by decide)) (Nat.lt_succ_self _)
