/-! Weaver: op -/
section OPS
variable {P M : Nat} {σ τ : mv_H}
/-- names and THINGS stay where only blocks, TOKENS and faults change -/
abbrev OF (P : Nat) : mv_H → mv_H → Prop := Fr (fun o k => (o = 3 ∧ 7 ≤ k ∧ k ≤ 9) ∨ o = 21 ∨ o = 2 ∨ o = 22 ∨ (o = P ∧ k = 17)) (fun o => o = 16 ∨ o = 17 ∨ (23 ≤ o ∧ o ≤ 31) ∨ o = P + 9) (fun o => o = 18 ∨ o = P + 10)
theorem OF.wt (h : OF P σ τ) : WT P σ τ := h.up (fun o k q => by omega) (fun o q => by omega) (fun o q => by omega)
theorem WN.of {n th sl no : Nat} (h : WN P M σ n th sl no) (hP : PQ P) (g : OF P σ τ) : WN P M τ n th sl no := by
  unfold PQ at hP
  exact h.fr (funext fun k => g.1 13 k (by omega)) (g.1 P 0 (by omega)) (g.1 P 1 (by omega)) (g.1 P 6 (by omega)) (g.1 P 7 (by omega)) (g.1 P 8 (by omega)) (g.1 P 9 (by omega)) (g.1 P 10 (by omega)) (g.2.1 14 (by omega)) (g.2.1 15 (by omega)) (g.2.1 19 (by omega)) (g.2.1 (P + 2) (by omega)) (g.2.1 (P + 3) (by omega))
theorem OF.tk3 (h : OF P σ τ) (a d w : Int32) : OF P σ (tk3 τ a d w) := ((h.si (Or.inl ⟨rfl, by omega, by omega⟩)).si (Or.inl ⟨rfl, by omega, by omega⟩)).si (Or.inl ⟨rfl, by omega, by omega⟩)
theorem OF.wb (h : OF P σ τ) (k u x : Int32) : OF P σ (wb τ k u x) := (((((h.sa (Or.inr (Or.inr (Or.inl ⟨by omega, by omega⟩)))).sa (Or.inr (Or.inr (Or.inl ⟨by omega, by omega⟩)))).sa (Or.inr (Or.inr (Or.inl ⟨by omega, by omega⟩)))).sa (Or.inr (Or.inr (Or.inl ⟨by omega, by omega⟩)))).si (Or.inr (Or.inr (Or.inl rfl)))).si (Or.inr (Or.inr (Or.inl rfl)))
theorem OF.tell (h : OF P σ τ) (x y : Int32) : OF P σ (ex_tell τ x y) := (h.si (Or.inr (Or.inl rfl))).si (Or.inr (Or.inl rfl))
theorem OF.en (h : OF P σ τ) {υ : mv_H} (g : EnF τ υ) : OF P σ υ := h.tr (g.up (fun _ _ q => q.elim) (fun o q => Or.inr (Or.inl q)) (fun o q => Or.inl q))
theorem OF.emit (h : OF P σ τ) (d : Int32) (w : Int64) : OF P σ (pr_emit P τ d w) := ((h.sa (Or.inr (Or.inr (Or.inr rfl)))).sb (Or.inr rfl)).si (Or.inr (Or.inr (Or.inr (Or.inr ⟨rfl, rfl⟩))))
theorem OF.aim (h : OF P σ τ) (i : Nat) (w : Int64) : OF P σ (mv_sb τ (P + 10) i w) := h.sb (Or.inr rfl)
theorem OF.w (h : OF P σ τ) (k : Nat) (v : Int32) : OF P σ (mv_si τ 2 k v) := h.si (Or.inr (Or.inr (Or.inl rfl)))
theorem OF.e (h : OF P σ τ) (k : Nat) (v : Int32) : OF P σ (mv_si τ 22 k v) := h.si (Or.inr (Or.inr (Or.inr (Or.inl rfl))))
/-- WS where nothing but names' letters, ops' NAMES and faults changed -/
theorem WS.fr {sz th s a ns no : Nat} {bl : List Bk} (h : WS P σ sz th s a ns no bl) (hP : PQ P) (e3 : mv_i τ 3 = mv_i σ 3) (e2 : mv_i τ 2 15 = mv_i σ 2 15) (e13 : mv_i τ 13 7 = mv_i σ 13 7) (e17 : mv_i τ P 17 = mv_i σ P 17) (a4 : mv_a τ 4 = mv_a σ 4) (a28 : mv_a τ 28 = mv_a σ 28) (a29 : mv_a τ 29 = mv_a σ 29) (a30 : mv_a τ 30 = mv_a σ 30) (a31 : mv_a τ 31 = mv_a σ 31) (a9 : mv_a τ (P + 9) = mv_a σ (P + 9)) (b10 : mv_b τ (P + 10) = mv_b σ (P + 10)) (a7 : mv_a τ (P + 7) = mv_a σ (P + 7)) (hN : mv_i τ 21 0 = 0 → mv_i σ 21 0 = 0) : WS P τ sz th s a ns no bl := by
  obtain ⟨h1, h2, h3, h4, h5⟩ := h
  unfold WS
  rw [e3, e2, e13, e17, a4, a28, a29, a30, a31, a9, b10, a7]
  exact ⟨h1, h2, h3, h4, fun q => h5 (hN q)⟩
/-- an op more, at a place of height 0 -/
theorem WS.addOp {sz th s a ns no : Nat} {bl : List Bk} (h : WS P σ sz th s a ns no bl) (hP : PQ P) (g : pr_op P σ τ) (ho : (mv_i σ P 10).toInt = no) (hc : no + 1 ≤ nCd (mv_a σ 4) a) : WS P τ sz th s a ns (no + 1) bl := by
  obtain ⟨g1, g2, g3⟩ := g
  obtain ⟨⟨h1, h2, h3, h4, h5, h6, h7, h8⟩, ⟨h9, h10, h11⟩, h12, h13, h14⟩ := h
  have ec : (mv_i σ P 10).toNatClampNeg = no := by have := i32_cl (x := mv_i σ P 10) (by omega); omega
  unfold PQ at hP
  have e3 : mv_i τ 3 = mv_i σ 3 := funext fun k => g1.1 3 k (by omega)
  unfold WS
  rw [e3, g1.2.1 4 (by omega), g1.1 2 15 (by omega), g1.2.1 28 (by omega), g1.2.1 29 (by omega), g1.2.1 30 (by omega), g1.2.1 31 (by omega), g1.2.2.1 (P + 10) (by omega), g1.1 13 7 (by omega), g1.2.1 (P + 9) (by omega), g1.1 P 17 (by omega), g1.1 21 0 (by omega)]
  exact ⟨⟨h1, h2, h3, h4, h5, h6, h7, hc⟩, ⟨h9, h10, h11⟩, h12, h13, fun q => by obtain ⟨hg, k⟩ := h14 q; exact ⟨hg, k.start h12 (fun j => by rw [g3, ec])⟩⟩
theorem WN.addOp {n th sl no : Nat} (h : WN P M σ n th sl no) (hP : PQ P) (g : pr_op P σ τ) (hc : no < M) (hM : M ≤ 512) : WN P M τ n th sl (no + 1) := by
  obtain ⟨g1, g2, -⟩ := g
  obtain ⟨h1, h2, h3, h4, h5, h6, h7⟩ := h
  unfold PQ at hP
  unfold WN NM Th Ns at *
  rw [g2, g1.1 13 7 (by omega), g1.1 13 9 (by omega), g1.1 P 0 (by omega), g1.1 P 1 (by omega), g1.1 P 6 (by omega), g1.1 P 7 (by omega), g1.1 P 8 (by omega), g1.1 P 9 (by omega), g1.2.1 14 (by omega), g1.2.1 15 (by omega), g1.2.1 19 (by omega), g1.2.1 (P + 2) (by omega), g1.2.1 (P + 3) (by omega)]
  exact ⟨h1, h2, h3, h4, h5, by rw [i32_inc (by omega)]; omega, by omega⟩
end OPS
theorem nCd_at {f : Nat → Int32} {a b : Nat} (h : f a = 5) (hab : a < b) : nCd f a + 1 ≤ nCd f b := by
  have h1 : nCd f (a + 1) = nCd f a + 1 := by show nCd f a + _ = _; rw [if_pos h]
  have h2 := nCd_mono f (show a + 1 ≤ b by omega)
  omega
def y_Weaver_op : MethodName := ⟨"MachineLoom$Weaver", "op", "()V"⟩
abbrev b_Weaver_op : ByteArray := prog_12_method_13_code
theorem kc_Weaver_op : Cond.code y_Weaver_op b_Weaver_op 6 (Option.none : Option Jvm.ClassFile.FieldType) ∈ ma := ma_of (tb_6 _ (List.mem_of_getElem? (i := 144) rfl)) rfl
theorem k_140 : (Jvm.Cond.fieldLink "MachineLoom$Weaver" (221 : Nat) "MachineLoom$Names" "ops" "[B") ∈ ma := ma_of (tb_1 _ (List.mem_of_getElem? (i := 140) rfl)) rfl
theorem k_99 : (Jvm.Cond.fieldLink "MachineLoom$Weaver" (227 : Nat) "MachineLoom$Tokens" "text" "[B") ∈ ma := ma_of (tb_1 _ (List.mem_of_getElem? (i := 99) rfl)) rfl
theorem k_313 : (Jvm.Cond.fieldLink "MachineLoom$Weaver" (155 : Nat) "MachineLoom$Program" "length" "I") ∈ ma := ma_of (tb_2 _ (List.mem_of_getElem? (i := 73) rfl)) rfl
theorem k_1358 : (Jvm.Cond.methodLink "MachineLoom$Weaver" (233 : Nat) ({ cls := "MachineLoom$Names", name := "enterOp", desc := "([BIII)V" } : Jvm.MethodName)) ∈ ma := ma_of (tb_6 _ (List.mem_of_getElem? (i := 158) rfl)) rfl
theorem k_1359 : (Jvm.Cond.instanceMethod ({ cls := "MachineLoom$Names", name := "enterOp", desc := "([BIII)V" } : Jvm.MethodName)) ∈ ma := ma_of (tb_6 _ (List.mem_of_getElem? (i := 159) rfl)) rfl
theorem k_1360 : (Jvm.Cond.selects "MachineLoom$Names" ({ cls := "MachineLoom$Names", name := "enterOp", desc := "([BIII)V" } : Jvm.MethodName) ({ cls := "MachineLoom$Names", name := "enterOp", desc := "([BIII)V" } : Jvm.MethodName)) ∈ ma := ma_of (tb_6 _ (List.mem_of_getElem? (i := 160) rfl)) rfl
theorem k_347 : (Jvm.Cond.fieldLink "MachineLoom$Weaver" (225 : Nat) "MachineLoom$Program" "ops" "I") ∈ ma := ma_of (tb_2 _ (List.mem_of_getElem? (i := 107) rfl)) rfl
theorem k_1354 : (Jvm.Cond.methodLink "MachineLoom$Weaver" (230 : Nat) ({ cls := "MachineLoom$Program", name := "addOp", desc := "([BI)V" } : Jvm.MethodName)) ∈ ma := ma_of (tb_6 _ (List.mem_of_getElem? (i := 154) rfl)) rfl
theorem k_1355 : (Jvm.Cond.instanceMethod ({ cls := "MachineLoom$Program", name := "addOp", desc := "([BI)V" } : Jvm.MethodName)) ∈ ma := ma_of (tb_6 _ (List.mem_of_getElem? (i := 155) rfl)) rfl
theorem k_1356 : (Jvm.Cond.selects "MachineLoom$Program" ({ cls := "MachineLoom$Program", name := "addOp", desc := "([BI)V" } : Jvm.MethodName) ({ cls := "MachineLoom$Program", name := "addOp", desc := "([BI)V" } : Jvm.MethodName)) ∈ ma := ma_of (tb_6 _ (List.mem_of_getElem? (i := 156) rfl)) rfl
theorem k_1345 : (Jvm.Cond.methodLink "MachineLoom$Weaver" (218 : Nat) ({ cls := "MachineLoom$Weaver", name := "openBlock", desc := "(III)V" } : Jvm.MethodName)) ∈ ma := ma_of (tb_6 _ (List.mem_of_getElem? (i := 145) rfl)) rfl
theorem k_1347 : (Jvm.Cond.instanceMethod ({ cls := "MachineLoom$Weaver", name := "openBlock", desc := "(III)V" } : Jvm.MethodName)) ∈ ma := ma_of (tb_6 _ (List.mem_of_getElem? (i := 147) rfl)) rfl
theorem ks_41 : Cond.selects "MachineLoom$Weaver" ⟨"MachineLoom$Weaver", "openBlock", "(III)V"⟩ ⟨"MachineLoom$Weaver", "openBlock", "(III)V"⟩ ∈ ma := ma_sel 41 rfl rfl
theorem d_Weaver_op_0 : decode b_Weaver_op 0 = .ok (.aload_n 0, 1) := by decide +kernel
theorem d_Weaver_op_1 : decode b_Weaver_op 1 = .ok (.getfield 12, 3) := by decide +kernel
theorem d_Weaver_op_4 : decode b_Weaver_op 4 = .ok (.sipush 206, 3) := by decide +kernel
theorem d_Weaver_op_7 : decode b_Weaver_op 7 = .ok (.invokevirtual 143, 3) := by decide +kernel
theorem d_Weaver_op_10 : decode b_Weaver_op 10 = .ok (.pop, 1) := by decide +kernel
theorem d_Weaver_op_11 : decode b_Weaver_op 11 = .ok (.aload_n 0, 1) := by decide +kernel
theorem d_Weaver_op_12 : decode b_Weaver_op 12 = .ok (.getfield 12, 3) := by decide +kernel
theorem d_Weaver_op_15 : decode b_Weaver_op 15 = .ok (.iconst 3, 1) := by decide +kernel
theorem d_Weaver_op_16 : decode b_Weaver_op 16 = .ok (.invokevirtual 143, 3) := by decide +kernel
theorem d_Weaver_op_19 : decode b_Weaver_op 19 = .ok (.istore_n 1, 1) := by decide +kernel
theorem d_Weaver_op_20 : decode b_Weaver_op 20 = .ok (.aload_n 0, 1) := by decide +kernel
theorem d_Weaver_op_21 : decode b_Weaver_op 21 = .ok (.getfield 12, 3) := by decide +kernel
theorem d_Weaver_op_24 : decode b_Weaver_op 24 = .ok (.iconst 5, 1) := by decide +kernel
theorem d_Weaver_op_25 : decode b_Weaver_op 25 = .ok (.invokevirtual 143, 3) := by decide +kernel
theorem d_Weaver_op_28 : decode b_Weaver_op 28 = .ok (.istore_n 2, 1) := by decide +kernel
theorem d_Weaver_op_29 : decode b_Weaver_op 29 = .ok (.aload_n 0, 1) := by decide +kernel
theorem d_Weaver_op_30 : decode b_Weaver_op 30 = .ok (.sipush 206, 3) := by decide +kernel
theorem d_Weaver_op_33 : decode b_Weaver_op 33 = .ok (.iconst (-1), 1) := by decide +kernel
theorem d_Weaver_op_34 : decode b_Weaver_op 34 = .ok (.iconst (-1), 1) := by decide +kernel
theorem d_Weaver_op_35 : decode b_Weaver_op 35 = .ok (.invokevirtual 218, 3) := by decide +kernel
theorem d_Weaver_op_38 : decode b_Weaver_op 38 = .ok (.aload_n 0, 1) := by decide +kernel
theorem d_Weaver_op_39 : decode b_Weaver_op 39 = .ok (.getfield 12, 3) := by decide +kernel
theorem d_Weaver_op_42 : decode b_Weaver_op 42 = .ok (.invokevirtual 79, 3) := by decide +kernel
theorem d_Weaver_op_45 : decode b_Weaver_op 45 = .ok (.ifCond .ne (4), 3) := by decide +kernel
theorem d_Weaver_op_48 : decode b_Weaver_op 48 = .ok (.return_, 1) := by decide +kernel
theorem d_Weaver_op_49 : decode b_Weaver_op 49 = .ok (.aload_n 0, 1) := by decide +kernel
theorem d_Weaver_op_50 : decode b_Weaver_op 50 = .ok (.iload_n 1, 1) := by decide +kernel
theorem d_Weaver_op_51 : decode b_Weaver_op 51 = .ok (.invokevirtual 185, 3) := by decide +kernel
theorem d_Weaver_op_54 : decode b_Weaver_op 54 = .ok (.istore_n 3, 1) := by decide +kernel
theorem d_Weaver_op_55 : decode b_Weaver_op 55 = .ok (.aload_n 0, 1) := by decide +kernel
theorem d_Weaver_op_56 : decode b_Weaver_op 56 = .ok (.getfield 12, 3) := by decide +kernel
theorem d_Weaver_op_59 : decode b_Weaver_op 59 = .ok (.getfield 136, 3) := by decide +kernel
theorem d_Weaver_op_62 : decode b_Weaver_op 62 = .ok (.iload_n 2, 1) := by decide +kernel
theorem d_Weaver_op_63 : decode b_Weaver_op 63 = .ok (.iaload, 1) := by decide +kernel
theorem d_Weaver_op_64 : decode b_Weaver_op 64 = .ok (.iconst 1, 1) := by decide +kernel
theorem d_Weaver_op_65 : decode b_Weaver_op 65 = .ok (.iadd, 1) := by decide +kernel
theorem d_Weaver_op_66 : decode b_Weaver_op 66 = .ok (.istore 4, 2) := by decide +kernel
theorem d_Weaver_op_68 : decode b_Weaver_op 68 = .ok (.aload_n 0, 1) := by decide +kernel
theorem d_Weaver_op_69 : decode b_Weaver_op 69 = .ok (.getfield 12, 3) := by decide +kernel
theorem d_Weaver_op_72 : decode b_Weaver_op 72 = .ok (.getfield 139, 3) := by decide +kernel
theorem d_Weaver_op_75 : decode b_Weaver_op 75 = .ok (.iload_n 2, 1) := by decide +kernel
theorem d_Weaver_op_76 : decode b_Weaver_op 76 = .ok (.laload, 1) := by decide +kernel
theorem d_Weaver_op_77 : decode b_Weaver_op 77 = .ok (.l2i, 1) := by decide +kernel
theorem d_Weaver_op_78 : decode b_Weaver_op 78 = .ok (.istore 5, 2) := by decide +kernel
theorem d_Weaver_op_80 : decode b_Weaver_op 80 = .ok (.aload_n 0, 1) := by decide +kernel
theorem d_Weaver_op_81 : decode b_Weaver_op 81 = .ok (.getfield 27, 3) := by decide +kernel
theorem d_Weaver_op_84 : decode b_Weaver_op 84 = .ok (.getfield 221, 3) := by decide +kernel
theorem d_Weaver_op_87 : decode b_Weaver_op 87 = .ok (.iload_n 3, 1) := by decide +kernel
theorem d_Weaver_op_88 : decode b_Weaver_op 88 = .ok (.baload, 1) := by decide +kernel
theorem d_Weaver_op_89 : decode b_Weaver_op 89 = .ok (.iconst 1, 1) := by decide +kernel
theorem d_Weaver_op_90 : decode b_Weaver_op 90 = .ok (.if_icmp .ne (12), 3) := by decide +kernel
theorem d_Weaver_op_93 : decode b_Weaver_op 93 = .ok (.aload_n 0, 1) := by decide +kernel
theorem d_Weaver_op_94 : decode b_Weaver_op 94 = .ok (.iload_n 1, 1) := by decide +kernel
theorem d_Weaver_op_95 : decode b_Weaver_op 95 = .ok (.iconst 2, 1) := by decide +kernel
theorem d_Weaver_op_96 : decode b_Weaver_op 96 = .ok (.invokevirtual 158, 3) := by decide +kernel
theorem d_Weaver_op_99 : decode b_Weaver_op 99 = .ok (.goto (54), 3) := by decide +kernel
theorem d_Weaver_op_102 : decode b_Weaver_op 102 = .ok (.aload_n 0, 1) := by decide +kernel
theorem d_Weaver_op_103 : decode b_Weaver_op 103 = .ok (.getfield 113, 3) := by decide +kernel
theorem d_Weaver_op_106 : decode b_Weaver_op 106 = .ok (.getfield 225, 3) := by decide +kernel
theorem d_Weaver_op_109 : decode b_Weaver_op 109 = .ok (.sipush 512, 3) := by decide +kernel
theorem d_Weaver_op_112 : decode b_Weaver_op 112 = .ok (.if_icmp .ne (13), 3) := by decide +kernel
theorem d_Weaver_op_115 : decode b_Weaver_op 115 = .ok (.aload_n 0, 1) := by decide +kernel
theorem d_Weaver_op_116 : decode b_Weaver_op 116 = .ok (.iload_n 1, 1) := by decide +kernel
theorem d_Weaver_op_117 : decode b_Weaver_op 117 = .ok (.bipush 6, 2) := by decide +kernel
theorem d_Weaver_op_119 : decode b_Weaver_op 119 = .ok (.invokevirtual 158, 3) := by decide +kernel
theorem d_Weaver_op_122 : decode b_Weaver_op 122 = .ok (.goto (31), 3) := by decide +kernel
theorem d_Weaver_op_125 : decode b_Weaver_op 125 = .ok (.iload 5, 2) := by decide +kernel
theorem d_Weaver_op_127 : decode b_Weaver_op 127 = .ok (.aload_n 0, 1) := by decide +kernel
theorem d_Weaver_op_128 : decode b_Weaver_op 128 = .ok (.getfield 113, 3) := by decide +kernel
theorem d_Weaver_op_131 : decode b_Weaver_op 131 = .ok (.getfield 155, 3) := by decide +kernel
theorem d_Weaver_op_134 : decode b_Weaver_op 134 = .ok (.if_icmp .ne (19), 3) := by decide +kernel
theorem d_Weaver_op_137 : decode b_Weaver_op 137 = .ok (.aload_n 0, 1) := by decide +kernel
theorem d_Weaver_op_138 : decode b_Weaver_op 138 = .ok (.getfield 113, 3) := by decide +kernel
theorem d_Weaver_op_141 : decode b_Weaver_op 141 = .ok (.aload_n 0, 1) := by decide +kernel
theorem d_Weaver_op_142 : decode b_Weaver_op 142 = .ok (.getfield 12, 3) := by decide +kernel
theorem d_Weaver_op_145 : decode b_Weaver_op 145 = .ok (.getfield 227, 3) := by decide +kernel
theorem d_Weaver_op_148 : decode b_Weaver_op 148 = .ok (.iload 4, 2) := by decide +kernel
theorem d_Weaver_op_150 : decode b_Weaver_op 150 = .ok (.invokevirtual 230, 3) := by decide +kernel
theorem d_Weaver_op_153 : decode b_Weaver_op 153 = .ok (.iload 5, 2) := by decide +kernel
theorem d_Weaver_op_155 : decode b_Weaver_op 155 = .ok (.aload_n 0, 1) := by decide +kernel
theorem d_Weaver_op_156 : decode b_Weaver_op 156 = .ok (.getfield 113, 3) := by decide +kernel
theorem d_Weaver_op_159 : decode b_Weaver_op 159 = .ok (.getfield 155, 3) := by decide +kernel
theorem d_Weaver_op_162 : decode b_Weaver_op 162 = .ok (.if_icmp .eq (9), 3) := by decide +kernel
theorem d_Weaver_op_165 : decode b_Weaver_op 165 = .ok (.aload_n 0, 1) := by decide +kernel
theorem d_Weaver_op_166 : decode b_Weaver_op 166 = .ok (.iload_n 2, 1) := by decide +kernel
theorem d_Weaver_op_167 : decode b_Weaver_op 167 = .ok (.iconst 5, 1) := by decide +kernel
theorem d_Weaver_op_168 : decode b_Weaver_op 168 = .ok (.invokevirtual 158, 3) := by decide +kernel
theorem d_Weaver_op_171 : decode b_Weaver_op 171 = .ok (.aload_n 0, 1) := by decide +kernel
theorem d_Weaver_op_172 : decode b_Weaver_op 172 = .ok (.getfield 27, 3) := by decide +kernel
theorem d_Weaver_op_175 : decode b_Weaver_op 175 = .ok (.getfield 221, 3) := by decide +kernel
theorem d_Weaver_op_178 : decode b_Weaver_op 178 = .ok (.iload_n 3, 1) := by decide +kernel
theorem d_Weaver_op_179 : decode b_Weaver_op 179 = .ok (.iconst 1, 1) := by decide +kernel
theorem d_Weaver_op_180 : decode b_Weaver_op 180 = .ok (.bastore, 1) := by decide +kernel
theorem d_Weaver_op_181 : decode b_Weaver_op 181 = .ok (.aload_n 0, 1) := by decide +kernel
theorem d_Weaver_op_182 : decode b_Weaver_op 182 = .ok (.getfield 27, 3) := by decide +kernel
theorem d_Weaver_op_185 : decode b_Weaver_op 185 = .ok (.aload_n 0, 1) := by decide +kernel
theorem d_Weaver_op_186 : decode b_Weaver_op 186 = .ok (.getfield 12, 3) := by decide +kernel
theorem d_Weaver_op_189 : decode b_Weaver_op 189 = .ok (.getfield 227, 3) := by decide +kernel
theorem d_Weaver_op_192 : decode b_Weaver_op 192 = .ok (.iload 4, 2) := by decide +kernel
theorem d_Weaver_op_194 : decode b_Weaver_op 194 = .ok (.iload 5, 2) := by decide +kernel
theorem d_Weaver_op_196 : decode b_Weaver_op 196 = .ok (.aload_n 0, 1) := by decide +kernel
theorem d_Weaver_op_197 : decode b_Weaver_op 197 = .ok (.getfield 113, 3) := by decide +kernel
theorem d_Weaver_op_200 : decode b_Weaver_op 200 = .ok (.getfield 155, 3) := by decide +kernel
theorem d_Weaver_op_203 : decode b_Weaver_op 203 = .ok (.invokevirtual 233, 3) := by decide +kernel
theorem d_Weaver_op_206 : decode b_Weaver_op 206 = .ok (.return_, 1) := by decide +kernel
set_option maxHeartbeats 4000000 in
set_option maxRecDepth 100000 in
theorem c_Weaver_op_a (l : Launch) {dA : FieldType → ClassId} {D : va_G} {al : Nat → Nat} {ext : mv_Sh} {sk sv : Nat → Nat} (hi : mv_inj (mg dA D al ext)) (σ : mv_H) {t tn len n z sz th sl s0 a ns no : Nat} (hG : WG 32 32768 512 ext σ t tn len n z sz) (hM : Mt (mv_a σ 24)) (hW : WN 32 512 σ n th sl no) (hS : WS 32 σ sz th s0 a ns no []) (hm0 : mv_i σ 2 6 = 0) (hk3 : mv_a σ 4 (mv_i σ 3 7).toNatClampNeg = 206) : mv_C l y_Weaver_op (Cond.code y_Weaver_op b_Weaver_op 6 (Option.none : Option Jvm.ClassFile.FieldType) :: ma) ({ frames := 4, cells := 0, slots := 0, locals := 86 }) (mg dA D al ext) (mK sk sv) [.ref (al 2)] σ (mv_Rv (fun σ1 => TP 32 512 σ σ1 n sz a)) := by
  refine mv_C.ofV (cc := b_Weaver_op) (nL := 6) (ret := (Option.none : Option Jvm.ClassFile.FieldType)) (by decide +kernel) rfl hi (Nat.le_of_ble_eq_true rfl) ?_
  intro p e s m below meth c B hNs hr hnm hno
  have hP : PQ 32 := by unfold PQ; omega
  have hR := hG.1
  have ht2 := hG.2.1.2.2.2.2.2.2
  have hF : IF 32 σ σ := Fr.rf
  have hN : mv_i σ 21 0 = 0 → mv_i σ 21 0 = 0 := fun q => q
  have hE := hG.2.2.1
  have hsz := hE.2.2.2.2.2
  have hsz2 := hE.2.2.2.1
  have hlen := hG.2.2.2.2.1
  have hlen2 := hG.2.2.2.2.2
  have t7 := hS.1.1
  have hw9 := hS.1.2.1
  have ha9 := hS.1.2.2.2.2.1
  have t9 : (mv_i σ 3 9).toInt = (mv_i σ 3 9).toInt := rfl
  have t8 : (mv_i σ 3 8).toInt = (mv_i σ 3 8).toInt := rfl
  have kp : mv_a σ 4 = mv_a σ 4 := rfl
  have k6 : mv_b σ 6 = mv_b σ 6 := rfl
  have hs5 := hS.1.2.2.2.2.2.1
  have hs6 := hS.1.2.2.2.2.2.2.1
  have hd8 := hS.1.2.2.1
  have hd9 := hS.1.2.2.2.1
  have j171 : ∀ (υ : mv_H) (no2 : Nat) (sg : Int32) (fr : Int32) (sy : Int32) (tk1 : Int32) (tk2 : Int32) (hR : Rw 32 (mv_r υ)) (hV : WT 32 σ υ) (hMt : Mt (mv_a υ 24)) (hW3 : WN 32 512 υ n th sl no2) (hS3 : WS 32 υ sz th s0 (a + 4) ns no2 [((-1 : Int32), [])]) (hm1 : mv_i υ 2 6 = 1) (b1 : 0 ≤ tk1.toInt ∧ tk1.toInt < sz) (b2 : 0 ≤ tk2.toInt ∧ tk2.toInt < sz) (hsy : 0 ≤ sy.toInt ∧ sy.toInt < 16448) (hcd : 0 ≤ fr.toInt ∧ 0 ≤ sg.toInt ∧ fr.toInt + sg.toInt ≤ len ∧ ∀ i : Nat, fr.toInt ≤ i → i < fr.toInt + sg.toInt → 46 ≤ (mv_a σ t i).toInt ∧ (mv_a σ t i).toInt ≤ 122), mv_V p l e ({ frames := 4, cells := 0, slots := 0, locals := 86 }) s m ([.ref (al 2)] : List Value).toArray below meth c (mg dA D al ext) 6 0 0 (mv_Q (mg dA D al ext) below s 0 0 (mv_Rv (fun σ1 => TP 32 512 σ σ1 n sz a))) υ 171 [(5, .int sg), (4, .int fr), (3, .int sy), (2, .int tk2), (1, .int tk1), (0, .ref (al 2))] [] := by
    intro υ no2 sg fr sy tk1 tk2 hR hV hMt hW3 hS3 hm1 b1 b2 hsy hcd
    refine mv_aload_n (pc := 171) B d_Weaver_op_171 rfl 5 rfl ?_
    refine mv_getR (pc := 172) (ci := 1) (C := R_Weaver) (T := F_Weaver) (N := 16) B 1 rfl rfl (by decide) i_Weaver (B.2.2.2.1 _ k_229) rfl (hR.1 _ 1 _ rfl) d_Weaver_op_172 ?_
    refine mv_getR (pc := 175) (ci := 4) (C := R_Names) (T := F_Names) (N := 10) B 3 rfl rfl (by decide) i_Names (B.2.2.2.1 _ k_140) rfl (hR.1 _ 3 _ rfl) d_Weaver_op_175 ?_
    refine mv_iload_n (pc := 178) B d_Weaver_op_178 rfl 2 rfl ?_
    refine mv_iconst (pc := 179) (v := 1) B d_Weaver_op_179 (by decide) ?_
    refine mv_bast (pc := 180) B rfl (i32_in hsy.1 hsy.2) d_Weaver_op_180 ?_
    refine mv_gen (fun S181 eS181 => ?_)
    have hR : Rw 32 (mv_r S181) := by rw [eS181]; exact hR
    have hV : WT 32 σ S181 := by rw [eS181]; exact hV.sa (Or.inl ⟨by omega, by omega⟩)
    have hMt : Mt (mv_a S181 24) := by rw [eS181]; exact hMt
    have hW3 : WN 32 512 S181 n th sl no2 := by rw [eS181]; exact hW3.of hP (Fr.rf.sa (Or.inl rfl))
    have hS3 : WS 32 S181 sz th s0 (a + 4) ns no2 [((-1 : Int32), [])] := by rw [eS181]; exact hS3.fr hP rfl rfl rfl rfl rfl rfl rfl rfl rfl rfl rfl rfl (fun q => q)
    have hm1 : mv_i S181 2 6 = 1 := by rw [eS181]; exact hm1
    have hG3 := hG.wt hV hP
    have ett : mv_a S181 t = mv_a σ t := hV.2.1 t (by rcases ht2 with rfl | rfl <;> decide)
    clear eS181
    refine mv_aload_n (pc := 181) B d_Weaver_op_181 rfl 5 rfl ?_
    refine mv_getR (pc := 182) (ci := 1) (C := R_Weaver) (T := F_Weaver) (N := 16) B 1 rfl rfl (by decide) i_Weaver (B.2.2.2.1 _ k_229) rfl (hR.1 _ 1 _ rfl) d_Weaver_op_182 ?_
    refine mv_aload_n (pc := 185) B d_Weaver_op_185 rfl 5 rfl ?_
    refine mv_getR (pc := 186) (ci := 1) (C := R_Weaver) (T := F_Weaver) (N := 16) B 0 rfl rfl (by decide) i_Weaver (B.2.2.2.1 _ k_228) rfl (hR.1 _ 0 _ rfl) d_Weaver_op_186 ?_
    refine mv_getR (pc := 189) (ci := 2) (C := R_Tokens) (T := F_Tokens) (N := 10) B 4 rfl rfl (by decide) i_Tokens (B.2.2.2.1 _ k_99) rfl hG3.2.1.2.1 d_Weaver_op_189 ?_
    refine mv_iload (pc := 192) B d_Weaver_op_192 1 rfl ?_
    refine mv_iload (pc := 194) B d_Weaver_op_194 0 rfl ?_
    refine mv_aload_n (pc := 196) B d_Weaver_op_196 rfl 5 rfl ?_
    refine mv_getR (pc := 197) (ci := 1) (C := R_Weaver) (T := F_Weaver) (N := 16) B 5 rfl rfl (by decide) i_Weaver (B.2.2.2.1 _ k_235) rfl hR.2.2.1 d_Weaver_op_197 ?_
    refine mv_getI (pc := 200) (ci := 7) (C := R_Program) (T := F_Program) (N := 19) B 0 rfl rfl (by decide) i_Program (B.2.2.2.1 _ k_313) rfl d_Weaver_op_200 ?_
    refine mv_callVv (pc := 203) (n := 4) (ci := 4) (C := R_Names) B (mK_ok sk sv) hNs rfl rfl (c_Names_enterOpF l hi _ t tn _ _ _ hR.1 hG3.2.1.2.2.1 ht2 hG3.2.1.2.2.2.2.2.1 hcd.1 (by have := hG3.2.1.2.2.2.2.1; omega) (fun i q1 q2 => by rw [ett]; exact hcd.2.2.2 i q1 q2)) rfl (ma_goodc kc_Names_enterOp) (B.2.2.2.1 _ k_1358) (B.2.2.2.1 _ k_1359) (B.2.2.2.1 _ k_1360) (B.2.2.2.1 _ k_5) ⟨by decide +kernel, by decide +kernel, by decide +kernel⟩ rfl d_Weaver_op_203 rfl (Nat.le_of_ble_eq_true rfl) ⟨by decide, by decide⟩ ⟨by decide, by decide⟩ ⟨by decide, by decide⟩ (mv_noH hno _) (fun σ203 h203 => ?_)
    exact mv_vret (pc := 206) B hr d_Weaver_op_206 (Nat.le_refl _) (Nat.le_refl _) ⟨rfl, hV.tr (h203.up (fun _ _ q => q.elim) (fun o q => Or.inl ⟨by omega, by omega⟩) (fun o q => Or.inl q)), by rw [h203.2.1 24 (by decide)]; exact hMt, th, sl, no2, hW3.of hP (OF.en (P := 32) Fr.rf h203), Or.inr ⟨a + 4, by omega, Or.inr (Or.inl ⟨(h203.1 2 6 (fun q => q)).trans hm1, s0, ns, _, List.cons_ne_nil _ _, hS3.fr hP (funext fun k => h203.1 3 k (fun q => q)) (h203.1 _ _ (fun q => q)) (h203.1 _ _ (fun q => q)) (h203.1 _ _ (fun q => q)) (h203.2.1 _ (by decide)) (h203.2.1 _ (by decide)) (h203.2.1 _ (by decide)) (h203.2.1 _ (by decide)) (h203.2.1 _ (by decide)) (h203.2.1 _ (by decide)) (h203.2.2.1 _ (by decide)) (h203.2.1 _ (by decide)) (fun q => by rw [h203.1 21 0 (fun q => q)] at q; exact q)⟩)⟩⟩
  have j153 : ∀ (υ : mv_H) (no2 : Nat) (sg : Int32) (fr : Int32) (sy : Int32) (tk1 : Int32) (tk2 : Int32) (hR : Rw 32 (mv_r υ)) (hV : WT 32 σ υ) (hMt : Mt (mv_a υ 24)) (hW3 : WN 32 512 υ n th sl no2) (hS3 : WS 32 υ sz th s0 (a + 4) ns no2 [((-1 : Int32), [])]) (hm1 : mv_i υ 2 6 = 1) (b1 : 0 ≤ tk1.toInt ∧ tk1.toInt < sz) (b2 : 0 ≤ tk2.toInt ∧ tk2.toInt < sz) (hsy : 0 ≤ sy.toInt ∧ sy.toInt < 16448) (hcd : 0 ≤ fr.toInt ∧ 0 ≤ sg.toInt ∧ fr.toInt + sg.toInt ≤ len ∧ ∀ i : Nat, fr.toInt ≤ i → i < fr.toInt + sg.toInt → 46 ≤ (mv_a σ t i).toInt ∧ (mv_a σ t i).toInt ≤ 122), mv_V p l e ({ frames := 4, cells := 0, slots := 0, locals := 86 }) s m ([.ref (al 2)] : List Value).toArray below meth c (mg dA D al ext) 6 0 0 (mv_Q (mg dA D al ext) below s 0 0 (mv_Rv (fun σ1 => TP 32 512 σ σ1 n sz a))) υ 153 [(5, .int sg), (4, .int fr), (3, .int sy), (2, .int tk2), (1, .int tk1), (0, .ref (al 2))] [] := by
    intro υ no2 sg fr sy tk1 tk2 hR hV hMt hW3 hS3 hm1 b1 b2 hsy hcd
    refine mv_iload (pc := 153) B d_Weaver_op_153 0 rfl ?_
    refine mv_aload_n (pc := 155) B d_Weaver_op_155 rfl 5 rfl ?_
    refine mv_getR (pc := 156) (ci := 1) (C := R_Weaver) (T := F_Weaver) (N := 16) B 5 rfl rfl (by decide) i_Weaver (B.2.2.2.1 _ k_235) rfl hR.2.2.1 d_Weaver_op_156 ?_
    refine mv_getI (pc := 159) (ci := 7) (C := R_Program) (T := F_Program) (N := 19) B 0 rfl rfl (by decide) i_Program (B.2.2.2.1 _ k_313) rfl d_Weaver_op_159 ?_
    refine mv_icmp_eq (pc := 162) (tgt := 171) B d_Weaver_op_162 rfl (fun h162 => ?_) (fun h162 => ?_)
    · skip
      refine mv_lpick [0, 1, 2, 3, 4, 5] rfl ?_
      exact j171 _ _ _ _ _ _ _ hR hV hMt hW3 hS3 hm1 b1 b2 hsy hcd
    · skip
      refine mv_aload_n (pc := 165) B d_Weaver_op_165 rfl 5 rfl ?_
      refine mv_iload_n (pc := 166) B d_Weaver_op_166 rfl 3 rfl ?_
      refine mv_iconst (pc := 167) (v := 5) B d_Weaver_op_167 (by decide) ?_
      refine mv_callVv (pc := 168) (n := 2) (ci := 1) (C := R_Weaver) B (mK_ok sk sv) hNs rfl rfl (c_Weaver_tell l hi _ _ _ hR.1 b2.1 (by omega) (by decide)) rfl (ma_goodc kc_Weaver_tell) (B.2.2.2.1 _ k_1282) (B.2.2.2.1 _ k_1284) (B.2.2.2.1 _ ks_32) (B.2.2.2.1 _ k_2) ⟨by decide +kernel, by decide +kernel, by decide +kernel⟩ rfl d_Weaver_op_168 rfl (Nat.le_of_ble_eq_true rfl) ⟨by decide, by decide⟩ ⟨by decide, by decide⟩ ⟨by decide, by decide⟩ (mv_noH hno _) (fun σ168 h168 => ?_)
      obtain ⟨x9, y9, q1, q2⟩ := h168
      subst q1
      refine mv_gen (fun S171 eS171 => ?_)
      have hR : Rw 32 (mv_r S171) := by rw [eS171]; exact hR
      have hV : WT 32 σ S171 := by rw [eS171]; exact hV.tell _ _
      have hMt : Mt (mv_a S171 24) := by rw [eS171]; exact hMt
      have hW3 : WN 32 512 S171 n th sl no2 := by rw [eS171]; exact hW3.tell hP _ _
      have hS3 : WS 32 S171 sz th s0 (a + 4) ns no2 [((-1 : Int32), [])] := by rw [eS171]; exact hS3.fr hP rfl rfl rfl rfl rfl rfl rfl rfl rfl rfl rfl rfl (fun q => absurd q q2)
      have hm1 : mv_i S171 2 6 = 1 := by rw [eS171]; exact hm1
      clear eS171
      refine mv_lpick [0, 1, 2, 3, 4, 5] rfl ?_
      exact j171 _ _ _ _ _ _ _ hR hV hMt hW3 hS3 hm1 b1 b2 hsy hcd
  have j80 : ∀ (υ : mv_H) (no2 : Nat) (sg : Int32) (fr : Int32) (sy : Int32) (tk1 : Int32) (tk2 : Int32) (hR : Rw 32 (mv_r υ)) (hV : WT 32 σ υ) (hMt : Mt (mv_a υ 24)) (hW3 : WN 32 512 υ n th sl no2) (hS3 : WS 32 υ sz th s0 (a + 4) ns no2 [((-1 : Int32), [])]) (hm1 : mv_i υ 2 6 = 1) (b1 : 0 ≤ tk1.toInt ∧ tk1.toInt < sz) (b2 : 0 ≤ tk2.toInt ∧ tk2.toInt < sz) (hsy : 0 ≤ sy.toInt ∧ sy.toInt < 16448) (hcd : 0 ≤ fr.toInt ∧ 0 ≤ sg.toInt ∧ fr.toInt + sg.toInt ≤ len ∧ ∀ i : Nat, fr.toInt ≤ i → i < fr.toInt + sg.toInt → 46 ≤ (mv_a σ t i).toInt ∧ (mv_a σ t i).toInt ≤ 122) (hnc : no2 + 1 ≤ nCd (mv_a υ 4) (a + 4)), mv_V p l e ({ frames := 4, cells := 0, slots := 0, locals := 86 }) s m ([.ref (al 2)] : List Value).toArray below meth c (mg dA D al ext) 6 0 0 (mv_Q (mg dA D al ext) below s 0 0 (mv_Rv (fun σ1 => TP 32 512 σ σ1 n sz a))) υ 80 [(5, .int sg), (4, .int fr), (3, .int sy), (2, .int tk2), (1, .int tk1), (0, .ref (al 2))] [] := by
    intro υ no2 sg fr sy tk1 tk2 hR hV hMt hW3 hS3 hm1 b1 b2 hsy hcd hnc
    have ha4 := hS3.1.2.2.2.2.1
    have hG3 := hG.wt hV hP
    have hops := hW3.2.2.2.2.2.1
    have hno9 := hW3.2.2.2.2.2.2
    have k4 : mv_a υ 4 = mv_a σ 4 := hV.2.1 4 (by decide)
    rw [k4] at hnc
    have hnc2 := hnc
    rw [← k4] at hnc
    refine mv_aload_n (pc := 80) B d_Weaver_op_80 rfl 5 rfl ?_
    refine mv_getR (pc := 81) (ci := 1) (C := R_Weaver) (T := F_Weaver) (N := 16) B 1 rfl rfl (by decide) i_Weaver (B.2.2.2.1 _ k_229) rfl (hR.1 _ 1 _ rfl) d_Weaver_op_81 ?_
    refine mv_getR (pc := 84) (ci := 4) (C := R_Names) (T := F_Names) (N := 10) B 3 rfl rfl (by decide) i_Names (B.2.2.2.1 _ k_140) rfl (hR.1 _ 3 _ rfl) d_Weaver_op_84 ?_
    refine mv_iload_n (pc := 87) B d_Weaver_op_87 rfl 2 rfl ?_
    refine mv_bald (pc := 88) B rfl (i32_in hsy.1 hsy.2) d_Weaver_op_88 ?_
    refine mv_iconst (pc := 89) (v := 1) B d_Weaver_op_89 (by decide) ?_
    refine mv_icmp_ne (pc := 90) (tgt := 102) B d_Weaver_op_90 rfl (fun h90 => ?_) (fun h90 => ?_)
    · skip
      refine mv_aload_n (pc := 102) B d_Weaver_op_102 rfl 5 rfl ?_
      refine mv_getR (pc := 103) (ci := 1) (C := R_Weaver) (T := F_Weaver) (N := 16) B 5 rfl rfl (by decide) i_Weaver (B.2.2.2.1 _ k_235) rfl hR.2.2.1 d_Weaver_op_103 ?_
      refine mv_getI (pc := 106) (ci := 7) (C := R_Program) (T := F_Program) (N := 19) B 10 rfl rfl (by decide) i_Program (B.2.2.2.1 _ k_347) rfl d_Weaver_op_106 ?_
      refine mv_sipush (pc := 109) (v := 512) B d_Weaver_op_109 (by decide) ?_
      refine mv_icmp_ne (pc := 112) (tgt := 125) B d_Weaver_op_112 rfl (fun h112 => ?_) (fun h112 => ?_)
      · skip
        have hn512 : ¬ (mv_i υ 32 10).toInt = 512 := fun q => h112 (Int32.toInt_inj.mp q)
        refine mv_iload (pc := 125) B d_Weaver_op_125 0 rfl ?_
        refine mv_aload_n (pc := 127) B d_Weaver_op_127 rfl 5 rfl ?_
        refine mv_getR (pc := 128) (ci := 1) (C := R_Weaver) (T := F_Weaver) (N := 16) B 5 rfl rfl (by decide) i_Weaver (B.2.2.2.1 _ k_235) rfl hR.2.2.1 d_Weaver_op_128 ?_
        refine mv_getI (pc := 131) (ci := 7) (C := R_Program) (T := F_Program) (N := 19) B 0 rfl rfl (by decide) i_Program (B.2.2.2.1 _ k_313) rfl d_Weaver_op_131 ?_
        refine mv_icmp_ne (pc := 134) (tgt := 153) B d_Weaver_op_134 rfl (fun h134 => ?_) (fun h134 => ?_)
        · skip
          refine mv_lpick [0, 1, 2, 3, 4, 5] rfl ?_
          exact j153 _ _ _ _ _ _ _ hR hV hMt hW3 hS3 hm1 b1 b2 hsy hcd
        · skip
          have hlt : no2 < 512 := by
            rcases hG.2.2.2.1 with q | q
            · omega
            · have : nCd (mv_a σ 4) (a + 4) ≤ nCd (mv_a σ 4) sz := nCd_mono _ (by omega)
              omega
          refine mv_aload_n (pc := 137) B d_Weaver_op_137 rfl 5 rfl ?_
          refine mv_getR (pc := 138) (ci := 1) (C := R_Weaver) (T := F_Weaver) (N := 16) B 5 rfl rfl (by decide) i_Weaver (B.2.2.2.1 _ k_235) rfl hR.2.2.1 d_Weaver_op_138 ?_
          refine mv_aload_n (pc := 141) B d_Weaver_op_141 rfl 5 rfl ?_
          refine mv_getR (pc := 142) (ci := 1) (C := R_Weaver) (T := F_Weaver) (N := 16) B 0 rfl rfl (by decide) i_Weaver (B.2.2.2.1 _ k_228) rfl (hR.1 _ 0 _ rfl) d_Weaver_op_142 ?_
          refine mv_getR (pc := 145) (ci := 2) (C := R_Tokens) (T := F_Tokens) (N := 10) B 4 rfl rfl (by decide) i_Tokens (B.2.2.2.1 _ k_99) rfl hG3.2.1.2.1 d_Weaver_op_145 ?_
          refine mv_iload (pc := 148) B d_Weaver_op_148 1 rfl ?_
          refine mv_callVv (pc := 150) (n := 2) (ci := 7) (C := R_Program) B (mK_ok sk sv) hNs rfl rfl (c_Program_addOp_a l hi _ t tn _ hR.2.1 hG3.2.1.2.2.1 hG3.2.1.2.2.2.2.2.1 hcd.1 hW3.2.1.2.2.2.2.1 hW3.2.1.2.2.2.2.2.1 (by have := hG3.2.1.2.2.2.2.1; have e : sg.toInt = (mv_i υ 32 0).toInt := by { rw [h134] }; omega) (by omega) (by omega)) rfl (ma_goodc kc_Program_addOp) (B.2.2.2.1 _ k_1354) (B.2.2.2.1 _ k_1355) (B.2.2.2.1 _ k_1356) (B.2.2.2.1 _ k_8) ⟨by decide +kernel, by decide +kernel, by decide +kernel⟩ rfl d_Weaver_op_150 rfl (Nat.le_of_ble_eq_true rfl) ⟨by decide, by decide⟩ ⟨by decide, by decide⟩ ⟨by decide, by decide⟩ (mv_noH hno _) (fun σ150 h150 => ?_)
          have hR : Rw 32 (mv_r σ150) := by rw [h150.1.2.2.2.2]; exact hR
          have hV : WT 32 σ σ150 := hV.tr (h150.1.up (fun o k q => by omega) (fun o q => by omega) (fun o q => by omega))
          have hMt : Mt (mv_a σ150 24) := by rw [h150.1.2.1 24 (by decide)]; exact hMt
          have hS3 := hS3.addOp hP h150 hops hnc
          have hW3 := hW3.addOp hP h150 (by omega) (by omega)
          have hm1 : mv_i σ150 2 6 = 1 := (h150.1.1 2 6 (by decide)).trans hm1
          refine mv_lpick [0, 1, 2, 3, 4, 5] rfl ?_
          exact j153 _ _ _ _ _ _ _ hR hV hMt hW3 hS3 hm1 b1 b2 hsy hcd
      · skip
        refine mv_aload_n (pc := 115) B d_Weaver_op_115 rfl 5 rfl ?_
        refine mv_iload_n (pc := 116) B d_Weaver_op_116 rfl 4 rfl ?_
        refine mv_bipush (pc := 117) (v := 6) B d_Weaver_op_117 (by decide) ?_
        refine mv_callVv (pc := 119) (n := 2) (ci := 1) (C := R_Weaver) B (mK_ok sk sv) hNs rfl rfl (c_Weaver_tell l hi _ _ _ hR.1 b1.1 (by omega) (by decide)) rfl (ma_goodc kc_Weaver_tell) (B.2.2.2.1 _ k_1282) (B.2.2.2.1 _ k_1284) (B.2.2.2.1 _ ks_32) (B.2.2.2.1 _ k_2) ⟨by decide +kernel, by decide +kernel, by decide +kernel⟩ rfl d_Weaver_op_119 rfl (Nat.le_of_ble_eq_true rfl) ⟨by decide, by decide⟩ ⟨by decide, by decide⟩ ⟨by decide, by decide⟩ (mv_noH hno _) (fun σ119 h119 => ?_)
        obtain ⟨x9, y9, q1, q2⟩ := h119
        subst q1
        refine mv_gen (fun S154 eS154 => ?_)
        have hR : Rw 32 (mv_r S154) := by rw [eS154]; exact hR
        have hV : WT 32 σ S154 := by rw [eS154]; exact hV.tell _ _
        have hMt : Mt (mv_a S154 24) := by rw [eS154]; exact hMt
        have hW3 : WN 32 512 S154 n th sl no2 := by rw [eS154]; exact hW3.tell hP _ _
        have hS3 : WS 32 S154 sz th s0 (a + 4) ns no2 [((-1 : Int32), [])] := by rw [eS154]; exact hS3.fr hP rfl rfl rfl rfl rfl rfl rfl rfl rfl rfl rfl rfl (fun q => absurd q q2)
        have hm1 : mv_i S154 2 6 = 1 := by rw [eS154]; exact hm1
        clear eS154
        refine mv_goto (pc := 122) (tgt := 153) B d_Weaver_op_122 rfl ?_
        refine mv_lpick [0, 1, 2, 3, 4, 5] rfl ?_
        exact j153 _ _ _ _ _ _ _ hR hV hMt hW3 hS3 hm1 b1 b2 hsy hcd
    · skip
      refine mv_aload_n (pc := 93) B d_Weaver_op_93 rfl 5 rfl ?_
      refine mv_iload_n (pc := 94) B d_Weaver_op_94 rfl 4 rfl ?_
      refine mv_iconst (pc := 95) (v := 2) B d_Weaver_op_95 (by decide) ?_
      refine mv_callVv (pc := 96) (n := 2) (ci := 1) (C := R_Weaver) B (mK_ok sk sv) hNs rfl rfl (c_Weaver_tell l hi _ _ _ hR.1 b1.1 (by omega) (by decide)) rfl (ma_goodc kc_Weaver_tell) (B.2.2.2.1 _ k_1282) (B.2.2.2.1 _ k_1284) (B.2.2.2.1 _ ks_32) (B.2.2.2.1 _ k_2) ⟨by decide +kernel, by decide +kernel, by decide +kernel⟩ rfl d_Weaver_op_96 rfl (Nat.le_of_ble_eq_true rfl) ⟨by decide, by decide⟩ ⟨by decide, by decide⟩ ⟨by decide, by decide⟩ (mv_noH hno _) (fun σ96 h96 => ?_)
      obtain ⟨x9, y9, q1, q2⟩ := h96
      subst q1
      refine mv_gen (fun S153 eS153 => ?_)
      have hR : Rw 32 (mv_r S153) := by rw [eS153]; exact hR
      have hV : WT 32 σ S153 := by rw [eS153]; exact hV.tell _ _
      have hMt : Mt (mv_a S153 24) := by rw [eS153]; exact hMt
      have hW3 : WN 32 512 S153 n th sl no2 := by rw [eS153]; exact hW3.tell hP _ _
      have hS3 : WS 32 S153 sz th s0 (a + 4) ns no2 [((-1 : Int32), [])] := by rw [eS153]; exact hS3.fr hP rfl rfl rfl rfl rfl rfl rfl rfl rfl rfl rfl rfl (fun q => absurd q q2)
      have hm1 : mv_i S153 2 6 = 1 := by rw [eS153]; exact hm1
      clear eS153
      refine mv_goto (pc := 99) (tgt := 153) B d_Weaver_op_99 rfl ?_
      refine mv_lpick [0, 1, 2, 3, 4, 5] rfl ?_
      exact j153 _ _ _ _ _ _ _ hR hV hMt hW3 hS3 hm1 b1 b2 hsy hcd
  refine mv_aload_n (pc := 0) B d_Weaver_op_0 rfl 0 rfl ?_
  refine mv_getR (pc := 1) (ci := 1) (C := R_Weaver) (T := F_Weaver) (N := 16) B 0 rfl rfl (by decide) i_Weaver (B.2.2.2.1 _ k_228) rfl (hR.1 _ 0 _ rfl) d_Weaver_op_1 ?_
  refine mv_sipush (pc := 4) (v := 206) B d_Weaver_op_4 (by decide) ?_
  refine mv_callVi (pc := 7) (n := 1) (ci := 2) (C := R_Tokens) B (mK_ok sk sv) hNs rfl rfl (c_Tokens_takeN l hi _ _ hR.1 (hG.2.2.1.wt hF.wt hP ht2) (by omega) (by omega) (by decide)) rfl (ma_goodc kc_Tokens_take) (B.2.2.2.1 _ k_1266) (B.2.2.2.1 _ k_1267) (B.2.2.2.1 _ k_1268) (B.2.2.2.1 _ k_3) ⟨by decide +kernel, by decide +kernel, by decide +kernel⟩ rfl d_Weaver_op_7 rfl (Nat.le_of_ble_eq_true rfl) ⟨by decide, by decide⟩ ⟨by decide, by decide⟩ ⟨by decide, by decide⟩ (mv_noH hno _) (fun v7 σ7 h7 => ?_)
  obtain ⟨a7, w7, e7, r7⟩ := h7
  have q7 := r7.1
  have z7 := fun q => (r7.2.1 q).1
  have y7 := And.intro r7.2.2.2.1 r7.2.2.2.2.1
  subst e7
  have hw7 := r7.2.2.1 hw9 hk3 trivial
  refine mv_gen (fun S10 eS10 => ?_)
  have hR : Rw 32 (mv_r S10) := by rw [eS10]; exact hR
  have hF : IF 32 σ S10 := by rw [eS10]; exact hF.tk3 _ _ _
  have hN : mv_i S10 21 0 = 0 → mv_i σ 21 0 = 0 := by rw [eS10]; exact hN
  have t7 : (mv_i S10 3 7).toInt = a7.toInt := by rw [eS10]; rfl
  have t8 : (mv_i S10 3 8).toInt = (mv_i σ 3 8).toInt := by rw [eS10]; first | exact t8 | exact (sub_one (by omega)).trans (by omega) | exact (i32_inc (by omega)).trans (by omega)
  have t9 : (mv_i S10 3 9).toInt = w7.toInt := by rw [eS10]; rfl
  have kp := Eq.trans (show mv_a S10 4 = mv_a _ 4 by rw [eS10]; rfl) kp
  have k6 := Eq.trans (show mv_b S10 6 = mv_b _ 6 by rw [eS10]; rfl) k6
  have hW2 := hW
  have hW2 : WN 32 512 S10 n th sl no := by rw [eS10]; exact hW2.tk3 hP _ _ _
  clear eS10
  refine mv_pop (pc := 10) B d_Weaver_op_10 rfl ?_
  refine mv_aload_n (pc := 11) B d_Weaver_op_11 rfl 0 rfl ?_
  refine mv_getR (pc := 12) (ci := 1) (C := R_Weaver) (T := F_Weaver) (N := 16) B 0 rfl rfl (by decide) i_Weaver (B.2.2.2.1 _ k_228) rfl (hR.1 _ 0 _ rfl) d_Weaver_op_12 ?_
  refine mv_iconst (pc := 15) (v := 3) B d_Weaver_op_15 (by decide) ?_
  refine mv_callVi (pc := 16) (n := 1) (ci := 2) (C := R_Tokens) B (mK_ok sk sv) hNs rfl rfl (c_Tokens_takeN l hi _ _ hR.1 (hG.2.2.1.wt hF.wt hP ht2) (by omega) (by omega) (by decide)) rfl (ma_goodc kc_Tokens_take) (B.2.2.2.1 _ k_1266) (B.2.2.2.1 _ k_1267) (B.2.2.2.1 _ k_1268) (B.2.2.2.1 _ k_3) ⟨by decide +kernel, by decide +kernel, by decide +kernel⟩ rfl d_Weaver_op_16 rfl (Nat.le_of_ble_eq_true rfl) ⟨by decide, by decide⟩ ⟨by decide, by decide⟩ ⟨by decide, by decide⟩ (mv_noH hno _) (fun v16 σ16 h16 => ?_)
  have kz := k6
  obtain ⟨a16, w16, e16, r16⟩ := h16
  have q16 := r16.1
  have z16 := fun q => (r16.2.1 q).1
  have y16 := And.intro r16.2.2.2.1 r16.2.2.2.2.1
  subst e16
  have sy16 := TkR.sym (hG.2.2.1.wt hF.wt hP ht2) r16
  refine mv_gen (fun S19 eS19 => ?_)
  have hR : Rw 32 (mv_r S19) := by rw [eS19]; exact hR
  have hF : IF 32 σ S19 := by rw [eS19]; exact hF.tk3 _ _ _
  have hN : mv_i S19 21 0 = 0 → mv_i σ 21 0 = 0 := by rw [eS19]; exact hN
  have t7 : (mv_i S19 3 7).toInt = a16.toInt := by rw [eS19]; rfl
  have t8 : (mv_i S19 3 8).toInt = (mv_i σ 3 8).toInt := by rw [eS19]; first | exact t8 | exact (sub_one (by omega)).trans (by omega) | exact (i32_inc (by omega)).trans (by omega)
  have t9 : (mv_i S19 3 9).toInt = w16.toInt := by rw [eS19]; rfl
  have kp := Eq.trans (show mv_a S19 4 = mv_a _ 4 by rw [eS19]; rfl) kp
  have k6 := Eq.trans (show mv_b S19 6 = mv_b _ 6 by rw [eS19]; rfl) k6
  have hW2 : WN 32 512 S19 n th sl no := by rw [eS19]; exact hW2.tk3 hP _ _ _
  have sy16 : 0 ≤ (mv_b σ 6 v16.toNatClampNeg).toInt ∧ (mv_b σ 6 v16.toNatClampNeg).toInt < n := by rw [← kz]; exact sy16
  have kp19 := kp
  have t7b := t7
  clear eS19
  refine mv_istore_n (pc := 19) B d_Weaver_op_19 rfl (by decide) rfl ?_
  refine mv_aload_n (pc := 20) B d_Weaver_op_20 rfl 1 rfl ?_
  refine mv_getR (pc := 21) (ci := 1) (C := R_Weaver) (T := F_Weaver) (N := 16) B 0 rfl rfl (by decide) i_Weaver (B.2.2.2.1 _ k_228) rfl (hR.1 _ 0 _ rfl) d_Weaver_op_21 ?_
  refine mv_iconst (pc := 24) (v := 5) B d_Weaver_op_24 (by decide) ?_
  refine mv_callVi (pc := 25) (n := 1) (ci := 2) (C := R_Tokens) B (mK_ok sk sv) hNs rfl rfl (c_Tokens_takeN l hi _ _ hR.1 (hG.2.2.1.wt hF.wt hP ht2) (by omega) (by omega) (by decide)) rfl (ma_goodc kc_Tokens_take) (B.2.2.2.1 _ k_1266) (B.2.2.2.1 _ k_1267) (B.2.2.2.1 _ k_1268) (B.2.2.2.1 _ k_3) ⟨by decide +kernel, by decide +kernel, by decide +kernel⟩ rfl d_Weaver_op_25 rfl (Nat.le_of_ble_eq_true rfl) ⟨by decide, by decide⟩ ⟨by decide, by decide⟩ ⟨by decide, by decide⟩ (mv_noH hno _) (fun v25 σ25 h25 => ?_)
  obtain ⟨a25, w25, e25, r25⟩ := h25
  have q25 := r25.1
  have z25 := fun q => (r25.2.1 q).1
  have y25 := And.intro r25.2.2.2.1 r25.2.2.2.2.1
  subst e25
  refine mv_gen (fun S28 eS28 => ?_)
  have hR : Rw 32 (mv_r S28) := by rw [eS28]; exact hR
  have hF : IF 32 σ S28 := by rw [eS28]; exact hF.tk3 _ _ _
  have hN : mv_i S28 21 0 = 0 → mv_i σ 21 0 = 0 := by rw [eS28]; exact hN
  have t7 : (mv_i S28 3 7).toInt = a25.toInt := by rw [eS28]; rfl
  have t8 : (mv_i S28 3 8).toInt = (mv_i σ 3 8).toInt := by rw [eS28]; first | exact t8 | exact (sub_one (by omega)).trans (by omega) | exact (i32_inc (by omega)).trans (by omega)
  have t9 : (mv_i S28 3 9).toInt = w25.toInt := by rw [eS28]; rfl
  have kp := Eq.trans (show mv_a S28 4 = mv_a _ 4 by rw [eS28]; rfl) kp
  have k6 := Eq.trans (show mv_b S28 6 = mv_b _ 6 by rw [eS28]; rfl) k6
  have hW2 : WN 32 512 S28 n th sl no := by rw [eS28]; exact hW2.tk3 hP _ _ _
  have hb15 : (mv_i S28 2 15).toInt = 0 := by rw [hF.1 2 15 (by decide)]; exact hS.2.1.1
  clear eS28
  refine mv_istore_n (pc := 28) B d_Weaver_op_28 rfl (by decide) rfl ?_
  refine mv_aload_n (pc := 29) B d_Weaver_op_29 rfl 2 rfl ?_
  refine mv_sipush (pc := 30) (v := 206) B d_Weaver_op_30 (by decide) ?_
  refine mv_iconst (pc := 33) (v := -1) B d_Weaver_op_33 (by decide) ?_
  refine mv_iconst (pc := 34) (v := -1) B d_Weaver_op_34 (by decide) ?_
  refine mv_callVv (pc := 35) (n := 3) (ci := 1) (C := R_Weaver) B (mK_ok sk sv) hNs rfl rfl (c_Weaver_openBlock l hi _ _ _ _ hR.1 (hG.2.2.1.wt hF.wt hP ht2) (by omega) (by omega) (by omega) (by omega)) rfl (ma_goodc kc_Weaver_openBlock) (B.2.2.2.1 _ k_1345) (B.2.2.2.1 _ k_1347) (B.2.2.2.1 _ ks_41) (B.2.2.2.1 _ k_2) ⟨by decide +kernel, by decide +kernel, by decide +kernel⟩ rfl d_Weaver_op_35 rfl (Nat.le_of_ble_eq_true rfl) ⟨by decide, by decide⟩ ⟨by decide, by decide⟩ ⟨by decide, by decide⟩ (mv_noH hno _) (fun σ35 h35 => ?_)
  obtain ⟨a6, w6, v6, r6, d6⟩ := h35
  have q6 := r6.1
  have z6 := fun q => (r6.2.1 q).1
  have hR : Rw 32 (mv_r σ35) := by rcases d6 with ⟨-, q⟩ | ⟨-, q⟩ <;> (rw [q]; exact hR)
  refine mv_aload_n (pc := 38) B d_Weaver_op_38 rfl 2 rfl ?_
  refine mv_getR (pc := 39) (ci := 1) (C := R_Weaver) (T := F_Weaver) (N := 16) B 0 rfl rfl (by decide) i_Weaver (B.2.2.2.1 _ k_228) rfl (hR.1 _ 0 _ rfl) d_Weaver_op_39 ?_
  refine mv_callVi (pc := 42) (n := 0) (ci := 2) (C := R_Tokens) B (mK_ok sk sv) hNs rfl rfl (c_Tokens_right l hi _) rfl (ma_goodc kc_Tokens_right) (B.2.2.2.1 _ k_1291) (B.2.2.2.1 _ k_1292) (B.2.2.2.1 _ k_1293) (B.2.2.2.1 _ k_3) ⟨by decide +kernel, by decide +kernel, by decide +kernel⟩ rfl d_Weaver_op_42 rfl (Nat.le_of_ble_eq_true rfl) ⟨by decide, by decide⟩ ⟨by decide, by decide⟩ ⟨by decide, by decide⟩ (mv_noH hno _) (fun v42 σ42 h42 => ?_)
  obtain ⟨e42, z42⟩ := h42
  have e42 := e42.symm
  subst e42
  refine mv_if_ne (pc := 45) (tgt := 49) B d_Weaver_op_45 rfl (fun h45 => ?_) (fun h45 => ?_)
  · skip
    have hw : (mv_i σ35 3 9).toInt < 0 := Decidable.byContradiction fun q => h45 (by rw [z42, if_neg (fun z => q (lt0.mp z))])
    have hd6 : w6.toInt < 0 ∧ σ35 = wb (tk3 S28 a6 (mv_i S28 3 8 + 1) w6) 206 (-1) (-1) := d6.resolve_left (fun q => by obtain ⟨q1, q2⟩ := q; subst q2; exact absurd hw (by show ¬ w6.toInt < 0; omega))
    obtain ⟨hw6, e35⟩ := hd6
    have rr6 := r6.2.1 hw6
    have rr25 := r25.2.1 (by omega)
    have hd60 : ¬ (mv_i S28 3 8).toInt = 60 := fun q => rr6.2.2.1 (Int32.toInt_inj.mp q)
    have hV : WT 32 σ σ35 := by rw [e35]; exact (hF.wt.tk3 _ _ _).wb _ _ _
    have hMt : Mt (mv_a σ35 24) := by rw [e35]; show Mt (mv_a S28 24); rw [hF.2.1 24 (by decide)]; exact hM
    have hW3 : WN 32 512 σ35 n th sl no := by rw [e35]; exact hW2.of hP ((OF.tk3 Fr.rf _ _ _).wb _ _ _)
    have hm1 : mv_i σ35 2 6 = 1 := by rw [e35]; rfl
    have kp25 : mv_a S19 4 = mv_a σ 4 := kp19
    have t719 := t7b
    have ec19 := i32_cl (x := mv_i S19 3 7) (by omega)
    have hk5 : mv_a σ 4 (a + 2) = 5 := by have := rr25.2.1; rw [kp25] at this; have e : (mv_i S19 3 7).toNatClampNeg = a + 2 := (by omega); rw [e] at this; exact this
    have hncd : no + 1 ≤ nCd (mv_a σ 4) (a + 4) := Nat.le_trans (Nat.le_trans (Nat.add_le_add_right (Nat.le_trans hS.1.2.2.2.2.2.2.2 (nCd_mono _ (show a ≤ a + 2 by omega))) 1) (nCd_at hk5 (show a + 2 < a + 3 by omega))) (nCd_mono _ (by omega))
    have k4 : mv_a σ35 4 = mv_a σ 4 := by rw [e35]; exact kp
    have hnc : no + 1 ≤ nCd (mv_a σ35 4) (a + 4) := by rw [k4]; exact hncd
    have hcode := (hG.2.2.1.2.1.2.2.2.2 (a + 2) (by omega)).2.1 hk5
    have ev25 : v25.toNatClampNeg = a + 2 := by rw [rr25.2.2.2]; omega
    have hS3 : WS 32 σ35 sz th s0 (a + 4) ns no [((-1 : Int32), [])] := by
      rw [e35]
      have g := hF.tk3 a6 (mv_i S28 3 8 + 1) w6
      refine WS.block (d := ((mv_i S28 3 8).toInt + 1).toNat) hP (show a6.toInt = ((a + 4 : Nat) : Int) by omega) hw6 (show (mv_i S28 3 8 + 1).toInt = _ by rw [i32_inc (by omega)]; omega) (by show 0 + 1 ≤ _; omega) (by omega) (by omega) (by omega) (by omega) ?_ (show (mv_i S28 2 15).toInt = 0 from hb15) trivial ?_ ⟨⟨fun _ => rfl, fun _ => rfl⟩, fun _ => ⟨rfl, rfl⟩⟩ rfl (fun y hy => absurd hy List.not_mem_nil) ?_ ?_ ?_ ?_
      · rw [g.2.1 4 (by decide)]; omega
      · exact (hW2.2.2.1).1
      · exact fun b hb => by
          have e : b = ((-1 : Int32), []) := by simpa using hb
          subst e
          exact ⟨fun u hu => absurd (show (-1 : Int) = u from hu) (by omega), fun y hy => absurd hy List.not_mem_nil, by decide⟩
      · rw [g.1 32 17 (by decide)]; exact hS.2.2.1
      · rw [g.2.1 41 (by decide)]; exact hS.2.2.2.1
      · intro q
        obtain ⟨hg, k⟩ := hS.2.2.2.2 (hN q)
        refine ⟨hg, ?_⟩
        rw [g.2.1 41 (by decide), g.2.2.1 42 (fun q => q), g.2.1 39 (by decide)]
        exact ⟨k.1, k.2.1, fun x hx => (k.2.2.1 x hx).elim (fun z => Or.inl z.tail) Or.inr, k.2.2.2.1.cons ⟨fun u hu => absurd (show (-1 : Int) = u from hu) (by omega), fun y hy => absurd hy List.not_mem_nil⟩, k.2.2.2.2⟩
    refine mv_aload_n (pc := 49) B d_Weaver_op_49 rfl 2 rfl ?_
    refine mv_iload_n (pc := 50) B d_Weaver_op_50 rfl 1 rfl ?_
    refine mv_callVi (pc := 51) (n := 1) (ci := 1) (C := R_Weaver) B (mK_ok sk sv) hNs rfl rfl (c_Weaver_symbolOf l hi _ _ hR.1 y16.1 (by omega)) rfl (ma_goodc kc_Weaver_symbolOf) (B.2.2.2.1 _ k_1312) (B.2.2.2.1 _ k_1314) (B.2.2.2.1 _ ks_37) (B.2.2.2.1 _ k_2) ⟨by decide +kernel, by decide +kernel, by decide +kernel⟩ rfl d_Weaver_op_51 rfl (Nat.le_of_ble_eq_true rfl) ⟨by decide, by decide⟩ ⟨by decide, by decide⟩ ⟨by decide, by decide⟩ (mv_noH hno _) (fun v51 σ51 h51 => ?_)
    obtain ⟨e51, z51⟩ := h51
    have e51 := e51.symm
    subst e51
    have k6b : mv_b σ35 6 = mv_b σ 6 := by rw [e35]; exact k6
    have k5b : mv_a σ35 5 = mv_a σ 5 := by rw [e35]; show mv_a S28 5 = _; exact hF.2.1 5 (by decide)
    have hn16 := hG.2.2.1.1.2.1
    have hsy : 0 ≤ v51.toInt ∧ v51.toInt < 16448 := by rw [z51, k6b, l2i_nn sy16.1 (by omega)]; omega
    obtain ⟨pq, Qq, c1, c2, c3, c4⟩ := hcode
    have i63 : (mv_a σ35 5 v25.toNatClampNeg).toInt = pq := by rw [k5b, ev25]; exact c1
    have i76 : (mv_b σ35 6 v25.toNatClampNeg).toInt = Qq := by rw [k6b, ev25]; exact c2
    refine mv_istore_n (pc := 54) B d_Weaver_op_54 rfl (by decide) rfl ?_
    refine mv_aload_n (pc := 55) B d_Weaver_op_55 rfl 3 rfl ?_
    refine mv_getR (pc := 56) (ci := 1) (C := R_Weaver) (T := F_Weaver) (N := 16) B 0 rfl rfl (by decide) i_Weaver (B.2.2.2.1 _ k_228) rfl (hR.1 _ 0 _ rfl) d_Weaver_op_56 ?_
    refine mv_getR (pc := 59) (ci := 2) (C := R_Tokens) (T := F_Tokens) (N := 10) B 1 rfl rfl (by decide) i_Tokens (B.2.2.2.1 _ k_91) rfl (hR.1 _ 1 _ rfl) d_Weaver_op_59 ?_
    refine mv_iload_n (pc := 62) B d_Weaver_op_62 rfl 1 rfl ?_
    refine mv_iald (pc := 63) B rfl (i32_in y25.1 (by omega)) d_Weaver_op_63 ?_
    refine mv_iconst (pc := 64) (v := 1) B d_Weaver_op_64 (by decide) ?_
    refine mv_iadd (pc := 65) B d_Weaver_op_65 ?_
    refine mv_topi (fun y65 ey65 => ?_)
    have fy65 := i32_addE ey65 (by (try simp only [Int32.reduceToInt]); omega) (by (try simp only [Int32.reduceToInt]); omega)
    try simp only [Int32.reduceToInt] at fy65
    refine mv_istore (pc := 66) B d_Weaver_op_66 (by decide) rfl ?_
    refine mv_aload_n (pc := 68) B d_Weaver_op_68 rfl 4 rfl ?_
    refine mv_getR (pc := 69) (ci := 1) (C := R_Weaver) (T := F_Weaver) (N := 16) B 0 rfl rfl (by decide) i_Weaver (B.2.2.2.1 _ k_228) rfl (hR.1 _ 0 _ rfl) d_Weaver_op_69 ?_
    refine mv_getR (pc := 72) (ci := 2) (C := R_Tokens) (T := F_Tokens) (N := 10) B 2 rfl rfl (by decide) i_Tokens (B.2.2.2.1 _ k_94) rfl (hR.1 _ 2 _ rfl) d_Weaver_op_72 ?_
    refine mv_iload_n (pc := 75) B d_Weaver_op_75 rfl 2 rfl ?_
    refine mv_lald (pc := 76) B rfl (i32_in y25.1 (by omega)) d_Weaver_op_76 ?_
    refine mv_l2i (pc := 77) B d_Weaver_op_77 ?_
    have i77 := l2i_nn (x := mv_b σ35 6 v25.toNatClampNeg) (by omega) (by omega)
    have hcd : 0 ≤ y65.toInt ∧ 0 ≤ (mv_b σ35 6 v25.toNatClampNeg).toInt32.toInt ∧ y65.toInt + (mv_b σ35 6 v25.toNatClampNeg).toInt32.toInt ≤ len ∧ ∀ i : Nat, y65.toInt ≤ i → i < y65.toInt + (mv_b σ35 6 v25.toNatClampNeg).toInt32.toInt → 46 ≤ (mv_a σ t i).toInt ∧ (mv_a σ t i).toInt ≤ 122 := ⟨by omega, by omega, by omega, fun i q1 q2 => by have := c4 (i - (pq + 1)) (by omega); have e : pq + 1 + (i - (pq + 1)) = i := (by omega); rw [e] at this; exact this⟩
    refine mv_istore (pc := 78) B d_Weaver_op_78 (by decide) rfl ?_
    refine mv_lpick [0, 1, 2, 3, 4, 5] rfl ?_
    exact j80 _ _ _ _ _ _ _ hR hV hMt hW3 hS3 hm1 y16 y25 hsy hcd hnc
  · skip
    have hw : ¬ (mv_i σ35 3 9).toInt < 0 := fun q => by rw [if_pos (lt0.mpr q)] at z42; rw [z42] at h45; exact absurd h45 (by decide)
    have hend : TP 32 512 σ σ35 n sz a := by
      rcases d6 with ⟨q1, q2⟩ | ⟨q1, q2⟩
      · subst q2
        have hF := hF.tk3 a6 (mv_i S28 3 8 + 1) w6
        exact ⟨hF.wt, by rw [hF.2.1 24 (by decide)]; exact hM, th, sl, no, hW2.tk3 hP _ _ _, Or.inl q1⟩
      · subst q2
        exact absurd q1 hw
    exact mv_vret (pc := 48) B hr d_Weaver_op_48 (Nat.le_refl _) (Nat.le_refl _) ⟨rfl, hend⟩
set_option maxHeartbeats 4000000 in
set_option maxRecDepth 100000 in
theorem c_Weaver_op_b (l : Launch) {dA : FieldType → ClassId} {D : va_G} {al : Nat → Nat} {ext : mv_Sh} {sk sv : Nat → Nat} (hi : mv_inj (mg dA D al ext)) (σ : mv_H) {t tn len n z sz th sl s0 a ns no : Nat} (hG : WG 48 32768 512 ext σ t tn len n z sz) (hM : Mt (mv_a σ 24)) (hW : WN 48 512 σ n th sl no) (hS : WS 48 σ sz th s0 a ns no []) (hm0 : mv_i σ 2 6 = 0) (hk3 : mv_a σ 4 (mv_i σ 3 7).toNatClampNeg = 206) : mv_C l y_Weaver_op (Cond.code y_Weaver_op b_Weaver_op 6 (Option.none : Option Jvm.ClassFile.FieldType) :: ma) ({ frames := 4, cells := 0, slots := 0, locals := 86 }) (mg dA D al ext) (mK sk sv) [.ref (al 2)] σ (mv_Rv (fun σ1 => TP 48 512 σ σ1 n sz a)) := by
  refine mv_C.ofV (cc := b_Weaver_op) (nL := 6) (ret := (Option.none : Option Jvm.ClassFile.FieldType)) (by decide +kernel) rfl hi (Nat.le_of_ble_eq_true rfl) ?_
  intro p e s m below meth c B hNs hr hnm hno
  have hP : PQ 48 := by unfold PQ; omega
  have hR := hG.1
  have ht2 := hG.2.1.2.2.2.2.2.2
  have hF : IF 48 σ σ := Fr.rf
  have hN : mv_i σ 21 0 = 0 → mv_i σ 21 0 = 0 := fun q => q
  have hE := hG.2.2.1
  have hsz := hE.2.2.2.2.2
  have hsz2 := hE.2.2.2.1
  have hlen := hG.2.2.2.2.1
  have hlen2 := hG.2.2.2.2.2
  have t7 := hS.1.1
  have hw9 := hS.1.2.1
  have ha9 := hS.1.2.2.2.2.1
  have t9 : (mv_i σ 3 9).toInt = (mv_i σ 3 9).toInt := rfl
  have t8 : (mv_i σ 3 8).toInt = (mv_i σ 3 8).toInt := rfl
  have kp : mv_a σ 4 = mv_a σ 4 := rfl
  have k6 : mv_b σ 6 = mv_b σ 6 := rfl
  have hs5 := hS.1.2.2.2.2.2.1
  have hs6 := hS.1.2.2.2.2.2.2.1
  have hd8 := hS.1.2.2.1
  have hd9 := hS.1.2.2.2.1
  have j171 : ∀ (υ : mv_H) (no2 : Nat) (sg : Int32) (fr : Int32) (sy : Int32) (tk1 : Int32) (tk2 : Int32) (hR : Rw 48 (mv_r υ)) (hV : WT 48 σ υ) (hMt : Mt (mv_a υ 24)) (hW3 : WN 48 512 υ n th sl no2) (hS3 : WS 48 υ sz th s0 (a + 4) ns no2 [((-1 : Int32), [])]) (hm1 : mv_i υ 2 6 = 1) (b1 : 0 ≤ tk1.toInt ∧ tk1.toInt < sz) (b2 : 0 ≤ tk2.toInt ∧ tk2.toInt < sz) (hsy : 0 ≤ sy.toInt ∧ sy.toInt < 16448) (hcd : 0 ≤ fr.toInt ∧ 0 ≤ sg.toInt ∧ fr.toInt + sg.toInt ≤ len ∧ ∀ i : Nat, fr.toInt ≤ i → i < fr.toInt + sg.toInt → 46 ≤ (mv_a σ t i).toInt ∧ (mv_a σ t i).toInt ≤ 122), mv_V p l e ({ frames := 4, cells := 0, slots := 0, locals := 86 }) s m ([.ref (al 2)] : List Value).toArray below meth c (mg dA D al ext) 6 0 0 (mv_Q (mg dA D al ext) below s 0 0 (mv_Rv (fun σ1 => TP 48 512 σ σ1 n sz a))) υ 171 [(5, .int sg), (4, .int fr), (3, .int sy), (2, .int tk2), (1, .int tk1), (0, .ref (al 2))] [] := by
    intro υ no2 sg fr sy tk1 tk2 hR hV hMt hW3 hS3 hm1 b1 b2 hsy hcd
    refine mv_aload_n (pc := 171) B d_Weaver_op_171 rfl 5 rfl ?_
    refine mv_getR (pc := 172) (ci := 1) (C := R_Weaver) (T := F_Weaver) (N := 16) B 1 rfl rfl (by decide) i_Weaver (B.2.2.2.1 _ k_229) rfl (hR.1 _ 1 _ rfl) d_Weaver_op_172 ?_
    refine mv_getR (pc := 175) (ci := 4) (C := R_Names) (T := F_Names) (N := 10) B 3 rfl rfl (by decide) i_Names (B.2.2.2.1 _ k_140) rfl (hR.1 _ 3 _ rfl) d_Weaver_op_175 ?_
    refine mv_iload_n (pc := 178) B d_Weaver_op_178 rfl 2 rfl ?_
    refine mv_iconst (pc := 179) (v := 1) B d_Weaver_op_179 (by decide) ?_
    refine mv_bast (pc := 180) B rfl (i32_in hsy.1 hsy.2) d_Weaver_op_180 ?_
    refine mv_gen (fun S181 eS181 => ?_)
    have hR : Rw 48 (mv_r S181) := by rw [eS181]; exact hR
    have hV : WT 48 σ S181 := by rw [eS181]; exact hV.sa (Or.inl ⟨by omega, by omega⟩)
    have hMt : Mt (mv_a S181 24) := by rw [eS181]; exact hMt
    have hW3 : WN 48 512 S181 n th sl no2 := by rw [eS181]; exact hW3.of hP (Fr.rf.sa (Or.inl rfl))
    have hS3 : WS 48 S181 sz th s0 (a + 4) ns no2 [((-1 : Int32), [])] := by rw [eS181]; exact hS3.fr hP rfl rfl rfl rfl rfl rfl rfl rfl rfl rfl rfl rfl (fun q => q)
    have hm1 : mv_i S181 2 6 = 1 := by rw [eS181]; exact hm1
    have hG3 := hG.wt hV hP
    have ett : mv_a S181 t = mv_a σ t := hV.2.1 t (by rcases ht2 with rfl | rfl <;> decide)
    clear eS181
    refine mv_aload_n (pc := 181) B d_Weaver_op_181 rfl 5 rfl ?_
    refine mv_getR (pc := 182) (ci := 1) (C := R_Weaver) (T := F_Weaver) (N := 16) B 1 rfl rfl (by decide) i_Weaver (B.2.2.2.1 _ k_229) rfl (hR.1 _ 1 _ rfl) d_Weaver_op_182 ?_
    refine mv_aload_n (pc := 185) B d_Weaver_op_185 rfl 5 rfl ?_
    refine mv_getR (pc := 186) (ci := 1) (C := R_Weaver) (T := F_Weaver) (N := 16) B 0 rfl rfl (by decide) i_Weaver (B.2.2.2.1 _ k_228) rfl (hR.1 _ 0 _ rfl) d_Weaver_op_186 ?_
    refine mv_getR (pc := 189) (ci := 2) (C := R_Tokens) (T := F_Tokens) (N := 10) B 4 rfl rfl (by decide) i_Tokens (B.2.2.2.1 _ k_99) rfl hG3.2.1.2.1 d_Weaver_op_189 ?_
    refine mv_iload (pc := 192) B d_Weaver_op_192 1 rfl ?_
    refine mv_iload (pc := 194) B d_Weaver_op_194 0 rfl ?_
    refine mv_aload_n (pc := 196) B d_Weaver_op_196 rfl 5 rfl ?_
    refine mv_getR (pc := 197) (ci := 1) (C := R_Weaver) (T := F_Weaver) (N := 16) B 5 rfl rfl (by decide) i_Weaver (B.2.2.2.1 _ k_235) rfl hR.2.2.1 d_Weaver_op_197 ?_
    refine mv_getI (pc := 200) (ci := 7) (C := R_Program) (T := F_Program) (N := 19) B 0 rfl rfl (by decide) i_Program (B.2.2.2.1 _ k_313) rfl d_Weaver_op_200 ?_
    refine mv_callVv (pc := 203) (n := 4) (ci := 4) (C := R_Names) B (mK_ok sk sv) hNs rfl rfl (c_Names_enterOpF l hi _ t tn _ _ _ hR.1 hG3.2.1.2.2.1 ht2 hG3.2.1.2.2.2.2.2.1 hcd.1 (by have := hG3.2.1.2.2.2.2.1; omega) (fun i q1 q2 => by rw [ett]; exact hcd.2.2.2 i q1 q2)) rfl (ma_goodc kc_Names_enterOp) (B.2.2.2.1 _ k_1358) (B.2.2.2.1 _ k_1359) (B.2.2.2.1 _ k_1360) (B.2.2.2.1 _ k_5) ⟨by decide +kernel, by decide +kernel, by decide +kernel⟩ rfl d_Weaver_op_203 rfl (Nat.le_of_ble_eq_true rfl) ⟨by decide, by decide⟩ ⟨by decide, by decide⟩ ⟨by decide, by decide⟩ (mv_noH hno _) (fun σ203 h203 => ?_)
    exact mv_vret (pc := 206) B hr d_Weaver_op_206 (Nat.le_refl _) (Nat.le_refl _) ⟨rfl, hV.tr (h203.up (fun _ _ q => q.elim) (fun o q => Or.inl ⟨by omega, by omega⟩) (fun o q => Or.inl q)), by rw [h203.2.1 24 (by decide)]; exact hMt, th, sl, no2, hW3.of hP (OF.en (P := 48) Fr.rf h203), Or.inr ⟨a + 4, by omega, Or.inr (Or.inl ⟨(h203.1 2 6 (fun q => q)).trans hm1, s0, ns, _, List.cons_ne_nil _ _, hS3.fr hP (funext fun k => h203.1 3 k (fun q => q)) (h203.1 _ _ (fun q => q)) (h203.1 _ _ (fun q => q)) (h203.1 _ _ (fun q => q)) (h203.2.1 _ (by decide)) (h203.2.1 _ (by decide)) (h203.2.1 _ (by decide)) (h203.2.1 _ (by decide)) (h203.2.1 _ (by decide)) (h203.2.1 _ (by decide)) (h203.2.2.1 _ (by decide)) (h203.2.1 _ (by decide)) (fun q => by rw [h203.1 21 0 (fun q => q)] at q; exact q)⟩)⟩⟩
  have j153 : ∀ (υ : mv_H) (no2 : Nat) (sg : Int32) (fr : Int32) (sy : Int32) (tk1 : Int32) (tk2 : Int32) (hR : Rw 48 (mv_r υ)) (hV : WT 48 σ υ) (hMt : Mt (mv_a υ 24)) (hW3 : WN 48 512 υ n th sl no2) (hS3 : WS 48 υ sz th s0 (a + 4) ns no2 [((-1 : Int32), [])]) (hm1 : mv_i υ 2 6 = 1) (b1 : 0 ≤ tk1.toInt ∧ tk1.toInt < sz) (b2 : 0 ≤ tk2.toInt ∧ tk2.toInt < sz) (hsy : 0 ≤ sy.toInt ∧ sy.toInt < 16448) (hcd : 0 ≤ fr.toInt ∧ 0 ≤ sg.toInt ∧ fr.toInt + sg.toInt ≤ len ∧ ∀ i : Nat, fr.toInt ≤ i → i < fr.toInt + sg.toInt → 46 ≤ (mv_a σ t i).toInt ∧ (mv_a σ t i).toInt ≤ 122), mv_V p l e ({ frames := 4, cells := 0, slots := 0, locals := 86 }) s m ([.ref (al 2)] : List Value).toArray below meth c (mg dA D al ext) 6 0 0 (mv_Q (mg dA D al ext) below s 0 0 (mv_Rv (fun σ1 => TP 48 512 σ σ1 n sz a))) υ 153 [(5, .int sg), (4, .int fr), (3, .int sy), (2, .int tk2), (1, .int tk1), (0, .ref (al 2))] [] := by
    intro υ no2 sg fr sy tk1 tk2 hR hV hMt hW3 hS3 hm1 b1 b2 hsy hcd
    refine mv_iload (pc := 153) B d_Weaver_op_153 0 rfl ?_
    refine mv_aload_n (pc := 155) B d_Weaver_op_155 rfl 5 rfl ?_
    refine mv_getR (pc := 156) (ci := 1) (C := R_Weaver) (T := F_Weaver) (N := 16) B 5 rfl rfl (by decide) i_Weaver (B.2.2.2.1 _ k_235) rfl hR.2.2.1 d_Weaver_op_156 ?_
    refine mv_getI (pc := 159) (ci := 7) (C := R_Program) (T := F_Program) (N := 19) B 0 rfl rfl (by decide) i_Program (B.2.2.2.1 _ k_313) rfl d_Weaver_op_159 ?_
    refine mv_icmp_eq (pc := 162) (tgt := 171) B d_Weaver_op_162 rfl (fun h162 => ?_) (fun h162 => ?_)
    · skip
      refine mv_lpick [0, 1, 2, 3, 4, 5] rfl ?_
      exact j171 _ _ _ _ _ _ _ hR hV hMt hW3 hS3 hm1 b1 b2 hsy hcd
    · skip
      refine mv_aload_n (pc := 165) B d_Weaver_op_165 rfl 5 rfl ?_
      refine mv_iload_n (pc := 166) B d_Weaver_op_166 rfl 3 rfl ?_
      refine mv_iconst (pc := 167) (v := 5) B d_Weaver_op_167 (by decide) ?_
      refine mv_callVv (pc := 168) (n := 2) (ci := 1) (C := R_Weaver) B (mK_ok sk sv) hNs rfl rfl (c_Weaver_tell l hi _ _ _ hR.1 b2.1 (by omega) (by decide)) rfl (ma_goodc kc_Weaver_tell) (B.2.2.2.1 _ k_1282) (B.2.2.2.1 _ k_1284) (B.2.2.2.1 _ ks_32) (B.2.2.2.1 _ k_2) ⟨by decide +kernel, by decide +kernel, by decide +kernel⟩ rfl d_Weaver_op_168 rfl (Nat.le_of_ble_eq_true rfl) ⟨by decide, by decide⟩ ⟨by decide, by decide⟩ ⟨by decide, by decide⟩ (mv_noH hno _) (fun σ168 h168 => ?_)
      obtain ⟨x9, y9, q1, q2⟩ := h168
      subst q1
      refine mv_gen (fun S171 eS171 => ?_)
      have hR : Rw 48 (mv_r S171) := by rw [eS171]; exact hR
      have hV : WT 48 σ S171 := by rw [eS171]; exact hV.tell _ _
      have hMt : Mt (mv_a S171 24) := by rw [eS171]; exact hMt
      have hW3 : WN 48 512 S171 n th sl no2 := by rw [eS171]; exact hW3.tell hP _ _
      have hS3 : WS 48 S171 sz th s0 (a + 4) ns no2 [((-1 : Int32), [])] := by rw [eS171]; exact hS3.fr hP rfl rfl rfl rfl rfl rfl rfl rfl rfl rfl rfl rfl (fun q => absurd q q2)
      have hm1 : mv_i S171 2 6 = 1 := by rw [eS171]; exact hm1
      clear eS171
      refine mv_lpick [0, 1, 2, 3, 4, 5] rfl ?_
      exact j171 _ _ _ _ _ _ _ hR hV hMt hW3 hS3 hm1 b1 b2 hsy hcd
  have j80 : ∀ (υ : mv_H) (no2 : Nat) (sg : Int32) (fr : Int32) (sy : Int32) (tk1 : Int32) (tk2 : Int32) (hR : Rw 48 (mv_r υ)) (hV : WT 48 σ υ) (hMt : Mt (mv_a υ 24)) (hW3 : WN 48 512 υ n th sl no2) (hS3 : WS 48 υ sz th s0 (a + 4) ns no2 [((-1 : Int32), [])]) (hm1 : mv_i υ 2 6 = 1) (b1 : 0 ≤ tk1.toInt ∧ tk1.toInt < sz) (b2 : 0 ≤ tk2.toInt ∧ tk2.toInt < sz) (hsy : 0 ≤ sy.toInt ∧ sy.toInt < 16448) (hcd : 0 ≤ fr.toInt ∧ 0 ≤ sg.toInt ∧ fr.toInt + sg.toInt ≤ len ∧ ∀ i : Nat, fr.toInt ≤ i → i < fr.toInt + sg.toInt → 46 ≤ (mv_a σ t i).toInt ∧ (mv_a σ t i).toInt ≤ 122) (hnc : no2 + 1 ≤ nCd (mv_a υ 4) (a + 4)), mv_V p l e ({ frames := 4, cells := 0, slots := 0, locals := 86 }) s m ([.ref (al 2)] : List Value).toArray below meth c (mg dA D al ext) 6 0 0 (mv_Q (mg dA D al ext) below s 0 0 (mv_Rv (fun σ1 => TP 48 512 σ σ1 n sz a))) υ 80 [(5, .int sg), (4, .int fr), (3, .int sy), (2, .int tk2), (1, .int tk1), (0, .ref (al 2))] [] := by
    intro υ no2 sg fr sy tk1 tk2 hR hV hMt hW3 hS3 hm1 b1 b2 hsy hcd hnc
    have ha4 := hS3.1.2.2.2.2.1
    have hG3 := hG.wt hV hP
    have hops := hW3.2.2.2.2.2.1
    have hno9 := hW3.2.2.2.2.2.2
    have k4 : mv_a υ 4 = mv_a σ 4 := hV.2.1 4 (by decide)
    rw [k4] at hnc
    have hnc2 := hnc
    rw [← k4] at hnc
    refine mv_aload_n (pc := 80) B d_Weaver_op_80 rfl 5 rfl ?_
    refine mv_getR (pc := 81) (ci := 1) (C := R_Weaver) (T := F_Weaver) (N := 16) B 1 rfl rfl (by decide) i_Weaver (B.2.2.2.1 _ k_229) rfl (hR.1 _ 1 _ rfl) d_Weaver_op_81 ?_
    refine mv_getR (pc := 84) (ci := 4) (C := R_Names) (T := F_Names) (N := 10) B 3 rfl rfl (by decide) i_Names (B.2.2.2.1 _ k_140) rfl (hR.1 _ 3 _ rfl) d_Weaver_op_84 ?_
    refine mv_iload_n (pc := 87) B d_Weaver_op_87 rfl 2 rfl ?_
    refine mv_bald (pc := 88) B rfl (i32_in hsy.1 hsy.2) d_Weaver_op_88 ?_
    refine mv_iconst (pc := 89) (v := 1) B d_Weaver_op_89 (by decide) ?_
    refine mv_icmp_ne (pc := 90) (tgt := 102) B d_Weaver_op_90 rfl (fun h90 => ?_) (fun h90 => ?_)
    · skip
      refine mv_aload_n (pc := 102) B d_Weaver_op_102 rfl 5 rfl ?_
      refine mv_getR (pc := 103) (ci := 1) (C := R_Weaver) (T := F_Weaver) (N := 16) B 5 rfl rfl (by decide) i_Weaver (B.2.2.2.1 _ k_235) rfl hR.2.2.1 d_Weaver_op_103 ?_
      refine mv_getI (pc := 106) (ci := 7) (C := R_Program) (T := F_Program) (N := 19) B 10 rfl rfl (by decide) i_Program (B.2.2.2.1 _ k_347) rfl d_Weaver_op_106 ?_
      refine mv_sipush (pc := 109) (v := 512) B d_Weaver_op_109 (by decide) ?_
      refine mv_icmp_ne (pc := 112) (tgt := 125) B d_Weaver_op_112 rfl (fun h112 => ?_) (fun h112 => ?_)
      · skip
        have hn512 : ¬ (mv_i υ 48 10).toInt = 512 := fun q => h112 (Int32.toInt_inj.mp q)
        refine mv_iload (pc := 125) B d_Weaver_op_125 0 rfl ?_
        refine mv_aload_n (pc := 127) B d_Weaver_op_127 rfl 5 rfl ?_
        refine mv_getR (pc := 128) (ci := 1) (C := R_Weaver) (T := F_Weaver) (N := 16) B 5 rfl rfl (by decide) i_Weaver (B.2.2.2.1 _ k_235) rfl hR.2.2.1 d_Weaver_op_128 ?_
        refine mv_getI (pc := 131) (ci := 7) (C := R_Program) (T := F_Program) (N := 19) B 0 rfl rfl (by decide) i_Program (B.2.2.2.1 _ k_313) rfl d_Weaver_op_131 ?_
        refine mv_icmp_ne (pc := 134) (tgt := 153) B d_Weaver_op_134 rfl (fun h134 => ?_) (fun h134 => ?_)
        · skip
          refine mv_lpick [0, 1, 2, 3, 4, 5] rfl ?_
          exact j153 _ _ _ _ _ _ _ hR hV hMt hW3 hS3 hm1 b1 b2 hsy hcd
        · skip
          have hlt : no2 < 512 := by
            rcases hG.2.2.2.1 with q | q
            · omega
            · have : nCd (mv_a σ 4) (a + 4) ≤ nCd (mv_a σ 4) sz := nCd_mono _ (by omega)
              omega
          refine mv_aload_n (pc := 137) B d_Weaver_op_137 rfl 5 rfl ?_
          refine mv_getR (pc := 138) (ci := 1) (C := R_Weaver) (T := F_Weaver) (N := 16) B 5 rfl rfl (by decide) i_Weaver (B.2.2.2.1 _ k_235) rfl hR.2.2.1 d_Weaver_op_138 ?_
          refine mv_aload_n (pc := 141) B d_Weaver_op_141 rfl 5 rfl ?_
          refine mv_getR (pc := 142) (ci := 1) (C := R_Weaver) (T := F_Weaver) (N := 16) B 0 rfl rfl (by decide) i_Weaver (B.2.2.2.1 _ k_228) rfl (hR.1 _ 0 _ rfl) d_Weaver_op_142 ?_
          refine mv_getR (pc := 145) (ci := 2) (C := R_Tokens) (T := F_Tokens) (N := 10) B 4 rfl rfl (by decide) i_Tokens (B.2.2.2.1 _ k_99) rfl hG3.2.1.2.1 d_Weaver_op_145 ?_
          refine mv_iload (pc := 148) B d_Weaver_op_148 1 rfl ?_
          refine mv_callVv (pc := 150) (n := 2) (ci := 7) (C := R_Program) B (mK_ok sk sv) hNs rfl rfl (c_Program_addOp_b l hi _ t tn _ hR.2.1 hG3.2.1.2.2.1 hG3.2.1.2.2.2.2.2.1 hcd.1 hW3.2.1.2.2.2.2.1 hW3.2.1.2.2.2.2.2.1 (by have := hG3.2.1.2.2.2.2.1; have e : sg.toInt = (mv_i υ 48 0).toInt := by { rw [h134] }; omega) (by omega) (by omega)) rfl (ma_goodc kc_Program_addOp) (B.2.2.2.1 _ k_1354) (B.2.2.2.1 _ k_1355) (B.2.2.2.1 _ k_1356) (B.2.2.2.1 _ k_8) ⟨by decide +kernel, by decide +kernel, by decide +kernel⟩ rfl d_Weaver_op_150 rfl (Nat.le_of_ble_eq_true rfl) ⟨by decide, by decide⟩ ⟨by decide, by decide⟩ ⟨by decide, by decide⟩ (mv_noH hno _) (fun σ150 h150 => ?_)
          have hR : Rw 48 (mv_r σ150) := by rw [h150.1.2.2.2.2]; exact hR
          have hV : WT 48 σ σ150 := hV.tr (h150.1.up (fun o k q => by omega) (fun o q => by omega) (fun o q => by omega))
          have hMt : Mt (mv_a σ150 24) := by rw [h150.1.2.1 24 (by decide)]; exact hMt
          have hS3 := hS3.addOp hP h150 hops hnc
          have hW3 := hW3.addOp hP h150 (by omega) (by omega)
          have hm1 : mv_i σ150 2 6 = 1 := (h150.1.1 2 6 (by decide)).trans hm1
          refine mv_lpick [0, 1, 2, 3, 4, 5] rfl ?_
          exact j153 _ _ _ _ _ _ _ hR hV hMt hW3 hS3 hm1 b1 b2 hsy hcd
      · skip
        refine mv_aload_n (pc := 115) B d_Weaver_op_115 rfl 5 rfl ?_
        refine mv_iload_n (pc := 116) B d_Weaver_op_116 rfl 4 rfl ?_
        refine mv_bipush (pc := 117) (v := 6) B d_Weaver_op_117 (by decide) ?_
        refine mv_callVv (pc := 119) (n := 2) (ci := 1) (C := R_Weaver) B (mK_ok sk sv) hNs rfl rfl (c_Weaver_tell l hi _ _ _ hR.1 b1.1 (by omega) (by decide)) rfl (ma_goodc kc_Weaver_tell) (B.2.2.2.1 _ k_1282) (B.2.2.2.1 _ k_1284) (B.2.2.2.1 _ ks_32) (B.2.2.2.1 _ k_2) ⟨by decide +kernel, by decide +kernel, by decide +kernel⟩ rfl d_Weaver_op_119 rfl (Nat.le_of_ble_eq_true rfl) ⟨by decide, by decide⟩ ⟨by decide, by decide⟩ ⟨by decide, by decide⟩ (mv_noH hno _) (fun σ119 h119 => ?_)
        obtain ⟨x9, y9, q1, q2⟩ := h119
        subst q1
        refine mv_gen (fun S154 eS154 => ?_)
        have hR : Rw 48 (mv_r S154) := by rw [eS154]; exact hR
        have hV : WT 48 σ S154 := by rw [eS154]; exact hV.tell _ _
        have hMt : Mt (mv_a S154 24) := by rw [eS154]; exact hMt
        have hW3 : WN 48 512 S154 n th sl no2 := by rw [eS154]; exact hW3.tell hP _ _
        have hS3 : WS 48 S154 sz th s0 (a + 4) ns no2 [((-1 : Int32), [])] := by rw [eS154]; exact hS3.fr hP rfl rfl rfl rfl rfl rfl rfl rfl rfl rfl rfl rfl (fun q => absurd q q2)
        have hm1 : mv_i S154 2 6 = 1 := by rw [eS154]; exact hm1
        clear eS154
        refine mv_goto (pc := 122) (tgt := 153) B d_Weaver_op_122 rfl ?_
        refine mv_lpick [0, 1, 2, 3, 4, 5] rfl ?_
        exact j153 _ _ _ _ _ _ _ hR hV hMt hW3 hS3 hm1 b1 b2 hsy hcd
    · skip
      refine mv_aload_n (pc := 93) B d_Weaver_op_93 rfl 5 rfl ?_
      refine mv_iload_n (pc := 94) B d_Weaver_op_94 rfl 4 rfl ?_
      refine mv_iconst (pc := 95) (v := 2) B d_Weaver_op_95 (by decide) ?_
      refine mv_callVv (pc := 96) (n := 2) (ci := 1) (C := R_Weaver) B (mK_ok sk sv) hNs rfl rfl (c_Weaver_tell l hi _ _ _ hR.1 b1.1 (by omega) (by decide)) rfl (ma_goodc kc_Weaver_tell) (B.2.2.2.1 _ k_1282) (B.2.2.2.1 _ k_1284) (B.2.2.2.1 _ ks_32) (B.2.2.2.1 _ k_2) ⟨by decide +kernel, by decide +kernel, by decide +kernel⟩ rfl d_Weaver_op_96 rfl (Nat.le_of_ble_eq_true rfl) ⟨by decide, by decide⟩ ⟨by decide, by decide⟩ ⟨by decide, by decide⟩ (mv_noH hno _) (fun σ96 h96 => ?_)
      obtain ⟨x9, y9, q1, q2⟩ := h96
      subst q1
      refine mv_gen (fun S153 eS153 => ?_)
      have hR : Rw 48 (mv_r S153) := by rw [eS153]; exact hR
      have hV : WT 48 σ S153 := by rw [eS153]; exact hV.tell _ _
      have hMt : Mt (mv_a S153 24) := by rw [eS153]; exact hMt
      have hW3 : WN 48 512 S153 n th sl no2 := by rw [eS153]; exact hW3.tell hP _ _
      have hS3 : WS 48 S153 sz th s0 (a + 4) ns no2 [((-1 : Int32), [])] := by rw [eS153]; exact hS3.fr hP rfl rfl rfl rfl rfl rfl rfl rfl rfl rfl rfl rfl (fun q => absurd q q2)
      have hm1 : mv_i S153 2 6 = 1 := by rw [eS153]; exact hm1
      clear eS153
      refine mv_goto (pc := 99) (tgt := 153) B d_Weaver_op_99 rfl ?_
      refine mv_lpick [0, 1, 2, 3, 4, 5] rfl ?_
      exact j153 _ _ _ _ _ _ _ hR hV hMt hW3 hS3 hm1 b1 b2 hsy hcd
  refine mv_aload_n (pc := 0) B d_Weaver_op_0 rfl 0 rfl ?_
  refine mv_getR (pc := 1) (ci := 1) (C := R_Weaver) (T := F_Weaver) (N := 16) B 0 rfl rfl (by decide) i_Weaver (B.2.2.2.1 _ k_228) rfl (hR.1 _ 0 _ rfl) d_Weaver_op_1 ?_
  refine mv_sipush (pc := 4) (v := 206) B d_Weaver_op_4 (by decide) ?_
  refine mv_callVi (pc := 7) (n := 1) (ci := 2) (C := R_Tokens) B (mK_ok sk sv) hNs rfl rfl (c_Tokens_takeN l hi _ _ hR.1 (hG.2.2.1.wt hF.wt hP ht2) (by omega) (by omega) (by decide)) rfl (ma_goodc kc_Tokens_take) (B.2.2.2.1 _ k_1266) (B.2.2.2.1 _ k_1267) (B.2.2.2.1 _ k_1268) (B.2.2.2.1 _ k_3) ⟨by decide +kernel, by decide +kernel, by decide +kernel⟩ rfl d_Weaver_op_7 rfl (Nat.le_of_ble_eq_true rfl) ⟨by decide, by decide⟩ ⟨by decide, by decide⟩ ⟨by decide, by decide⟩ (mv_noH hno _) (fun v7 σ7 h7 => ?_)
  obtain ⟨a7, w7, e7, r7⟩ := h7
  have q7 := r7.1
  have z7 := fun q => (r7.2.1 q).1
  have y7 := And.intro r7.2.2.2.1 r7.2.2.2.2.1
  subst e7
  have hw7 := r7.2.2.1 hw9 hk3 trivial
  refine mv_gen (fun S10 eS10 => ?_)
  have hR : Rw 48 (mv_r S10) := by rw [eS10]; exact hR
  have hF : IF 48 σ S10 := by rw [eS10]; exact hF.tk3 _ _ _
  have hN : mv_i S10 21 0 = 0 → mv_i σ 21 0 = 0 := by rw [eS10]; exact hN
  have t7 : (mv_i S10 3 7).toInt = a7.toInt := by rw [eS10]; rfl
  have t8 : (mv_i S10 3 8).toInt = (mv_i σ 3 8).toInt := by rw [eS10]; first | exact t8 | exact (sub_one (by omega)).trans (by omega) | exact (i32_inc (by omega)).trans (by omega)
  have t9 : (mv_i S10 3 9).toInt = w7.toInt := by rw [eS10]; rfl
  have kp := Eq.trans (show mv_a S10 4 = mv_a _ 4 by rw [eS10]; rfl) kp
  have k6 := Eq.trans (show mv_b S10 6 = mv_b _ 6 by rw [eS10]; rfl) k6
  have hW2 := hW
  have hW2 : WN 48 512 S10 n th sl no := by rw [eS10]; exact hW2.tk3 hP _ _ _
  clear eS10
  refine mv_pop (pc := 10) B d_Weaver_op_10 rfl ?_
  refine mv_aload_n (pc := 11) B d_Weaver_op_11 rfl 0 rfl ?_
  refine mv_getR (pc := 12) (ci := 1) (C := R_Weaver) (T := F_Weaver) (N := 16) B 0 rfl rfl (by decide) i_Weaver (B.2.2.2.1 _ k_228) rfl (hR.1 _ 0 _ rfl) d_Weaver_op_12 ?_
  refine mv_iconst (pc := 15) (v := 3) B d_Weaver_op_15 (by decide) ?_
  refine mv_callVi (pc := 16) (n := 1) (ci := 2) (C := R_Tokens) B (mK_ok sk sv) hNs rfl rfl (c_Tokens_takeN l hi _ _ hR.1 (hG.2.2.1.wt hF.wt hP ht2) (by omega) (by omega) (by decide)) rfl (ma_goodc kc_Tokens_take) (B.2.2.2.1 _ k_1266) (B.2.2.2.1 _ k_1267) (B.2.2.2.1 _ k_1268) (B.2.2.2.1 _ k_3) ⟨by decide +kernel, by decide +kernel, by decide +kernel⟩ rfl d_Weaver_op_16 rfl (Nat.le_of_ble_eq_true rfl) ⟨by decide, by decide⟩ ⟨by decide, by decide⟩ ⟨by decide, by decide⟩ (mv_noH hno _) (fun v16 σ16 h16 => ?_)
  have kz := k6
  obtain ⟨a16, w16, e16, r16⟩ := h16
  have q16 := r16.1
  have z16 := fun q => (r16.2.1 q).1
  have y16 := And.intro r16.2.2.2.1 r16.2.2.2.2.1
  subst e16
  have sy16 := TkR.sym (hG.2.2.1.wt hF.wt hP ht2) r16
  refine mv_gen (fun S19 eS19 => ?_)
  have hR : Rw 48 (mv_r S19) := by rw [eS19]; exact hR
  have hF : IF 48 σ S19 := by rw [eS19]; exact hF.tk3 _ _ _
  have hN : mv_i S19 21 0 = 0 → mv_i σ 21 0 = 0 := by rw [eS19]; exact hN
  have t7 : (mv_i S19 3 7).toInt = a16.toInt := by rw [eS19]; rfl
  have t8 : (mv_i S19 3 8).toInt = (mv_i σ 3 8).toInt := by rw [eS19]; first | exact t8 | exact (sub_one (by omega)).trans (by omega) | exact (i32_inc (by omega)).trans (by omega)
  have t9 : (mv_i S19 3 9).toInt = w16.toInt := by rw [eS19]; rfl
  have kp := Eq.trans (show mv_a S19 4 = mv_a _ 4 by rw [eS19]; rfl) kp
  have k6 := Eq.trans (show mv_b S19 6 = mv_b _ 6 by rw [eS19]; rfl) k6
  have hW2 : WN 48 512 S19 n th sl no := by rw [eS19]; exact hW2.tk3 hP _ _ _
  have sy16 : 0 ≤ (mv_b σ 6 v16.toNatClampNeg).toInt ∧ (mv_b σ 6 v16.toNatClampNeg).toInt < n := by rw [← kz]; exact sy16
  have kp19 := kp
  have t7b := t7
  clear eS19
  refine mv_istore_n (pc := 19) B d_Weaver_op_19 rfl (by decide) rfl ?_
  refine mv_aload_n (pc := 20) B d_Weaver_op_20 rfl 1 rfl ?_
  refine mv_getR (pc := 21) (ci := 1) (C := R_Weaver) (T := F_Weaver) (N := 16) B 0 rfl rfl (by decide) i_Weaver (B.2.2.2.1 _ k_228) rfl (hR.1 _ 0 _ rfl) d_Weaver_op_21 ?_
  refine mv_iconst (pc := 24) (v := 5) B d_Weaver_op_24 (by decide) ?_
  refine mv_callVi (pc := 25) (n := 1) (ci := 2) (C := R_Tokens) B (mK_ok sk sv) hNs rfl rfl (c_Tokens_takeN l hi _ _ hR.1 (hG.2.2.1.wt hF.wt hP ht2) (by omega) (by omega) (by decide)) rfl (ma_goodc kc_Tokens_take) (B.2.2.2.1 _ k_1266) (B.2.2.2.1 _ k_1267) (B.2.2.2.1 _ k_1268) (B.2.2.2.1 _ k_3) ⟨by decide +kernel, by decide +kernel, by decide +kernel⟩ rfl d_Weaver_op_25 rfl (Nat.le_of_ble_eq_true rfl) ⟨by decide, by decide⟩ ⟨by decide, by decide⟩ ⟨by decide, by decide⟩ (mv_noH hno _) (fun v25 σ25 h25 => ?_)
  obtain ⟨a25, w25, e25, r25⟩ := h25
  have q25 := r25.1
  have z25 := fun q => (r25.2.1 q).1
  have y25 := And.intro r25.2.2.2.1 r25.2.2.2.2.1
  subst e25
  refine mv_gen (fun S28 eS28 => ?_)
  have hR : Rw 48 (mv_r S28) := by rw [eS28]; exact hR
  have hF : IF 48 σ S28 := by rw [eS28]; exact hF.tk3 _ _ _
  have hN : mv_i S28 21 0 = 0 → mv_i σ 21 0 = 0 := by rw [eS28]; exact hN
  have t7 : (mv_i S28 3 7).toInt = a25.toInt := by rw [eS28]; rfl
  have t8 : (mv_i S28 3 8).toInt = (mv_i σ 3 8).toInt := by rw [eS28]; first | exact t8 | exact (sub_one (by omega)).trans (by omega) | exact (i32_inc (by omega)).trans (by omega)
  have t9 : (mv_i S28 3 9).toInt = w25.toInt := by rw [eS28]; rfl
  have kp := Eq.trans (show mv_a S28 4 = mv_a _ 4 by rw [eS28]; rfl) kp
  have k6 := Eq.trans (show mv_b S28 6 = mv_b _ 6 by rw [eS28]; rfl) k6
  have hW2 : WN 48 512 S28 n th sl no := by rw [eS28]; exact hW2.tk3 hP _ _ _
  have hb15 : (mv_i S28 2 15).toInt = 0 := by rw [hF.1 2 15 (by decide)]; exact hS.2.1.1
  clear eS28
  refine mv_istore_n (pc := 28) B d_Weaver_op_28 rfl (by decide) rfl ?_
  refine mv_aload_n (pc := 29) B d_Weaver_op_29 rfl 2 rfl ?_
  refine mv_sipush (pc := 30) (v := 206) B d_Weaver_op_30 (by decide) ?_
  refine mv_iconst (pc := 33) (v := -1) B d_Weaver_op_33 (by decide) ?_
  refine mv_iconst (pc := 34) (v := -1) B d_Weaver_op_34 (by decide) ?_
  refine mv_callVv (pc := 35) (n := 3) (ci := 1) (C := R_Weaver) B (mK_ok sk sv) hNs rfl rfl (c_Weaver_openBlock l hi _ _ _ _ hR.1 (hG.2.2.1.wt hF.wt hP ht2) (by omega) (by omega) (by omega) (by omega)) rfl (ma_goodc kc_Weaver_openBlock) (B.2.2.2.1 _ k_1345) (B.2.2.2.1 _ k_1347) (B.2.2.2.1 _ ks_41) (B.2.2.2.1 _ k_2) ⟨by decide +kernel, by decide +kernel, by decide +kernel⟩ rfl d_Weaver_op_35 rfl (Nat.le_of_ble_eq_true rfl) ⟨by decide, by decide⟩ ⟨by decide, by decide⟩ ⟨by decide, by decide⟩ (mv_noH hno _) (fun σ35 h35 => ?_)
  obtain ⟨a6, w6, v6, r6, d6⟩ := h35
  have q6 := r6.1
  have z6 := fun q => (r6.2.1 q).1
  have hR : Rw 48 (mv_r σ35) := by rcases d6 with ⟨-, q⟩ | ⟨-, q⟩ <;> (rw [q]; exact hR)
  refine mv_aload_n (pc := 38) B d_Weaver_op_38 rfl 2 rfl ?_
  refine mv_getR (pc := 39) (ci := 1) (C := R_Weaver) (T := F_Weaver) (N := 16) B 0 rfl rfl (by decide) i_Weaver (B.2.2.2.1 _ k_228) rfl (hR.1 _ 0 _ rfl) d_Weaver_op_39 ?_
  refine mv_callVi (pc := 42) (n := 0) (ci := 2) (C := R_Tokens) B (mK_ok sk sv) hNs rfl rfl (c_Tokens_right l hi _) rfl (ma_goodc kc_Tokens_right) (B.2.2.2.1 _ k_1291) (B.2.2.2.1 _ k_1292) (B.2.2.2.1 _ k_1293) (B.2.2.2.1 _ k_3) ⟨by decide +kernel, by decide +kernel, by decide +kernel⟩ rfl d_Weaver_op_42 rfl (Nat.le_of_ble_eq_true rfl) ⟨by decide, by decide⟩ ⟨by decide, by decide⟩ ⟨by decide, by decide⟩ (mv_noH hno _) (fun v42 σ42 h42 => ?_)
  obtain ⟨e42, z42⟩ := h42
  have e42 := e42.symm
  subst e42
  refine mv_if_ne (pc := 45) (tgt := 49) B d_Weaver_op_45 rfl (fun h45 => ?_) (fun h45 => ?_)
  · skip
    have hw : (mv_i σ35 3 9).toInt < 0 := Decidable.byContradiction fun q => h45 (by rw [z42, if_neg (fun z => q (lt0.mp z))])
    have hd6 : w6.toInt < 0 ∧ σ35 = wb (tk3 S28 a6 (mv_i S28 3 8 + 1) w6) 206 (-1) (-1) := d6.resolve_left (fun q => by obtain ⟨q1, q2⟩ := q; subst q2; exact absurd hw (by show ¬ w6.toInt < 0; omega))
    obtain ⟨hw6, e35⟩ := hd6
    have rr6 := r6.2.1 hw6
    have rr25 := r25.2.1 (by omega)
    have hd60 : ¬ (mv_i S28 3 8).toInt = 60 := fun q => rr6.2.2.1 (Int32.toInt_inj.mp q)
    have hV : WT 48 σ σ35 := by rw [e35]; exact (hF.wt.tk3 _ _ _).wb _ _ _
    have hMt : Mt (mv_a σ35 24) := by rw [e35]; show Mt (mv_a S28 24); rw [hF.2.1 24 (by decide)]; exact hM
    have hW3 : WN 48 512 σ35 n th sl no := by rw [e35]; exact hW2.of hP ((OF.tk3 Fr.rf _ _ _).wb _ _ _)
    have hm1 : mv_i σ35 2 6 = 1 := by rw [e35]; rfl
    have kp25 : mv_a S19 4 = mv_a σ 4 := kp19
    have t719 := t7b
    have ec19 := i32_cl (x := mv_i S19 3 7) (by omega)
    have hk5 : mv_a σ 4 (a + 2) = 5 := by have := rr25.2.1; rw [kp25] at this; have e : (mv_i S19 3 7).toNatClampNeg = a + 2 := (by omega); rw [e] at this; exact this
    have hncd : no + 1 ≤ nCd (mv_a σ 4) (a + 4) := Nat.le_trans (Nat.le_trans (Nat.add_le_add_right (Nat.le_trans hS.1.2.2.2.2.2.2.2 (nCd_mono _ (show a ≤ a + 2 by omega))) 1) (nCd_at hk5 (show a + 2 < a + 3 by omega))) (nCd_mono _ (by omega))
    have k4 : mv_a σ35 4 = mv_a σ 4 := by rw [e35]; exact kp
    have hnc : no + 1 ≤ nCd (mv_a σ35 4) (a + 4) := by rw [k4]; exact hncd
    have hcode := (hG.2.2.1.2.1.2.2.2.2 (a + 2) (by omega)).2.1 hk5
    have ev25 : v25.toNatClampNeg = a + 2 := by rw [rr25.2.2.2]; omega
    have hS3 : WS 48 σ35 sz th s0 (a + 4) ns no [((-1 : Int32), [])] := by
      rw [e35]
      have g := hF.tk3 a6 (mv_i S28 3 8 + 1) w6
      refine WS.block (d := ((mv_i S28 3 8).toInt + 1).toNat) hP (show a6.toInt = ((a + 4 : Nat) : Int) by omega) hw6 (show (mv_i S28 3 8 + 1).toInt = _ by rw [i32_inc (by omega)]; omega) (by show 0 + 1 ≤ _; omega) (by omega) (by omega) (by omega) (by omega) ?_ (show (mv_i S28 2 15).toInt = 0 from hb15) trivial ?_ ⟨⟨fun _ => rfl, fun _ => rfl⟩, fun _ => ⟨rfl, rfl⟩⟩ rfl (fun y hy => absurd hy List.not_mem_nil) ?_ ?_ ?_ ?_
      · rw [g.2.1 4 (by decide)]; omega
      · exact (hW2.2.2.1).1
      · exact fun b hb => by
          have e : b = ((-1 : Int32), []) := by simpa using hb
          subst e
          exact ⟨fun u hu => absurd (show (-1 : Int) = u from hu) (by omega), fun y hy => absurd hy List.not_mem_nil, by decide⟩
      · rw [g.1 48 17 (by decide)]; exact hS.2.2.1
      · rw [g.2.1 57 (by decide)]; exact hS.2.2.2.1
      · intro q
        obtain ⟨hg, k⟩ := hS.2.2.2.2 (hN q)
        refine ⟨hg, ?_⟩
        rw [g.2.1 57 (by decide), g.2.2.1 58 (fun q => q), g.2.1 55 (by decide)]
        exact ⟨k.1, k.2.1, fun x hx => (k.2.2.1 x hx).elim (fun z => Or.inl z.tail) Or.inr, k.2.2.2.1.cons ⟨fun u hu => absurd (show (-1 : Int) = u from hu) (by omega), fun y hy => absurd hy List.not_mem_nil⟩, k.2.2.2.2⟩
    refine mv_aload_n (pc := 49) B d_Weaver_op_49 rfl 2 rfl ?_
    refine mv_iload_n (pc := 50) B d_Weaver_op_50 rfl 1 rfl ?_
    refine mv_callVi (pc := 51) (n := 1) (ci := 1) (C := R_Weaver) B (mK_ok sk sv) hNs rfl rfl (c_Weaver_symbolOf l hi _ _ hR.1 y16.1 (by omega)) rfl (ma_goodc kc_Weaver_symbolOf) (B.2.2.2.1 _ k_1312) (B.2.2.2.1 _ k_1314) (B.2.2.2.1 _ ks_37) (B.2.2.2.1 _ k_2) ⟨by decide +kernel, by decide +kernel, by decide +kernel⟩ rfl d_Weaver_op_51 rfl (Nat.le_of_ble_eq_true rfl) ⟨by decide, by decide⟩ ⟨by decide, by decide⟩ ⟨by decide, by decide⟩ (mv_noH hno _) (fun v51 σ51 h51 => ?_)
    obtain ⟨e51, z51⟩ := h51
    have e51 := e51.symm
    subst e51
    have k6b : mv_b σ35 6 = mv_b σ 6 := by rw [e35]; exact k6
    have k5b : mv_a σ35 5 = mv_a σ 5 := by rw [e35]; show mv_a S28 5 = _; exact hF.2.1 5 (by decide)
    have hn16 := hG.2.2.1.1.2.1
    have hsy : 0 ≤ v51.toInt ∧ v51.toInt < 16448 := by rw [z51, k6b, l2i_nn sy16.1 (by omega)]; omega
    obtain ⟨pq, Qq, c1, c2, c3, c4⟩ := hcode
    have i63 : (mv_a σ35 5 v25.toNatClampNeg).toInt = pq := by rw [k5b, ev25]; exact c1
    have i76 : (mv_b σ35 6 v25.toNatClampNeg).toInt = Qq := by rw [k6b, ev25]; exact c2
    refine mv_istore_n (pc := 54) B d_Weaver_op_54 rfl (by decide) rfl ?_
    refine mv_aload_n (pc := 55) B d_Weaver_op_55 rfl 3 rfl ?_
    refine mv_getR (pc := 56) (ci := 1) (C := R_Weaver) (T := F_Weaver) (N := 16) B 0 rfl rfl (by decide) i_Weaver (B.2.2.2.1 _ k_228) rfl (hR.1 _ 0 _ rfl) d_Weaver_op_56 ?_
    refine mv_getR (pc := 59) (ci := 2) (C := R_Tokens) (T := F_Tokens) (N := 10) B 1 rfl rfl (by decide) i_Tokens (B.2.2.2.1 _ k_91) rfl (hR.1 _ 1 _ rfl) d_Weaver_op_59 ?_
    refine mv_iload_n (pc := 62) B d_Weaver_op_62 rfl 1 rfl ?_
    refine mv_iald (pc := 63) B rfl (i32_in y25.1 (by omega)) d_Weaver_op_63 ?_
    refine mv_iconst (pc := 64) (v := 1) B d_Weaver_op_64 (by decide) ?_
    refine mv_iadd (pc := 65) B d_Weaver_op_65 ?_
    refine mv_topi (fun y65 ey65 => ?_)
    have fy65 := i32_addE ey65 (by (try simp only [Int32.reduceToInt]); omega) (by (try simp only [Int32.reduceToInt]); omega)
    try simp only [Int32.reduceToInt] at fy65
    refine mv_istore (pc := 66) B d_Weaver_op_66 (by decide) rfl ?_
    refine mv_aload_n (pc := 68) B d_Weaver_op_68 rfl 4 rfl ?_
    refine mv_getR (pc := 69) (ci := 1) (C := R_Weaver) (T := F_Weaver) (N := 16) B 0 rfl rfl (by decide) i_Weaver (B.2.2.2.1 _ k_228) rfl (hR.1 _ 0 _ rfl) d_Weaver_op_69 ?_
    refine mv_getR (pc := 72) (ci := 2) (C := R_Tokens) (T := F_Tokens) (N := 10) B 2 rfl rfl (by decide) i_Tokens (B.2.2.2.1 _ k_94) rfl (hR.1 _ 2 _ rfl) d_Weaver_op_72 ?_
    refine mv_iload_n (pc := 75) B d_Weaver_op_75 rfl 2 rfl ?_
    refine mv_lald (pc := 76) B rfl (i32_in y25.1 (by omega)) d_Weaver_op_76 ?_
    refine mv_l2i (pc := 77) B d_Weaver_op_77 ?_
    have i77 := l2i_nn (x := mv_b σ35 6 v25.toNatClampNeg) (by omega) (by omega)
    have hcd : 0 ≤ y65.toInt ∧ 0 ≤ (mv_b σ35 6 v25.toNatClampNeg).toInt32.toInt ∧ y65.toInt + (mv_b σ35 6 v25.toNatClampNeg).toInt32.toInt ≤ len ∧ ∀ i : Nat, y65.toInt ≤ i → i < y65.toInt + (mv_b σ35 6 v25.toNatClampNeg).toInt32.toInt → 46 ≤ (mv_a σ t i).toInt ∧ (mv_a σ t i).toInt ≤ 122 := ⟨by omega, by omega, by omega, fun i q1 q2 => by have := c4 (i - (pq + 1)) (by omega); have e : pq + 1 + (i - (pq + 1)) = i := (by omega); rw [e] at this; exact this⟩
    refine mv_istore (pc := 78) B d_Weaver_op_78 (by decide) rfl ?_
    refine mv_lpick [0, 1, 2, 3, 4, 5] rfl ?_
    exact j80 _ _ _ _ _ _ _ hR hV hMt hW3 hS3 hm1 y16 y25 hsy hcd hnc
  · skip
    have hw : ¬ (mv_i σ35 3 9).toInt < 0 := fun q => by rw [if_pos (lt0.mpr q)] at z42; rw [z42] at h45; exact absurd h45 (by decide)
    have hend : TP 48 512 σ σ35 n sz a := by
      rcases d6 with ⟨q1, q2⟩ | ⟨q1, q2⟩
      · subst q2
        have hF := hF.tk3 a6 (mv_i S28 3 8 + 1) w6
        exact ⟨hF.wt, by rw [hF.2.1 24 (by decide)]; exact hM, th, sl, no, hW2.tk3 hP _ _ _, Or.inl q1⟩
      · subst q2
        exact absurd q1 hw
    exact mv_vret (pc := 48) B hr d_Weaver_op_48 (Nat.le_refl _) (Nat.le_refl _) ⟨rfl, hend⟩
set_option maxHeartbeats 4000000 in
set_option maxRecDepth 100000 in
theorem c_Weaver_op_c (l : Launch) {dA : FieldType → ClassId} {D : va_G} {al : Nat → Nat} {sk sv : Nat → Nat} (hi : mv_inj (mg dA D al me)) (σ : mv_H) {t tn len n z sz th sl s0 a ns no : Nat} (hG : WG 145 8192 48 me σ t tn len n z sz) (hM : Mt (mv_a σ 24)) (hW : WN 145 48 σ n th sl no) (hS : WS 145 σ sz th s0 a ns no []) (hm0 : mv_i σ 2 6 = 0) (hk3 : mv_a σ 4 (mv_i σ 3 7).toNatClampNeg = 206) : mv_C l y_Weaver_op (Cond.code y_Weaver_op b_Weaver_op 6 (Option.none : Option Jvm.ClassFile.FieldType) :: ma) ({ frames := 4, cells := 0, slots := 0, locals := 86 }) (mg dA D al me) (mK sk sv) [.ref (al 2)] σ (mv_Rv (fun σ1 => TP 145 48 σ σ1 n sz a)) := by
  refine mv_C.ofV (cc := b_Weaver_op) (nL := 6) (ret := (Option.none : Option Jvm.ClassFile.FieldType)) (by decide +kernel) rfl hi (Nat.le_of_ble_eq_true rfl) ?_
  intro p e s m below meth c B hNs hr hnm hno
  have hP : PQ 145 := by unfold PQ; omega
  have hR := hG.1
  have ht2 := hG.2.1.2.2.2.2.2.2
  have hF : IF 145 σ σ := Fr.rf
  have hN : mv_i σ 21 0 = 0 → mv_i σ 21 0 = 0 := fun q => q
  have hE := hG.2.2.1
  have hsz := hE.2.2.2.2.2
  have hsz2 := hE.2.2.2.1
  have hlen := hG.2.2.2.2.1
  have hlen2 := hG.2.2.2.2.2
  have t7 := hS.1.1
  have hw9 := hS.1.2.1
  have ha9 := hS.1.2.2.2.2.1
  have t9 : (mv_i σ 3 9).toInt = (mv_i σ 3 9).toInt := rfl
  have t8 : (mv_i σ 3 8).toInt = (mv_i σ 3 8).toInt := rfl
  have kp : mv_a σ 4 = mv_a σ 4 := rfl
  have k6 : mv_b σ 6 = mv_b σ 6 := rfl
  have hs5 := hS.1.2.2.2.2.2.1
  have hs6 := hS.1.2.2.2.2.2.2.1
  have hd8 := hS.1.2.2.1
  have hd9 := hS.1.2.2.2.1
  have j171 : ∀ (υ : mv_H) (no2 : Nat) (sg : Int32) (fr : Int32) (sy : Int32) (tk1 : Int32) (tk2 : Int32) (hR : Rw 145 (mv_r υ)) (hV : WT 145 σ υ) (hMt : Mt (mv_a υ 24)) (hW3 : WN 145 48 υ n th sl no2) (hS3 : WS 145 υ sz th s0 (a + 4) ns no2 [((-1 : Int32), [])]) (hm1 : mv_i υ 2 6 = 1) (b1 : 0 ≤ tk1.toInt ∧ tk1.toInt < sz) (b2 : 0 ≤ tk2.toInt ∧ tk2.toInt < sz) (hsy : 0 ≤ sy.toInt ∧ sy.toInt < 16448) (hcd : 0 ≤ fr.toInt ∧ 0 ≤ sg.toInt ∧ fr.toInt + sg.toInt ≤ len ∧ ∀ i : Nat, fr.toInt ≤ i → i < fr.toInt + sg.toInt → 46 ≤ (mv_a σ t i).toInt ∧ (mv_a σ t i).toInt ≤ 122), mv_V p l e ({ frames := 4, cells := 0, slots := 0, locals := 86 }) s m ([.ref (al 2)] : List Value).toArray below meth c (mg dA D al me) 6 0 0 (mv_Q (mg dA D al me) below s 0 0 (mv_Rv (fun σ1 => TP 145 48 σ σ1 n sz a))) υ 171 [(5, .int sg), (4, .int fr), (3, .int sy), (2, .int tk2), (1, .int tk1), (0, .ref (al 2))] [] := by
    intro υ no2 sg fr sy tk1 tk2 hR hV hMt hW3 hS3 hm1 b1 b2 hsy hcd
    refine mv_aload_n (pc := 171) B d_Weaver_op_171 rfl 5 rfl ?_
    refine mv_getR (pc := 172) (ci := 1) (C := R_Weaver) (T := F_Weaver) (N := 16) B 1 rfl rfl (by decide) i_Weaver (B.2.2.2.1 _ k_229) rfl (hR.1 _ 1 _ rfl) d_Weaver_op_172 ?_
    refine mv_getR (pc := 175) (ci := 4) (C := R_Names) (T := F_Names) (N := 10) B 3 rfl rfl (by decide) i_Names (B.2.2.2.1 _ k_140) rfl (hR.1 _ 3 _ rfl) d_Weaver_op_175 ?_
    refine mv_iload_n (pc := 178) B d_Weaver_op_178 rfl 2 rfl ?_
    refine mv_iconst (pc := 179) (v := 1) B d_Weaver_op_179 (by decide) ?_
    refine mv_bast (pc := 180) B rfl (i32_in hsy.1 hsy.2) d_Weaver_op_180 ?_
    refine mv_gen (fun S181 eS181 => ?_)
    have hR : Rw 145 (mv_r S181) := by rw [eS181]; exact hR
    have hV : WT 145 σ S181 := by rw [eS181]; exact hV.sa (Or.inl ⟨by omega, by omega⟩)
    have hMt : Mt (mv_a S181 24) := by rw [eS181]; exact hMt
    have hW3 : WN 145 48 S181 n th sl no2 := by rw [eS181]; exact hW3.of hP (Fr.rf.sa (Or.inl rfl))
    have hS3 : WS 145 S181 sz th s0 (a + 4) ns no2 [((-1 : Int32), [])] := by rw [eS181]; exact hS3.fr hP rfl rfl rfl rfl rfl rfl rfl rfl rfl rfl rfl rfl (fun q => q)
    have hm1 : mv_i S181 2 6 = 1 := by rw [eS181]; exact hm1
    have hG3 := hG.wt hV hP
    have ett : mv_a S181 t = mv_a σ t := hV.2.1 t (by rcases ht2 with rfl | rfl <;> decide)
    clear eS181
    refine mv_aload_n (pc := 181) B d_Weaver_op_181 rfl 5 rfl ?_
    refine mv_getR (pc := 182) (ci := 1) (C := R_Weaver) (T := F_Weaver) (N := 16) B 1 rfl rfl (by decide) i_Weaver (B.2.2.2.1 _ k_229) rfl (hR.1 _ 1 _ rfl) d_Weaver_op_182 ?_
    refine mv_aload_n (pc := 185) B d_Weaver_op_185 rfl 5 rfl ?_
    refine mv_getR (pc := 186) (ci := 1) (C := R_Weaver) (T := F_Weaver) (N := 16) B 0 rfl rfl (by decide) i_Weaver (B.2.2.2.1 _ k_228) rfl (hR.1 _ 0 _ rfl) d_Weaver_op_186 ?_
    refine mv_getR (pc := 189) (ci := 2) (C := R_Tokens) (T := F_Tokens) (N := 10) B 4 rfl rfl (by decide) i_Tokens (B.2.2.2.1 _ k_99) rfl hG3.2.1.2.1 d_Weaver_op_189 ?_
    refine mv_iload (pc := 192) B d_Weaver_op_192 1 rfl ?_
    refine mv_iload (pc := 194) B d_Weaver_op_194 0 rfl ?_
    refine mv_aload_n (pc := 196) B d_Weaver_op_196 rfl 5 rfl ?_
    refine mv_getR (pc := 197) (ci := 1) (C := R_Weaver) (T := F_Weaver) (N := 16) B 5 rfl rfl (by decide) i_Weaver (B.2.2.2.1 _ k_235) rfl hR.2.2.1 d_Weaver_op_197 ?_
    refine mv_getI (pc := 200) (ci := 7) (C := R_Program) (T := F_Program) (N := 19) B 0 rfl rfl (by decide) i_Program (B.2.2.2.1 _ k_313) rfl d_Weaver_op_200 ?_
    refine mv_callVv (pc := 203) (n := 4) (ci := 4) (C := R_Names) B (mK_ok sk sv) hNs rfl rfl (c_Names_enterOpF l hi _ t tn _ _ _ hR.1 hG3.2.1.2.2.1 ht2 hG3.2.1.2.2.2.2.2.1 hcd.1 (by have := hG3.2.1.2.2.2.2.1; omega) (fun i q1 q2 => by rw [ett]; exact hcd.2.2.2 i q1 q2)) rfl (ma_goodc kc_Names_enterOp) (B.2.2.2.1 _ k_1358) (B.2.2.2.1 _ k_1359) (B.2.2.2.1 _ k_1360) (B.2.2.2.1 _ k_5) ⟨by decide +kernel, by decide +kernel, by decide +kernel⟩ rfl d_Weaver_op_203 rfl (Nat.le_of_ble_eq_true rfl) ⟨by decide, by decide⟩ ⟨by decide, by decide⟩ ⟨by decide, by decide⟩ (mv_noH hno _) (fun σ203 h203 => ?_)
    exact mv_vret (pc := 206) B hr d_Weaver_op_206 (Nat.le_refl _) (Nat.le_refl _) ⟨rfl, hV.tr (h203.up (fun _ _ q => q.elim) (fun o q => Or.inl ⟨by omega, by omega⟩) (fun o q => Or.inl q)), by rw [h203.2.1 24 (by decide)]; exact hMt, th, sl, no2, hW3.of hP (OF.en (P := 145) Fr.rf h203), Or.inr ⟨a + 4, by omega, Or.inr (Or.inl ⟨(h203.1 2 6 (fun q => q)).trans hm1, s0, ns, _, List.cons_ne_nil _ _, hS3.fr hP (funext fun k => h203.1 3 k (fun q => q)) (h203.1 _ _ (fun q => q)) (h203.1 _ _ (fun q => q)) (h203.1 _ _ (fun q => q)) (h203.2.1 _ (by decide)) (h203.2.1 _ (by decide)) (h203.2.1 _ (by decide)) (h203.2.1 _ (by decide)) (h203.2.1 _ (by decide)) (h203.2.1 _ (by decide)) (h203.2.2.1 _ (by decide)) (h203.2.1 _ (by decide)) (fun q => by rw [h203.1 21 0 (fun q => q)] at q; exact q)⟩)⟩⟩
  have j153 : ∀ (υ : mv_H) (no2 : Nat) (sg : Int32) (fr : Int32) (sy : Int32) (tk1 : Int32) (tk2 : Int32) (hR : Rw 145 (mv_r υ)) (hV : WT 145 σ υ) (hMt : Mt (mv_a υ 24)) (hW3 : WN 145 48 υ n th sl no2) (hS3 : WS 145 υ sz th s0 (a + 4) ns no2 [((-1 : Int32), [])]) (hm1 : mv_i υ 2 6 = 1) (b1 : 0 ≤ tk1.toInt ∧ tk1.toInt < sz) (b2 : 0 ≤ tk2.toInt ∧ tk2.toInt < sz) (hsy : 0 ≤ sy.toInt ∧ sy.toInt < 16448) (hcd : 0 ≤ fr.toInt ∧ 0 ≤ sg.toInt ∧ fr.toInt + sg.toInt ≤ len ∧ ∀ i : Nat, fr.toInt ≤ i → i < fr.toInt + sg.toInt → 46 ≤ (mv_a σ t i).toInt ∧ (mv_a σ t i).toInt ≤ 122), mv_V p l e ({ frames := 4, cells := 0, slots := 0, locals := 86 }) s m ([.ref (al 2)] : List Value).toArray below meth c (mg dA D al me) 6 0 0 (mv_Q (mg dA D al me) below s 0 0 (mv_Rv (fun σ1 => TP 145 48 σ σ1 n sz a))) υ 153 [(5, .int sg), (4, .int fr), (3, .int sy), (2, .int tk2), (1, .int tk1), (0, .ref (al 2))] [] := by
    intro υ no2 sg fr sy tk1 tk2 hR hV hMt hW3 hS3 hm1 b1 b2 hsy hcd
    refine mv_iload (pc := 153) B d_Weaver_op_153 0 rfl ?_
    refine mv_aload_n (pc := 155) B d_Weaver_op_155 rfl 5 rfl ?_
    refine mv_getR (pc := 156) (ci := 1) (C := R_Weaver) (T := F_Weaver) (N := 16) B 5 rfl rfl (by decide) i_Weaver (B.2.2.2.1 _ k_235) rfl hR.2.2.1 d_Weaver_op_156 ?_
    refine mv_getI (pc := 159) (ci := 7) (C := R_Program) (T := F_Program) (N := 19) B 0 rfl rfl (by decide) i_Program (B.2.2.2.1 _ k_313) rfl d_Weaver_op_159 ?_
    refine mv_icmp_eq (pc := 162) (tgt := 171) B d_Weaver_op_162 rfl (fun h162 => ?_) (fun h162 => ?_)
    · skip
      refine mv_lpick [0, 1, 2, 3, 4, 5] rfl ?_
      exact j171 _ _ _ _ _ _ _ hR hV hMt hW3 hS3 hm1 b1 b2 hsy hcd
    · skip
      refine mv_aload_n (pc := 165) B d_Weaver_op_165 rfl 5 rfl ?_
      refine mv_iload_n (pc := 166) B d_Weaver_op_166 rfl 3 rfl ?_
      refine mv_iconst (pc := 167) (v := 5) B d_Weaver_op_167 (by decide) ?_
      refine mv_callVv (pc := 168) (n := 2) (ci := 1) (C := R_Weaver) B (mK_ok sk sv) hNs rfl rfl (c_Weaver_tell l hi _ _ _ hR.1 b2.1 (by omega) (by decide)) rfl (ma_goodc kc_Weaver_tell) (B.2.2.2.1 _ k_1282) (B.2.2.2.1 _ k_1284) (B.2.2.2.1 _ ks_32) (B.2.2.2.1 _ k_2) ⟨by decide +kernel, by decide +kernel, by decide +kernel⟩ rfl d_Weaver_op_168 rfl (Nat.le_of_ble_eq_true rfl) ⟨by decide, by decide⟩ ⟨by decide, by decide⟩ ⟨by decide, by decide⟩ (mv_noH hno _) (fun σ168 h168 => ?_)
      obtain ⟨x9, y9, q1, q2⟩ := h168
      subst q1
      refine mv_gen (fun S171 eS171 => ?_)
      have hR : Rw 145 (mv_r S171) := by rw [eS171]; exact hR
      have hV : WT 145 σ S171 := by rw [eS171]; exact hV.tell _ _
      have hMt : Mt (mv_a S171 24) := by rw [eS171]; exact hMt
      have hW3 : WN 145 48 S171 n th sl no2 := by rw [eS171]; exact hW3.tell hP _ _
      have hS3 : WS 145 S171 sz th s0 (a + 4) ns no2 [((-1 : Int32), [])] := by rw [eS171]; exact hS3.fr hP rfl rfl rfl rfl rfl rfl rfl rfl rfl rfl rfl rfl (fun q => absurd q q2)
      have hm1 : mv_i S171 2 6 = 1 := by rw [eS171]; exact hm1
      clear eS171
      refine mv_lpick [0, 1, 2, 3, 4, 5] rfl ?_
      exact j171 _ _ _ _ _ _ _ hR hV hMt hW3 hS3 hm1 b1 b2 hsy hcd
  have j80 : ∀ (υ : mv_H) (no2 : Nat) (sg : Int32) (fr : Int32) (sy : Int32) (tk1 : Int32) (tk2 : Int32) (hR : Rw 145 (mv_r υ)) (hV : WT 145 σ υ) (hMt : Mt (mv_a υ 24)) (hW3 : WN 145 48 υ n th sl no2) (hS3 : WS 145 υ sz th s0 (a + 4) ns no2 [((-1 : Int32), [])]) (hm1 : mv_i υ 2 6 = 1) (b1 : 0 ≤ tk1.toInt ∧ tk1.toInt < sz) (b2 : 0 ≤ tk2.toInt ∧ tk2.toInt < sz) (hsy : 0 ≤ sy.toInt ∧ sy.toInt < 16448) (hcd : 0 ≤ fr.toInt ∧ 0 ≤ sg.toInt ∧ fr.toInt + sg.toInt ≤ len ∧ ∀ i : Nat, fr.toInt ≤ i → i < fr.toInt + sg.toInt → 46 ≤ (mv_a σ t i).toInt ∧ (mv_a σ t i).toInt ≤ 122) (hnc : no2 + 1 ≤ nCd (mv_a υ 4) (a + 4)), mv_V p l e ({ frames := 4, cells := 0, slots := 0, locals := 86 }) s m ([.ref (al 2)] : List Value).toArray below meth c (mg dA D al me) 6 0 0 (mv_Q (mg dA D al me) below s 0 0 (mv_Rv (fun σ1 => TP 145 48 σ σ1 n sz a))) υ 80 [(5, .int sg), (4, .int fr), (3, .int sy), (2, .int tk2), (1, .int tk1), (0, .ref (al 2))] [] := by
    intro υ no2 sg fr sy tk1 tk2 hR hV hMt hW3 hS3 hm1 b1 b2 hsy hcd hnc
    have ha4 := hS3.1.2.2.2.2.1
    have hG3 := hG.wt hV hP
    have hops := hW3.2.2.2.2.2.1
    have hno9 := hW3.2.2.2.2.2.2
    have k4 : mv_a υ 4 = mv_a σ 4 := hV.2.1 4 (by decide)
    rw [k4] at hnc
    have hnc2 := hnc
    rw [← k4] at hnc
    refine mv_aload_n (pc := 80) B d_Weaver_op_80 rfl 5 rfl ?_
    refine mv_getR (pc := 81) (ci := 1) (C := R_Weaver) (T := F_Weaver) (N := 16) B 1 rfl rfl (by decide) i_Weaver (B.2.2.2.1 _ k_229) rfl (hR.1 _ 1 _ rfl) d_Weaver_op_81 ?_
    refine mv_getR (pc := 84) (ci := 4) (C := R_Names) (T := F_Names) (N := 10) B 3 rfl rfl (by decide) i_Names (B.2.2.2.1 _ k_140) rfl (hR.1 _ 3 _ rfl) d_Weaver_op_84 ?_
    refine mv_iload_n (pc := 87) B d_Weaver_op_87 rfl 2 rfl ?_
    refine mv_bald (pc := 88) B rfl (i32_in hsy.1 hsy.2) d_Weaver_op_88 ?_
    refine mv_iconst (pc := 89) (v := 1) B d_Weaver_op_89 (by decide) ?_
    refine mv_icmp_ne (pc := 90) (tgt := 102) B d_Weaver_op_90 rfl (fun h90 => ?_) (fun h90 => ?_)
    · skip
      refine mv_aload_n (pc := 102) B d_Weaver_op_102 rfl 5 rfl ?_
      refine mv_getR (pc := 103) (ci := 1) (C := R_Weaver) (T := F_Weaver) (N := 16) B 5 rfl rfl (by decide) i_Weaver (B.2.2.2.1 _ k_235) rfl hR.2.2.1 d_Weaver_op_103 ?_
      refine mv_getI (pc := 106) (ci := 7) (C := R_Program) (T := F_Program) (N := 19) B 10 rfl rfl (by decide) i_Program (B.2.2.2.1 _ k_347) rfl d_Weaver_op_106 ?_
      refine mv_sipush (pc := 109) (v := 512) B d_Weaver_op_109 (by decide) ?_
      refine mv_icmp_ne (pc := 112) (tgt := 125) B d_Weaver_op_112 rfl (fun h112 => ?_) (fun h112 => ?_)
      · skip
        have hn512 : ¬ (mv_i υ 145 10).toInt = 512 := fun q => h112 (Int32.toInt_inj.mp q)
        refine mv_iload (pc := 125) B d_Weaver_op_125 0 rfl ?_
        refine mv_aload_n (pc := 127) B d_Weaver_op_127 rfl 5 rfl ?_
        refine mv_getR (pc := 128) (ci := 1) (C := R_Weaver) (T := F_Weaver) (N := 16) B 5 rfl rfl (by decide) i_Weaver (B.2.2.2.1 _ k_235) rfl hR.2.2.1 d_Weaver_op_128 ?_
        refine mv_getI (pc := 131) (ci := 7) (C := R_Program) (T := F_Program) (N := 19) B 0 rfl rfl (by decide) i_Program (B.2.2.2.1 _ k_313) rfl d_Weaver_op_131 ?_
        refine mv_icmp_ne (pc := 134) (tgt := 153) B d_Weaver_op_134 rfl (fun h134 => ?_) (fun h134 => ?_)
        · skip
          refine mv_lpick [0, 1, 2, 3, 4, 5] rfl ?_
          exact j153 _ _ _ _ _ _ _ hR hV hMt hW3 hS3 hm1 b1 b2 hsy hcd
        · skip
          have hlt : no2 < 48 := by
            rcases hG.2.2.2.1 with q | q
            · exact absurd q (by decide)
            · have : nCd (mv_a σ 4) (a + 4) ≤ nCd (mv_a σ 4) sz := nCd_mono _ (by omega)
              omega
          refine mv_aload_n (pc := 137) B d_Weaver_op_137 rfl 5 rfl ?_
          refine mv_getR (pc := 138) (ci := 1) (C := R_Weaver) (T := F_Weaver) (N := 16) B 5 rfl rfl (by decide) i_Weaver (B.2.2.2.1 _ k_235) rfl hR.2.2.1 d_Weaver_op_138 ?_
          refine mv_aload_n (pc := 141) B d_Weaver_op_141 rfl 5 rfl ?_
          refine mv_getR (pc := 142) (ci := 1) (C := R_Weaver) (T := F_Weaver) (N := 16) B 0 rfl rfl (by decide) i_Weaver (B.2.2.2.1 _ k_228) rfl (hR.1 _ 0 _ rfl) d_Weaver_op_142 ?_
          refine mv_getR (pc := 145) (ci := 2) (C := R_Tokens) (T := F_Tokens) (N := 10) B 4 rfl rfl (by decide) i_Tokens (B.2.2.2.1 _ k_99) rfl hG3.2.1.2.1 d_Weaver_op_145 ?_
          refine mv_iload (pc := 148) B d_Weaver_op_148 1 rfl ?_
          refine mv_callVv (pc := 150) (n := 2) (ci := 7) (C := R_Program) B (mK_ok sk sv) hNs rfl rfl (c_Program_addOp_c l hi _ t tn _ hR.2.1 hG3.2.1.2.2.1 hG3.2.1.2.2.2.2.2.1 hcd.1 hW3.2.1.2.2.2.2.1 hW3.2.1.2.2.2.2.2.1 (by have := hG3.2.1.2.2.2.2.1; have e : sg.toInt = (mv_i υ 145 0).toInt := by { rw [h134] }; omega) (by omega) (by omega)) rfl (ma_goodc kc_Program_addOp) (B.2.2.2.1 _ k_1354) (B.2.2.2.1 _ k_1355) (B.2.2.2.1 _ k_1356) (B.2.2.2.1 _ k_8) ⟨by decide +kernel, by decide +kernel, by decide +kernel⟩ rfl d_Weaver_op_150 rfl (Nat.le_of_ble_eq_true rfl) ⟨by decide, by decide⟩ ⟨by decide, by decide⟩ ⟨by decide, by decide⟩ (mv_noH hno _) (fun σ150 h150 => ?_)
          have hR : Rw 145 (mv_r σ150) := by rw [h150.1.2.2.2.2]; exact hR
          have hV : WT 145 σ σ150 := hV.tr (h150.1.up (fun o k q => by omega) (fun o q => by omega) (fun o q => by omega))
          have hMt : Mt (mv_a σ150 24) := by rw [h150.1.2.1 24 (by decide)]; exact hMt
          have hS3 := hS3.addOp hP h150 hops hnc
          have hW3 := hW3.addOp hP h150 (by omega) (by omega)
          have hm1 : mv_i σ150 2 6 = 1 := (h150.1.1 2 6 (by decide)).trans hm1
          refine mv_lpick [0, 1, 2, 3, 4, 5] rfl ?_
          exact j153 _ _ _ _ _ _ _ hR hV hMt hW3 hS3 hm1 b1 b2 hsy hcd
      · skip
        refine mv_aload_n (pc := 115) B d_Weaver_op_115 rfl 5 rfl ?_
        refine mv_iload_n (pc := 116) B d_Weaver_op_116 rfl 4 rfl ?_
        refine mv_bipush (pc := 117) (v := 6) B d_Weaver_op_117 (by decide) ?_
        refine mv_callVv (pc := 119) (n := 2) (ci := 1) (C := R_Weaver) B (mK_ok sk sv) hNs rfl rfl (c_Weaver_tell l hi _ _ _ hR.1 b1.1 (by omega) (by decide)) rfl (ma_goodc kc_Weaver_tell) (B.2.2.2.1 _ k_1282) (B.2.2.2.1 _ k_1284) (B.2.2.2.1 _ ks_32) (B.2.2.2.1 _ k_2) ⟨by decide +kernel, by decide +kernel, by decide +kernel⟩ rfl d_Weaver_op_119 rfl (Nat.le_of_ble_eq_true rfl) ⟨by decide, by decide⟩ ⟨by decide, by decide⟩ ⟨by decide, by decide⟩ (mv_noH hno _) (fun σ119 h119 => ?_)
        obtain ⟨x9, y9, q1, q2⟩ := h119
        subst q1
        refine mv_gen (fun S154 eS154 => ?_)
        have hR : Rw 145 (mv_r S154) := by rw [eS154]; exact hR
        have hV : WT 145 σ S154 := by rw [eS154]; exact hV.tell _ _
        have hMt : Mt (mv_a S154 24) := by rw [eS154]; exact hMt
        have hW3 : WN 145 48 S154 n th sl no2 := by rw [eS154]; exact hW3.tell hP _ _
        have hS3 : WS 145 S154 sz th s0 (a + 4) ns no2 [((-1 : Int32), [])] := by rw [eS154]; exact hS3.fr hP rfl rfl rfl rfl rfl rfl rfl rfl rfl rfl rfl rfl (fun q => absurd q q2)
        have hm1 : mv_i S154 2 6 = 1 := by rw [eS154]; exact hm1
        clear eS154
        refine mv_goto (pc := 122) (tgt := 153) B d_Weaver_op_122 rfl ?_
        refine mv_lpick [0, 1, 2, 3, 4, 5] rfl ?_
        exact j153 _ _ _ _ _ _ _ hR hV hMt hW3 hS3 hm1 b1 b2 hsy hcd
    · skip
      refine mv_aload_n (pc := 93) B d_Weaver_op_93 rfl 5 rfl ?_
      refine mv_iload_n (pc := 94) B d_Weaver_op_94 rfl 4 rfl ?_
      refine mv_iconst (pc := 95) (v := 2) B d_Weaver_op_95 (by decide) ?_
      refine mv_callVv (pc := 96) (n := 2) (ci := 1) (C := R_Weaver) B (mK_ok sk sv) hNs rfl rfl (c_Weaver_tell l hi _ _ _ hR.1 b1.1 (by omega) (by decide)) rfl (ma_goodc kc_Weaver_tell) (B.2.2.2.1 _ k_1282) (B.2.2.2.1 _ k_1284) (B.2.2.2.1 _ ks_32) (B.2.2.2.1 _ k_2) ⟨by decide +kernel, by decide +kernel, by decide +kernel⟩ rfl d_Weaver_op_96 rfl (Nat.le_of_ble_eq_true rfl) ⟨by decide, by decide⟩ ⟨by decide, by decide⟩ ⟨by decide, by decide⟩ (mv_noH hno _) (fun σ96 h96 => ?_)
      obtain ⟨x9, y9, q1, q2⟩ := h96
      subst q1
      refine mv_gen (fun S153 eS153 => ?_)
      have hR : Rw 145 (mv_r S153) := by rw [eS153]; exact hR
      have hV : WT 145 σ S153 := by rw [eS153]; exact hV.tell _ _
      have hMt : Mt (mv_a S153 24) := by rw [eS153]; exact hMt
      have hW3 : WN 145 48 S153 n th sl no2 := by rw [eS153]; exact hW3.tell hP _ _
      have hS3 : WS 145 S153 sz th s0 (a + 4) ns no2 [((-1 : Int32), [])] := by rw [eS153]; exact hS3.fr hP rfl rfl rfl rfl rfl rfl rfl rfl rfl rfl rfl rfl (fun q => absurd q q2)
      have hm1 : mv_i S153 2 6 = 1 := by rw [eS153]; exact hm1
      clear eS153
      refine mv_goto (pc := 99) (tgt := 153) B d_Weaver_op_99 rfl ?_
      refine mv_lpick [0, 1, 2, 3, 4, 5] rfl ?_
      exact j153 _ _ _ _ _ _ _ hR hV hMt hW3 hS3 hm1 b1 b2 hsy hcd
  refine mv_aload_n (pc := 0) B d_Weaver_op_0 rfl 0 rfl ?_
  refine mv_getR (pc := 1) (ci := 1) (C := R_Weaver) (T := F_Weaver) (N := 16) B 0 rfl rfl (by decide) i_Weaver (B.2.2.2.1 _ k_228) rfl (hR.1 _ 0 _ rfl) d_Weaver_op_1 ?_
  refine mv_sipush (pc := 4) (v := 206) B d_Weaver_op_4 (by decide) ?_
  refine mv_callVi (pc := 7) (n := 1) (ci := 2) (C := R_Tokens) B (mK_ok sk sv) hNs rfl rfl (c_Tokens_takeN l hi _ _ hR.1 (hG.2.2.1.wt hF.wt hP ht2) (by omega) (by omega) (by decide)) rfl (ma_goodc kc_Tokens_take) (B.2.2.2.1 _ k_1266) (B.2.2.2.1 _ k_1267) (B.2.2.2.1 _ k_1268) (B.2.2.2.1 _ k_3) ⟨by decide +kernel, by decide +kernel, by decide +kernel⟩ rfl d_Weaver_op_7 rfl (Nat.le_of_ble_eq_true rfl) ⟨by decide, by decide⟩ ⟨by decide, by decide⟩ ⟨by decide, by decide⟩ (mv_noH hno _) (fun v7 σ7 h7 => ?_)
  obtain ⟨a7, w7, e7, r7⟩ := h7
  have q7 := r7.1
  have z7 := fun q => (r7.2.1 q).1
  have y7 := And.intro r7.2.2.2.1 r7.2.2.2.2.1
  subst e7
  have hw7 := r7.2.2.1 hw9 hk3 trivial
  refine mv_gen (fun S10 eS10 => ?_)
  have hR : Rw 145 (mv_r S10) := by rw [eS10]; exact hR
  have hF : IF 145 σ S10 := by rw [eS10]; exact hF.tk3 _ _ _
  have hN : mv_i S10 21 0 = 0 → mv_i σ 21 0 = 0 := by rw [eS10]; exact hN
  have t7 : (mv_i S10 3 7).toInt = a7.toInt := by rw [eS10]; rfl
  have t8 : (mv_i S10 3 8).toInt = (mv_i σ 3 8).toInt := by rw [eS10]; first | exact t8 | exact (sub_one (by omega)).trans (by omega) | exact (i32_inc (by omega)).trans (by omega)
  have t9 : (mv_i S10 3 9).toInt = w7.toInt := by rw [eS10]; rfl
  have kp := Eq.trans (show mv_a S10 4 = mv_a _ 4 by rw [eS10]; rfl) kp
  have k6 := Eq.trans (show mv_b S10 6 = mv_b _ 6 by rw [eS10]; rfl) k6
  have hW2 := hW
  have hW2 : WN 145 48 S10 n th sl no := by rw [eS10]; exact hW2.tk3 hP _ _ _
  clear eS10
  refine mv_pop (pc := 10) B d_Weaver_op_10 rfl ?_
  refine mv_aload_n (pc := 11) B d_Weaver_op_11 rfl 0 rfl ?_
  refine mv_getR (pc := 12) (ci := 1) (C := R_Weaver) (T := F_Weaver) (N := 16) B 0 rfl rfl (by decide) i_Weaver (B.2.2.2.1 _ k_228) rfl (hR.1 _ 0 _ rfl) d_Weaver_op_12 ?_
  refine mv_iconst (pc := 15) (v := 3) B d_Weaver_op_15 (by decide) ?_
  refine mv_callVi (pc := 16) (n := 1) (ci := 2) (C := R_Tokens) B (mK_ok sk sv) hNs rfl rfl (c_Tokens_takeN l hi _ _ hR.1 (hG.2.2.1.wt hF.wt hP ht2) (by omega) (by omega) (by decide)) rfl (ma_goodc kc_Tokens_take) (B.2.2.2.1 _ k_1266) (B.2.2.2.1 _ k_1267) (B.2.2.2.1 _ k_1268) (B.2.2.2.1 _ k_3) ⟨by decide +kernel, by decide +kernel, by decide +kernel⟩ rfl d_Weaver_op_16 rfl (Nat.le_of_ble_eq_true rfl) ⟨by decide, by decide⟩ ⟨by decide, by decide⟩ ⟨by decide, by decide⟩ (mv_noH hno _) (fun v16 σ16 h16 => ?_)
  have kz := k6
  obtain ⟨a16, w16, e16, r16⟩ := h16
  have q16 := r16.1
  have z16 := fun q => (r16.2.1 q).1
  have y16 := And.intro r16.2.2.2.1 r16.2.2.2.2.1
  subst e16
  have sy16 := TkR.sym (hG.2.2.1.wt hF.wt hP ht2) r16
  refine mv_gen (fun S19 eS19 => ?_)
  have hR : Rw 145 (mv_r S19) := by rw [eS19]; exact hR
  have hF : IF 145 σ S19 := by rw [eS19]; exact hF.tk3 _ _ _
  have hN : mv_i S19 21 0 = 0 → mv_i σ 21 0 = 0 := by rw [eS19]; exact hN
  have t7 : (mv_i S19 3 7).toInt = a16.toInt := by rw [eS19]; rfl
  have t8 : (mv_i S19 3 8).toInt = (mv_i σ 3 8).toInt := by rw [eS19]; first | exact t8 | exact (sub_one (by omega)).trans (by omega) | exact (i32_inc (by omega)).trans (by omega)
  have t9 : (mv_i S19 3 9).toInt = w16.toInt := by rw [eS19]; rfl
  have kp := Eq.trans (show mv_a S19 4 = mv_a _ 4 by rw [eS19]; rfl) kp
  have k6 := Eq.trans (show mv_b S19 6 = mv_b _ 6 by rw [eS19]; rfl) k6
  have hW2 : WN 145 48 S19 n th sl no := by rw [eS19]; exact hW2.tk3 hP _ _ _
  have sy16 : 0 ≤ (mv_b σ 6 v16.toNatClampNeg).toInt ∧ (mv_b σ 6 v16.toNatClampNeg).toInt < n := by rw [← kz]; exact sy16
  have kp19 := kp
  have t7b := t7
  clear eS19
  refine mv_istore_n (pc := 19) B d_Weaver_op_19 rfl (by decide) rfl ?_
  refine mv_aload_n (pc := 20) B d_Weaver_op_20 rfl 1 rfl ?_
  refine mv_getR (pc := 21) (ci := 1) (C := R_Weaver) (T := F_Weaver) (N := 16) B 0 rfl rfl (by decide) i_Weaver (B.2.2.2.1 _ k_228) rfl (hR.1 _ 0 _ rfl) d_Weaver_op_21 ?_
  refine mv_iconst (pc := 24) (v := 5) B d_Weaver_op_24 (by decide) ?_
  refine mv_callVi (pc := 25) (n := 1) (ci := 2) (C := R_Tokens) B (mK_ok sk sv) hNs rfl rfl (c_Tokens_takeN l hi _ _ hR.1 (hG.2.2.1.wt hF.wt hP ht2) (by omega) (by omega) (by decide)) rfl (ma_goodc kc_Tokens_take) (B.2.2.2.1 _ k_1266) (B.2.2.2.1 _ k_1267) (B.2.2.2.1 _ k_1268) (B.2.2.2.1 _ k_3) ⟨by decide +kernel, by decide +kernel, by decide +kernel⟩ rfl d_Weaver_op_25 rfl (Nat.le_of_ble_eq_true rfl) ⟨by decide, by decide⟩ ⟨by decide, by decide⟩ ⟨by decide, by decide⟩ (mv_noH hno _) (fun v25 σ25 h25 => ?_)
  obtain ⟨a25, w25, e25, r25⟩ := h25
  have q25 := r25.1
  have z25 := fun q => (r25.2.1 q).1
  have y25 := And.intro r25.2.2.2.1 r25.2.2.2.2.1
  subst e25
  refine mv_gen (fun S28 eS28 => ?_)
  have hR : Rw 145 (mv_r S28) := by rw [eS28]; exact hR
  have hF : IF 145 σ S28 := by rw [eS28]; exact hF.tk3 _ _ _
  have hN : mv_i S28 21 0 = 0 → mv_i σ 21 0 = 0 := by rw [eS28]; exact hN
  have t7 : (mv_i S28 3 7).toInt = a25.toInt := by rw [eS28]; rfl
  have t8 : (mv_i S28 3 8).toInt = (mv_i σ 3 8).toInt := by rw [eS28]; first | exact t8 | exact (sub_one (by omega)).trans (by omega) | exact (i32_inc (by omega)).trans (by omega)
  have t9 : (mv_i S28 3 9).toInt = w25.toInt := by rw [eS28]; rfl
  have kp := Eq.trans (show mv_a S28 4 = mv_a _ 4 by rw [eS28]; rfl) kp
  have k6 := Eq.trans (show mv_b S28 6 = mv_b _ 6 by rw [eS28]; rfl) k6
  have hW2 : WN 145 48 S28 n th sl no := by rw [eS28]; exact hW2.tk3 hP _ _ _
  have hb15 : (mv_i S28 2 15).toInt = 0 := by rw [hF.1 2 15 (by decide)]; exact hS.2.1.1
  clear eS28
  refine mv_istore_n (pc := 28) B d_Weaver_op_28 rfl (by decide) rfl ?_
  refine mv_aload_n (pc := 29) B d_Weaver_op_29 rfl 2 rfl ?_
  refine mv_sipush (pc := 30) (v := 206) B d_Weaver_op_30 (by decide) ?_
  refine mv_iconst (pc := 33) (v := -1) B d_Weaver_op_33 (by decide) ?_
  refine mv_iconst (pc := 34) (v := -1) B d_Weaver_op_34 (by decide) ?_
  refine mv_callVv (pc := 35) (n := 3) (ci := 1) (C := R_Weaver) B (mK_ok sk sv) hNs rfl rfl (c_Weaver_openBlock l hi _ _ _ _ hR.1 (hG.2.2.1.wt hF.wt hP ht2) (by omega) (by omega) (by omega) (by omega)) rfl (ma_goodc kc_Weaver_openBlock) (B.2.2.2.1 _ k_1345) (B.2.2.2.1 _ k_1347) (B.2.2.2.1 _ ks_41) (B.2.2.2.1 _ k_2) ⟨by decide +kernel, by decide +kernel, by decide +kernel⟩ rfl d_Weaver_op_35 rfl (Nat.le_of_ble_eq_true rfl) ⟨by decide, by decide⟩ ⟨by decide, by decide⟩ ⟨by decide, by decide⟩ (mv_noH hno _) (fun σ35 h35 => ?_)
  obtain ⟨a6, w6, v6, r6, d6⟩ := h35
  have q6 := r6.1
  have z6 := fun q => (r6.2.1 q).1
  have hR : Rw 145 (mv_r σ35) := by rcases d6 with ⟨-, q⟩ | ⟨-, q⟩ <;> (rw [q]; exact hR)
  refine mv_aload_n (pc := 38) B d_Weaver_op_38 rfl 2 rfl ?_
  refine mv_getR (pc := 39) (ci := 1) (C := R_Weaver) (T := F_Weaver) (N := 16) B 0 rfl rfl (by decide) i_Weaver (B.2.2.2.1 _ k_228) rfl (hR.1 _ 0 _ rfl) d_Weaver_op_39 ?_
  refine mv_callVi (pc := 42) (n := 0) (ci := 2) (C := R_Tokens) B (mK_ok sk sv) hNs rfl rfl (c_Tokens_right l hi _) rfl (ma_goodc kc_Tokens_right) (B.2.2.2.1 _ k_1291) (B.2.2.2.1 _ k_1292) (B.2.2.2.1 _ k_1293) (B.2.2.2.1 _ k_3) ⟨by decide +kernel, by decide +kernel, by decide +kernel⟩ rfl d_Weaver_op_42 rfl (Nat.le_of_ble_eq_true rfl) ⟨by decide, by decide⟩ ⟨by decide, by decide⟩ ⟨by decide, by decide⟩ (mv_noH hno _) (fun v42 σ42 h42 => ?_)
  obtain ⟨e42, z42⟩ := h42
  have e42 := e42.symm
  subst e42
  refine mv_if_ne (pc := 45) (tgt := 49) B d_Weaver_op_45 rfl (fun h45 => ?_) (fun h45 => ?_)
  · skip
    have hw : (mv_i σ35 3 9).toInt < 0 := Decidable.byContradiction fun q => h45 (by rw [z42, if_neg (fun z => q (lt0.mp z))])
    have hd6 : w6.toInt < 0 ∧ σ35 = wb (tk3 S28 a6 (mv_i S28 3 8 + 1) w6) 206 (-1) (-1) := d6.resolve_left (fun q => by obtain ⟨q1, q2⟩ := q; subst q2; exact absurd hw (by show ¬ w6.toInt < 0; omega))
    obtain ⟨hw6, e35⟩ := hd6
    have rr6 := r6.2.1 hw6
    have rr25 := r25.2.1 (by omega)
    have hd60 : ¬ (mv_i S28 3 8).toInt = 60 := fun q => rr6.2.2.1 (Int32.toInt_inj.mp q)
    have hV : WT 145 σ σ35 := by rw [e35]; exact (hF.wt.tk3 _ _ _).wb _ _ _
    have hMt : Mt (mv_a σ35 24) := by rw [e35]; show Mt (mv_a S28 24); rw [hF.2.1 24 (by decide)]; exact hM
    have hW3 : WN 145 48 σ35 n th sl no := by rw [e35]; exact hW2.of hP ((OF.tk3 Fr.rf _ _ _).wb _ _ _)
    have hm1 : mv_i σ35 2 6 = 1 := by rw [e35]; rfl
    have kp25 : mv_a S19 4 = mv_a σ 4 := kp19
    have t719 := t7b
    have ec19 := i32_cl (x := mv_i S19 3 7) (by omega)
    have hk5 : mv_a σ 4 (a + 2) = 5 := by have := rr25.2.1; rw [kp25] at this; have e : (mv_i S19 3 7).toNatClampNeg = a + 2 := (by omega); rw [e] at this; exact this
    have hncd : no + 1 ≤ nCd (mv_a σ 4) (a + 4) := Nat.le_trans (Nat.le_trans (Nat.add_le_add_right (Nat.le_trans hS.1.2.2.2.2.2.2.2 (nCd_mono _ (show a ≤ a + 2 by omega))) 1) (nCd_at hk5 (show a + 2 < a + 3 by omega))) (nCd_mono _ (by omega))
    have k4 : mv_a σ35 4 = mv_a σ 4 := by rw [e35]; exact kp
    have hnc : no + 1 ≤ nCd (mv_a σ35 4) (a + 4) := by rw [k4]; exact hncd
    have hcode := (hG.2.2.1.2.1.2.2.2.2 (a + 2) (by omega)).2.1 hk5
    have ev25 : v25.toNatClampNeg = a + 2 := by rw [rr25.2.2.2]; omega
    have hS3 : WS 145 σ35 sz th s0 (a + 4) ns no [((-1 : Int32), [])] := by
      rw [e35]
      have g := hF.tk3 a6 (mv_i S28 3 8 + 1) w6
      refine WS.block (d := ((mv_i S28 3 8).toInt + 1).toNat) hP (show a6.toInt = ((a + 4 : Nat) : Int) by omega) hw6 (show (mv_i S28 3 8 + 1).toInt = _ by rw [i32_inc (by omega)]; omega) (by show 0 + 1 ≤ _; omega) (by omega) (by omega) (by omega) (by omega) ?_ (show (mv_i S28 2 15).toInt = 0 from hb15) trivial ?_ ⟨⟨fun _ => rfl, fun _ => rfl⟩, fun _ => ⟨rfl, rfl⟩⟩ rfl (fun y hy => absurd hy List.not_mem_nil) ?_ ?_ ?_ ?_
      · rw [g.2.1 4 (by decide)]; omega
      · exact (hW2.2.2.1).1
      · exact fun b hb => by
          have e : b = ((-1 : Int32), []) := by simpa using hb
          subst e
          exact ⟨fun u hu => absurd (show (-1 : Int) = u from hu) (by omega), fun y hy => absurd hy List.not_mem_nil, by decide⟩
      · rw [g.1 145 17 (by decide)]; exact hS.2.2.1
      · rw [g.2.1 154 (by decide)]; exact hS.2.2.2.1
      · intro q
        obtain ⟨hg, k⟩ := hS.2.2.2.2 (hN q)
        refine ⟨hg, ?_⟩
        rw [g.2.1 154 (by decide), g.2.2.1 155 (fun q => q), g.2.1 152 (by decide)]
        exact ⟨k.1, k.2.1, fun x hx => (k.2.2.1 x hx).elim (fun z => Or.inl z.tail) Or.inr, k.2.2.2.1.cons ⟨fun u hu => absurd (show (-1 : Int) = u from hu) (by omega), fun y hy => absurd hy List.not_mem_nil⟩, k.2.2.2.2⟩
    refine mv_aload_n (pc := 49) B d_Weaver_op_49 rfl 2 rfl ?_
    refine mv_iload_n (pc := 50) B d_Weaver_op_50 rfl 1 rfl ?_
    refine mv_callVi (pc := 51) (n := 1) (ci := 1) (C := R_Weaver) B (mK_ok sk sv) hNs rfl rfl (c_Weaver_symbolOf l hi _ _ hR.1 y16.1 (by omega)) rfl (ma_goodc kc_Weaver_symbolOf) (B.2.2.2.1 _ k_1312) (B.2.2.2.1 _ k_1314) (B.2.2.2.1 _ ks_37) (B.2.2.2.1 _ k_2) ⟨by decide +kernel, by decide +kernel, by decide +kernel⟩ rfl d_Weaver_op_51 rfl (Nat.le_of_ble_eq_true rfl) ⟨by decide, by decide⟩ ⟨by decide, by decide⟩ ⟨by decide, by decide⟩ (mv_noH hno _) (fun v51 σ51 h51 => ?_)
    obtain ⟨e51, z51⟩ := h51
    have e51 := e51.symm
    subst e51
    have k6b : mv_b σ35 6 = mv_b σ 6 := by rw [e35]; exact k6
    have k5b : mv_a σ35 5 = mv_a σ 5 := by rw [e35]; show mv_a S28 5 = _; exact hF.2.1 5 (by decide)
    have hn16 := hG.2.2.1.1.2.1
    have hsy : 0 ≤ v51.toInt ∧ v51.toInt < 16448 := by rw [z51, k6b, l2i_nn sy16.1 (by omega)]; omega
    obtain ⟨pq, Qq, c1, c2, c3, c4⟩ := hcode
    have i63 : (mv_a σ35 5 v25.toNatClampNeg).toInt = pq := by rw [k5b, ev25]; exact c1
    have i76 : (mv_b σ35 6 v25.toNatClampNeg).toInt = Qq := by rw [k6b, ev25]; exact c2
    refine mv_istore_n (pc := 54) B d_Weaver_op_54 rfl (by decide) rfl ?_
    refine mv_aload_n (pc := 55) B d_Weaver_op_55 rfl 3 rfl ?_
    refine mv_getR (pc := 56) (ci := 1) (C := R_Weaver) (T := F_Weaver) (N := 16) B 0 rfl rfl (by decide) i_Weaver (B.2.2.2.1 _ k_228) rfl (hR.1 _ 0 _ rfl) d_Weaver_op_56 ?_
    refine mv_getR (pc := 59) (ci := 2) (C := R_Tokens) (T := F_Tokens) (N := 10) B 1 rfl rfl (by decide) i_Tokens (B.2.2.2.1 _ k_91) rfl (hR.1 _ 1 _ rfl) d_Weaver_op_59 ?_
    refine mv_iload_n (pc := 62) B d_Weaver_op_62 rfl 1 rfl ?_
    refine mv_iald (pc := 63) B rfl (i32_in y25.1 (by omega)) d_Weaver_op_63 ?_
    refine mv_iconst (pc := 64) (v := 1) B d_Weaver_op_64 (by decide) ?_
    refine mv_iadd (pc := 65) B d_Weaver_op_65 ?_
    refine mv_topi (fun y65 ey65 => ?_)
    have fy65 := i32_addE ey65 (by (try simp only [Int32.reduceToInt]); omega) (by (try simp only [Int32.reduceToInt]); omega)
    try simp only [Int32.reduceToInt] at fy65
    refine mv_istore (pc := 66) B d_Weaver_op_66 (by decide) rfl ?_
    refine mv_aload_n (pc := 68) B d_Weaver_op_68 rfl 4 rfl ?_
    refine mv_getR (pc := 69) (ci := 1) (C := R_Weaver) (T := F_Weaver) (N := 16) B 0 rfl rfl (by decide) i_Weaver (B.2.2.2.1 _ k_228) rfl (hR.1 _ 0 _ rfl) d_Weaver_op_69 ?_
    refine mv_getR (pc := 72) (ci := 2) (C := R_Tokens) (T := F_Tokens) (N := 10) B 2 rfl rfl (by decide) i_Tokens (B.2.2.2.1 _ k_94) rfl (hR.1 _ 2 _ rfl) d_Weaver_op_72 ?_
    refine mv_iload_n (pc := 75) B d_Weaver_op_75 rfl 2 rfl ?_
    refine mv_lald (pc := 76) B rfl (i32_in y25.1 (by omega)) d_Weaver_op_76 ?_
    refine mv_l2i (pc := 77) B d_Weaver_op_77 ?_
    have i77 := l2i_nn (x := mv_b σ35 6 v25.toNatClampNeg) (by omega) (by omega)
    have hcd : 0 ≤ y65.toInt ∧ 0 ≤ (mv_b σ35 6 v25.toNatClampNeg).toInt32.toInt ∧ y65.toInt + (mv_b σ35 6 v25.toNatClampNeg).toInt32.toInt ≤ len ∧ ∀ i : Nat, y65.toInt ≤ i → i < y65.toInt + (mv_b σ35 6 v25.toNatClampNeg).toInt32.toInt → 46 ≤ (mv_a σ t i).toInt ∧ (mv_a σ t i).toInt ≤ 122 := ⟨by omega, by omega, by omega, fun i q1 q2 => by have := c4 (i - (pq + 1)) (by omega); have e : pq + 1 + (i - (pq + 1)) = i := (by omega); rw [e] at this; exact this⟩
    refine mv_istore (pc := 78) B d_Weaver_op_78 (by decide) rfl ?_
    refine mv_lpick [0, 1, 2, 3, 4, 5] rfl ?_
    exact j80 _ _ _ _ _ _ _ hR hV hMt hW3 hS3 hm1 y16 y25 hsy hcd hnc
  · skip
    have hw : ¬ (mv_i σ35 3 9).toInt < 0 := fun q => by rw [if_pos (lt0.mpr q)] at z42; rw [z42] at h45; exact absurd h45 (by decide)
    have hend : TP 145 48 σ σ35 n sz a := by
      rcases d6 with ⟨q1, q2⟩ | ⟨q1, q2⟩
      · subst q2
        have hF := hF.tk3 a6 (mv_i S28 3 8 + 1) w6
        exact ⟨hF.wt, by rw [hF.2.1 24 (by decide)]; exact hM, th, sl, no, hW2.tk3 hP _ _ _, Or.inl q1⟩
      · subst q2
        exact absurd q1 hw
    exact mv_vret (pc := 48) B hr d_Weaver_op_48 (Nat.le_refl _) (Nat.le_refl _) ⟨rfl, hend⟩
