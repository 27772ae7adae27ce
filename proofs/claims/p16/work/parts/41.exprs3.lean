/-! Exprs: literal, name, call, operand, part -/
theorem Op1_lit {d : Int32} (h : d = 300 ∨ d = 301) (th : Nat) (w : Int64) (x : Nat) : Op1 th d w x (x + 1) := by
  rcases h with rfl | rfl
  · exact ⟨Nat.zero_le _, rfl, fun q => absurd q (by decide), fun q => absurd q (by decide), fun q => absurd q (by decide)⟩
  · exact ⟨Nat.zero_le _, rfl, fun q => absurd q (by decide), fun q => absurd q (by decide), fun q => absurd q (by decide)⟩
theorem Op1_let (th : Nat) {w : Int64} (hw : 0 ≤ w.toInt ∧ w.toInt < 64) (x : Nat) : Op1 th 302 w x (x + 1) := ⟨Nat.zero_le _, rfl, fun _ => hw, fun q => absurd q (by decide), fun q => absurd q (by decide)⟩
theorem Op1_reg (th : Nat) {w : Int64} (hw : 0 ≤ w.toInt ∧ w.toInt < 65600) (x : Nat) : Op1 th 303 w x (x + 1) := ⟨Nat.zero_le _, rfl, fun q => absurd q (by decide), fun _ => hw, fun q => absurd q (by decide)⟩
theorem Op1_one {d : Int32} (h : d = 308 ∨ d = 310) (th : Nat) (w : Int64) (x : Nat) : Op1 th d w (x + 1) (x + 1) := by
  rcases h with rfl | rfl
  · exact ⟨by show 1 ≤ x + 1; omega, rfl, fun q => absurd q (by decide), fun q => absurd q (by decide), fun q => absurd q (by decide)⟩
  · exact ⟨by show 1 ≤ x + 1; omega, rfl, fun q => absurd q (by decide), fun q => absurd q (by decide), fun q => absurd q (by decide)⟩
theorem TE.last {σ : mv_H} {t len n z sz a : Nat} (h : TE σ t len n z sz) (ha : a < sz) {k : Int32} (hk : mv_a σ 4 a = k) (h1 : ¬ k = 1) (h2 : ¬ k = 2) : a + 1 < sz := by
  have h3 := h.2.2.2.2.1
  by_cases e : a = sz - 1
  · rw [← e, hk] at h3
    rcases h3 with h3 | h3
    · exact absurd h3 h1
    · exact absurd h3 h2
  · have := h.2.2.1
    omega
def y_Exprs_literal : MethodName := ⟨"MachineLoom$Exprs", "literal", "()V"⟩
abbrev b_Exprs_literal : ByteArray := prog_3_method_9_code
theorem kc_Exprs_literal : Cond.code y_Exprs_literal b_Exprs_literal 7 (Option.none : Option Jvm.ClassFile.FieldType) ∈ ma := ma_of (tb_6 _ (List.mem_of_getElem? (i := 223) rfl)) rfl
theorem k_1424 : (Jvm.Cond.methodLink "MachineLoom$Exprs" (82 : Nat) ({ cls := "MachineLoom$Tokens", name := "take", desc := "(I)I" } : Jvm.MethodName)) ∈ ma := ma_of (tb_6 _ (List.mem_of_getElem? (i := 224) rfl)) rfl
theorem k_95 : (Jvm.Cond.fieldLink "MachineLoom$Exprs" (85 : Nat) "MachineLoom$Tokens" "numbers" "[J") ∈ ma := ma_of (tb_1 _ (List.mem_of_getElem? (i := 95) rfl)) rfl
theorem k_1426 : (Jvm.Cond.constantLong "MachineLoom$Exprs" (99 : Nat) (64 : Int64)) ∈ ma := ma_of (tb_6 _ (List.mem_of_getElem? (i := 226) rfl)) rfl
theorem k_1440 : (Jvm.Cond.constantLong "MachineLoom$Exprs" (111 : Nat) (-1 : Int64)) ∈ ma := ma_of (tb_7 _ (List.mem_of_getElem? (i := 0) rfl)) rfl
theorem d_Exprs_literal_0 : decode b_Exprs_literal 0 = .ok (.aload_n 0, 1) := by decide +kernel
theorem d_Exprs_literal_1 : decode b_Exprs_literal 1 = .ok (.getfield 27, 3) := by decide +kernel
theorem d_Exprs_literal_4 : decode b_Exprs_literal 4 = .ok (.iconst 4, 1) := by decide +kernel
theorem d_Exprs_literal_5 : decode b_Exprs_literal 5 = .ok (.invokevirtual 82, 3) := by decide +kernel
theorem d_Exprs_literal_8 : decode b_Exprs_literal 8 = .ok (.istore_n 1, 1) := by decide +kernel
theorem d_Exprs_literal_9 : decode b_Exprs_literal 9 = .ok (.aload_n 0, 1) := by decide +kernel
theorem d_Exprs_literal_10 : decode b_Exprs_literal 10 = .ok (.getfield 27, 3) := by decide +kernel
theorem d_Exprs_literal_13 : decode b_Exprs_literal 13 = .ok (.bipush 39, 2) := by decide +kernel
theorem d_Exprs_literal_15 : decode b_Exprs_literal 15 = .ok (.invokevirtual 82, 3) := by decide +kernel
theorem d_Exprs_literal_18 : decode b_Exprs_literal 18 = .ok (.pop, 1) := by decide +kernel
theorem d_Exprs_literal_19 : decode b_Exprs_literal 19 = .ok (.aload_n 0, 1) := by decide +kernel
theorem d_Exprs_literal_20 : decode b_Exprs_literal 20 = .ok (.getfield 27, 3) := by decide +kernel
theorem d_Exprs_literal_23 : decode b_Exprs_literal 23 = .ok (.iconst 4, 1) := by decide +kernel
theorem d_Exprs_literal_24 : decode b_Exprs_literal 24 = .ok (.invokevirtual 82, 3) := by decide +kernel
theorem d_Exprs_literal_27 : decode b_Exprs_literal 27 = .ok (.istore_n 2, 1) := by decide +kernel
theorem d_Exprs_literal_28 : decode b_Exprs_literal 28 = .ok (.aload_n 0, 1) := by decide +kernel
theorem d_Exprs_literal_29 : decode b_Exprs_literal 29 = .ok (.getfield 27, 3) := by decide +kernel
theorem d_Exprs_literal_32 : decode b_Exprs_literal 32 = .ok (.getfield 85, 3) := by decide +kernel
theorem d_Exprs_literal_35 : decode b_Exprs_literal 35 = .ok (.iload_n 1, 1) := by decide +kernel
theorem d_Exprs_literal_36 : decode b_Exprs_literal 36 = .ok (.laload, 1) := by decide +kernel
theorem d_Exprs_literal_37 : decode b_Exprs_literal 37 = .ok (.lstore_n 3, 1) := by decide +kernel
theorem d_Exprs_literal_38 : decode b_Exprs_literal 38 = .ok (.aload_n 0, 1) := by decide +kernel
theorem d_Exprs_literal_39 : decode b_Exprs_literal 39 = .ok (.getfield 27, 3) := by decide +kernel
theorem d_Exprs_literal_42 : decode b_Exprs_literal 42 = .ok (.getfield 85, 3) := by decide +kernel
theorem d_Exprs_literal_45 : decode b_Exprs_literal 45 = .ok (.iload_n 2, 1) := by decide +kernel
theorem d_Exprs_literal_46 : decode b_Exprs_literal 46 = .ok (.laload, 1) := by decide +kernel
theorem d_Exprs_literal_47 : decode b_Exprs_literal 47 = .ok (.lstore 5, 2) := by decide +kernel
theorem d_Exprs_literal_49 : decode b_Exprs_literal 49 = .ok (.aload_n 0, 1) := by decide +kernel
theorem d_Exprs_literal_50 : decode b_Exprs_literal 50 = .ok (.getfield 89, 3) := by decide +kernel
theorem d_Exprs_literal_53 : decode b_Exprs_literal 53 = .ok (.sipush 300, 3) := by decide +kernel
theorem d_Exprs_literal_56 : decode b_Exprs_literal 56 = .ok (.lload 5, 2) := by decide +kernel
theorem d_Exprs_literal_58 : decode b_Exprs_literal 58 = .ok (.invokevirtual 93, 3) := by decide +kernel
theorem d_Exprs_literal_61 : decode b_Exprs_literal 61 = .ok (.pop, 1) := by decide +kernel
theorem d_Exprs_literal_62 : decode b_Exprs_literal 62 = .ok (.lload_n 3, 1) := by decide +kernel
theorem d_Exprs_literal_63 : decode b_Exprs_literal 63 = .ok (.lconst 1, 1) := by decide +kernel
theorem d_Exprs_literal_64 : decode b_Exprs_literal 64 = .ok (.lcmp, 1) := by decide +kernel
theorem d_Exprs_literal_65 : decode b_Exprs_literal 65 = .ok (.ifCond .lt (11), 3) := by decide +kernel
theorem d_Exprs_literal_68 : decode b_Exprs_literal 68 = .ok (.lload_n 3, 1) := by decide +kernel
theorem d_Exprs_literal_69 : decode b_Exprs_literal 69 = .ok (.ldc2_w 99, 3) := by decide +kernel
theorem d_Exprs_literal_72 : decode b_Exprs_literal 72 = .ok (.lcmp, 1) := by decide +kernel
theorem d_Exprs_literal_73 : decode b_Exprs_literal 73 = .ok (.ifCond .le (17), 3) := by decide +kernel
theorem d_Exprs_literal_76 : decode b_Exprs_literal 76 = .ok (.aload_n 0, 1) := by decide +kernel
theorem d_Exprs_literal_77 : decode b_Exprs_literal 77 = .ok (.iload_n 1, 1) := by decide +kernel
theorem d_Exprs_literal_78 : decode b_Exprs_literal 78 = .ok (.iconst 3, 1) := by decide +kernel
theorem d_Exprs_literal_79 : decode b_Exprs_literal 79 = .ok (.invokevirtual 101, 3) := by decide +kernel
theorem d_Exprs_literal_82 : decode b_Exprs_literal 82 = .ok (.aload_n 0, 1) := by decide +kernel
theorem d_Exprs_literal_83 : decode b_Exprs_literal 83 = .ok (.iconst 0, 1) := by decide +kernel
theorem d_Exprs_literal_84 : decode b_Exprs_literal 84 = .ok (.invokevirtual 102, 3) := by decide +kernel
theorem d_Exprs_literal_87 : decode b_Exprs_literal 87 = .ok (.goto (40), 3) := by decide +kernel
theorem d_Exprs_literal_90 : decode b_Exprs_literal 90 = .ok (.lload 5, 2) := by decide +kernel
theorem d_Exprs_literal_92 : decode b_Exprs_literal 92 = .ok (.lload_n 3, 1) := by decide +kernel
theorem d_Exprs_literal_93 : decode b_Exprs_literal 93 = .ok (.l2i, 1) := by decide +kernel
theorem d_Exprs_literal_94 : decode b_Exprs_literal 94 = .ok (.invokestatic 105, 3) := by decide +kernel
theorem d_Exprs_literal_97 : decode b_Exprs_literal 97 = .ok (.ldc2_w 111, 3) := by decide +kernel
theorem d_Exprs_literal_100 : decode b_Exprs_literal 100 = .ok (.lxor, 1) := by decide +kernel
theorem d_Exprs_literal_101 : decode b_Exprs_literal 101 = .ok (.land, 1) := by decide +kernel
theorem d_Exprs_literal_102 : decode b_Exprs_literal 102 = .ok (.lconst 0, 1) := by decide +kernel
theorem d_Exprs_literal_103 : decode b_Exprs_literal 103 = .ok (.lcmp, 1) := by decide +kernel
theorem d_Exprs_literal_104 : decode b_Exprs_literal 104 = .ok (.ifCond .eq (17), 3) := by decide +kernel
theorem d_Exprs_literal_107 : decode b_Exprs_literal 107 = .ok (.aload_n 0, 1) := by decide +kernel
theorem d_Exprs_literal_108 : decode b_Exprs_literal 108 = .ok (.iload_n 2, 1) := by decide +kernel
theorem d_Exprs_literal_109 : decode b_Exprs_literal 109 = .ok (.iconst 3, 1) := by decide +kernel
theorem d_Exprs_literal_110 : decode b_Exprs_literal 110 = .ok (.invokevirtual 101, 3) := by decide +kernel
theorem d_Exprs_literal_113 : decode b_Exprs_literal 113 = .ok (.aload_n 0, 1) := by decide +kernel
theorem d_Exprs_literal_114 : decode b_Exprs_literal 114 = .ok (.iconst 0, 1) := by decide +kernel
theorem d_Exprs_literal_115 : decode b_Exprs_literal 115 = .ok (.invokevirtual 102, 3) := by decide +kernel
theorem d_Exprs_literal_118 : decode b_Exprs_literal 118 = .ok (.goto (9), 3) := by decide +kernel
theorem d_Exprs_literal_121 : decode b_Exprs_literal 121 = .ok (.aload_n 0, 1) := by decide +kernel
theorem d_Exprs_literal_122 : decode b_Exprs_literal 122 = .ok (.lload_n 3, 1) := by decide +kernel
theorem d_Exprs_literal_123 : decode b_Exprs_literal 123 = .ok (.l2i, 1) := by decide +kernel
theorem d_Exprs_literal_124 : decode b_Exprs_literal 124 = .ok (.invokevirtual 102, 3) := by decide +kernel
theorem d_Exprs_literal_127 : decode b_Exprs_literal 127 = .ok (.return_, 1) := by decide +kernel
set_option maxHeartbeats 4000000 in
set_option maxRecDepth 100000 in
theorem c_Exprs_literal_a (l : Launch) {dA : FieldType → ClassId} {D : va_G} {al : Nat → Nat} {ext : mv_Sh} {sk sv : Nat → Nat} (hi : mv_inj (mg dA D al ext)) (σ : mv_H) {t len n z sz th sl e0 bs ns : Nat} {BL : (Nat → Nat) → Prop} {f0 : Nat → Int32} {g0 : Nat → Int64} {ms : List Mk} {s0 bd a : Nat} (hB0 : SB 32 σ t len n z sz th sl) (ht2 : t = 1 ∨ t = 144) (hX : XM 32 th e0 bs BL f0 g0 ns σ (ms) (sm wt ms + 0) (sm wr ms + 0) (s0)) (hI : TI σ sz bd ms s0 a) (hlen : len ≤ 32768) (hbs : bs ≤ 1) : mv_C l y_Exprs_literal (Cond.code y_Exprs_literal b_Exprs_literal 7 (Option.none : Option Jvm.ClassFile.FieldType) :: ma) ({ frames := 2, cells := 0, slots := 0, locals := 44 }) (mg dA D al ext) (mK sk sv) [.ref (al 22)] σ (mv_Rv (fun σ1 => RF 32 σ σ1 ∧ Mt (mv_a σ1 24) ∧ (0 ≤ (mv_i σ1 3 9).toInt ∨ ∃ ms2 s2 a2, a < a2 ∧ XM 32 th e0 bs BL f0 g0 ns σ1 (ms2) (sm wt ms2 + 1) (sm wr ms2 + 1) (s2) ∧ TI σ1 sz bd ms2 s2 a2))) := by
  refine mv_C.ofV (cc := b_Exprs_literal) (nL := 7) (ret := (Option.none : Option Jvm.ClassFile.FieldType)) (by decide +kernel) rfl hi (Nat.le_of_ble_eq_true rfl) ?_
  intro p e s m below meth c B hNs hr hnm hno
  have hP : PQ 32 := by unfold PQ; omega
  have hR := hB0.1
  have hF : RF 32 σ σ := RF0
  have hT : mv_i σ 3 = mv_i σ 3 := rfl
  have hsz := hB0.2.1.2.2.2.2.2
  have hsz2 := hB0.2.1.2.2.2.1
  have hI5 := hI.2.2.2.2.1
  have ha9 := hI.2.2.2.2.2.1
  have pl := hI.len hX
  have hm8 := hX.1.1
  have t7 := hI.1
  have hw9 := hI.2.1
  have t9 : (mv_i σ 3 9).toInt = (mv_i σ 3 9).toInt := rfl
  have hd8 := hI.2.2.1
  have hd9 := hI.2.2.2.1
  have hWm := hI.2.2.2.2.2.2
  have kp : mv_a σ 4 = mv_a σ 4 := rfl
  have t8 : (mv_i σ 3 8).toInt = (mv_i σ 3 8).toInt := rfl
  refine mv_aload_n (pc := 0) B d_Exprs_literal_0 rfl 0 rfl ?_
  refine mv_getR (pc := 1) (ci := 6) (C := R_Exprs) (T := F_Exprs) (N := 11) B 0 rfl rfl (by decide) i_Exprs (B.2.2.2.1 _ k_193) rfl (hR.1 _ 0 _ rfl) d_Exprs_literal_1 ?_
  refine mv_iconst (pc := 4) (v := 4) B d_Exprs_literal_4 (by decide) ?_
  refine mv_callVi (pc := 5) (n := 1) (ci := 2) (C := R_Tokens) B (mK_ok sk sv) hNs rfl rfl (c_Tokens_takeN l hi _ _ hR.1 (hB0.rf hF hP ht2).2.1 (by omega) (by omega) (by decide)) rfl (ma_goodc kc_Tokens_take) (B.2.2.2.1 _ k_1424) (B.2.2.2.1 _ k_1267) (B.2.2.2.1 _ k_1268) (B.2.2.2.1 _ k_3) ⟨by decide +kernel, by decide +kernel, by decide +kernel⟩ rfl d_Exprs_literal_5 rfl (Nat.le_of_ble_eq_true rfl) ⟨by decide, by decide⟩ ⟨by decide, by decide⟩ ⟨by decide, by decide⟩ (mv_noH hno _) (fun v5 σ5 h5 => ?_)
  obtain ⟨a5, w5, e5, r5⟩ := h5
  have q5 := r5.1
  have z5 := fun q => (r5.2.1 q).1
  have y5 := And.intro r5.2.2.2.1 r5.2.2.2.2.1
  subst e5
  refine mv_gen (fun S8 eS8 => ?_)
  have hR : Rw 32 (mv_r S8) := by rw [eS8]; exact hR
  have hF : RF 32 σ S8 := by rw [eS8]; exact hF.tk3 _ _ _
  have hX : XM 32 th e0 bs BL f0 g0 ns S8 (ms) (sm wt ms) (sm wr ms) (s0) := by rw [eS8]; exact hX.tk3 hP _ _ _
  have t7 : (mv_i S8 3 7).toInt = a5.toInt := by rw [eS8]; rfl
  have t8 : (mv_i S8 3 8).toInt = (mv_i σ 3 8).toInt := by rw [eS8]; first | exact t8 | exact (sub_one (by omega)).trans (by omega) | exact (i32_inc (by omega)).trans (by omega)
  have t9 : (mv_i S8 3 9).toInt = w5.toInt := by rw [eS8]; rfl
  have kS8 : mv_a S8 4 = mv_a σ 4 := by rw [eS8]; first | rfl | exact kp
  have kp := kS8
  clear eS8
  refine mv_istore_n (pc := 8) B d_Exprs_literal_8 rfl (by decide) rfl ?_
  refine mv_aload_n (pc := 9) B d_Exprs_literal_9 rfl 1 rfl ?_
  refine mv_getR (pc := 10) (ci := 6) (C := R_Exprs) (T := F_Exprs) (N := 11) B 0 rfl rfl (by decide) i_Exprs (B.2.2.2.1 _ k_193) rfl (hR.1 _ 0 _ rfl) d_Exprs_literal_10 ?_
  refine mv_bipush (pc := 13) (v := 39) B d_Exprs_literal_13 (by decide) ?_
  refine mv_callVi (pc := 15) (n := 1) (ci := 2) (C := R_Tokens) B (mK_ok sk sv) hNs rfl rfl (c_Tokens_takeN l hi _ _ hR.1 (hB0.rf hF hP ht2).2.1 (by omega) (by omega) (by decide)) rfl (ma_goodc kc_Tokens_take) (B.2.2.2.1 _ k_1424) (B.2.2.2.1 _ k_1267) (B.2.2.2.1 _ k_1268) (B.2.2.2.1 _ k_3) ⟨by decide +kernel, by decide +kernel, by decide +kernel⟩ rfl d_Exprs_literal_15 rfl (Nat.le_of_ble_eq_true rfl) ⟨by decide, by decide⟩ ⟨by decide, by decide⟩ ⟨by decide, by decide⟩ (mv_noH hno _) (fun v15 σ15 h15 => ?_)
  obtain ⟨a15, w15, e15, r15⟩ := h15
  have q15 := r15.1
  have z15 := fun q => (r15.2.1 q).1
  have y15 := And.intro r15.2.2.2.1 r15.2.2.2.2.1
  subst e15
  refine mv_gen (fun S18 eS18 => ?_)
  have hR : Rw 32 (mv_r S18) := by rw [eS18]; exact hR
  have hF : RF 32 σ S18 := by rw [eS18]; exact hF.tk3 _ _ _
  have hX : XM 32 th e0 bs BL f0 g0 ns S18 (ms) (sm wt ms) (sm wr ms) (s0) := by rw [eS18]; exact hX.tk3 hP _ _ _
  have t7 : (mv_i S18 3 7).toInt = a15.toInt := by rw [eS18]; rfl
  have t8 : (mv_i S18 3 8).toInt = (mv_i σ 3 8).toInt := by rw [eS18]; first | exact t8 | exact (sub_one (by omega)).trans (by omega) | exact (i32_inc (by omega)).trans (by omega)
  have t9 : (mv_i S18 3 9).toInt = w15.toInt := by rw [eS18]; rfl
  have kS18 : mv_a S18 4 = mv_a σ 4 := by rw [eS18]; first | rfl | exact kp
  have kp := kS18
  clear eS18
  refine mv_pop (pc := 18) B d_Exprs_literal_18 rfl ?_
  refine mv_aload_n (pc := 19) B d_Exprs_literal_19 rfl 1 rfl ?_
  refine mv_getR (pc := 20) (ci := 6) (C := R_Exprs) (T := F_Exprs) (N := 11) B 0 rfl rfl (by decide) i_Exprs (B.2.2.2.1 _ k_193) rfl (hR.1 _ 0 _ rfl) d_Exprs_literal_20 ?_
  refine mv_iconst (pc := 23) (v := 4) B d_Exprs_literal_23 (by decide) ?_
  refine mv_callVi (pc := 24) (n := 1) (ci := 2) (C := R_Tokens) B (mK_ok sk sv) hNs rfl rfl (c_Tokens_takeN l hi _ _ hR.1 (hB0.rf hF hP ht2).2.1 (by omega) (by omega) (by decide)) rfl (ma_goodc kc_Tokens_take) (B.2.2.2.1 _ k_1424) (B.2.2.2.1 _ k_1267) (B.2.2.2.1 _ k_1268) (B.2.2.2.1 _ k_3) ⟨by decide +kernel, by decide +kernel, by decide +kernel⟩ rfl d_Exprs_literal_24 rfl (Nat.le_of_ble_eq_true rfl) ⟨by decide, by decide⟩ ⟨by decide, by decide⟩ ⟨by decide, by decide⟩ (mv_noH hno _) (fun v24 σ24 h24 => ?_)
  obtain ⟨a24, w24, e24, r24⟩ := h24
  have q24 := r24.1
  have z24 := fun q => (r24.2.1 q).1
  have y24 := And.intro r24.2.2.2.1 r24.2.2.2.2.1
  subst e24
  refine mv_gen (fun S27 eS27 => ?_)
  have hR : Rw 32 (mv_r S27) := by rw [eS27]; exact hR
  have hF : RF 32 σ S27 := by rw [eS27]; exact hF.tk3 _ _ _
  have hX : XM 32 th e0 bs BL f0 g0 ns S27 (ms) (sm wt ms) (sm wr ms) (s0) := by rw [eS27]; exact hX.tk3 hP _ _ _
  have t7 : (mv_i S27 3 7).toInt = a24.toInt := by rw [eS27]; rfl
  have t8 : (mv_i S27 3 8).toInt = (mv_i σ 3 8).toInt := by rw [eS27]; first | exact t8 | exact (sub_one (by omega)).trans (by omega) | exact (i32_inc (by omega)).trans (by omega)
  have t9 : (mv_i S27 3 9).toInt = w24.toInt := by rw [eS27]; rfl
  have kS27 : mv_a S27 4 = mv_a σ 4 := by rw [eS27]; first | rfl | exact kp
  have kp := kS27
  clear eS27
  refine mv_istore_n (pc := 27) B d_Exprs_literal_27 rfl (by decide) rfl ?_
  refine mv_aload_n (pc := 28) B d_Exprs_literal_28 rfl 2 rfl ?_
  refine mv_getR (pc := 29) (ci := 6) (C := R_Exprs) (T := F_Exprs) (N := 11) B 0 rfl rfl (by decide) i_Exprs (B.2.2.2.1 _ k_193) rfl (hR.1 _ 0 _ rfl) d_Exprs_literal_29 ?_
  refine mv_getR (pc := 32) (ci := 2) (C := R_Tokens) (T := F_Tokens) (N := 10) B 2 rfl rfl (by decide) i_Tokens (B.2.2.2.1 _ k_95) rfl (hR.1 _ 2 _ rfl) d_Exprs_literal_32 ?_
  refine mv_iload_n (pc := 35) B d_Exprs_literal_35 rfl 1 rfl ?_
  refine mv_lald (pc := 36) B rfl (i32_in y5.1 (by omega)) d_Exprs_literal_36 ?_
  refine mv_lstore_n (pc := 37) B d_Exprs_literal_37 rfl (by decide) rfl ?_
  refine mv_aload_n (pc := 38) B d_Exprs_literal_38 rfl 3 rfl ?_
  refine mv_getR (pc := 39) (ci := 6) (C := R_Exprs) (T := F_Exprs) (N := 11) B 0 rfl rfl (by decide) i_Exprs (B.2.2.2.1 _ k_193) rfl (hR.1 _ 0 _ rfl) d_Exprs_literal_39 ?_
  refine mv_getR (pc := 42) (ci := 2) (C := R_Tokens) (T := F_Tokens) (N := 10) B 2 rfl rfl (by decide) i_Tokens (B.2.2.2.1 _ k_95) rfl (hR.1 _ 2 _ rfl) d_Exprs_literal_42 ?_
  refine mv_iload_n (pc := 45) B d_Exprs_literal_45 rfl 1 rfl ?_
  refine mv_lald (pc := 46) B rfl (i32_in y24.1 (by omega)) d_Exprs_literal_46 ?_
  refine mv_lstore (pc := 47) B d_Exprs_literal_47 (by decide) rfl ?_
  refine mv_aload_n (pc := 49) B d_Exprs_literal_49 rfl 4 rfl ?_
  refine mv_getR (pc := 50) (ci := 6) (C := R_Exprs) (T := F_Exprs) (N := 11) B 3 rfl rfl (by decide) i_Exprs (B.2.2.2.1 _ k_197) rfl hR.2.2.2 d_Exprs_literal_50 ?_
  refine mv_sipush (pc := 53) (v := 300) B d_Exprs_literal_53 (by decide) ?_
  refine mv_lload (pc := 56) B d_Exprs_literal_56 0 rfl ?_
  refine mv_callVi (pc := 58) (n := 2) (ci := 7) (C := R_Program) B (mK_ok sk sv) hNs rfl rfl (c_Program_emit_a l hi _ _ _ hR.2.1 (by have := hX.2.1.1; omega) (by have := hX.2.1.1; omega)) rfl (ma_goodc kc_Program_emit) (B.2.2.2.1 _ k_1425) (B.2.2.2.1 _ k_1385) (B.2.2.2.1 _ k_1386) (B.2.2.2.1 _ k_8) ⟨by decide +kernel, by decide +kernel, by decide +kernel⟩ rfl d_Exprs_literal_58 rfl (Nat.le_of_ble_eq_true rfl) ⟨by decide, by decide⟩ ⟨by decide, by decide⟩ ⟨by decide, by decide⟩ (mv_noH hno _) (fun v58 σ58 h58 => ?_)
  obtain ⟨e58, -⟩ := h58
  subst e58
  refine mv_gen (fun S61 eS61 => ?_)
  have hR : Rw 32 (mv_r S61) := by rw [eS61]; exact hR
  have hF : RF 32 σ S61 := by rw [eS61]; exact hF.emit _ _
  have hX : XM 32 th e0 bs BL f0 g0 ns S61 (ms) (sm wt ms) (sm wr ms + 1) (s0 + 1) := by rw [eS61]; exact hX.emit0 hP (by omega) (sm wr ms + 1) (by decide) (by decide) (Op1_lit (Or.inl rfl) th _ (bs + sm wr ms)) (by omega)
  have t7 := Eq.trans (congrArg Int32.toInt (show mv_i S61 3 7 = mv_i _ 3 7 by rw [eS61]; rfl)) t7
  have t8 := Eq.trans (congrArg Int32.toInt (show mv_i S61 3 8 = mv_i _ 3 8 by rw [eS61]; rfl)) t8
  have t9 := Eq.trans (congrArg Int32.toInt (show mv_i S61 3 9 = mv_i _ 3 9 by rw [eS61]; rfl)) t9
  have kp := Eq.trans (show mv_a S61 4 = mv_a _ 4 by rw [eS61]; rfl) kp
  clear eS61
  refine mv_pop (pc := 61) B d_Exprs_literal_61 rfl ?_
  refine mv_lload_n (pc := 62) B d_Exprs_literal_62 rfl 1 rfl ?_
  refine mv_lconst (pc := 63) (v := 1) B d_Exprs_literal_63 (by decide) ?_
  refine mv_lcmp (pc := 64) B d_Exprs_literal_64 ?_
  refine mv_if_lt (pc := 65) (tgt := 76) B d_Exprs_literal_65 rfl (fun h65 => ?_) (fun h65 => ?_)
  · skip
    refine mv_aload_n (pc := 76) B d_Exprs_literal_76 rfl 4 rfl ?_
    refine mv_iload_n (pc := 77) B d_Exprs_literal_77 rfl 3 rfl ?_
    refine mv_iconst (pc := 78) (v := 3) B d_Exprs_literal_78 (by decide) ?_
    refine mv_callVv (pc := 79) (n := 2) (ci := 6) (C := R_Exprs) B (mK_ok sk sv) hNs rfl rfl (c_Exprs_tell l hi _ _ _ hR.1 y5.1 (by omega) (by decide)) rfl (ma_goodc kc_Exprs_tell) (B.2.2.2.1 _ k_1427) (B.2.2.2.1 _ k_1429) (B.2.2.2.1 _ ks_50) (B.2.2.2.1 _ k_7) ⟨by decide +kernel, by decide +kernel, by decide +kernel⟩ rfl d_Exprs_literal_79 rfl (Nat.le_of_ble_eq_true rfl) ⟨by decide, by decide⟩ ⟨by decide, by decide⟩ ⟨by decide, by decide⟩ (mv_noH hno _) (fun σ79 h79 => ?_)
    obtain ⟨x9, y9, e79, z79⟩ := h79
    subst e79
    refine mv_gen (fun S82 eS82 => ?_)
    have hR : Rw 32 (mv_r S82) := by rw [eS82]; exact hR
    have hF : RF 32 σ S82 := by rw [eS82]; exact hF.tell _ _
    have hX : XM 32 th e0 bs BL f0 g0 ns S82 (ms) (sm wt ms) (sm wr ms + 1) (s0 + 1) := by rw [eS82]; exact hX.tell hP z79 _ _
    have t7 := Eq.trans (congrArg Int32.toInt (show mv_i S82 3 7 = mv_i _ 3 7 by rw [eS82]; rfl)) t7
    have t8 := Eq.trans (congrArg Int32.toInt (show mv_i S82 3 8 = mv_i _ 3 8 by rw [eS82]; rfl)) t8
    have t9 := Eq.trans (congrArg Int32.toInt (show mv_i S82 3 9 = mv_i _ 3 9 by rw [eS82]; rfl)) t9
    have kp := Eq.trans (show mv_a S82 4 = mv_a _ 4 by rw [eS82]; rfl) kp
    clear eS82
    refine mv_aload_n (pc := 82) B d_Exprs_literal_82 rfl 4 rfl ?_
    refine mv_iconst (pc := 83) (v := 0) B d_Exprs_literal_83 (by decide) ?_
    refine mv_callVv (pc := 84) (n := 1) (ci := 6) (C := R_Exprs) B (mK_ok sk sv) hNs rfl rfl (c_Exprs_hold l hi _ _ hR.1 (by have := hX.1.2.2.1; omega) (by have := hX.1.2.2.1; omega)) rfl (ma_goodc kc_Exprs_hold) (B.2.2.2.1 _ k_1432) (B.2.2.2.1 _ k_1434) (B.2.2.2.1 _ ks_51) (B.2.2.2.1 _ k_7) ⟨by decide +kernel, by decide +kernel, by decide +kernel⟩ rfl d_Exprs_literal_84 rfl (Nat.le_of_ble_eq_true rfl) ⟨by decide, by decide⟩ ⟨by decide, by decide⟩ ⟨by decide, by decide⟩ (mv_noH hno _) (fun σ84 h84 => ?_)
    subst h84
    refine mv_goto (pc := 87) (tgt := 127) B d_Exprs_literal_87 rfl ?_
    refine mv_gen (fun S127 eS127 => ?_)
    have hR : Rw 32 (mv_r S127) := by rw [eS127]; exact hR
    have hF : RF 32 σ S127 := by rw [eS127]; exact hF.hold _
    have hX : XM 32 th e0 bs BL f0 g0 ns S127 (ms) (sm wt ms + 1) (sm wr ms + 1) (s0 + 1) := by rw [eS127]; exact hX.hold hP (by omega) _
    have t7 := Eq.trans (congrArg Int32.toInt (show mv_i S127 3 7 = mv_i _ 3 7 by rw [eS127]; rfl)) t7
    have t8 := Eq.trans (congrArg Int32.toInt (show mv_i S127 3 8 = mv_i _ 3 8 by rw [eS127]; rfl)) t8
    have t9 := Eq.trans (congrArg Int32.toInt (show mv_i S127 3 9 = mv_i _ 3 9 by rw [eS127]; rfl)) t9
    have kp := Eq.trans (show mv_a S127 4 = mv_a _ 4 by rw [eS127]; rfl) kp
    have hend : 0 ≤ (mv_i S127 3 9).toInt ∨ ∃ ms2 s2 a2, a < a2 ∧ XM 32 th e0 bs BL f0 g0 ns S127 (ms2) (sm wt ms2 + 1) (sm wr ms2 + 1) (s2) ∧ TI S127 sz bd ms2 s2 a2 := by
      by_cases hw : (mv_i S127 3 9).toInt < 0
      · exact Or.inr ⟨ms, s0 + 1, a + 3, by omega, hX, by omega, hw, by omega, by omega, by omega, by omega, hWm.up (by omega)⟩
      · exact Or.inl (by omega)
    clear eS127
    exact mv_vret (pc := 127) B hr d_Exprs_literal_127 (Nat.le_refl _) (Nat.le_refl _) ⟨rfl, hF, hX.1.2.2.2.1, hend⟩
  · skip
    refine mv_lload_n (pc := 68) B d_Exprs_literal_68 rfl 1 rfl ?_
    refine mv_ldc2 (pc := 69) (v := 64) B (B.2.2.2.1 _ k_1426) d_Exprs_literal_69 ?_
    refine mv_lcmp (pc := 72) B d_Exprs_literal_72 ?_
    refine mv_if_le (pc := 73) (tgt := 90) B d_Exprs_literal_73 rfl (fun h73 => ?_) (fun h73 => ?_)
    · skip
      refine mv_lload (pc := 90) B d_Exprs_literal_90 0 rfl ?_
      refine mv_lload_n (pc := 92) B d_Exprs_literal_92 rfl 1 rfl ?_
      refine mv_l2i (pc := 93) B d_Exprs_literal_93 ?_
      refine mv_callSl (pc := 94) (n := 1) B (mK_ok sk sv) hNs (c_Bits_mask l hi _ _) rfl (ma_goodc kc_Bits_mask) (B.2.2.2.1 _ k_1436) (B.2.2.2.1 _ k_1437) (B.2.2.2.1 _ k_33) ⟨by decide +kernel, by decide +kernel, by decide +kernel⟩ rfl d_Exprs_literal_94 rfl (Nat.le_of_ble_eq_true rfl) ⟨by decide, by decide⟩ ⟨by decide, by decide⟩ ⟨by decide, by decide⟩ (mv_noH hno _) (fun v94 σ94 h94 => ?_)
      have h94 := h94.symm
      subst h94
      refine mv_ldc2 (pc := 97) (v := -1) B (B.2.2.2.1 _ k_1440) d_Exprs_literal_97 ?_
      refine mv_lxor (pc := 100) B d_Exprs_literal_100 ?_
      refine mv_land (pc := 101) B d_Exprs_literal_101 ?_
      refine mv_lconst (pc := 102) (v := 0) B d_Exprs_literal_102 (by decide) ?_
      refine mv_lcmp (pc := 103) B d_Exprs_literal_103 ?_
      refine mv_if_eq (pc := 104) (tgt := 121) B d_Exprs_literal_104 rfl (fun h104 => ?_) (fun h104 => ?_)
      · skip
        refine mv_aload_n (pc := 121) B d_Exprs_literal_121 rfl 4 rfl ?_
        refine mv_lload_n (pc := 122) B d_Exprs_literal_122 rfl 1 rfl ?_
        refine mv_l2i (pc := 123) B d_Exprs_literal_123 ?_
        refine mv_callVv (pc := 124) (n := 1) (ci := 6) (C := R_Exprs) B (mK_ok sk sv) hNs rfl rfl (c_Exprs_hold l hi _ _ hR.1 (by have := hX.1.2.2.1; omega) (by have := hX.1.2.2.1; omega)) rfl (ma_goodc kc_Exprs_hold) (B.2.2.2.1 _ k_1432) (B.2.2.2.1 _ k_1434) (B.2.2.2.1 _ ks_51) (B.2.2.2.1 _ k_7) ⟨by decide +kernel, by decide +kernel, by decide +kernel⟩ rfl d_Exprs_literal_124 rfl (Nat.le_of_ble_eq_true rfl) ⟨by decide, by decide⟩ ⟨by decide, by decide⟩ ⟨by decide, by decide⟩ (mv_noH hno _) (fun σ124 h124 => ?_)
        subst h124
        refine mv_gen (fun S127 eS127 => ?_)
        have hR : Rw 32 (mv_r S127) := by rw [eS127]; exact hR
        have hF : RF 32 σ S127 := by rw [eS127]; exact hF.hold _
        have hX : XM 32 th e0 bs BL f0 g0 ns S127 (ms) (sm wt ms + 1) (sm wr ms + 1) (s0 + 1) := by rw [eS127]; exact hX.hold hP (by omega) _
        have t7 := Eq.trans (congrArg Int32.toInt (show mv_i S127 3 7 = mv_i _ 3 7 by rw [eS127]; rfl)) t7
        have t8 := Eq.trans (congrArg Int32.toInt (show mv_i S127 3 8 = mv_i _ 3 8 by rw [eS127]; rfl)) t8
        have t9 := Eq.trans (congrArg Int32.toInt (show mv_i S127 3 9 = mv_i _ 3 9 by rw [eS127]; rfl)) t9
        have kp := Eq.trans (show mv_a S127 4 = mv_a _ 4 by rw [eS127]; rfl) kp
        have hend : 0 ≤ (mv_i S127 3 9).toInt ∨ ∃ ms2 s2 a2, a < a2 ∧ XM 32 th e0 bs BL f0 g0 ns S127 (ms2) (sm wt ms2 + 1) (sm wr ms2 + 1) (s2) ∧ TI S127 sz bd ms2 s2 a2 := by
          by_cases hw : (mv_i S127 3 9).toInt < 0
          · exact Or.inr ⟨ms, s0 + 1, a + 3, by omega, hX, by omega, hw, by omega, by omega, by omega, by omega, hWm.up (by omega)⟩
          · exact Or.inl (by omega)
        clear eS127
        exact mv_vret (pc := 127) B hr d_Exprs_literal_127 (Nat.le_refl _) (Nat.le_refl _) ⟨rfl, hF, hX.1.2.2.2.1, hend⟩
      · skip
        refine mv_aload_n (pc := 107) B d_Exprs_literal_107 rfl 4 rfl ?_
        refine mv_iload_n (pc := 108) B d_Exprs_literal_108 rfl 2 rfl ?_
        refine mv_iconst (pc := 109) (v := 3) B d_Exprs_literal_109 (by decide) ?_
        refine mv_callVv (pc := 110) (n := 2) (ci := 6) (C := R_Exprs) B (mK_ok sk sv) hNs rfl rfl (c_Exprs_tell l hi _ _ _ hR.1 y24.1 (by omega) (by decide)) rfl (ma_goodc kc_Exprs_tell) (B.2.2.2.1 _ k_1427) (B.2.2.2.1 _ k_1429) (B.2.2.2.1 _ ks_50) (B.2.2.2.1 _ k_7) ⟨by decide +kernel, by decide +kernel, by decide +kernel⟩ rfl d_Exprs_literal_110 rfl (Nat.le_of_ble_eq_true rfl) ⟨by decide, by decide⟩ ⟨by decide, by decide⟩ ⟨by decide, by decide⟩ (mv_noH hno _) (fun σ110 h110 => ?_)
        obtain ⟨x9, y9, e110, z110⟩ := h110
        subst e110
        refine mv_gen (fun S113 eS113 => ?_)
        have hR : Rw 32 (mv_r S113) := by rw [eS113]; exact hR
        have hF : RF 32 σ S113 := by rw [eS113]; exact hF.tell _ _
        have hX : XM 32 th e0 bs BL f0 g0 ns S113 (ms) (sm wt ms) (sm wr ms + 1) (s0 + 1) := by rw [eS113]; exact hX.tell hP z110 _ _
        have t7 := Eq.trans (congrArg Int32.toInt (show mv_i S113 3 7 = mv_i _ 3 7 by rw [eS113]; rfl)) t7
        have t8 := Eq.trans (congrArg Int32.toInt (show mv_i S113 3 8 = mv_i _ 3 8 by rw [eS113]; rfl)) t8
        have t9 := Eq.trans (congrArg Int32.toInt (show mv_i S113 3 9 = mv_i _ 3 9 by rw [eS113]; rfl)) t9
        have kp := Eq.trans (show mv_a S113 4 = mv_a _ 4 by rw [eS113]; rfl) kp
        clear eS113
        refine mv_aload_n (pc := 113) B d_Exprs_literal_113 rfl 4 rfl ?_
        refine mv_iconst (pc := 114) (v := 0) B d_Exprs_literal_114 (by decide) ?_
        refine mv_callVv (pc := 115) (n := 1) (ci := 6) (C := R_Exprs) B (mK_ok sk sv) hNs rfl rfl (c_Exprs_hold l hi _ _ hR.1 (by have := hX.1.2.2.1; omega) (by have := hX.1.2.2.1; omega)) rfl (ma_goodc kc_Exprs_hold) (B.2.2.2.1 _ k_1432) (B.2.2.2.1 _ k_1434) (B.2.2.2.1 _ ks_51) (B.2.2.2.1 _ k_7) ⟨by decide +kernel, by decide +kernel, by decide +kernel⟩ rfl d_Exprs_literal_115 rfl (Nat.le_of_ble_eq_true rfl) ⟨by decide, by decide⟩ ⟨by decide, by decide⟩ ⟨by decide, by decide⟩ (mv_noH hno _) (fun σ115 h115 => ?_)
        subst h115
        refine mv_goto (pc := 118) (tgt := 127) B d_Exprs_literal_118 rfl ?_
        refine mv_gen (fun S127 eS127 => ?_)
        have hR : Rw 32 (mv_r S127) := by rw [eS127]; exact hR
        have hF : RF 32 σ S127 := by rw [eS127]; exact hF.hold _
        have hX : XM 32 th e0 bs BL f0 g0 ns S127 (ms) (sm wt ms + 1) (sm wr ms + 1) (s0 + 1) := by rw [eS127]; exact hX.hold hP (by omega) _
        have t7 := Eq.trans (congrArg Int32.toInt (show mv_i S127 3 7 = mv_i _ 3 7 by rw [eS127]; rfl)) t7
        have t8 := Eq.trans (congrArg Int32.toInt (show mv_i S127 3 8 = mv_i _ 3 8 by rw [eS127]; rfl)) t8
        have t9 := Eq.trans (congrArg Int32.toInt (show mv_i S127 3 9 = mv_i _ 3 9 by rw [eS127]; rfl)) t9
        have kp := Eq.trans (show mv_a S127 4 = mv_a _ 4 by rw [eS127]; rfl) kp
        have hend : 0 ≤ (mv_i S127 3 9).toInt ∨ ∃ ms2 s2 a2, a < a2 ∧ XM 32 th e0 bs BL f0 g0 ns S127 (ms2) (sm wt ms2 + 1) (sm wr ms2 + 1) (s2) ∧ TI S127 sz bd ms2 s2 a2 := by
          by_cases hw : (mv_i S127 3 9).toInt < 0
          · exact Or.inr ⟨ms, s0 + 1, a + 3, by omega, hX, by omega, hw, by omega, by omega, by omega, by omega, hWm.up (by omega)⟩
          · exact Or.inl (by omega)
        clear eS127
        exact mv_vret (pc := 127) B hr d_Exprs_literal_127 (Nat.le_refl _) (Nat.le_refl _) ⟨rfl, hF, hX.1.2.2.2.1, hend⟩
    · skip
      refine mv_aload_n (pc := 76) B d_Exprs_literal_76 rfl 4 rfl ?_
      refine mv_iload_n (pc := 77) B d_Exprs_literal_77 rfl 3 rfl ?_
      refine mv_iconst (pc := 78) (v := 3) B d_Exprs_literal_78 (by decide) ?_
      refine mv_callVv (pc := 79) (n := 2) (ci := 6) (C := R_Exprs) B (mK_ok sk sv) hNs rfl rfl (c_Exprs_tell l hi _ _ _ hR.1 y5.1 (by omega) (by decide)) rfl (ma_goodc kc_Exprs_tell) (B.2.2.2.1 _ k_1427) (B.2.2.2.1 _ k_1429) (B.2.2.2.1 _ ks_50) (B.2.2.2.1 _ k_7) ⟨by decide +kernel, by decide +kernel, by decide +kernel⟩ rfl d_Exprs_literal_79 rfl (Nat.le_of_ble_eq_true rfl) ⟨by decide, by decide⟩ ⟨by decide, by decide⟩ ⟨by decide, by decide⟩ (mv_noH hno _) (fun σ79 h79 => ?_)
      obtain ⟨x9, y9, e79, z79⟩ := h79
      subst e79
      refine mv_gen (fun S82 eS82 => ?_)
      have hR : Rw 32 (mv_r S82) := by rw [eS82]; exact hR
      have hF : RF 32 σ S82 := by rw [eS82]; exact hF.tell _ _
      have hX : XM 32 th e0 bs BL f0 g0 ns S82 (ms) (sm wt ms) (sm wr ms + 1) (s0 + 1) := by rw [eS82]; exact hX.tell hP z79 _ _
      have t7 := Eq.trans (congrArg Int32.toInt (show mv_i S82 3 7 = mv_i _ 3 7 by rw [eS82]; rfl)) t7
      have t8 := Eq.trans (congrArg Int32.toInt (show mv_i S82 3 8 = mv_i _ 3 8 by rw [eS82]; rfl)) t8
      have t9 := Eq.trans (congrArg Int32.toInt (show mv_i S82 3 9 = mv_i _ 3 9 by rw [eS82]; rfl)) t9
      have kp := Eq.trans (show mv_a S82 4 = mv_a _ 4 by rw [eS82]; rfl) kp
      clear eS82
      refine mv_aload_n (pc := 82) B d_Exprs_literal_82 rfl 4 rfl ?_
      refine mv_iconst (pc := 83) (v := 0) B d_Exprs_literal_83 (by decide) ?_
      refine mv_callVv (pc := 84) (n := 1) (ci := 6) (C := R_Exprs) B (mK_ok sk sv) hNs rfl rfl (c_Exprs_hold l hi _ _ hR.1 (by have := hX.1.2.2.1; omega) (by have := hX.1.2.2.1; omega)) rfl (ma_goodc kc_Exprs_hold) (B.2.2.2.1 _ k_1432) (B.2.2.2.1 _ k_1434) (B.2.2.2.1 _ ks_51) (B.2.2.2.1 _ k_7) ⟨by decide +kernel, by decide +kernel, by decide +kernel⟩ rfl d_Exprs_literal_84 rfl (Nat.le_of_ble_eq_true rfl) ⟨by decide, by decide⟩ ⟨by decide, by decide⟩ ⟨by decide, by decide⟩ (mv_noH hno _) (fun σ84 h84 => ?_)
      subst h84
      refine mv_goto (pc := 87) (tgt := 127) B d_Exprs_literal_87 rfl ?_
      refine mv_gen (fun S127 eS127 => ?_)
      have hR : Rw 32 (mv_r S127) := by rw [eS127]; exact hR
      have hF : RF 32 σ S127 := by rw [eS127]; exact hF.hold _
      have hX : XM 32 th e0 bs BL f0 g0 ns S127 (ms) (sm wt ms + 1) (sm wr ms + 1) (s0 + 1) := by rw [eS127]; exact hX.hold hP (by omega) _
      have t7 := Eq.trans (congrArg Int32.toInt (show mv_i S127 3 7 = mv_i _ 3 7 by rw [eS127]; rfl)) t7
      have t8 := Eq.trans (congrArg Int32.toInt (show mv_i S127 3 8 = mv_i _ 3 8 by rw [eS127]; rfl)) t8
      have t9 := Eq.trans (congrArg Int32.toInt (show mv_i S127 3 9 = mv_i _ 3 9 by rw [eS127]; rfl)) t9
      have kp := Eq.trans (show mv_a S127 4 = mv_a _ 4 by rw [eS127]; rfl) kp
      have hend : 0 ≤ (mv_i S127 3 9).toInt ∨ ∃ ms2 s2 a2, a < a2 ∧ XM 32 th e0 bs BL f0 g0 ns S127 (ms2) (sm wt ms2 + 1) (sm wr ms2 + 1) (s2) ∧ TI S127 sz bd ms2 s2 a2 := by
        by_cases hw : (mv_i S127 3 9).toInt < 0
        · exact Or.inr ⟨ms, s0 + 1, a + 3, by omega, hX, by omega, hw, by omega, by omega, by omega, by omega, hWm.up (by omega)⟩
        · exact Or.inl (by omega)
      clear eS127
      exact mv_vret (pc := 127) B hr d_Exprs_literal_127 (Nat.le_refl _) (Nat.le_refl _) ⟨rfl, hF, hX.1.2.2.2.1, hend⟩
set_option maxHeartbeats 4000000 in
set_option maxRecDepth 100000 in
theorem c_Exprs_literal_b (l : Launch) {dA : FieldType → ClassId} {D : va_G} {al : Nat → Nat} {ext : mv_Sh} {sk sv : Nat → Nat} (hi : mv_inj (mg dA D al ext)) (σ : mv_H) {t len n z sz th sl e0 bs ns : Nat} {BL : (Nat → Nat) → Prop} {f0 : Nat → Int32} {g0 : Nat → Int64} {ms : List Mk} {s0 bd a : Nat} (hB0 : SB 48 σ t len n z sz th sl) (ht2 : t = 1 ∨ t = 144) (hX : XM 48 th e0 bs BL f0 g0 ns σ (ms) (sm wt ms + 0) (sm wr ms + 0) (s0)) (hI : TI σ sz bd ms s0 a) (hlen : len ≤ 32768) (hbs : bs ≤ 1) : mv_C l y_Exprs_literal (Cond.code y_Exprs_literal b_Exprs_literal 7 (Option.none : Option Jvm.ClassFile.FieldType) :: ma) ({ frames := 2, cells := 0, slots := 0, locals := 44 }) (mg dA D al ext) (mK sk sv) [.ref (al 22)] σ (mv_Rv (fun σ1 => RF 48 σ σ1 ∧ Mt (mv_a σ1 24) ∧ (0 ≤ (mv_i σ1 3 9).toInt ∨ ∃ ms2 s2 a2, a < a2 ∧ XM 48 th e0 bs BL f0 g0 ns σ1 (ms2) (sm wt ms2 + 1) (sm wr ms2 + 1) (s2) ∧ TI σ1 sz bd ms2 s2 a2))) := by
  refine mv_C.ofV (cc := b_Exprs_literal) (nL := 7) (ret := (Option.none : Option Jvm.ClassFile.FieldType)) (by decide +kernel) rfl hi (Nat.le_of_ble_eq_true rfl) ?_
  intro p e s m below meth c B hNs hr hnm hno
  have hP : PQ 48 := by unfold PQ; omega
  have hR := hB0.1
  have hF : RF 48 σ σ := RF0
  have hT : mv_i σ 3 = mv_i σ 3 := rfl
  have hsz := hB0.2.1.2.2.2.2.2
  have hsz2 := hB0.2.1.2.2.2.1
  have hI5 := hI.2.2.2.2.1
  have ha9 := hI.2.2.2.2.2.1
  have pl := hI.len hX
  have hm8 := hX.1.1
  have t7 := hI.1
  have hw9 := hI.2.1
  have t9 : (mv_i σ 3 9).toInt = (mv_i σ 3 9).toInt := rfl
  have hd8 := hI.2.2.1
  have hd9 := hI.2.2.2.1
  have hWm := hI.2.2.2.2.2.2
  have kp : mv_a σ 4 = mv_a σ 4 := rfl
  have t8 : (mv_i σ 3 8).toInt = (mv_i σ 3 8).toInt := rfl
  refine mv_aload_n (pc := 0) B d_Exprs_literal_0 rfl 0 rfl ?_
  refine mv_getR (pc := 1) (ci := 6) (C := R_Exprs) (T := F_Exprs) (N := 11) B 0 rfl rfl (by decide) i_Exprs (B.2.2.2.1 _ k_193) rfl (hR.1 _ 0 _ rfl) d_Exprs_literal_1 ?_
  refine mv_iconst (pc := 4) (v := 4) B d_Exprs_literal_4 (by decide) ?_
  refine mv_callVi (pc := 5) (n := 1) (ci := 2) (C := R_Tokens) B (mK_ok sk sv) hNs rfl rfl (c_Tokens_takeN l hi _ _ hR.1 (hB0.rf hF hP ht2).2.1 (by omega) (by omega) (by decide)) rfl (ma_goodc kc_Tokens_take) (B.2.2.2.1 _ k_1424) (B.2.2.2.1 _ k_1267) (B.2.2.2.1 _ k_1268) (B.2.2.2.1 _ k_3) ⟨by decide +kernel, by decide +kernel, by decide +kernel⟩ rfl d_Exprs_literal_5 rfl (Nat.le_of_ble_eq_true rfl) ⟨by decide, by decide⟩ ⟨by decide, by decide⟩ ⟨by decide, by decide⟩ (mv_noH hno _) (fun v5 σ5 h5 => ?_)
  obtain ⟨a5, w5, e5, r5⟩ := h5
  have q5 := r5.1
  have z5 := fun q => (r5.2.1 q).1
  have y5 := And.intro r5.2.2.2.1 r5.2.2.2.2.1
  subst e5
  refine mv_gen (fun S8 eS8 => ?_)
  have hR : Rw 48 (mv_r S8) := by rw [eS8]; exact hR
  have hF : RF 48 σ S8 := by rw [eS8]; exact hF.tk3 _ _ _
  have hX : XM 48 th e0 bs BL f0 g0 ns S8 (ms) (sm wt ms) (sm wr ms) (s0) := by rw [eS8]; exact hX.tk3 hP _ _ _
  have t7 : (mv_i S8 3 7).toInt = a5.toInt := by rw [eS8]; rfl
  have t8 : (mv_i S8 3 8).toInt = (mv_i σ 3 8).toInt := by rw [eS8]; first | exact t8 | exact (sub_one (by omega)).trans (by omega) | exact (i32_inc (by omega)).trans (by omega)
  have t9 : (mv_i S8 3 9).toInt = w5.toInt := by rw [eS8]; rfl
  have kS8 : mv_a S8 4 = mv_a σ 4 := by rw [eS8]; first | rfl | exact kp
  have kp := kS8
  clear eS8
  refine mv_istore_n (pc := 8) B d_Exprs_literal_8 rfl (by decide) rfl ?_
  refine mv_aload_n (pc := 9) B d_Exprs_literal_9 rfl 1 rfl ?_
  refine mv_getR (pc := 10) (ci := 6) (C := R_Exprs) (T := F_Exprs) (N := 11) B 0 rfl rfl (by decide) i_Exprs (B.2.2.2.1 _ k_193) rfl (hR.1 _ 0 _ rfl) d_Exprs_literal_10 ?_
  refine mv_bipush (pc := 13) (v := 39) B d_Exprs_literal_13 (by decide) ?_
  refine mv_callVi (pc := 15) (n := 1) (ci := 2) (C := R_Tokens) B (mK_ok sk sv) hNs rfl rfl (c_Tokens_takeN l hi _ _ hR.1 (hB0.rf hF hP ht2).2.1 (by omega) (by omega) (by decide)) rfl (ma_goodc kc_Tokens_take) (B.2.2.2.1 _ k_1424) (B.2.2.2.1 _ k_1267) (B.2.2.2.1 _ k_1268) (B.2.2.2.1 _ k_3) ⟨by decide +kernel, by decide +kernel, by decide +kernel⟩ rfl d_Exprs_literal_15 rfl (Nat.le_of_ble_eq_true rfl) ⟨by decide, by decide⟩ ⟨by decide, by decide⟩ ⟨by decide, by decide⟩ (mv_noH hno _) (fun v15 σ15 h15 => ?_)
  obtain ⟨a15, w15, e15, r15⟩ := h15
  have q15 := r15.1
  have z15 := fun q => (r15.2.1 q).1
  have y15 := And.intro r15.2.2.2.1 r15.2.2.2.2.1
  subst e15
  refine mv_gen (fun S18 eS18 => ?_)
  have hR : Rw 48 (mv_r S18) := by rw [eS18]; exact hR
  have hF : RF 48 σ S18 := by rw [eS18]; exact hF.tk3 _ _ _
  have hX : XM 48 th e0 bs BL f0 g0 ns S18 (ms) (sm wt ms) (sm wr ms) (s0) := by rw [eS18]; exact hX.tk3 hP _ _ _
  have t7 : (mv_i S18 3 7).toInt = a15.toInt := by rw [eS18]; rfl
  have t8 : (mv_i S18 3 8).toInt = (mv_i σ 3 8).toInt := by rw [eS18]; first | exact t8 | exact (sub_one (by omega)).trans (by omega) | exact (i32_inc (by omega)).trans (by omega)
  have t9 : (mv_i S18 3 9).toInt = w15.toInt := by rw [eS18]; rfl
  have kS18 : mv_a S18 4 = mv_a σ 4 := by rw [eS18]; first | rfl | exact kp
  have kp := kS18
  clear eS18
  refine mv_pop (pc := 18) B d_Exprs_literal_18 rfl ?_
  refine mv_aload_n (pc := 19) B d_Exprs_literal_19 rfl 1 rfl ?_
  refine mv_getR (pc := 20) (ci := 6) (C := R_Exprs) (T := F_Exprs) (N := 11) B 0 rfl rfl (by decide) i_Exprs (B.2.2.2.1 _ k_193) rfl (hR.1 _ 0 _ rfl) d_Exprs_literal_20 ?_
  refine mv_iconst (pc := 23) (v := 4) B d_Exprs_literal_23 (by decide) ?_
  refine mv_callVi (pc := 24) (n := 1) (ci := 2) (C := R_Tokens) B (mK_ok sk sv) hNs rfl rfl (c_Tokens_takeN l hi _ _ hR.1 (hB0.rf hF hP ht2).2.1 (by omega) (by omega) (by decide)) rfl (ma_goodc kc_Tokens_take) (B.2.2.2.1 _ k_1424) (B.2.2.2.1 _ k_1267) (B.2.2.2.1 _ k_1268) (B.2.2.2.1 _ k_3) ⟨by decide +kernel, by decide +kernel, by decide +kernel⟩ rfl d_Exprs_literal_24 rfl (Nat.le_of_ble_eq_true rfl) ⟨by decide, by decide⟩ ⟨by decide, by decide⟩ ⟨by decide, by decide⟩ (mv_noH hno _) (fun v24 σ24 h24 => ?_)
  obtain ⟨a24, w24, e24, r24⟩ := h24
  have q24 := r24.1
  have z24 := fun q => (r24.2.1 q).1
  have y24 := And.intro r24.2.2.2.1 r24.2.2.2.2.1
  subst e24
  refine mv_gen (fun S27 eS27 => ?_)
  have hR : Rw 48 (mv_r S27) := by rw [eS27]; exact hR
  have hF : RF 48 σ S27 := by rw [eS27]; exact hF.tk3 _ _ _
  have hX : XM 48 th e0 bs BL f0 g0 ns S27 (ms) (sm wt ms) (sm wr ms) (s0) := by rw [eS27]; exact hX.tk3 hP _ _ _
  have t7 : (mv_i S27 3 7).toInt = a24.toInt := by rw [eS27]; rfl
  have t8 : (mv_i S27 3 8).toInt = (mv_i σ 3 8).toInt := by rw [eS27]; first | exact t8 | exact (sub_one (by omega)).trans (by omega) | exact (i32_inc (by omega)).trans (by omega)
  have t9 : (mv_i S27 3 9).toInt = w24.toInt := by rw [eS27]; rfl
  have kS27 : mv_a S27 4 = mv_a σ 4 := by rw [eS27]; first | rfl | exact kp
  have kp := kS27
  clear eS27
  refine mv_istore_n (pc := 27) B d_Exprs_literal_27 rfl (by decide) rfl ?_
  refine mv_aload_n (pc := 28) B d_Exprs_literal_28 rfl 2 rfl ?_
  refine mv_getR (pc := 29) (ci := 6) (C := R_Exprs) (T := F_Exprs) (N := 11) B 0 rfl rfl (by decide) i_Exprs (B.2.2.2.1 _ k_193) rfl (hR.1 _ 0 _ rfl) d_Exprs_literal_29 ?_
  refine mv_getR (pc := 32) (ci := 2) (C := R_Tokens) (T := F_Tokens) (N := 10) B 2 rfl rfl (by decide) i_Tokens (B.2.2.2.1 _ k_95) rfl (hR.1 _ 2 _ rfl) d_Exprs_literal_32 ?_
  refine mv_iload_n (pc := 35) B d_Exprs_literal_35 rfl 1 rfl ?_
  refine mv_lald (pc := 36) B rfl (i32_in y5.1 (by omega)) d_Exprs_literal_36 ?_
  refine mv_lstore_n (pc := 37) B d_Exprs_literal_37 rfl (by decide) rfl ?_
  refine mv_aload_n (pc := 38) B d_Exprs_literal_38 rfl 3 rfl ?_
  refine mv_getR (pc := 39) (ci := 6) (C := R_Exprs) (T := F_Exprs) (N := 11) B 0 rfl rfl (by decide) i_Exprs (B.2.2.2.1 _ k_193) rfl (hR.1 _ 0 _ rfl) d_Exprs_literal_39 ?_
  refine mv_getR (pc := 42) (ci := 2) (C := R_Tokens) (T := F_Tokens) (N := 10) B 2 rfl rfl (by decide) i_Tokens (B.2.2.2.1 _ k_95) rfl (hR.1 _ 2 _ rfl) d_Exprs_literal_42 ?_
  refine mv_iload_n (pc := 45) B d_Exprs_literal_45 rfl 1 rfl ?_
  refine mv_lald (pc := 46) B rfl (i32_in y24.1 (by omega)) d_Exprs_literal_46 ?_
  refine mv_lstore (pc := 47) B d_Exprs_literal_47 (by decide) rfl ?_
  refine mv_aload_n (pc := 49) B d_Exprs_literal_49 rfl 4 rfl ?_
  refine mv_getR (pc := 50) (ci := 6) (C := R_Exprs) (T := F_Exprs) (N := 11) B 3 rfl rfl (by decide) i_Exprs (B.2.2.2.1 _ k_197) rfl hR.2.2.2 d_Exprs_literal_50 ?_
  refine mv_sipush (pc := 53) (v := 300) B d_Exprs_literal_53 (by decide) ?_
  refine mv_lload (pc := 56) B d_Exprs_literal_56 0 rfl ?_
  refine mv_callVi (pc := 58) (n := 2) (ci := 7) (C := R_Program) B (mK_ok sk sv) hNs rfl rfl (c_Program_emit_b l hi _ _ _ hR.2.1 (by have := hX.2.1.1; omega) (by have := hX.2.1.1; omega)) rfl (ma_goodc kc_Program_emit) (B.2.2.2.1 _ k_1425) (B.2.2.2.1 _ k_1385) (B.2.2.2.1 _ k_1386) (B.2.2.2.1 _ k_8) ⟨by decide +kernel, by decide +kernel, by decide +kernel⟩ rfl d_Exprs_literal_58 rfl (Nat.le_of_ble_eq_true rfl) ⟨by decide, by decide⟩ ⟨by decide, by decide⟩ ⟨by decide, by decide⟩ (mv_noH hno _) (fun v58 σ58 h58 => ?_)
  obtain ⟨e58, -⟩ := h58
  subst e58
  refine mv_gen (fun S61 eS61 => ?_)
  have hR : Rw 48 (mv_r S61) := by rw [eS61]; exact hR
  have hF : RF 48 σ S61 := by rw [eS61]; exact hF.emit _ _
  have hX : XM 48 th e0 bs BL f0 g0 ns S61 (ms) (sm wt ms) (sm wr ms + 1) (s0 + 1) := by rw [eS61]; exact hX.emit0 hP (by omega) (sm wr ms + 1) (by decide) (by decide) (Op1_lit (Or.inl rfl) th _ (bs + sm wr ms)) (by omega)
  have t7 := Eq.trans (congrArg Int32.toInt (show mv_i S61 3 7 = mv_i _ 3 7 by rw [eS61]; rfl)) t7
  have t8 := Eq.trans (congrArg Int32.toInt (show mv_i S61 3 8 = mv_i _ 3 8 by rw [eS61]; rfl)) t8
  have t9 := Eq.trans (congrArg Int32.toInt (show mv_i S61 3 9 = mv_i _ 3 9 by rw [eS61]; rfl)) t9
  have kp := Eq.trans (show mv_a S61 4 = mv_a _ 4 by rw [eS61]; rfl) kp
  clear eS61
  refine mv_pop (pc := 61) B d_Exprs_literal_61 rfl ?_
  refine mv_lload_n (pc := 62) B d_Exprs_literal_62 rfl 1 rfl ?_
  refine mv_lconst (pc := 63) (v := 1) B d_Exprs_literal_63 (by decide) ?_
  refine mv_lcmp (pc := 64) B d_Exprs_literal_64 ?_
  refine mv_if_lt (pc := 65) (tgt := 76) B d_Exprs_literal_65 rfl (fun h65 => ?_) (fun h65 => ?_)
  · skip
    refine mv_aload_n (pc := 76) B d_Exprs_literal_76 rfl 4 rfl ?_
    refine mv_iload_n (pc := 77) B d_Exprs_literal_77 rfl 3 rfl ?_
    refine mv_iconst (pc := 78) (v := 3) B d_Exprs_literal_78 (by decide) ?_
    refine mv_callVv (pc := 79) (n := 2) (ci := 6) (C := R_Exprs) B (mK_ok sk sv) hNs rfl rfl (c_Exprs_tell l hi _ _ _ hR.1 y5.1 (by omega) (by decide)) rfl (ma_goodc kc_Exprs_tell) (B.2.2.2.1 _ k_1427) (B.2.2.2.1 _ k_1429) (B.2.2.2.1 _ ks_50) (B.2.2.2.1 _ k_7) ⟨by decide +kernel, by decide +kernel, by decide +kernel⟩ rfl d_Exprs_literal_79 rfl (Nat.le_of_ble_eq_true rfl) ⟨by decide, by decide⟩ ⟨by decide, by decide⟩ ⟨by decide, by decide⟩ (mv_noH hno _) (fun σ79 h79 => ?_)
    obtain ⟨x9, y9, e79, z79⟩ := h79
    subst e79
    refine mv_gen (fun S82 eS82 => ?_)
    have hR : Rw 48 (mv_r S82) := by rw [eS82]; exact hR
    have hF : RF 48 σ S82 := by rw [eS82]; exact hF.tell _ _
    have hX : XM 48 th e0 bs BL f0 g0 ns S82 (ms) (sm wt ms) (sm wr ms + 1) (s0 + 1) := by rw [eS82]; exact hX.tell hP z79 _ _
    have t7 := Eq.trans (congrArg Int32.toInt (show mv_i S82 3 7 = mv_i _ 3 7 by rw [eS82]; rfl)) t7
    have t8 := Eq.trans (congrArg Int32.toInt (show mv_i S82 3 8 = mv_i _ 3 8 by rw [eS82]; rfl)) t8
    have t9 := Eq.trans (congrArg Int32.toInt (show mv_i S82 3 9 = mv_i _ 3 9 by rw [eS82]; rfl)) t9
    have kp := Eq.trans (show mv_a S82 4 = mv_a _ 4 by rw [eS82]; rfl) kp
    clear eS82
    refine mv_aload_n (pc := 82) B d_Exprs_literal_82 rfl 4 rfl ?_
    refine mv_iconst (pc := 83) (v := 0) B d_Exprs_literal_83 (by decide) ?_
    refine mv_callVv (pc := 84) (n := 1) (ci := 6) (C := R_Exprs) B (mK_ok sk sv) hNs rfl rfl (c_Exprs_hold l hi _ _ hR.1 (by have := hX.1.2.2.1; omega) (by have := hX.1.2.2.1; omega)) rfl (ma_goodc kc_Exprs_hold) (B.2.2.2.1 _ k_1432) (B.2.2.2.1 _ k_1434) (B.2.2.2.1 _ ks_51) (B.2.2.2.1 _ k_7) ⟨by decide +kernel, by decide +kernel, by decide +kernel⟩ rfl d_Exprs_literal_84 rfl (Nat.le_of_ble_eq_true rfl) ⟨by decide, by decide⟩ ⟨by decide, by decide⟩ ⟨by decide, by decide⟩ (mv_noH hno _) (fun σ84 h84 => ?_)
    subst h84
    refine mv_goto (pc := 87) (tgt := 127) B d_Exprs_literal_87 rfl ?_
    refine mv_gen (fun S127 eS127 => ?_)
    have hR : Rw 48 (mv_r S127) := by rw [eS127]; exact hR
    have hF : RF 48 σ S127 := by rw [eS127]; exact hF.hold _
    have hX : XM 48 th e0 bs BL f0 g0 ns S127 (ms) (sm wt ms + 1) (sm wr ms + 1) (s0 + 1) := by rw [eS127]; exact hX.hold hP (by omega) _
    have t7 := Eq.trans (congrArg Int32.toInt (show mv_i S127 3 7 = mv_i _ 3 7 by rw [eS127]; rfl)) t7
    have t8 := Eq.trans (congrArg Int32.toInt (show mv_i S127 3 8 = mv_i _ 3 8 by rw [eS127]; rfl)) t8
    have t9 := Eq.trans (congrArg Int32.toInt (show mv_i S127 3 9 = mv_i _ 3 9 by rw [eS127]; rfl)) t9
    have kp := Eq.trans (show mv_a S127 4 = mv_a _ 4 by rw [eS127]; rfl) kp
    have hend : 0 ≤ (mv_i S127 3 9).toInt ∨ ∃ ms2 s2 a2, a < a2 ∧ XM 48 th e0 bs BL f0 g0 ns S127 (ms2) (sm wt ms2 + 1) (sm wr ms2 + 1) (s2) ∧ TI S127 sz bd ms2 s2 a2 := by
      by_cases hw : (mv_i S127 3 9).toInt < 0
      · exact Or.inr ⟨ms, s0 + 1, a + 3, by omega, hX, by omega, hw, by omega, by omega, by omega, by omega, hWm.up (by omega)⟩
      · exact Or.inl (by omega)
    clear eS127
    exact mv_vret (pc := 127) B hr d_Exprs_literal_127 (Nat.le_refl _) (Nat.le_refl _) ⟨rfl, hF, hX.1.2.2.2.1, hend⟩
  · skip
    refine mv_lload_n (pc := 68) B d_Exprs_literal_68 rfl 1 rfl ?_
    refine mv_ldc2 (pc := 69) (v := 64) B (B.2.2.2.1 _ k_1426) d_Exprs_literal_69 ?_
    refine mv_lcmp (pc := 72) B d_Exprs_literal_72 ?_
    refine mv_if_le (pc := 73) (tgt := 90) B d_Exprs_literal_73 rfl (fun h73 => ?_) (fun h73 => ?_)
    · skip
      refine mv_lload (pc := 90) B d_Exprs_literal_90 0 rfl ?_
      refine mv_lload_n (pc := 92) B d_Exprs_literal_92 rfl 1 rfl ?_
      refine mv_l2i (pc := 93) B d_Exprs_literal_93 ?_
      refine mv_callSl (pc := 94) (n := 1) B (mK_ok sk sv) hNs (c_Bits_mask l hi _ _) rfl (ma_goodc kc_Bits_mask) (B.2.2.2.1 _ k_1436) (B.2.2.2.1 _ k_1437) (B.2.2.2.1 _ k_33) ⟨by decide +kernel, by decide +kernel, by decide +kernel⟩ rfl d_Exprs_literal_94 rfl (Nat.le_of_ble_eq_true rfl) ⟨by decide, by decide⟩ ⟨by decide, by decide⟩ ⟨by decide, by decide⟩ (mv_noH hno _) (fun v94 σ94 h94 => ?_)
      have h94 := h94.symm
      subst h94
      refine mv_ldc2 (pc := 97) (v := -1) B (B.2.2.2.1 _ k_1440) d_Exprs_literal_97 ?_
      refine mv_lxor (pc := 100) B d_Exprs_literal_100 ?_
      refine mv_land (pc := 101) B d_Exprs_literal_101 ?_
      refine mv_lconst (pc := 102) (v := 0) B d_Exprs_literal_102 (by decide) ?_
      refine mv_lcmp (pc := 103) B d_Exprs_literal_103 ?_
      refine mv_if_eq (pc := 104) (tgt := 121) B d_Exprs_literal_104 rfl (fun h104 => ?_) (fun h104 => ?_)
      · skip
        refine mv_aload_n (pc := 121) B d_Exprs_literal_121 rfl 4 rfl ?_
        refine mv_lload_n (pc := 122) B d_Exprs_literal_122 rfl 1 rfl ?_
        refine mv_l2i (pc := 123) B d_Exprs_literal_123 ?_
        refine mv_callVv (pc := 124) (n := 1) (ci := 6) (C := R_Exprs) B (mK_ok sk sv) hNs rfl rfl (c_Exprs_hold l hi _ _ hR.1 (by have := hX.1.2.2.1; omega) (by have := hX.1.2.2.1; omega)) rfl (ma_goodc kc_Exprs_hold) (B.2.2.2.1 _ k_1432) (B.2.2.2.1 _ k_1434) (B.2.2.2.1 _ ks_51) (B.2.2.2.1 _ k_7) ⟨by decide +kernel, by decide +kernel, by decide +kernel⟩ rfl d_Exprs_literal_124 rfl (Nat.le_of_ble_eq_true rfl) ⟨by decide, by decide⟩ ⟨by decide, by decide⟩ ⟨by decide, by decide⟩ (mv_noH hno _) (fun σ124 h124 => ?_)
        subst h124
        refine mv_gen (fun S127 eS127 => ?_)
        have hR : Rw 48 (mv_r S127) := by rw [eS127]; exact hR
        have hF : RF 48 σ S127 := by rw [eS127]; exact hF.hold _
        have hX : XM 48 th e0 bs BL f0 g0 ns S127 (ms) (sm wt ms + 1) (sm wr ms + 1) (s0 + 1) := by rw [eS127]; exact hX.hold hP (by omega) _
        have t7 := Eq.trans (congrArg Int32.toInt (show mv_i S127 3 7 = mv_i _ 3 7 by rw [eS127]; rfl)) t7
        have t8 := Eq.trans (congrArg Int32.toInt (show mv_i S127 3 8 = mv_i _ 3 8 by rw [eS127]; rfl)) t8
        have t9 := Eq.trans (congrArg Int32.toInt (show mv_i S127 3 9 = mv_i _ 3 9 by rw [eS127]; rfl)) t9
        have kp := Eq.trans (show mv_a S127 4 = mv_a _ 4 by rw [eS127]; rfl) kp
        have hend : 0 ≤ (mv_i S127 3 9).toInt ∨ ∃ ms2 s2 a2, a < a2 ∧ XM 48 th e0 bs BL f0 g0 ns S127 (ms2) (sm wt ms2 + 1) (sm wr ms2 + 1) (s2) ∧ TI S127 sz bd ms2 s2 a2 := by
          by_cases hw : (mv_i S127 3 9).toInt < 0
          · exact Or.inr ⟨ms, s0 + 1, a + 3, by omega, hX, by omega, hw, by omega, by omega, by omega, by omega, hWm.up (by omega)⟩
          · exact Or.inl (by omega)
        clear eS127
        exact mv_vret (pc := 127) B hr d_Exprs_literal_127 (Nat.le_refl _) (Nat.le_refl _) ⟨rfl, hF, hX.1.2.2.2.1, hend⟩
      · skip
        refine mv_aload_n (pc := 107) B d_Exprs_literal_107 rfl 4 rfl ?_
        refine mv_iload_n (pc := 108) B d_Exprs_literal_108 rfl 2 rfl ?_
        refine mv_iconst (pc := 109) (v := 3) B d_Exprs_literal_109 (by decide) ?_
        refine mv_callVv (pc := 110) (n := 2) (ci := 6) (C := R_Exprs) B (mK_ok sk sv) hNs rfl rfl (c_Exprs_tell l hi _ _ _ hR.1 y24.1 (by omega) (by decide)) rfl (ma_goodc kc_Exprs_tell) (B.2.2.2.1 _ k_1427) (B.2.2.2.1 _ k_1429) (B.2.2.2.1 _ ks_50) (B.2.2.2.1 _ k_7) ⟨by decide +kernel, by decide +kernel, by decide +kernel⟩ rfl d_Exprs_literal_110 rfl (Nat.le_of_ble_eq_true rfl) ⟨by decide, by decide⟩ ⟨by decide, by decide⟩ ⟨by decide, by decide⟩ (mv_noH hno _) (fun σ110 h110 => ?_)
        obtain ⟨x9, y9, e110, z110⟩ := h110
        subst e110
        refine mv_gen (fun S113 eS113 => ?_)
        have hR : Rw 48 (mv_r S113) := by rw [eS113]; exact hR
        have hF : RF 48 σ S113 := by rw [eS113]; exact hF.tell _ _
        have hX : XM 48 th e0 bs BL f0 g0 ns S113 (ms) (sm wt ms) (sm wr ms + 1) (s0 + 1) := by rw [eS113]; exact hX.tell hP z110 _ _
        have t7 := Eq.trans (congrArg Int32.toInt (show mv_i S113 3 7 = mv_i _ 3 7 by rw [eS113]; rfl)) t7
        have t8 := Eq.trans (congrArg Int32.toInt (show mv_i S113 3 8 = mv_i _ 3 8 by rw [eS113]; rfl)) t8
        have t9 := Eq.trans (congrArg Int32.toInt (show mv_i S113 3 9 = mv_i _ 3 9 by rw [eS113]; rfl)) t9
        have kp := Eq.trans (show mv_a S113 4 = mv_a _ 4 by rw [eS113]; rfl) kp
        clear eS113
        refine mv_aload_n (pc := 113) B d_Exprs_literal_113 rfl 4 rfl ?_
        refine mv_iconst (pc := 114) (v := 0) B d_Exprs_literal_114 (by decide) ?_
        refine mv_callVv (pc := 115) (n := 1) (ci := 6) (C := R_Exprs) B (mK_ok sk sv) hNs rfl rfl (c_Exprs_hold l hi _ _ hR.1 (by have := hX.1.2.2.1; omega) (by have := hX.1.2.2.1; omega)) rfl (ma_goodc kc_Exprs_hold) (B.2.2.2.1 _ k_1432) (B.2.2.2.1 _ k_1434) (B.2.2.2.1 _ ks_51) (B.2.2.2.1 _ k_7) ⟨by decide +kernel, by decide +kernel, by decide +kernel⟩ rfl d_Exprs_literal_115 rfl (Nat.le_of_ble_eq_true rfl) ⟨by decide, by decide⟩ ⟨by decide, by decide⟩ ⟨by decide, by decide⟩ (mv_noH hno _) (fun σ115 h115 => ?_)
        subst h115
        refine mv_goto (pc := 118) (tgt := 127) B d_Exprs_literal_118 rfl ?_
        refine mv_gen (fun S127 eS127 => ?_)
        have hR : Rw 48 (mv_r S127) := by rw [eS127]; exact hR
        have hF : RF 48 σ S127 := by rw [eS127]; exact hF.hold _
        have hX : XM 48 th e0 bs BL f0 g0 ns S127 (ms) (sm wt ms + 1) (sm wr ms + 1) (s0 + 1) := by rw [eS127]; exact hX.hold hP (by omega) _
        have t7 := Eq.trans (congrArg Int32.toInt (show mv_i S127 3 7 = mv_i _ 3 7 by rw [eS127]; rfl)) t7
        have t8 := Eq.trans (congrArg Int32.toInt (show mv_i S127 3 8 = mv_i _ 3 8 by rw [eS127]; rfl)) t8
        have t9 := Eq.trans (congrArg Int32.toInt (show mv_i S127 3 9 = mv_i _ 3 9 by rw [eS127]; rfl)) t9
        have kp := Eq.trans (show mv_a S127 4 = mv_a _ 4 by rw [eS127]; rfl) kp
        have hend : 0 ≤ (mv_i S127 3 9).toInt ∨ ∃ ms2 s2 a2, a < a2 ∧ XM 48 th e0 bs BL f0 g0 ns S127 (ms2) (sm wt ms2 + 1) (sm wr ms2 + 1) (s2) ∧ TI S127 sz bd ms2 s2 a2 := by
          by_cases hw : (mv_i S127 3 9).toInt < 0
          · exact Or.inr ⟨ms, s0 + 1, a + 3, by omega, hX, by omega, hw, by omega, by omega, by omega, by omega, hWm.up (by omega)⟩
          · exact Or.inl (by omega)
        clear eS127
        exact mv_vret (pc := 127) B hr d_Exprs_literal_127 (Nat.le_refl _) (Nat.le_refl _) ⟨rfl, hF, hX.1.2.2.2.1, hend⟩
    · skip
      refine mv_aload_n (pc := 76) B d_Exprs_literal_76 rfl 4 rfl ?_
      refine mv_iload_n (pc := 77) B d_Exprs_literal_77 rfl 3 rfl ?_
      refine mv_iconst (pc := 78) (v := 3) B d_Exprs_literal_78 (by decide) ?_
      refine mv_callVv (pc := 79) (n := 2) (ci := 6) (C := R_Exprs) B (mK_ok sk sv) hNs rfl rfl (c_Exprs_tell l hi _ _ _ hR.1 y5.1 (by omega) (by decide)) rfl (ma_goodc kc_Exprs_tell) (B.2.2.2.1 _ k_1427) (B.2.2.2.1 _ k_1429) (B.2.2.2.1 _ ks_50) (B.2.2.2.1 _ k_7) ⟨by decide +kernel, by decide +kernel, by decide +kernel⟩ rfl d_Exprs_literal_79 rfl (Nat.le_of_ble_eq_true rfl) ⟨by decide, by decide⟩ ⟨by decide, by decide⟩ ⟨by decide, by decide⟩ (mv_noH hno _) (fun σ79 h79 => ?_)
      obtain ⟨x9, y9, e79, z79⟩ := h79
      subst e79
      refine mv_gen (fun S82 eS82 => ?_)
      have hR : Rw 48 (mv_r S82) := by rw [eS82]; exact hR
      have hF : RF 48 σ S82 := by rw [eS82]; exact hF.tell _ _
      have hX : XM 48 th e0 bs BL f0 g0 ns S82 (ms) (sm wt ms) (sm wr ms + 1) (s0 + 1) := by rw [eS82]; exact hX.tell hP z79 _ _
      have t7 := Eq.trans (congrArg Int32.toInt (show mv_i S82 3 7 = mv_i _ 3 7 by rw [eS82]; rfl)) t7
      have t8 := Eq.trans (congrArg Int32.toInt (show mv_i S82 3 8 = mv_i _ 3 8 by rw [eS82]; rfl)) t8
      have t9 := Eq.trans (congrArg Int32.toInt (show mv_i S82 3 9 = mv_i _ 3 9 by rw [eS82]; rfl)) t9
      have kp := Eq.trans (show mv_a S82 4 = mv_a _ 4 by rw [eS82]; rfl) kp
      clear eS82
      refine mv_aload_n (pc := 82) B d_Exprs_literal_82 rfl 4 rfl ?_
      refine mv_iconst (pc := 83) (v := 0) B d_Exprs_literal_83 (by decide) ?_
      refine mv_callVv (pc := 84) (n := 1) (ci := 6) (C := R_Exprs) B (mK_ok sk sv) hNs rfl rfl (c_Exprs_hold l hi _ _ hR.1 (by have := hX.1.2.2.1; omega) (by have := hX.1.2.2.1; omega)) rfl (ma_goodc kc_Exprs_hold) (B.2.2.2.1 _ k_1432) (B.2.2.2.1 _ k_1434) (B.2.2.2.1 _ ks_51) (B.2.2.2.1 _ k_7) ⟨by decide +kernel, by decide +kernel, by decide +kernel⟩ rfl d_Exprs_literal_84 rfl (Nat.le_of_ble_eq_true rfl) ⟨by decide, by decide⟩ ⟨by decide, by decide⟩ ⟨by decide, by decide⟩ (mv_noH hno _) (fun σ84 h84 => ?_)
      subst h84
      refine mv_goto (pc := 87) (tgt := 127) B d_Exprs_literal_87 rfl ?_
      refine mv_gen (fun S127 eS127 => ?_)
      have hR : Rw 48 (mv_r S127) := by rw [eS127]; exact hR
      have hF : RF 48 σ S127 := by rw [eS127]; exact hF.hold _
      have hX : XM 48 th e0 bs BL f0 g0 ns S127 (ms) (sm wt ms + 1) (sm wr ms + 1) (s0 + 1) := by rw [eS127]; exact hX.hold hP (by omega) _
      have t7 := Eq.trans (congrArg Int32.toInt (show mv_i S127 3 7 = mv_i _ 3 7 by rw [eS127]; rfl)) t7
      have t8 := Eq.trans (congrArg Int32.toInt (show mv_i S127 3 8 = mv_i _ 3 8 by rw [eS127]; rfl)) t8
      have t9 := Eq.trans (congrArg Int32.toInt (show mv_i S127 3 9 = mv_i _ 3 9 by rw [eS127]; rfl)) t9
      have kp := Eq.trans (show mv_a S127 4 = mv_a _ 4 by rw [eS127]; rfl) kp
      have hend : 0 ≤ (mv_i S127 3 9).toInt ∨ ∃ ms2 s2 a2, a < a2 ∧ XM 48 th e0 bs BL f0 g0 ns S127 (ms2) (sm wt ms2 + 1) (sm wr ms2 + 1) (s2) ∧ TI S127 sz bd ms2 s2 a2 := by
        by_cases hw : (mv_i S127 3 9).toInt < 0
        · exact Or.inr ⟨ms, s0 + 1, a + 3, by omega, hX, by omega, hw, by omega, by omega, by omega, by omega, hWm.up (by omega)⟩
        · exact Or.inl (by omega)
      clear eS127
      exact mv_vret (pc := 127) B hr d_Exprs_literal_127 (Nat.le_refl _) (Nat.le_refl _) ⟨rfl, hF, hX.1.2.2.2.1, hend⟩
set_option maxHeartbeats 4000000 in
set_option maxRecDepth 100000 in
theorem c_Exprs_literal_c (l : Launch) {dA : FieldType → ClassId} {D : va_G} {al : Nat → Nat} {sk sv : Nat → Nat} (hi : mv_inj (mg dA D al me)) (σ : mv_H) {t len n z sz th sl e0 bs ns : Nat} {BL : (Nat → Nat) → Prop} {f0 : Nat → Int32} {g0 : Nat → Int64} {ms : List Mk} {s0 bd a : Nat} (hB0 : SB 145 σ t len n z sz th sl) (ht2 : t = 1 ∨ t = 144) (hX : XM 145 th e0 bs BL f0 g0 ns σ (ms) (sm wt ms + 0) (sm wr ms + 0) (s0)) (hI : TI σ sz bd ms s0 a) (hlen : len ≤ 8192) (hbs : bs ≤ 1) : mv_C l y_Exprs_literal (Cond.code y_Exprs_literal b_Exprs_literal 7 (Option.none : Option Jvm.ClassFile.FieldType) :: ma) ({ frames := 2, cells := 0, slots := 0, locals := 44 }) (mg dA D al me) (mK sk sv) [.ref (al 22)] σ (mv_Rv (fun σ1 => RF 145 σ σ1 ∧ Mt (mv_a σ1 24) ∧ (0 ≤ (mv_i σ1 3 9).toInt ∨ ∃ ms2 s2 a2, a < a2 ∧ XM 145 th e0 bs BL f0 g0 ns σ1 (ms2) (sm wt ms2 + 1) (sm wr ms2 + 1) (s2) ∧ TI σ1 sz bd ms2 s2 a2))) := by
  refine mv_C.ofV (cc := b_Exprs_literal) (nL := 7) (ret := (Option.none : Option Jvm.ClassFile.FieldType)) (by decide +kernel) rfl hi (Nat.le_of_ble_eq_true rfl) ?_
  intro p e s m below meth c B hNs hr hnm hno
  have hP : PQ 145 := by unfold PQ; omega
  have hR := hB0.1
  have hF : RF 145 σ σ := RF0
  have hT : mv_i σ 3 = mv_i σ 3 := rfl
  have hsz := hB0.2.1.2.2.2.2.2
  have hsz2 := hB0.2.1.2.2.2.1
  have hI5 := hI.2.2.2.2.1
  have ha9 := hI.2.2.2.2.2.1
  have pl := hI.len hX
  have hm8 := hX.1.1
  have t7 := hI.1
  have hw9 := hI.2.1
  have t9 : (mv_i σ 3 9).toInt = (mv_i σ 3 9).toInt := rfl
  have hd8 := hI.2.2.1
  have hd9 := hI.2.2.2.1
  have hWm := hI.2.2.2.2.2.2
  have kp : mv_a σ 4 = mv_a σ 4 := rfl
  have t8 : (mv_i σ 3 8).toInt = (mv_i σ 3 8).toInt := rfl
  refine mv_aload_n (pc := 0) B d_Exprs_literal_0 rfl 0 rfl ?_
  refine mv_getR (pc := 1) (ci := 6) (C := R_Exprs) (T := F_Exprs) (N := 11) B 0 rfl rfl (by decide) i_Exprs (B.2.2.2.1 _ k_193) rfl (hR.1 _ 0 _ rfl) d_Exprs_literal_1 ?_
  refine mv_iconst (pc := 4) (v := 4) B d_Exprs_literal_4 (by decide) ?_
  refine mv_callVi (pc := 5) (n := 1) (ci := 2) (C := R_Tokens) B (mK_ok sk sv) hNs rfl rfl (c_Tokens_takeN l hi _ _ hR.1 (hB0.rf hF hP ht2).2.1 (by omega) (by omega) (by decide)) rfl (ma_goodc kc_Tokens_take) (B.2.2.2.1 _ k_1424) (B.2.2.2.1 _ k_1267) (B.2.2.2.1 _ k_1268) (B.2.2.2.1 _ k_3) ⟨by decide +kernel, by decide +kernel, by decide +kernel⟩ rfl d_Exprs_literal_5 rfl (Nat.le_of_ble_eq_true rfl) ⟨by decide, by decide⟩ ⟨by decide, by decide⟩ ⟨by decide, by decide⟩ (mv_noH hno _) (fun v5 σ5 h5 => ?_)
  obtain ⟨a5, w5, e5, r5⟩ := h5
  have q5 := r5.1
  have z5 := fun q => (r5.2.1 q).1
  have y5 := And.intro r5.2.2.2.1 r5.2.2.2.2.1
  subst e5
  refine mv_gen (fun S8 eS8 => ?_)
  have hR : Rw 145 (mv_r S8) := by rw [eS8]; exact hR
  have hF : RF 145 σ S8 := by rw [eS8]; exact hF.tk3 _ _ _
  have hX : XM 145 th e0 bs BL f0 g0 ns S8 (ms) (sm wt ms) (sm wr ms) (s0) := by rw [eS8]; exact hX.tk3 hP _ _ _
  have t7 : (mv_i S8 3 7).toInt = a5.toInt := by rw [eS8]; rfl
  have t8 : (mv_i S8 3 8).toInt = (mv_i σ 3 8).toInt := by rw [eS8]; first | exact t8 | exact (sub_one (by omega)).trans (by omega) | exact (i32_inc (by omega)).trans (by omega)
  have t9 : (mv_i S8 3 9).toInt = w5.toInt := by rw [eS8]; rfl
  have kS8 : mv_a S8 4 = mv_a σ 4 := by rw [eS8]; first | rfl | exact kp
  have kp := kS8
  clear eS8
  refine mv_istore_n (pc := 8) B d_Exprs_literal_8 rfl (by decide) rfl ?_
  refine mv_aload_n (pc := 9) B d_Exprs_literal_9 rfl 1 rfl ?_
  refine mv_getR (pc := 10) (ci := 6) (C := R_Exprs) (T := F_Exprs) (N := 11) B 0 rfl rfl (by decide) i_Exprs (B.2.2.2.1 _ k_193) rfl (hR.1 _ 0 _ rfl) d_Exprs_literal_10 ?_
  refine mv_bipush (pc := 13) (v := 39) B d_Exprs_literal_13 (by decide) ?_
  refine mv_callVi (pc := 15) (n := 1) (ci := 2) (C := R_Tokens) B (mK_ok sk sv) hNs rfl rfl (c_Tokens_takeN l hi _ _ hR.1 (hB0.rf hF hP ht2).2.1 (by omega) (by omega) (by decide)) rfl (ma_goodc kc_Tokens_take) (B.2.2.2.1 _ k_1424) (B.2.2.2.1 _ k_1267) (B.2.2.2.1 _ k_1268) (B.2.2.2.1 _ k_3) ⟨by decide +kernel, by decide +kernel, by decide +kernel⟩ rfl d_Exprs_literal_15 rfl (Nat.le_of_ble_eq_true rfl) ⟨by decide, by decide⟩ ⟨by decide, by decide⟩ ⟨by decide, by decide⟩ (mv_noH hno _) (fun v15 σ15 h15 => ?_)
  obtain ⟨a15, w15, e15, r15⟩ := h15
  have q15 := r15.1
  have z15 := fun q => (r15.2.1 q).1
  have y15 := And.intro r15.2.2.2.1 r15.2.2.2.2.1
  subst e15
  refine mv_gen (fun S18 eS18 => ?_)
  have hR : Rw 145 (mv_r S18) := by rw [eS18]; exact hR
  have hF : RF 145 σ S18 := by rw [eS18]; exact hF.tk3 _ _ _
  have hX : XM 145 th e0 bs BL f0 g0 ns S18 (ms) (sm wt ms) (sm wr ms) (s0) := by rw [eS18]; exact hX.tk3 hP _ _ _
  have t7 : (mv_i S18 3 7).toInt = a15.toInt := by rw [eS18]; rfl
  have t8 : (mv_i S18 3 8).toInt = (mv_i σ 3 8).toInt := by rw [eS18]; first | exact t8 | exact (sub_one (by omega)).trans (by omega) | exact (i32_inc (by omega)).trans (by omega)
  have t9 : (mv_i S18 3 9).toInt = w15.toInt := by rw [eS18]; rfl
  have kS18 : mv_a S18 4 = mv_a σ 4 := by rw [eS18]; first | rfl | exact kp
  have kp := kS18
  clear eS18
  refine mv_pop (pc := 18) B d_Exprs_literal_18 rfl ?_
  refine mv_aload_n (pc := 19) B d_Exprs_literal_19 rfl 1 rfl ?_
  refine mv_getR (pc := 20) (ci := 6) (C := R_Exprs) (T := F_Exprs) (N := 11) B 0 rfl rfl (by decide) i_Exprs (B.2.2.2.1 _ k_193) rfl (hR.1 _ 0 _ rfl) d_Exprs_literal_20 ?_
  refine mv_iconst (pc := 23) (v := 4) B d_Exprs_literal_23 (by decide) ?_
  refine mv_callVi (pc := 24) (n := 1) (ci := 2) (C := R_Tokens) B (mK_ok sk sv) hNs rfl rfl (c_Tokens_takeN l hi _ _ hR.1 (hB0.rf hF hP ht2).2.1 (by omega) (by omega) (by decide)) rfl (ma_goodc kc_Tokens_take) (B.2.2.2.1 _ k_1424) (B.2.2.2.1 _ k_1267) (B.2.2.2.1 _ k_1268) (B.2.2.2.1 _ k_3) ⟨by decide +kernel, by decide +kernel, by decide +kernel⟩ rfl d_Exprs_literal_24 rfl (Nat.le_of_ble_eq_true rfl) ⟨by decide, by decide⟩ ⟨by decide, by decide⟩ ⟨by decide, by decide⟩ (mv_noH hno _) (fun v24 σ24 h24 => ?_)
  obtain ⟨a24, w24, e24, r24⟩ := h24
  have q24 := r24.1
  have z24 := fun q => (r24.2.1 q).1
  have y24 := And.intro r24.2.2.2.1 r24.2.2.2.2.1
  subst e24
  refine mv_gen (fun S27 eS27 => ?_)
  have hR : Rw 145 (mv_r S27) := by rw [eS27]; exact hR
  have hF : RF 145 σ S27 := by rw [eS27]; exact hF.tk3 _ _ _
  have hX : XM 145 th e0 bs BL f0 g0 ns S27 (ms) (sm wt ms) (sm wr ms) (s0) := by rw [eS27]; exact hX.tk3 hP _ _ _
  have t7 : (mv_i S27 3 7).toInt = a24.toInt := by rw [eS27]; rfl
  have t8 : (mv_i S27 3 8).toInt = (mv_i σ 3 8).toInt := by rw [eS27]; first | exact t8 | exact (sub_one (by omega)).trans (by omega) | exact (i32_inc (by omega)).trans (by omega)
  have t9 : (mv_i S27 3 9).toInt = w24.toInt := by rw [eS27]; rfl
  have kS27 : mv_a S27 4 = mv_a σ 4 := by rw [eS27]; first | rfl | exact kp
  have kp := kS27
  clear eS27
  refine mv_istore_n (pc := 27) B d_Exprs_literal_27 rfl (by decide) rfl ?_
  refine mv_aload_n (pc := 28) B d_Exprs_literal_28 rfl 2 rfl ?_
  refine mv_getR (pc := 29) (ci := 6) (C := R_Exprs) (T := F_Exprs) (N := 11) B 0 rfl rfl (by decide) i_Exprs (B.2.2.2.1 _ k_193) rfl (hR.1 _ 0 _ rfl) d_Exprs_literal_29 ?_
  refine mv_getR (pc := 32) (ci := 2) (C := R_Tokens) (T := F_Tokens) (N := 10) B 2 rfl rfl (by decide) i_Tokens (B.2.2.2.1 _ k_95) rfl (hR.1 _ 2 _ rfl) d_Exprs_literal_32 ?_
  refine mv_iload_n (pc := 35) B d_Exprs_literal_35 rfl 1 rfl ?_
  refine mv_lald (pc := 36) B rfl (i32_in y5.1 (by omega)) d_Exprs_literal_36 ?_
  refine mv_lstore_n (pc := 37) B d_Exprs_literal_37 rfl (by decide) rfl ?_
  refine mv_aload_n (pc := 38) B d_Exprs_literal_38 rfl 3 rfl ?_
  refine mv_getR (pc := 39) (ci := 6) (C := R_Exprs) (T := F_Exprs) (N := 11) B 0 rfl rfl (by decide) i_Exprs (B.2.2.2.1 _ k_193) rfl (hR.1 _ 0 _ rfl) d_Exprs_literal_39 ?_
  refine mv_getR (pc := 42) (ci := 2) (C := R_Tokens) (T := F_Tokens) (N := 10) B 2 rfl rfl (by decide) i_Tokens (B.2.2.2.1 _ k_95) rfl (hR.1 _ 2 _ rfl) d_Exprs_literal_42 ?_
  refine mv_iload_n (pc := 45) B d_Exprs_literal_45 rfl 1 rfl ?_
  refine mv_lald (pc := 46) B rfl (i32_in y24.1 (by omega)) d_Exprs_literal_46 ?_
  refine mv_lstore (pc := 47) B d_Exprs_literal_47 (by decide) rfl ?_
  refine mv_aload_n (pc := 49) B d_Exprs_literal_49 rfl 4 rfl ?_
  refine mv_getR (pc := 50) (ci := 6) (C := R_Exprs) (T := F_Exprs) (N := 11) B 3 rfl rfl (by decide) i_Exprs (B.2.2.2.1 _ k_197) rfl hR.2.2.2 d_Exprs_literal_50 ?_
  refine mv_sipush (pc := 53) (v := 300) B d_Exprs_literal_53 (by decide) ?_
  refine mv_lload (pc := 56) B d_Exprs_literal_56 0 rfl ?_
  refine mv_callVi (pc := 58) (n := 2) (ci := 7) (C := R_Program) B (mK_ok sk sv) hNs rfl rfl (c_Program_emit_c l hi _ _ _ hR.2.1 (by have := hX.2.1.1; omega) (by have := hX.2.1.1; omega)) rfl (ma_goodc kc_Program_emit) (B.2.2.2.1 _ k_1425) (B.2.2.2.1 _ k_1385) (B.2.2.2.1 _ k_1386) (B.2.2.2.1 _ k_8) ⟨by decide +kernel, by decide +kernel, by decide +kernel⟩ rfl d_Exprs_literal_58 rfl (Nat.le_of_ble_eq_true rfl) ⟨by decide, by decide⟩ ⟨by decide, by decide⟩ ⟨by decide, by decide⟩ (mv_noH hno _) (fun v58 σ58 h58 => ?_)
  obtain ⟨e58, -⟩ := h58
  subst e58
  refine mv_gen (fun S61 eS61 => ?_)
  have hR : Rw 145 (mv_r S61) := by rw [eS61]; exact hR
  have hF : RF 145 σ S61 := by rw [eS61]; exact hF.emit _ _
  have hX : XM 145 th e0 bs BL f0 g0 ns S61 (ms) (sm wt ms) (sm wr ms + 1) (s0 + 1) := by rw [eS61]; exact hX.emit0 hP (by omega) (sm wr ms + 1) (by decide) (by decide) (Op1_lit (Or.inl rfl) th _ (bs + sm wr ms)) (by omega)
  have t7 := Eq.trans (congrArg Int32.toInt (show mv_i S61 3 7 = mv_i _ 3 7 by rw [eS61]; rfl)) t7
  have t8 := Eq.trans (congrArg Int32.toInt (show mv_i S61 3 8 = mv_i _ 3 8 by rw [eS61]; rfl)) t8
  have t9 := Eq.trans (congrArg Int32.toInt (show mv_i S61 3 9 = mv_i _ 3 9 by rw [eS61]; rfl)) t9
  have kp := Eq.trans (show mv_a S61 4 = mv_a _ 4 by rw [eS61]; rfl) kp
  clear eS61
  refine mv_pop (pc := 61) B d_Exprs_literal_61 rfl ?_
  refine mv_lload_n (pc := 62) B d_Exprs_literal_62 rfl 1 rfl ?_
  refine mv_lconst (pc := 63) (v := 1) B d_Exprs_literal_63 (by decide) ?_
  refine mv_lcmp (pc := 64) B d_Exprs_literal_64 ?_
  refine mv_if_lt (pc := 65) (tgt := 76) B d_Exprs_literal_65 rfl (fun h65 => ?_) (fun h65 => ?_)
  · skip
    refine mv_aload_n (pc := 76) B d_Exprs_literal_76 rfl 4 rfl ?_
    refine mv_iload_n (pc := 77) B d_Exprs_literal_77 rfl 3 rfl ?_
    refine mv_iconst (pc := 78) (v := 3) B d_Exprs_literal_78 (by decide) ?_
    refine mv_callVv (pc := 79) (n := 2) (ci := 6) (C := R_Exprs) B (mK_ok sk sv) hNs rfl rfl (c_Exprs_tell l hi _ _ _ hR.1 y5.1 (by omega) (by decide)) rfl (ma_goodc kc_Exprs_tell) (B.2.2.2.1 _ k_1427) (B.2.2.2.1 _ k_1429) (B.2.2.2.1 _ ks_50) (B.2.2.2.1 _ k_7) ⟨by decide +kernel, by decide +kernel, by decide +kernel⟩ rfl d_Exprs_literal_79 rfl (Nat.le_of_ble_eq_true rfl) ⟨by decide, by decide⟩ ⟨by decide, by decide⟩ ⟨by decide, by decide⟩ (mv_noH hno _) (fun σ79 h79 => ?_)
    obtain ⟨x9, y9, e79, z79⟩ := h79
    subst e79
    refine mv_gen (fun S82 eS82 => ?_)
    have hR : Rw 145 (mv_r S82) := by rw [eS82]; exact hR
    have hF : RF 145 σ S82 := by rw [eS82]; exact hF.tell _ _
    have hX : XM 145 th e0 bs BL f0 g0 ns S82 (ms) (sm wt ms) (sm wr ms + 1) (s0 + 1) := by rw [eS82]; exact hX.tell hP z79 _ _
    have t7 := Eq.trans (congrArg Int32.toInt (show mv_i S82 3 7 = mv_i _ 3 7 by rw [eS82]; rfl)) t7
    have t8 := Eq.trans (congrArg Int32.toInt (show mv_i S82 3 8 = mv_i _ 3 8 by rw [eS82]; rfl)) t8
    have t9 := Eq.trans (congrArg Int32.toInt (show mv_i S82 3 9 = mv_i _ 3 9 by rw [eS82]; rfl)) t9
    have kp := Eq.trans (show mv_a S82 4 = mv_a _ 4 by rw [eS82]; rfl) kp
    clear eS82
    refine mv_aload_n (pc := 82) B d_Exprs_literal_82 rfl 4 rfl ?_
    refine mv_iconst (pc := 83) (v := 0) B d_Exprs_literal_83 (by decide) ?_
    refine mv_callVv (pc := 84) (n := 1) (ci := 6) (C := R_Exprs) B (mK_ok sk sv) hNs rfl rfl (c_Exprs_hold l hi _ _ hR.1 (by have := hX.1.2.2.1; omega) (by have := hX.1.2.2.1; omega)) rfl (ma_goodc kc_Exprs_hold) (B.2.2.2.1 _ k_1432) (B.2.2.2.1 _ k_1434) (B.2.2.2.1 _ ks_51) (B.2.2.2.1 _ k_7) ⟨by decide +kernel, by decide +kernel, by decide +kernel⟩ rfl d_Exprs_literal_84 rfl (Nat.le_of_ble_eq_true rfl) ⟨by decide, by decide⟩ ⟨by decide, by decide⟩ ⟨by decide, by decide⟩ (mv_noH hno _) (fun σ84 h84 => ?_)
    subst h84
    refine mv_goto (pc := 87) (tgt := 127) B d_Exprs_literal_87 rfl ?_
    refine mv_gen (fun S127 eS127 => ?_)
    have hR : Rw 145 (mv_r S127) := by rw [eS127]; exact hR
    have hF : RF 145 σ S127 := by rw [eS127]; exact hF.hold _
    have hX : XM 145 th e0 bs BL f0 g0 ns S127 (ms) (sm wt ms + 1) (sm wr ms + 1) (s0 + 1) := by rw [eS127]; exact hX.hold hP (by omega) _
    have t7 := Eq.trans (congrArg Int32.toInt (show mv_i S127 3 7 = mv_i _ 3 7 by rw [eS127]; rfl)) t7
    have t8 := Eq.trans (congrArg Int32.toInt (show mv_i S127 3 8 = mv_i _ 3 8 by rw [eS127]; rfl)) t8
    have t9 := Eq.trans (congrArg Int32.toInt (show mv_i S127 3 9 = mv_i _ 3 9 by rw [eS127]; rfl)) t9
    have kp := Eq.trans (show mv_a S127 4 = mv_a _ 4 by rw [eS127]; rfl) kp
    have hend : 0 ≤ (mv_i S127 3 9).toInt ∨ ∃ ms2 s2 a2, a < a2 ∧ XM 145 th e0 bs BL f0 g0 ns S127 (ms2) (sm wt ms2 + 1) (sm wr ms2 + 1) (s2) ∧ TI S127 sz bd ms2 s2 a2 := by
      by_cases hw : (mv_i S127 3 9).toInt < 0
      · exact Or.inr ⟨ms, s0 + 1, a + 3, by omega, hX, by omega, hw, by omega, by omega, by omega, by omega, hWm.up (by omega)⟩
      · exact Or.inl (by omega)
    clear eS127
    exact mv_vret (pc := 127) B hr d_Exprs_literal_127 (Nat.le_refl _) (Nat.le_refl _) ⟨rfl, hF, hX.1.2.2.2.1, hend⟩
  · skip
    refine mv_lload_n (pc := 68) B d_Exprs_literal_68 rfl 1 rfl ?_
    refine mv_ldc2 (pc := 69) (v := 64) B (B.2.2.2.1 _ k_1426) d_Exprs_literal_69 ?_
    refine mv_lcmp (pc := 72) B d_Exprs_literal_72 ?_
    refine mv_if_le (pc := 73) (tgt := 90) B d_Exprs_literal_73 rfl (fun h73 => ?_) (fun h73 => ?_)
    · skip
      refine mv_lload (pc := 90) B d_Exprs_literal_90 0 rfl ?_
      refine mv_lload_n (pc := 92) B d_Exprs_literal_92 rfl 1 rfl ?_
      refine mv_l2i (pc := 93) B d_Exprs_literal_93 ?_
      refine mv_callSl (pc := 94) (n := 1) B (mK_ok sk sv) hNs (c_Bits_mask l hi _ _) rfl (ma_goodc kc_Bits_mask) (B.2.2.2.1 _ k_1436) (B.2.2.2.1 _ k_1437) (B.2.2.2.1 _ k_33) ⟨by decide +kernel, by decide +kernel, by decide +kernel⟩ rfl d_Exprs_literal_94 rfl (Nat.le_of_ble_eq_true rfl) ⟨by decide, by decide⟩ ⟨by decide, by decide⟩ ⟨by decide, by decide⟩ (mv_noH hno _) (fun v94 σ94 h94 => ?_)
      have h94 := h94.symm
      subst h94
      refine mv_ldc2 (pc := 97) (v := -1) B (B.2.2.2.1 _ k_1440) d_Exprs_literal_97 ?_
      refine mv_lxor (pc := 100) B d_Exprs_literal_100 ?_
      refine mv_land (pc := 101) B d_Exprs_literal_101 ?_
      refine mv_lconst (pc := 102) (v := 0) B d_Exprs_literal_102 (by decide) ?_
      refine mv_lcmp (pc := 103) B d_Exprs_literal_103 ?_
      refine mv_if_eq (pc := 104) (tgt := 121) B d_Exprs_literal_104 rfl (fun h104 => ?_) (fun h104 => ?_)
      · skip
        refine mv_aload_n (pc := 121) B d_Exprs_literal_121 rfl 4 rfl ?_
        refine mv_lload_n (pc := 122) B d_Exprs_literal_122 rfl 1 rfl ?_
        refine mv_l2i (pc := 123) B d_Exprs_literal_123 ?_
        refine mv_callVv (pc := 124) (n := 1) (ci := 6) (C := R_Exprs) B (mK_ok sk sv) hNs rfl rfl (c_Exprs_hold l hi _ _ hR.1 (by have := hX.1.2.2.1; omega) (by have := hX.1.2.2.1; omega)) rfl (ma_goodc kc_Exprs_hold) (B.2.2.2.1 _ k_1432) (B.2.2.2.1 _ k_1434) (B.2.2.2.1 _ ks_51) (B.2.2.2.1 _ k_7) ⟨by decide +kernel, by decide +kernel, by decide +kernel⟩ rfl d_Exprs_literal_124 rfl (Nat.le_of_ble_eq_true rfl) ⟨by decide, by decide⟩ ⟨by decide, by decide⟩ ⟨by decide, by decide⟩ (mv_noH hno _) (fun σ124 h124 => ?_)
        subst h124
        refine mv_gen (fun S127 eS127 => ?_)
        have hR : Rw 145 (mv_r S127) := by rw [eS127]; exact hR
        have hF : RF 145 σ S127 := by rw [eS127]; exact hF.hold _
        have hX : XM 145 th e0 bs BL f0 g0 ns S127 (ms) (sm wt ms + 1) (sm wr ms + 1) (s0 + 1) := by rw [eS127]; exact hX.hold hP (by omega) _
        have t7 := Eq.trans (congrArg Int32.toInt (show mv_i S127 3 7 = mv_i _ 3 7 by rw [eS127]; rfl)) t7
        have t8 := Eq.trans (congrArg Int32.toInt (show mv_i S127 3 8 = mv_i _ 3 8 by rw [eS127]; rfl)) t8
        have t9 := Eq.trans (congrArg Int32.toInt (show mv_i S127 3 9 = mv_i _ 3 9 by rw [eS127]; rfl)) t9
        have kp := Eq.trans (show mv_a S127 4 = mv_a _ 4 by rw [eS127]; rfl) kp
        have hend : 0 ≤ (mv_i S127 3 9).toInt ∨ ∃ ms2 s2 a2, a < a2 ∧ XM 145 th e0 bs BL f0 g0 ns S127 (ms2) (sm wt ms2 + 1) (sm wr ms2 + 1) (s2) ∧ TI S127 sz bd ms2 s2 a2 := by
          by_cases hw : (mv_i S127 3 9).toInt < 0
          · exact Or.inr ⟨ms, s0 + 1, a + 3, by omega, hX, by omega, hw, by omega, by omega, by omega, by omega, hWm.up (by omega)⟩
          · exact Or.inl (by omega)
        clear eS127
        exact mv_vret (pc := 127) B hr d_Exprs_literal_127 (Nat.le_refl _) (Nat.le_refl _) ⟨rfl, hF, hX.1.2.2.2.1, hend⟩
      · skip
        refine mv_aload_n (pc := 107) B d_Exprs_literal_107 rfl 4 rfl ?_
        refine mv_iload_n (pc := 108) B d_Exprs_literal_108 rfl 2 rfl ?_
        refine mv_iconst (pc := 109) (v := 3) B d_Exprs_literal_109 (by decide) ?_
        refine mv_callVv (pc := 110) (n := 2) (ci := 6) (C := R_Exprs) B (mK_ok sk sv) hNs rfl rfl (c_Exprs_tell l hi _ _ _ hR.1 y24.1 (by omega) (by decide)) rfl (ma_goodc kc_Exprs_tell) (B.2.2.2.1 _ k_1427) (B.2.2.2.1 _ k_1429) (B.2.2.2.1 _ ks_50) (B.2.2.2.1 _ k_7) ⟨by decide +kernel, by decide +kernel, by decide +kernel⟩ rfl d_Exprs_literal_110 rfl (Nat.le_of_ble_eq_true rfl) ⟨by decide, by decide⟩ ⟨by decide, by decide⟩ ⟨by decide, by decide⟩ (mv_noH hno _) (fun σ110 h110 => ?_)
        obtain ⟨x9, y9, e110, z110⟩ := h110
        subst e110
        refine mv_gen (fun S113 eS113 => ?_)
        have hR : Rw 145 (mv_r S113) := by rw [eS113]; exact hR
        have hF : RF 145 σ S113 := by rw [eS113]; exact hF.tell _ _
        have hX : XM 145 th e0 bs BL f0 g0 ns S113 (ms) (sm wt ms) (sm wr ms + 1) (s0 + 1) := by rw [eS113]; exact hX.tell hP z110 _ _
        have t7 := Eq.trans (congrArg Int32.toInt (show mv_i S113 3 7 = mv_i _ 3 7 by rw [eS113]; rfl)) t7
        have t8 := Eq.trans (congrArg Int32.toInt (show mv_i S113 3 8 = mv_i _ 3 8 by rw [eS113]; rfl)) t8
        have t9 := Eq.trans (congrArg Int32.toInt (show mv_i S113 3 9 = mv_i _ 3 9 by rw [eS113]; rfl)) t9
        have kp := Eq.trans (show mv_a S113 4 = mv_a _ 4 by rw [eS113]; rfl) kp
        clear eS113
        refine mv_aload_n (pc := 113) B d_Exprs_literal_113 rfl 4 rfl ?_
        refine mv_iconst (pc := 114) (v := 0) B d_Exprs_literal_114 (by decide) ?_
        refine mv_callVv (pc := 115) (n := 1) (ci := 6) (C := R_Exprs) B (mK_ok sk sv) hNs rfl rfl (c_Exprs_hold l hi _ _ hR.1 (by have := hX.1.2.2.1; omega) (by have := hX.1.2.2.1; omega)) rfl (ma_goodc kc_Exprs_hold) (B.2.2.2.1 _ k_1432) (B.2.2.2.1 _ k_1434) (B.2.2.2.1 _ ks_51) (B.2.2.2.1 _ k_7) ⟨by decide +kernel, by decide +kernel, by decide +kernel⟩ rfl d_Exprs_literal_115 rfl (Nat.le_of_ble_eq_true rfl) ⟨by decide, by decide⟩ ⟨by decide, by decide⟩ ⟨by decide, by decide⟩ (mv_noH hno _) (fun σ115 h115 => ?_)
        subst h115
        refine mv_goto (pc := 118) (tgt := 127) B d_Exprs_literal_118 rfl ?_
        refine mv_gen (fun S127 eS127 => ?_)
        have hR : Rw 145 (mv_r S127) := by rw [eS127]; exact hR
        have hF : RF 145 σ S127 := by rw [eS127]; exact hF.hold _
        have hX : XM 145 th e0 bs BL f0 g0 ns S127 (ms) (sm wt ms + 1) (sm wr ms + 1) (s0 + 1) := by rw [eS127]; exact hX.hold hP (by omega) _
        have t7 := Eq.trans (congrArg Int32.toInt (show mv_i S127 3 7 = mv_i _ 3 7 by rw [eS127]; rfl)) t7
        have t8 := Eq.trans (congrArg Int32.toInt (show mv_i S127 3 8 = mv_i _ 3 8 by rw [eS127]; rfl)) t8
        have t9 := Eq.trans (congrArg Int32.toInt (show mv_i S127 3 9 = mv_i _ 3 9 by rw [eS127]; rfl)) t9
        have kp := Eq.trans (show mv_a S127 4 = mv_a _ 4 by rw [eS127]; rfl) kp
        have hend : 0 ≤ (mv_i S127 3 9).toInt ∨ ∃ ms2 s2 a2, a < a2 ∧ XM 145 th e0 bs BL f0 g0 ns S127 (ms2) (sm wt ms2 + 1) (sm wr ms2 + 1) (s2) ∧ TI S127 sz bd ms2 s2 a2 := by
          by_cases hw : (mv_i S127 3 9).toInt < 0
          · exact Or.inr ⟨ms, s0 + 1, a + 3, by omega, hX, by omega, hw, by omega, by omega, by omega, by omega, hWm.up (by omega)⟩
          · exact Or.inl (by omega)
        clear eS127
        exact mv_vret (pc := 127) B hr d_Exprs_literal_127 (Nat.le_refl _) (Nat.le_refl _) ⟨rfl, hF, hX.1.2.2.2.1, hend⟩
    · skip
      refine mv_aload_n (pc := 76) B d_Exprs_literal_76 rfl 4 rfl ?_
      refine mv_iload_n (pc := 77) B d_Exprs_literal_77 rfl 3 rfl ?_
      refine mv_iconst (pc := 78) (v := 3) B d_Exprs_literal_78 (by decide) ?_
      refine mv_callVv (pc := 79) (n := 2) (ci := 6) (C := R_Exprs) B (mK_ok sk sv) hNs rfl rfl (c_Exprs_tell l hi _ _ _ hR.1 y5.1 (by omega) (by decide)) rfl (ma_goodc kc_Exprs_tell) (B.2.2.2.1 _ k_1427) (B.2.2.2.1 _ k_1429) (B.2.2.2.1 _ ks_50) (B.2.2.2.1 _ k_7) ⟨by decide +kernel, by decide +kernel, by decide +kernel⟩ rfl d_Exprs_literal_79 rfl (Nat.le_of_ble_eq_true rfl) ⟨by decide, by decide⟩ ⟨by decide, by decide⟩ ⟨by decide, by decide⟩ (mv_noH hno _) (fun σ79 h79 => ?_)
      obtain ⟨x9, y9, e79, z79⟩ := h79
      subst e79
      refine mv_gen (fun S82 eS82 => ?_)
      have hR : Rw 145 (mv_r S82) := by rw [eS82]; exact hR
      have hF : RF 145 σ S82 := by rw [eS82]; exact hF.tell _ _
      have hX : XM 145 th e0 bs BL f0 g0 ns S82 (ms) (sm wt ms) (sm wr ms + 1) (s0 + 1) := by rw [eS82]; exact hX.tell hP z79 _ _
      have t7 := Eq.trans (congrArg Int32.toInt (show mv_i S82 3 7 = mv_i _ 3 7 by rw [eS82]; rfl)) t7
      have t8 := Eq.trans (congrArg Int32.toInt (show mv_i S82 3 8 = mv_i _ 3 8 by rw [eS82]; rfl)) t8
      have t9 := Eq.trans (congrArg Int32.toInt (show mv_i S82 3 9 = mv_i _ 3 9 by rw [eS82]; rfl)) t9
      have kp := Eq.trans (show mv_a S82 4 = mv_a _ 4 by rw [eS82]; rfl) kp
      clear eS82
      refine mv_aload_n (pc := 82) B d_Exprs_literal_82 rfl 4 rfl ?_
      refine mv_iconst (pc := 83) (v := 0) B d_Exprs_literal_83 (by decide) ?_
      refine mv_callVv (pc := 84) (n := 1) (ci := 6) (C := R_Exprs) B (mK_ok sk sv) hNs rfl rfl (c_Exprs_hold l hi _ _ hR.1 (by have := hX.1.2.2.1; omega) (by have := hX.1.2.2.1; omega)) rfl (ma_goodc kc_Exprs_hold) (B.2.2.2.1 _ k_1432) (B.2.2.2.1 _ k_1434) (B.2.2.2.1 _ ks_51) (B.2.2.2.1 _ k_7) ⟨by decide +kernel, by decide +kernel, by decide +kernel⟩ rfl d_Exprs_literal_84 rfl (Nat.le_of_ble_eq_true rfl) ⟨by decide, by decide⟩ ⟨by decide, by decide⟩ ⟨by decide, by decide⟩ (mv_noH hno _) (fun σ84 h84 => ?_)
      subst h84
      refine mv_goto (pc := 87) (tgt := 127) B d_Exprs_literal_87 rfl ?_
      refine mv_gen (fun S127 eS127 => ?_)
      have hR : Rw 145 (mv_r S127) := by rw [eS127]; exact hR
      have hF : RF 145 σ S127 := by rw [eS127]; exact hF.hold _
      have hX : XM 145 th e0 bs BL f0 g0 ns S127 (ms) (sm wt ms + 1) (sm wr ms + 1) (s0 + 1) := by rw [eS127]; exact hX.hold hP (by omega) _
      have t7 := Eq.trans (congrArg Int32.toInt (show mv_i S127 3 7 = mv_i _ 3 7 by rw [eS127]; rfl)) t7
      have t8 := Eq.trans (congrArg Int32.toInt (show mv_i S127 3 8 = mv_i _ 3 8 by rw [eS127]; rfl)) t8
      have t9 := Eq.trans (congrArg Int32.toInt (show mv_i S127 3 9 = mv_i _ 3 9 by rw [eS127]; rfl)) t9
      have kp := Eq.trans (show mv_a S127 4 = mv_a _ 4 by rw [eS127]; rfl) kp
      have hend : 0 ≤ (mv_i S127 3 9).toInt ∨ ∃ ms2 s2 a2, a < a2 ∧ XM 145 th e0 bs BL f0 g0 ns S127 (ms2) (sm wt ms2 + 1) (sm wr ms2 + 1) (s2) ∧ TI S127 sz bd ms2 s2 a2 := by
        by_cases hw : (mv_i S127 3 9).toInt < 0
        · exact Or.inr ⟨ms, s0 + 1, a + 3, by omega, hX, by omega, hw, by omega, by omega, by omega, by omega, hWm.up (by omega)⟩
        · exact Or.inl (by omega)
      clear eS127
      exact mv_vret (pc := 127) B hr d_Exprs_literal_127 (Nat.le_refl _) (Nat.le_refl _) ⟨rfl, hF, hX.1.2.2.2.1, hend⟩
def y_Exprs_name : MethodName := ⟨"MachineLoom$Exprs", "name", "()Z"⟩
abbrev b_Exprs_name : ByteArray := prog_3_method_10_code
theorem kc_Exprs_name : Cond.code y_Exprs_name b_Exprs_name 8 (Option.some Jvm.ClassFile.FieldType.boolean) ∈ ma := ma_of (tb_7 _ (List.mem_of_getElem? (i := 4) rfl)) rfl
theorem k_194 : (Jvm.Cond.fieldLink "MachineLoom$Exprs" (31 : Nat) "MachineLoom$Exprs" "names" "LMachineLoom$Names;") ∈ ma := ma_of (tb_1 _ (List.mem_of_getElem? (i := 194) rfl)) rfl
theorem k_1449 : (Jvm.Cond.methodLink "MachineLoom$Exprs" (116 : Nat) ({ cls := "MachineLoom$Names", name := "kindOf", desc := "(I)I" } : Jvm.MethodName)) ∈ ma := ma_of (tb_7 _ (List.mem_of_getElem? (i := 9) rfl)) rfl
theorem k_1317 : (Jvm.Cond.instanceMethod ({ cls := "MachineLoom$Names", name := "kindOf", desc := "(I)I" } : Jvm.MethodName)) ∈ ma := ma_of (tb_6 _ (List.mem_of_getElem? (i := 117) rfl)) rfl
theorem k_1318 : (Jvm.Cond.selects "MachineLoom$Names" ({ cls := "MachineLoom$Names", name := "kindOf", desc := "(I)I" } : Jvm.MethodName) ({ cls := "MachineLoom$Names", name := "kindOf", desc := "(I)I" } : Jvm.MethodName)) ∈ ma := ma_of (tb_6 _ (List.mem_of_getElem? (i := 118) rfl)) rfl
theorem k_137 : (Jvm.Cond.fieldLink "MachineLoom$Exprs" (121 : Nat) "MachineLoom$Names" "indexes" "[I") ∈ ma := ma_of (tb_1 _ (List.mem_of_getElem? (i := 137) rfl)) rfl
theorem k_328 : (Jvm.Cond.fieldLink "MachineLoom$Exprs" (136 : Nat) "MachineLoom$Program" "firsts" "[I") ∈ ma := ma_of (tb_2 _ (List.mem_of_getElem? (i := 88) rfl)) rfl
theorem k_320 : (Jvm.Cond.fieldLink "MachineLoom$Exprs" (139 : Nat) "MachineLoom$Program" "widths" "[I") ∈ ma := ma_of (tb_2 _ (List.mem_of_getElem? (i := 80) rfl)) rfl
theorem k_147 : (Jvm.Cond.fieldLink "MachineLoom$Exprs" (133 : Nat) "MachineLoom$Names" "letWidths" "[I") ∈ ma := ma_of (tb_1 _ (List.mem_of_getElem? (i := 147) rfl)) rfl
theorem k_1450 : (Jvm.Cond.methodLink "MachineLoom$Exprs" (124 : Nat) ({ cls := "MachineLoom$Names", name := "maskOf", desc := "(I)J" } : Jvm.MethodName)) ∈ ma := ma_of (tb_7 _ (List.mem_of_getElem? (i := 10) rfl)) rfl
theorem k_1451 : (Jvm.Cond.instanceMethod ({ cls := "MachineLoom$Names", name := "maskOf", desc := "(I)J" } : Jvm.MethodName)) ∈ ma := ma_of (tb_7 _ (List.mem_of_getElem? (i := 11) rfl)) rfl
theorem k_1452 : (Jvm.Cond.selects "MachineLoom$Names" ({ cls := "MachineLoom$Names", name := "maskOf", desc := "(I)J" } : Jvm.MethodName) ({ cls := "MachineLoom$Names", name := "maskOf", desc := "(I)J" } : Jvm.MethodName)) ∈ ma := ma_of (tb_7 _ (List.mem_of_getElem? (i := 12) rfl)) rfl
theorem k_1454 : (Jvm.Cond.methodLink "MachineLoom$Exprs" (127 : Nat) ({ cls := "java/lang/Long", name := "bitCount", desc := "(J)I" } : Jvm.MethodName)) ∈ ma := ma_of (tb_7 _ (List.mem_of_getElem? (i := 14) rfl)) rfl
theorem k_1415 : (Jvm.Cond.methodLink "MachineLoom$Exprs" (61 : Nat) ({ cls := "MachineLoom$Tokens", name := "open", desc := "(I)I" } : Jvm.MethodName)) ∈ ma := ma_of (tb_6 _ (List.mem_of_getElem? (i := 215) rfl)) rfl
theorem k_1350 : (Jvm.Cond.instanceMethod ({ cls := "MachineLoom$Tokens", name := "open", desc := "(I)I" } : Jvm.MethodName)) ∈ ma := ma_of (tb_6 _ (List.mem_of_getElem? (i := 150) rfl)) rfl
theorem k_1351 : (Jvm.Cond.selects "MachineLoom$Tokens" ({ cls := "MachineLoom$Tokens", name := "open", desc := "(I)I" } : Jvm.MethodName) ({ cls := "MachineLoom$Tokens", name := "open", desc := "(I)I" } : Jvm.MethodName)) ∈ ma := ma_of (tb_6 _ (List.mem_of_getElem? (i := 151) rfl)) rfl
theorem k_1416 : (Jvm.Cond.methodLink "MachineLoom$Exprs" (65 : Nat) ({ cls := "MachineLoom$Exprs", name := "mark", desc := "(II)V" } : Jvm.MethodName)) ∈ ma := ma_of (tb_6 _ (List.mem_of_getElem? (i := 216) rfl)) rfl
theorem k_1418 : (Jvm.Cond.instanceMethod ({ cls := "MachineLoom$Exprs", name := "mark", desc := "(II)V" } : Jvm.MethodName)) ∈ ma := ma_of (tb_6 _ (List.mem_of_getElem? (i := 218) rfl)) rfl
theorem ks_48 : Cond.selects "MachineLoom$Exprs" ⟨"MachineLoom$Exprs", "mark", "(II)V"⟩ ⟨"MachineLoom$Exprs", "mark", "(II)V"⟩ ∈ ma := ma_sel 48 rfl rfl
theorem k_1445 : (Jvm.Cond.methodLink "MachineLoom$Exprs" (113 : Nat) ({ cls := "MachineLoom$Tokens", name := "kindBehind", desc := "()I" } : Jvm.MethodName)) ∈ ma := ma_of (tb_7 _ (List.mem_of_getElem? (i := 5) rfl)) rfl
theorem k_1446 : (Jvm.Cond.instanceMethod ({ cls := "MachineLoom$Tokens", name := "kindBehind", desc := "()I" } : Jvm.MethodName)) ∈ ma := ma_of (tb_7 _ (List.mem_of_getElem? (i := 6) rfl)) rfl
theorem k_1447 : (Jvm.Cond.selects "MachineLoom$Tokens" ({ cls := "MachineLoom$Tokens", name := "kindBehind", desc := "()I" } : Jvm.MethodName) ({ cls := "MachineLoom$Tokens", name := "kindBehind", desc := "()I" } : Jvm.MethodName)) ∈ ma := ma_of (tb_7 _ (List.mem_of_getElem? (i := 7) rfl)) rfl
theorem d_Exprs_name_0 : decode b_Exprs_name 0 = .ok (.aload_n 0, 1) := by decide +kernel
theorem d_Exprs_name_1 : decode b_Exprs_name 1 = .ok (.getfield 27, 3) := by decide +kernel
theorem d_Exprs_name_4 : decode b_Exprs_name 4 = .ok (.invokevirtual 113, 3) := by decide +kernel
theorem d_Exprs_name_7 : decode b_Exprs_name 7 = .ok (.bipush 91, 2) := by decide +kernel
theorem d_Exprs_name_9 : decode b_Exprs_name 9 = .ok (.if_icmp .ne (7), 3) := by decide +kernel
theorem d_Exprs_name_12 : decode b_Exprs_name 12 = .ok (.iconst 1, 1) := by decide +kernel
theorem d_Exprs_name_13 : decode b_Exprs_name 13 = .ok (.goto (4), 3) := by decide +kernel
theorem d_Exprs_name_16 : decode b_Exprs_name 16 = .ok (.iconst 0, 1) := by decide +kernel
theorem d_Exprs_name_17 : decode b_Exprs_name 17 = .ok (.istore_n 1, 1) := by decide +kernel
theorem d_Exprs_name_18 : decode b_Exprs_name 18 = .ok (.aload_n 0, 1) := by decide +kernel
theorem d_Exprs_name_19 : decode b_Exprs_name 19 = .ok (.getfield 27, 3) := by decide +kernel
theorem d_Exprs_name_22 : decode b_Exprs_name 22 = .ok (.iconst 3, 1) := by decide +kernel
theorem d_Exprs_name_23 : decode b_Exprs_name 23 = .ok (.invokevirtual 82, 3) := by decide +kernel
theorem d_Exprs_name_26 : decode b_Exprs_name 26 = .ok (.istore_n 2, 1) := by decide +kernel
theorem d_Exprs_name_27 : decode b_Exprs_name 27 = .ok (.aload_n 0, 1) := by decide +kernel
theorem d_Exprs_name_28 : decode b_Exprs_name 28 = .ok (.getfield 27, 3) := by decide +kernel
theorem d_Exprs_name_31 : decode b_Exprs_name 31 = .ok (.getfield 85, 3) := by decide +kernel
theorem d_Exprs_name_34 : decode b_Exprs_name 34 = .ok (.iload_n 2, 1) := by decide +kernel
theorem d_Exprs_name_35 : decode b_Exprs_name 35 = .ok (.laload, 1) := by decide +kernel
theorem d_Exprs_name_36 : decode b_Exprs_name 36 = .ok (.l2i, 1) := by decide +kernel
theorem d_Exprs_name_37 : decode b_Exprs_name 37 = .ok (.istore_n 3, 1) := by decide +kernel
theorem d_Exprs_name_38 : decode b_Exprs_name 38 = .ok (.aload_n 0, 1) := by decide +kernel
theorem d_Exprs_name_39 : decode b_Exprs_name 39 = .ok (.getfield 31, 3) := by decide +kernel
theorem d_Exprs_name_42 : decode b_Exprs_name 42 = .ok (.iload_n 3, 1) := by decide +kernel
theorem d_Exprs_name_43 : decode b_Exprs_name 43 = .ok (.invokevirtual 116, 3) := by decide +kernel
theorem d_Exprs_name_46 : decode b_Exprs_name 46 = .ok (.istore 4, 2) := by decide +kernel
theorem d_Exprs_name_48 : decode b_Exprs_name 48 = .ok (.aload_n 0, 1) := by decide +kernel
theorem d_Exprs_name_49 : decode b_Exprs_name 49 = .ok (.getfield 31, 3) := by decide +kernel
theorem d_Exprs_name_52 : decode b_Exprs_name 52 = .ok (.getfield 121, 3) := by decide +kernel
theorem d_Exprs_name_55 : decode b_Exprs_name 55 = .ok (.iload_n 3, 1) := by decide +kernel
theorem d_Exprs_name_56 : decode b_Exprs_name 56 = .ok (.iaload, 1) := by decide +kernel
theorem d_Exprs_name_57 : decode b_Exprs_name 57 = .ok (.istore 5, 2) := by decide +kernel
theorem d_Exprs_name_59 : decode b_Exprs_name 59 = .ok (.iload 4, 2) := by decide +kernel
theorem d_Exprs_name_61 : decode b_Exprs_name 61 = .ok (.iconst 2, 1) := by decide +kernel
theorem d_Exprs_name_62 : decode b_Exprs_name 62 = .ok (.if_icmp .ne (37), 3) := by decide +kernel
theorem d_Exprs_name_65 : decode b_Exprs_name 65 = .ok (.iload_n 1, 1) := by decide +kernel
theorem d_Exprs_name_66 : decode b_Exprs_name 66 = .ok (.ifCond .eq (33), 3) := by decide +kernel
theorem d_Exprs_name_69 : decode b_Exprs_name 69 = .ok (.aload_n 0, 1) := by decide +kernel
theorem d_Exprs_name_70 : decode b_Exprs_name 70 = .ok (.bipush 91, 2) := by decide +kernel
theorem d_Exprs_name_72 : decode b_Exprs_name 72 = .ok (.aload_n 0, 1) := by decide +kernel
theorem d_Exprs_name_73 : decode b_Exprs_name 73 = .ok (.getfield 27, 3) := by decide +kernel
theorem d_Exprs_name_76 : decode b_Exprs_name 76 = .ok (.bipush 91, 2) := by decide +kernel
theorem d_Exprs_name_78 : decode b_Exprs_name 78 = .ok (.invokevirtual 61, 3) := by decide +kernel
theorem d_Exprs_name_81 : decode b_Exprs_name 81 = .ok (.invokevirtual 65, 3) := by decide +kernel
theorem d_Exprs_name_84 : decode b_Exprs_name 84 = .ok (.aload_n 0, 1) := by decide +kernel
theorem d_Exprs_name_85 : decode b_Exprs_name 85 = .ok (.getfield 18, 3) := by decide +kernel
theorem d_Exprs_name_88 : decode b_Exprs_name 88 = .ok (.aload_n 0, 1) := by decide +kernel
theorem d_Exprs_name_89 : decode b_Exprs_name 89 = .ok (.getfield 39, 3) := by decide +kernel
theorem d_Exprs_name_92 : decode b_Exprs_name 92 = .ok (.iconst 1, 1) := by decide +kernel
theorem d_Exprs_name_93 : decode b_Exprs_name 93 = .ok (.isub, 1) := by decide +kernel
theorem d_Exprs_name_94 : decode b_Exprs_name 94 = .ok (.iload 5, 2) := by decide +kernel
theorem d_Exprs_name_96 : decode b_Exprs_name 96 = .ok (.iastore, 1) := by decide +kernel
theorem d_Exprs_name_97 : decode b_Exprs_name 97 = .ok (.iconst 0, 1) := by decide +kernel
theorem d_Exprs_name_98 : decode b_Exprs_name 98 = .ok (.ireturn, 1) := by decide +kernel
theorem d_Exprs_name_99 : decode b_Exprs_name 99 = .ok (.iload 4, 2) := by decide +kernel
theorem d_Exprs_name_101 : decode b_Exprs_name 101 = .ok (.iconst 4, 1) := by decide +kernel
theorem d_Exprs_name_102 : decode b_Exprs_name 102 = .ok (.if_icmp .ne (38), 3) := by decide +kernel
theorem d_Exprs_name_105 : decode b_Exprs_name 105 = .ok (.aload_n 0, 1) := by decide +kernel
theorem d_Exprs_name_106 : decode b_Exprs_name 106 = .ok (.getfield 31, 3) := by decide +kernel
theorem d_Exprs_name_109 : decode b_Exprs_name 109 = .ok (.iload_n 3, 1) := by decide +kernel
theorem d_Exprs_name_110 : decode b_Exprs_name 110 = .ok (.invokevirtual 124, 3) := by decide +kernel
theorem d_Exprs_name_113 : decode b_Exprs_name 113 = .ok (.lstore 6, 2) := by decide +kernel
theorem d_Exprs_name_115 : decode b_Exprs_name 115 = .ok (.aload_n 0, 1) := by decide +kernel
theorem d_Exprs_name_116 : decode b_Exprs_name 116 = .ok (.getfield 89, 3) := by decide +kernel
theorem d_Exprs_name_119 : decode b_Exprs_name 119 = .ok (.sipush 301, 3) := by decide +kernel
theorem d_Exprs_name_122 : decode b_Exprs_name 122 = .ok (.lload 6, 2) := by decide +kernel
theorem d_Exprs_name_124 : decode b_Exprs_name 124 = .ok (.invokevirtual 93, 3) := by decide +kernel
theorem d_Exprs_name_127 : decode b_Exprs_name 127 = .ok (.pop, 1) := by decide +kernel
theorem d_Exprs_name_128 : decode b_Exprs_name 128 = .ok (.aload_n 0, 1) := by decide +kernel
theorem d_Exprs_name_129 : decode b_Exprs_name 129 = .ok (.lload 6, 2) := by decide +kernel
theorem d_Exprs_name_131 : decode b_Exprs_name 131 = .ok (.invokestatic 127, 3) := by decide +kernel
theorem d_Exprs_name_134 : decode b_Exprs_name 134 = .ok (.invokevirtual 102, 3) := by decide +kernel
theorem d_Exprs_name_137 : decode b_Exprs_name 137 = .ok (.goto (96), 3) := by decide +kernel
theorem d_Exprs_name_140 : decode b_Exprs_name 140 = .ok (.iload 4, 2) := by decide +kernel
theorem d_Exprs_name_142 : decode b_Exprs_name 142 = .ok (.iconst 3, 1) := by decide +kernel
theorem d_Exprs_name_143 : decode b_Exprs_name 143 = .ok (.if_icmp .ne (34), 3) := by decide +kernel
theorem d_Exprs_name_146 : decode b_Exprs_name 146 = .ok (.aload_n 0, 1) := by decide +kernel
theorem d_Exprs_name_147 : decode b_Exprs_name 147 = .ok (.getfield 89, 3) := by decide +kernel
theorem d_Exprs_name_150 : decode b_Exprs_name 150 = .ok (.sipush 302, 3) := by decide +kernel
theorem d_Exprs_name_153 : decode b_Exprs_name 153 = .ok (.iload 5, 2) := by decide +kernel
theorem d_Exprs_name_155 : decode b_Exprs_name 155 = .ok (.i2l, 1) := by decide +kernel
theorem d_Exprs_name_156 : decode b_Exprs_name 156 = .ok (.invokevirtual 93, 3) := by decide +kernel
theorem d_Exprs_name_159 : decode b_Exprs_name 159 = .ok (.pop, 1) := by decide +kernel
theorem d_Exprs_name_160 : decode b_Exprs_name 160 = .ok (.aload_n 0, 1) := by decide +kernel
theorem d_Exprs_name_161 : decode b_Exprs_name 161 = .ok (.aload_n 0, 1) := by decide +kernel
theorem d_Exprs_name_162 : decode b_Exprs_name 162 = .ok (.getfield 31, 3) := by decide +kernel
theorem d_Exprs_name_165 : decode b_Exprs_name 165 = .ok (.getfield 133, 3) := by decide +kernel
theorem d_Exprs_name_168 : decode b_Exprs_name 168 = .ok (.iload 5, 2) := by decide +kernel
theorem d_Exprs_name_170 : decode b_Exprs_name 170 = .ok (.iaload, 1) := by decide +kernel
theorem d_Exprs_name_171 : decode b_Exprs_name 171 = .ok (.invokevirtual 102, 3) := by decide +kernel
theorem d_Exprs_name_174 : decode b_Exprs_name 174 = .ok (.goto (59), 3) := by decide +kernel
theorem d_Exprs_name_177 : decode b_Exprs_name 177 = .ok (.iload 4, 2) := by decide +kernel
theorem d_Exprs_name_179 : decode b_Exprs_name 179 = .ok (.iconst 1, 1) := by decide +kernel
theorem d_Exprs_name_180 : decode b_Exprs_name 180 = .ok (.if_icmp .ne (42), 3) := by decide +kernel
theorem d_Exprs_name_183 : decode b_Exprs_name 183 = .ok (.aload_n 0, 1) := by decide +kernel
theorem d_Exprs_name_184 : decode b_Exprs_name 184 = .ok (.getfield 89, 3) := by decide +kernel
theorem d_Exprs_name_187 : decode b_Exprs_name 187 = .ok (.sipush 303, 3) := by decide +kernel
theorem d_Exprs_name_190 : decode b_Exprs_name 190 = .ok (.aload_n 0, 1) := by decide +kernel
theorem d_Exprs_name_191 : decode b_Exprs_name 191 = .ok (.getfield 89, 3) := by decide +kernel
theorem d_Exprs_name_194 : decode b_Exprs_name 194 = .ok (.getfield 136, 3) := by decide +kernel
theorem d_Exprs_name_197 : decode b_Exprs_name 197 = .ok (.iload 5, 2) := by decide +kernel
theorem d_Exprs_name_199 : decode b_Exprs_name 199 = .ok (.iaload, 1) := by decide +kernel
theorem d_Exprs_name_200 : decode b_Exprs_name 200 = .ok (.i2l, 1) := by decide +kernel
theorem d_Exprs_name_201 : decode b_Exprs_name 201 = .ok (.invokevirtual 93, 3) := by decide +kernel
theorem d_Exprs_name_204 : decode b_Exprs_name 204 = .ok (.pop, 1) := by decide +kernel
theorem d_Exprs_name_205 : decode b_Exprs_name 205 = .ok (.aload_n 0, 1) := by decide +kernel
theorem d_Exprs_name_206 : decode b_Exprs_name 206 = .ok (.aload_n 0, 1) := by decide +kernel
theorem d_Exprs_name_207 : decode b_Exprs_name 207 = .ok (.getfield 89, 3) := by decide +kernel
theorem d_Exprs_name_210 : decode b_Exprs_name 210 = .ok (.getfield 139, 3) := by decide +kernel
theorem d_Exprs_name_213 : decode b_Exprs_name 213 = .ok (.iload 5, 2) := by decide +kernel
theorem d_Exprs_name_215 : decode b_Exprs_name 215 = .ok (.iaload, 1) := by decide +kernel
theorem d_Exprs_name_216 : decode b_Exprs_name 216 = .ok (.invokevirtual 102, 3) := by decide +kernel
theorem d_Exprs_name_219 : decode b_Exprs_name 219 = .ok (.goto (14), 3) := by decide +kernel
theorem d_Exprs_name_222 : decode b_Exprs_name 222 = .ok (.aload_n 0, 1) := by decide +kernel
theorem d_Exprs_name_223 : decode b_Exprs_name 223 = .ok (.iload_n 2, 1) := by decide +kernel
theorem d_Exprs_name_224 : decode b_Exprs_name 224 = .ok (.iconst 2, 1) := by decide +kernel
theorem d_Exprs_name_225 : decode b_Exprs_name 225 = .ok (.invokevirtual 101, 3) := by decide +kernel
theorem d_Exprs_name_228 : decode b_Exprs_name 228 = .ok (.aload_n 0, 1) := by decide +kernel
theorem d_Exprs_name_229 : decode b_Exprs_name 229 = .ok (.iconst 0, 1) := by decide +kernel
theorem d_Exprs_name_230 : decode b_Exprs_name 230 = .ok (.invokevirtual 102, 3) := by decide +kernel
theorem d_Exprs_name_233 : decode b_Exprs_name 233 = .ok (.iconst 1, 1) := by decide +kernel
theorem d_Exprs_name_234 : decode b_Exprs_name 234 = .ok (.ireturn, 1) := by decide +kernel
set_option maxHeartbeats 4000000 in
set_option maxRecDepth 100000 in
theorem c_Exprs_name_a (l : Launch) {dA : FieldType → ClassId} {D : va_G} {al : Nat → Nat} {ext : mv_Sh} {sk sv : Nat → Nat} (hi : mv_inj (mg dA D al ext)) (σ : mv_H) {t len n z sz th sl e0 bs ns : Nat} {BL : (Nat → Nat) → Prop} {f0 : Nat → Int32} {g0 : Nat → Int64} {ms : List Mk} {s0 bd a : Nat} (hB0 : SB 32 σ t len n z sz th sl) (ht2 : t = 1 ∨ t = 144) (hX : XM 32 th e0 bs BL f0 g0 ns σ (ms) (sm wt ms + 0) (sm wr ms + 0) (s0)) (hI : TI σ sz bd ms s0 a) (hlen : len ≤ 32768) (hbs : bs ≤ 1) (hk3 : mv_a σ 4 (mv_i σ 3 7).toNatClampNeg = 3) : mv_C l y_Exprs_name (Cond.code y_Exprs_name b_Exprs_name 8 (Option.some Jvm.ClassFile.FieldType.boolean) :: ma) ({ frames := 3, cells := 0, slots := 0, locals := 63 }) (mg dA D al ext) (mK sk sv) [.ref (al 22)] σ (mv_Ri (fun v σ1 => RF 32 σ σ1 ∧ Mt (mv_a σ1 24) ∧ (v = 0 ∨ v = 1) ∧ (0 ≤ (mv_i σ1 3 9).toInt ∨ ∃ ms2 s2 a2, a < a2 ∧ XM 32 th e0 bs BL f0 g0 ns σ1 (ms2) (sm wt ms2 + v.toNatClampNeg) (sm wr ms2 + v.toNatClampNeg) (s2) ∧ TI σ1 sz bd ms2 s2 a2))) := by
  refine mv_C.ofV (cc := b_Exprs_name) (nL := 8) (ret := (Option.some Jvm.ClassFile.FieldType.boolean)) (by decide +kernel) rfl hi (Nat.le_of_ble_eq_true rfl) ?_
  intro p e s m below meth c B hNs hr hnm hno
  have hP : PQ 32 := by unfold PQ; omega
  have hR := hB0.1
  have hF : RF 32 σ σ := RF0
  have hT : mv_i σ 3 = mv_i σ 3 := rfl
  have hsz := hB0.2.1.2.2.2.2.2
  have hsz2 := hB0.2.1.2.2.2.1
  have hI5 := hI.2.2.2.2.1
  have ha9 := hI.2.2.2.2.2.1
  have pl := hI.len hX
  have hm8 := hX.1.1
  have t7 := hI.1
  have hw9 := hI.2.1
  have t9 : (mv_i σ 3 9).toInt = (mv_i σ 3 9).toInt := rfl
  have hd8 := hI.2.2.1
  have hd9 := hI.2.2.2.1
  have hWm := hI.2.2.2.2.2.2
  have kp : mv_a σ 4 = mv_a σ 4 := rfl
  have t8 : (mv_i σ 3 8).toInt = (mv_i σ 3 8).toInt := rfl
  have kcl := i32_cl (x := mv_i σ 3 7) (by omega)
  have hla := hB0.2.1.last (a := (mv_i σ 3 7).toNatClampNeg) (by omega) hk3 (by decide) (by decide)
  have j233 : ∀ (υ : mv_H) (hF : RF 32 σ υ) (hM : Mt (mv_a υ 24)) (hend : 0 ≤ (mv_i υ 3 9).toInt ∨ ∃ ms2 s2 a2, a < a2 ∧ XM 32 th e0 bs BL f0 g0 ns υ (ms2) (sm wt ms2 + (1 : Int32).toNatClampNeg) (sm wr ms2 + (1 : Int32).toNatClampNeg) (s2) ∧ TI υ sz bd ms2 s2 a2) {L : List (Nat × Value)}, mv_V p l e ({ frames := 3, cells := 0, slots := 0, locals := 63 }) s m ([.ref (al 22)] : List Value).toArray below meth c (mg dA D al ext) 8 0 0 (mv_Q (mg dA D al ext) below s 0 0 (mv_Ri (fun v σ1 => RF 32 σ σ1 ∧ Mt (mv_a σ1 24) ∧ (v = 0 ∨ v = 1) ∧ (0 ≤ (mv_i σ1 3 9).toInt ∨ ∃ ms2 s2 a2, a < a2 ∧ XM 32 th e0 bs BL f0 g0 ns σ1 (ms2) (sm wt ms2 + v.toNatClampNeg) (sm wr ms2 + v.toNatClampNeg) (s2) ∧ TI σ1 sz bd ms2 s2 a2)))) υ 233 L [] := by
    intro υ hF hM hend L
    refine mv_iconst (pc := 233) (v := 1) B d_Exprs_name_233 (by decide) ?_
    exact mv_iret (pc := 234) B hr rfl d_Exprs_name_234 (Nat.le_refl _) (Nat.le_refl _) ⟨_, rfl, hF, hM, Or.inr rfl, hend⟩
  have j17 : ∀ (fl : Int32) , mv_V p l e ({ frames := 3, cells := 0, slots := 0, locals := 63 }) s m ([.ref (al 22)] : List Value).toArray below meth c (mg dA D al ext) 8 0 0 (mv_Q (mg dA D al ext) below s 0 0 (mv_Ri (fun v σ1 => RF 32 σ σ1 ∧ Mt (mv_a σ1 24) ∧ (v = 0 ∨ v = 1) ∧ (0 ≤ (mv_i σ1 3 9).toInt ∨ ∃ ms2 s2 a2, a < a2 ∧ XM 32 th e0 bs BL f0 g0 ns σ1 (ms2) (sm wt ms2 + v.toNatClampNeg) (sm wr ms2 + v.toNatClampNeg) (s2) ∧ TI σ1 sz bd ms2 s2 a2)))) σ 17 [(0, .ref (al 22))] [.int fl] := by
    intro fl
    refine mv_istore_n (pc := 17) B d_Exprs_name_17 rfl (by decide) rfl ?_
    refine mv_aload_n (pc := 18) B d_Exprs_name_18 rfl 1 rfl ?_
    refine mv_getR (pc := 19) (ci := 6) (C := R_Exprs) (T := F_Exprs) (N := 11) B 0 rfl rfl (by decide) i_Exprs (B.2.2.2.1 _ k_193) rfl (hR.1 _ 0 _ rfl) d_Exprs_name_19 ?_
    refine mv_iconst (pc := 22) (v := 3) B d_Exprs_name_22 (by decide) ?_
    refine mv_callVi (pc := 23) (n := 1) (ci := 2) (C := R_Tokens) B (mK_ok sk sv) hNs rfl rfl (c_Tokens_takeN l hi _ _ hR.1 (hB0.rf hF hP ht2).2.1 (by omega) (by omega) (by decide)) rfl (ma_goodc kc_Tokens_take) (B.2.2.2.1 _ k_1424) (B.2.2.2.1 _ k_1267) (B.2.2.2.1 _ k_1268) (B.2.2.2.1 _ k_3) ⟨by decide +kernel, by decide +kernel, by decide +kernel⟩ rfl d_Exprs_name_23 rfl (Nat.le_of_ble_eq_true rfl) ⟨by decide, by decide⟩ ⟨by decide, by decide⟩ ⟨by decide, by decide⟩ (mv_noH hno _) (fun v23 σ23 h23 => ?_)
    obtain ⟨a23, w23, e23, r23⟩ := h23
    have q23 := r23.1
    have z23 := fun q => (r23.2.1 q).1
    have y23 := And.intro r23.2.2.2.1 r23.2.2.2.2.1
    subst e23
    have hw23 := r23.2.2.1 hw9 hk3 trivial
    refine mv_gen (fun S26 eS26 => ?_)
    have hR : Rw 32 (mv_r S26) := by rw [eS26]; exact hR
    have hF : RF 32 σ S26 := by rw [eS26]; exact hF.tk3 _ _ _
    have hX : XM 32 th e0 bs BL f0 g0 ns S26 (ms) (sm wt ms) (sm wr ms) (s0) := by rw [eS26]; exact hX.tk3 hP _ _ _
    have t7 : (mv_i S26 3 7).toInt = a23.toInt := by rw [eS26]; rfl
    have t8 : (mv_i S26 3 8).toInt = (mv_i σ 3 8).toInt := by rw [eS26]; first | exact t8 | exact (sub_one (by omega)).trans (by omega) | exact (i32_inc (by omega)).trans (by omega)
    have t9 : (mv_i S26 3 9).toInt = w23.toInt := by rw [eS26]; rfl
    have kS26 : mv_a S26 4 = mv_a σ 4 := by rw [eS26]; first | rfl | exact kp
    have kp := kS26
    have sy := TkR.sym hB0.2.1 r23
    have s6 : mv_b S26 6 = mv_b σ 6 := by rw [eS26]; rfl
    obtain ⟨y9, ey9⟩ : ∃ y, y = mv_b S26 6 v23.toNatClampNeg := ⟨_, rfl⟩
    have sy : 0 ≤ y9.toInt ∧ y9.toInt < n := by rw [ey9, s6]; exact sy
    have hn16 := hB0.2.1.1.2.1
    have sy2 := l2i_nn (x := y9) sy.1 (by omega)
    have sy3 := i32_cl (x := y9.toInt32) (by omega)
    have e15 : mv_a S26 15 = mv_a σ 15 := by rw [eS26]; rfl
    have e14 : mv_a S26 14 = mv_a σ 14 := by rw [eS26]; rfl
    have nm9 := hB0.2.2.1 y9.toInt32.toNatClampNeg (by omega)
    rw [← e14, ← e15] at nm9
    obtain ⟨ix, eix⟩ : ∃ x, x = mv_a S26 15 y9.toInt32.toNatClampNeg := ⟨_, rfl⟩
    rw [← eix] at nm9
    have hTh := hB0.2.2.2
    have e33 : mv_a S26 35 = mv_a σ 35 := by rw [eS26]; rfl
    have ht64 := hTh.2.1
    have hsl := hTh.2.2.2.1
    clear eS26
    refine mv_istore_n (pc := 26) B d_Exprs_name_26 rfl (by decide) rfl ?_
    refine mv_aload_n (pc := 27) B d_Exprs_name_27 rfl 2 rfl ?_
    refine mv_getR (pc := 28) (ci := 6) (C := R_Exprs) (T := F_Exprs) (N := 11) B 0 rfl rfl (by decide) i_Exprs (B.2.2.2.1 _ k_193) rfl (hR.1 _ 0 _ rfl) d_Exprs_name_28 ?_
    refine mv_getR (pc := 31) (ci := 2) (C := R_Tokens) (T := F_Tokens) (N := 10) B 2 rfl rfl (by decide) i_Tokens (B.2.2.2.1 _ k_95) rfl (hR.1 _ 2 _ rfl) d_Exprs_name_31 ?_
    refine mv_iload_n (pc := 34) B d_Exprs_name_34 rfl 0 rfl ?_
    refine mv_lald (pc := 35) B rfl (i32_in y23.1 (by omega)) d_Exprs_name_35 ?_
    rw [← ey9]
    clear ey9
    refine mv_l2i (pc := 36) B d_Exprs_name_36 ?_
    refine mv_istore_n (pc := 37) B d_Exprs_name_37 rfl (by decide) rfl ?_
    refine mv_aload_n (pc := 38) B d_Exprs_name_38 rfl 3 rfl ?_
    refine mv_getR (pc := 39) (ci := 6) (C := R_Exprs) (T := F_Exprs) (N := 11) B 1 rfl rfl (by decide) i_Exprs (B.2.2.2.1 _ k_194) rfl (hR.1 _ 1 _ rfl) d_Exprs_name_39 ?_
    refine mv_iload_n (pc := 42) B d_Exprs_name_42 rfl 0 rfl ?_
    refine mv_callVi (pc := 43) (n := 1) (ci := 4) (C := R_Names) B (mK_ok sk sv) hNs rfl rfl (c_Names_kindOf l hi _ _ hR.1 n z (hB0.rf hF hP ht2).2.1.1 (by omega) (by omega)) rfl (ma_goodc kc_Names_kindOf) (B.2.2.2.1 _ k_1449) (B.2.2.2.1 _ k_1317) (B.2.2.2.1 _ k_1318) (B.2.2.2.1 _ k_5) ⟨by decide +kernel, by decide +kernel, by decide +kernel⟩ rfl d_Exprs_name_43 rfl (Nat.le_of_ble_eq_true rfl) ⟨by decide, by decide⟩ ⟨by decide, by decide⟩ ⟨by decide, by decide⟩ (mv_noH hno _) (fun v43 σ43 h43 => ?_)
    obtain ⟨e43, z43⟩ := h43
    have e43 := e43.symm
    subst e43
    refine mv_istore (pc := 46) B d_Exprs_name_46 (by decide) rfl ?_
    refine mv_aload_n (pc := 48) B d_Exprs_name_48 rfl 4 rfl ?_
    refine mv_getR (pc := 49) (ci := 6) (C := R_Exprs) (T := F_Exprs) (N := 11) B 1 rfl rfl (by decide) i_Exprs (B.2.2.2.1 _ k_194) rfl (hR.1 _ 1 _ rfl) d_Exprs_name_49 ?_
    refine mv_getR (pc := 52) (ci := 4) (C := R_Names) (T := F_Names) (N := 10) B 2 rfl rfl (by decide) i_Names (B.2.2.2.1 _ k_137) rfl (hR.1 _ 2 _ rfl) d_Exprs_name_52 ?_
    refine mv_iload_n (pc := 55) B d_Exprs_name_55 rfl 1 rfl ?_
    refine mv_iald (pc := 56) B rfl (i32_in (by omega) (by omega)) d_Exprs_name_56 ?_
    rw [← eix]
    clear eix
    refine mv_istore (pc := 57) B d_Exprs_name_57 (by decide) rfl ?_
    refine mv_iload (pc := 59) B d_Exprs_name_59 1 rfl ?_
    refine mv_iconst (pc := 61) (v := 2) B d_Exprs_name_61 (by decide) ?_
    refine mv_icmp_ne (pc := 62) (tgt := 99) B d_Exprs_name_62 rfl (fun h62 => ?_) (fun h62 => ?_)
    · skip
      refine mv_iload (pc := 99) B d_Exprs_name_99 1 rfl ?_
      refine mv_iconst (pc := 101) (v := 4) B d_Exprs_name_101 (by decide) ?_
      refine mv_icmp_ne (pc := 102) (tgt := 140) B d_Exprs_name_102 rfl (fun h102 => ?_) (fun h102 => ?_)
      · skip
        refine mv_iload (pc := 140) B d_Exprs_name_140 1 rfl ?_
        refine mv_iconst (pc := 142) (v := 3) B d_Exprs_name_142 (by decide) ?_
        refine mv_icmp_ne (pc := 143) (tgt := 177) B d_Exprs_name_143 rfl (fun h143 => ?_) (fun h143 => ?_)
        · skip
          refine mv_iload (pc := 177) B d_Exprs_name_177 1 rfl ?_
          refine mv_iconst (pc := 179) (v := 1) B d_Exprs_name_179 (by decide) ?_
          refine mv_icmp_ne (pc := 180) (tgt := 222) B d_Exprs_name_180 rfl (fun h180 => ?_) (fun h180 => ?_)
          · skip
            refine mv_aload_n (pc := 222) B d_Exprs_name_222 rfl 5 rfl ?_
            refine mv_iload_n (pc := 223) B d_Exprs_name_223 rfl 3 rfl ?_
            refine mv_iconst (pc := 224) (v := 2) B d_Exprs_name_224 (by decide) ?_
            refine mv_callVv (pc := 225) (n := 2) (ci := 6) (C := R_Exprs) B (mK_ok sk sv) hNs rfl rfl (c_Exprs_tell l hi _ _ _ hR.1 y23.1 (by omega) (by decide)) rfl (ma_goodc kc_Exprs_tell) (B.2.2.2.1 _ k_1427) (B.2.2.2.1 _ k_1429) (B.2.2.2.1 _ ks_50) (B.2.2.2.1 _ k_7) ⟨by decide +kernel, by decide +kernel, by decide +kernel⟩ rfl d_Exprs_name_225 rfl (Nat.le_of_ble_eq_true rfl) ⟨by decide, by decide⟩ ⟨by decide, by decide⟩ ⟨by decide, by decide⟩ (mv_noH hno _) (fun σ225 h225 => ?_)
            obtain ⟨x9, y9, e225, z225⟩ := h225
            subst e225
            refine mv_gen (fun S228 eS228 => ?_)
            have hR : Rw 32 (mv_r S228) := by rw [eS228]; exact hR
            have hF : RF 32 σ S228 := by rw [eS228]; exact hF.tell _ _
            have hX : XM 32 th e0 bs BL f0 g0 ns S228 (ms) (sm wt ms) (sm wr ms + 1) (s0) := by rw [eS228]; exact hX.tell hP z225 _ _
            have t7 := Eq.trans (congrArg Int32.toInt (show mv_i S228 3 7 = mv_i _ 3 7 by rw [eS228]; rfl)) t7
            have t8 := Eq.trans (congrArg Int32.toInt (show mv_i S228 3 8 = mv_i _ 3 8 by rw [eS228]; rfl)) t8
            have t9 := Eq.trans (congrArg Int32.toInt (show mv_i S228 3 9 = mv_i _ 3 9 by rw [eS228]; rfl)) t9
            have kp := Eq.trans (show mv_a S228 4 = mv_a _ 4 by rw [eS228]; rfl) kp
            clear eS228
            refine mv_aload_n (pc := 228) B d_Exprs_name_228 rfl 5 rfl ?_
            refine mv_iconst (pc := 229) (v := 0) B d_Exprs_name_229 (by decide) ?_
            refine mv_callVv (pc := 230) (n := 1) (ci := 6) (C := R_Exprs) B (mK_ok sk sv) hNs rfl rfl (c_Exprs_hold l hi _ _ hR.1 (by have := hX.1.2.2.1; omega) (by have := hX.1.2.2.1; omega)) rfl (ma_goodc kc_Exprs_hold) (B.2.2.2.1 _ k_1432) (B.2.2.2.1 _ k_1434) (B.2.2.2.1 _ ks_51) (B.2.2.2.1 _ k_7) ⟨by decide +kernel, by decide +kernel, by decide +kernel⟩ rfl d_Exprs_name_230 rfl (Nat.le_of_ble_eq_true rfl) ⟨by decide, by decide⟩ ⟨by decide, by decide⟩ ⟨by decide, by decide⟩ (mv_noH hno _) (fun σ230 h230 => ?_)
            subst h230
            refine mv_gen (fun S233 eS233 => ?_)
            have hR : Rw 32 (mv_r S233) := by rw [eS233]; exact hR
            have hF : RF 32 σ S233 := by rw [eS233]; exact hF.hold _
            have hX : XM 32 th e0 bs BL f0 g0 ns S233 (ms) (sm wt ms + 1) (sm wr ms + 1) (s0) := by rw [eS233]; exact hX.hold hP (by omega) _
            have t7 := Eq.trans (congrArg Int32.toInt (show mv_i S233 3 7 = mv_i _ 3 7 by rw [eS233]; rfl)) t7
            have t8 := Eq.trans (congrArg Int32.toInt (show mv_i S233 3 8 = mv_i _ 3 8 by rw [eS233]; rfl)) t8
            have t9 := Eq.trans (congrArg Int32.toInt (show mv_i S233 3 9 = mv_i _ 3 9 by rw [eS233]; rfl)) t9
            have kp := Eq.trans (show mv_a S233 4 = mv_a _ 4 by rw [eS233]; rfl) kp
            have hend : 0 ≤ (mv_i S233 3 9).toInt ∨ ∃ ms2 s2 a2, a < a2 ∧ XM 32 th e0 bs BL f0 g0 ns S233 (ms2) (sm wt ms2 + (1 : Int32).toNatClampNeg) (sm wr ms2 + (1 : Int32).toNatClampNeg) (s2) ∧ TI S233 sz bd ms2 s2 a2 := Or.inr ⟨ms, _, a + 1, by omega, hX, by omega, by omega, by omega, by omega, by omega, by omega, hWm.up (by omega)⟩
            clear eS233
            exact (j233 _ hF hX.1.2.2.2.1 hend)
          · skip
            have n1 := nm9.1 (Or.inl ((z43.resolve_left (fun q => by rw [q] at h180; exact absurd h180 (by decide))).symm.trans h180))
            have icl := i32_cl (x := ix) n1.1
            obtain ⟨c9, f9, hc9, hf9, hs1, hs2⟩ := hTh.2.2.2.2.2.2.1 ix.toNatClampNeg (by omega)
            have hf9 : (mv_a σ 35 ix.toNatClampNeg).toInt = f9 := hf9
            rw [← e33] at hf9
            refine mv_aload_n (pc := 183) B d_Exprs_name_183 rfl 5 rfl ?_
            refine mv_getR (pc := 184) (ci := 6) (C := R_Exprs) (T := F_Exprs) (N := 11) B 3 rfl rfl (by decide) i_Exprs (B.2.2.2.1 _ k_197) rfl hR.2.2.2 d_Exprs_name_184 ?_
            refine mv_sipush (pc := 187) (v := 303) B d_Exprs_name_187 (by decide) ?_
            refine mv_aload_n (pc := 190) B d_Exprs_name_190 rfl 5 rfl ?_
            refine mv_getR (pc := 191) (ci := 6) (C := R_Exprs) (T := F_Exprs) (N := 11) B 3 rfl rfl (by decide) i_Exprs (B.2.2.2.1 _ k_197) rfl hR.2.2.2 d_Exprs_name_191 ?_
            refine mv_getR (pc := 194) (ci := 7) (C := R_Program) (T := F_Program) (N := 19) B 4 rfl rfl (by decide) i_Program (B.2.2.2.1 _ k_328) rfl (hR.2.1 _ 4 35 rfl) d_Exprs_name_194 ?_
            refine mv_iload (pc := 197) B d_Exprs_name_197 0 rfl ?_
            refine mv_iald (pc := 199) B rfl (i32_in n1.1 (by omega)) d_Exprs_name_199 ?_
            refine mv_i2l (pc := 200) B d_Exprs_name_200 ?_
            refine mv_callVi (pc := 201) (n := 2) (ci := 7) (C := R_Program) B (mK_ok sk sv) hNs rfl rfl (c_Program_emit_a l hi _ _ _ hR.2.1 (by have := hX.2.1.1; omega) (by have := hX.2.1.1; omega)) rfl (ma_goodc kc_Program_emit) (B.2.2.2.1 _ k_1425) (B.2.2.2.1 _ k_1385) (B.2.2.2.1 _ k_1386) (B.2.2.2.1 _ k_8) ⟨by decide +kernel, by decide +kernel, by decide +kernel⟩ rfl d_Exprs_name_201 rfl (Nat.le_of_ble_eq_true rfl) ⟨by decide, by decide⟩ ⟨by decide, by decide⟩ ⟨by decide, by decide⟩ (mv_noH hno _) (fun v201 σ201 h201 => ?_)
            obtain ⟨e201, -⟩ := h201
            subst e201
            refine mv_gen (fun S204 eS204 => ?_)
            have hR : Rw 32 (mv_r S204) := by rw [eS204]; exact hR
            have hF : RF 32 σ S204 := by rw [eS204]; exact hF.emit _ _
            have hX : XM 32 th e0 bs BL f0 g0 ns S204 (ms) (sm wt ms) (sm wr ms + 1) (s0 + 1) := by rw [eS204]; exact hX.emit0 hP (by omega) (sm wr ms + 1) (by decide) (by decide) (Op1_reg th (by rw [lg_toInt, hf9]; omega) (bs + sm wr ms)) (by omega)
            have t7 := Eq.trans (congrArg Int32.toInt (show mv_i S204 3 7 = mv_i _ 3 7 by rw [eS204]; rfl)) t7
            have t8 := Eq.trans (congrArg Int32.toInt (show mv_i S204 3 8 = mv_i _ 3 8 by rw [eS204]; rfl)) t8
            have t9 := Eq.trans (congrArg Int32.toInt (show mv_i S204 3 9 = mv_i _ 3 9 by rw [eS204]; rfl)) t9
            have kp := Eq.trans (show mv_a S204 4 = mv_a _ 4 by rw [eS204]; rfl) kp
            clear eS204
            refine mv_pop (pc := 204) B d_Exprs_name_204 rfl ?_
            refine mv_aload_n (pc := 205) B d_Exprs_name_205 rfl 5 rfl ?_
            refine mv_aload_n (pc := 206) B d_Exprs_name_206 rfl 5 rfl ?_
            refine mv_getR (pc := 207) (ci := 6) (C := R_Exprs) (T := F_Exprs) (N := 11) B 3 rfl rfl (by decide) i_Exprs (B.2.2.2.1 _ k_197) rfl hR.2.2.2 d_Exprs_name_207 ?_
            refine mv_getR (pc := 210) (ci := 7) (C := R_Program) (T := F_Program) (N := 19) B 2 rfl rfl (by decide) i_Program (B.2.2.2.1 _ k_320) rfl (hR.2.1 _ 2 33 rfl) d_Exprs_name_210 ?_
            refine mv_iload (pc := 213) B d_Exprs_name_213 0 rfl ?_
            refine mv_iald (pc := 215) B rfl (i32_in n1.1 (by omega)) d_Exprs_name_215 ?_
            refine mv_callVv (pc := 216) (n := 1) (ci := 6) (C := R_Exprs) B (mK_ok sk sv) hNs rfl rfl (c_Exprs_hold l hi _ _ hR.1 (by have := hX.1.2.2.1; omega) (by have := hX.1.2.2.1; omega)) rfl (ma_goodc kc_Exprs_hold) (B.2.2.2.1 _ k_1432) (B.2.2.2.1 _ k_1434) (B.2.2.2.1 _ ks_51) (B.2.2.2.1 _ k_7) ⟨by decide +kernel, by decide +kernel, by decide +kernel⟩ rfl d_Exprs_name_216 rfl (Nat.le_of_ble_eq_true rfl) ⟨by decide, by decide⟩ ⟨by decide, by decide⟩ ⟨by decide, by decide⟩ (mv_noH hno _) (fun σ216 h216 => ?_)
            subst h216
            refine mv_gen (fun S219 eS219 => ?_)
            have hR : Rw 32 (mv_r S219) := by rw [eS219]; exact hR
            have hF : RF 32 σ S219 := by rw [eS219]; exact hF.hold _
            have hX : XM 32 th e0 bs BL f0 g0 ns S219 (ms) (sm wt ms + 1) (sm wr ms + 1) (s0 + 1) := by rw [eS219]; exact hX.hold hP (by omega) _
            have t7 := Eq.trans (congrArg Int32.toInt (show mv_i S219 3 7 = mv_i _ 3 7 by rw [eS219]; rfl)) t7
            have t8 := Eq.trans (congrArg Int32.toInt (show mv_i S219 3 8 = mv_i _ 3 8 by rw [eS219]; rfl)) t8
            have t9 := Eq.trans (congrArg Int32.toInt (show mv_i S219 3 9 = mv_i _ 3 9 by rw [eS219]; rfl)) t9
            have kp := Eq.trans (show mv_a S219 4 = mv_a _ 4 by rw [eS219]; rfl) kp
            have hend : 0 ≤ (mv_i S219 3 9).toInt ∨ ∃ ms2 s2 a2, a < a2 ∧ XM 32 th e0 bs BL f0 g0 ns S219 (ms2) (sm wt ms2 + (1 : Int32).toNatClampNeg) (sm wr ms2 + (1 : Int32).toNatClampNeg) (s2) ∧ TI S219 sz bd ms2 s2 a2 := Or.inr ⟨ms, _, a + 1, by omega, hX, by omega, by omega, by omega, by omega, by omega, by omega, hWm.up (by omega)⟩
            clear eS219
            refine mv_goto (pc := 219) (tgt := 233) B d_Exprs_name_219 rfl ?_
            exact (j233 _ hF hX.1.2.2.2.1 hend)
        · skip
          have n3 := nm9.2 ((z43.resolve_left (fun q => by rw [q] at h143; exact absurd h143 (by decide))).symm.trans h143)
          refine mv_aload_n (pc := 146) B d_Exprs_name_146 rfl 5 rfl ?_
          refine mv_getR (pc := 147) (ci := 6) (C := R_Exprs) (T := F_Exprs) (N := 11) B 3 rfl rfl (by decide) i_Exprs (B.2.2.2.1 _ k_197) rfl hR.2.2.2 d_Exprs_name_147 ?_
          refine mv_sipush (pc := 150) (v := 302) B d_Exprs_name_150 (by decide) ?_
          refine mv_iload (pc := 153) B d_Exprs_name_153 0 rfl ?_
          refine mv_i2l (pc := 155) B d_Exprs_name_155 ?_
          refine mv_callVi (pc := 156) (n := 2) (ci := 7) (C := R_Program) B (mK_ok sk sv) hNs rfl rfl (c_Program_emit_a l hi _ _ _ hR.2.1 (by have := hX.2.1.1; omega) (by have := hX.2.1.1; omega)) rfl (ma_goodc kc_Program_emit) (B.2.2.2.1 _ k_1425) (B.2.2.2.1 _ k_1385) (B.2.2.2.1 _ k_1386) (B.2.2.2.1 _ k_8) ⟨by decide +kernel, by decide +kernel, by decide +kernel⟩ rfl d_Exprs_name_156 rfl (Nat.le_of_ble_eq_true rfl) ⟨by decide, by decide⟩ ⟨by decide, by decide⟩ ⟨by decide, by decide⟩ (mv_noH hno _) (fun v156 σ156 h156 => ?_)
          obtain ⟨e156, -⟩ := h156
          subst e156
          refine mv_gen (fun S159 eS159 => ?_)
          have hR : Rw 32 (mv_r S159) := by rw [eS159]; exact hR
          have hF : RF 32 σ S159 := by rw [eS159]; exact hF.emit _ _
          have hX : XM 32 th e0 bs BL f0 g0 ns S159 (ms) (sm wt ms) (sm wr ms + 1) (s0 + 1) := by rw [eS159]; exact hX.emit0 hP (by omega) (sm wr ms + 1) (by decide) (by decide) (Op1_let th (by rw [lg_toInt]; exact n3) (bs + sm wr ms)) (by omega)
          have t7 := Eq.trans (congrArg Int32.toInt (show mv_i S159 3 7 = mv_i _ 3 7 by rw [eS159]; rfl)) t7
          have t8 := Eq.trans (congrArg Int32.toInt (show mv_i S159 3 8 = mv_i _ 3 8 by rw [eS159]; rfl)) t8
          have t9 := Eq.trans (congrArg Int32.toInt (show mv_i S159 3 9 = mv_i _ 3 9 by rw [eS159]; rfl)) t9
          have kp := Eq.trans (show mv_a S159 4 = mv_a _ 4 by rw [eS159]; rfl) kp
          clear eS159
          refine mv_pop (pc := 159) B d_Exprs_name_159 rfl ?_
          refine mv_aload_n (pc := 160) B d_Exprs_name_160 rfl 5 rfl ?_
          refine mv_aload_n (pc := 161) B d_Exprs_name_161 rfl 5 rfl ?_
          refine mv_getR (pc := 162) (ci := 6) (C := R_Exprs) (T := F_Exprs) (N := 11) B 1 rfl rfl (by decide) i_Exprs (B.2.2.2.1 _ k_194) rfl (hR.1 _ 1 _ rfl) d_Exprs_name_162 ?_
          refine mv_getR (pc := 165) (ci := 4) (C := R_Names) (T := F_Names) (N := 10) B 8 rfl rfl (by decide) i_Names (B.2.2.2.1 _ k_147) rfl (hR.1 _ 8 _ rfl) d_Exprs_name_165 ?_
          refine mv_iload (pc := 168) B d_Exprs_name_168 0 rfl ?_
          refine mv_iald (pc := 170) B rfl (i32_in n3.1 n3.2) d_Exprs_name_170 ?_
          refine mv_callVv (pc := 171) (n := 1) (ci := 6) (C := R_Exprs) B (mK_ok sk sv) hNs rfl rfl (c_Exprs_hold l hi _ _ hR.1 (by have := hX.1.2.2.1; omega) (by have := hX.1.2.2.1; omega)) rfl (ma_goodc kc_Exprs_hold) (B.2.2.2.1 _ k_1432) (B.2.2.2.1 _ k_1434) (B.2.2.2.1 _ ks_51) (B.2.2.2.1 _ k_7) ⟨by decide +kernel, by decide +kernel, by decide +kernel⟩ rfl d_Exprs_name_171 rfl (Nat.le_of_ble_eq_true rfl) ⟨by decide, by decide⟩ ⟨by decide, by decide⟩ ⟨by decide, by decide⟩ (mv_noH hno _) (fun σ171 h171 => ?_)
          subst h171
          refine mv_gen (fun S174 eS174 => ?_)
          have hR : Rw 32 (mv_r S174) := by rw [eS174]; exact hR
          have hF : RF 32 σ S174 := by rw [eS174]; exact hF.hold _
          have hX : XM 32 th e0 bs BL f0 g0 ns S174 (ms) (sm wt ms + 1) (sm wr ms + 1) (s0 + 1) := by rw [eS174]; exact hX.hold hP (by omega) _
          have t7 := Eq.trans (congrArg Int32.toInt (show mv_i S174 3 7 = mv_i _ 3 7 by rw [eS174]; rfl)) t7
          have t8 := Eq.trans (congrArg Int32.toInt (show mv_i S174 3 8 = mv_i _ 3 8 by rw [eS174]; rfl)) t8
          have t9 := Eq.trans (congrArg Int32.toInt (show mv_i S174 3 9 = mv_i _ 3 9 by rw [eS174]; rfl)) t9
          have kp := Eq.trans (show mv_a S174 4 = mv_a _ 4 by rw [eS174]; rfl) kp
          have hend : 0 ≤ (mv_i S174 3 9).toInt ∨ ∃ ms2 s2 a2, a < a2 ∧ XM 32 th e0 bs BL f0 g0 ns S174 (ms2) (sm wt ms2 + (1 : Int32).toNatClampNeg) (sm wr ms2 + (1 : Int32).toNatClampNeg) (s2) ∧ TI S174 sz bd ms2 s2 a2 := Or.inr ⟨ms, _, a + 1, by omega, hX, by omega, by omega, by omega, by omega, by omega, by omega, hWm.up (by omega)⟩
          clear eS174
          refine mv_goto (pc := 174) (tgt := 233) B d_Exprs_name_174 rfl ?_
          exact (j233 _ hF hX.1.2.2.2.1 hend)
      · skip
        refine mv_aload_n (pc := 105) B d_Exprs_name_105 rfl 5 rfl ?_
        refine mv_getR (pc := 106) (ci := 6) (C := R_Exprs) (T := F_Exprs) (N := 11) B 1 rfl rfl (by decide) i_Exprs (B.2.2.2.1 _ k_194) rfl (hR.1 _ 1 _ rfl) d_Exprs_name_106 ?_
        refine mv_iload_n (pc := 109) B d_Exprs_name_109 rfl 2 rfl ?_
        refine mv_callVl (pc := 110) (n := 1) (ci := 4) (C := R_Names) B (mK_ok sk sv) hNs rfl rfl (c_Names_maskOf l hi _ _ hR.1 n z (hB0.rf hF hP ht2).2.1.1 (by omega) (by omega)) rfl (ma_goodc kc_Names_maskOf) (B.2.2.2.1 _ k_1450) (B.2.2.2.1 _ k_1451) (B.2.2.2.1 _ k_1452) (B.2.2.2.1 _ k_5) ⟨by decide +kernel, by decide +kernel, by decide +kernel⟩ rfl d_Exprs_name_110 rfl (Nat.le_of_ble_eq_true rfl) ⟨by decide, by decide⟩ ⟨by decide, by decide⟩ ⟨by decide, by decide⟩ (mv_noH hno _) (fun v110 σ110 h110 => ?_)
        have h110 := h110.symm
        subst h110
        refine mv_lstore (pc := 113) B d_Exprs_name_113 (by decide) rfl ?_
        refine mv_aload_n (pc := 115) B d_Exprs_name_115 rfl 6 rfl ?_
        refine mv_getR (pc := 116) (ci := 6) (C := R_Exprs) (T := F_Exprs) (N := 11) B 3 rfl rfl (by decide) i_Exprs (B.2.2.2.1 _ k_197) rfl hR.2.2.2 d_Exprs_name_116 ?_
        refine mv_sipush (pc := 119) (v := 301) B d_Exprs_name_119 (by decide) ?_
        refine mv_lload (pc := 122) B d_Exprs_name_122 0 rfl ?_
        refine mv_callVi (pc := 124) (n := 2) (ci := 7) (C := R_Program) B (mK_ok sk sv) hNs rfl rfl (c_Program_emit_a l hi _ _ _ hR.2.1 (by have := hX.2.1.1; omega) (by have := hX.2.1.1; omega)) rfl (ma_goodc kc_Program_emit) (B.2.2.2.1 _ k_1425) (B.2.2.2.1 _ k_1385) (B.2.2.2.1 _ k_1386) (B.2.2.2.1 _ k_8) ⟨by decide +kernel, by decide +kernel, by decide +kernel⟩ rfl d_Exprs_name_124 rfl (Nat.le_of_ble_eq_true rfl) ⟨by decide, by decide⟩ ⟨by decide, by decide⟩ ⟨by decide, by decide⟩ (mv_noH hno _) (fun v124 σ124 h124 => ?_)
        obtain ⟨e124, -⟩ := h124
        subst e124
        refine mv_gen (fun S127 eS127 => ?_)
        have hR : Rw 32 (mv_r S127) := by rw [eS127]; exact hR
        have hF : RF 32 σ S127 := by rw [eS127]; exact hF.emit _ _
        have hX : XM 32 th e0 bs BL f0 g0 ns S127 (ms) (sm wt ms) (sm wr ms + 1) (s0 + 1) := by rw [eS127]; exact hX.emit0 hP (by omega) (sm wr ms + 1) (by decide) (by decide) (Op1_lit (Or.inr rfl) th _ (bs + sm wr ms)) (by omega)
        have t7 := Eq.trans (congrArg Int32.toInt (show mv_i S127 3 7 = mv_i _ 3 7 by rw [eS127]; rfl)) t7
        have t8 := Eq.trans (congrArg Int32.toInt (show mv_i S127 3 8 = mv_i _ 3 8 by rw [eS127]; rfl)) t8
        have t9 := Eq.trans (congrArg Int32.toInt (show mv_i S127 3 9 = mv_i _ 3 9 by rw [eS127]; rfl)) t9
        have kp := Eq.trans (show mv_a S127 4 = mv_a _ 4 by rw [eS127]; rfl) kp
        clear eS127
        refine mv_pop (pc := 127) B d_Exprs_name_127 rfl ?_
        refine mv_aload_n (pc := 128) B d_Exprs_name_128 rfl 6 rfl ?_
        refine mv_lload (pc := 129) B d_Exprs_name_129 0 rfl ?_
        refine mv_callSi (pc := 131) (n := 1) B (mK_ok sk sv) hNs (c_Long_bitCount l hi _ _) rfl (ma_goodc kc_Long_bitCount) (B.2.2.2.1 _ k_1454) (B.2.2.2.1 _ k_424) (B.2.2.2.1 _ k_10) ⟨by decide +kernel, by decide +kernel, by decide +kernel⟩ rfl d_Exprs_name_131 rfl (Nat.le_of_ble_eq_true rfl) ⟨by decide, by decide⟩ ⟨by decide, by decide⟩ ⟨by decide, by decide⟩ (mv_noH hno _) (fun v131 σ131 h131 => ?_)
        have h131 := h131.symm
        subst h131
        refine mv_callVv (pc := 134) (n := 1) (ci := 6) (C := R_Exprs) B (mK_ok sk sv) hNs rfl rfl (c_Exprs_hold l hi _ _ hR.1 (by have := hX.1.2.2.1; omega) (by have := hX.1.2.2.1; omega)) rfl (ma_goodc kc_Exprs_hold) (B.2.2.2.1 _ k_1432) (B.2.2.2.1 _ k_1434) (B.2.2.2.1 _ ks_51) (B.2.2.2.1 _ k_7) ⟨by decide +kernel, by decide +kernel, by decide +kernel⟩ rfl d_Exprs_name_134 rfl (Nat.le_of_ble_eq_true rfl) ⟨by decide, by decide⟩ ⟨by decide, by decide⟩ ⟨by decide, by decide⟩ (mv_noH hno _) (fun σ134 h134 => ?_)
        subst h134
        refine mv_gen (fun S137 eS137 => ?_)
        have hR : Rw 32 (mv_r S137) := by rw [eS137]; exact hR
        have hF : RF 32 σ S137 := by rw [eS137]; exact hF.hold _
        have hX : XM 32 th e0 bs BL f0 g0 ns S137 (ms) (sm wt ms + 1) (sm wr ms + 1) (s0 + 1) := by rw [eS137]; exact hX.hold hP (by omega) _
        have t7 := Eq.trans (congrArg Int32.toInt (show mv_i S137 3 7 = mv_i _ 3 7 by rw [eS137]; rfl)) t7
        have t8 := Eq.trans (congrArg Int32.toInt (show mv_i S137 3 8 = mv_i _ 3 8 by rw [eS137]; rfl)) t8
        have t9 := Eq.trans (congrArg Int32.toInt (show mv_i S137 3 9 = mv_i _ 3 9 by rw [eS137]; rfl)) t9
        have kp := Eq.trans (show mv_a S137 4 = mv_a _ 4 by rw [eS137]; rfl) kp
        have hend : 0 ≤ (mv_i S137 3 9).toInt ∨ ∃ ms2 s2 a2, a < a2 ∧ XM 32 th e0 bs BL f0 g0 ns S137 (ms2) (sm wt ms2 + (1 : Int32).toNatClampNeg) (sm wr ms2 + (1 : Int32).toNatClampNeg) (s2) ∧ TI S137 sz bd ms2 s2 a2 := Or.inr ⟨ms, _, a + 1, by omega, hX, by omega, by omega, by omega, by omega, by omega, by omega, hWm.up (by omega)⟩
        clear eS137
        refine mv_goto (pc := 137) (tgt := 233) B d_Exprs_name_137 rfl ?_
        exact (j233 _ hF hX.1.2.2.2.1 hend)
    · skip
      refine mv_iload_n (pc := 65) B d_Exprs_name_65 rfl 4 rfl ?_
      refine mv_if_eq (pc := 66) (tgt := 99) B d_Exprs_name_66 rfl (fun h66 => ?_) (fun h66 => ?_)
      · skip
        refine mv_iload (pc := 99) B d_Exprs_name_99 1 rfl ?_
        refine mv_iconst (pc := 101) (v := 4) B d_Exprs_name_101 (by decide) ?_
        refine mv_icmp_ne (pc := 102) (tgt := 140) B d_Exprs_name_102 rfl (fun h102 => ?_) (fun h102 => ?_)
        · skip
          refine mv_iload (pc := 140) B d_Exprs_name_140 1 rfl ?_
          refine mv_iconst (pc := 142) (v := 3) B d_Exprs_name_142 (by decide) ?_
          refine mv_icmp_ne (pc := 143) (tgt := 177) B d_Exprs_name_143 rfl (fun h143 => ?_) (fun h143 => ?_)
          · skip
            refine mv_iload (pc := 177) B d_Exprs_name_177 1 rfl ?_
            refine mv_iconst (pc := 179) (v := 1) B d_Exprs_name_179 (by decide) ?_
            refine mv_icmp_ne (pc := 180) (tgt := 222) B d_Exprs_name_180 rfl (fun h180 => ?_) (fun h180 => ?_)
            · skip
              refine mv_aload_n (pc := 222) B d_Exprs_name_222 rfl 5 rfl ?_
              refine mv_iload_n (pc := 223) B d_Exprs_name_223 rfl 3 rfl ?_
              refine mv_iconst (pc := 224) (v := 2) B d_Exprs_name_224 (by decide) ?_
              refine mv_callVv (pc := 225) (n := 2) (ci := 6) (C := R_Exprs) B (mK_ok sk sv) hNs rfl rfl (c_Exprs_tell l hi _ _ _ hR.1 y23.1 (by omega) (by decide)) rfl (ma_goodc kc_Exprs_tell) (B.2.2.2.1 _ k_1427) (B.2.2.2.1 _ k_1429) (B.2.2.2.1 _ ks_50) (B.2.2.2.1 _ k_7) ⟨by decide +kernel, by decide +kernel, by decide +kernel⟩ rfl d_Exprs_name_225 rfl (Nat.le_of_ble_eq_true rfl) ⟨by decide, by decide⟩ ⟨by decide, by decide⟩ ⟨by decide, by decide⟩ (mv_noH hno _) (fun σ225 h225 => ?_)
              obtain ⟨x9, y9, e225, z225⟩ := h225
              subst e225
              refine mv_gen (fun S228 eS228 => ?_)
              have hR : Rw 32 (mv_r S228) := by rw [eS228]; exact hR
              have hF : RF 32 σ S228 := by rw [eS228]; exact hF.tell _ _
              have hX : XM 32 th e0 bs BL f0 g0 ns S228 (ms) (sm wt ms) (sm wr ms + 1) (s0) := by rw [eS228]; exact hX.tell hP z225 _ _
              have t7 := Eq.trans (congrArg Int32.toInt (show mv_i S228 3 7 = mv_i _ 3 7 by rw [eS228]; rfl)) t7
              have t8 := Eq.trans (congrArg Int32.toInt (show mv_i S228 3 8 = mv_i _ 3 8 by rw [eS228]; rfl)) t8
              have t9 := Eq.trans (congrArg Int32.toInt (show mv_i S228 3 9 = mv_i _ 3 9 by rw [eS228]; rfl)) t9
              have kp := Eq.trans (show mv_a S228 4 = mv_a _ 4 by rw [eS228]; rfl) kp
              clear eS228
              refine mv_aload_n (pc := 228) B d_Exprs_name_228 rfl 5 rfl ?_
              refine mv_iconst (pc := 229) (v := 0) B d_Exprs_name_229 (by decide) ?_
              refine mv_callVv (pc := 230) (n := 1) (ci := 6) (C := R_Exprs) B (mK_ok sk sv) hNs rfl rfl (c_Exprs_hold l hi _ _ hR.1 (by have := hX.1.2.2.1; omega) (by have := hX.1.2.2.1; omega)) rfl (ma_goodc kc_Exprs_hold) (B.2.2.2.1 _ k_1432) (B.2.2.2.1 _ k_1434) (B.2.2.2.1 _ ks_51) (B.2.2.2.1 _ k_7) ⟨by decide +kernel, by decide +kernel, by decide +kernel⟩ rfl d_Exprs_name_230 rfl (Nat.le_of_ble_eq_true rfl) ⟨by decide, by decide⟩ ⟨by decide, by decide⟩ ⟨by decide, by decide⟩ (mv_noH hno _) (fun σ230 h230 => ?_)
              subst h230
              refine mv_gen (fun S233 eS233 => ?_)
              have hR : Rw 32 (mv_r S233) := by rw [eS233]; exact hR
              have hF : RF 32 σ S233 := by rw [eS233]; exact hF.hold _
              have hX : XM 32 th e0 bs BL f0 g0 ns S233 (ms) (sm wt ms + 1) (sm wr ms + 1) (s0) := by rw [eS233]; exact hX.hold hP (by omega) _
              have t7 := Eq.trans (congrArg Int32.toInt (show mv_i S233 3 7 = mv_i _ 3 7 by rw [eS233]; rfl)) t7
              have t8 := Eq.trans (congrArg Int32.toInt (show mv_i S233 3 8 = mv_i _ 3 8 by rw [eS233]; rfl)) t8
              have t9 := Eq.trans (congrArg Int32.toInt (show mv_i S233 3 9 = mv_i _ 3 9 by rw [eS233]; rfl)) t9
              have kp := Eq.trans (show mv_a S233 4 = mv_a _ 4 by rw [eS233]; rfl) kp
              have hend : 0 ≤ (mv_i S233 3 9).toInt ∨ ∃ ms2 s2 a2, a < a2 ∧ XM 32 th e0 bs BL f0 g0 ns S233 (ms2) (sm wt ms2 + (1 : Int32).toNatClampNeg) (sm wr ms2 + (1 : Int32).toNatClampNeg) (s2) ∧ TI S233 sz bd ms2 s2 a2 := Or.inr ⟨ms, _, a + 1, by omega, hX, by omega, by omega, by omega, by omega, by omega, by omega, hWm.up (by omega)⟩
              clear eS233
              exact (j233 _ hF hX.1.2.2.2.1 hend)
            · skip
              have n1 := nm9.1 (Or.inl ((z43.resolve_left (fun q => by rw [q] at h180; exact absurd h180 (by decide))).symm.trans h180))
              have icl := i32_cl (x := ix) n1.1
              obtain ⟨c9, f9, hc9, hf9, hs1, hs2⟩ := hTh.2.2.2.2.2.2.1 ix.toNatClampNeg (by omega)
              have hf9 : (mv_a σ 35 ix.toNatClampNeg).toInt = f9 := hf9
              rw [← e33] at hf9
              refine mv_aload_n (pc := 183) B d_Exprs_name_183 rfl 5 rfl ?_
              refine mv_getR (pc := 184) (ci := 6) (C := R_Exprs) (T := F_Exprs) (N := 11) B 3 rfl rfl (by decide) i_Exprs (B.2.2.2.1 _ k_197) rfl hR.2.2.2 d_Exprs_name_184 ?_
              refine mv_sipush (pc := 187) (v := 303) B d_Exprs_name_187 (by decide) ?_
              refine mv_aload_n (pc := 190) B d_Exprs_name_190 rfl 5 rfl ?_
              refine mv_getR (pc := 191) (ci := 6) (C := R_Exprs) (T := F_Exprs) (N := 11) B 3 rfl rfl (by decide) i_Exprs (B.2.2.2.1 _ k_197) rfl hR.2.2.2 d_Exprs_name_191 ?_
              refine mv_getR (pc := 194) (ci := 7) (C := R_Program) (T := F_Program) (N := 19) B 4 rfl rfl (by decide) i_Program (B.2.2.2.1 _ k_328) rfl (hR.2.1 _ 4 35 rfl) d_Exprs_name_194 ?_
              refine mv_iload (pc := 197) B d_Exprs_name_197 0 rfl ?_
              refine mv_iald (pc := 199) B rfl (i32_in n1.1 (by omega)) d_Exprs_name_199 ?_
              refine mv_i2l (pc := 200) B d_Exprs_name_200 ?_
              refine mv_callVi (pc := 201) (n := 2) (ci := 7) (C := R_Program) B (mK_ok sk sv) hNs rfl rfl (c_Program_emit_a l hi _ _ _ hR.2.1 (by have := hX.2.1.1; omega) (by have := hX.2.1.1; omega)) rfl (ma_goodc kc_Program_emit) (B.2.2.2.1 _ k_1425) (B.2.2.2.1 _ k_1385) (B.2.2.2.1 _ k_1386) (B.2.2.2.1 _ k_8) ⟨by decide +kernel, by decide +kernel, by decide +kernel⟩ rfl d_Exprs_name_201 rfl (Nat.le_of_ble_eq_true rfl) ⟨by decide, by decide⟩ ⟨by decide, by decide⟩ ⟨by decide, by decide⟩ (mv_noH hno _) (fun v201 σ201 h201 => ?_)
              obtain ⟨e201, -⟩ := h201
              subst e201
              refine mv_gen (fun S204 eS204 => ?_)
              have hR : Rw 32 (mv_r S204) := by rw [eS204]; exact hR
              have hF : RF 32 σ S204 := by rw [eS204]; exact hF.emit _ _
              have hX : XM 32 th e0 bs BL f0 g0 ns S204 (ms) (sm wt ms) (sm wr ms + 1) (s0 + 1) := by rw [eS204]; exact hX.emit0 hP (by omega) (sm wr ms + 1) (by decide) (by decide) (Op1_reg th (by rw [lg_toInt, hf9]; omega) (bs + sm wr ms)) (by omega)
              have t7 := Eq.trans (congrArg Int32.toInt (show mv_i S204 3 7 = mv_i _ 3 7 by rw [eS204]; rfl)) t7
              have t8 := Eq.trans (congrArg Int32.toInt (show mv_i S204 3 8 = mv_i _ 3 8 by rw [eS204]; rfl)) t8
              have t9 := Eq.trans (congrArg Int32.toInt (show mv_i S204 3 9 = mv_i _ 3 9 by rw [eS204]; rfl)) t9
              have kp := Eq.trans (show mv_a S204 4 = mv_a _ 4 by rw [eS204]; rfl) kp
              clear eS204
              refine mv_pop (pc := 204) B d_Exprs_name_204 rfl ?_
              refine mv_aload_n (pc := 205) B d_Exprs_name_205 rfl 5 rfl ?_
              refine mv_aload_n (pc := 206) B d_Exprs_name_206 rfl 5 rfl ?_
              refine mv_getR (pc := 207) (ci := 6) (C := R_Exprs) (T := F_Exprs) (N := 11) B 3 rfl rfl (by decide) i_Exprs (B.2.2.2.1 _ k_197) rfl hR.2.2.2 d_Exprs_name_207 ?_
              refine mv_getR (pc := 210) (ci := 7) (C := R_Program) (T := F_Program) (N := 19) B 2 rfl rfl (by decide) i_Program (B.2.2.2.1 _ k_320) rfl (hR.2.1 _ 2 33 rfl) d_Exprs_name_210 ?_
              refine mv_iload (pc := 213) B d_Exprs_name_213 0 rfl ?_
              refine mv_iald (pc := 215) B rfl (i32_in n1.1 (by omega)) d_Exprs_name_215 ?_
              refine mv_callVv (pc := 216) (n := 1) (ci := 6) (C := R_Exprs) B (mK_ok sk sv) hNs rfl rfl (c_Exprs_hold l hi _ _ hR.1 (by have := hX.1.2.2.1; omega) (by have := hX.1.2.2.1; omega)) rfl (ma_goodc kc_Exprs_hold) (B.2.2.2.1 _ k_1432) (B.2.2.2.1 _ k_1434) (B.2.2.2.1 _ ks_51) (B.2.2.2.1 _ k_7) ⟨by decide +kernel, by decide +kernel, by decide +kernel⟩ rfl d_Exprs_name_216 rfl (Nat.le_of_ble_eq_true rfl) ⟨by decide, by decide⟩ ⟨by decide, by decide⟩ ⟨by decide, by decide⟩ (mv_noH hno _) (fun σ216 h216 => ?_)
              subst h216
              refine mv_gen (fun S219 eS219 => ?_)
              have hR : Rw 32 (mv_r S219) := by rw [eS219]; exact hR
              have hF : RF 32 σ S219 := by rw [eS219]; exact hF.hold _
              have hX : XM 32 th e0 bs BL f0 g0 ns S219 (ms) (sm wt ms + 1) (sm wr ms + 1) (s0 + 1) := by rw [eS219]; exact hX.hold hP (by omega) _
              have t7 := Eq.trans (congrArg Int32.toInt (show mv_i S219 3 7 = mv_i _ 3 7 by rw [eS219]; rfl)) t7
              have t8 := Eq.trans (congrArg Int32.toInt (show mv_i S219 3 8 = mv_i _ 3 8 by rw [eS219]; rfl)) t8
              have t9 := Eq.trans (congrArg Int32.toInt (show mv_i S219 3 9 = mv_i _ 3 9 by rw [eS219]; rfl)) t9
              have kp := Eq.trans (show mv_a S219 4 = mv_a _ 4 by rw [eS219]; rfl) kp
              have hend : 0 ≤ (mv_i S219 3 9).toInt ∨ ∃ ms2 s2 a2, a < a2 ∧ XM 32 th e0 bs BL f0 g0 ns S219 (ms2) (sm wt ms2 + (1 : Int32).toNatClampNeg) (sm wr ms2 + (1 : Int32).toNatClampNeg) (s2) ∧ TI S219 sz bd ms2 s2 a2 := Or.inr ⟨ms, _, a + 1, by omega, hX, by omega, by omega, by omega, by omega, by omega, by omega, hWm.up (by omega)⟩
              clear eS219
              refine mv_goto (pc := 219) (tgt := 233) B d_Exprs_name_219 rfl ?_
              exact (j233 _ hF hX.1.2.2.2.1 hend)
          · skip
            have n3 := nm9.2 ((z43.resolve_left (fun q => by rw [q] at h143; exact absurd h143 (by decide))).symm.trans h143)
            refine mv_aload_n (pc := 146) B d_Exprs_name_146 rfl 5 rfl ?_
            refine mv_getR (pc := 147) (ci := 6) (C := R_Exprs) (T := F_Exprs) (N := 11) B 3 rfl rfl (by decide) i_Exprs (B.2.2.2.1 _ k_197) rfl hR.2.2.2 d_Exprs_name_147 ?_
            refine mv_sipush (pc := 150) (v := 302) B d_Exprs_name_150 (by decide) ?_
            refine mv_iload (pc := 153) B d_Exprs_name_153 0 rfl ?_
            refine mv_i2l (pc := 155) B d_Exprs_name_155 ?_
            refine mv_callVi (pc := 156) (n := 2) (ci := 7) (C := R_Program) B (mK_ok sk sv) hNs rfl rfl (c_Program_emit_a l hi _ _ _ hR.2.1 (by have := hX.2.1.1; omega) (by have := hX.2.1.1; omega)) rfl (ma_goodc kc_Program_emit) (B.2.2.2.1 _ k_1425) (B.2.2.2.1 _ k_1385) (B.2.2.2.1 _ k_1386) (B.2.2.2.1 _ k_8) ⟨by decide +kernel, by decide +kernel, by decide +kernel⟩ rfl d_Exprs_name_156 rfl (Nat.le_of_ble_eq_true rfl) ⟨by decide, by decide⟩ ⟨by decide, by decide⟩ ⟨by decide, by decide⟩ (mv_noH hno _) (fun v156 σ156 h156 => ?_)
            obtain ⟨e156, -⟩ := h156
            subst e156
            refine mv_gen (fun S159 eS159 => ?_)
            have hR : Rw 32 (mv_r S159) := by rw [eS159]; exact hR
            have hF : RF 32 σ S159 := by rw [eS159]; exact hF.emit _ _
            have hX : XM 32 th e0 bs BL f0 g0 ns S159 (ms) (sm wt ms) (sm wr ms + 1) (s0 + 1) := by rw [eS159]; exact hX.emit0 hP (by omega) (sm wr ms + 1) (by decide) (by decide) (Op1_let th (by rw [lg_toInt]; exact n3) (bs + sm wr ms)) (by omega)
            have t7 := Eq.trans (congrArg Int32.toInt (show mv_i S159 3 7 = mv_i _ 3 7 by rw [eS159]; rfl)) t7
            have t8 := Eq.trans (congrArg Int32.toInt (show mv_i S159 3 8 = mv_i _ 3 8 by rw [eS159]; rfl)) t8
            have t9 := Eq.trans (congrArg Int32.toInt (show mv_i S159 3 9 = mv_i _ 3 9 by rw [eS159]; rfl)) t9
            have kp := Eq.trans (show mv_a S159 4 = mv_a _ 4 by rw [eS159]; rfl) kp
            clear eS159
            refine mv_pop (pc := 159) B d_Exprs_name_159 rfl ?_
            refine mv_aload_n (pc := 160) B d_Exprs_name_160 rfl 5 rfl ?_
            refine mv_aload_n (pc := 161) B d_Exprs_name_161 rfl 5 rfl ?_
            refine mv_getR (pc := 162) (ci := 6) (C := R_Exprs) (T := F_Exprs) (N := 11) B 1 rfl rfl (by decide) i_Exprs (B.2.2.2.1 _ k_194) rfl (hR.1 _ 1 _ rfl) d_Exprs_name_162 ?_
            refine mv_getR (pc := 165) (ci := 4) (C := R_Names) (T := F_Names) (N := 10) B 8 rfl rfl (by decide) i_Names (B.2.2.2.1 _ k_147) rfl (hR.1 _ 8 _ rfl) d_Exprs_name_165 ?_
            refine mv_iload (pc := 168) B d_Exprs_name_168 0 rfl ?_
            refine mv_iald (pc := 170) B rfl (i32_in n3.1 n3.2) d_Exprs_name_170 ?_
            refine mv_callVv (pc := 171) (n := 1) (ci := 6) (C := R_Exprs) B (mK_ok sk sv) hNs rfl rfl (c_Exprs_hold l hi _ _ hR.1 (by have := hX.1.2.2.1; omega) (by have := hX.1.2.2.1; omega)) rfl (ma_goodc kc_Exprs_hold) (B.2.2.2.1 _ k_1432) (B.2.2.2.1 _ k_1434) (B.2.2.2.1 _ ks_51) (B.2.2.2.1 _ k_7) ⟨by decide +kernel, by decide +kernel, by decide +kernel⟩ rfl d_Exprs_name_171 rfl (Nat.le_of_ble_eq_true rfl) ⟨by decide, by decide⟩ ⟨by decide, by decide⟩ ⟨by decide, by decide⟩ (mv_noH hno _) (fun σ171 h171 => ?_)
            subst h171
            refine mv_gen (fun S174 eS174 => ?_)
            have hR : Rw 32 (mv_r S174) := by rw [eS174]; exact hR
            have hF : RF 32 σ S174 := by rw [eS174]; exact hF.hold _
            have hX : XM 32 th e0 bs BL f0 g0 ns S174 (ms) (sm wt ms + 1) (sm wr ms + 1) (s0 + 1) := by rw [eS174]; exact hX.hold hP (by omega) _
            have t7 := Eq.trans (congrArg Int32.toInt (show mv_i S174 3 7 = mv_i _ 3 7 by rw [eS174]; rfl)) t7
            have t8 := Eq.trans (congrArg Int32.toInt (show mv_i S174 3 8 = mv_i _ 3 8 by rw [eS174]; rfl)) t8
            have t9 := Eq.trans (congrArg Int32.toInt (show mv_i S174 3 9 = mv_i _ 3 9 by rw [eS174]; rfl)) t9
            have kp := Eq.trans (show mv_a S174 4 = mv_a _ 4 by rw [eS174]; rfl) kp
            have hend : 0 ≤ (mv_i S174 3 9).toInt ∨ ∃ ms2 s2 a2, a < a2 ∧ XM 32 th e0 bs BL f0 g0 ns S174 (ms2) (sm wt ms2 + (1 : Int32).toNatClampNeg) (sm wr ms2 + (1 : Int32).toNatClampNeg) (s2) ∧ TI S174 sz bd ms2 s2 a2 := Or.inr ⟨ms, _, a + 1, by omega, hX, by omega, by omega, by omega, by omega, by omega, by omega, hWm.up (by omega)⟩
            clear eS174
            refine mv_goto (pc := 174) (tgt := 233) B d_Exprs_name_174 rfl ?_
            exact (j233 _ hF hX.1.2.2.2.1 hend)
        · skip
          refine mv_aload_n (pc := 105) B d_Exprs_name_105 rfl 5 rfl ?_
          refine mv_getR (pc := 106) (ci := 6) (C := R_Exprs) (T := F_Exprs) (N := 11) B 1 rfl rfl (by decide) i_Exprs (B.2.2.2.1 _ k_194) rfl (hR.1 _ 1 _ rfl) d_Exprs_name_106 ?_
          refine mv_iload_n (pc := 109) B d_Exprs_name_109 rfl 2 rfl ?_
          refine mv_callVl (pc := 110) (n := 1) (ci := 4) (C := R_Names) B (mK_ok sk sv) hNs rfl rfl (c_Names_maskOf l hi _ _ hR.1 n z (hB0.rf hF hP ht2).2.1.1 (by omega) (by omega)) rfl (ma_goodc kc_Names_maskOf) (B.2.2.2.1 _ k_1450) (B.2.2.2.1 _ k_1451) (B.2.2.2.1 _ k_1452) (B.2.2.2.1 _ k_5) ⟨by decide +kernel, by decide +kernel, by decide +kernel⟩ rfl d_Exprs_name_110 rfl (Nat.le_of_ble_eq_true rfl) ⟨by decide, by decide⟩ ⟨by decide, by decide⟩ ⟨by decide, by decide⟩ (mv_noH hno _) (fun v110 σ110 h110 => ?_)
          have h110 := h110.symm
          subst h110
          refine mv_lstore (pc := 113) B d_Exprs_name_113 (by decide) rfl ?_
          refine mv_aload_n (pc := 115) B d_Exprs_name_115 rfl 6 rfl ?_
          refine mv_getR (pc := 116) (ci := 6) (C := R_Exprs) (T := F_Exprs) (N := 11) B 3 rfl rfl (by decide) i_Exprs (B.2.2.2.1 _ k_197) rfl hR.2.2.2 d_Exprs_name_116 ?_
          refine mv_sipush (pc := 119) (v := 301) B d_Exprs_name_119 (by decide) ?_
          refine mv_lload (pc := 122) B d_Exprs_name_122 0 rfl ?_
          refine mv_callVi (pc := 124) (n := 2) (ci := 7) (C := R_Program) B (mK_ok sk sv) hNs rfl rfl (c_Program_emit_a l hi _ _ _ hR.2.1 (by have := hX.2.1.1; omega) (by have := hX.2.1.1; omega)) rfl (ma_goodc kc_Program_emit) (B.2.2.2.1 _ k_1425) (B.2.2.2.1 _ k_1385) (B.2.2.2.1 _ k_1386) (B.2.2.2.1 _ k_8) ⟨by decide +kernel, by decide +kernel, by decide +kernel⟩ rfl d_Exprs_name_124 rfl (Nat.le_of_ble_eq_true rfl) ⟨by decide, by decide⟩ ⟨by decide, by decide⟩ ⟨by decide, by decide⟩ (mv_noH hno _) (fun v124 σ124 h124 => ?_)
          obtain ⟨e124, -⟩ := h124
          subst e124
          refine mv_gen (fun S127 eS127 => ?_)
          have hR : Rw 32 (mv_r S127) := by rw [eS127]; exact hR
          have hF : RF 32 σ S127 := by rw [eS127]; exact hF.emit _ _
          have hX : XM 32 th e0 bs BL f0 g0 ns S127 (ms) (sm wt ms) (sm wr ms + 1) (s0 + 1) := by rw [eS127]; exact hX.emit0 hP (by omega) (sm wr ms + 1) (by decide) (by decide) (Op1_lit (Or.inr rfl) th _ (bs + sm wr ms)) (by omega)
          have t7 := Eq.trans (congrArg Int32.toInt (show mv_i S127 3 7 = mv_i _ 3 7 by rw [eS127]; rfl)) t7
          have t8 := Eq.trans (congrArg Int32.toInt (show mv_i S127 3 8 = mv_i _ 3 8 by rw [eS127]; rfl)) t8
          have t9 := Eq.trans (congrArg Int32.toInt (show mv_i S127 3 9 = mv_i _ 3 9 by rw [eS127]; rfl)) t9
          have kp := Eq.trans (show mv_a S127 4 = mv_a _ 4 by rw [eS127]; rfl) kp
          clear eS127
          refine mv_pop (pc := 127) B d_Exprs_name_127 rfl ?_
          refine mv_aload_n (pc := 128) B d_Exprs_name_128 rfl 6 rfl ?_
          refine mv_lload (pc := 129) B d_Exprs_name_129 0 rfl ?_
          refine mv_callSi (pc := 131) (n := 1) B (mK_ok sk sv) hNs (c_Long_bitCount l hi _ _) rfl (ma_goodc kc_Long_bitCount) (B.2.2.2.1 _ k_1454) (B.2.2.2.1 _ k_424) (B.2.2.2.1 _ k_10) ⟨by decide +kernel, by decide +kernel, by decide +kernel⟩ rfl d_Exprs_name_131 rfl (Nat.le_of_ble_eq_true rfl) ⟨by decide, by decide⟩ ⟨by decide, by decide⟩ ⟨by decide, by decide⟩ (mv_noH hno _) (fun v131 σ131 h131 => ?_)
          have h131 := h131.symm
          subst h131
          refine mv_callVv (pc := 134) (n := 1) (ci := 6) (C := R_Exprs) B (mK_ok sk sv) hNs rfl rfl (c_Exprs_hold l hi _ _ hR.1 (by have := hX.1.2.2.1; omega) (by have := hX.1.2.2.1; omega)) rfl (ma_goodc kc_Exprs_hold) (B.2.2.2.1 _ k_1432) (B.2.2.2.1 _ k_1434) (B.2.2.2.1 _ ks_51) (B.2.2.2.1 _ k_7) ⟨by decide +kernel, by decide +kernel, by decide +kernel⟩ rfl d_Exprs_name_134 rfl (Nat.le_of_ble_eq_true rfl) ⟨by decide, by decide⟩ ⟨by decide, by decide⟩ ⟨by decide, by decide⟩ (mv_noH hno _) (fun σ134 h134 => ?_)
          subst h134
          refine mv_gen (fun S137 eS137 => ?_)
          have hR : Rw 32 (mv_r S137) := by rw [eS137]; exact hR
          have hF : RF 32 σ S137 := by rw [eS137]; exact hF.hold _
          have hX : XM 32 th e0 bs BL f0 g0 ns S137 (ms) (sm wt ms + 1) (sm wr ms + 1) (s0 + 1) := by rw [eS137]; exact hX.hold hP (by omega) _
          have t7 := Eq.trans (congrArg Int32.toInt (show mv_i S137 3 7 = mv_i _ 3 7 by rw [eS137]; rfl)) t7
          have t8 := Eq.trans (congrArg Int32.toInt (show mv_i S137 3 8 = mv_i _ 3 8 by rw [eS137]; rfl)) t8
          have t9 := Eq.trans (congrArg Int32.toInt (show mv_i S137 3 9 = mv_i _ 3 9 by rw [eS137]; rfl)) t9
          have kp := Eq.trans (show mv_a S137 4 = mv_a _ 4 by rw [eS137]; rfl) kp
          have hend : 0 ≤ (mv_i S137 3 9).toInt ∨ ∃ ms2 s2 a2, a < a2 ∧ XM 32 th e0 bs BL f0 g0 ns S137 (ms2) (sm wt ms2 + (1 : Int32).toNatClampNeg) (sm wr ms2 + (1 : Int32).toNatClampNeg) (s2) ∧ TI S137 sz bd ms2 s2 a2 := Or.inr ⟨ms, _, a + 1, by omega, hX, by omega, by omega, by omega, by omega, by omega, by omega, hWm.up (by omega)⟩
          clear eS137
          refine mv_goto (pc := 137) (tgt := 233) B d_Exprs_name_137 rfl ?_
          exact (j233 _ hF hX.1.2.2.2.1 hend)
      · skip
        have n2 := nm9.1 (Or.inr ((z43.resolve_left (fun q => by rw [q] at h62; exact absurd h62 (by decide))).symm.trans h62))
        refine mv_aload_n (pc := 69) B d_Exprs_name_69 rfl 5 rfl ?_
        refine mv_bipush (pc := 70) (v := 91) B d_Exprs_name_70 (by decide) ?_
        refine mv_aload_n (pc := 72) B d_Exprs_name_72 rfl 5 rfl ?_
        refine mv_getR (pc := 73) (ci := 6) (C := R_Exprs) (T := F_Exprs) (N := 11) B 0 rfl rfl (by decide) i_Exprs (B.2.2.2.1 _ k_193) rfl (hR.1 _ 0 _ rfl) d_Exprs_name_73 ?_
        refine mv_bipush (pc := 76) (v := 91) B d_Exprs_name_76 (by decide) ?_
        refine mv_callVi (pc := 78) (n := 1) (ci := 2) (C := R_Tokens) B (mK_ok sk sv) hNs rfl rfl (c_Tokens_openN l hi _ _ hR.1 (hB0.rf hF hP ht2).2.1 (by omega) (by omega) (by decide)) rfl (ma_goodc kc_Tokens_open) (B.2.2.2.1 _ k_1415) (B.2.2.2.1 _ k_1350) (B.2.2.2.1 _ k_1351) (B.2.2.2.1 _ k_3) ⟨by decide +kernel, by decide +kernel, by decide +kernel⟩ rfl d_Exprs_name_78 rfl (Nat.le_of_ble_eq_true rfl) ⟨by decide, by decide⟩ ⟨by decide, by decide⟩ ⟨by decide, by decide⟩ (mv_noH hno _) (fun v78 σ78 h78 => ?_)
        obtain ⟨a78, w78, e78, r78⟩ := h78
        have q78 := r78.1
        have z78 := fun q => (r78.2.1 q).1
        have y78 := And.intro r78.2.2.2.1 r78.2.2.2.2.1
        subst e78
        refine mv_gen (fun S81 eS81 => ?_)
        have hR : Rw 32 (mv_r S81) := by rw [eS81]; exact hR
        have hF : RF 32 σ S81 := by rw [eS81]; exact hF.tk3 _ _ _
        have hX : XM 32 th e0 bs BL f0 g0 ns S81 (ms) (sm wt ms) (sm wr ms) (s0) := by rw [eS81]; exact hX.tk3 hP _ _ _
        have t7 : (mv_i S81 3 7).toInt = a78.toInt := by rw [eS81]; rfl
        have t8 : (mv_i S81 3 8).toInt = (mv_i σ 3 8).toInt + 1 := by rw [eS81]; first | exact t8 | exact (sub_one (by omega)).trans (by omega) | exact (i32_inc (by omega)).trans (by omega)
        have t9 : (mv_i S81 3 9).toInt = w78.toInt := by rw [eS81]; rfl
        have kS81 : mv_a S81 4 = mv_a σ 4 := by rw [eS81]; first | rfl | exact kp
        have kp := kS81
        have m5 : mv_i (ex_mark S81 91 v78) 22 8 - 1 = mv_i S81 22 8 := Int32.add_sub_cancel _ _
        have m6 := hX.1.1
        have m7 := hX.n
        clear eS81
        refine mv_callVv (pc := 81) (n := 2) (ci := 6) (C := R_Exprs) B (mK_ok sk sv) hNs rfl rfl (c_Exprs_mark l hi _ _ _ hR.1 (by have := hX.1.1; omega) (by have := hX.1.1; omega)) rfl (ma_goodc kc_Exprs_mark) (B.2.2.2.1 _ k_1416) (B.2.2.2.1 _ k_1418) (B.2.2.2.1 _ ks_48) (B.2.2.2.1 _ k_7) ⟨by decide +kernel, by decide +kernel, by decide +kernel⟩ rfl d_Exprs_name_81 rfl (Nat.le_of_ble_eq_true rfl) ⟨by decide, by decide⟩ ⟨by decide, by decide⟩ ⟨by decide, by decide⟩ (mv_noH hno _) (fun σ81 h81 => ?_)
        subst h81
        refine mv_aload_n (pc := 84) B d_Exprs_name_84 rfl 5 rfl ?_
        refine mv_getR (pc := 85) (ci := 6) (C := R_Exprs) (T := F_Exprs) (N := 11) B 6 rfl rfl (by decide) i_Exprs (B.2.2.2.1 _ k_200) rfl (hR.1 _ 6 _ rfl) d_Exprs_name_85 ?_
        refine mv_aload_n (pc := 88) B d_Exprs_name_88 rfl 5 rfl ?_
        refine mv_getI (pc := 89) (ci := 6) (C := R_Exprs) (T := F_Exprs) (N := 11) B 8 rfl rfl (by decide) i_Exprs (B.2.2.2.1 _ k_202) rfl d_Exprs_name_89 ?_
        refine mv_iconst (pc := 92) (v := 1) B d_Exprs_name_92 (by decide) ?_
        refine mv_isub (pc := 93) B d_Exprs_name_93 ?_
        refine mv_iload (pc := 94) B d_Exprs_name_94 0 rfl ?_
        refine mv_iast (pc := 96) B rfl (i32_in (show 0 ≤ (mv_i (ex_mark S81 91 v78) 22 8 - 1).toInt by rw [m5]; omega) (show (mv_i (ex_mark S81 91 v78) 22 8 - 1).toInt < 1024 by rw [m5]; omega)) d_Exprs_name_96 ?_
        refine mv_gen (fun S97 eS97 => ?_)
        have hR : Rw 32 (mv_r S97) := by rw [eS97]; exact hR
        have hF : RF 32 σ S97 := by rw [eS97]; exact hF.mark _ _ |>.row ⟨by omega, by omega⟩ _ _
        have hX : XM 32 th e0 bs BL f0 g0 ns S97 (((91, ix) : Mk) :: ms) (sm wt ms) (sm wr ms) (s0) := by rw [eS97]; exact hX.mark91 hP (by omega) (by rw [m5]; exact m7) ⟨y78.1, by omega⟩ n2
        have t7 := Eq.trans (congrArg Int32.toInt (show mv_i S97 3 7 = mv_i _ 3 7 by rw [eS97]; rfl)) t7
        have t8 := Eq.trans (congrArg Int32.toInt (show mv_i S97 3 8 = mv_i _ 3 8 by rw [eS97]; rfl)) t8
        have t9 := Eq.trans (congrArg Int32.toInt (show mv_i S97 3 9 = mv_i _ 3 9 by rw [eS97]; rfl)) t9
        have kp := Eq.trans (show mv_a S97 4 = mv_a _ 4 by rw [eS97]; rfl) kp
        have hend : 0 ≤ (mv_i S97 3 9).toInt ∨ ∃ ms2 s2 a2, a < a2 ∧ XM 32 th e0 bs BL f0 g0 ns S97 (ms2) (sm wt ms2 + (0 : Int32).toNatClampNeg) (sm wr ms2 + (0 : Int32).toNatClampNeg) (s2) ∧ TI S97 sz bd ms2 s2 a2 := by
          by_cases hw : (mv_i S97 3 9).toInt < 0
          · refine Or.inr ⟨((91, ix) : Mk) :: ms, s0, a + 2, by omega, ?_, by omega, hw, ?_, ?_, ?_, by omega, (hWm.up (by omega)).cons (fun q => absurd (show (91 : Int32) = 123 from q) (by decide))⟩
            · have y1 : sm wt (((91, ix) : Mk) :: ms) = sm wt ms := Nat.zero_add _
              have y2 : sm wr (((91, ix) : Mk) :: ms) = sm wr ms := Nat.zero_add _
              rw [y1, y2]
              exact hX
            · have y3 : sm wd (((91, ix) : Mk) :: ms) = 1 + sm wd ms := rfl
              omega
            · have := (r78.2.1 (by omega)).2.2.1
              have : ¬ (mv_i S26 3 8).toInt = 60 := fun q => this (Int32.toInt_inj.mp q)
              omega
            · have y4 : sm wc (((91, ix) : Mk) :: ms) = sm wc ms := Nat.zero_add _
              omega
          · exact Or.inl (by omega)
        clear eS97
        refine mv_iconst (pc := 97) (v := 0) B d_Exprs_name_97 (by decide) ?_
        exact mv_iret (pc := 98) B hr rfl d_Exprs_name_98 (Nat.le_refl _) (Nat.le_refl _) ⟨_, rfl, hF, hX.1.2.2.2.1, Or.inl rfl, hend⟩
  refine mv_aload_n (pc := 0) B d_Exprs_name_0 rfl 0 rfl ?_
  refine mv_getR (pc := 1) (ci := 6) (C := R_Exprs) (T := F_Exprs) (N := 11) B 0 rfl rfl (by decide) i_Exprs (B.2.2.2.1 _ k_193) rfl (hR.1 _ 0 _ rfl) d_Exprs_name_1 ?_
  refine mv_callVi (pc := 4) (n := 0) (ci := 2) (C := R_Tokens) B (mK_ok sk sv) hNs rfl rfl (c_Tokens_kindBehind l hi _ hR.1 (by omega) (by omega)) rfl (ma_goodc kc_Tokens_kindBehind) (B.2.2.2.1 _ k_1445) (B.2.2.2.1 _ k_1446) (B.2.2.2.1 _ k_1447) (B.2.2.2.1 _ k_3) ⟨by decide +kernel, by decide +kernel, by decide +kernel⟩ rfl d_Exprs_name_4 rfl (Nat.le_of_ble_eq_true rfl) ⟨by decide, by decide⟩ ⟨by decide, by decide⟩ ⟨by decide, by decide⟩ (mv_noH hno _) (fun v4 σ4 h4 => ?_)
  have h4 := h4.symm
  subst h4
  refine mv_bipush (pc := 7) (v := 91) B d_Exprs_name_7 (by decide) ?_
  refine mv_icmp_ne (pc := 9) (tgt := 16) B d_Exprs_name_9 rfl (fun h9 => ?_) (fun h9 => ?_)
  · skip
    refine mv_iconst (pc := 16) (v := 0) B d_Exprs_name_16 (by decide) ?_
    refine mv_lpick [0] rfl ?_
    exact j17 _
  · skip
    refine mv_iconst (pc := 12) (v := 1) B d_Exprs_name_12 (by decide) ?_
    refine mv_goto (pc := 13) (tgt := 17) B d_Exprs_name_13 rfl ?_
    refine mv_lpick [0] rfl ?_
    exact j17 _
set_option maxHeartbeats 4000000 in
set_option maxRecDepth 100000 in
theorem c_Exprs_name_b (l : Launch) {dA : FieldType → ClassId} {D : va_G} {al : Nat → Nat} {ext : mv_Sh} {sk sv : Nat → Nat} (hi : mv_inj (mg dA D al ext)) (σ : mv_H) {t len n z sz th sl e0 bs ns : Nat} {BL : (Nat → Nat) → Prop} {f0 : Nat → Int32} {g0 : Nat → Int64} {ms : List Mk} {s0 bd a : Nat} (hB0 : SB 48 σ t len n z sz th sl) (ht2 : t = 1 ∨ t = 144) (hX : XM 48 th e0 bs BL f0 g0 ns σ (ms) (sm wt ms + 0) (sm wr ms + 0) (s0)) (hI : TI σ sz bd ms s0 a) (hlen : len ≤ 32768) (hbs : bs ≤ 1) (hk3 : mv_a σ 4 (mv_i σ 3 7).toNatClampNeg = 3) : mv_C l y_Exprs_name (Cond.code y_Exprs_name b_Exprs_name 8 (Option.some Jvm.ClassFile.FieldType.boolean) :: ma) ({ frames := 3, cells := 0, slots := 0, locals := 63 }) (mg dA D al ext) (mK sk sv) [.ref (al 22)] σ (mv_Ri (fun v σ1 => RF 48 σ σ1 ∧ Mt (mv_a σ1 24) ∧ (v = 0 ∨ v = 1) ∧ (0 ≤ (mv_i σ1 3 9).toInt ∨ ∃ ms2 s2 a2, a < a2 ∧ XM 48 th e0 bs BL f0 g0 ns σ1 (ms2) (sm wt ms2 + v.toNatClampNeg) (sm wr ms2 + v.toNatClampNeg) (s2) ∧ TI σ1 sz bd ms2 s2 a2))) := by
  refine mv_C.ofV (cc := b_Exprs_name) (nL := 8) (ret := (Option.some Jvm.ClassFile.FieldType.boolean)) (by decide +kernel) rfl hi (Nat.le_of_ble_eq_true rfl) ?_
  intro p e s m below meth c B hNs hr hnm hno
  have hP : PQ 48 := by unfold PQ; omega
  have hR := hB0.1
  have hF : RF 48 σ σ := RF0
  have hT : mv_i σ 3 = mv_i σ 3 := rfl
  have hsz := hB0.2.1.2.2.2.2.2
  have hsz2 := hB0.2.1.2.2.2.1
  have hI5 := hI.2.2.2.2.1
  have ha9 := hI.2.2.2.2.2.1
  have pl := hI.len hX
  have hm8 := hX.1.1
  have t7 := hI.1
  have hw9 := hI.2.1
  have t9 : (mv_i σ 3 9).toInt = (mv_i σ 3 9).toInt := rfl
  have hd8 := hI.2.2.1
  have hd9 := hI.2.2.2.1
  have hWm := hI.2.2.2.2.2.2
  have kp : mv_a σ 4 = mv_a σ 4 := rfl
  have t8 : (mv_i σ 3 8).toInt = (mv_i σ 3 8).toInt := rfl
  have kcl := i32_cl (x := mv_i σ 3 7) (by omega)
  have hla := hB0.2.1.last (a := (mv_i σ 3 7).toNatClampNeg) (by omega) hk3 (by decide) (by decide)
  have j233 : ∀ (υ : mv_H) (hF : RF 48 σ υ) (hM : Mt (mv_a υ 24)) (hend : 0 ≤ (mv_i υ 3 9).toInt ∨ ∃ ms2 s2 a2, a < a2 ∧ XM 48 th e0 bs BL f0 g0 ns υ (ms2) (sm wt ms2 + (1 : Int32).toNatClampNeg) (sm wr ms2 + (1 : Int32).toNatClampNeg) (s2) ∧ TI υ sz bd ms2 s2 a2) {L : List (Nat × Value)}, mv_V p l e ({ frames := 3, cells := 0, slots := 0, locals := 63 }) s m ([.ref (al 22)] : List Value).toArray below meth c (mg dA D al ext) 8 0 0 (mv_Q (mg dA D al ext) below s 0 0 (mv_Ri (fun v σ1 => RF 48 σ σ1 ∧ Mt (mv_a σ1 24) ∧ (v = 0 ∨ v = 1) ∧ (0 ≤ (mv_i σ1 3 9).toInt ∨ ∃ ms2 s2 a2, a < a2 ∧ XM 48 th e0 bs BL f0 g0 ns σ1 (ms2) (sm wt ms2 + v.toNatClampNeg) (sm wr ms2 + v.toNatClampNeg) (s2) ∧ TI σ1 sz bd ms2 s2 a2)))) υ 233 L [] := by
    intro υ hF hM hend L
    refine mv_iconst (pc := 233) (v := 1) B d_Exprs_name_233 (by decide) ?_
    exact mv_iret (pc := 234) B hr rfl d_Exprs_name_234 (Nat.le_refl _) (Nat.le_refl _) ⟨_, rfl, hF, hM, Or.inr rfl, hend⟩
  have j17 : ∀ (fl : Int32) , mv_V p l e ({ frames := 3, cells := 0, slots := 0, locals := 63 }) s m ([.ref (al 22)] : List Value).toArray below meth c (mg dA D al ext) 8 0 0 (mv_Q (mg dA D al ext) below s 0 0 (mv_Ri (fun v σ1 => RF 48 σ σ1 ∧ Mt (mv_a σ1 24) ∧ (v = 0 ∨ v = 1) ∧ (0 ≤ (mv_i σ1 3 9).toInt ∨ ∃ ms2 s2 a2, a < a2 ∧ XM 48 th e0 bs BL f0 g0 ns σ1 (ms2) (sm wt ms2 + v.toNatClampNeg) (sm wr ms2 + v.toNatClampNeg) (s2) ∧ TI σ1 sz bd ms2 s2 a2)))) σ 17 [(0, .ref (al 22))] [.int fl] := by
    intro fl
    refine mv_istore_n (pc := 17) B d_Exprs_name_17 rfl (by decide) rfl ?_
    refine mv_aload_n (pc := 18) B d_Exprs_name_18 rfl 1 rfl ?_
    refine mv_getR (pc := 19) (ci := 6) (C := R_Exprs) (T := F_Exprs) (N := 11) B 0 rfl rfl (by decide) i_Exprs (B.2.2.2.1 _ k_193) rfl (hR.1 _ 0 _ rfl) d_Exprs_name_19 ?_
    refine mv_iconst (pc := 22) (v := 3) B d_Exprs_name_22 (by decide) ?_
    refine mv_callVi (pc := 23) (n := 1) (ci := 2) (C := R_Tokens) B (mK_ok sk sv) hNs rfl rfl (c_Tokens_takeN l hi _ _ hR.1 (hB0.rf hF hP ht2).2.1 (by omega) (by omega) (by decide)) rfl (ma_goodc kc_Tokens_take) (B.2.2.2.1 _ k_1424) (B.2.2.2.1 _ k_1267) (B.2.2.2.1 _ k_1268) (B.2.2.2.1 _ k_3) ⟨by decide +kernel, by decide +kernel, by decide +kernel⟩ rfl d_Exprs_name_23 rfl (Nat.le_of_ble_eq_true rfl) ⟨by decide, by decide⟩ ⟨by decide, by decide⟩ ⟨by decide, by decide⟩ (mv_noH hno _) (fun v23 σ23 h23 => ?_)
    obtain ⟨a23, w23, e23, r23⟩ := h23
    have q23 := r23.1
    have z23 := fun q => (r23.2.1 q).1
    have y23 := And.intro r23.2.2.2.1 r23.2.2.2.2.1
    subst e23
    have hw23 := r23.2.2.1 hw9 hk3 trivial
    refine mv_gen (fun S26 eS26 => ?_)
    have hR : Rw 48 (mv_r S26) := by rw [eS26]; exact hR
    have hF : RF 48 σ S26 := by rw [eS26]; exact hF.tk3 _ _ _
    have hX : XM 48 th e0 bs BL f0 g0 ns S26 (ms) (sm wt ms) (sm wr ms) (s0) := by rw [eS26]; exact hX.tk3 hP _ _ _
    have t7 : (mv_i S26 3 7).toInt = a23.toInt := by rw [eS26]; rfl
    have t8 : (mv_i S26 3 8).toInt = (mv_i σ 3 8).toInt := by rw [eS26]; first | exact t8 | exact (sub_one (by omega)).trans (by omega) | exact (i32_inc (by omega)).trans (by omega)
    have t9 : (mv_i S26 3 9).toInt = w23.toInt := by rw [eS26]; rfl
    have kS26 : mv_a S26 4 = mv_a σ 4 := by rw [eS26]; first | rfl | exact kp
    have kp := kS26
    have sy := TkR.sym hB0.2.1 r23
    have s6 : mv_b S26 6 = mv_b σ 6 := by rw [eS26]; rfl
    obtain ⟨y9, ey9⟩ : ∃ y, y = mv_b S26 6 v23.toNatClampNeg := ⟨_, rfl⟩
    have sy : 0 ≤ y9.toInt ∧ y9.toInt < n := by rw [ey9, s6]; exact sy
    have hn16 := hB0.2.1.1.2.1
    have sy2 := l2i_nn (x := y9) sy.1 (by omega)
    have sy3 := i32_cl (x := y9.toInt32) (by omega)
    have e15 : mv_a S26 15 = mv_a σ 15 := by rw [eS26]; rfl
    have e14 : mv_a S26 14 = mv_a σ 14 := by rw [eS26]; rfl
    have nm9 := hB0.2.2.1 y9.toInt32.toNatClampNeg (by omega)
    rw [← e14, ← e15] at nm9
    obtain ⟨ix, eix⟩ : ∃ x, x = mv_a S26 15 y9.toInt32.toNatClampNeg := ⟨_, rfl⟩
    rw [← eix] at nm9
    have hTh := hB0.2.2.2
    have e33 : mv_a S26 51 = mv_a σ 51 := by rw [eS26]; rfl
    have ht64 := hTh.2.1
    have hsl := hTh.2.2.2.1
    clear eS26
    refine mv_istore_n (pc := 26) B d_Exprs_name_26 rfl (by decide) rfl ?_
    refine mv_aload_n (pc := 27) B d_Exprs_name_27 rfl 2 rfl ?_
    refine mv_getR (pc := 28) (ci := 6) (C := R_Exprs) (T := F_Exprs) (N := 11) B 0 rfl rfl (by decide) i_Exprs (B.2.2.2.1 _ k_193) rfl (hR.1 _ 0 _ rfl) d_Exprs_name_28 ?_
    refine mv_getR (pc := 31) (ci := 2) (C := R_Tokens) (T := F_Tokens) (N := 10) B 2 rfl rfl (by decide) i_Tokens (B.2.2.2.1 _ k_95) rfl (hR.1 _ 2 _ rfl) d_Exprs_name_31 ?_
    refine mv_iload_n (pc := 34) B d_Exprs_name_34 rfl 0 rfl ?_
    refine mv_lald (pc := 35) B rfl (i32_in y23.1 (by omega)) d_Exprs_name_35 ?_
    rw [← ey9]
    clear ey9
    refine mv_l2i (pc := 36) B d_Exprs_name_36 ?_
    refine mv_istore_n (pc := 37) B d_Exprs_name_37 rfl (by decide) rfl ?_
    refine mv_aload_n (pc := 38) B d_Exprs_name_38 rfl 3 rfl ?_
    refine mv_getR (pc := 39) (ci := 6) (C := R_Exprs) (T := F_Exprs) (N := 11) B 1 rfl rfl (by decide) i_Exprs (B.2.2.2.1 _ k_194) rfl (hR.1 _ 1 _ rfl) d_Exprs_name_39 ?_
    refine mv_iload_n (pc := 42) B d_Exprs_name_42 rfl 0 rfl ?_
    refine mv_callVi (pc := 43) (n := 1) (ci := 4) (C := R_Names) B (mK_ok sk sv) hNs rfl rfl (c_Names_kindOf l hi _ _ hR.1 n z (hB0.rf hF hP ht2).2.1.1 (by omega) (by omega)) rfl (ma_goodc kc_Names_kindOf) (B.2.2.2.1 _ k_1449) (B.2.2.2.1 _ k_1317) (B.2.2.2.1 _ k_1318) (B.2.2.2.1 _ k_5) ⟨by decide +kernel, by decide +kernel, by decide +kernel⟩ rfl d_Exprs_name_43 rfl (Nat.le_of_ble_eq_true rfl) ⟨by decide, by decide⟩ ⟨by decide, by decide⟩ ⟨by decide, by decide⟩ (mv_noH hno _) (fun v43 σ43 h43 => ?_)
    obtain ⟨e43, z43⟩ := h43
    have e43 := e43.symm
    subst e43
    refine mv_istore (pc := 46) B d_Exprs_name_46 (by decide) rfl ?_
    refine mv_aload_n (pc := 48) B d_Exprs_name_48 rfl 4 rfl ?_
    refine mv_getR (pc := 49) (ci := 6) (C := R_Exprs) (T := F_Exprs) (N := 11) B 1 rfl rfl (by decide) i_Exprs (B.2.2.2.1 _ k_194) rfl (hR.1 _ 1 _ rfl) d_Exprs_name_49 ?_
    refine mv_getR (pc := 52) (ci := 4) (C := R_Names) (T := F_Names) (N := 10) B 2 rfl rfl (by decide) i_Names (B.2.2.2.1 _ k_137) rfl (hR.1 _ 2 _ rfl) d_Exprs_name_52 ?_
    refine mv_iload_n (pc := 55) B d_Exprs_name_55 rfl 1 rfl ?_
    refine mv_iald (pc := 56) B rfl (i32_in (by omega) (by omega)) d_Exprs_name_56 ?_
    rw [← eix]
    clear eix
    refine mv_istore (pc := 57) B d_Exprs_name_57 (by decide) rfl ?_
    refine mv_iload (pc := 59) B d_Exprs_name_59 1 rfl ?_
    refine mv_iconst (pc := 61) (v := 2) B d_Exprs_name_61 (by decide) ?_
    refine mv_icmp_ne (pc := 62) (tgt := 99) B d_Exprs_name_62 rfl (fun h62 => ?_) (fun h62 => ?_)
    · skip
      refine mv_iload (pc := 99) B d_Exprs_name_99 1 rfl ?_
      refine mv_iconst (pc := 101) (v := 4) B d_Exprs_name_101 (by decide) ?_
      refine mv_icmp_ne (pc := 102) (tgt := 140) B d_Exprs_name_102 rfl (fun h102 => ?_) (fun h102 => ?_)
      · skip
        refine mv_iload (pc := 140) B d_Exprs_name_140 1 rfl ?_
        refine mv_iconst (pc := 142) (v := 3) B d_Exprs_name_142 (by decide) ?_
        refine mv_icmp_ne (pc := 143) (tgt := 177) B d_Exprs_name_143 rfl (fun h143 => ?_) (fun h143 => ?_)
        · skip
          refine mv_iload (pc := 177) B d_Exprs_name_177 1 rfl ?_
          refine mv_iconst (pc := 179) (v := 1) B d_Exprs_name_179 (by decide) ?_
          refine mv_icmp_ne (pc := 180) (tgt := 222) B d_Exprs_name_180 rfl (fun h180 => ?_) (fun h180 => ?_)
          · skip
            refine mv_aload_n (pc := 222) B d_Exprs_name_222 rfl 5 rfl ?_
            refine mv_iload_n (pc := 223) B d_Exprs_name_223 rfl 3 rfl ?_
            refine mv_iconst (pc := 224) (v := 2) B d_Exprs_name_224 (by decide) ?_
            refine mv_callVv (pc := 225) (n := 2) (ci := 6) (C := R_Exprs) B (mK_ok sk sv) hNs rfl rfl (c_Exprs_tell l hi _ _ _ hR.1 y23.1 (by omega) (by decide)) rfl (ma_goodc kc_Exprs_tell) (B.2.2.2.1 _ k_1427) (B.2.2.2.1 _ k_1429) (B.2.2.2.1 _ ks_50) (B.2.2.2.1 _ k_7) ⟨by decide +kernel, by decide +kernel, by decide +kernel⟩ rfl d_Exprs_name_225 rfl (Nat.le_of_ble_eq_true rfl) ⟨by decide, by decide⟩ ⟨by decide, by decide⟩ ⟨by decide, by decide⟩ (mv_noH hno _) (fun σ225 h225 => ?_)
            obtain ⟨x9, y9, e225, z225⟩ := h225
            subst e225
            refine mv_gen (fun S228 eS228 => ?_)
            have hR : Rw 48 (mv_r S228) := by rw [eS228]; exact hR
            have hF : RF 48 σ S228 := by rw [eS228]; exact hF.tell _ _
            have hX : XM 48 th e0 bs BL f0 g0 ns S228 (ms) (sm wt ms) (sm wr ms + 1) (s0) := by rw [eS228]; exact hX.tell hP z225 _ _
            have t7 := Eq.trans (congrArg Int32.toInt (show mv_i S228 3 7 = mv_i _ 3 7 by rw [eS228]; rfl)) t7
            have t8 := Eq.trans (congrArg Int32.toInt (show mv_i S228 3 8 = mv_i _ 3 8 by rw [eS228]; rfl)) t8
            have t9 := Eq.trans (congrArg Int32.toInt (show mv_i S228 3 9 = mv_i _ 3 9 by rw [eS228]; rfl)) t9
            have kp := Eq.trans (show mv_a S228 4 = mv_a _ 4 by rw [eS228]; rfl) kp
            clear eS228
            refine mv_aload_n (pc := 228) B d_Exprs_name_228 rfl 5 rfl ?_
            refine mv_iconst (pc := 229) (v := 0) B d_Exprs_name_229 (by decide) ?_
            refine mv_callVv (pc := 230) (n := 1) (ci := 6) (C := R_Exprs) B (mK_ok sk sv) hNs rfl rfl (c_Exprs_hold l hi _ _ hR.1 (by have := hX.1.2.2.1; omega) (by have := hX.1.2.2.1; omega)) rfl (ma_goodc kc_Exprs_hold) (B.2.2.2.1 _ k_1432) (B.2.2.2.1 _ k_1434) (B.2.2.2.1 _ ks_51) (B.2.2.2.1 _ k_7) ⟨by decide +kernel, by decide +kernel, by decide +kernel⟩ rfl d_Exprs_name_230 rfl (Nat.le_of_ble_eq_true rfl) ⟨by decide, by decide⟩ ⟨by decide, by decide⟩ ⟨by decide, by decide⟩ (mv_noH hno _) (fun σ230 h230 => ?_)
            subst h230
            refine mv_gen (fun S233 eS233 => ?_)
            have hR : Rw 48 (mv_r S233) := by rw [eS233]; exact hR
            have hF : RF 48 σ S233 := by rw [eS233]; exact hF.hold _
            have hX : XM 48 th e0 bs BL f0 g0 ns S233 (ms) (sm wt ms + 1) (sm wr ms + 1) (s0) := by rw [eS233]; exact hX.hold hP (by omega) _
            have t7 := Eq.trans (congrArg Int32.toInt (show mv_i S233 3 7 = mv_i _ 3 7 by rw [eS233]; rfl)) t7
            have t8 := Eq.trans (congrArg Int32.toInt (show mv_i S233 3 8 = mv_i _ 3 8 by rw [eS233]; rfl)) t8
            have t9 := Eq.trans (congrArg Int32.toInt (show mv_i S233 3 9 = mv_i _ 3 9 by rw [eS233]; rfl)) t9
            have kp := Eq.trans (show mv_a S233 4 = mv_a _ 4 by rw [eS233]; rfl) kp
            have hend : 0 ≤ (mv_i S233 3 9).toInt ∨ ∃ ms2 s2 a2, a < a2 ∧ XM 48 th e0 bs BL f0 g0 ns S233 (ms2) (sm wt ms2 + (1 : Int32).toNatClampNeg) (sm wr ms2 + (1 : Int32).toNatClampNeg) (s2) ∧ TI S233 sz bd ms2 s2 a2 := Or.inr ⟨ms, _, a + 1, by omega, hX, by omega, by omega, by omega, by omega, by omega, by omega, hWm.up (by omega)⟩
            clear eS233
            exact (j233 _ hF hX.1.2.2.2.1 hend)
          · skip
            have n1 := nm9.1 (Or.inl ((z43.resolve_left (fun q => by rw [q] at h180; exact absurd h180 (by decide))).symm.trans h180))
            have icl := i32_cl (x := ix) n1.1
            obtain ⟨c9, f9, hc9, hf9, hs1, hs2⟩ := hTh.2.2.2.2.2.2.1 ix.toNatClampNeg (by omega)
            have hf9 : (mv_a σ 51 ix.toNatClampNeg).toInt = f9 := hf9
            rw [← e33] at hf9
            refine mv_aload_n (pc := 183) B d_Exprs_name_183 rfl 5 rfl ?_
            refine mv_getR (pc := 184) (ci := 6) (C := R_Exprs) (T := F_Exprs) (N := 11) B 3 rfl rfl (by decide) i_Exprs (B.2.2.2.1 _ k_197) rfl hR.2.2.2 d_Exprs_name_184 ?_
            refine mv_sipush (pc := 187) (v := 303) B d_Exprs_name_187 (by decide) ?_
            refine mv_aload_n (pc := 190) B d_Exprs_name_190 rfl 5 rfl ?_
            refine mv_getR (pc := 191) (ci := 6) (C := R_Exprs) (T := F_Exprs) (N := 11) B 3 rfl rfl (by decide) i_Exprs (B.2.2.2.1 _ k_197) rfl hR.2.2.2 d_Exprs_name_191 ?_
            refine mv_getR (pc := 194) (ci := 7) (C := R_Program) (T := F_Program) (N := 19) B 4 rfl rfl (by decide) i_Program (B.2.2.2.1 _ k_328) rfl (hR.2.1 _ 4 51 rfl) d_Exprs_name_194 ?_
            refine mv_iload (pc := 197) B d_Exprs_name_197 0 rfl ?_
            refine mv_iald (pc := 199) B rfl (i32_in n1.1 (by omega)) d_Exprs_name_199 ?_
            refine mv_i2l (pc := 200) B d_Exprs_name_200 ?_
            refine mv_callVi (pc := 201) (n := 2) (ci := 7) (C := R_Program) B (mK_ok sk sv) hNs rfl rfl (c_Program_emit_b l hi _ _ _ hR.2.1 (by have := hX.2.1.1; omega) (by have := hX.2.1.1; omega)) rfl (ma_goodc kc_Program_emit) (B.2.2.2.1 _ k_1425) (B.2.2.2.1 _ k_1385) (B.2.2.2.1 _ k_1386) (B.2.2.2.1 _ k_8) ⟨by decide +kernel, by decide +kernel, by decide +kernel⟩ rfl d_Exprs_name_201 rfl (Nat.le_of_ble_eq_true rfl) ⟨by decide, by decide⟩ ⟨by decide, by decide⟩ ⟨by decide, by decide⟩ (mv_noH hno _) (fun v201 σ201 h201 => ?_)
            obtain ⟨e201, -⟩ := h201
            subst e201
            refine mv_gen (fun S204 eS204 => ?_)
            have hR : Rw 48 (mv_r S204) := by rw [eS204]; exact hR
            have hF : RF 48 σ S204 := by rw [eS204]; exact hF.emit _ _
            have hX : XM 48 th e0 bs BL f0 g0 ns S204 (ms) (sm wt ms) (sm wr ms + 1) (s0 + 1) := by rw [eS204]; exact hX.emit0 hP (by omega) (sm wr ms + 1) (by decide) (by decide) (Op1_reg th (by rw [lg_toInt, hf9]; omega) (bs + sm wr ms)) (by omega)
            have t7 := Eq.trans (congrArg Int32.toInt (show mv_i S204 3 7 = mv_i _ 3 7 by rw [eS204]; rfl)) t7
            have t8 := Eq.trans (congrArg Int32.toInt (show mv_i S204 3 8 = mv_i _ 3 8 by rw [eS204]; rfl)) t8
            have t9 := Eq.trans (congrArg Int32.toInt (show mv_i S204 3 9 = mv_i _ 3 9 by rw [eS204]; rfl)) t9
            have kp := Eq.trans (show mv_a S204 4 = mv_a _ 4 by rw [eS204]; rfl) kp
            clear eS204
            refine mv_pop (pc := 204) B d_Exprs_name_204 rfl ?_
            refine mv_aload_n (pc := 205) B d_Exprs_name_205 rfl 5 rfl ?_
            refine mv_aload_n (pc := 206) B d_Exprs_name_206 rfl 5 rfl ?_
            refine mv_getR (pc := 207) (ci := 6) (C := R_Exprs) (T := F_Exprs) (N := 11) B 3 rfl rfl (by decide) i_Exprs (B.2.2.2.1 _ k_197) rfl hR.2.2.2 d_Exprs_name_207 ?_
            refine mv_getR (pc := 210) (ci := 7) (C := R_Program) (T := F_Program) (N := 19) B 2 rfl rfl (by decide) i_Program (B.2.2.2.1 _ k_320) rfl (hR.2.1 _ 2 49 rfl) d_Exprs_name_210 ?_
            refine mv_iload (pc := 213) B d_Exprs_name_213 0 rfl ?_
            refine mv_iald (pc := 215) B rfl (i32_in n1.1 (by omega)) d_Exprs_name_215 ?_
            refine mv_callVv (pc := 216) (n := 1) (ci := 6) (C := R_Exprs) B (mK_ok sk sv) hNs rfl rfl (c_Exprs_hold l hi _ _ hR.1 (by have := hX.1.2.2.1; omega) (by have := hX.1.2.2.1; omega)) rfl (ma_goodc kc_Exprs_hold) (B.2.2.2.1 _ k_1432) (B.2.2.2.1 _ k_1434) (B.2.2.2.1 _ ks_51) (B.2.2.2.1 _ k_7) ⟨by decide +kernel, by decide +kernel, by decide +kernel⟩ rfl d_Exprs_name_216 rfl (Nat.le_of_ble_eq_true rfl) ⟨by decide, by decide⟩ ⟨by decide, by decide⟩ ⟨by decide, by decide⟩ (mv_noH hno _) (fun σ216 h216 => ?_)
            subst h216
            refine mv_gen (fun S219 eS219 => ?_)
            have hR : Rw 48 (mv_r S219) := by rw [eS219]; exact hR
            have hF : RF 48 σ S219 := by rw [eS219]; exact hF.hold _
            have hX : XM 48 th e0 bs BL f0 g0 ns S219 (ms) (sm wt ms + 1) (sm wr ms + 1) (s0 + 1) := by rw [eS219]; exact hX.hold hP (by omega) _
            have t7 := Eq.trans (congrArg Int32.toInt (show mv_i S219 3 7 = mv_i _ 3 7 by rw [eS219]; rfl)) t7
            have t8 := Eq.trans (congrArg Int32.toInt (show mv_i S219 3 8 = mv_i _ 3 8 by rw [eS219]; rfl)) t8
            have t9 := Eq.trans (congrArg Int32.toInt (show mv_i S219 3 9 = mv_i _ 3 9 by rw [eS219]; rfl)) t9
            have kp := Eq.trans (show mv_a S219 4 = mv_a _ 4 by rw [eS219]; rfl) kp
            have hend : 0 ≤ (mv_i S219 3 9).toInt ∨ ∃ ms2 s2 a2, a < a2 ∧ XM 48 th e0 bs BL f0 g0 ns S219 (ms2) (sm wt ms2 + (1 : Int32).toNatClampNeg) (sm wr ms2 + (1 : Int32).toNatClampNeg) (s2) ∧ TI S219 sz bd ms2 s2 a2 := Or.inr ⟨ms, _, a + 1, by omega, hX, by omega, by omega, by omega, by omega, by omega, by omega, hWm.up (by omega)⟩
            clear eS219
            refine mv_goto (pc := 219) (tgt := 233) B d_Exprs_name_219 rfl ?_
            exact (j233 _ hF hX.1.2.2.2.1 hend)
        · skip
          have n3 := nm9.2 ((z43.resolve_left (fun q => by rw [q] at h143; exact absurd h143 (by decide))).symm.trans h143)
          refine mv_aload_n (pc := 146) B d_Exprs_name_146 rfl 5 rfl ?_
          refine mv_getR (pc := 147) (ci := 6) (C := R_Exprs) (T := F_Exprs) (N := 11) B 3 rfl rfl (by decide) i_Exprs (B.2.2.2.1 _ k_197) rfl hR.2.2.2 d_Exprs_name_147 ?_
          refine mv_sipush (pc := 150) (v := 302) B d_Exprs_name_150 (by decide) ?_
          refine mv_iload (pc := 153) B d_Exprs_name_153 0 rfl ?_
          refine mv_i2l (pc := 155) B d_Exprs_name_155 ?_
          refine mv_callVi (pc := 156) (n := 2) (ci := 7) (C := R_Program) B (mK_ok sk sv) hNs rfl rfl (c_Program_emit_b l hi _ _ _ hR.2.1 (by have := hX.2.1.1; omega) (by have := hX.2.1.1; omega)) rfl (ma_goodc kc_Program_emit) (B.2.2.2.1 _ k_1425) (B.2.2.2.1 _ k_1385) (B.2.2.2.1 _ k_1386) (B.2.2.2.1 _ k_8) ⟨by decide +kernel, by decide +kernel, by decide +kernel⟩ rfl d_Exprs_name_156 rfl (Nat.le_of_ble_eq_true rfl) ⟨by decide, by decide⟩ ⟨by decide, by decide⟩ ⟨by decide, by decide⟩ (mv_noH hno _) (fun v156 σ156 h156 => ?_)
          obtain ⟨e156, -⟩ := h156
          subst e156
          refine mv_gen (fun S159 eS159 => ?_)
          have hR : Rw 48 (mv_r S159) := by rw [eS159]; exact hR
          have hF : RF 48 σ S159 := by rw [eS159]; exact hF.emit _ _
          have hX : XM 48 th e0 bs BL f0 g0 ns S159 (ms) (sm wt ms) (sm wr ms + 1) (s0 + 1) := by rw [eS159]; exact hX.emit0 hP (by omega) (sm wr ms + 1) (by decide) (by decide) (Op1_let th (by rw [lg_toInt]; exact n3) (bs + sm wr ms)) (by omega)
          have t7 := Eq.trans (congrArg Int32.toInt (show mv_i S159 3 7 = mv_i _ 3 7 by rw [eS159]; rfl)) t7
          have t8 := Eq.trans (congrArg Int32.toInt (show mv_i S159 3 8 = mv_i _ 3 8 by rw [eS159]; rfl)) t8
          have t9 := Eq.trans (congrArg Int32.toInt (show mv_i S159 3 9 = mv_i _ 3 9 by rw [eS159]; rfl)) t9
          have kp := Eq.trans (show mv_a S159 4 = mv_a _ 4 by rw [eS159]; rfl) kp
          clear eS159
          refine mv_pop (pc := 159) B d_Exprs_name_159 rfl ?_
          refine mv_aload_n (pc := 160) B d_Exprs_name_160 rfl 5 rfl ?_
          refine mv_aload_n (pc := 161) B d_Exprs_name_161 rfl 5 rfl ?_
          refine mv_getR (pc := 162) (ci := 6) (C := R_Exprs) (T := F_Exprs) (N := 11) B 1 rfl rfl (by decide) i_Exprs (B.2.2.2.1 _ k_194) rfl (hR.1 _ 1 _ rfl) d_Exprs_name_162 ?_
          refine mv_getR (pc := 165) (ci := 4) (C := R_Names) (T := F_Names) (N := 10) B 8 rfl rfl (by decide) i_Names (B.2.2.2.1 _ k_147) rfl (hR.1 _ 8 _ rfl) d_Exprs_name_165 ?_
          refine mv_iload (pc := 168) B d_Exprs_name_168 0 rfl ?_
          refine mv_iald (pc := 170) B rfl (i32_in n3.1 n3.2) d_Exprs_name_170 ?_
          refine mv_callVv (pc := 171) (n := 1) (ci := 6) (C := R_Exprs) B (mK_ok sk sv) hNs rfl rfl (c_Exprs_hold l hi _ _ hR.1 (by have := hX.1.2.2.1; omega) (by have := hX.1.2.2.1; omega)) rfl (ma_goodc kc_Exprs_hold) (B.2.2.2.1 _ k_1432) (B.2.2.2.1 _ k_1434) (B.2.2.2.1 _ ks_51) (B.2.2.2.1 _ k_7) ⟨by decide +kernel, by decide +kernel, by decide +kernel⟩ rfl d_Exprs_name_171 rfl (Nat.le_of_ble_eq_true rfl) ⟨by decide, by decide⟩ ⟨by decide, by decide⟩ ⟨by decide, by decide⟩ (mv_noH hno _) (fun σ171 h171 => ?_)
          subst h171
          refine mv_gen (fun S174 eS174 => ?_)
          have hR : Rw 48 (mv_r S174) := by rw [eS174]; exact hR
          have hF : RF 48 σ S174 := by rw [eS174]; exact hF.hold _
          have hX : XM 48 th e0 bs BL f0 g0 ns S174 (ms) (sm wt ms + 1) (sm wr ms + 1) (s0 + 1) := by rw [eS174]; exact hX.hold hP (by omega) _
          have t7 := Eq.trans (congrArg Int32.toInt (show mv_i S174 3 7 = mv_i _ 3 7 by rw [eS174]; rfl)) t7
          have t8 := Eq.trans (congrArg Int32.toInt (show mv_i S174 3 8 = mv_i _ 3 8 by rw [eS174]; rfl)) t8
          have t9 := Eq.trans (congrArg Int32.toInt (show mv_i S174 3 9 = mv_i _ 3 9 by rw [eS174]; rfl)) t9
          have kp := Eq.trans (show mv_a S174 4 = mv_a _ 4 by rw [eS174]; rfl) kp
          have hend : 0 ≤ (mv_i S174 3 9).toInt ∨ ∃ ms2 s2 a2, a < a2 ∧ XM 48 th e0 bs BL f0 g0 ns S174 (ms2) (sm wt ms2 + (1 : Int32).toNatClampNeg) (sm wr ms2 + (1 : Int32).toNatClampNeg) (s2) ∧ TI S174 sz bd ms2 s2 a2 := Or.inr ⟨ms, _, a + 1, by omega, hX, by omega, by omega, by omega, by omega, by omega, by omega, hWm.up (by omega)⟩
          clear eS174
          refine mv_goto (pc := 174) (tgt := 233) B d_Exprs_name_174 rfl ?_
          exact (j233 _ hF hX.1.2.2.2.1 hend)
      · skip
        refine mv_aload_n (pc := 105) B d_Exprs_name_105 rfl 5 rfl ?_
        refine mv_getR (pc := 106) (ci := 6) (C := R_Exprs) (T := F_Exprs) (N := 11) B 1 rfl rfl (by decide) i_Exprs (B.2.2.2.1 _ k_194) rfl (hR.1 _ 1 _ rfl) d_Exprs_name_106 ?_
        refine mv_iload_n (pc := 109) B d_Exprs_name_109 rfl 2 rfl ?_
        refine mv_callVl (pc := 110) (n := 1) (ci := 4) (C := R_Names) B (mK_ok sk sv) hNs rfl rfl (c_Names_maskOf l hi _ _ hR.1 n z (hB0.rf hF hP ht2).2.1.1 (by omega) (by omega)) rfl (ma_goodc kc_Names_maskOf) (B.2.2.2.1 _ k_1450) (B.2.2.2.1 _ k_1451) (B.2.2.2.1 _ k_1452) (B.2.2.2.1 _ k_5) ⟨by decide +kernel, by decide +kernel, by decide +kernel⟩ rfl d_Exprs_name_110 rfl (Nat.le_of_ble_eq_true rfl) ⟨by decide, by decide⟩ ⟨by decide, by decide⟩ ⟨by decide, by decide⟩ (mv_noH hno _) (fun v110 σ110 h110 => ?_)
        have h110 := h110.symm
        subst h110
        refine mv_lstore (pc := 113) B d_Exprs_name_113 (by decide) rfl ?_
        refine mv_aload_n (pc := 115) B d_Exprs_name_115 rfl 6 rfl ?_
        refine mv_getR (pc := 116) (ci := 6) (C := R_Exprs) (T := F_Exprs) (N := 11) B 3 rfl rfl (by decide) i_Exprs (B.2.2.2.1 _ k_197) rfl hR.2.2.2 d_Exprs_name_116 ?_
        refine mv_sipush (pc := 119) (v := 301) B d_Exprs_name_119 (by decide) ?_
        refine mv_lload (pc := 122) B d_Exprs_name_122 0 rfl ?_
        refine mv_callVi (pc := 124) (n := 2) (ci := 7) (C := R_Program) B (mK_ok sk sv) hNs rfl rfl (c_Program_emit_b l hi _ _ _ hR.2.1 (by have := hX.2.1.1; omega) (by have := hX.2.1.1; omega)) rfl (ma_goodc kc_Program_emit) (B.2.2.2.1 _ k_1425) (B.2.2.2.1 _ k_1385) (B.2.2.2.1 _ k_1386) (B.2.2.2.1 _ k_8) ⟨by decide +kernel, by decide +kernel, by decide +kernel⟩ rfl d_Exprs_name_124 rfl (Nat.le_of_ble_eq_true rfl) ⟨by decide, by decide⟩ ⟨by decide, by decide⟩ ⟨by decide, by decide⟩ (mv_noH hno _) (fun v124 σ124 h124 => ?_)
        obtain ⟨e124, -⟩ := h124
        subst e124
        refine mv_gen (fun S127 eS127 => ?_)
        have hR : Rw 48 (mv_r S127) := by rw [eS127]; exact hR
        have hF : RF 48 σ S127 := by rw [eS127]; exact hF.emit _ _
        have hX : XM 48 th e0 bs BL f0 g0 ns S127 (ms) (sm wt ms) (sm wr ms + 1) (s0 + 1) := by rw [eS127]; exact hX.emit0 hP (by omega) (sm wr ms + 1) (by decide) (by decide) (Op1_lit (Or.inr rfl) th _ (bs + sm wr ms)) (by omega)
        have t7 := Eq.trans (congrArg Int32.toInt (show mv_i S127 3 7 = mv_i _ 3 7 by rw [eS127]; rfl)) t7
        have t8 := Eq.trans (congrArg Int32.toInt (show mv_i S127 3 8 = mv_i _ 3 8 by rw [eS127]; rfl)) t8
        have t9 := Eq.trans (congrArg Int32.toInt (show mv_i S127 3 9 = mv_i _ 3 9 by rw [eS127]; rfl)) t9
        have kp := Eq.trans (show mv_a S127 4 = mv_a _ 4 by rw [eS127]; rfl) kp
        clear eS127
        refine mv_pop (pc := 127) B d_Exprs_name_127 rfl ?_
        refine mv_aload_n (pc := 128) B d_Exprs_name_128 rfl 6 rfl ?_
        refine mv_lload (pc := 129) B d_Exprs_name_129 0 rfl ?_
        refine mv_callSi (pc := 131) (n := 1) B (mK_ok sk sv) hNs (c_Long_bitCount l hi _ _) rfl (ma_goodc kc_Long_bitCount) (B.2.2.2.1 _ k_1454) (B.2.2.2.1 _ k_424) (B.2.2.2.1 _ k_10) ⟨by decide +kernel, by decide +kernel, by decide +kernel⟩ rfl d_Exprs_name_131 rfl (Nat.le_of_ble_eq_true rfl) ⟨by decide, by decide⟩ ⟨by decide, by decide⟩ ⟨by decide, by decide⟩ (mv_noH hno _) (fun v131 σ131 h131 => ?_)
        have h131 := h131.symm
        subst h131
        refine mv_callVv (pc := 134) (n := 1) (ci := 6) (C := R_Exprs) B (mK_ok sk sv) hNs rfl rfl (c_Exprs_hold l hi _ _ hR.1 (by have := hX.1.2.2.1; omega) (by have := hX.1.2.2.1; omega)) rfl (ma_goodc kc_Exprs_hold) (B.2.2.2.1 _ k_1432) (B.2.2.2.1 _ k_1434) (B.2.2.2.1 _ ks_51) (B.2.2.2.1 _ k_7) ⟨by decide +kernel, by decide +kernel, by decide +kernel⟩ rfl d_Exprs_name_134 rfl (Nat.le_of_ble_eq_true rfl) ⟨by decide, by decide⟩ ⟨by decide, by decide⟩ ⟨by decide, by decide⟩ (mv_noH hno _) (fun σ134 h134 => ?_)
        subst h134
        refine mv_gen (fun S137 eS137 => ?_)
        have hR : Rw 48 (mv_r S137) := by rw [eS137]; exact hR
        have hF : RF 48 σ S137 := by rw [eS137]; exact hF.hold _
        have hX : XM 48 th e0 bs BL f0 g0 ns S137 (ms) (sm wt ms + 1) (sm wr ms + 1) (s0 + 1) := by rw [eS137]; exact hX.hold hP (by omega) _
        have t7 := Eq.trans (congrArg Int32.toInt (show mv_i S137 3 7 = mv_i _ 3 7 by rw [eS137]; rfl)) t7
        have t8 := Eq.trans (congrArg Int32.toInt (show mv_i S137 3 8 = mv_i _ 3 8 by rw [eS137]; rfl)) t8
        have t9 := Eq.trans (congrArg Int32.toInt (show mv_i S137 3 9 = mv_i _ 3 9 by rw [eS137]; rfl)) t9
        have kp := Eq.trans (show mv_a S137 4 = mv_a _ 4 by rw [eS137]; rfl) kp
        have hend : 0 ≤ (mv_i S137 3 9).toInt ∨ ∃ ms2 s2 a2, a < a2 ∧ XM 48 th e0 bs BL f0 g0 ns S137 (ms2) (sm wt ms2 + (1 : Int32).toNatClampNeg) (sm wr ms2 + (1 : Int32).toNatClampNeg) (s2) ∧ TI S137 sz bd ms2 s2 a2 := Or.inr ⟨ms, _, a + 1, by omega, hX, by omega, by omega, by omega, by omega, by omega, by omega, hWm.up (by omega)⟩
        clear eS137
        refine mv_goto (pc := 137) (tgt := 233) B d_Exprs_name_137 rfl ?_
        exact (j233 _ hF hX.1.2.2.2.1 hend)
    · skip
      refine mv_iload_n (pc := 65) B d_Exprs_name_65 rfl 4 rfl ?_
      refine mv_if_eq (pc := 66) (tgt := 99) B d_Exprs_name_66 rfl (fun h66 => ?_) (fun h66 => ?_)
      · skip
        refine mv_iload (pc := 99) B d_Exprs_name_99 1 rfl ?_
        refine mv_iconst (pc := 101) (v := 4) B d_Exprs_name_101 (by decide) ?_
        refine mv_icmp_ne (pc := 102) (tgt := 140) B d_Exprs_name_102 rfl (fun h102 => ?_) (fun h102 => ?_)
        · skip
          refine mv_iload (pc := 140) B d_Exprs_name_140 1 rfl ?_
          refine mv_iconst (pc := 142) (v := 3) B d_Exprs_name_142 (by decide) ?_
          refine mv_icmp_ne (pc := 143) (tgt := 177) B d_Exprs_name_143 rfl (fun h143 => ?_) (fun h143 => ?_)
          · skip
            refine mv_iload (pc := 177) B d_Exprs_name_177 1 rfl ?_
            refine mv_iconst (pc := 179) (v := 1) B d_Exprs_name_179 (by decide) ?_
            refine mv_icmp_ne (pc := 180) (tgt := 222) B d_Exprs_name_180 rfl (fun h180 => ?_) (fun h180 => ?_)
            · skip
              refine mv_aload_n (pc := 222) B d_Exprs_name_222 rfl 5 rfl ?_
              refine mv_iload_n (pc := 223) B d_Exprs_name_223 rfl 3 rfl ?_
              refine mv_iconst (pc := 224) (v := 2) B d_Exprs_name_224 (by decide) ?_
              refine mv_callVv (pc := 225) (n := 2) (ci := 6) (C := R_Exprs) B (mK_ok sk sv) hNs rfl rfl (c_Exprs_tell l hi _ _ _ hR.1 y23.1 (by omega) (by decide)) rfl (ma_goodc kc_Exprs_tell) (B.2.2.2.1 _ k_1427) (B.2.2.2.1 _ k_1429) (B.2.2.2.1 _ ks_50) (B.2.2.2.1 _ k_7) ⟨by decide +kernel, by decide +kernel, by decide +kernel⟩ rfl d_Exprs_name_225 rfl (Nat.le_of_ble_eq_true rfl) ⟨by decide, by decide⟩ ⟨by decide, by decide⟩ ⟨by decide, by decide⟩ (mv_noH hno _) (fun σ225 h225 => ?_)
              obtain ⟨x9, y9, e225, z225⟩ := h225
              subst e225
              refine mv_gen (fun S228 eS228 => ?_)
              have hR : Rw 48 (mv_r S228) := by rw [eS228]; exact hR
              have hF : RF 48 σ S228 := by rw [eS228]; exact hF.tell _ _
              have hX : XM 48 th e0 bs BL f0 g0 ns S228 (ms) (sm wt ms) (sm wr ms + 1) (s0) := by rw [eS228]; exact hX.tell hP z225 _ _
              have t7 := Eq.trans (congrArg Int32.toInt (show mv_i S228 3 7 = mv_i _ 3 7 by rw [eS228]; rfl)) t7
              have t8 := Eq.trans (congrArg Int32.toInt (show mv_i S228 3 8 = mv_i _ 3 8 by rw [eS228]; rfl)) t8
              have t9 := Eq.trans (congrArg Int32.toInt (show mv_i S228 3 9 = mv_i _ 3 9 by rw [eS228]; rfl)) t9
              have kp := Eq.trans (show mv_a S228 4 = mv_a _ 4 by rw [eS228]; rfl) kp
              clear eS228
              refine mv_aload_n (pc := 228) B d_Exprs_name_228 rfl 5 rfl ?_
              refine mv_iconst (pc := 229) (v := 0) B d_Exprs_name_229 (by decide) ?_
              refine mv_callVv (pc := 230) (n := 1) (ci := 6) (C := R_Exprs) B (mK_ok sk sv) hNs rfl rfl (c_Exprs_hold l hi _ _ hR.1 (by have := hX.1.2.2.1; omega) (by have := hX.1.2.2.1; omega)) rfl (ma_goodc kc_Exprs_hold) (B.2.2.2.1 _ k_1432) (B.2.2.2.1 _ k_1434) (B.2.2.2.1 _ ks_51) (B.2.2.2.1 _ k_7) ⟨by decide +kernel, by decide +kernel, by decide +kernel⟩ rfl d_Exprs_name_230 rfl (Nat.le_of_ble_eq_true rfl) ⟨by decide, by decide⟩ ⟨by decide, by decide⟩ ⟨by decide, by decide⟩ (mv_noH hno _) (fun σ230 h230 => ?_)
              subst h230
              refine mv_gen (fun S233 eS233 => ?_)
              have hR : Rw 48 (mv_r S233) := by rw [eS233]; exact hR
              have hF : RF 48 σ S233 := by rw [eS233]; exact hF.hold _
              have hX : XM 48 th e0 bs BL f0 g0 ns S233 (ms) (sm wt ms + 1) (sm wr ms + 1) (s0) := by rw [eS233]; exact hX.hold hP (by omega) _
              have t7 := Eq.trans (congrArg Int32.toInt (show mv_i S233 3 7 = mv_i _ 3 7 by rw [eS233]; rfl)) t7
              have t8 := Eq.trans (congrArg Int32.toInt (show mv_i S233 3 8 = mv_i _ 3 8 by rw [eS233]; rfl)) t8
              have t9 := Eq.trans (congrArg Int32.toInt (show mv_i S233 3 9 = mv_i _ 3 9 by rw [eS233]; rfl)) t9
              have kp := Eq.trans (show mv_a S233 4 = mv_a _ 4 by rw [eS233]; rfl) kp
              have hend : 0 ≤ (mv_i S233 3 9).toInt ∨ ∃ ms2 s2 a2, a < a2 ∧ XM 48 th e0 bs BL f0 g0 ns S233 (ms2) (sm wt ms2 + (1 : Int32).toNatClampNeg) (sm wr ms2 + (1 : Int32).toNatClampNeg) (s2) ∧ TI S233 sz bd ms2 s2 a2 := Or.inr ⟨ms, _, a + 1, by omega, hX, by omega, by omega, by omega, by omega, by omega, by omega, hWm.up (by omega)⟩
              clear eS233
              exact (j233 _ hF hX.1.2.2.2.1 hend)
            · skip
              have n1 := nm9.1 (Or.inl ((z43.resolve_left (fun q => by rw [q] at h180; exact absurd h180 (by decide))).symm.trans h180))
              have icl := i32_cl (x := ix) n1.1
              obtain ⟨c9, f9, hc9, hf9, hs1, hs2⟩ := hTh.2.2.2.2.2.2.1 ix.toNatClampNeg (by omega)
              have hf9 : (mv_a σ 51 ix.toNatClampNeg).toInt = f9 := hf9
              rw [← e33] at hf9
              refine mv_aload_n (pc := 183) B d_Exprs_name_183 rfl 5 rfl ?_
              refine mv_getR (pc := 184) (ci := 6) (C := R_Exprs) (T := F_Exprs) (N := 11) B 3 rfl rfl (by decide) i_Exprs (B.2.2.2.1 _ k_197) rfl hR.2.2.2 d_Exprs_name_184 ?_
              refine mv_sipush (pc := 187) (v := 303) B d_Exprs_name_187 (by decide) ?_
              refine mv_aload_n (pc := 190) B d_Exprs_name_190 rfl 5 rfl ?_
              refine mv_getR (pc := 191) (ci := 6) (C := R_Exprs) (T := F_Exprs) (N := 11) B 3 rfl rfl (by decide) i_Exprs (B.2.2.2.1 _ k_197) rfl hR.2.2.2 d_Exprs_name_191 ?_
              refine mv_getR (pc := 194) (ci := 7) (C := R_Program) (T := F_Program) (N := 19) B 4 rfl rfl (by decide) i_Program (B.2.2.2.1 _ k_328) rfl (hR.2.1 _ 4 51 rfl) d_Exprs_name_194 ?_
              refine mv_iload (pc := 197) B d_Exprs_name_197 0 rfl ?_
              refine mv_iald (pc := 199) B rfl (i32_in n1.1 (by omega)) d_Exprs_name_199 ?_
              refine mv_i2l (pc := 200) B d_Exprs_name_200 ?_
              refine mv_callVi (pc := 201) (n := 2) (ci := 7) (C := R_Program) B (mK_ok sk sv) hNs rfl rfl (c_Program_emit_b l hi _ _ _ hR.2.1 (by have := hX.2.1.1; omega) (by have := hX.2.1.1; omega)) rfl (ma_goodc kc_Program_emit) (B.2.2.2.1 _ k_1425) (B.2.2.2.1 _ k_1385) (B.2.2.2.1 _ k_1386) (B.2.2.2.1 _ k_8) ⟨by decide +kernel, by decide +kernel, by decide +kernel⟩ rfl d_Exprs_name_201 rfl (Nat.le_of_ble_eq_true rfl) ⟨by decide, by decide⟩ ⟨by decide, by decide⟩ ⟨by decide, by decide⟩ (mv_noH hno _) (fun v201 σ201 h201 => ?_)
              obtain ⟨e201, -⟩ := h201
              subst e201
              refine mv_gen (fun S204 eS204 => ?_)
              have hR : Rw 48 (mv_r S204) := by rw [eS204]; exact hR
              have hF : RF 48 σ S204 := by rw [eS204]; exact hF.emit _ _
              have hX : XM 48 th e0 bs BL f0 g0 ns S204 (ms) (sm wt ms) (sm wr ms + 1) (s0 + 1) := by rw [eS204]; exact hX.emit0 hP (by omega) (sm wr ms + 1) (by decide) (by decide) (Op1_reg th (by rw [lg_toInt, hf9]; omega) (bs + sm wr ms)) (by omega)
              have t7 := Eq.trans (congrArg Int32.toInt (show mv_i S204 3 7 = mv_i _ 3 7 by rw [eS204]; rfl)) t7
              have t8 := Eq.trans (congrArg Int32.toInt (show mv_i S204 3 8 = mv_i _ 3 8 by rw [eS204]; rfl)) t8
              have t9 := Eq.trans (congrArg Int32.toInt (show mv_i S204 3 9 = mv_i _ 3 9 by rw [eS204]; rfl)) t9
              have kp := Eq.trans (show mv_a S204 4 = mv_a _ 4 by rw [eS204]; rfl) kp
              clear eS204
              refine mv_pop (pc := 204) B d_Exprs_name_204 rfl ?_
              refine mv_aload_n (pc := 205) B d_Exprs_name_205 rfl 5 rfl ?_
              refine mv_aload_n (pc := 206) B d_Exprs_name_206 rfl 5 rfl ?_
              refine mv_getR (pc := 207) (ci := 6) (C := R_Exprs) (T := F_Exprs) (N := 11) B 3 rfl rfl (by decide) i_Exprs (B.2.2.2.1 _ k_197) rfl hR.2.2.2 d_Exprs_name_207 ?_
              refine mv_getR (pc := 210) (ci := 7) (C := R_Program) (T := F_Program) (N := 19) B 2 rfl rfl (by decide) i_Program (B.2.2.2.1 _ k_320) rfl (hR.2.1 _ 2 49 rfl) d_Exprs_name_210 ?_
              refine mv_iload (pc := 213) B d_Exprs_name_213 0 rfl ?_
              refine mv_iald (pc := 215) B rfl (i32_in n1.1 (by omega)) d_Exprs_name_215 ?_
              refine mv_callVv (pc := 216) (n := 1) (ci := 6) (C := R_Exprs) B (mK_ok sk sv) hNs rfl rfl (c_Exprs_hold l hi _ _ hR.1 (by have := hX.1.2.2.1; omega) (by have := hX.1.2.2.1; omega)) rfl (ma_goodc kc_Exprs_hold) (B.2.2.2.1 _ k_1432) (B.2.2.2.1 _ k_1434) (B.2.2.2.1 _ ks_51) (B.2.2.2.1 _ k_7) ⟨by decide +kernel, by decide +kernel, by decide +kernel⟩ rfl d_Exprs_name_216 rfl (Nat.le_of_ble_eq_true rfl) ⟨by decide, by decide⟩ ⟨by decide, by decide⟩ ⟨by decide, by decide⟩ (mv_noH hno _) (fun σ216 h216 => ?_)
              subst h216
              refine mv_gen (fun S219 eS219 => ?_)
              have hR : Rw 48 (mv_r S219) := by rw [eS219]; exact hR
              have hF : RF 48 σ S219 := by rw [eS219]; exact hF.hold _
              have hX : XM 48 th e0 bs BL f0 g0 ns S219 (ms) (sm wt ms + 1) (sm wr ms + 1) (s0 + 1) := by rw [eS219]; exact hX.hold hP (by omega) _
              have t7 := Eq.trans (congrArg Int32.toInt (show mv_i S219 3 7 = mv_i _ 3 7 by rw [eS219]; rfl)) t7
              have t8 := Eq.trans (congrArg Int32.toInt (show mv_i S219 3 8 = mv_i _ 3 8 by rw [eS219]; rfl)) t8
              have t9 := Eq.trans (congrArg Int32.toInt (show mv_i S219 3 9 = mv_i _ 3 9 by rw [eS219]; rfl)) t9
              have kp := Eq.trans (show mv_a S219 4 = mv_a _ 4 by rw [eS219]; rfl) kp
              have hend : 0 ≤ (mv_i S219 3 9).toInt ∨ ∃ ms2 s2 a2, a < a2 ∧ XM 48 th e0 bs BL f0 g0 ns S219 (ms2) (sm wt ms2 + (1 : Int32).toNatClampNeg) (sm wr ms2 + (1 : Int32).toNatClampNeg) (s2) ∧ TI S219 sz bd ms2 s2 a2 := Or.inr ⟨ms, _, a + 1, by omega, hX, by omega, by omega, by omega, by omega, by omega, by omega, hWm.up (by omega)⟩
              clear eS219
              refine mv_goto (pc := 219) (tgt := 233) B d_Exprs_name_219 rfl ?_
              exact (j233 _ hF hX.1.2.2.2.1 hend)
          · skip
            have n3 := nm9.2 ((z43.resolve_left (fun q => by rw [q] at h143; exact absurd h143 (by decide))).symm.trans h143)
            refine mv_aload_n (pc := 146) B d_Exprs_name_146 rfl 5 rfl ?_
            refine mv_getR (pc := 147) (ci := 6) (C := R_Exprs) (T := F_Exprs) (N := 11) B 3 rfl rfl (by decide) i_Exprs (B.2.2.2.1 _ k_197) rfl hR.2.2.2 d_Exprs_name_147 ?_
            refine mv_sipush (pc := 150) (v := 302) B d_Exprs_name_150 (by decide) ?_
            refine mv_iload (pc := 153) B d_Exprs_name_153 0 rfl ?_
            refine mv_i2l (pc := 155) B d_Exprs_name_155 ?_
            refine mv_callVi (pc := 156) (n := 2) (ci := 7) (C := R_Program) B (mK_ok sk sv) hNs rfl rfl (c_Program_emit_b l hi _ _ _ hR.2.1 (by have := hX.2.1.1; omega) (by have := hX.2.1.1; omega)) rfl (ma_goodc kc_Program_emit) (B.2.2.2.1 _ k_1425) (B.2.2.2.1 _ k_1385) (B.2.2.2.1 _ k_1386) (B.2.2.2.1 _ k_8) ⟨by decide +kernel, by decide +kernel, by decide +kernel⟩ rfl d_Exprs_name_156 rfl (Nat.le_of_ble_eq_true rfl) ⟨by decide, by decide⟩ ⟨by decide, by decide⟩ ⟨by decide, by decide⟩ (mv_noH hno _) (fun v156 σ156 h156 => ?_)
            obtain ⟨e156, -⟩ := h156
            subst e156
            refine mv_gen (fun S159 eS159 => ?_)
            have hR : Rw 48 (mv_r S159) := by rw [eS159]; exact hR
            have hF : RF 48 σ S159 := by rw [eS159]; exact hF.emit _ _
            have hX : XM 48 th e0 bs BL f0 g0 ns S159 (ms) (sm wt ms) (sm wr ms + 1) (s0 + 1) := by rw [eS159]; exact hX.emit0 hP (by omega) (sm wr ms + 1) (by decide) (by decide) (Op1_let th (by rw [lg_toInt]; exact n3) (bs + sm wr ms)) (by omega)
            have t7 := Eq.trans (congrArg Int32.toInt (show mv_i S159 3 7 = mv_i _ 3 7 by rw [eS159]; rfl)) t7
            have t8 := Eq.trans (congrArg Int32.toInt (show mv_i S159 3 8 = mv_i _ 3 8 by rw [eS159]; rfl)) t8
            have t9 := Eq.trans (congrArg Int32.toInt (show mv_i S159 3 9 = mv_i _ 3 9 by rw [eS159]; rfl)) t9
            have kp := Eq.trans (show mv_a S159 4 = mv_a _ 4 by rw [eS159]; rfl) kp
            clear eS159
            refine mv_pop (pc := 159) B d_Exprs_name_159 rfl ?_
            refine mv_aload_n (pc := 160) B d_Exprs_name_160 rfl 5 rfl ?_
            refine mv_aload_n (pc := 161) B d_Exprs_name_161 rfl 5 rfl ?_
            refine mv_getR (pc := 162) (ci := 6) (C := R_Exprs) (T := F_Exprs) (N := 11) B 1 rfl rfl (by decide) i_Exprs (B.2.2.2.1 _ k_194) rfl (hR.1 _ 1 _ rfl) d_Exprs_name_162 ?_
            refine mv_getR (pc := 165) (ci := 4) (C := R_Names) (T := F_Names) (N := 10) B 8 rfl rfl (by decide) i_Names (B.2.2.2.1 _ k_147) rfl (hR.1 _ 8 _ rfl) d_Exprs_name_165 ?_
            refine mv_iload (pc := 168) B d_Exprs_name_168 0 rfl ?_
            refine mv_iald (pc := 170) B rfl (i32_in n3.1 n3.2) d_Exprs_name_170 ?_
            refine mv_callVv (pc := 171) (n := 1) (ci := 6) (C := R_Exprs) B (mK_ok sk sv) hNs rfl rfl (c_Exprs_hold l hi _ _ hR.1 (by have := hX.1.2.2.1; omega) (by have := hX.1.2.2.1; omega)) rfl (ma_goodc kc_Exprs_hold) (B.2.2.2.1 _ k_1432) (B.2.2.2.1 _ k_1434) (B.2.2.2.1 _ ks_51) (B.2.2.2.1 _ k_7) ⟨by decide +kernel, by decide +kernel, by decide +kernel⟩ rfl d_Exprs_name_171 rfl (Nat.le_of_ble_eq_true rfl) ⟨by decide, by decide⟩ ⟨by decide, by decide⟩ ⟨by decide, by decide⟩ (mv_noH hno _) (fun σ171 h171 => ?_)
            subst h171
            refine mv_gen (fun S174 eS174 => ?_)
            have hR : Rw 48 (mv_r S174) := by rw [eS174]; exact hR
            have hF : RF 48 σ S174 := by rw [eS174]; exact hF.hold _
            have hX : XM 48 th e0 bs BL f0 g0 ns S174 (ms) (sm wt ms + 1) (sm wr ms + 1) (s0 + 1) := by rw [eS174]; exact hX.hold hP (by omega) _
            have t7 := Eq.trans (congrArg Int32.toInt (show mv_i S174 3 7 = mv_i _ 3 7 by rw [eS174]; rfl)) t7
            have t8 := Eq.trans (congrArg Int32.toInt (show mv_i S174 3 8 = mv_i _ 3 8 by rw [eS174]; rfl)) t8
            have t9 := Eq.trans (congrArg Int32.toInt (show mv_i S174 3 9 = mv_i _ 3 9 by rw [eS174]; rfl)) t9
            have kp := Eq.trans (show mv_a S174 4 = mv_a _ 4 by rw [eS174]; rfl) kp
            have hend : 0 ≤ (mv_i S174 3 9).toInt ∨ ∃ ms2 s2 a2, a < a2 ∧ XM 48 th e0 bs BL f0 g0 ns S174 (ms2) (sm wt ms2 + (1 : Int32).toNatClampNeg) (sm wr ms2 + (1 : Int32).toNatClampNeg) (s2) ∧ TI S174 sz bd ms2 s2 a2 := Or.inr ⟨ms, _, a + 1, by omega, hX, by omega, by omega, by omega, by omega, by omega, by omega, hWm.up (by omega)⟩
            clear eS174
            refine mv_goto (pc := 174) (tgt := 233) B d_Exprs_name_174 rfl ?_
            exact (j233 _ hF hX.1.2.2.2.1 hend)
        · skip
          refine mv_aload_n (pc := 105) B d_Exprs_name_105 rfl 5 rfl ?_
          refine mv_getR (pc := 106) (ci := 6) (C := R_Exprs) (T := F_Exprs) (N := 11) B 1 rfl rfl (by decide) i_Exprs (B.2.2.2.1 _ k_194) rfl (hR.1 _ 1 _ rfl) d_Exprs_name_106 ?_
          refine mv_iload_n (pc := 109) B d_Exprs_name_109 rfl 2 rfl ?_
          refine mv_callVl (pc := 110) (n := 1) (ci := 4) (C := R_Names) B (mK_ok sk sv) hNs rfl rfl (c_Names_maskOf l hi _ _ hR.1 n z (hB0.rf hF hP ht2).2.1.1 (by omega) (by omega)) rfl (ma_goodc kc_Names_maskOf) (B.2.2.2.1 _ k_1450) (B.2.2.2.1 _ k_1451) (B.2.2.2.1 _ k_1452) (B.2.2.2.1 _ k_5) ⟨by decide +kernel, by decide +kernel, by decide +kernel⟩ rfl d_Exprs_name_110 rfl (Nat.le_of_ble_eq_true rfl) ⟨by decide, by decide⟩ ⟨by decide, by decide⟩ ⟨by decide, by decide⟩ (mv_noH hno _) (fun v110 σ110 h110 => ?_)
          have h110 := h110.symm
          subst h110
          refine mv_lstore (pc := 113) B d_Exprs_name_113 (by decide) rfl ?_
          refine mv_aload_n (pc := 115) B d_Exprs_name_115 rfl 6 rfl ?_
          refine mv_getR (pc := 116) (ci := 6) (C := R_Exprs) (T := F_Exprs) (N := 11) B 3 rfl rfl (by decide) i_Exprs (B.2.2.2.1 _ k_197) rfl hR.2.2.2 d_Exprs_name_116 ?_
          refine mv_sipush (pc := 119) (v := 301) B d_Exprs_name_119 (by decide) ?_
          refine mv_lload (pc := 122) B d_Exprs_name_122 0 rfl ?_
          refine mv_callVi (pc := 124) (n := 2) (ci := 7) (C := R_Program) B (mK_ok sk sv) hNs rfl rfl (c_Program_emit_b l hi _ _ _ hR.2.1 (by have := hX.2.1.1; omega) (by have := hX.2.1.1; omega)) rfl (ma_goodc kc_Program_emit) (B.2.2.2.1 _ k_1425) (B.2.2.2.1 _ k_1385) (B.2.2.2.1 _ k_1386) (B.2.2.2.1 _ k_8) ⟨by decide +kernel, by decide +kernel, by decide +kernel⟩ rfl d_Exprs_name_124 rfl (Nat.le_of_ble_eq_true rfl) ⟨by decide, by decide⟩ ⟨by decide, by decide⟩ ⟨by decide, by decide⟩ (mv_noH hno _) (fun v124 σ124 h124 => ?_)
          obtain ⟨e124, -⟩ := h124
          subst e124
          refine mv_gen (fun S127 eS127 => ?_)
          have hR : Rw 48 (mv_r S127) := by rw [eS127]; exact hR
          have hF : RF 48 σ S127 := by rw [eS127]; exact hF.emit _ _
          have hX : XM 48 th e0 bs BL f0 g0 ns S127 (ms) (sm wt ms) (sm wr ms + 1) (s0 + 1) := by rw [eS127]; exact hX.emit0 hP (by omega) (sm wr ms + 1) (by decide) (by decide) (Op1_lit (Or.inr rfl) th _ (bs + sm wr ms)) (by omega)
          have t7 := Eq.trans (congrArg Int32.toInt (show mv_i S127 3 7 = mv_i _ 3 7 by rw [eS127]; rfl)) t7
          have t8 := Eq.trans (congrArg Int32.toInt (show mv_i S127 3 8 = mv_i _ 3 8 by rw [eS127]; rfl)) t8
          have t9 := Eq.trans (congrArg Int32.toInt (show mv_i S127 3 9 = mv_i _ 3 9 by rw [eS127]; rfl)) t9
          have kp := Eq.trans (show mv_a S127 4 = mv_a _ 4 by rw [eS127]; rfl) kp
          clear eS127
          refine mv_pop (pc := 127) B d_Exprs_name_127 rfl ?_
          refine mv_aload_n (pc := 128) B d_Exprs_name_128 rfl 6 rfl ?_
          refine mv_lload (pc := 129) B d_Exprs_name_129 0 rfl ?_
          refine mv_callSi (pc := 131) (n := 1) B (mK_ok sk sv) hNs (c_Long_bitCount l hi _ _) rfl (ma_goodc kc_Long_bitCount) (B.2.2.2.1 _ k_1454) (B.2.2.2.1 _ k_424) (B.2.2.2.1 _ k_10) ⟨by decide +kernel, by decide +kernel, by decide +kernel⟩ rfl d_Exprs_name_131 rfl (Nat.le_of_ble_eq_true rfl) ⟨by decide, by decide⟩ ⟨by decide, by decide⟩ ⟨by decide, by decide⟩ (mv_noH hno _) (fun v131 σ131 h131 => ?_)
          have h131 := h131.symm
          subst h131
          refine mv_callVv (pc := 134) (n := 1) (ci := 6) (C := R_Exprs) B (mK_ok sk sv) hNs rfl rfl (c_Exprs_hold l hi _ _ hR.1 (by have := hX.1.2.2.1; omega) (by have := hX.1.2.2.1; omega)) rfl (ma_goodc kc_Exprs_hold) (B.2.2.2.1 _ k_1432) (B.2.2.2.1 _ k_1434) (B.2.2.2.1 _ ks_51) (B.2.2.2.1 _ k_7) ⟨by decide +kernel, by decide +kernel, by decide +kernel⟩ rfl d_Exprs_name_134 rfl (Nat.le_of_ble_eq_true rfl) ⟨by decide, by decide⟩ ⟨by decide, by decide⟩ ⟨by decide, by decide⟩ (mv_noH hno _) (fun σ134 h134 => ?_)
          subst h134
          refine mv_gen (fun S137 eS137 => ?_)
          have hR : Rw 48 (mv_r S137) := by rw [eS137]; exact hR
          have hF : RF 48 σ S137 := by rw [eS137]; exact hF.hold _
          have hX : XM 48 th e0 bs BL f0 g0 ns S137 (ms) (sm wt ms + 1) (sm wr ms + 1) (s0 + 1) := by rw [eS137]; exact hX.hold hP (by omega) _
          have t7 := Eq.trans (congrArg Int32.toInt (show mv_i S137 3 7 = mv_i _ 3 7 by rw [eS137]; rfl)) t7
          have t8 := Eq.trans (congrArg Int32.toInt (show mv_i S137 3 8 = mv_i _ 3 8 by rw [eS137]; rfl)) t8
          have t9 := Eq.trans (congrArg Int32.toInt (show mv_i S137 3 9 = mv_i _ 3 9 by rw [eS137]; rfl)) t9
          have kp := Eq.trans (show mv_a S137 4 = mv_a _ 4 by rw [eS137]; rfl) kp
          have hend : 0 ≤ (mv_i S137 3 9).toInt ∨ ∃ ms2 s2 a2, a < a2 ∧ XM 48 th e0 bs BL f0 g0 ns S137 (ms2) (sm wt ms2 + (1 : Int32).toNatClampNeg) (sm wr ms2 + (1 : Int32).toNatClampNeg) (s2) ∧ TI S137 sz bd ms2 s2 a2 := Or.inr ⟨ms, _, a + 1, by omega, hX, by omega, by omega, by omega, by omega, by omega, by omega, hWm.up (by omega)⟩
          clear eS137
          refine mv_goto (pc := 137) (tgt := 233) B d_Exprs_name_137 rfl ?_
          exact (j233 _ hF hX.1.2.2.2.1 hend)
      · skip
        have n2 := nm9.1 (Or.inr ((z43.resolve_left (fun q => by rw [q] at h62; exact absurd h62 (by decide))).symm.trans h62))
        refine mv_aload_n (pc := 69) B d_Exprs_name_69 rfl 5 rfl ?_
        refine mv_bipush (pc := 70) (v := 91) B d_Exprs_name_70 (by decide) ?_
        refine mv_aload_n (pc := 72) B d_Exprs_name_72 rfl 5 rfl ?_
        refine mv_getR (pc := 73) (ci := 6) (C := R_Exprs) (T := F_Exprs) (N := 11) B 0 rfl rfl (by decide) i_Exprs (B.2.2.2.1 _ k_193) rfl (hR.1 _ 0 _ rfl) d_Exprs_name_73 ?_
        refine mv_bipush (pc := 76) (v := 91) B d_Exprs_name_76 (by decide) ?_
        refine mv_callVi (pc := 78) (n := 1) (ci := 2) (C := R_Tokens) B (mK_ok sk sv) hNs rfl rfl (c_Tokens_openN l hi _ _ hR.1 (hB0.rf hF hP ht2).2.1 (by omega) (by omega) (by decide)) rfl (ma_goodc kc_Tokens_open) (B.2.2.2.1 _ k_1415) (B.2.2.2.1 _ k_1350) (B.2.2.2.1 _ k_1351) (B.2.2.2.1 _ k_3) ⟨by decide +kernel, by decide +kernel, by decide +kernel⟩ rfl d_Exprs_name_78 rfl (Nat.le_of_ble_eq_true rfl) ⟨by decide, by decide⟩ ⟨by decide, by decide⟩ ⟨by decide, by decide⟩ (mv_noH hno _) (fun v78 σ78 h78 => ?_)
        obtain ⟨a78, w78, e78, r78⟩ := h78
        have q78 := r78.1
        have z78 := fun q => (r78.2.1 q).1
        have y78 := And.intro r78.2.2.2.1 r78.2.2.2.2.1
        subst e78
        refine mv_gen (fun S81 eS81 => ?_)
        have hR : Rw 48 (mv_r S81) := by rw [eS81]; exact hR
        have hF : RF 48 σ S81 := by rw [eS81]; exact hF.tk3 _ _ _
        have hX : XM 48 th e0 bs BL f0 g0 ns S81 (ms) (sm wt ms) (sm wr ms) (s0) := by rw [eS81]; exact hX.tk3 hP _ _ _
        have t7 : (mv_i S81 3 7).toInt = a78.toInt := by rw [eS81]; rfl
        have t8 : (mv_i S81 3 8).toInt = (mv_i σ 3 8).toInt + 1 := by rw [eS81]; first | exact t8 | exact (sub_one (by omega)).trans (by omega) | exact (i32_inc (by omega)).trans (by omega)
        have t9 : (mv_i S81 3 9).toInt = w78.toInt := by rw [eS81]; rfl
        have kS81 : mv_a S81 4 = mv_a σ 4 := by rw [eS81]; first | rfl | exact kp
        have kp := kS81
        have m5 : mv_i (ex_mark S81 91 v78) 22 8 - 1 = mv_i S81 22 8 := Int32.add_sub_cancel _ _
        have m6 := hX.1.1
        have m7 := hX.n
        clear eS81
        refine mv_callVv (pc := 81) (n := 2) (ci := 6) (C := R_Exprs) B (mK_ok sk sv) hNs rfl rfl (c_Exprs_mark l hi _ _ _ hR.1 (by have := hX.1.1; omega) (by have := hX.1.1; omega)) rfl (ma_goodc kc_Exprs_mark) (B.2.2.2.1 _ k_1416) (B.2.2.2.1 _ k_1418) (B.2.2.2.1 _ ks_48) (B.2.2.2.1 _ k_7) ⟨by decide +kernel, by decide +kernel, by decide +kernel⟩ rfl d_Exprs_name_81 rfl (Nat.le_of_ble_eq_true rfl) ⟨by decide, by decide⟩ ⟨by decide, by decide⟩ ⟨by decide, by decide⟩ (mv_noH hno _) (fun σ81 h81 => ?_)
        subst h81
        refine mv_aload_n (pc := 84) B d_Exprs_name_84 rfl 5 rfl ?_
        refine mv_getR (pc := 85) (ci := 6) (C := R_Exprs) (T := F_Exprs) (N := 11) B 6 rfl rfl (by decide) i_Exprs (B.2.2.2.1 _ k_200) rfl (hR.1 _ 6 _ rfl) d_Exprs_name_85 ?_
        refine mv_aload_n (pc := 88) B d_Exprs_name_88 rfl 5 rfl ?_
        refine mv_getI (pc := 89) (ci := 6) (C := R_Exprs) (T := F_Exprs) (N := 11) B 8 rfl rfl (by decide) i_Exprs (B.2.2.2.1 _ k_202) rfl d_Exprs_name_89 ?_
        refine mv_iconst (pc := 92) (v := 1) B d_Exprs_name_92 (by decide) ?_
        refine mv_isub (pc := 93) B d_Exprs_name_93 ?_
        refine mv_iload (pc := 94) B d_Exprs_name_94 0 rfl ?_
        refine mv_iast (pc := 96) B rfl (i32_in (show 0 ≤ (mv_i (ex_mark S81 91 v78) 22 8 - 1).toInt by rw [m5]; omega) (show (mv_i (ex_mark S81 91 v78) 22 8 - 1).toInt < 1024 by rw [m5]; omega)) d_Exprs_name_96 ?_
        refine mv_gen (fun S97 eS97 => ?_)
        have hR : Rw 48 (mv_r S97) := by rw [eS97]; exact hR
        have hF : RF 48 σ S97 := by rw [eS97]; exact hF.mark _ _ |>.row ⟨by omega, by omega⟩ _ _
        have hX : XM 48 th e0 bs BL f0 g0 ns S97 (((91, ix) : Mk) :: ms) (sm wt ms) (sm wr ms) (s0) := by rw [eS97]; exact hX.mark91 hP (by omega) (by rw [m5]; exact m7) ⟨y78.1, by omega⟩ n2
        have t7 := Eq.trans (congrArg Int32.toInt (show mv_i S97 3 7 = mv_i _ 3 7 by rw [eS97]; rfl)) t7
        have t8 := Eq.trans (congrArg Int32.toInt (show mv_i S97 3 8 = mv_i _ 3 8 by rw [eS97]; rfl)) t8
        have t9 := Eq.trans (congrArg Int32.toInt (show mv_i S97 3 9 = mv_i _ 3 9 by rw [eS97]; rfl)) t9
        have kp := Eq.trans (show mv_a S97 4 = mv_a _ 4 by rw [eS97]; rfl) kp
        have hend : 0 ≤ (mv_i S97 3 9).toInt ∨ ∃ ms2 s2 a2, a < a2 ∧ XM 48 th e0 bs BL f0 g0 ns S97 (ms2) (sm wt ms2 + (0 : Int32).toNatClampNeg) (sm wr ms2 + (0 : Int32).toNatClampNeg) (s2) ∧ TI S97 sz bd ms2 s2 a2 := by
          by_cases hw : (mv_i S97 3 9).toInt < 0
          · refine Or.inr ⟨((91, ix) : Mk) :: ms, s0, a + 2, by omega, ?_, by omega, hw, ?_, ?_, ?_, by omega, (hWm.up (by omega)).cons (fun q => absurd (show (91 : Int32) = 123 from q) (by decide))⟩
            · have y1 : sm wt (((91, ix) : Mk) :: ms) = sm wt ms := Nat.zero_add _
              have y2 : sm wr (((91, ix) : Mk) :: ms) = sm wr ms := Nat.zero_add _
              rw [y1, y2]
              exact hX
            · have y3 : sm wd (((91, ix) : Mk) :: ms) = 1 + sm wd ms := rfl
              omega
            · have := (r78.2.1 (by omega)).2.2.1
              have : ¬ (mv_i S26 3 8).toInt = 60 := fun q => this (Int32.toInt_inj.mp q)
              omega
            · have y4 : sm wc (((91, ix) : Mk) :: ms) = sm wc ms := Nat.zero_add _
              omega
          · exact Or.inl (by omega)
        clear eS97
        refine mv_iconst (pc := 97) (v := 0) B d_Exprs_name_97 (by decide) ?_
        exact mv_iret (pc := 98) B hr rfl d_Exprs_name_98 (Nat.le_refl _) (Nat.le_refl _) ⟨_, rfl, hF, hX.1.2.2.2.1, Or.inl rfl, hend⟩
  refine mv_aload_n (pc := 0) B d_Exprs_name_0 rfl 0 rfl ?_
  refine mv_getR (pc := 1) (ci := 6) (C := R_Exprs) (T := F_Exprs) (N := 11) B 0 rfl rfl (by decide) i_Exprs (B.2.2.2.1 _ k_193) rfl (hR.1 _ 0 _ rfl) d_Exprs_name_1 ?_
  refine mv_callVi (pc := 4) (n := 0) (ci := 2) (C := R_Tokens) B (mK_ok sk sv) hNs rfl rfl (c_Tokens_kindBehind l hi _ hR.1 (by omega) (by omega)) rfl (ma_goodc kc_Tokens_kindBehind) (B.2.2.2.1 _ k_1445) (B.2.2.2.1 _ k_1446) (B.2.2.2.1 _ k_1447) (B.2.2.2.1 _ k_3) ⟨by decide +kernel, by decide +kernel, by decide +kernel⟩ rfl d_Exprs_name_4 rfl (Nat.le_of_ble_eq_true rfl) ⟨by decide, by decide⟩ ⟨by decide, by decide⟩ ⟨by decide, by decide⟩ (mv_noH hno _) (fun v4 σ4 h4 => ?_)
  have h4 := h4.symm
  subst h4
  refine mv_bipush (pc := 7) (v := 91) B d_Exprs_name_7 (by decide) ?_
  refine mv_icmp_ne (pc := 9) (tgt := 16) B d_Exprs_name_9 rfl (fun h9 => ?_) (fun h9 => ?_)
  · skip
    refine mv_iconst (pc := 16) (v := 0) B d_Exprs_name_16 (by decide) ?_
    refine mv_lpick [0] rfl ?_
    exact j17 _
  · skip
    refine mv_iconst (pc := 12) (v := 1) B d_Exprs_name_12 (by decide) ?_
    refine mv_goto (pc := 13) (tgt := 17) B d_Exprs_name_13 rfl ?_
    refine mv_lpick [0] rfl ?_
    exact j17 _
set_option maxHeartbeats 4000000 in
set_option maxRecDepth 100000 in
theorem c_Exprs_name_c (l : Launch) {dA : FieldType → ClassId} {D : va_G} {al : Nat → Nat} {sk sv : Nat → Nat} (hi : mv_inj (mg dA D al me)) (σ : mv_H) {t len n z sz th sl e0 bs ns : Nat} {BL : (Nat → Nat) → Prop} {f0 : Nat → Int32} {g0 : Nat → Int64} {ms : List Mk} {s0 bd a : Nat} (hB0 : SB 145 σ t len n z sz th sl) (ht2 : t = 1 ∨ t = 144) (hX : XM 145 th e0 bs BL f0 g0 ns σ (ms) (sm wt ms + 0) (sm wr ms + 0) (s0)) (hI : TI σ sz bd ms s0 a) (hlen : len ≤ 8192) (hbs : bs ≤ 1) (hk3 : mv_a σ 4 (mv_i σ 3 7).toNatClampNeg = 3) : mv_C l y_Exprs_name (Cond.code y_Exprs_name b_Exprs_name 8 (Option.some Jvm.ClassFile.FieldType.boolean) :: ma) ({ frames := 3, cells := 0, slots := 0, locals := 63 }) (mg dA D al me) (mK sk sv) [.ref (al 22)] σ (mv_Ri (fun v σ1 => RF 145 σ σ1 ∧ Mt (mv_a σ1 24) ∧ (v = 0 ∨ v = 1) ∧ (0 ≤ (mv_i σ1 3 9).toInt ∨ ∃ ms2 s2 a2, a < a2 ∧ XM 145 th e0 bs BL f0 g0 ns σ1 (ms2) (sm wt ms2 + v.toNatClampNeg) (sm wr ms2 + v.toNatClampNeg) (s2) ∧ TI σ1 sz bd ms2 s2 a2))) := by
  refine mv_C.ofV (cc := b_Exprs_name) (nL := 8) (ret := (Option.some Jvm.ClassFile.FieldType.boolean)) (by decide +kernel) rfl hi (Nat.le_of_ble_eq_true rfl) ?_
  intro p e s m below meth c B hNs hr hnm hno
  have hP : PQ 145 := by unfold PQ; omega
  have hR := hB0.1
  have hF : RF 145 σ σ := RF0
  have hT : mv_i σ 3 = mv_i σ 3 := rfl
  have hsz := hB0.2.1.2.2.2.2.2
  have hsz2 := hB0.2.1.2.2.2.1
  have hI5 := hI.2.2.2.2.1
  have ha9 := hI.2.2.2.2.2.1
  have pl := hI.len hX
  have hm8 := hX.1.1
  have t7 := hI.1
  have hw9 := hI.2.1
  have t9 : (mv_i σ 3 9).toInt = (mv_i σ 3 9).toInt := rfl
  have hd8 := hI.2.2.1
  have hd9 := hI.2.2.2.1
  have hWm := hI.2.2.2.2.2.2
  have kp : mv_a σ 4 = mv_a σ 4 := rfl
  have t8 : (mv_i σ 3 8).toInt = (mv_i σ 3 8).toInt := rfl
  have kcl := i32_cl (x := mv_i σ 3 7) (by omega)
  have hla := hB0.2.1.last (a := (mv_i σ 3 7).toNatClampNeg) (by omega) hk3 (by decide) (by decide)
  have j233 : ∀ (υ : mv_H) (hF : RF 145 σ υ) (hM : Mt (mv_a υ 24)) (hend : 0 ≤ (mv_i υ 3 9).toInt ∨ ∃ ms2 s2 a2, a < a2 ∧ XM 145 th e0 bs BL f0 g0 ns υ (ms2) (sm wt ms2 + (1 : Int32).toNatClampNeg) (sm wr ms2 + (1 : Int32).toNatClampNeg) (s2) ∧ TI υ sz bd ms2 s2 a2) {L : List (Nat × Value)}, mv_V p l e ({ frames := 3, cells := 0, slots := 0, locals := 63 }) s m ([.ref (al 22)] : List Value).toArray below meth c (mg dA D al me) 8 0 0 (mv_Q (mg dA D al me) below s 0 0 (mv_Ri (fun v σ1 => RF 145 σ σ1 ∧ Mt (mv_a σ1 24) ∧ (v = 0 ∨ v = 1) ∧ (0 ≤ (mv_i σ1 3 9).toInt ∨ ∃ ms2 s2 a2, a < a2 ∧ XM 145 th e0 bs BL f0 g0 ns σ1 (ms2) (sm wt ms2 + v.toNatClampNeg) (sm wr ms2 + v.toNatClampNeg) (s2) ∧ TI σ1 sz bd ms2 s2 a2)))) υ 233 L [] := by
    intro υ hF hM hend L
    refine mv_iconst (pc := 233) (v := 1) B d_Exprs_name_233 (by decide) ?_
    exact mv_iret (pc := 234) B hr rfl d_Exprs_name_234 (Nat.le_refl _) (Nat.le_refl _) ⟨_, rfl, hF, hM, Or.inr rfl, hend⟩
  have j17 : ∀ (fl : Int32) , mv_V p l e ({ frames := 3, cells := 0, slots := 0, locals := 63 }) s m ([.ref (al 22)] : List Value).toArray below meth c (mg dA D al me) 8 0 0 (mv_Q (mg dA D al me) below s 0 0 (mv_Ri (fun v σ1 => RF 145 σ σ1 ∧ Mt (mv_a σ1 24) ∧ (v = 0 ∨ v = 1) ∧ (0 ≤ (mv_i σ1 3 9).toInt ∨ ∃ ms2 s2 a2, a < a2 ∧ XM 145 th e0 bs BL f0 g0 ns σ1 (ms2) (sm wt ms2 + v.toNatClampNeg) (sm wr ms2 + v.toNatClampNeg) (s2) ∧ TI σ1 sz bd ms2 s2 a2)))) σ 17 [(0, .ref (al 22))] [.int fl] := by
    intro fl
    refine mv_istore_n (pc := 17) B d_Exprs_name_17 rfl (by decide) rfl ?_
    refine mv_aload_n (pc := 18) B d_Exprs_name_18 rfl 1 rfl ?_
    refine mv_getR (pc := 19) (ci := 6) (C := R_Exprs) (T := F_Exprs) (N := 11) B 0 rfl rfl (by decide) i_Exprs (B.2.2.2.1 _ k_193) rfl (hR.1 _ 0 _ rfl) d_Exprs_name_19 ?_
    refine mv_iconst (pc := 22) (v := 3) B d_Exprs_name_22 (by decide) ?_
    refine mv_callVi (pc := 23) (n := 1) (ci := 2) (C := R_Tokens) B (mK_ok sk sv) hNs rfl rfl (c_Tokens_takeN l hi _ _ hR.1 (hB0.rf hF hP ht2).2.1 (by omega) (by omega) (by decide)) rfl (ma_goodc kc_Tokens_take) (B.2.2.2.1 _ k_1424) (B.2.2.2.1 _ k_1267) (B.2.2.2.1 _ k_1268) (B.2.2.2.1 _ k_3) ⟨by decide +kernel, by decide +kernel, by decide +kernel⟩ rfl d_Exprs_name_23 rfl (Nat.le_of_ble_eq_true rfl) ⟨by decide, by decide⟩ ⟨by decide, by decide⟩ ⟨by decide, by decide⟩ (mv_noH hno _) (fun v23 σ23 h23 => ?_)
    obtain ⟨a23, w23, e23, r23⟩ := h23
    have q23 := r23.1
    have z23 := fun q => (r23.2.1 q).1
    have y23 := And.intro r23.2.2.2.1 r23.2.2.2.2.1
    subst e23
    have hw23 := r23.2.2.1 hw9 hk3 trivial
    refine mv_gen (fun S26 eS26 => ?_)
    have hR : Rw 145 (mv_r S26) := by rw [eS26]; exact hR
    have hF : RF 145 σ S26 := by rw [eS26]; exact hF.tk3 _ _ _
    have hX : XM 145 th e0 bs BL f0 g0 ns S26 (ms) (sm wt ms) (sm wr ms) (s0) := by rw [eS26]; exact hX.tk3 hP _ _ _
    have t7 : (mv_i S26 3 7).toInt = a23.toInt := by rw [eS26]; rfl
    have t8 : (mv_i S26 3 8).toInt = (mv_i σ 3 8).toInt := by rw [eS26]; first | exact t8 | exact (sub_one (by omega)).trans (by omega) | exact (i32_inc (by omega)).trans (by omega)
    have t9 : (mv_i S26 3 9).toInt = w23.toInt := by rw [eS26]; rfl
    have kS26 : mv_a S26 4 = mv_a σ 4 := by rw [eS26]; first | rfl | exact kp
    have kp := kS26
    have sy := TkR.sym hB0.2.1 r23
    have s6 : mv_b S26 6 = mv_b σ 6 := by rw [eS26]; rfl
    obtain ⟨y9, ey9⟩ : ∃ y, y = mv_b S26 6 v23.toNatClampNeg := ⟨_, rfl⟩
    have sy : 0 ≤ y9.toInt ∧ y9.toInt < n := by rw [ey9, s6]; exact sy
    have hn16 := hB0.2.1.1.2.1
    have sy2 := l2i_nn (x := y9) sy.1 (by omega)
    have sy3 := i32_cl (x := y9.toInt32) (by omega)
    have e15 : mv_a S26 15 = mv_a σ 15 := by rw [eS26]; rfl
    have e14 : mv_a S26 14 = mv_a σ 14 := by rw [eS26]; rfl
    have nm9 := hB0.2.2.1 y9.toInt32.toNatClampNeg (by omega)
    rw [← e14, ← e15] at nm9
    obtain ⟨ix, eix⟩ : ∃ x, x = mv_a S26 15 y9.toInt32.toNatClampNeg := ⟨_, rfl⟩
    rw [← eix] at nm9
    have hTh := hB0.2.2.2
    have e33 : mv_a S26 148 = mv_a σ 148 := by rw [eS26]; rfl
    have ht64 := hTh.2.1
    have hsl := hTh.2.2.2.1
    clear eS26
    refine mv_istore_n (pc := 26) B d_Exprs_name_26 rfl (by decide) rfl ?_
    refine mv_aload_n (pc := 27) B d_Exprs_name_27 rfl 2 rfl ?_
    refine mv_getR (pc := 28) (ci := 6) (C := R_Exprs) (T := F_Exprs) (N := 11) B 0 rfl rfl (by decide) i_Exprs (B.2.2.2.1 _ k_193) rfl (hR.1 _ 0 _ rfl) d_Exprs_name_28 ?_
    refine mv_getR (pc := 31) (ci := 2) (C := R_Tokens) (T := F_Tokens) (N := 10) B 2 rfl rfl (by decide) i_Tokens (B.2.2.2.1 _ k_95) rfl (hR.1 _ 2 _ rfl) d_Exprs_name_31 ?_
    refine mv_iload_n (pc := 34) B d_Exprs_name_34 rfl 0 rfl ?_
    refine mv_lald (pc := 35) B rfl (i32_in y23.1 (by omega)) d_Exprs_name_35 ?_
    rw [← ey9]
    clear ey9
    refine mv_l2i (pc := 36) B d_Exprs_name_36 ?_
    refine mv_istore_n (pc := 37) B d_Exprs_name_37 rfl (by decide) rfl ?_
    refine mv_aload_n (pc := 38) B d_Exprs_name_38 rfl 3 rfl ?_
    refine mv_getR (pc := 39) (ci := 6) (C := R_Exprs) (T := F_Exprs) (N := 11) B 1 rfl rfl (by decide) i_Exprs (B.2.2.2.1 _ k_194) rfl (hR.1 _ 1 _ rfl) d_Exprs_name_39 ?_
    refine mv_iload_n (pc := 42) B d_Exprs_name_42 rfl 0 rfl ?_
    refine mv_callVi (pc := 43) (n := 1) (ci := 4) (C := R_Names) B (mK_ok sk sv) hNs rfl rfl (c_Names_kindOf l hi _ _ hR.1 n z (hB0.rf hF hP ht2).2.1.1 (by omega) (by omega)) rfl (ma_goodc kc_Names_kindOf) (B.2.2.2.1 _ k_1449) (B.2.2.2.1 _ k_1317) (B.2.2.2.1 _ k_1318) (B.2.2.2.1 _ k_5) ⟨by decide +kernel, by decide +kernel, by decide +kernel⟩ rfl d_Exprs_name_43 rfl (Nat.le_of_ble_eq_true rfl) ⟨by decide, by decide⟩ ⟨by decide, by decide⟩ ⟨by decide, by decide⟩ (mv_noH hno _) (fun v43 σ43 h43 => ?_)
    obtain ⟨e43, z43⟩ := h43
    have e43 := e43.symm
    subst e43
    refine mv_istore (pc := 46) B d_Exprs_name_46 (by decide) rfl ?_
    refine mv_aload_n (pc := 48) B d_Exprs_name_48 rfl 4 rfl ?_
    refine mv_getR (pc := 49) (ci := 6) (C := R_Exprs) (T := F_Exprs) (N := 11) B 1 rfl rfl (by decide) i_Exprs (B.2.2.2.1 _ k_194) rfl (hR.1 _ 1 _ rfl) d_Exprs_name_49 ?_
    refine mv_getR (pc := 52) (ci := 4) (C := R_Names) (T := F_Names) (N := 10) B 2 rfl rfl (by decide) i_Names (B.2.2.2.1 _ k_137) rfl (hR.1 _ 2 _ rfl) d_Exprs_name_52 ?_
    refine mv_iload_n (pc := 55) B d_Exprs_name_55 rfl 1 rfl ?_
    refine mv_iald (pc := 56) B rfl (i32_in (by omega) (by omega)) d_Exprs_name_56 ?_
    rw [← eix]
    clear eix
    refine mv_istore (pc := 57) B d_Exprs_name_57 (by decide) rfl ?_
    refine mv_iload (pc := 59) B d_Exprs_name_59 1 rfl ?_
    refine mv_iconst (pc := 61) (v := 2) B d_Exprs_name_61 (by decide) ?_
    refine mv_icmp_ne (pc := 62) (tgt := 99) B d_Exprs_name_62 rfl (fun h62 => ?_) (fun h62 => ?_)
    · skip
      refine mv_iload (pc := 99) B d_Exprs_name_99 1 rfl ?_
      refine mv_iconst (pc := 101) (v := 4) B d_Exprs_name_101 (by decide) ?_
      refine mv_icmp_ne (pc := 102) (tgt := 140) B d_Exprs_name_102 rfl (fun h102 => ?_) (fun h102 => ?_)
      · skip
        refine mv_iload (pc := 140) B d_Exprs_name_140 1 rfl ?_
        refine mv_iconst (pc := 142) (v := 3) B d_Exprs_name_142 (by decide) ?_
        refine mv_icmp_ne (pc := 143) (tgt := 177) B d_Exprs_name_143 rfl (fun h143 => ?_) (fun h143 => ?_)
        · skip
          refine mv_iload (pc := 177) B d_Exprs_name_177 1 rfl ?_
          refine mv_iconst (pc := 179) (v := 1) B d_Exprs_name_179 (by decide) ?_
          refine mv_icmp_ne (pc := 180) (tgt := 222) B d_Exprs_name_180 rfl (fun h180 => ?_) (fun h180 => ?_)
          · skip
            refine mv_aload_n (pc := 222) B d_Exprs_name_222 rfl 5 rfl ?_
            refine mv_iload_n (pc := 223) B d_Exprs_name_223 rfl 3 rfl ?_
            refine mv_iconst (pc := 224) (v := 2) B d_Exprs_name_224 (by decide) ?_
            refine mv_callVv (pc := 225) (n := 2) (ci := 6) (C := R_Exprs) B (mK_ok sk sv) hNs rfl rfl (c_Exprs_tell l hi _ _ _ hR.1 y23.1 (by omega) (by decide)) rfl (ma_goodc kc_Exprs_tell) (B.2.2.2.1 _ k_1427) (B.2.2.2.1 _ k_1429) (B.2.2.2.1 _ ks_50) (B.2.2.2.1 _ k_7) ⟨by decide +kernel, by decide +kernel, by decide +kernel⟩ rfl d_Exprs_name_225 rfl (Nat.le_of_ble_eq_true rfl) ⟨by decide, by decide⟩ ⟨by decide, by decide⟩ ⟨by decide, by decide⟩ (mv_noH hno _) (fun σ225 h225 => ?_)
            obtain ⟨x9, y9, e225, z225⟩ := h225
            subst e225
            refine mv_gen (fun S228 eS228 => ?_)
            have hR : Rw 145 (mv_r S228) := by rw [eS228]; exact hR
            have hF : RF 145 σ S228 := by rw [eS228]; exact hF.tell _ _
            have hX : XM 145 th e0 bs BL f0 g0 ns S228 (ms) (sm wt ms) (sm wr ms + 1) (s0) := by rw [eS228]; exact hX.tell hP z225 _ _
            have t7 := Eq.trans (congrArg Int32.toInt (show mv_i S228 3 7 = mv_i _ 3 7 by rw [eS228]; rfl)) t7
            have t8 := Eq.trans (congrArg Int32.toInt (show mv_i S228 3 8 = mv_i _ 3 8 by rw [eS228]; rfl)) t8
            have t9 := Eq.trans (congrArg Int32.toInt (show mv_i S228 3 9 = mv_i _ 3 9 by rw [eS228]; rfl)) t9
            have kp := Eq.trans (show mv_a S228 4 = mv_a _ 4 by rw [eS228]; rfl) kp
            clear eS228
            refine mv_aload_n (pc := 228) B d_Exprs_name_228 rfl 5 rfl ?_
            refine mv_iconst (pc := 229) (v := 0) B d_Exprs_name_229 (by decide) ?_
            refine mv_callVv (pc := 230) (n := 1) (ci := 6) (C := R_Exprs) B (mK_ok sk sv) hNs rfl rfl (c_Exprs_hold l hi _ _ hR.1 (by have := hX.1.2.2.1; omega) (by have := hX.1.2.2.1; omega)) rfl (ma_goodc kc_Exprs_hold) (B.2.2.2.1 _ k_1432) (B.2.2.2.1 _ k_1434) (B.2.2.2.1 _ ks_51) (B.2.2.2.1 _ k_7) ⟨by decide +kernel, by decide +kernel, by decide +kernel⟩ rfl d_Exprs_name_230 rfl (Nat.le_of_ble_eq_true rfl) ⟨by decide, by decide⟩ ⟨by decide, by decide⟩ ⟨by decide, by decide⟩ (mv_noH hno _) (fun σ230 h230 => ?_)
            subst h230
            refine mv_gen (fun S233 eS233 => ?_)
            have hR : Rw 145 (mv_r S233) := by rw [eS233]; exact hR
            have hF : RF 145 σ S233 := by rw [eS233]; exact hF.hold _
            have hX : XM 145 th e0 bs BL f0 g0 ns S233 (ms) (sm wt ms + 1) (sm wr ms + 1) (s0) := by rw [eS233]; exact hX.hold hP (by omega) _
            have t7 := Eq.trans (congrArg Int32.toInt (show mv_i S233 3 7 = mv_i _ 3 7 by rw [eS233]; rfl)) t7
            have t8 := Eq.trans (congrArg Int32.toInt (show mv_i S233 3 8 = mv_i _ 3 8 by rw [eS233]; rfl)) t8
            have t9 := Eq.trans (congrArg Int32.toInt (show mv_i S233 3 9 = mv_i _ 3 9 by rw [eS233]; rfl)) t9
            have kp := Eq.trans (show mv_a S233 4 = mv_a _ 4 by rw [eS233]; rfl) kp
            have hend : 0 ≤ (mv_i S233 3 9).toInt ∨ ∃ ms2 s2 a2, a < a2 ∧ XM 145 th e0 bs BL f0 g0 ns S233 (ms2) (sm wt ms2 + (1 : Int32).toNatClampNeg) (sm wr ms2 + (1 : Int32).toNatClampNeg) (s2) ∧ TI S233 sz bd ms2 s2 a2 := Or.inr ⟨ms, _, a + 1, by omega, hX, by omega, by omega, by omega, by omega, by omega, by omega, hWm.up (by omega)⟩
            clear eS233
            exact (j233 _ hF hX.1.2.2.2.1 hend)
          · skip
            have n1 := nm9.1 (Or.inl ((z43.resolve_left (fun q => by rw [q] at h180; exact absurd h180 (by decide))).symm.trans h180))
            have icl := i32_cl (x := ix) n1.1
            obtain ⟨c9, f9, hc9, hf9, hs1, hs2⟩ := hTh.2.2.2.2.2.2.1 ix.toNatClampNeg (by omega)
            have hf9 : (mv_a σ 148 ix.toNatClampNeg).toInt = f9 := hf9
            rw [← e33] at hf9
            refine mv_aload_n (pc := 183) B d_Exprs_name_183 rfl 5 rfl ?_
            refine mv_getR (pc := 184) (ci := 6) (C := R_Exprs) (T := F_Exprs) (N := 11) B 3 rfl rfl (by decide) i_Exprs (B.2.2.2.1 _ k_197) rfl hR.2.2.2 d_Exprs_name_184 ?_
            refine mv_sipush (pc := 187) (v := 303) B d_Exprs_name_187 (by decide) ?_
            refine mv_aload_n (pc := 190) B d_Exprs_name_190 rfl 5 rfl ?_
            refine mv_getR (pc := 191) (ci := 6) (C := R_Exprs) (T := F_Exprs) (N := 11) B 3 rfl rfl (by decide) i_Exprs (B.2.2.2.1 _ k_197) rfl hR.2.2.2 d_Exprs_name_191 ?_
            refine mv_getR (pc := 194) (ci := 7) (C := R_Program) (T := F_Program) (N := 19) B 4 rfl rfl (by decide) i_Program (B.2.2.2.1 _ k_328) rfl (hR.2.1 _ 4 148 rfl) d_Exprs_name_194 ?_
            refine mv_iload (pc := 197) B d_Exprs_name_197 0 rfl ?_
            refine mv_iald (pc := 199) B rfl (i32_in n1.1 (by omega)) d_Exprs_name_199 ?_
            refine mv_i2l (pc := 200) B d_Exprs_name_200 ?_
            refine mv_callVi (pc := 201) (n := 2) (ci := 7) (C := R_Program) B (mK_ok sk sv) hNs rfl rfl (c_Program_emit_c l hi _ _ _ hR.2.1 (by have := hX.2.1.1; omega) (by have := hX.2.1.1; omega)) rfl (ma_goodc kc_Program_emit) (B.2.2.2.1 _ k_1425) (B.2.2.2.1 _ k_1385) (B.2.2.2.1 _ k_1386) (B.2.2.2.1 _ k_8) ⟨by decide +kernel, by decide +kernel, by decide +kernel⟩ rfl d_Exprs_name_201 rfl (Nat.le_of_ble_eq_true rfl) ⟨by decide, by decide⟩ ⟨by decide, by decide⟩ ⟨by decide, by decide⟩ (mv_noH hno _) (fun v201 σ201 h201 => ?_)
            obtain ⟨e201, -⟩ := h201
            subst e201
            refine mv_gen (fun S204 eS204 => ?_)
            have hR : Rw 145 (mv_r S204) := by rw [eS204]; exact hR
            have hF : RF 145 σ S204 := by rw [eS204]; exact hF.emit _ _
            have hX : XM 145 th e0 bs BL f0 g0 ns S204 (ms) (sm wt ms) (sm wr ms + 1) (s0 + 1) := by rw [eS204]; exact hX.emit0 hP (by omega) (sm wr ms + 1) (by decide) (by decide) (Op1_reg th (by rw [lg_toInt, hf9]; omega) (bs + sm wr ms)) (by omega)
            have t7 := Eq.trans (congrArg Int32.toInt (show mv_i S204 3 7 = mv_i _ 3 7 by rw [eS204]; rfl)) t7
            have t8 := Eq.trans (congrArg Int32.toInt (show mv_i S204 3 8 = mv_i _ 3 8 by rw [eS204]; rfl)) t8
            have t9 := Eq.trans (congrArg Int32.toInt (show mv_i S204 3 9 = mv_i _ 3 9 by rw [eS204]; rfl)) t9
            have kp := Eq.trans (show mv_a S204 4 = mv_a _ 4 by rw [eS204]; rfl) kp
            clear eS204
            refine mv_pop (pc := 204) B d_Exprs_name_204 rfl ?_
            refine mv_aload_n (pc := 205) B d_Exprs_name_205 rfl 5 rfl ?_
            refine mv_aload_n (pc := 206) B d_Exprs_name_206 rfl 5 rfl ?_
            refine mv_getR (pc := 207) (ci := 6) (C := R_Exprs) (T := F_Exprs) (N := 11) B 3 rfl rfl (by decide) i_Exprs (B.2.2.2.1 _ k_197) rfl hR.2.2.2 d_Exprs_name_207 ?_
            refine mv_getR (pc := 210) (ci := 7) (C := R_Program) (T := F_Program) (N := 19) B 2 rfl rfl (by decide) i_Program (B.2.2.2.1 _ k_320) rfl (hR.2.1 _ 2 146 rfl) d_Exprs_name_210 ?_
            refine mv_iload (pc := 213) B d_Exprs_name_213 0 rfl ?_
            refine mv_iald (pc := 215) B rfl (i32_in n1.1 (by omega)) d_Exprs_name_215 ?_
            refine mv_callVv (pc := 216) (n := 1) (ci := 6) (C := R_Exprs) B (mK_ok sk sv) hNs rfl rfl (c_Exprs_hold l hi _ _ hR.1 (by have := hX.1.2.2.1; omega) (by have := hX.1.2.2.1; omega)) rfl (ma_goodc kc_Exprs_hold) (B.2.2.2.1 _ k_1432) (B.2.2.2.1 _ k_1434) (B.2.2.2.1 _ ks_51) (B.2.2.2.1 _ k_7) ⟨by decide +kernel, by decide +kernel, by decide +kernel⟩ rfl d_Exprs_name_216 rfl (Nat.le_of_ble_eq_true rfl) ⟨by decide, by decide⟩ ⟨by decide, by decide⟩ ⟨by decide, by decide⟩ (mv_noH hno _) (fun σ216 h216 => ?_)
            subst h216
            refine mv_gen (fun S219 eS219 => ?_)
            have hR : Rw 145 (mv_r S219) := by rw [eS219]; exact hR
            have hF : RF 145 σ S219 := by rw [eS219]; exact hF.hold _
            have hX : XM 145 th e0 bs BL f0 g0 ns S219 (ms) (sm wt ms + 1) (sm wr ms + 1) (s0 + 1) := by rw [eS219]; exact hX.hold hP (by omega) _
            have t7 := Eq.trans (congrArg Int32.toInt (show mv_i S219 3 7 = mv_i _ 3 7 by rw [eS219]; rfl)) t7
            have t8 := Eq.trans (congrArg Int32.toInt (show mv_i S219 3 8 = mv_i _ 3 8 by rw [eS219]; rfl)) t8
            have t9 := Eq.trans (congrArg Int32.toInt (show mv_i S219 3 9 = mv_i _ 3 9 by rw [eS219]; rfl)) t9
            have kp := Eq.trans (show mv_a S219 4 = mv_a _ 4 by rw [eS219]; rfl) kp
            have hend : 0 ≤ (mv_i S219 3 9).toInt ∨ ∃ ms2 s2 a2, a < a2 ∧ XM 145 th e0 bs BL f0 g0 ns S219 (ms2) (sm wt ms2 + (1 : Int32).toNatClampNeg) (sm wr ms2 + (1 : Int32).toNatClampNeg) (s2) ∧ TI S219 sz bd ms2 s2 a2 := Or.inr ⟨ms, _, a + 1, by omega, hX, by omega, by omega, by omega, by omega, by omega, by omega, hWm.up (by omega)⟩
            clear eS219
            refine mv_goto (pc := 219) (tgt := 233) B d_Exprs_name_219 rfl ?_
            exact (j233 _ hF hX.1.2.2.2.1 hend)
        · skip
          have n3 := nm9.2 ((z43.resolve_left (fun q => by rw [q] at h143; exact absurd h143 (by decide))).symm.trans h143)
          refine mv_aload_n (pc := 146) B d_Exprs_name_146 rfl 5 rfl ?_
          refine mv_getR (pc := 147) (ci := 6) (C := R_Exprs) (T := F_Exprs) (N := 11) B 3 rfl rfl (by decide) i_Exprs (B.2.2.2.1 _ k_197) rfl hR.2.2.2 d_Exprs_name_147 ?_
          refine mv_sipush (pc := 150) (v := 302) B d_Exprs_name_150 (by decide) ?_
          refine mv_iload (pc := 153) B d_Exprs_name_153 0 rfl ?_
          refine mv_i2l (pc := 155) B d_Exprs_name_155 ?_
          refine mv_callVi (pc := 156) (n := 2) (ci := 7) (C := R_Program) B (mK_ok sk sv) hNs rfl rfl (c_Program_emit_c l hi _ _ _ hR.2.1 (by have := hX.2.1.1; omega) (by have := hX.2.1.1; omega)) rfl (ma_goodc kc_Program_emit) (B.2.2.2.1 _ k_1425) (B.2.2.2.1 _ k_1385) (B.2.2.2.1 _ k_1386) (B.2.2.2.1 _ k_8) ⟨by decide +kernel, by decide +kernel, by decide +kernel⟩ rfl d_Exprs_name_156 rfl (Nat.le_of_ble_eq_true rfl) ⟨by decide, by decide⟩ ⟨by decide, by decide⟩ ⟨by decide, by decide⟩ (mv_noH hno _) (fun v156 σ156 h156 => ?_)
          obtain ⟨e156, -⟩ := h156
          subst e156
          refine mv_gen (fun S159 eS159 => ?_)
          have hR : Rw 145 (mv_r S159) := by rw [eS159]; exact hR
          have hF : RF 145 σ S159 := by rw [eS159]; exact hF.emit _ _
          have hX : XM 145 th e0 bs BL f0 g0 ns S159 (ms) (sm wt ms) (sm wr ms + 1) (s0 + 1) := by rw [eS159]; exact hX.emit0 hP (by omega) (sm wr ms + 1) (by decide) (by decide) (Op1_let th (by rw [lg_toInt]; exact n3) (bs + sm wr ms)) (by omega)
          have t7 := Eq.trans (congrArg Int32.toInt (show mv_i S159 3 7 = mv_i _ 3 7 by rw [eS159]; rfl)) t7
          have t8 := Eq.trans (congrArg Int32.toInt (show mv_i S159 3 8 = mv_i _ 3 8 by rw [eS159]; rfl)) t8
          have t9 := Eq.trans (congrArg Int32.toInt (show mv_i S159 3 9 = mv_i _ 3 9 by rw [eS159]; rfl)) t9
          have kp := Eq.trans (show mv_a S159 4 = mv_a _ 4 by rw [eS159]; rfl) kp
          clear eS159
          refine mv_pop (pc := 159) B d_Exprs_name_159 rfl ?_
          refine mv_aload_n (pc := 160) B d_Exprs_name_160 rfl 5 rfl ?_
          refine mv_aload_n (pc := 161) B d_Exprs_name_161 rfl 5 rfl ?_
          refine mv_getR (pc := 162) (ci := 6) (C := R_Exprs) (T := F_Exprs) (N := 11) B 1 rfl rfl (by decide) i_Exprs (B.2.2.2.1 _ k_194) rfl (hR.1 _ 1 _ rfl) d_Exprs_name_162 ?_
          refine mv_getR (pc := 165) (ci := 4) (C := R_Names) (T := F_Names) (N := 10) B 8 rfl rfl (by decide) i_Names (B.2.2.2.1 _ k_147) rfl (hR.1 _ 8 _ rfl) d_Exprs_name_165 ?_
          refine mv_iload (pc := 168) B d_Exprs_name_168 0 rfl ?_
          refine mv_iald (pc := 170) B rfl (i32_in n3.1 n3.2) d_Exprs_name_170 ?_
          refine mv_callVv (pc := 171) (n := 1) (ci := 6) (C := R_Exprs) B (mK_ok sk sv) hNs rfl rfl (c_Exprs_hold l hi _ _ hR.1 (by have := hX.1.2.2.1; omega) (by have := hX.1.2.2.1; omega)) rfl (ma_goodc kc_Exprs_hold) (B.2.2.2.1 _ k_1432) (B.2.2.2.1 _ k_1434) (B.2.2.2.1 _ ks_51) (B.2.2.2.1 _ k_7) ⟨by decide +kernel, by decide +kernel, by decide +kernel⟩ rfl d_Exprs_name_171 rfl (Nat.le_of_ble_eq_true rfl) ⟨by decide, by decide⟩ ⟨by decide, by decide⟩ ⟨by decide, by decide⟩ (mv_noH hno _) (fun σ171 h171 => ?_)
          subst h171
          refine mv_gen (fun S174 eS174 => ?_)
          have hR : Rw 145 (mv_r S174) := by rw [eS174]; exact hR
          have hF : RF 145 σ S174 := by rw [eS174]; exact hF.hold _
          have hX : XM 145 th e0 bs BL f0 g0 ns S174 (ms) (sm wt ms + 1) (sm wr ms + 1) (s0 + 1) := by rw [eS174]; exact hX.hold hP (by omega) _
          have t7 := Eq.trans (congrArg Int32.toInt (show mv_i S174 3 7 = mv_i _ 3 7 by rw [eS174]; rfl)) t7
          have t8 := Eq.trans (congrArg Int32.toInt (show mv_i S174 3 8 = mv_i _ 3 8 by rw [eS174]; rfl)) t8
          have t9 := Eq.trans (congrArg Int32.toInt (show mv_i S174 3 9 = mv_i _ 3 9 by rw [eS174]; rfl)) t9
          have kp := Eq.trans (show mv_a S174 4 = mv_a _ 4 by rw [eS174]; rfl) kp
          have hend : 0 ≤ (mv_i S174 3 9).toInt ∨ ∃ ms2 s2 a2, a < a2 ∧ XM 145 th e0 bs BL f0 g0 ns S174 (ms2) (sm wt ms2 + (1 : Int32).toNatClampNeg) (sm wr ms2 + (1 : Int32).toNatClampNeg) (s2) ∧ TI S174 sz bd ms2 s2 a2 := Or.inr ⟨ms, _, a + 1, by omega, hX, by omega, by omega, by omega, by omega, by omega, by omega, hWm.up (by omega)⟩
          clear eS174
          refine mv_goto (pc := 174) (tgt := 233) B d_Exprs_name_174 rfl ?_
          exact (j233 _ hF hX.1.2.2.2.1 hend)
      · skip
        refine mv_aload_n (pc := 105) B d_Exprs_name_105 rfl 5 rfl ?_
        refine mv_getR (pc := 106) (ci := 6) (C := R_Exprs) (T := F_Exprs) (N := 11) B 1 rfl rfl (by decide) i_Exprs (B.2.2.2.1 _ k_194) rfl (hR.1 _ 1 _ rfl) d_Exprs_name_106 ?_
        refine mv_iload_n (pc := 109) B d_Exprs_name_109 rfl 2 rfl ?_
        refine mv_callVl (pc := 110) (n := 1) (ci := 4) (C := R_Names) B (mK_ok sk sv) hNs rfl rfl (c_Names_maskOf l hi _ _ hR.1 n z (hB0.rf hF hP ht2).2.1.1 (by omega) (by omega)) rfl (ma_goodc kc_Names_maskOf) (B.2.2.2.1 _ k_1450) (B.2.2.2.1 _ k_1451) (B.2.2.2.1 _ k_1452) (B.2.2.2.1 _ k_5) ⟨by decide +kernel, by decide +kernel, by decide +kernel⟩ rfl d_Exprs_name_110 rfl (Nat.le_of_ble_eq_true rfl) ⟨by decide, by decide⟩ ⟨by decide, by decide⟩ ⟨by decide, by decide⟩ (mv_noH hno _) (fun v110 σ110 h110 => ?_)
        have h110 := h110.symm
        subst h110
        refine mv_lstore (pc := 113) B d_Exprs_name_113 (by decide) rfl ?_
        refine mv_aload_n (pc := 115) B d_Exprs_name_115 rfl 6 rfl ?_
        refine mv_getR (pc := 116) (ci := 6) (C := R_Exprs) (T := F_Exprs) (N := 11) B 3 rfl rfl (by decide) i_Exprs (B.2.2.2.1 _ k_197) rfl hR.2.2.2 d_Exprs_name_116 ?_
        refine mv_sipush (pc := 119) (v := 301) B d_Exprs_name_119 (by decide) ?_
        refine mv_lload (pc := 122) B d_Exprs_name_122 0 rfl ?_
        refine mv_callVi (pc := 124) (n := 2) (ci := 7) (C := R_Program) B (mK_ok sk sv) hNs rfl rfl (c_Program_emit_c l hi _ _ _ hR.2.1 (by have := hX.2.1.1; omega) (by have := hX.2.1.1; omega)) rfl (ma_goodc kc_Program_emit) (B.2.2.2.1 _ k_1425) (B.2.2.2.1 _ k_1385) (B.2.2.2.1 _ k_1386) (B.2.2.2.1 _ k_8) ⟨by decide +kernel, by decide +kernel, by decide +kernel⟩ rfl d_Exprs_name_124 rfl (Nat.le_of_ble_eq_true rfl) ⟨by decide, by decide⟩ ⟨by decide, by decide⟩ ⟨by decide, by decide⟩ (mv_noH hno _) (fun v124 σ124 h124 => ?_)
        obtain ⟨e124, -⟩ := h124
        subst e124
        refine mv_gen (fun S127 eS127 => ?_)
        have hR : Rw 145 (mv_r S127) := by rw [eS127]; exact hR
        have hF : RF 145 σ S127 := by rw [eS127]; exact hF.emit _ _
        have hX : XM 145 th e0 bs BL f0 g0 ns S127 (ms) (sm wt ms) (sm wr ms + 1) (s0 + 1) := by rw [eS127]; exact hX.emit0 hP (by omega) (sm wr ms + 1) (by decide) (by decide) (Op1_lit (Or.inr rfl) th _ (bs + sm wr ms)) (by omega)
        have t7 := Eq.trans (congrArg Int32.toInt (show mv_i S127 3 7 = mv_i _ 3 7 by rw [eS127]; rfl)) t7
        have t8 := Eq.trans (congrArg Int32.toInt (show mv_i S127 3 8 = mv_i _ 3 8 by rw [eS127]; rfl)) t8
        have t9 := Eq.trans (congrArg Int32.toInt (show mv_i S127 3 9 = mv_i _ 3 9 by rw [eS127]; rfl)) t9
        have kp := Eq.trans (show mv_a S127 4 = mv_a _ 4 by rw [eS127]; rfl) kp
        clear eS127
        refine mv_pop (pc := 127) B d_Exprs_name_127 rfl ?_
        refine mv_aload_n (pc := 128) B d_Exprs_name_128 rfl 6 rfl ?_
        refine mv_lload (pc := 129) B d_Exprs_name_129 0 rfl ?_
        refine mv_callSi (pc := 131) (n := 1) B (mK_ok sk sv) hNs (c_Long_bitCount l hi _ _) rfl (ma_goodc kc_Long_bitCount) (B.2.2.2.1 _ k_1454) (B.2.2.2.1 _ k_424) (B.2.2.2.1 _ k_10) ⟨by decide +kernel, by decide +kernel, by decide +kernel⟩ rfl d_Exprs_name_131 rfl (Nat.le_of_ble_eq_true rfl) ⟨by decide, by decide⟩ ⟨by decide, by decide⟩ ⟨by decide, by decide⟩ (mv_noH hno _) (fun v131 σ131 h131 => ?_)
        have h131 := h131.symm
        subst h131
        refine mv_callVv (pc := 134) (n := 1) (ci := 6) (C := R_Exprs) B (mK_ok sk sv) hNs rfl rfl (c_Exprs_hold l hi _ _ hR.1 (by have := hX.1.2.2.1; omega) (by have := hX.1.2.2.1; omega)) rfl (ma_goodc kc_Exprs_hold) (B.2.2.2.1 _ k_1432) (B.2.2.2.1 _ k_1434) (B.2.2.2.1 _ ks_51) (B.2.2.2.1 _ k_7) ⟨by decide +kernel, by decide +kernel, by decide +kernel⟩ rfl d_Exprs_name_134 rfl (Nat.le_of_ble_eq_true rfl) ⟨by decide, by decide⟩ ⟨by decide, by decide⟩ ⟨by decide, by decide⟩ (mv_noH hno _) (fun σ134 h134 => ?_)
        subst h134
        refine mv_gen (fun S137 eS137 => ?_)
        have hR : Rw 145 (mv_r S137) := by rw [eS137]; exact hR
        have hF : RF 145 σ S137 := by rw [eS137]; exact hF.hold _
        have hX : XM 145 th e0 bs BL f0 g0 ns S137 (ms) (sm wt ms + 1) (sm wr ms + 1) (s0 + 1) := by rw [eS137]; exact hX.hold hP (by omega) _
        have t7 := Eq.trans (congrArg Int32.toInt (show mv_i S137 3 7 = mv_i _ 3 7 by rw [eS137]; rfl)) t7
        have t8 := Eq.trans (congrArg Int32.toInt (show mv_i S137 3 8 = mv_i _ 3 8 by rw [eS137]; rfl)) t8
        have t9 := Eq.trans (congrArg Int32.toInt (show mv_i S137 3 9 = mv_i _ 3 9 by rw [eS137]; rfl)) t9
        have kp := Eq.trans (show mv_a S137 4 = mv_a _ 4 by rw [eS137]; rfl) kp
        have hend : 0 ≤ (mv_i S137 3 9).toInt ∨ ∃ ms2 s2 a2, a < a2 ∧ XM 145 th e0 bs BL f0 g0 ns S137 (ms2) (sm wt ms2 + (1 : Int32).toNatClampNeg) (sm wr ms2 + (1 : Int32).toNatClampNeg) (s2) ∧ TI S137 sz bd ms2 s2 a2 := Or.inr ⟨ms, _, a + 1, by omega, hX, by omega, by omega, by omega, by omega, by omega, by omega, hWm.up (by omega)⟩
        clear eS137
        refine mv_goto (pc := 137) (tgt := 233) B d_Exprs_name_137 rfl ?_
        exact (j233 _ hF hX.1.2.2.2.1 hend)
    · skip
      refine mv_iload_n (pc := 65) B d_Exprs_name_65 rfl 4 rfl ?_
      refine mv_if_eq (pc := 66) (tgt := 99) B d_Exprs_name_66 rfl (fun h66 => ?_) (fun h66 => ?_)
      · skip
        refine mv_iload (pc := 99) B d_Exprs_name_99 1 rfl ?_
        refine mv_iconst (pc := 101) (v := 4) B d_Exprs_name_101 (by decide) ?_
        refine mv_icmp_ne (pc := 102) (tgt := 140) B d_Exprs_name_102 rfl (fun h102 => ?_) (fun h102 => ?_)
        · skip
          refine mv_iload (pc := 140) B d_Exprs_name_140 1 rfl ?_
          refine mv_iconst (pc := 142) (v := 3) B d_Exprs_name_142 (by decide) ?_
          refine mv_icmp_ne (pc := 143) (tgt := 177) B d_Exprs_name_143 rfl (fun h143 => ?_) (fun h143 => ?_)
          · skip
            refine mv_iload (pc := 177) B d_Exprs_name_177 1 rfl ?_
            refine mv_iconst (pc := 179) (v := 1) B d_Exprs_name_179 (by decide) ?_
            refine mv_icmp_ne (pc := 180) (tgt := 222) B d_Exprs_name_180 rfl (fun h180 => ?_) (fun h180 => ?_)
            · skip
              refine mv_aload_n (pc := 222) B d_Exprs_name_222 rfl 5 rfl ?_
              refine mv_iload_n (pc := 223) B d_Exprs_name_223 rfl 3 rfl ?_
              refine mv_iconst (pc := 224) (v := 2) B d_Exprs_name_224 (by decide) ?_
              refine mv_callVv (pc := 225) (n := 2) (ci := 6) (C := R_Exprs) B (mK_ok sk sv) hNs rfl rfl (c_Exprs_tell l hi _ _ _ hR.1 y23.1 (by omega) (by decide)) rfl (ma_goodc kc_Exprs_tell) (B.2.2.2.1 _ k_1427) (B.2.2.2.1 _ k_1429) (B.2.2.2.1 _ ks_50) (B.2.2.2.1 _ k_7) ⟨by decide +kernel, by decide +kernel, by decide +kernel⟩ rfl d_Exprs_name_225 rfl (Nat.le_of_ble_eq_true rfl) ⟨by decide, by decide⟩ ⟨by decide, by decide⟩ ⟨by decide, by decide⟩ (mv_noH hno _) (fun σ225 h225 => ?_)
              obtain ⟨x9, y9, e225, z225⟩ := h225
              subst e225
              refine mv_gen (fun S228 eS228 => ?_)
              have hR : Rw 145 (mv_r S228) := by rw [eS228]; exact hR
              have hF : RF 145 σ S228 := by rw [eS228]; exact hF.tell _ _
              have hX : XM 145 th e0 bs BL f0 g0 ns S228 (ms) (sm wt ms) (sm wr ms + 1) (s0) := by rw [eS228]; exact hX.tell hP z225 _ _
              have t7 := Eq.trans (congrArg Int32.toInt (show mv_i S228 3 7 = mv_i _ 3 7 by rw [eS228]; rfl)) t7
              have t8 := Eq.trans (congrArg Int32.toInt (show mv_i S228 3 8 = mv_i _ 3 8 by rw [eS228]; rfl)) t8
              have t9 := Eq.trans (congrArg Int32.toInt (show mv_i S228 3 9 = mv_i _ 3 9 by rw [eS228]; rfl)) t9
              have kp := Eq.trans (show mv_a S228 4 = mv_a _ 4 by rw [eS228]; rfl) kp
              clear eS228
              refine mv_aload_n (pc := 228) B d_Exprs_name_228 rfl 5 rfl ?_
              refine mv_iconst (pc := 229) (v := 0) B d_Exprs_name_229 (by decide) ?_
              refine mv_callVv (pc := 230) (n := 1) (ci := 6) (C := R_Exprs) B (mK_ok sk sv) hNs rfl rfl (c_Exprs_hold l hi _ _ hR.1 (by have := hX.1.2.2.1; omega) (by have := hX.1.2.2.1; omega)) rfl (ma_goodc kc_Exprs_hold) (B.2.2.2.1 _ k_1432) (B.2.2.2.1 _ k_1434) (B.2.2.2.1 _ ks_51) (B.2.2.2.1 _ k_7) ⟨by decide +kernel, by decide +kernel, by decide +kernel⟩ rfl d_Exprs_name_230 rfl (Nat.le_of_ble_eq_true rfl) ⟨by decide, by decide⟩ ⟨by decide, by decide⟩ ⟨by decide, by decide⟩ (mv_noH hno _) (fun σ230 h230 => ?_)
              subst h230
              refine mv_gen (fun S233 eS233 => ?_)
              have hR : Rw 145 (mv_r S233) := by rw [eS233]; exact hR
              have hF : RF 145 σ S233 := by rw [eS233]; exact hF.hold _
              have hX : XM 145 th e0 bs BL f0 g0 ns S233 (ms) (sm wt ms + 1) (sm wr ms + 1) (s0) := by rw [eS233]; exact hX.hold hP (by omega) _
              have t7 := Eq.trans (congrArg Int32.toInt (show mv_i S233 3 7 = mv_i _ 3 7 by rw [eS233]; rfl)) t7
              have t8 := Eq.trans (congrArg Int32.toInt (show mv_i S233 3 8 = mv_i _ 3 8 by rw [eS233]; rfl)) t8
              have t9 := Eq.trans (congrArg Int32.toInt (show mv_i S233 3 9 = mv_i _ 3 9 by rw [eS233]; rfl)) t9
              have kp := Eq.trans (show mv_a S233 4 = mv_a _ 4 by rw [eS233]; rfl) kp
              have hend : 0 ≤ (mv_i S233 3 9).toInt ∨ ∃ ms2 s2 a2, a < a2 ∧ XM 145 th e0 bs BL f0 g0 ns S233 (ms2) (sm wt ms2 + (1 : Int32).toNatClampNeg) (sm wr ms2 + (1 : Int32).toNatClampNeg) (s2) ∧ TI S233 sz bd ms2 s2 a2 := Or.inr ⟨ms, _, a + 1, by omega, hX, by omega, by omega, by omega, by omega, by omega, by omega, hWm.up (by omega)⟩
              clear eS233
              exact (j233 _ hF hX.1.2.2.2.1 hend)
            · skip
              have n1 := nm9.1 (Or.inl ((z43.resolve_left (fun q => by rw [q] at h180; exact absurd h180 (by decide))).symm.trans h180))
              have icl := i32_cl (x := ix) n1.1
              obtain ⟨c9, f9, hc9, hf9, hs1, hs2⟩ := hTh.2.2.2.2.2.2.1 ix.toNatClampNeg (by omega)
              have hf9 : (mv_a σ 148 ix.toNatClampNeg).toInt = f9 := hf9
              rw [← e33] at hf9
              refine mv_aload_n (pc := 183) B d_Exprs_name_183 rfl 5 rfl ?_
              refine mv_getR (pc := 184) (ci := 6) (C := R_Exprs) (T := F_Exprs) (N := 11) B 3 rfl rfl (by decide) i_Exprs (B.2.2.2.1 _ k_197) rfl hR.2.2.2 d_Exprs_name_184 ?_
              refine mv_sipush (pc := 187) (v := 303) B d_Exprs_name_187 (by decide) ?_
              refine mv_aload_n (pc := 190) B d_Exprs_name_190 rfl 5 rfl ?_
              refine mv_getR (pc := 191) (ci := 6) (C := R_Exprs) (T := F_Exprs) (N := 11) B 3 rfl rfl (by decide) i_Exprs (B.2.2.2.1 _ k_197) rfl hR.2.2.2 d_Exprs_name_191 ?_
              refine mv_getR (pc := 194) (ci := 7) (C := R_Program) (T := F_Program) (N := 19) B 4 rfl rfl (by decide) i_Program (B.2.2.2.1 _ k_328) rfl (hR.2.1 _ 4 148 rfl) d_Exprs_name_194 ?_
              refine mv_iload (pc := 197) B d_Exprs_name_197 0 rfl ?_
              refine mv_iald (pc := 199) B rfl (i32_in n1.1 (by omega)) d_Exprs_name_199 ?_
              refine mv_i2l (pc := 200) B d_Exprs_name_200 ?_
              refine mv_callVi (pc := 201) (n := 2) (ci := 7) (C := R_Program) B (mK_ok sk sv) hNs rfl rfl (c_Program_emit_c l hi _ _ _ hR.2.1 (by have := hX.2.1.1; omega) (by have := hX.2.1.1; omega)) rfl (ma_goodc kc_Program_emit) (B.2.2.2.1 _ k_1425) (B.2.2.2.1 _ k_1385) (B.2.2.2.1 _ k_1386) (B.2.2.2.1 _ k_8) ⟨by decide +kernel, by decide +kernel, by decide +kernel⟩ rfl d_Exprs_name_201 rfl (Nat.le_of_ble_eq_true rfl) ⟨by decide, by decide⟩ ⟨by decide, by decide⟩ ⟨by decide, by decide⟩ (mv_noH hno _) (fun v201 σ201 h201 => ?_)
              obtain ⟨e201, -⟩ := h201
              subst e201
              refine mv_gen (fun S204 eS204 => ?_)
              have hR : Rw 145 (mv_r S204) := by rw [eS204]; exact hR
              have hF : RF 145 σ S204 := by rw [eS204]; exact hF.emit _ _
              have hX : XM 145 th e0 bs BL f0 g0 ns S204 (ms) (sm wt ms) (sm wr ms + 1) (s0 + 1) := by rw [eS204]; exact hX.emit0 hP (by omega) (sm wr ms + 1) (by decide) (by decide) (Op1_reg th (by rw [lg_toInt, hf9]; omega) (bs + sm wr ms)) (by omega)
              have t7 := Eq.trans (congrArg Int32.toInt (show mv_i S204 3 7 = mv_i _ 3 7 by rw [eS204]; rfl)) t7
              have t8 := Eq.trans (congrArg Int32.toInt (show mv_i S204 3 8 = mv_i _ 3 8 by rw [eS204]; rfl)) t8
              have t9 := Eq.trans (congrArg Int32.toInt (show mv_i S204 3 9 = mv_i _ 3 9 by rw [eS204]; rfl)) t9
              have kp := Eq.trans (show mv_a S204 4 = mv_a _ 4 by rw [eS204]; rfl) kp
              clear eS204
              refine mv_pop (pc := 204) B d_Exprs_name_204 rfl ?_
              refine mv_aload_n (pc := 205) B d_Exprs_name_205 rfl 5 rfl ?_
              refine mv_aload_n (pc := 206) B d_Exprs_name_206 rfl 5 rfl ?_
              refine mv_getR (pc := 207) (ci := 6) (C := R_Exprs) (T := F_Exprs) (N := 11) B 3 rfl rfl (by decide) i_Exprs (B.2.2.2.1 _ k_197) rfl hR.2.2.2 d_Exprs_name_207 ?_
              refine mv_getR (pc := 210) (ci := 7) (C := R_Program) (T := F_Program) (N := 19) B 2 rfl rfl (by decide) i_Program (B.2.2.2.1 _ k_320) rfl (hR.2.1 _ 2 146 rfl) d_Exprs_name_210 ?_
              refine mv_iload (pc := 213) B d_Exprs_name_213 0 rfl ?_
              refine mv_iald (pc := 215) B rfl (i32_in n1.1 (by omega)) d_Exprs_name_215 ?_
              refine mv_callVv (pc := 216) (n := 1) (ci := 6) (C := R_Exprs) B (mK_ok sk sv) hNs rfl rfl (c_Exprs_hold l hi _ _ hR.1 (by have := hX.1.2.2.1; omega) (by have := hX.1.2.2.1; omega)) rfl (ma_goodc kc_Exprs_hold) (B.2.2.2.1 _ k_1432) (B.2.2.2.1 _ k_1434) (B.2.2.2.1 _ ks_51) (B.2.2.2.1 _ k_7) ⟨by decide +kernel, by decide +kernel, by decide +kernel⟩ rfl d_Exprs_name_216 rfl (Nat.le_of_ble_eq_true rfl) ⟨by decide, by decide⟩ ⟨by decide, by decide⟩ ⟨by decide, by decide⟩ (mv_noH hno _) (fun σ216 h216 => ?_)
              subst h216
              refine mv_gen (fun S219 eS219 => ?_)
              have hR : Rw 145 (mv_r S219) := by rw [eS219]; exact hR
              have hF : RF 145 σ S219 := by rw [eS219]; exact hF.hold _
              have hX : XM 145 th e0 bs BL f0 g0 ns S219 (ms) (sm wt ms + 1) (sm wr ms + 1) (s0 + 1) := by rw [eS219]; exact hX.hold hP (by omega) _
              have t7 := Eq.trans (congrArg Int32.toInt (show mv_i S219 3 7 = mv_i _ 3 7 by rw [eS219]; rfl)) t7
              have t8 := Eq.trans (congrArg Int32.toInt (show mv_i S219 3 8 = mv_i _ 3 8 by rw [eS219]; rfl)) t8
              have t9 := Eq.trans (congrArg Int32.toInt (show mv_i S219 3 9 = mv_i _ 3 9 by rw [eS219]; rfl)) t9
              have kp := Eq.trans (show mv_a S219 4 = mv_a _ 4 by rw [eS219]; rfl) kp
              have hend : 0 ≤ (mv_i S219 3 9).toInt ∨ ∃ ms2 s2 a2, a < a2 ∧ XM 145 th e0 bs BL f0 g0 ns S219 (ms2) (sm wt ms2 + (1 : Int32).toNatClampNeg) (sm wr ms2 + (1 : Int32).toNatClampNeg) (s2) ∧ TI S219 sz bd ms2 s2 a2 := Or.inr ⟨ms, _, a + 1, by omega, hX, by omega, by omega, by omega, by omega, by omega, by omega, hWm.up (by omega)⟩
              clear eS219
              refine mv_goto (pc := 219) (tgt := 233) B d_Exprs_name_219 rfl ?_
              exact (j233 _ hF hX.1.2.2.2.1 hend)
          · skip
            have n3 := nm9.2 ((z43.resolve_left (fun q => by rw [q] at h143; exact absurd h143 (by decide))).symm.trans h143)
            refine mv_aload_n (pc := 146) B d_Exprs_name_146 rfl 5 rfl ?_
            refine mv_getR (pc := 147) (ci := 6) (C := R_Exprs) (T := F_Exprs) (N := 11) B 3 rfl rfl (by decide) i_Exprs (B.2.2.2.1 _ k_197) rfl hR.2.2.2 d_Exprs_name_147 ?_
            refine mv_sipush (pc := 150) (v := 302) B d_Exprs_name_150 (by decide) ?_
            refine mv_iload (pc := 153) B d_Exprs_name_153 0 rfl ?_
            refine mv_i2l (pc := 155) B d_Exprs_name_155 ?_
            refine mv_callVi (pc := 156) (n := 2) (ci := 7) (C := R_Program) B (mK_ok sk sv) hNs rfl rfl (c_Program_emit_c l hi _ _ _ hR.2.1 (by have := hX.2.1.1; omega) (by have := hX.2.1.1; omega)) rfl (ma_goodc kc_Program_emit) (B.2.2.2.1 _ k_1425) (B.2.2.2.1 _ k_1385) (B.2.2.2.1 _ k_1386) (B.2.2.2.1 _ k_8) ⟨by decide +kernel, by decide +kernel, by decide +kernel⟩ rfl d_Exprs_name_156 rfl (Nat.le_of_ble_eq_true rfl) ⟨by decide, by decide⟩ ⟨by decide, by decide⟩ ⟨by decide, by decide⟩ (mv_noH hno _) (fun v156 σ156 h156 => ?_)
            obtain ⟨e156, -⟩ := h156
            subst e156
            refine mv_gen (fun S159 eS159 => ?_)
            have hR : Rw 145 (mv_r S159) := by rw [eS159]; exact hR
            have hF : RF 145 σ S159 := by rw [eS159]; exact hF.emit _ _
            have hX : XM 145 th e0 bs BL f0 g0 ns S159 (ms) (sm wt ms) (sm wr ms + 1) (s0 + 1) := by rw [eS159]; exact hX.emit0 hP (by omega) (sm wr ms + 1) (by decide) (by decide) (Op1_let th (by rw [lg_toInt]; exact n3) (bs + sm wr ms)) (by omega)
            have t7 := Eq.trans (congrArg Int32.toInt (show mv_i S159 3 7 = mv_i _ 3 7 by rw [eS159]; rfl)) t7
            have t8 := Eq.trans (congrArg Int32.toInt (show mv_i S159 3 8 = mv_i _ 3 8 by rw [eS159]; rfl)) t8
            have t9 := Eq.trans (congrArg Int32.toInt (show mv_i S159 3 9 = mv_i _ 3 9 by rw [eS159]; rfl)) t9
            have kp := Eq.trans (show mv_a S159 4 = mv_a _ 4 by rw [eS159]; rfl) kp
            clear eS159
            refine mv_pop (pc := 159) B d_Exprs_name_159 rfl ?_
            refine mv_aload_n (pc := 160) B d_Exprs_name_160 rfl 5 rfl ?_
            refine mv_aload_n (pc := 161) B d_Exprs_name_161 rfl 5 rfl ?_
            refine mv_getR (pc := 162) (ci := 6) (C := R_Exprs) (T := F_Exprs) (N := 11) B 1 rfl rfl (by decide) i_Exprs (B.2.2.2.1 _ k_194) rfl (hR.1 _ 1 _ rfl) d_Exprs_name_162 ?_
            refine mv_getR (pc := 165) (ci := 4) (C := R_Names) (T := F_Names) (N := 10) B 8 rfl rfl (by decide) i_Names (B.2.2.2.1 _ k_147) rfl (hR.1 _ 8 _ rfl) d_Exprs_name_165 ?_
            refine mv_iload (pc := 168) B d_Exprs_name_168 0 rfl ?_
            refine mv_iald (pc := 170) B rfl (i32_in n3.1 n3.2) d_Exprs_name_170 ?_
            refine mv_callVv (pc := 171) (n := 1) (ci := 6) (C := R_Exprs) B (mK_ok sk sv) hNs rfl rfl (c_Exprs_hold l hi _ _ hR.1 (by have := hX.1.2.2.1; omega) (by have := hX.1.2.2.1; omega)) rfl (ma_goodc kc_Exprs_hold) (B.2.2.2.1 _ k_1432) (B.2.2.2.1 _ k_1434) (B.2.2.2.1 _ ks_51) (B.2.2.2.1 _ k_7) ⟨by decide +kernel, by decide +kernel, by decide +kernel⟩ rfl d_Exprs_name_171 rfl (Nat.le_of_ble_eq_true rfl) ⟨by decide, by decide⟩ ⟨by decide, by decide⟩ ⟨by decide, by decide⟩ (mv_noH hno _) (fun σ171 h171 => ?_)
            subst h171
            refine mv_gen (fun S174 eS174 => ?_)
            have hR : Rw 145 (mv_r S174) := by rw [eS174]; exact hR
            have hF : RF 145 σ S174 := by rw [eS174]; exact hF.hold _
            have hX : XM 145 th e0 bs BL f0 g0 ns S174 (ms) (sm wt ms + 1) (sm wr ms + 1) (s0 + 1) := by rw [eS174]; exact hX.hold hP (by omega) _
            have t7 := Eq.trans (congrArg Int32.toInt (show mv_i S174 3 7 = mv_i _ 3 7 by rw [eS174]; rfl)) t7
            have t8 := Eq.trans (congrArg Int32.toInt (show mv_i S174 3 8 = mv_i _ 3 8 by rw [eS174]; rfl)) t8
            have t9 := Eq.trans (congrArg Int32.toInt (show mv_i S174 3 9 = mv_i _ 3 9 by rw [eS174]; rfl)) t9
            have kp := Eq.trans (show mv_a S174 4 = mv_a _ 4 by rw [eS174]; rfl) kp
            have hend : 0 ≤ (mv_i S174 3 9).toInt ∨ ∃ ms2 s2 a2, a < a2 ∧ XM 145 th e0 bs BL f0 g0 ns S174 (ms2) (sm wt ms2 + (1 : Int32).toNatClampNeg) (sm wr ms2 + (1 : Int32).toNatClampNeg) (s2) ∧ TI S174 sz bd ms2 s2 a2 := Or.inr ⟨ms, _, a + 1, by omega, hX, by omega, by omega, by omega, by omega, by omega, by omega, hWm.up (by omega)⟩
            clear eS174
            refine mv_goto (pc := 174) (tgt := 233) B d_Exprs_name_174 rfl ?_
            exact (j233 _ hF hX.1.2.2.2.1 hend)
        · skip
          refine mv_aload_n (pc := 105) B d_Exprs_name_105 rfl 5 rfl ?_
          refine mv_getR (pc := 106) (ci := 6) (C := R_Exprs) (T := F_Exprs) (N := 11) B 1 rfl rfl (by decide) i_Exprs (B.2.2.2.1 _ k_194) rfl (hR.1 _ 1 _ rfl) d_Exprs_name_106 ?_
          refine mv_iload_n (pc := 109) B d_Exprs_name_109 rfl 2 rfl ?_
          refine mv_callVl (pc := 110) (n := 1) (ci := 4) (C := R_Names) B (mK_ok sk sv) hNs rfl rfl (c_Names_maskOf l hi _ _ hR.1 n z (hB0.rf hF hP ht2).2.1.1 (by omega) (by omega)) rfl (ma_goodc kc_Names_maskOf) (B.2.2.2.1 _ k_1450) (B.2.2.2.1 _ k_1451) (B.2.2.2.1 _ k_1452) (B.2.2.2.1 _ k_5) ⟨by decide +kernel, by decide +kernel, by decide +kernel⟩ rfl d_Exprs_name_110 rfl (Nat.le_of_ble_eq_true rfl) ⟨by decide, by decide⟩ ⟨by decide, by decide⟩ ⟨by decide, by decide⟩ (mv_noH hno _) (fun v110 σ110 h110 => ?_)
          have h110 := h110.symm
          subst h110
          refine mv_lstore (pc := 113) B d_Exprs_name_113 (by decide) rfl ?_
          refine mv_aload_n (pc := 115) B d_Exprs_name_115 rfl 6 rfl ?_
          refine mv_getR (pc := 116) (ci := 6) (C := R_Exprs) (T := F_Exprs) (N := 11) B 3 rfl rfl (by decide) i_Exprs (B.2.2.2.1 _ k_197) rfl hR.2.2.2 d_Exprs_name_116 ?_
          refine mv_sipush (pc := 119) (v := 301) B d_Exprs_name_119 (by decide) ?_
          refine mv_lload (pc := 122) B d_Exprs_name_122 0 rfl ?_
          refine mv_callVi (pc := 124) (n := 2) (ci := 7) (C := R_Program) B (mK_ok sk sv) hNs rfl rfl (c_Program_emit_c l hi _ _ _ hR.2.1 (by have := hX.2.1.1; omega) (by have := hX.2.1.1; omega)) rfl (ma_goodc kc_Program_emit) (B.2.2.2.1 _ k_1425) (B.2.2.2.1 _ k_1385) (B.2.2.2.1 _ k_1386) (B.2.2.2.1 _ k_8) ⟨by decide +kernel, by decide +kernel, by decide +kernel⟩ rfl d_Exprs_name_124 rfl (Nat.le_of_ble_eq_true rfl) ⟨by decide, by decide⟩ ⟨by decide, by decide⟩ ⟨by decide, by decide⟩ (mv_noH hno _) (fun v124 σ124 h124 => ?_)
          obtain ⟨e124, -⟩ := h124
          subst e124
          refine mv_gen (fun S127 eS127 => ?_)
          have hR : Rw 145 (mv_r S127) := by rw [eS127]; exact hR
          have hF : RF 145 σ S127 := by rw [eS127]; exact hF.emit _ _
          have hX : XM 145 th e0 bs BL f0 g0 ns S127 (ms) (sm wt ms) (sm wr ms + 1) (s0 + 1) := by rw [eS127]; exact hX.emit0 hP (by omega) (sm wr ms + 1) (by decide) (by decide) (Op1_lit (Or.inr rfl) th _ (bs + sm wr ms)) (by omega)
          have t7 := Eq.trans (congrArg Int32.toInt (show mv_i S127 3 7 = mv_i _ 3 7 by rw [eS127]; rfl)) t7
          have t8 := Eq.trans (congrArg Int32.toInt (show mv_i S127 3 8 = mv_i _ 3 8 by rw [eS127]; rfl)) t8
          have t9 := Eq.trans (congrArg Int32.toInt (show mv_i S127 3 9 = mv_i _ 3 9 by rw [eS127]; rfl)) t9
          have kp := Eq.trans (show mv_a S127 4 = mv_a _ 4 by rw [eS127]; rfl) kp
          clear eS127
          refine mv_pop (pc := 127) B d_Exprs_name_127 rfl ?_
          refine mv_aload_n (pc := 128) B d_Exprs_name_128 rfl 6 rfl ?_
          refine mv_lload (pc := 129) B d_Exprs_name_129 0 rfl ?_
          refine mv_callSi (pc := 131) (n := 1) B (mK_ok sk sv) hNs (c_Long_bitCount l hi _ _) rfl (ma_goodc kc_Long_bitCount) (B.2.2.2.1 _ k_1454) (B.2.2.2.1 _ k_424) (B.2.2.2.1 _ k_10) ⟨by decide +kernel, by decide +kernel, by decide +kernel⟩ rfl d_Exprs_name_131 rfl (Nat.le_of_ble_eq_true rfl) ⟨by decide, by decide⟩ ⟨by decide, by decide⟩ ⟨by decide, by decide⟩ (mv_noH hno _) (fun v131 σ131 h131 => ?_)
          have h131 := h131.symm
          subst h131
          refine mv_callVv (pc := 134) (n := 1) (ci := 6) (C := R_Exprs) B (mK_ok sk sv) hNs rfl rfl (c_Exprs_hold l hi _ _ hR.1 (by have := hX.1.2.2.1; omega) (by have := hX.1.2.2.1; omega)) rfl (ma_goodc kc_Exprs_hold) (B.2.2.2.1 _ k_1432) (B.2.2.2.1 _ k_1434) (B.2.2.2.1 _ ks_51) (B.2.2.2.1 _ k_7) ⟨by decide +kernel, by decide +kernel, by decide +kernel⟩ rfl d_Exprs_name_134 rfl (Nat.le_of_ble_eq_true rfl) ⟨by decide, by decide⟩ ⟨by decide, by decide⟩ ⟨by decide, by decide⟩ (mv_noH hno _) (fun σ134 h134 => ?_)
          subst h134
          refine mv_gen (fun S137 eS137 => ?_)
          have hR : Rw 145 (mv_r S137) := by rw [eS137]; exact hR
          have hF : RF 145 σ S137 := by rw [eS137]; exact hF.hold _
          have hX : XM 145 th e0 bs BL f0 g0 ns S137 (ms) (sm wt ms + 1) (sm wr ms + 1) (s0 + 1) := by rw [eS137]; exact hX.hold hP (by omega) _
          have t7 := Eq.trans (congrArg Int32.toInt (show mv_i S137 3 7 = mv_i _ 3 7 by rw [eS137]; rfl)) t7
          have t8 := Eq.trans (congrArg Int32.toInt (show mv_i S137 3 8 = mv_i _ 3 8 by rw [eS137]; rfl)) t8
          have t9 := Eq.trans (congrArg Int32.toInt (show mv_i S137 3 9 = mv_i _ 3 9 by rw [eS137]; rfl)) t9
          have kp := Eq.trans (show mv_a S137 4 = mv_a _ 4 by rw [eS137]; rfl) kp
          have hend : 0 ≤ (mv_i S137 3 9).toInt ∨ ∃ ms2 s2 a2, a < a2 ∧ XM 145 th e0 bs BL f0 g0 ns S137 (ms2) (sm wt ms2 + (1 : Int32).toNatClampNeg) (sm wr ms2 + (1 : Int32).toNatClampNeg) (s2) ∧ TI S137 sz bd ms2 s2 a2 := Or.inr ⟨ms, _, a + 1, by omega, hX, by omega, by omega, by omega, by omega, by omega, by omega, hWm.up (by omega)⟩
          clear eS137
          refine mv_goto (pc := 137) (tgt := 233) B d_Exprs_name_137 rfl ?_
          exact (j233 _ hF hX.1.2.2.2.1 hend)
      · skip
        have n2 := nm9.1 (Or.inr ((z43.resolve_left (fun q => by rw [q] at h62; exact absurd h62 (by decide))).symm.trans h62))
        refine mv_aload_n (pc := 69) B d_Exprs_name_69 rfl 5 rfl ?_
        refine mv_bipush (pc := 70) (v := 91) B d_Exprs_name_70 (by decide) ?_
        refine mv_aload_n (pc := 72) B d_Exprs_name_72 rfl 5 rfl ?_
        refine mv_getR (pc := 73) (ci := 6) (C := R_Exprs) (T := F_Exprs) (N := 11) B 0 rfl rfl (by decide) i_Exprs (B.2.2.2.1 _ k_193) rfl (hR.1 _ 0 _ rfl) d_Exprs_name_73 ?_
        refine mv_bipush (pc := 76) (v := 91) B d_Exprs_name_76 (by decide) ?_
        refine mv_callVi (pc := 78) (n := 1) (ci := 2) (C := R_Tokens) B (mK_ok sk sv) hNs rfl rfl (c_Tokens_openN l hi _ _ hR.1 (hB0.rf hF hP ht2).2.1 (by omega) (by omega) (by decide)) rfl (ma_goodc kc_Tokens_open) (B.2.2.2.1 _ k_1415) (B.2.2.2.1 _ k_1350) (B.2.2.2.1 _ k_1351) (B.2.2.2.1 _ k_3) ⟨by decide +kernel, by decide +kernel, by decide +kernel⟩ rfl d_Exprs_name_78 rfl (Nat.le_of_ble_eq_true rfl) ⟨by decide, by decide⟩ ⟨by decide, by decide⟩ ⟨by decide, by decide⟩ (mv_noH hno _) (fun v78 σ78 h78 => ?_)
        obtain ⟨a78, w78, e78, r78⟩ := h78
        have q78 := r78.1
        have z78 := fun q => (r78.2.1 q).1
        have y78 := And.intro r78.2.2.2.1 r78.2.2.2.2.1
        subst e78
        refine mv_gen (fun S81 eS81 => ?_)
        have hR : Rw 145 (mv_r S81) := by rw [eS81]; exact hR
        have hF : RF 145 σ S81 := by rw [eS81]; exact hF.tk3 _ _ _
        have hX : XM 145 th e0 bs BL f0 g0 ns S81 (ms) (sm wt ms) (sm wr ms) (s0) := by rw [eS81]; exact hX.tk3 hP _ _ _
        have t7 : (mv_i S81 3 7).toInt = a78.toInt := by rw [eS81]; rfl
        have t8 : (mv_i S81 3 8).toInt = (mv_i σ 3 8).toInt + 1 := by rw [eS81]; first | exact t8 | exact (sub_one (by omega)).trans (by omega) | exact (i32_inc (by omega)).trans (by omega)
        have t9 : (mv_i S81 3 9).toInt = w78.toInt := by rw [eS81]; rfl
        have kS81 : mv_a S81 4 = mv_a σ 4 := by rw [eS81]; first | rfl | exact kp
        have kp := kS81
        have m5 : mv_i (ex_mark S81 91 v78) 22 8 - 1 = mv_i S81 22 8 := Int32.add_sub_cancel _ _
        have m6 := hX.1.1
        have m7 := hX.n
        clear eS81
        refine mv_callVv (pc := 81) (n := 2) (ci := 6) (C := R_Exprs) B (mK_ok sk sv) hNs rfl rfl (c_Exprs_mark l hi _ _ _ hR.1 (by have := hX.1.1; omega) (by have := hX.1.1; omega)) rfl (ma_goodc kc_Exprs_mark) (B.2.2.2.1 _ k_1416) (B.2.2.2.1 _ k_1418) (B.2.2.2.1 _ ks_48) (B.2.2.2.1 _ k_7) ⟨by decide +kernel, by decide +kernel, by decide +kernel⟩ rfl d_Exprs_name_81 rfl (Nat.le_of_ble_eq_true rfl) ⟨by decide, by decide⟩ ⟨by decide, by decide⟩ ⟨by decide, by decide⟩ (mv_noH hno _) (fun σ81 h81 => ?_)
        subst h81
        refine mv_aload_n (pc := 84) B d_Exprs_name_84 rfl 5 rfl ?_
        refine mv_getR (pc := 85) (ci := 6) (C := R_Exprs) (T := F_Exprs) (N := 11) B 6 rfl rfl (by decide) i_Exprs (B.2.2.2.1 _ k_200) rfl (hR.1 _ 6 _ rfl) d_Exprs_name_85 ?_
        refine mv_aload_n (pc := 88) B d_Exprs_name_88 rfl 5 rfl ?_
        refine mv_getI (pc := 89) (ci := 6) (C := R_Exprs) (T := F_Exprs) (N := 11) B 8 rfl rfl (by decide) i_Exprs (B.2.2.2.1 _ k_202) rfl d_Exprs_name_89 ?_
        refine mv_iconst (pc := 92) (v := 1) B d_Exprs_name_92 (by decide) ?_
        refine mv_isub (pc := 93) B d_Exprs_name_93 ?_
        refine mv_iload (pc := 94) B d_Exprs_name_94 0 rfl ?_
        refine mv_iast (pc := 96) B rfl (i32_in (show 0 ≤ (mv_i (ex_mark S81 91 v78) 22 8 - 1).toInt by rw [m5]; omega) (show (mv_i (ex_mark S81 91 v78) 22 8 - 1).toInt < 1024 by rw [m5]; omega)) d_Exprs_name_96 ?_
        refine mv_gen (fun S97 eS97 => ?_)
        have hR : Rw 145 (mv_r S97) := by rw [eS97]; exact hR
        have hF : RF 145 σ S97 := by rw [eS97]; exact hF.mark _ _ |>.row ⟨by omega, by omega⟩ _ _
        have hX : XM 145 th e0 bs BL f0 g0 ns S97 (((91, ix) : Mk) :: ms) (sm wt ms) (sm wr ms) (s0) := by rw [eS97]; exact hX.mark91 hP (by omega) (by rw [m5]; exact m7) ⟨y78.1, by omega⟩ n2
        have t7 := Eq.trans (congrArg Int32.toInt (show mv_i S97 3 7 = mv_i _ 3 7 by rw [eS97]; rfl)) t7
        have t8 := Eq.trans (congrArg Int32.toInt (show mv_i S97 3 8 = mv_i _ 3 8 by rw [eS97]; rfl)) t8
        have t9 := Eq.trans (congrArg Int32.toInt (show mv_i S97 3 9 = mv_i _ 3 9 by rw [eS97]; rfl)) t9
        have kp := Eq.trans (show mv_a S97 4 = mv_a _ 4 by rw [eS97]; rfl) kp
        have hend : 0 ≤ (mv_i S97 3 9).toInt ∨ ∃ ms2 s2 a2, a < a2 ∧ XM 145 th e0 bs BL f0 g0 ns S97 (ms2) (sm wt ms2 + (0 : Int32).toNatClampNeg) (sm wr ms2 + (0 : Int32).toNatClampNeg) (s2) ∧ TI S97 sz bd ms2 s2 a2 := by
          by_cases hw : (mv_i S97 3 9).toInt < 0
          · refine Or.inr ⟨((91, ix) : Mk) :: ms, s0, a + 2, by omega, ?_, by omega, hw, ?_, ?_, ?_, by omega, (hWm.up (by omega)).cons (fun q => absurd (show (91 : Int32) = 123 from q) (by decide))⟩
            · have y1 : sm wt (((91, ix) : Mk) :: ms) = sm wt ms := Nat.zero_add _
              have y2 : sm wr (((91, ix) : Mk) :: ms) = sm wr ms := Nat.zero_add _
              rw [y1, y2]
              exact hX
            · have y3 : sm wd (((91, ix) : Mk) :: ms) = 1 + sm wd ms := rfl
              omega
            · have := (r78.2.1 (by omega)).2.2.1
              have : ¬ (mv_i S26 3 8).toInt = 60 := fun q => this (Int32.toInt_inj.mp q)
              omega
            · have y4 : sm wc (((91, ix) : Mk) :: ms) = sm wc ms := Nat.zero_add _
              omega
          · exact Or.inl (by omega)
        clear eS97
        refine mv_iconst (pc := 97) (v := 0) B d_Exprs_name_97 (by decide) ?_
        exact mv_iret (pc := 98) B hr rfl d_Exprs_name_98 (Nat.le_refl _) (Nat.le_refl _) ⟨_, rfl, hF, hX.1.2.2.2.1, Or.inl rfl, hend⟩
  refine mv_aload_n (pc := 0) B d_Exprs_name_0 rfl 0 rfl ?_
  refine mv_getR (pc := 1) (ci := 6) (C := R_Exprs) (T := F_Exprs) (N := 11) B 0 rfl rfl (by decide) i_Exprs (B.2.2.2.1 _ k_193) rfl (hR.1 _ 0 _ rfl) d_Exprs_name_1 ?_
  refine mv_callVi (pc := 4) (n := 0) (ci := 2) (C := R_Tokens) B (mK_ok sk sv) hNs rfl rfl (c_Tokens_kindBehind l hi _ hR.1 (by omega) (by omega)) rfl (ma_goodc kc_Tokens_kindBehind) (B.2.2.2.1 _ k_1445) (B.2.2.2.1 _ k_1446) (B.2.2.2.1 _ k_1447) (B.2.2.2.1 _ k_3) ⟨by decide +kernel, by decide +kernel, by decide +kernel⟩ rfl d_Exprs_name_4 rfl (Nat.le_of_ble_eq_true rfl) ⟨by decide, by decide⟩ ⟨by decide, by decide⟩ ⟨by decide, by decide⟩ (mv_noH hno _) (fun v4 σ4 h4 => ?_)
  have h4 := h4.symm
  subst h4
  refine mv_bipush (pc := 7) (v := 91) B d_Exprs_name_7 (by decide) ?_
  refine mv_icmp_ne (pc := 9) (tgt := 16) B d_Exprs_name_9 rfl (fun h9 => ?_) (fun h9 => ?_)
  · skip
    refine mv_iconst (pc := 16) (v := 0) B d_Exprs_name_16 (by decide) ?_
    refine mv_lpick [0] rfl ?_
    exact j17 _
  · skip
    refine mv_iconst (pc := 12) (v := 1) B d_Exprs_name_12 (by decide) ?_
    refine mv_goto (pc := 13) (tgt := 17) B d_Exprs_name_13 rfl ?_
    refine mv_lpick [0] rfl ?_
    exact j17 _
def y_Exprs_call : MethodName := ⟨"MachineLoom$Exprs", "call", "(I)V"⟩
abbrev b_Exprs_call : ByteArray := prog_3_method_8_code
theorem kc_Exprs_call : Cond.code y_Exprs_call b_Exprs_call 2 (Option.none : Option Jvm.ClassFile.FieldType) ∈ ma := ma_of (tb_7 _ (List.mem_of_getElem? (i := 18) rfl)) rfl
theorem k_1459 : (Jvm.Cond.methodLink "MachineLoom$Exprs" (79 : Nat) ({ cls := "MachineLoom$Tokens", name := "wrong", desc := "()V" } : Jvm.MethodName)) ∈ ma := ma_of (tb_7 _ (List.mem_of_getElem? (i := 19) rfl)) rfl
theorem d_Exprs_call_0 : decode b_Exprs_call 0 = .ok (.iload_n 1, 1) := by decide +kernel
theorem d_Exprs_call_1 : decode b_Exprs_call 1 = .ok (.sipush 211, 3) := by decide +kernel
theorem d_Exprs_call_4 : decode b_Exprs_call 4 = .ok (.if_icmp .lt (10), 3) := by decide +kernel
theorem d_Exprs_call_7 : decode b_Exprs_call 7 = .ok (.iload_n 1, 1) := by decide +kernel
theorem d_Exprs_call_8 : decode b_Exprs_call 8 = .ok (.sipush 216, 3) := by decide +kernel
theorem d_Exprs_call_11 : decode b_Exprs_call 11 = .ok (.if_icmp .le (11), 3) := by decide +kernel
theorem d_Exprs_call_14 : decode b_Exprs_call 14 = .ok (.aload_n 0, 1) := by decide +kernel
theorem d_Exprs_call_15 : decode b_Exprs_call 15 = .ok (.getfield 27, 3) := by decide +kernel
theorem d_Exprs_call_18 : decode b_Exprs_call 18 = .ok (.invokevirtual 79, 3) := by decide +kernel
theorem d_Exprs_call_21 : decode b_Exprs_call 21 = .ok (.return_, 1) := by decide +kernel
theorem d_Exprs_call_22 : decode b_Exprs_call 22 = .ok (.aload_n 0, 1) := by decide +kernel
theorem d_Exprs_call_23 : decode b_Exprs_call 23 = .ok (.iload_n 1, 1) := by decide +kernel
theorem d_Exprs_call_24 : decode b_Exprs_call 24 = .ok (.aload_n 0, 1) := by decide +kernel
theorem d_Exprs_call_25 : decode b_Exprs_call 25 = .ok (.getfield 27, 3) := by decide +kernel
theorem d_Exprs_call_28 : decode b_Exprs_call 28 = .ok (.iload_n 1, 1) := by decide +kernel
theorem d_Exprs_call_29 : decode b_Exprs_call 29 = .ok (.invokevirtual 82, 3) := by decide +kernel
theorem d_Exprs_call_32 : decode b_Exprs_call 32 = .ok (.invokevirtual 65, 3) := by decide +kernel
theorem d_Exprs_call_35 : decode b_Exprs_call 35 = .ok (.aload_n 0, 1) := by decide +kernel
theorem d_Exprs_call_36 : decode b_Exprs_call 36 = .ok (.getfield 27, 3) := by decide +kernel
theorem d_Exprs_call_39 : decode b_Exprs_call 39 = .ok (.bipush 40, 2) := by decide +kernel
theorem d_Exprs_call_41 : decode b_Exprs_call 41 = .ok (.invokevirtual 61, 3) := by decide +kernel
theorem d_Exprs_call_44 : decode b_Exprs_call 44 = .ok (.pop, 1) := by decide +kernel
theorem d_Exprs_call_45 : decode b_Exprs_call 45 = .ok (.return_, 1) := by decide +kernel
set_option maxHeartbeats 4000000 in
set_option maxRecDepth 100000 in
theorem c_Exprs_call_a (l : Launch) {dA : FieldType → ClassId} {D : va_G} {al : Nat → Nat} {ext : mv_Sh} {sk sv : Nat → Nat} (hi : mv_inj (mg dA D al ext)) (σ : mv_H) (k9 : Int32) {t len n z sz th sl e0 bs ns : Nat} {BL : (Nat → Nat) → Prop} {f0 : Nat → Int32} {g0 : Nat → Int64} {ms : List Mk} {s0 bd a : Nat} (hB0 : SB 32 σ t len n z sz th sl) (ht2 : t = 1 ∨ t = 144) (hX : XM 32 th e0 bs BL f0 g0 ns σ (ms) (sm wt ms + 0) (sm wr ms + 0) (s0)) (hI : TI σ sz bd ms s0 a) (hlen : len ≤ 32768) (hbs : bs ≤ 1) (hk3 : mv_a σ 4 (mv_i σ 3 7).toNatClampNeg = k9) : mv_C l y_Exprs_call (Cond.code y_Exprs_call b_Exprs_call 2 (Option.none : Option Jvm.ClassFile.FieldType) :: ma) ({ frames := 3, cells := 0, slots := 0, locals := 63 }) (mg dA D al ext) (mK sk sv) [.ref (al 22), .int k9] σ (mv_Rv (fun σ1 => RF 32 σ σ1 ∧ Mt (mv_a σ1 24) ∧ (0 ≤ (mv_i σ1 3 9).toInt ∨ ∃ ms2 s2 a2, a < a2 ∧ XM 32 th e0 bs BL f0 g0 ns σ1 (ms2) (sm wt ms2 + 0) (sm wr ms2 + 0) (s2) ∧ TI σ1 sz bd ms2 s2 a2))) := by
  refine mv_C.ofV (cc := b_Exprs_call) (nL := 2) (ret := (Option.none : Option Jvm.ClassFile.FieldType)) (by decide +kernel) rfl hi (Nat.le_of_ble_eq_true rfl) ?_
  intro p e s m below meth c B hNs hr hnm hno
  have hP : PQ 32 := by unfold PQ; omega
  have hR := hB0.1
  have hF : RF 32 σ σ := RF0
  have hT : mv_i σ 3 = mv_i σ 3 := rfl
  have hsz := hB0.2.1.2.2.2.2.2
  have hsz2 := hB0.2.1.2.2.2.1
  have hI5 := hI.2.2.2.2.1
  have ha9 := hI.2.2.2.2.2.1
  have pl := hI.len hX
  have hm8 := hX.1.1
  have t7 := hI.1
  have hw9 := hI.2.1
  have t9 : (mv_i σ 3 9).toInt = (mv_i σ 3 9).toInt := rfl
  have hd8 := hI.2.2.1
  have hd9 := hI.2.2.2.1
  have hWm := hI.2.2.2.2.2.2
  have kp : mv_a σ 4 = mv_a σ 4 := rfl
  have t8 : (mv_i σ 3 8).toInt = (mv_i σ 3 8).toInt := rfl
  refine mv_iload_n (pc := 0) B d_Exprs_call_0 rfl 1 rfl ?_
  refine mv_sipush (pc := 1) (v := 211) B d_Exprs_call_1 (by decide) ?_
  refine mv_icmp_lt (pc := 4) (tgt := 14) B d_Exprs_call_4 rfl (fun h4 => ?_) (fun h4 => ?_)
  · skip
    refine mv_aload_n (pc := 14) B d_Exprs_call_14 rfl 0 rfl ?_
    refine mv_getR (pc := 15) (ci := 6) (C := R_Exprs) (T := F_Exprs) (N := 11) B 0 rfl rfl (by decide) i_Exprs (B.2.2.2.1 _ k_193) rfl (hR.1 _ 0 _ rfl) d_Exprs_call_15 ?_
    refine mv_callVv (pc := 18) (n := 0) (ci := 2) (C := R_Tokens) B (mK_ok sk sv) hNs rfl rfl (c_Tokens_wrongN l hi _ hR.1 hB0.2.1 (by omega) (by omega)) rfl (ma_goodc kc_Tokens_wrong) (B.2.2.2.1 _ k_1459) (B.2.2.2.1 _ k_1275) (B.2.2.2.1 _ k_1276) (B.2.2.2.1 _ k_3) ⟨by decide +kernel, by decide +kernel, by decide +kernel⟩ rfl d_Exprs_call_18 rfl (Nat.le_of_ble_eq_true rfl) ⟨by decide, by decide⟩ ⟨by decide, by decide⟩ ⟨by decide, by decide⟩ (mv_noH hno _) (fun σ18 h18 => ?_)
    obtain ⟨w18, e18, z18⟩ := h18
    subst e18
    refine mv_gen (fun S21 eS21 => ?_)
    have hR : Rw 32 (mv_r S21) := by rw [eS21]; exact hR
    have hF : RF 32 σ S21 := by rw [eS21]; exact hF.tk3 _ _ _
    have hX : XM 32 th e0 bs BL f0 g0 ns S21 (ms) (sm wt ms) (sm wr ms) (s0) := by rw [eS21]; exact hX.tk3 hP _ _ _
    have hw : 0 ≤ (mv_i S21 3 9).toInt := by rw [eS21]; exact z18
    clear eS21
    exact mv_vret (pc := 21) B hr d_Exprs_call_21 (Nat.le_refl _) (Nat.le_refl _) ⟨rfl, hF, hX.1.2.2.2.1, Or.inl hw⟩
  · skip
    rw [Int32.lt_iff_toInt_lt] at h4
    simp only [Int32.reduceToInt] at h4
    refine mv_iload_n (pc := 7) B d_Exprs_call_7 rfl 1 rfl ?_
    refine mv_sipush (pc := 8) (v := 216) B d_Exprs_call_8 (by decide) ?_
    refine mv_icmp_le (pc := 11) (tgt := 22) B d_Exprs_call_11 rfl (fun h11 => ?_) (fun h11 => ?_)
    · skip
      rw [Int32.le_iff_toInt_le] at h11
      simp only [Int32.reduceToInt] at h11
      have hk9 : k9 = 211 ∨ k9 = 212 ∨ k9 = 213 ∨ k9 = 214 ∨ k9 = 215 ∨ k9 = 216 := by simp only [← Int32.toInt_inj, Int32.reduceToInt]; omega
      have hkn : ¬ k9 = 0 ∧ ¬ k9 = 1 ∧ ¬ k9 = 2 := by rcases hk9 with rfl | rfl | rfl | rfl | rfl | rfl <;> decide
      have hkm : ¬ k9 = 63 ∧ ¬ k9 = 58 ∧ ¬ k9 = 91 := by rcases hk9 with rfl | rfl | rfl | rfl | rfl | rfl <;> decide
      have hkl : lvl k9 = 0 := by rcases hk9 with rfl | rfl | rfl | rfl | rfl | rfl <;> decide
      have hkw : wt (k9, 0) = 0 ∧ wr (k9, 0) = 0 ∧ wc (k9, 0) = 0 ∧ wd (k9, 0) = 1 ∧ ¬ k9 = 123 := by rcases hk9 with rfl | rfl | rfl | rfl | rfl | rfl <;> decide
      refine mv_aload_n (pc := 22) B d_Exprs_call_22 rfl 0 rfl ?_
      refine mv_iload_n (pc := 23) B d_Exprs_call_23 rfl 1 rfl ?_
      refine mv_aload_n (pc := 24) B d_Exprs_call_24 rfl 0 rfl ?_
      refine mv_getR (pc := 25) (ci := 6) (C := R_Exprs) (T := F_Exprs) (N := 11) B 0 rfl rfl (by decide) i_Exprs (B.2.2.2.1 _ k_193) rfl (hR.1 _ 0 _ rfl) d_Exprs_call_25 ?_
      refine mv_iload_n (pc := 28) B d_Exprs_call_28 rfl 1 rfl ?_
      refine mv_callVi (pc := 29) (n := 1) (ci := 2) (C := R_Tokens) B (mK_ok sk sv) hNs rfl rfl (c_Tokens_takeN l hi _ _ hR.1 (hB0.rf hF hP ht2).2.1 (by omega) (by omega) hkn) rfl (ma_goodc kc_Tokens_take) (B.2.2.2.1 _ k_1424) (B.2.2.2.1 _ k_1267) (B.2.2.2.1 _ k_1268) (B.2.2.2.1 _ k_3) ⟨by decide +kernel, by decide +kernel, by decide +kernel⟩ rfl d_Exprs_call_29 rfl (Nat.le_of_ble_eq_true rfl) ⟨by decide, by decide⟩ ⟨by decide, by decide⟩ ⟨by decide, by decide⟩ (mv_noH hno _) (fun v29 σ29 h29 => ?_)
      obtain ⟨a29, w29, e29, r29⟩ := h29
      have q29 := r29.1
      have z29 := fun q => (r29.2.1 q).1
      have y29 := And.intro r29.2.2.2.1 r29.2.2.2.2.1
      subst e29
      have hw29 := r29.2.2.1 hw9 hk3 trivial
      refine mv_gen (fun S32 eS32 => ?_)
      have hR : Rw 32 (mv_r S32) := by rw [eS32]; exact hR
      have hF : RF 32 σ S32 := by rw [eS32]; exact hF.tk3 _ _ _
      have hX : XM 32 th e0 bs BL f0 g0 ns S32 (ms) (sm wt ms) (sm wr ms) (s0) := by rw [eS32]; exact hX.tk3 hP _ _ _
      have t7 : (mv_i S32 3 7).toInt = a29.toInt := by rw [eS32]; rfl
      have t8 : (mv_i S32 3 8).toInt = (mv_i σ 3 8).toInt := by rw [eS32]; first | exact t8 | exact (sub_one (by omega)).trans (by omega) | exact (i32_inc (by omega)).trans (by omega)
      have t9 : (mv_i S32 3 9).toInt = w29.toInt := by rw [eS32]; rfl
      have kS32 : mv_a S32 4 = mv_a σ 4 := by rw [eS32]; first | rfl | exact kp
      have kp := kS32
      clear eS32
      refine mv_callVv (pc := 32) (n := 2) (ci := 6) (C := R_Exprs) B (mK_ok sk sv) hNs rfl rfl (c_Exprs_mark l hi _ _ _ hR.1 (by have := hX.1.1; omega) (by have := hX.1.1; omega)) rfl (ma_goodc kc_Exprs_mark) (B.2.2.2.1 _ k_1416) (B.2.2.2.1 _ k_1418) (B.2.2.2.1 _ ks_48) (B.2.2.2.1 _ k_7) ⟨by decide +kernel, by decide +kernel, by decide +kernel⟩ rfl d_Exprs_call_32 rfl (Nat.le_of_ble_eq_true rfl) ⟨by decide, by decide⟩ ⟨by decide, by decide⟩ ⟨by decide, by decide⟩ (mv_noH hno _) (fun σ32 h32 => ?_)
      subst h32
      refine mv_gen (fun S35 eS35 => ?_)
      have hR : Rw 32 (mv_r S35) := by rw [eS35]; exact hR
      have hF : RF 32 σ S35 := by rw [eS35]; exact hF.mark _ _
      have hX : XM 32 th e0 bs BL f0 g0 ns S35 (((k9, 0) : Mk) :: ms) (sm wt ms) (sm wr ms) (s0) := by rw [eS35]; exact hX.mark hP (by omega) ⟨y29.1, by omega⟩ hkm (fun q => by omega)
      have t7 := Eq.trans (congrArg Int32.toInt (show mv_i S35 3 7 = mv_i _ 3 7 by rw [eS35]; rfl)) t7
      have t8 := Eq.trans (congrArg Int32.toInt (show mv_i S35 3 8 = mv_i _ 3 8 by rw [eS35]; rfl)) t8
      have t9 := Eq.trans (congrArg Int32.toInt (show mv_i S35 3 9 = mv_i _ 3 9 by rw [eS35]; rfl)) t9
      have kp := Eq.trans (show mv_a S35 4 = mv_a _ 4 by rw [eS35]; rfl) kp
      clear eS35
      refine mv_aload_n (pc := 35) B d_Exprs_call_35 rfl 0 rfl ?_
      refine mv_getR (pc := 36) (ci := 6) (C := R_Exprs) (T := F_Exprs) (N := 11) B 0 rfl rfl (by decide) i_Exprs (B.2.2.2.1 _ k_193) rfl (hR.1 _ 0 _ rfl) d_Exprs_call_36 ?_
      refine mv_bipush (pc := 39) (v := 40) B d_Exprs_call_39 (by decide) ?_
      refine mv_callVi (pc := 41) (n := 1) (ci := 2) (C := R_Tokens) B (mK_ok sk sv) hNs rfl rfl (c_Tokens_openN l hi _ _ hR.1 (hB0.rf hF hP ht2).2.1 (by omega) (by omega) (by decide)) rfl (ma_goodc kc_Tokens_open) (B.2.2.2.1 _ k_1415) (B.2.2.2.1 _ k_1350) (B.2.2.2.1 _ k_1351) (B.2.2.2.1 _ k_3) ⟨by decide +kernel, by decide +kernel, by decide +kernel⟩ rfl d_Exprs_call_41 rfl (Nat.le_of_ble_eq_true rfl) ⟨by decide, by decide⟩ ⟨by decide, by decide⟩ ⟨by decide, by decide⟩ (mv_noH hno _) (fun v41 σ41 h41 => ?_)
      obtain ⟨a41, w41, e41, r41⟩ := h41
      have q41 := r41.1
      have z41 := fun q => (r41.2.1 q).1
      have y41 := And.intro r41.2.2.2.1 r41.2.2.2.2.1
      subst e41
      refine mv_gen (fun S44 eS44 => ?_)
      have hR : Rw 32 (mv_r S44) := by rw [eS44]; exact hR
      have hF : RF 32 σ S44 := by rw [eS44]; exact hF.tk3 _ _ _
      have hX : XM 32 th e0 bs BL f0 g0 ns S44 (((k9, 0) : Mk) :: ms) (sm wt ms) (sm wr ms) (s0) := by rw [eS44]; exact hX.tk3 hP _ _ _
      have t7 : (mv_i S44 3 7).toInt = a41.toInt := by rw [eS44]; rfl
      have t8 : (mv_i S44 3 8).toInt = (mv_i σ 3 8).toInt + 1 := by rw [eS44]; first | exact t8 | exact (sub_one (by omega)).trans (by omega) | exact (i32_inc (by omega)).trans (by omega)
      have t9 : (mv_i S44 3 9).toInt = w41.toInt := by rw [eS44]; rfl
      have kS44 : mv_a S44 4 = mv_a σ 4 := by rw [eS44]; first | rfl | exact kp
      have kp := kS44
      have y1 : sm wt (((k9, 0) : Mk) :: ms) = wt (k9, 0) + sm wt ms := rfl
      have y2 : sm wr (((k9, 0) : Mk) :: ms) = wr (k9, 0) + sm wr ms := rfl
      have y3 : sm wd (((k9, 0) : Mk) :: ms) = wd (k9, 0) + sm wd ms := rfl
      have y4 : sm wc (((k9, 0) : Mk) :: ms) = wc (k9, 0) + sm wc ms := rfl
      have hend : 0 ≤ (mv_i S44 3 9).toInt ∨ ∃ ms2 s2 a2, a < a2 ∧ XM 32 th e0 bs BL f0 g0 ns S44 (ms2) (sm wt ms2 + 0) (sm wr ms2 + 0) (s2) ∧ TI S44 sz bd ms2 s2 a2 := by
        by_cases hw : (mv_i S44 3 9).toInt < 0
        · refine Or.inr ⟨((k9, 0) : Mk) :: ms, s0, a + 2, by omega, ?_, by omega, hw, by omega, ?_, by omega, by omega, (hWm.up (by omega)).cons (fun q => absurd q hkw.2.2.2.2)⟩
          · rw [y1, y2, hkw.1, hkw.2.1, Nat.zero_add, Nat.zero_add]
            exact hX
          · have := (r41.2.1 (by omega)).2.2.1
            have : ¬ (mv_i S35 3 8).toInt = 60 := fun q => this (Int32.toInt_inj.mp q)
            omega
        · exact Or.inl (by omega)
      clear eS44
      refine mv_pop (pc := 44) B d_Exprs_call_44 rfl ?_
      exact mv_vret (pc := 45) B hr d_Exprs_call_45 (Nat.le_refl _) (Nat.le_refl _) ⟨rfl, hF, hX.1.2.2.2.1, hend⟩
    · skip
      refine mv_aload_n (pc := 14) B d_Exprs_call_14 rfl 0 rfl ?_
      refine mv_getR (pc := 15) (ci := 6) (C := R_Exprs) (T := F_Exprs) (N := 11) B 0 rfl rfl (by decide) i_Exprs (B.2.2.2.1 _ k_193) rfl (hR.1 _ 0 _ rfl) d_Exprs_call_15 ?_
      refine mv_callVv (pc := 18) (n := 0) (ci := 2) (C := R_Tokens) B (mK_ok sk sv) hNs rfl rfl (c_Tokens_wrongN l hi _ hR.1 hB0.2.1 (by omega) (by omega)) rfl (ma_goodc kc_Tokens_wrong) (B.2.2.2.1 _ k_1459) (B.2.2.2.1 _ k_1275) (B.2.2.2.1 _ k_1276) (B.2.2.2.1 _ k_3) ⟨by decide +kernel, by decide +kernel, by decide +kernel⟩ rfl d_Exprs_call_18 rfl (Nat.le_of_ble_eq_true rfl) ⟨by decide, by decide⟩ ⟨by decide, by decide⟩ ⟨by decide, by decide⟩ (mv_noH hno _) (fun σ18 h18 => ?_)
      obtain ⟨w18, e18, z18⟩ := h18
      subst e18
      refine mv_gen (fun S21 eS21 => ?_)
      have hR : Rw 32 (mv_r S21) := by rw [eS21]; exact hR
      have hF : RF 32 σ S21 := by rw [eS21]; exact hF.tk3 _ _ _
      have hX : XM 32 th e0 bs BL f0 g0 ns S21 (ms) (sm wt ms) (sm wr ms) (s0) := by rw [eS21]; exact hX.tk3 hP _ _ _
      have hw : 0 ≤ (mv_i S21 3 9).toInt := by rw [eS21]; exact z18
      clear eS21
      exact mv_vret (pc := 21) B hr d_Exprs_call_21 (Nat.le_refl _) (Nat.le_refl _) ⟨rfl, hF, hX.1.2.2.2.1, Or.inl hw⟩
set_option maxHeartbeats 4000000 in
set_option maxRecDepth 100000 in
theorem c_Exprs_call_b (l : Launch) {dA : FieldType → ClassId} {D : va_G} {al : Nat → Nat} {ext : mv_Sh} {sk sv : Nat → Nat} (hi : mv_inj (mg dA D al ext)) (σ : mv_H) (k9 : Int32) {t len n z sz th sl e0 bs ns : Nat} {BL : (Nat → Nat) → Prop} {f0 : Nat → Int32} {g0 : Nat → Int64} {ms : List Mk} {s0 bd a : Nat} (hB0 : SB 48 σ t len n z sz th sl) (ht2 : t = 1 ∨ t = 144) (hX : XM 48 th e0 bs BL f0 g0 ns σ (ms) (sm wt ms + 0) (sm wr ms + 0) (s0)) (hI : TI σ sz bd ms s0 a) (hlen : len ≤ 32768) (hbs : bs ≤ 1) (hk3 : mv_a σ 4 (mv_i σ 3 7).toNatClampNeg = k9) : mv_C l y_Exprs_call (Cond.code y_Exprs_call b_Exprs_call 2 (Option.none : Option Jvm.ClassFile.FieldType) :: ma) ({ frames := 3, cells := 0, slots := 0, locals := 63 }) (mg dA D al ext) (mK sk sv) [.ref (al 22), .int k9] σ (mv_Rv (fun σ1 => RF 48 σ σ1 ∧ Mt (mv_a σ1 24) ∧ (0 ≤ (mv_i σ1 3 9).toInt ∨ ∃ ms2 s2 a2, a < a2 ∧ XM 48 th e0 bs BL f0 g0 ns σ1 (ms2) (sm wt ms2 + 0) (sm wr ms2 + 0) (s2) ∧ TI σ1 sz bd ms2 s2 a2))) := by
  refine mv_C.ofV (cc := b_Exprs_call) (nL := 2) (ret := (Option.none : Option Jvm.ClassFile.FieldType)) (by decide +kernel) rfl hi (Nat.le_of_ble_eq_true rfl) ?_
  intro p e s m below meth c B hNs hr hnm hno
  have hP : PQ 48 := by unfold PQ; omega
  have hR := hB0.1
  have hF : RF 48 σ σ := RF0
  have hT : mv_i σ 3 = mv_i σ 3 := rfl
  have hsz := hB0.2.1.2.2.2.2.2
  have hsz2 := hB0.2.1.2.2.2.1
  have hI5 := hI.2.2.2.2.1
  have ha9 := hI.2.2.2.2.2.1
  have pl := hI.len hX
  have hm8 := hX.1.1
  have t7 := hI.1
  have hw9 := hI.2.1
  have t9 : (mv_i σ 3 9).toInt = (mv_i σ 3 9).toInt := rfl
  have hd8 := hI.2.2.1
  have hd9 := hI.2.2.2.1
  have hWm := hI.2.2.2.2.2.2
  have kp : mv_a σ 4 = mv_a σ 4 := rfl
  have t8 : (mv_i σ 3 8).toInt = (mv_i σ 3 8).toInt := rfl
  refine mv_iload_n (pc := 0) B d_Exprs_call_0 rfl 1 rfl ?_
  refine mv_sipush (pc := 1) (v := 211) B d_Exprs_call_1 (by decide) ?_
  refine mv_icmp_lt (pc := 4) (tgt := 14) B d_Exprs_call_4 rfl (fun h4 => ?_) (fun h4 => ?_)
  · skip
    refine mv_aload_n (pc := 14) B d_Exprs_call_14 rfl 0 rfl ?_
    refine mv_getR (pc := 15) (ci := 6) (C := R_Exprs) (T := F_Exprs) (N := 11) B 0 rfl rfl (by decide) i_Exprs (B.2.2.2.1 _ k_193) rfl (hR.1 _ 0 _ rfl) d_Exprs_call_15 ?_
    refine mv_callVv (pc := 18) (n := 0) (ci := 2) (C := R_Tokens) B (mK_ok sk sv) hNs rfl rfl (c_Tokens_wrongN l hi _ hR.1 hB0.2.1 (by omega) (by omega)) rfl (ma_goodc kc_Tokens_wrong) (B.2.2.2.1 _ k_1459) (B.2.2.2.1 _ k_1275) (B.2.2.2.1 _ k_1276) (B.2.2.2.1 _ k_3) ⟨by decide +kernel, by decide +kernel, by decide +kernel⟩ rfl d_Exprs_call_18 rfl (Nat.le_of_ble_eq_true rfl) ⟨by decide, by decide⟩ ⟨by decide, by decide⟩ ⟨by decide, by decide⟩ (mv_noH hno _) (fun σ18 h18 => ?_)
    obtain ⟨w18, e18, z18⟩ := h18
    subst e18
    refine mv_gen (fun S21 eS21 => ?_)
    have hR : Rw 48 (mv_r S21) := by rw [eS21]; exact hR
    have hF : RF 48 σ S21 := by rw [eS21]; exact hF.tk3 _ _ _
    have hX : XM 48 th e0 bs BL f0 g0 ns S21 (ms) (sm wt ms) (sm wr ms) (s0) := by rw [eS21]; exact hX.tk3 hP _ _ _
    have hw : 0 ≤ (mv_i S21 3 9).toInt := by rw [eS21]; exact z18
    clear eS21
    exact mv_vret (pc := 21) B hr d_Exprs_call_21 (Nat.le_refl _) (Nat.le_refl _) ⟨rfl, hF, hX.1.2.2.2.1, Or.inl hw⟩
  · skip
    rw [Int32.lt_iff_toInt_lt] at h4
    simp only [Int32.reduceToInt] at h4
    refine mv_iload_n (pc := 7) B d_Exprs_call_7 rfl 1 rfl ?_
    refine mv_sipush (pc := 8) (v := 216) B d_Exprs_call_8 (by decide) ?_
    refine mv_icmp_le (pc := 11) (tgt := 22) B d_Exprs_call_11 rfl (fun h11 => ?_) (fun h11 => ?_)
    · skip
      rw [Int32.le_iff_toInt_le] at h11
      simp only [Int32.reduceToInt] at h11
      have hk9 : k9 = 211 ∨ k9 = 212 ∨ k9 = 213 ∨ k9 = 214 ∨ k9 = 215 ∨ k9 = 216 := by simp only [← Int32.toInt_inj, Int32.reduceToInt]; omega
      have hkn : ¬ k9 = 0 ∧ ¬ k9 = 1 ∧ ¬ k9 = 2 := by rcases hk9 with rfl | rfl | rfl | rfl | rfl | rfl <;> decide
      have hkm : ¬ k9 = 63 ∧ ¬ k9 = 58 ∧ ¬ k9 = 91 := by rcases hk9 with rfl | rfl | rfl | rfl | rfl | rfl <;> decide
      have hkl : lvl k9 = 0 := by rcases hk9 with rfl | rfl | rfl | rfl | rfl | rfl <;> decide
      have hkw : wt (k9, 0) = 0 ∧ wr (k9, 0) = 0 ∧ wc (k9, 0) = 0 ∧ wd (k9, 0) = 1 ∧ ¬ k9 = 123 := by rcases hk9 with rfl | rfl | rfl | rfl | rfl | rfl <;> decide
      refine mv_aload_n (pc := 22) B d_Exprs_call_22 rfl 0 rfl ?_
      refine mv_iload_n (pc := 23) B d_Exprs_call_23 rfl 1 rfl ?_
      refine mv_aload_n (pc := 24) B d_Exprs_call_24 rfl 0 rfl ?_
      refine mv_getR (pc := 25) (ci := 6) (C := R_Exprs) (T := F_Exprs) (N := 11) B 0 rfl rfl (by decide) i_Exprs (B.2.2.2.1 _ k_193) rfl (hR.1 _ 0 _ rfl) d_Exprs_call_25 ?_
      refine mv_iload_n (pc := 28) B d_Exprs_call_28 rfl 1 rfl ?_
      refine mv_callVi (pc := 29) (n := 1) (ci := 2) (C := R_Tokens) B (mK_ok sk sv) hNs rfl rfl (c_Tokens_takeN l hi _ _ hR.1 (hB0.rf hF hP ht2).2.1 (by omega) (by omega) hkn) rfl (ma_goodc kc_Tokens_take) (B.2.2.2.1 _ k_1424) (B.2.2.2.1 _ k_1267) (B.2.2.2.1 _ k_1268) (B.2.2.2.1 _ k_3) ⟨by decide +kernel, by decide +kernel, by decide +kernel⟩ rfl d_Exprs_call_29 rfl (Nat.le_of_ble_eq_true rfl) ⟨by decide, by decide⟩ ⟨by decide, by decide⟩ ⟨by decide, by decide⟩ (mv_noH hno _) (fun v29 σ29 h29 => ?_)
      obtain ⟨a29, w29, e29, r29⟩ := h29
      have q29 := r29.1
      have z29 := fun q => (r29.2.1 q).1
      have y29 := And.intro r29.2.2.2.1 r29.2.2.2.2.1
      subst e29
      have hw29 := r29.2.2.1 hw9 hk3 trivial
      refine mv_gen (fun S32 eS32 => ?_)
      have hR : Rw 48 (mv_r S32) := by rw [eS32]; exact hR
      have hF : RF 48 σ S32 := by rw [eS32]; exact hF.tk3 _ _ _
      have hX : XM 48 th e0 bs BL f0 g0 ns S32 (ms) (sm wt ms) (sm wr ms) (s0) := by rw [eS32]; exact hX.tk3 hP _ _ _
      have t7 : (mv_i S32 3 7).toInt = a29.toInt := by rw [eS32]; rfl
      have t8 : (mv_i S32 3 8).toInt = (mv_i σ 3 8).toInt := by rw [eS32]; first | exact t8 | exact (sub_one (by omega)).trans (by omega) | exact (i32_inc (by omega)).trans (by omega)
      have t9 : (mv_i S32 3 9).toInt = w29.toInt := by rw [eS32]; rfl
      have kS32 : mv_a S32 4 = mv_a σ 4 := by rw [eS32]; first | rfl | exact kp
      have kp := kS32
      clear eS32
      refine mv_callVv (pc := 32) (n := 2) (ci := 6) (C := R_Exprs) B (mK_ok sk sv) hNs rfl rfl (c_Exprs_mark l hi _ _ _ hR.1 (by have := hX.1.1; omega) (by have := hX.1.1; omega)) rfl (ma_goodc kc_Exprs_mark) (B.2.2.2.1 _ k_1416) (B.2.2.2.1 _ k_1418) (B.2.2.2.1 _ ks_48) (B.2.2.2.1 _ k_7) ⟨by decide +kernel, by decide +kernel, by decide +kernel⟩ rfl d_Exprs_call_32 rfl (Nat.le_of_ble_eq_true rfl) ⟨by decide, by decide⟩ ⟨by decide, by decide⟩ ⟨by decide, by decide⟩ (mv_noH hno _) (fun σ32 h32 => ?_)
      subst h32
      refine mv_gen (fun S35 eS35 => ?_)
      have hR : Rw 48 (mv_r S35) := by rw [eS35]; exact hR
      have hF : RF 48 σ S35 := by rw [eS35]; exact hF.mark _ _
      have hX : XM 48 th e0 bs BL f0 g0 ns S35 (((k9, 0) : Mk) :: ms) (sm wt ms) (sm wr ms) (s0) := by rw [eS35]; exact hX.mark hP (by omega) ⟨y29.1, by omega⟩ hkm (fun q => by omega)
      have t7 := Eq.trans (congrArg Int32.toInt (show mv_i S35 3 7 = mv_i _ 3 7 by rw [eS35]; rfl)) t7
      have t8 := Eq.trans (congrArg Int32.toInt (show mv_i S35 3 8 = mv_i _ 3 8 by rw [eS35]; rfl)) t8
      have t9 := Eq.trans (congrArg Int32.toInt (show mv_i S35 3 9 = mv_i _ 3 9 by rw [eS35]; rfl)) t9
      have kp := Eq.trans (show mv_a S35 4 = mv_a _ 4 by rw [eS35]; rfl) kp
      clear eS35
      refine mv_aload_n (pc := 35) B d_Exprs_call_35 rfl 0 rfl ?_
      refine mv_getR (pc := 36) (ci := 6) (C := R_Exprs) (T := F_Exprs) (N := 11) B 0 rfl rfl (by decide) i_Exprs (B.2.2.2.1 _ k_193) rfl (hR.1 _ 0 _ rfl) d_Exprs_call_36 ?_
      refine mv_bipush (pc := 39) (v := 40) B d_Exprs_call_39 (by decide) ?_
      refine mv_callVi (pc := 41) (n := 1) (ci := 2) (C := R_Tokens) B (mK_ok sk sv) hNs rfl rfl (c_Tokens_openN l hi _ _ hR.1 (hB0.rf hF hP ht2).2.1 (by omega) (by omega) (by decide)) rfl (ma_goodc kc_Tokens_open) (B.2.2.2.1 _ k_1415) (B.2.2.2.1 _ k_1350) (B.2.2.2.1 _ k_1351) (B.2.2.2.1 _ k_3) ⟨by decide +kernel, by decide +kernel, by decide +kernel⟩ rfl d_Exprs_call_41 rfl (Nat.le_of_ble_eq_true rfl) ⟨by decide, by decide⟩ ⟨by decide, by decide⟩ ⟨by decide, by decide⟩ (mv_noH hno _) (fun v41 σ41 h41 => ?_)
      obtain ⟨a41, w41, e41, r41⟩ := h41
      have q41 := r41.1
      have z41 := fun q => (r41.2.1 q).1
      have y41 := And.intro r41.2.2.2.1 r41.2.2.2.2.1
      subst e41
      refine mv_gen (fun S44 eS44 => ?_)
      have hR : Rw 48 (mv_r S44) := by rw [eS44]; exact hR
      have hF : RF 48 σ S44 := by rw [eS44]; exact hF.tk3 _ _ _
      have hX : XM 48 th e0 bs BL f0 g0 ns S44 (((k9, 0) : Mk) :: ms) (sm wt ms) (sm wr ms) (s0) := by rw [eS44]; exact hX.tk3 hP _ _ _
      have t7 : (mv_i S44 3 7).toInt = a41.toInt := by rw [eS44]; rfl
      have t8 : (mv_i S44 3 8).toInt = (mv_i σ 3 8).toInt + 1 := by rw [eS44]; first | exact t8 | exact (sub_one (by omega)).trans (by omega) | exact (i32_inc (by omega)).trans (by omega)
      have t9 : (mv_i S44 3 9).toInt = w41.toInt := by rw [eS44]; rfl
      have kS44 : mv_a S44 4 = mv_a σ 4 := by rw [eS44]; first | rfl | exact kp
      have kp := kS44
      have y1 : sm wt (((k9, 0) : Mk) :: ms) = wt (k9, 0) + sm wt ms := rfl
      have y2 : sm wr (((k9, 0) : Mk) :: ms) = wr (k9, 0) + sm wr ms := rfl
      have y3 : sm wd (((k9, 0) : Mk) :: ms) = wd (k9, 0) + sm wd ms := rfl
      have y4 : sm wc (((k9, 0) : Mk) :: ms) = wc (k9, 0) + sm wc ms := rfl
      have hend : 0 ≤ (mv_i S44 3 9).toInt ∨ ∃ ms2 s2 a2, a < a2 ∧ XM 48 th e0 bs BL f0 g0 ns S44 (ms2) (sm wt ms2 + 0) (sm wr ms2 + 0) (s2) ∧ TI S44 sz bd ms2 s2 a2 := by
        by_cases hw : (mv_i S44 3 9).toInt < 0
        · refine Or.inr ⟨((k9, 0) : Mk) :: ms, s0, a + 2, by omega, ?_, by omega, hw, by omega, ?_, by omega, by omega, (hWm.up (by omega)).cons (fun q => absurd q hkw.2.2.2.2)⟩
          · rw [y1, y2, hkw.1, hkw.2.1, Nat.zero_add, Nat.zero_add]
            exact hX
          · have := (r41.2.1 (by omega)).2.2.1
            have : ¬ (mv_i S35 3 8).toInt = 60 := fun q => this (Int32.toInt_inj.mp q)
            omega
        · exact Or.inl (by omega)
      clear eS44
      refine mv_pop (pc := 44) B d_Exprs_call_44 rfl ?_
      exact mv_vret (pc := 45) B hr d_Exprs_call_45 (Nat.le_refl _) (Nat.le_refl _) ⟨rfl, hF, hX.1.2.2.2.1, hend⟩
    · skip
      refine mv_aload_n (pc := 14) B d_Exprs_call_14 rfl 0 rfl ?_
      refine mv_getR (pc := 15) (ci := 6) (C := R_Exprs) (T := F_Exprs) (N := 11) B 0 rfl rfl (by decide) i_Exprs (B.2.2.2.1 _ k_193) rfl (hR.1 _ 0 _ rfl) d_Exprs_call_15 ?_
      refine mv_callVv (pc := 18) (n := 0) (ci := 2) (C := R_Tokens) B (mK_ok sk sv) hNs rfl rfl (c_Tokens_wrongN l hi _ hR.1 hB0.2.1 (by omega) (by omega)) rfl (ma_goodc kc_Tokens_wrong) (B.2.2.2.1 _ k_1459) (B.2.2.2.1 _ k_1275) (B.2.2.2.1 _ k_1276) (B.2.2.2.1 _ k_3) ⟨by decide +kernel, by decide +kernel, by decide +kernel⟩ rfl d_Exprs_call_18 rfl (Nat.le_of_ble_eq_true rfl) ⟨by decide, by decide⟩ ⟨by decide, by decide⟩ ⟨by decide, by decide⟩ (mv_noH hno _) (fun σ18 h18 => ?_)
      obtain ⟨w18, e18, z18⟩ := h18
      subst e18
      refine mv_gen (fun S21 eS21 => ?_)
      have hR : Rw 48 (mv_r S21) := by rw [eS21]; exact hR
      have hF : RF 48 σ S21 := by rw [eS21]; exact hF.tk3 _ _ _
      have hX : XM 48 th e0 bs BL f0 g0 ns S21 (ms) (sm wt ms) (sm wr ms) (s0) := by rw [eS21]; exact hX.tk3 hP _ _ _
      have hw : 0 ≤ (mv_i S21 3 9).toInt := by rw [eS21]; exact z18
      clear eS21
      exact mv_vret (pc := 21) B hr d_Exprs_call_21 (Nat.le_refl _) (Nat.le_refl _) ⟨rfl, hF, hX.1.2.2.2.1, Or.inl hw⟩
set_option maxHeartbeats 4000000 in
set_option maxRecDepth 100000 in
theorem c_Exprs_call_c (l : Launch) {dA : FieldType → ClassId} {D : va_G} {al : Nat → Nat} {sk sv : Nat → Nat} (hi : mv_inj (mg dA D al me)) (σ : mv_H) (k9 : Int32) {t len n z sz th sl e0 bs ns : Nat} {BL : (Nat → Nat) → Prop} {f0 : Nat → Int32} {g0 : Nat → Int64} {ms : List Mk} {s0 bd a : Nat} (hB0 : SB 145 σ t len n z sz th sl) (ht2 : t = 1 ∨ t = 144) (hX : XM 145 th e0 bs BL f0 g0 ns σ (ms) (sm wt ms + 0) (sm wr ms + 0) (s0)) (hI : TI σ sz bd ms s0 a) (hlen : len ≤ 8192) (hbs : bs ≤ 1) (hk3 : mv_a σ 4 (mv_i σ 3 7).toNatClampNeg = k9) : mv_C l y_Exprs_call (Cond.code y_Exprs_call b_Exprs_call 2 (Option.none : Option Jvm.ClassFile.FieldType) :: ma) ({ frames := 3, cells := 0, slots := 0, locals := 63 }) (mg dA D al me) (mK sk sv) [.ref (al 22), .int k9] σ (mv_Rv (fun σ1 => RF 145 σ σ1 ∧ Mt (mv_a σ1 24) ∧ (0 ≤ (mv_i σ1 3 9).toInt ∨ ∃ ms2 s2 a2, a < a2 ∧ XM 145 th e0 bs BL f0 g0 ns σ1 (ms2) (sm wt ms2 + 0) (sm wr ms2 + 0) (s2) ∧ TI σ1 sz bd ms2 s2 a2))) := by
  refine mv_C.ofV (cc := b_Exprs_call) (nL := 2) (ret := (Option.none : Option Jvm.ClassFile.FieldType)) (by decide +kernel) rfl hi (Nat.le_of_ble_eq_true rfl) ?_
  intro p e s m below meth c B hNs hr hnm hno
  have hP : PQ 145 := by unfold PQ; omega
  have hR := hB0.1
  have hF : RF 145 σ σ := RF0
  have hT : mv_i σ 3 = mv_i σ 3 := rfl
  have hsz := hB0.2.1.2.2.2.2.2
  have hsz2 := hB0.2.1.2.2.2.1
  have hI5 := hI.2.2.2.2.1
  have ha9 := hI.2.2.2.2.2.1
  have pl := hI.len hX
  have hm8 := hX.1.1
  have t7 := hI.1
  have hw9 := hI.2.1
  have t9 : (mv_i σ 3 9).toInt = (mv_i σ 3 9).toInt := rfl
  have hd8 := hI.2.2.1
  have hd9 := hI.2.2.2.1
  have hWm := hI.2.2.2.2.2.2
  have kp : mv_a σ 4 = mv_a σ 4 := rfl
  have t8 : (mv_i σ 3 8).toInt = (mv_i σ 3 8).toInt := rfl
  refine mv_iload_n (pc := 0) B d_Exprs_call_0 rfl 1 rfl ?_
  refine mv_sipush (pc := 1) (v := 211) B d_Exprs_call_1 (by decide) ?_
  refine mv_icmp_lt (pc := 4) (tgt := 14) B d_Exprs_call_4 rfl (fun h4 => ?_) (fun h4 => ?_)
  · skip
    refine mv_aload_n (pc := 14) B d_Exprs_call_14 rfl 0 rfl ?_
    refine mv_getR (pc := 15) (ci := 6) (C := R_Exprs) (T := F_Exprs) (N := 11) B 0 rfl rfl (by decide) i_Exprs (B.2.2.2.1 _ k_193) rfl (hR.1 _ 0 _ rfl) d_Exprs_call_15 ?_
    refine mv_callVv (pc := 18) (n := 0) (ci := 2) (C := R_Tokens) B (mK_ok sk sv) hNs rfl rfl (c_Tokens_wrongN l hi _ hR.1 hB0.2.1 (by omega) (by omega)) rfl (ma_goodc kc_Tokens_wrong) (B.2.2.2.1 _ k_1459) (B.2.2.2.1 _ k_1275) (B.2.2.2.1 _ k_1276) (B.2.2.2.1 _ k_3) ⟨by decide +kernel, by decide +kernel, by decide +kernel⟩ rfl d_Exprs_call_18 rfl (Nat.le_of_ble_eq_true rfl) ⟨by decide, by decide⟩ ⟨by decide, by decide⟩ ⟨by decide, by decide⟩ (mv_noH hno _) (fun σ18 h18 => ?_)
    obtain ⟨w18, e18, z18⟩ := h18
    subst e18
    refine mv_gen (fun S21 eS21 => ?_)
    have hR : Rw 145 (mv_r S21) := by rw [eS21]; exact hR
    have hF : RF 145 σ S21 := by rw [eS21]; exact hF.tk3 _ _ _
    have hX : XM 145 th e0 bs BL f0 g0 ns S21 (ms) (sm wt ms) (sm wr ms) (s0) := by rw [eS21]; exact hX.tk3 hP _ _ _
    have hw : 0 ≤ (mv_i S21 3 9).toInt := by rw [eS21]; exact z18
    clear eS21
    exact mv_vret (pc := 21) B hr d_Exprs_call_21 (Nat.le_refl _) (Nat.le_refl _) ⟨rfl, hF, hX.1.2.2.2.1, Or.inl hw⟩
  · skip
    rw [Int32.lt_iff_toInt_lt] at h4
    simp only [Int32.reduceToInt] at h4
    refine mv_iload_n (pc := 7) B d_Exprs_call_7 rfl 1 rfl ?_
    refine mv_sipush (pc := 8) (v := 216) B d_Exprs_call_8 (by decide) ?_
    refine mv_icmp_le (pc := 11) (tgt := 22) B d_Exprs_call_11 rfl (fun h11 => ?_) (fun h11 => ?_)
    · skip
      rw [Int32.le_iff_toInt_le] at h11
      simp only [Int32.reduceToInt] at h11
      have hk9 : k9 = 211 ∨ k9 = 212 ∨ k9 = 213 ∨ k9 = 214 ∨ k9 = 215 ∨ k9 = 216 := by simp only [← Int32.toInt_inj, Int32.reduceToInt]; omega
      have hkn : ¬ k9 = 0 ∧ ¬ k9 = 1 ∧ ¬ k9 = 2 := by rcases hk9 with rfl | rfl | rfl | rfl | rfl | rfl <;> decide
      have hkm : ¬ k9 = 63 ∧ ¬ k9 = 58 ∧ ¬ k9 = 91 := by rcases hk9 with rfl | rfl | rfl | rfl | rfl | rfl <;> decide
      have hkl : lvl k9 = 0 := by rcases hk9 with rfl | rfl | rfl | rfl | rfl | rfl <;> decide
      have hkw : wt (k9, 0) = 0 ∧ wr (k9, 0) = 0 ∧ wc (k9, 0) = 0 ∧ wd (k9, 0) = 1 ∧ ¬ k9 = 123 := by rcases hk9 with rfl | rfl | rfl | rfl | rfl | rfl <;> decide
      refine mv_aload_n (pc := 22) B d_Exprs_call_22 rfl 0 rfl ?_
      refine mv_iload_n (pc := 23) B d_Exprs_call_23 rfl 1 rfl ?_
      refine mv_aload_n (pc := 24) B d_Exprs_call_24 rfl 0 rfl ?_
      refine mv_getR (pc := 25) (ci := 6) (C := R_Exprs) (T := F_Exprs) (N := 11) B 0 rfl rfl (by decide) i_Exprs (B.2.2.2.1 _ k_193) rfl (hR.1 _ 0 _ rfl) d_Exprs_call_25 ?_
      refine mv_iload_n (pc := 28) B d_Exprs_call_28 rfl 1 rfl ?_
      refine mv_callVi (pc := 29) (n := 1) (ci := 2) (C := R_Tokens) B (mK_ok sk sv) hNs rfl rfl (c_Tokens_takeN l hi _ _ hR.1 (hB0.rf hF hP ht2).2.1 (by omega) (by omega) hkn) rfl (ma_goodc kc_Tokens_take) (B.2.2.2.1 _ k_1424) (B.2.2.2.1 _ k_1267) (B.2.2.2.1 _ k_1268) (B.2.2.2.1 _ k_3) ⟨by decide +kernel, by decide +kernel, by decide +kernel⟩ rfl d_Exprs_call_29 rfl (Nat.le_of_ble_eq_true rfl) ⟨by decide, by decide⟩ ⟨by decide, by decide⟩ ⟨by decide, by decide⟩ (mv_noH hno _) (fun v29 σ29 h29 => ?_)
      obtain ⟨a29, w29, e29, r29⟩ := h29
      have q29 := r29.1
      have z29 := fun q => (r29.2.1 q).1
      have y29 := And.intro r29.2.2.2.1 r29.2.2.2.2.1
      subst e29
      have hw29 := r29.2.2.1 hw9 hk3 trivial
      refine mv_gen (fun S32 eS32 => ?_)
      have hR : Rw 145 (mv_r S32) := by rw [eS32]; exact hR
      have hF : RF 145 σ S32 := by rw [eS32]; exact hF.tk3 _ _ _
      have hX : XM 145 th e0 bs BL f0 g0 ns S32 (ms) (sm wt ms) (sm wr ms) (s0) := by rw [eS32]; exact hX.tk3 hP _ _ _
      have t7 : (mv_i S32 3 7).toInt = a29.toInt := by rw [eS32]; rfl
      have t8 : (mv_i S32 3 8).toInt = (mv_i σ 3 8).toInt := by rw [eS32]; first | exact t8 | exact (sub_one (by omega)).trans (by omega) | exact (i32_inc (by omega)).trans (by omega)
      have t9 : (mv_i S32 3 9).toInt = w29.toInt := by rw [eS32]; rfl
      have kS32 : mv_a S32 4 = mv_a σ 4 := by rw [eS32]; first | rfl | exact kp
      have kp := kS32
      clear eS32
      refine mv_callVv (pc := 32) (n := 2) (ci := 6) (C := R_Exprs) B (mK_ok sk sv) hNs rfl rfl (c_Exprs_mark l hi _ _ _ hR.1 (by have := hX.1.1; omega) (by have := hX.1.1; omega)) rfl (ma_goodc kc_Exprs_mark) (B.2.2.2.1 _ k_1416) (B.2.2.2.1 _ k_1418) (B.2.2.2.1 _ ks_48) (B.2.2.2.1 _ k_7) ⟨by decide +kernel, by decide +kernel, by decide +kernel⟩ rfl d_Exprs_call_32 rfl (Nat.le_of_ble_eq_true rfl) ⟨by decide, by decide⟩ ⟨by decide, by decide⟩ ⟨by decide, by decide⟩ (mv_noH hno _) (fun σ32 h32 => ?_)
      subst h32
      refine mv_gen (fun S35 eS35 => ?_)
      have hR : Rw 145 (mv_r S35) := by rw [eS35]; exact hR
      have hF : RF 145 σ S35 := by rw [eS35]; exact hF.mark _ _
      have hX : XM 145 th e0 bs BL f0 g0 ns S35 (((k9, 0) : Mk) :: ms) (sm wt ms) (sm wr ms) (s0) := by rw [eS35]; exact hX.mark hP (by omega) ⟨y29.1, by omega⟩ hkm (fun q => by omega)
      have t7 := Eq.trans (congrArg Int32.toInt (show mv_i S35 3 7 = mv_i _ 3 7 by rw [eS35]; rfl)) t7
      have t8 := Eq.trans (congrArg Int32.toInt (show mv_i S35 3 8 = mv_i _ 3 8 by rw [eS35]; rfl)) t8
      have t9 := Eq.trans (congrArg Int32.toInt (show mv_i S35 3 9 = mv_i _ 3 9 by rw [eS35]; rfl)) t9
      have kp := Eq.trans (show mv_a S35 4 = mv_a _ 4 by rw [eS35]; rfl) kp
      clear eS35
      refine mv_aload_n (pc := 35) B d_Exprs_call_35 rfl 0 rfl ?_
      refine mv_getR (pc := 36) (ci := 6) (C := R_Exprs) (T := F_Exprs) (N := 11) B 0 rfl rfl (by decide) i_Exprs (B.2.2.2.1 _ k_193) rfl (hR.1 _ 0 _ rfl) d_Exprs_call_36 ?_
      refine mv_bipush (pc := 39) (v := 40) B d_Exprs_call_39 (by decide) ?_
      refine mv_callVi (pc := 41) (n := 1) (ci := 2) (C := R_Tokens) B (mK_ok sk sv) hNs rfl rfl (c_Tokens_openN l hi _ _ hR.1 (hB0.rf hF hP ht2).2.1 (by omega) (by omega) (by decide)) rfl (ma_goodc kc_Tokens_open) (B.2.2.2.1 _ k_1415) (B.2.2.2.1 _ k_1350) (B.2.2.2.1 _ k_1351) (B.2.2.2.1 _ k_3) ⟨by decide +kernel, by decide +kernel, by decide +kernel⟩ rfl d_Exprs_call_41 rfl (Nat.le_of_ble_eq_true rfl) ⟨by decide, by decide⟩ ⟨by decide, by decide⟩ ⟨by decide, by decide⟩ (mv_noH hno _) (fun v41 σ41 h41 => ?_)
      obtain ⟨a41, w41, e41, r41⟩ := h41
      have q41 := r41.1
      have z41 := fun q => (r41.2.1 q).1
      have y41 := And.intro r41.2.2.2.1 r41.2.2.2.2.1
      subst e41
      refine mv_gen (fun S44 eS44 => ?_)
      have hR : Rw 145 (mv_r S44) := by rw [eS44]; exact hR
      have hF : RF 145 σ S44 := by rw [eS44]; exact hF.tk3 _ _ _
      have hX : XM 145 th e0 bs BL f0 g0 ns S44 (((k9, 0) : Mk) :: ms) (sm wt ms) (sm wr ms) (s0) := by rw [eS44]; exact hX.tk3 hP _ _ _
      have t7 : (mv_i S44 3 7).toInt = a41.toInt := by rw [eS44]; rfl
      have t8 : (mv_i S44 3 8).toInt = (mv_i σ 3 8).toInt + 1 := by rw [eS44]; first | exact t8 | exact (sub_one (by omega)).trans (by omega) | exact (i32_inc (by omega)).trans (by omega)
      have t9 : (mv_i S44 3 9).toInt = w41.toInt := by rw [eS44]; rfl
      have kS44 : mv_a S44 4 = mv_a σ 4 := by rw [eS44]; first | rfl | exact kp
      have kp := kS44
      have y1 : sm wt (((k9, 0) : Mk) :: ms) = wt (k9, 0) + sm wt ms := rfl
      have y2 : sm wr (((k9, 0) : Mk) :: ms) = wr (k9, 0) + sm wr ms := rfl
      have y3 : sm wd (((k9, 0) : Mk) :: ms) = wd (k9, 0) + sm wd ms := rfl
      have y4 : sm wc (((k9, 0) : Mk) :: ms) = wc (k9, 0) + sm wc ms := rfl
      have hend : 0 ≤ (mv_i S44 3 9).toInt ∨ ∃ ms2 s2 a2, a < a2 ∧ XM 145 th e0 bs BL f0 g0 ns S44 (ms2) (sm wt ms2 + 0) (sm wr ms2 + 0) (s2) ∧ TI S44 sz bd ms2 s2 a2 := by
        by_cases hw : (mv_i S44 3 9).toInt < 0
        · refine Or.inr ⟨((k9, 0) : Mk) :: ms, s0, a + 2, by omega, ?_, by omega, hw, by omega, ?_, by omega, by omega, (hWm.up (by omega)).cons (fun q => absurd q hkw.2.2.2.2)⟩
          · rw [y1, y2, hkw.1, hkw.2.1, Nat.zero_add, Nat.zero_add]
            exact hX
          · have := (r41.2.1 (by omega)).2.2.1
            have : ¬ (mv_i S35 3 8).toInt = 60 := fun q => this (Int32.toInt_inj.mp q)
            omega
        · exact Or.inl (by omega)
      clear eS44
      refine mv_pop (pc := 44) B d_Exprs_call_44 rfl ?_
      exact mv_vret (pc := 45) B hr d_Exprs_call_45 (Nat.le_refl _) (Nat.le_refl _) ⟨rfl, hF, hX.1.2.2.2.1, hend⟩
    · skip
      refine mv_aload_n (pc := 14) B d_Exprs_call_14 rfl 0 rfl ?_
      refine mv_getR (pc := 15) (ci := 6) (C := R_Exprs) (T := F_Exprs) (N := 11) B 0 rfl rfl (by decide) i_Exprs (B.2.2.2.1 _ k_193) rfl (hR.1 _ 0 _ rfl) d_Exprs_call_15 ?_
      refine mv_callVv (pc := 18) (n := 0) (ci := 2) (C := R_Tokens) B (mK_ok sk sv) hNs rfl rfl (c_Tokens_wrongN l hi _ hR.1 hB0.2.1 (by omega) (by omega)) rfl (ma_goodc kc_Tokens_wrong) (B.2.2.2.1 _ k_1459) (B.2.2.2.1 _ k_1275) (B.2.2.2.1 _ k_1276) (B.2.2.2.1 _ k_3) ⟨by decide +kernel, by decide +kernel, by decide +kernel⟩ rfl d_Exprs_call_18 rfl (Nat.le_of_ble_eq_true rfl) ⟨by decide, by decide⟩ ⟨by decide, by decide⟩ ⟨by decide, by decide⟩ (mv_noH hno _) (fun σ18 h18 => ?_)
      obtain ⟨w18, e18, z18⟩ := h18
      subst e18
      refine mv_gen (fun S21 eS21 => ?_)
      have hR : Rw 145 (mv_r S21) := by rw [eS21]; exact hR
      have hF : RF 145 σ S21 := by rw [eS21]; exact hF.tk3 _ _ _
      have hX : XM 145 th e0 bs BL f0 g0 ns S21 (ms) (sm wt ms) (sm wr ms) (s0) := by rw [eS21]; exact hX.tk3 hP _ _ _
      have hw : 0 ≤ (mv_i S21 3 9).toInt := by rw [eS21]; exact z18
      clear eS21
      exact mv_vret (pc := 21) B hr d_Exprs_call_21 (Nat.le_refl _) (Nat.le_refl _) ⟨rfl, hF, hX.1.2.2.2.1, Or.inl hw⟩
