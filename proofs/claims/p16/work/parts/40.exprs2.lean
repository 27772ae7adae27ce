/-! Exprs: ofTwo, endSigns, endBinaries, endChoices -/
theorem Op1_bin {k : Int32} (h : bin k) (th : Nat) (w : Int64) (x : Nat) : Op1 th k w (x + 2) (x + 1) := by
  obtain ⟨h1, -, -, h4⟩ := bin_op h
  unfold Op1
  rw [h1]
  exact ⟨by show 2 ≤ x + 2; omega, by show x + 1 + 2 = x + 2 + 1; omega, h4 th w⟩
def y_Exprs_ofTwo : MethodName := ⟨"MachineLoom$Exprs", "ofTwo", "(II)V"⟩
abbrev b_Exprs_ofTwo : ByteArray := prog_3_method_16_code
theorem kc_Exprs_ofTwo : Cond.code y_Exprs_ofTwo b_Exprs_ofTwo 7 (Option.none : Option Jvm.ClassFile.FieldType) ∈ ma := ma_of (tb_7 _ (List.mem_of_getElem? (i := 52) rfl)) rfl
theorem k_1432 : (Jvm.Cond.methodLink "MachineLoom$Exprs" (102 : Nat) ({ cls := "MachineLoom$Exprs", name := "hold", desc := "(I)V" } : Jvm.MethodName)) ∈ ma := ma_of (tb_6 _ (List.mem_of_getElem? (i := 232) rfl)) rfl
theorem k_7 : (Jvm.Cond.initialized "MachineLoom$Exprs") ∈ ma := ma_of (tb_1 _ (List.mem_of_getElem? (i := 7) rfl)) rfl
theorem k_1434 : (Jvm.Cond.instanceMethod ({ cls := "MachineLoom$Exprs", name := "hold", desc := "(I)V" } : Jvm.MethodName)) ∈ ma := ma_of (tb_6 _ (List.mem_of_getElem? (i := 234) rfl)) rfl
theorem ks_51 : Cond.selects "MachineLoom$Exprs" ⟨"MachineLoom$Exprs", "hold", "(I)V"⟩ ⟨"MachineLoom$Exprs", "hold", "(I)V"⟩ ∈ ma := ma_sel 51 rfl rfl
theorem k_1482 : (Jvm.Cond.methodLink "MachineLoom$Exprs" (146 : Nat) ({ cls := "MachineLoom$Exprs", name := "levelOf", desc := "(I)I" } : Jvm.MethodName)) ∈ ma := ma_of (tb_7 _ (List.mem_of_getElem? (i := 42) rfl)) rfl
theorem k_1483 : (Jvm.Cond.static ({ cls := "MachineLoom$Exprs", name := "levelOf", desc := "(I)I" } : Jvm.MethodName)) ∈ ma := ma_of (tb_7 _ (List.mem_of_getElem? (i := 43) rfl)) rfl
theorem k_1427 : (Jvm.Cond.methodLink "MachineLoom$Exprs" (101 : Nat) ({ cls := "MachineLoom$Exprs", name := "tell", desc := "(II)V" } : Jvm.MethodName)) ∈ ma := ma_of (tb_6 _ (List.mem_of_getElem? (i := 227) rfl)) rfl
theorem k_1429 : (Jvm.Cond.instanceMethod ({ cls := "MachineLoom$Exprs", name := "tell", desc := "(II)V" } : Jvm.MethodName)) ∈ ma := ma_of (tb_6 _ (List.mem_of_getElem? (i := 229) rfl)) rfl
theorem ks_50 : Cond.selects "MachineLoom$Exprs" ⟨"MachineLoom$Exprs", "tell", "(II)V"⟩ ⟨"MachineLoom$Exprs", "tell", "(II)V"⟩ ∈ ma := ma_sel 50 rfl rfl
theorem k_1469 : (Jvm.Cond.methodLink "MachineLoom$Exprs" (164 : Nat) ({ cls := "MachineLoom$Exprs", name := "release", desc := "()I" } : Jvm.MethodName)) ∈ ma := ma_of (tb_7 _ (List.mem_of_getElem? (i := 29) rfl)) rfl
theorem k_1470 : (Jvm.Cond.instanceMethod ({ cls := "MachineLoom$Exprs", name := "release", desc := "()I" } : Jvm.MethodName)) ∈ ma := ma_of (tb_7 _ (List.mem_of_getElem? (i := 30) rfl)) rfl
theorem k_1471 : (Jvm.Cond.selects "MachineLoom$Exprs" ({ cls := "MachineLoom$Exprs", name := "release", desc := "()I" } : Jvm.MethodName) ({ cls := "MachineLoom$Exprs", name := "release", desc := "()I" } : Jvm.MethodName)) ∈ ma := ma_of (tb_7 _ (List.mem_of_getElem? (i := 31) rfl)) rfl
theorem k_197 : (Jvm.Cond.fieldLink "MachineLoom$Exprs" (89 : Nat) "MachineLoom$Exprs" "program" "LMachineLoom$Program;") ∈ ma := ma_of (tb_1 _ (List.mem_of_getElem? (i := 197) rfl)) rfl
theorem k_1425 : (Jvm.Cond.methodLink "MachineLoom$Exprs" (93 : Nat) ({ cls := "MachineLoom$Program", name := "emit", desc := "(IJ)I" } : Jvm.MethodName)) ∈ ma := ma_of (tb_6 _ (List.mem_of_getElem? (i := 225) rfl)) rfl
theorem k_1385 : (Jvm.Cond.instanceMethod ({ cls := "MachineLoom$Program", name := "emit", desc := "(IJ)I" } : Jvm.MethodName)) ∈ ma := ma_of (tb_6 _ (List.mem_of_getElem? (i := 185) rfl)) rfl
theorem k_1386 : (Jvm.Cond.selects "MachineLoom$Program" ({ cls := "MachineLoom$Program", name := "emit", desc := "(IJ)I" } : Jvm.MethodName) ({ cls := "MachineLoom$Program", name := "emit", desc := "(IJ)I" } : Jvm.MethodName)) ∈ ma := ma_of (tb_6 _ (List.mem_of_getElem? (i := 186) rfl)) rfl
theorem d_Exprs_ofTwo_0 : decode b_Exprs_ofTwo 0 = .ok (.aload_n 0, 1) := by decide +kernel
theorem d_Exprs_ofTwo_1 : decode b_Exprs_ofTwo 1 = .ok (.invokevirtual 164, 3) := by decide +kernel
theorem d_Exprs_ofTwo_4 : decode b_Exprs_ofTwo 4 = .ok (.istore_n 3, 1) := by decide +kernel
theorem d_Exprs_ofTwo_5 : decode b_Exprs_ofTwo 5 = .ok (.aload_n 0, 1) := by decide +kernel
theorem d_Exprs_ofTwo_6 : decode b_Exprs_ofTwo 6 = .ok (.invokevirtual 164, 3) := by decide +kernel
theorem d_Exprs_ofTwo_9 : decode b_Exprs_ofTwo 9 = .ok (.istore 4, 2) := by decide +kernel
theorem d_Exprs_ofTwo_11 : decode b_Exprs_ofTwo 11 = .ok (.aload_n 0, 1) := by decide +kernel
theorem d_Exprs_ofTwo_12 : decode b_Exprs_ofTwo 12 = .ok (.getfield 89, 3) := by decide +kernel
theorem d_Exprs_ofTwo_15 : decode b_Exprs_ofTwo 15 = .ok (.iload_n 1, 1) := by decide +kernel
theorem d_Exprs_ofTwo_16 : decode b_Exprs_ofTwo 16 = .ok (.iload 4, 2) := by decide +kernel
theorem d_Exprs_ofTwo_18 : decode b_Exprs_ofTwo 18 = .ok (.i2l, 1) := by decide +kernel
theorem d_Exprs_ofTwo_19 : decode b_Exprs_ofTwo 19 = .ok (.invokevirtual 93, 3) := by decide +kernel
theorem d_Exprs_ofTwo_22 : decode b_Exprs_ofTwo 22 = .ok (.pop, 1) := by decide +kernel
theorem d_Exprs_ofTwo_23 : decode b_Exprs_ofTwo 23 = .ok (.iload_n 1, 1) := by decide +kernel
theorem d_Exprs_ofTwo_24 : decode b_Exprs_ofTwo 24 = .ok (.sipush 131, 3) := by decide +kernel
theorem d_Exprs_ofTwo_27 : decode b_Exprs_ofTwo 27 = .ok (.if_icmp .eq (17), 3) := by decide +kernel
theorem d_Exprs_ofTwo_30 : decode b_Exprs_ofTwo 30 = .ok (.iload_n 1, 1) := by decide +kernel
theorem d_Exprs_ofTwo_31 : decode b_Exprs_ofTwo 31 = .ok (.sipush 132, 3) := by decide +kernel
theorem d_Exprs_ofTwo_34 : decode b_Exprs_ofTwo 34 = .ok (.if_icmp .eq (10), 3) := by decide +kernel
theorem d_Exprs_ofTwo_37 : decode b_Exprs_ofTwo 37 = .ok (.iload_n 1, 1) := by decide +kernel
theorem d_Exprs_ofTwo_38 : decode b_Exprs_ofTwo 38 = .ok (.sipush 216, 3) := by decide +kernel
theorem d_Exprs_ofTwo_41 : decode b_Exprs_ofTwo 41 = .ok (.if_icmp .ne (7), 3) := by decide +kernel
theorem d_Exprs_ofTwo_44 : decode b_Exprs_ofTwo 44 = .ok (.iconst 1, 1) := by decide +kernel
theorem d_Exprs_ofTwo_45 : decode b_Exprs_ofTwo 45 = .ok (.goto (4), 3) := by decide +kernel
theorem d_Exprs_ofTwo_48 : decode b_Exprs_ofTwo 48 = .ok (.iconst 0, 1) := by decide +kernel
theorem d_Exprs_ofTwo_49 : decode b_Exprs_ofTwo 49 = .ok (.istore 5, 2) := by decide +kernel
theorem d_Exprs_ofTwo_51 : decode b_Exprs_ofTwo 51 = .ok (.iload 4, 2) := by decide +kernel
theorem d_Exprs_ofTwo_53 : decode b_Exprs_ofTwo 53 = .ok (.ifCond .eq (7), 3) := by decide +kernel
theorem d_Exprs_ofTwo_56 : decode b_Exprs_ofTwo 56 = .ok (.iload_n 3, 1) := by decide +kernel
theorem d_Exprs_ofTwo_57 : decode b_Exprs_ofTwo 57 = .ok (.ifCond .ne (11), 3) := by decide +kernel
theorem d_Exprs_ofTwo_60 : decode b_Exprs_ofTwo 60 = .ok (.aload_n 0, 1) := by decide +kernel
theorem d_Exprs_ofTwo_61 : decode b_Exprs_ofTwo 61 = .ok (.iconst 0, 1) := by decide +kernel
theorem d_Exprs_ofTwo_62 : decode b_Exprs_ofTwo 62 = .ok (.invokevirtual 102, 3) := by decide +kernel
theorem d_Exprs_ofTwo_65 : decode b_Exprs_ofTwo 65 = .ok (.goto (63), 3) := by decide +kernel
theorem d_Exprs_ofTwo_68 : decode b_Exprs_ofTwo 68 = .ok (.iload 4, 2) := by decide +kernel
theorem d_Exprs_ofTwo_70 : decode b_Exprs_ofTwo 70 = .ok (.iload_n 3, 1) := by decide +kernel
theorem d_Exprs_ofTwo_71 : decode b_Exprs_ofTwo 71 = .ok (.if_icmp .eq (22), 3) := by decide +kernel
theorem d_Exprs_ofTwo_74 : decode b_Exprs_ofTwo 74 = .ok (.iload 5, 2) := by decide +kernel
theorem d_Exprs_ofTwo_76 : decode b_Exprs_ofTwo 76 = .ok (.ifCond .ne (17), 3) := by decide +kernel
theorem d_Exprs_ofTwo_79 : decode b_Exprs_ofTwo 79 = .ok (.aload_n 0, 1) := by decide +kernel
theorem d_Exprs_ofTwo_80 : decode b_Exprs_ofTwo 80 = .ok (.iload_n 2, 1) := by decide +kernel
theorem d_Exprs_ofTwo_81 : decode b_Exprs_ofTwo 81 = .ok (.iconst 4, 1) := by decide +kernel
theorem d_Exprs_ofTwo_82 : decode b_Exprs_ofTwo 82 = .ok (.invokevirtual 101, 3) := by decide +kernel
theorem d_Exprs_ofTwo_85 : decode b_Exprs_ofTwo 85 = .ok (.aload_n 0, 1) := by decide +kernel
theorem d_Exprs_ofTwo_86 : decode b_Exprs_ofTwo 86 = .ok (.iconst 0, 1) := by decide +kernel
theorem d_Exprs_ofTwo_87 : decode b_Exprs_ofTwo 87 = .ok (.invokevirtual 102, 3) := by decide +kernel
theorem d_Exprs_ofTwo_90 : decode b_Exprs_ofTwo 90 = .ok (.goto (38), 3) := by decide +kernel
theorem d_Exprs_ofTwo_93 : decode b_Exprs_ofTwo 93 = .ok (.iload_n 1, 1) := by decide +kernel
theorem d_Exprs_ofTwo_94 : decode b_Exprs_ofTwo 94 = .ok (.invokestatic 146, 3) := by decide +kernel
theorem d_Exprs_ofTwo_97 : decode b_Exprs_ofTwo 97 = .ok (.istore 6, 2) := by decide +kernel
theorem d_Exprs_ofTwo_99 : decode b_Exprs_ofTwo 99 = .ok (.aload_n 0, 1) := by decide +kernel
theorem d_Exprs_ofTwo_100 : decode b_Exprs_ofTwo 100 = .ok (.iload 6, 2) := by decide +kernel
theorem d_Exprs_ofTwo_102 : decode b_Exprs_ofTwo 102 = .ok (.iconst 4, 1) := by decide +kernel
theorem d_Exprs_ofTwo_103 : decode b_Exprs_ofTwo 103 = .ok (.if_icmp .eq (16), 3) := by decide +kernel
theorem d_Exprs_ofTwo_106 : decode b_Exprs_ofTwo 106 = .ok (.iload 6, 2) := by decide +kernel
theorem d_Exprs_ofTwo_108 : decode b_Exprs_ofTwo 108 = .ok (.iconst 5, 1) := by decide +kernel
theorem d_Exprs_ofTwo_109 : decode b_Exprs_ofTwo 109 = .ok (.if_icmp .eq (10), 3) := by decide +kernel
theorem d_Exprs_ofTwo_112 : decode b_Exprs_ofTwo 112 = .ok (.iload_n 1, 1) := by decide +kernel
theorem d_Exprs_ofTwo_113 : decode b_Exprs_ofTwo 113 = .ok (.sipush 213, 3) := by decide +kernel
theorem d_Exprs_ofTwo_116 : decode b_Exprs_ofTwo 116 = .ok (.if_icmp .ne (7), 3) := by decide +kernel
theorem d_Exprs_ofTwo_119 : decode b_Exprs_ofTwo 119 = .ok (.iconst 1, 1) := by decide +kernel
theorem d_Exprs_ofTwo_120 : decode b_Exprs_ofTwo 120 = .ok (.goto (5), 3) := by decide +kernel
theorem d_Exprs_ofTwo_123 : decode b_Exprs_ofTwo 123 = .ok (.iload 4, 2) := by decide +kernel
theorem d_Exprs_ofTwo_125 : decode b_Exprs_ofTwo 125 = .ok (.invokevirtual 102, 3) := by decide +kernel
theorem d_Exprs_ofTwo_128 : decode b_Exprs_ofTwo 128 = .ok (.return_, 1) := by decide +kernel
set_option maxHeartbeats 4000000 in
set_option maxRecDepth 100000 in
theorem c_Exprs_ofTwo_a (l : Launch) {dA : FieldType → ClassId} {D : va_G} {al : Nat → Nat} {ext : mv_Sh} {sk sv : Nat → Nat} (hi : mv_inj (mg dA D al ext)) (σ : mv_H) (k9 t9 : Int32) {t len n z sz th sl e0 bs ns : Nat} {BL : (Nat → Nat) → Prop} {f0 : Nat → Int32} {g0 : Nat → Int64} {ms : List Mk} {hl ht s0 : Nat} (hB0 : SB 32 σ t len n z sz th sl) (ht2 : t = 1 ∨ t = 144) (hX : XM 32 th e0 bs BL f0 g0 ns σ (ms) (hl + 2) (ht + 2) (s0)) (hk : bin k9) (gt0 : 0 ≤ t9.toInt) (gt1 : t9.toInt < 32770) (hs : s0 < 32768) (hh : hl ≤ 900) (hb : bs + ht ≤ 990) : mv_C l y_Exprs_ofTwo (Cond.code y_Exprs_ofTwo b_Exprs_ofTwo 7 (Option.none : Option Jvm.ClassFile.FieldType) :: ma) ({ frames := 2, cells := 0, slots := 0, locals := 44 }) (mg dA D al ext) (mK sk sv) [.ref (al 22), .int k9, .int t9] σ (mv_Rv (fun σ1 => RF 32 σ σ1 ∧ XM 32 th e0 bs BL f0 g0 ns σ1 (ms) (hl + 1) (ht + 1) (s0 + 1) ∧ mv_i σ1 3 = mv_i σ 3)) := by
  refine mv_C.ofV (cc := b_Exprs_ofTwo) (nL := 7) (ret := (Option.none : Option Jvm.ClassFile.FieldType)) (by decide +kernel) rfl hi (Nat.le_of_ble_eq_true rfl) ?_
  intro p e s m below meth c B hNs hr hnm hno
  have hP : PQ 32 := by unfold PQ; omega
  have hR := hB0.1
  have hF : RF 32 σ σ := RF0
  have hT : mv_i σ 3 = mv_i σ 3 := rfl
  have hk2 := bin_op hk
  have j125 : ∀ (τ : mv_H) (x9 : Int32) (hR : Rw 32 (mv_r τ)) (hF : RF 32 σ τ) (hX : XM 32 th e0 bs BL f0 g0 ns τ (ms) (hl) (ht + 1) (s0 + 1)) (hT : mv_i τ 3 = mv_i σ 3), mv_V p l e ({ frames := 2, cells := 0, slots := 0, locals := 44 }) s m ([.ref (al 22), .int k9, .int t9] : List Value).toArray below meth c (mg dA D al ext) 7 0 0 (mv_Q (mg dA D al ext) below s 0 0 (mv_Rv (fun σ1 => RF 32 σ σ1 ∧ XM 32 th e0 bs BL f0 g0 ns σ1 (ms) (hl + 1) (ht + 1) (s0 + 1) ∧ mv_i σ1 3 = mv_i σ 3))) τ 125 [(0, .ref (al 22))] [.int x9, .ref (al 22)] := by
    intro τ x9 hR hF hX hT
    refine mv_callVv (pc := 125) (n := 1) (ci := 6) (C := R_Exprs) B (mK_ok sk sv) hNs rfl rfl (c_Exprs_hold l hi _ _ hR.1 (by have := hX.1.2.2.1; omega) (by have := hX.1.2.2.1; omega)) rfl (ma_goodc kc_Exprs_hold) (B.2.2.2.1 _ k_1432) (B.2.2.2.1 _ k_1434) (B.2.2.2.1 _ ks_51) (B.2.2.2.1 _ k_7) ⟨by decide +kernel, by decide +kernel, by decide +kernel⟩ rfl d_Exprs_ofTwo_125 rfl (Nat.le_of_ble_eq_true rfl) ⟨by decide, by decide⟩ ⟨by decide, by decide⟩ ⟨by decide, by decide⟩ (mv_noH hno _) (fun σ125 h125 => ?_)
    subst h125
    refine mv_gen (fun S128 eS128 => ?_)
    have hR : Rw 32 (mv_r S128) := by rw [eS128]; exact hR
    have hF : RF 32 σ S128 := by rw [eS128]; exact hF.hold _
    have hX : XM 32 th e0 bs BL f0 g0 ns S128 (ms) (hl + 1) (ht + 1) (s0 + 1) := by rw [eS128]; exact hX.hold hP (by omega) _
    have hT : mv_i S128 3 = mv_i σ 3 := by rw [eS128]; exact hT
    clear eS128
    exact mv_vret (pc := 128) B hr d_Exprs_ofTwo_128 (Nat.le_refl _) (Nat.le_refl _) ⟨rfl, hF, hX, hT⟩
  have j51 : ∀ (τ : mv_H) (fl : Int32) (lf : Int32) (rt : Int32) (hR : Rw 32 (mv_r τ)) (hF : RF 32 σ τ) (hX : XM 32 th e0 bs BL f0 g0 ns τ (ms) (hl) (ht + 1) (s0 + 1)) (hT : mv_i τ 3 = mv_i σ 3), mv_V p l e ({ frames := 2, cells := 0, slots := 0, locals := 44 }) s m ([.ref (al 22), .int k9, .int t9] : List Value).toArray below meth c (mg dA D al ext) 7 0 0 (mv_Q (mg dA D al ext) below s 0 0 (mv_Rv (fun σ1 => RF 32 σ σ1 ∧ XM 32 th e0 bs BL f0 g0 ns σ1 (ms) (hl + 1) (ht + 1) (s0 + 1) ∧ mv_i σ1 3 = mv_i σ 3))) τ 51 [(5, .int fl), (4, .int lf), (3, .int rt), (0, .ref (al 22)), (1, .int k9), (2, .int t9)] [] := by
    intro τ fl lf rt hR hF hX hT
    refine mv_iload (pc := 51) B d_Exprs_ofTwo_51 1 rfl ?_
    refine mv_if_eq (pc := 53) (tgt := 60) B d_Exprs_ofTwo_53 rfl (fun h53 => ?_) (fun h53 => ?_)
    · skip
      refine mv_aload_n (pc := 60) B d_Exprs_ofTwo_60 rfl 3 rfl ?_
      refine mv_iconst (pc := 61) (v := 0) B d_Exprs_ofTwo_61 (by decide) ?_
      refine mv_callVv (pc := 62) (n := 1) (ci := 6) (C := R_Exprs) B (mK_ok sk sv) hNs rfl rfl (c_Exprs_hold l hi _ _ hR.1 (by have := hX.1.2.2.1; omega) (by have := hX.1.2.2.1; omega)) rfl (ma_goodc kc_Exprs_hold) (B.2.2.2.1 _ k_1432) (B.2.2.2.1 _ k_1434) (B.2.2.2.1 _ ks_51) (B.2.2.2.1 _ k_7) ⟨by decide +kernel, by decide +kernel, by decide +kernel⟩ rfl d_Exprs_ofTwo_62 rfl (Nat.le_of_ble_eq_true rfl) ⟨by decide, by decide⟩ ⟨by decide, by decide⟩ ⟨by decide, by decide⟩ (mv_noH hno _) (fun σ62 h62 => ?_)
      subst h62
      refine mv_goto (pc := 65) (tgt := 128) B d_Exprs_ofTwo_65 rfl ?_
      refine mv_gen (fun S128 eS128 => ?_)
      have hR : Rw 32 (mv_r S128) := by rw [eS128]; exact hR
      have hF : RF 32 σ S128 := by rw [eS128]; exact hF.hold _
      have hX : XM 32 th e0 bs BL f0 g0 ns S128 (ms) (hl + 1) (ht + 1) (s0 + 1) := by rw [eS128]; exact hX.hold hP (by omega) _
      have hT : mv_i S128 3 = mv_i σ 3 := by rw [eS128]; exact hT
      clear eS128
      exact mv_vret (pc := 128) B hr d_Exprs_ofTwo_128 (Nat.le_refl _) (Nat.le_refl _) ⟨rfl, hF, hX, hT⟩
    · skip
      refine mv_iload_n (pc := 56) B d_Exprs_ofTwo_56 rfl 2 rfl ?_
      refine mv_if_ne (pc := 57) (tgt := 68) B d_Exprs_ofTwo_57 rfl (fun h57 => ?_) (fun h57 => ?_)
      · skip
        refine mv_iload (pc := 68) B d_Exprs_ofTwo_68 1 rfl ?_
        refine mv_iload_n (pc := 70) B d_Exprs_ofTwo_70 rfl 2 rfl ?_
        refine mv_icmp_eq (pc := 71) (tgt := 93) B d_Exprs_ofTwo_71 rfl (fun h71 => ?_) (fun h71 => ?_)
        · skip
          refine mv_iload_n (pc := 93) B d_Exprs_ofTwo_93 rfl 4 rfl ?_
          refine mv_callSi (pc := 94) (n := 1) B (mK_ok sk sv) hNs (c_Exprs_levelOf l hi _ _) rfl (ma_goodc kc_Exprs_levelOf) (B.2.2.2.1 _ k_1482) (B.2.2.2.1 _ k_1483) (B.2.2.2.1 _ k_7) ⟨by decide +kernel, by decide +kernel, by decide +kernel⟩ rfl d_Exprs_ofTwo_94 rfl (Nat.le_of_ble_eq_true rfl) ⟨by decide, by decide⟩ ⟨by decide, by decide⟩ ⟨by decide, by decide⟩ (mv_noH hno _) (fun v94 σ94 h94 => ?_)
          obtain ⟨e94, z94⟩ := h94
          have e94 := e94.symm
          subst e94
          refine mv_istore (pc := 97) B d_Exprs_ofTwo_97 (by decide) rfl ?_
          refine mv_aload_n (pc := 99) B d_Exprs_ofTwo_99 rfl 4 rfl ?_
          refine mv_iload (pc := 100) B d_Exprs_ofTwo_100 0 rfl ?_
          refine mv_iconst (pc := 102) (v := 4) B d_Exprs_ofTwo_102 (by decide) ?_
          refine mv_icmp_eq (pc := 103) (tgt := 119) B d_Exprs_ofTwo_103 rfl (fun h103 => ?_) (fun h103 => ?_)
          · skip
            refine mv_iconst (pc := 119) (v := 1) B d_Exprs_ofTwo_119 (by decide) ?_
            refine mv_goto (pc := 120) (tgt := 125) B d_Exprs_ofTwo_120 rfl ?_
            refine mv_lpick [4] rfl ?_
            exact j125 _ _ hR hF hX hT
          · skip
            refine mv_iload (pc := 106) B d_Exprs_ofTwo_106 0 rfl ?_
            refine mv_iconst (pc := 108) (v := 5) B d_Exprs_ofTwo_108 (by decide) ?_
            refine mv_icmp_eq (pc := 109) (tgt := 119) B d_Exprs_ofTwo_109 rfl (fun h109 => ?_) (fun h109 => ?_)
            · skip
              refine mv_iconst (pc := 119) (v := 1) B d_Exprs_ofTwo_119 (by decide) ?_
              refine mv_goto (pc := 120) (tgt := 125) B d_Exprs_ofTwo_120 rfl ?_
              refine mv_lpick [4] rfl ?_
              exact j125 _ _ hR hF hX hT
            · skip
              refine mv_iload_n (pc := 112) B d_Exprs_ofTwo_112 rfl 5 rfl ?_
              refine mv_sipush (pc := 113) (v := 213) B d_Exprs_ofTwo_113 (by decide) ?_
              refine mv_icmp_ne (pc := 116) (tgt := 123) B d_Exprs_ofTwo_116 rfl (fun h116 => ?_) (fun h116 => ?_)
              · skip
                refine mv_iload (pc := 123) B d_Exprs_ofTwo_123 2 rfl ?_
                refine mv_lpick [4] rfl ?_
                exact j125 _ _ hR hF hX hT
              · skip
                refine mv_iconst (pc := 119) (v := 1) B d_Exprs_ofTwo_119 (by decide) ?_
                refine mv_goto (pc := 120) (tgt := 125) B d_Exprs_ofTwo_120 rfl ?_
                refine mv_lpick [4] rfl ?_
                exact j125 _ _ hR hF hX hT
        · skip
          refine mv_iload (pc := 74) B d_Exprs_ofTwo_74 0 rfl ?_
          refine mv_if_ne (pc := 76) (tgt := 93) B d_Exprs_ofTwo_76 rfl (fun h76 => ?_) (fun h76 => ?_)
          · skip
            refine mv_iload_n (pc := 93) B d_Exprs_ofTwo_93 rfl 4 rfl ?_
            refine mv_callSi (pc := 94) (n := 1) B (mK_ok sk sv) hNs (c_Exprs_levelOf l hi _ _) rfl (ma_goodc kc_Exprs_levelOf) (B.2.2.2.1 _ k_1482) (B.2.2.2.1 _ k_1483) (B.2.2.2.1 _ k_7) ⟨by decide +kernel, by decide +kernel, by decide +kernel⟩ rfl d_Exprs_ofTwo_94 rfl (Nat.le_of_ble_eq_true rfl) ⟨by decide, by decide⟩ ⟨by decide, by decide⟩ ⟨by decide, by decide⟩ (mv_noH hno _) (fun v94 σ94 h94 => ?_)
            obtain ⟨e94, z94⟩ := h94
            have e94 := e94.symm
            subst e94
            refine mv_istore (pc := 97) B d_Exprs_ofTwo_97 (by decide) rfl ?_
            refine mv_aload_n (pc := 99) B d_Exprs_ofTwo_99 rfl 4 rfl ?_
            refine mv_iload (pc := 100) B d_Exprs_ofTwo_100 0 rfl ?_
            refine mv_iconst (pc := 102) (v := 4) B d_Exprs_ofTwo_102 (by decide) ?_
            refine mv_icmp_eq (pc := 103) (tgt := 119) B d_Exprs_ofTwo_103 rfl (fun h103 => ?_) (fun h103 => ?_)
            · skip
              refine mv_iconst (pc := 119) (v := 1) B d_Exprs_ofTwo_119 (by decide) ?_
              refine mv_goto (pc := 120) (tgt := 125) B d_Exprs_ofTwo_120 rfl ?_
              refine mv_lpick [4] rfl ?_
              exact j125 _ _ hR hF hX hT
            · skip
              refine mv_iload (pc := 106) B d_Exprs_ofTwo_106 0 rfl ?_
              refine mv_iconst (pc := 108) (v := 5) B d_Exprs_ofTwo_108 (by decide) ?_
              refine mv_icmp_eq (pc := 109) (tgt := 119) B d_Exprs_ofTwo_109 rfl (fun h109 => ?_) (fun h109 => ?_)
              · skip
                refine mv_iconst (pc := 119) (v := 1) B d_Exprs_ofTwo_119 (by decide) ?_
                refine mv_goto (pc := 120) (tgt := 125) B d_Exprs_ofTwo_120 rfl ?_
                refine mv_lpick [4] rfl ?_
                exact j125 _ _ hR hF hX hT
              · skip
                refine mv_iload_n (pc := 112) B d_Exprs_ofTwo_112 rfl 5 rfl ?_
                refine mv_sipush (pc := 113) (v := 213) B d_Exprs_ofTwo_113 (by decide) ?_
                refine mv_icmp_ne (pc := 116) (tgt := 123) B d_Exprs_ofTwo_116 rfl (fun h116 => ?_) (fun h116 => ?_)
                · skip
                  refine mv_iload (pc := 123) B d_Exprs_ofTwo_123 2 rfl ?_
                  refine mv_lpick [4] rfl ?_
                  exact j125 _ _ hR hF hX hT
                · skip
                  refine mv_iconst (pc := 119) (v := 1) B d_Exprs_ofTwo_119 (by decide) ?_
                  refine mv_goto (pc := 120) (tgt := 125) B d_Exprs_ofTwo_120 rfl ?_
                  refine mv_lpick [4] rfl ?_
                  exact j125 _ _ hR hF hX hT
          · skip
            refine mv_aload_n (pc := 79) B d_Exprs_ofTwo_79 rfl 3 rfl ?_
            refine mv_iload_n (pc := 80) B d_Exprs_ofTwo_80 rfl 5 rfl ?_
            refine mv_iconst (pc := 81) (v := 4) B d_Exprs_ofTwo_81 (by decide) ?_
            refine mv_callVv (pc := 82) (n := 2) (ci := 6) (C := R_Exprs) B (mK_ok sk sv) hNs rfl rfl (c_Exprs_tell l hi _ _ _ hR.1 gt0 gt1 (by decide)) rfl (ma_goodc kc_Exprs_tell) (B.2.2.2.1 _ k_1427) (B.2.2.2.1 _ k_1429) (B.2.2.2.1 _ ks_50) (B.2.2.2.1 _ k_7) ⟨by decide +kernel, by decide +kernel, by decide +kernel⟩ rfl d_Exprs_ofTwo_82 rfl (Nat.le_of_ble_eq_true rfl) ⟨by decide, by decide⟩ ⟨by decide, by decide⟩ ⟨by decide, by decide⟩ (mv_noH hno _) (fun σ82 h82 => ?_)
            obtain ⟨x9, y9, e82, z82⟩ := h82
            subst e82
            refine mv_gen (fun S85 eS85 => ?_)
            have hR : Rw 32 (mv_r S85) := by rw [eS85]; exact hR
            have hF : RF 32 σ S85 := by rw [eS85]; exact hF.tell _ _
            have hX : XM 32 th e0 bs BL f0 g0 ns S85 (ms) (hl) (ht + 1) (s0 + 1) := by rw [eS85]; exact hX.tell hP z82 _ _
            have hT : mv_i S85 3 = mv_i σ 3 := by rw [eS85]; exact hT
            clear eS85
            refine mv_aload_n (pc := 85) B d_Exprs_ofTwo_85 rfl 3 rfl ?_
            refine mv_iconst (pc := 86) (v := 0) B d_Exprs_ofTwo_86 (by decide) ?_
            refine mv_callVv (pc := 87) (n := 1) (ci := 6) (C := R_Exprs) B (mK_ok sk sv) hNs rfl rfl (c_Exprs_hold l hi _ _ hR.1 (by have := hX.1.2.2.1; omega) (by have := hX.1.2.2.1; omega)) rfl (ma_goodc kc_Exprs_hold) (B.2.2.2.1 _ k_1432) (B.2.2.2.1 _ k_1434) (B.2.2.2.1 _ ks_51) (B.2.2.2.1 _ k_7) ⟨by decide +kernel, by decide +kernel, by decide +kernel⟩ rfl d_Exprs_ofTwo_87 rfl (Nat.le_of_ble_eq_true rfl) ⟨by decide, by decide⟩ ⟨by decide, by decide⟩ ⟨by decide, by decide⟩ (mv_noH hno _) (fun σ87 h87 => ?_)
            subst h87
            refine mv_goto (pc := 90) (tgt := 128) B d_Exprs_ofTwo_90 rfl ?_
            refine mv_gen (fun S128 eS128 => ?_)
            have hR : Rw 32 (mv_r S128) := by rw [eS128]; exact hR
            have hF : RF 32 σ S128 := by rw [eS128]; exact hF.hold _
            have hX : XM 32 th e0 bs BL f0 g0 ns S128 (ms) (hl + 1) (ht + 1) (s0 + 1) := by rw [eS128]; exact hX.hold hP (by omega) _
            have hT : mv_i S128 3 = mv_i σ 3 := by rw [eS128]; exact hT
            clear eS128
            exact mv_vret (pc := 128) B hr d_Exprs_ofTwo_128 (Nat.le_refl _) (Nat.le_refl _) ⟨rfl, hF, hX, hT⟩
      · skip
        refine mv_aload_n (pc := 60) B d_Exprs_ofTwo_60 rfl 3 rfl ?_
        refine mv_iconst (pc := 61) (v := 0) B d_Exprs_ofTwo_61 (by decide) ?_
        refine mv_callVv (pc := 62) (n := 1) (ci := 6) (C := R_Exprs) B (mK_ok sk sv) hNs rfl rfl (c_Exprs_hold l hi _ _ hR.1 (by have := hX.1.2.2.1; omega) (by have := hX.1.2.2.1; omega)) rfl (ma_goodc kc_Exprs_hold) (B.2.2.2.1 _ k_1432) (B.2.2.2.1 _ k_1434) (B.2.2.2.1 _ ks_51) (B.2.2.2.1 _ k_7) ⟨by decide +kernel, by decide +kernel, by decide +kernel⟩ rfl d_Exprs_ofTwo_62 rfl (Nat.le_of_ble_eq_true rfl) ⟨by decide, by decide⟩ ⟨by decide, by decide⟩ ⟨by decide, by decide⟩ (mv_noH hno _) (fun σ62 h62 => ?_)
        subst h62
        refine mv_goto (pc := 65) (tgt := 128) B d_Exprs_ofTwo_65 rfl ?_
        refine mv_gen (fun S128 eS128 => ?_)
        have hR : Rw 32 (mv_r S128) := by rw [eS128]; exact hR
        have hF : RF 32 σ S128 := by rw [eS128]; exact hF.hold _
        have hX : XM 32 th e0 bs BL f0 g0 ns S128 (ms) (hl + 1) (ht + 1) (s0 + 1) := by rw [eS128]; exact hX.hold hP (by omega) _
        have hT : mv_i S128 3 = mv_i σ 3 := by rw [eS128]; exact hT
        clear eS128
        exact mv_vret (pc := 128) B hr d_Exprs_ofTwo_128 (Nat.le_refl _) (Nat.le_refl _) ⟨rfl, hF, hX, hT⟩
  refine mv_aload_n (pc := 0) B d_Exprs_ofTwo_0 rfl 0 rfl ?_
  refine mv_callVi (pc := 1) (n := 0) (ci := 6) (C := R_Exprs) B (mK_ok sk sv) hNs rfl rfl (c_Exprs_release l hi _ hR.1 (by have := hX.1.2.2.1; omega) (by have := hX.1.2.2.1; omega)) rfl (ma_goodc kc_Exprs_release) (B.2.2.2.1 _ k_1469) (B.2.2.2.1 _ k_1470) (B.2.2.2.1 _ k_1471) (B.2.2.2.1 _ k_7) ⟨by decide +kernel, by decide +kernel, by decide +kernel⟩ rfl d_Exprs_ofTwo_1 rfl (Nat.le_of_ble_eq_true rfl) ⟨by decide, by decide⟩ ⟨by decide, by decide⟩ ⟨by decide, by decide⟩ (mv_noH hno _) (fun v1 σ1 h1 => ?_)
  subst h1
  refine mv_gen (fun S4 eS4 => ?_)
  have hR : Rw 32 (mv_r S4) := by rw [eS4]; exact hR
  have hF : RF 32 σ S4 := by rw [eS4]; exact hF.rel
  have hX : XM 32 th e0 bs BL f0 g0 ns S4 (ms) (hl + 1) (ht + 2) (s0) := by rw [eS4]; exact hX.rel hP
  have hT : mv_i S4 3 = mv_i σ 3 := by rw [eS4]; exact hT
  clear eS4
  refine mv_istore_n (pc := 4) B d_Exprs_ofTwo_4 rfl (by decide) rfl ?_
  refine mv_aload_n (pc := 5) B d_Exprs_ofTwo_5 rfl 1 rfl ?_
  refine mv_callVi (pc := 6) (n := 0) (ci := 6) (C := R_Exprs) B (mK_ok sk sv) hNs rfl rfl (c_Exprs_release l hi _ hR.1 (by have := hX.1.2.2.1; omega) (by have := hX.1.2.2.1; omega)) rfl (ma_goodc kc_Exprs_release) (B.2.2.2.1 _ k_1469) (B.2.2.2.1 _ k_1470) (B.2.2.2.1 _ k_1471) (B.2.2.2.1 _ k_7) ⟨by decide +kernel, by decide +kernel, by decide +kernel⟩ rfl d_Exprs_ofTwo_6 rfl (Nat.le_of_ble_eq_true rfl) ⟨by decide, by decide⟩ ⟨by decide, by decide⟩ ⟨by decide, by decide⟩ (mv_noH hno _) (fun v6 σ6 h6 => ?_)
  subst h6
  refine mv_gen (fun S9 eS9 => ?_)
  have hR : Rw 32 (mv_r S9) := by rw [eS9]; exact hR
  have hF : RF 32 σ S9 := by rw [eS9]; exact hF.rel
  have hX : XM 32 th e0 bs BL f0 g0 ns S9 (ms) (hl) (ht + 2) (s0) := by rw [eS9]; exact hX.rel hP
  have hT : mv_i S9 3 = mv_i σ 3 := by rw [eS9]; exact hT
  clear eS9
  refine mv_istore (pc := 9) B d_Exprs_ofTwo_9 (by decide) rfl ?_
  refine mv_aload_n (pc := 11) B d_Exprs_ofTwo_11 rfl 2 rfl ?_
  refine mv_getR (pc := 12) (ci := 6) (C := R_Exprs) (T := F_Exprs) (N := 11) B 3 rfl rfl (by decide) i_Exprs (B.2.2.2.1 _ k_197) rfl hR.2.2.2 d_Exprs_ofTwo_12 ?_
  refine mv_iload_n (pc := 15) B d_Exprs_ofTwo_15 rfl 3 rfl ?_
  refine mv_iload (pc := 16) B d_Exprs_ofTwo_16 0 rfl ?_
  refine mv_i2l (pc := 18) B d_Exprs_ofTwo_18 ?_
  refine mv_callVi (pc := 19) (n := 2) (ci := 7) (C := R_Program) B (mK_ok sk sv) hNs rfl rfl (c_Program_emit_a l hi _ _ _ hR.2.1 (by have := hX.2.1.1; omega) (by have := hX.2.1.1; omega)) rfl (ma_goodc kc_Program_emit) (B.2.2.2.1 _ k_1425) (B.2.2.2.1 _ k_1385) (B.2.2.2.1 _ k_1386) (B.2.2.2.1 _ k_8) ⟨by decide +kernel, by decide +kernel, by decide +kernel⟩ rfl d_Exprs_ofTwo_19 rfl (Nat.le_of_ble_eq_true rfl) ⟨by decide, by decide⟩ ⟨by decide, by decide⟩ ⟨by decide, by decide⟩ (mv_noH hno _) (fun v19 σ19 h19 => ?_)
  obtain ⟨e19, -⟩ := h19
  subst e19
  refine mv_gen (fun S22 eS22 => ?_)
  have hR : Rw 32 (mv_r S22) := by rw [eS22]; exact hR
  have hF : RF 32 σ S22 := by rw [eS22]; exact hF.emit _ _
  have hX : XM 32 th e0 bs BL f0 g0 ns S22 (ms) (hl) (ht + 1) (s0 + 1) := by rw [eS22]; exact hX.emit0 hP (by omega) (ht + 1) hk2.2.1 hk2.2.2.1 (Op1_bin hk th _ (bs + ht)) (by omega)
  have hT : mv_i S22 3 = mv_i σ 3 := by rw [eS22]; exact hT
  clear eS22
  refine mv_pop (pc := 22) B d_Exprs_ofTwo_22 rfl ?_
  refine mv_iload_n (pc := 23) B d_Exprs_ofTwo_23 rfl 3 rfl ?_
  refine mv_sipush (pc := 24) (v := 131) B d_Exprs_ofTwo_24 (by decide) ?_
  refine mv_icmp_eq (pc := 27) (tgt := 44) B d_Exprs_ofTwo_27 rfl (fun h27 => ?_) (fun h27 => ?_)
  · skip
    refine mv_iconst (pc := 44) (v := 1) B d_Exprs_ofTwo_44 (by decide) ?_
    refine mv_goto (pc := 45) (tgt := 49) B d_Exprs_ofTwo_45 rfl ?_
    refine mv_istore (pc := 49) B d_Exprs_ofTwo_49 (by decide) rfl ?_
    refine mv_lpick [0, 1, 2, 3, 4, 5] rfl ?_
    exact j51 _ _ _ _ hR hF hX hT
  · skip
    refine mv_iload_n (pc := 30) B d_Exprs_ofTwo_30 rfl 3 rfl ?_
    refine mv_sipush (pc := 31) (v := 132) B d_Exprs_ofTwo_31 (by decide) ?_
    refine mv_icmp_eq (pc := 34) (tgt := 44) B d_Exprs_ofTwo_34 rfl (fun h34 => ?_) (fun h34 => ?_)
    · skip
      refine mv_iconst (pc := 44) (v := 1) B d_Exprs_ofTwo_44 (by decide) ?_
      refine mv_goto (pc := 45) (tgt := 49) B d_Exprs_ofTwo_45 rfl ?_
      refine mv_istore (pc := 49) B d_Exprs_ofTwo_49 (by decide) rfl ?_
      refine mv_lpick [0, 1, 2, 3, 4, 5] rfl ?_
      exact j51 _ _ _ _ hR hF hX hT
    · skip
      refine mv_iload_n (pc := 37) B d_Exprs_ofTwo_37 rfl 3 rfl ?_
      refine mv_sipush (pc := 38) (v := 216) B d_Exprs_ofTwo_38 (by decide) ?_
      refine mv_icmp_ne (pc := 41) (tgt := 48) B d_Exprs_ofTwo_41 rfl (fun h41 => ?_) (fun h41 => ?_)
      · skip
        refine mv_iconst (pc := 48) (v := 0) B d_Exprs_ofTwo_48 (by decide) ?_
        refine mv_istore (pc := 49) B d_Exprs_ofTwo_49 (by decide) rfl ?_
        refine mv_lpick [0, 1, 2, 3, 4, 5] rfl ?_
        exact j51 _ _ _ _ hR hF hX hT
      · skip
        refine mv_iconst (pc := 44) (v := 1) B d_Exprs_ofTwo_44 (by decide) ?_
        refine mv_goto (pc := 45) (tgt := 49) B d_Exprs_ofTwo_45 rfl ?_
        refine mv_istore (pc := 49) B d_Exprs_ofTwo_49 (by decide) rfl ?_
        refine mv_lpick [0, 1, 2, 3, 4, 5] rfl ?_
        exact j51 _ _ _ _ hR hF hX hT
set_option maxHeartbeats 4000000 in
set_option maxRecDepth 100000 in
theorem c_Exprs_ofTwo_b (l : Launch) {dA : FieldType → ClassId} {D : va_G} {al : Nat → Nat} {ext : mv_Sh} {sk sv : Nat → Nat} (hi : mv_inj (mg dA D al ext)) (σ : mv_H) (k9 t9 : Int32) {t len n z sz th sl e0 bs ns : Nat} {BL : (Nat → Nat) → Prop} {f0 : Nat → Int32} {g0 : Nat → Int64} {ms : List Mk} {hl ht s0 : Nat} (hB0 : SB 48 σ t len n z sz th sl) (ht2 : t = 1 ∨ t = 144) (hX : XM 48 th e0 bs BL f0 g0 ns σ (ms) (hl + 2) (ht + 2) (s0)) (hk : bin k9) (gt0 : 0 ≤ t9.toInt) (gt1 : t9.toInt < 32770) (hs : s0 < 32768) (hh : hl ≤ 900) (hb : bs + ht ≤ 990) : mv_C l y_Exprs_ofTwo (Cond.code y_Exprs_ofTwo b_Exprs_ofTwo 7 (Option.none : Option Jvm.ClassFile.FieldType) :: ma) ({ frames := 2, cells := 0, slots := 0, locals := 44 }) (mg dA D al ext) (mK sk sv) [.ref (al 22), .int k9, .int t9] σ (mv_Rv (fun σ1 => RF 48 σ σ1 ∧ XM 48 th e0 bs BL f0 g0 ns σ1 (ms) (hl + 1) (ht + 1) (s0 + 1) ∧ mv_i σ1 3 = mv_i σ 3)) := by
  refine mv_C.ofV (cc := b_Exprs_ofTwo) (nL := 7) (ret := (Option.none : Option Jvm.ClassFile.FieldType)) (by decide +kernel) rfl hi (Nat.le_of_ble_eq_true rfl) ?_
  intro p e s m below meth c B hNs hr hnm hno
  have hP : PQ 48 := by unfold PQ; omega
  have hR := hB0.1
  have hF : RF 48 σ σ := RF0
  have hT : mv_i σ 3 = mv_i σ 3 := rfl
  have hk2 := bin_op hk
  have j125 : ∀ (τ : mv_H) (x9 : Int32) (hR : Rw 48 (mv_r τ)) (hF : RF 48 σ τ) (hX : XM 48 th e0 bs BL f0 g0 ns τ (ms) (hl) (ht + 1) (s0 + 1)) (hT : mv_i τ 3 = mv_i σ 3), mv_V p l e ({ frames := 2, cells := 0, slots := 0, locals := 44 }) s m ([.ref (al 22), .int k9, .int t9] : List Value).toArray below meth c (mg dA D al ext) 7 0 0 (mv_Q (mg dA D al ext) below s 0 0 (mv_Rv (fun σ1 => RF 48 σ σ1 ∧ XM 48 th e0 bs BL f0 g0 ns σ1 (ms) (hl + 1) (ht + 1) (s0 + 1) ∧ mv_i σ1 3 = mv_i σ 3))) τ 125 [(0, .ref (al 22))] [.int x9, .ref (al 22)] := by
    intro τ x9 hR hF hX hT
    refine mv_callVv (pc := 125) (n := 1) (ci := 6) (C := R_Exprs) B (mK_ok sk sv) hNs rfl rfl (c_Exprs_hold l hi _ _ hR.1 (by have := hX.1.2.2.1; omega) (by have := hX.1.2.2.1; omega)) rfl (ma_goodc kc_Exprs_hold) (B.2.2.2.1 _ k_1432) (B.2.2.2.1 _ k_1434) (B.2.2.2.1 _ ks_51) (B.2.2.2.1 _ k_7) ⟨by decide +kernel, by decide +kernel, by decide +kernel⟩ rfl d_Exprs_ofTwo_125 rfl (Nat.le_of_ble_eq_true rfl) ⟨by decide, by decide⟩ ⟨by decide, by decide⟩ ⟨by decide, by decide⟩ (mv_noH hno _) (fun σ125 h125 => ?_)
    subst h125
    refine mv_gen (fun S128 eS128 => ?_)
    have hR : Rw 48 (mv_r S128) := by rw [eS128]; exact hR
    have hF : RF 48 σ S128 := by rw [eS128]; exact hF.hold _
    have hX : XM 48 th e0 bs BL f0 g0 ns S128 (ms) (hl + 1) (ht + 1) (s0 + 1) := by rw [eS128]; exact hX.hold hP (by omega) _
    have hT : mv_i S128 3 = mv_i σ 3 := by rw [eS128]; exact hT
    clear eS128
    exact mv_vret (pc := 128) B hr d_Exprs_ofTwo_128 (Nat.le_refl _) (Nat.le_refl _) ⟨rfl, hF, hX, hT⟩
  have j51 : ∀ (τ : mv_H) (fl : Int32) (lf : Int32) (rt : Int32) (hR : Rw 48 (mv_r τ)) (hF : RF 48 σ τ) (hX : XM 48 th e0 bs BL f0 g0 ns τ (ms) (hl) (ht + 1) (s0 + 1)) (hT : mv_i τ 3 = mv_i σ 3), mv_V p l e ({ frames := 2, cells := 0, slots := 0, locals := 44 }) s m ([.ref (al 22), .int k9, .int t9] : List Value).toArray below meth c (mg dA D al ext) 7 0 0 (mv_Q (mg dA D al ext) below s 0 0 (mv_Rv (fun σ1 => RF 48 σ σ1 ∧ XM 48 th e0 bs BL f0 g0 ns σ1 (ms) (hl + 1) (ht + 1) (s0 + 1) ∧ mv_i σ1 3 = mv_i σ 3))) τ 51 [(5, .int fl), (4, .int lf), (3, .int rt), (0, .ref (al 22)), (1, .int k9), (2, .int t9)] [] := by
    intro τ fl lf rt hR hF hX hT
    refine mv_iload (pc := 51) B d_Exprs_ofTwo_51 1 rfl ?_
    refine mv_if_eq (pc := 53) (tgt := 60) B d_Exprs_ofTwo_53 rfl (fun h53 => ?_) (fun h53 => ?_)
    · skip
      refine mv_aload_n (pc := 60) B d_Exprs_ofTwo_60 rfl 3 rfl ?_
      refine mv_iconst (pc := 61) (v := 0) B d_Exprs_ofTwo_61 (by decide) ?_
      refine mv_callVv (pc := 62) (n := 1) (ci := 6) (C := R_Exprs) B (mK_ok sk sv) hNs rfl rfl (c_Exprs_hold l hi _ _ hR.1 (by have := hX.1.2.2.1; omega) (by have := hX.1.2.2.1; omega)) rfl (ma_goodc kc_Exprs_hold) (B.2.2.2.1 _ k_1432) (B.2.2.2.1 _ k_1434) (B.2.2.2.1 _ ks_51) (B.2.2.2.1 _ k_7) ⟨by decide +kernel, by decide +kernel, by decide +kernel⟩ rfl d_Exprs_ofTwo_62 rfl (Nat.le_of_ble_eq_true rfl) ⟨by decide, by decide⟩ ⟨by decide, by decide⟩ ⟨by decide, by decide⟩ (mv_noH hno _) (fun σ62 h62 => ?_)
      subst h62
      refine mv_goto (pc := 65) (tgt := 128) B d_Exprs_ofTwo_65 rfl ?_
      refine mv_gen (fun S128 eS128 => ?_)
      have hR : Rw 48 (mv_r S128) := by rw [eS128]; exact hR
      have hF : RF 48 σ S128 := by rw [eS128]; exact hF.hold _
      have hX : XM 48 th e0 bs BL f0 g0 ns S128 (ms) (hl + 1) (ht + 1) (s0 + 1) := by rw [eS128]; exact hX.hold hP (by omega) _
      have hT : mv_i S128 3 = mv_i σ 3 := by rw [eS128]; exact hT
      clear eS128
      exact mv_vret (pc := 128) B hr d_Exprs_ofTwo_128 (Nat.le_refl _) (Nat.le_refl _) ⟨rfl, hF, hX, hT⟩
    · skip
      refine mv_iload_n (pc := 56) B d_Exprs_ofTwo_56 rfl 2 rfl ?_
      refine mv_if_ne (pc := 57) (tgt := 68) B d_Exprs_ofTwo_57 rfl (fun h57 => ?_) (fun h57 => ?_)
      · skip
        refine mv_iload (pc := 68) B d_Exprs_ofTwo_68 1 rfl ?_
        refine mv_iload_n (pc := 70) B d_Exprs_ofTwo_70 rfl 2 rfl ?_
        refine mv_icmp_eq (pc := 71) (tgt := 93) B d_Exprs_ofTwo_71 rfl (fun h71 => ?_) (fun h71 => ?_)
        · skip
          refine mv_iload_n (pc := 93) B d_Exprs_ofTwo_93 rfl 4 rfl ?_
          refine mv_callSi (pc := 94) (n := 1) B (mK_ok sk sv) hNs (c_Exprs_levelOf l hi _ _) rfl (ma_goodc kc_Exprs_levelOf) (B.2.2.2.1 _ k_1482) (B.2.2.2.1 _ k_1483) (B.2.2.2.1 _ k_7) ⟨by decide +kernel, by decide +kernel, by decide +kernel⟩ rfl d_Exprs_ofTwo_94 rfl (Nat.le_of_ble_eq_true rfl) ⟨by decide, by decide⟩ ⟨by decide, by decide⟩ ⟨by decide, by decide⟩ (mv_noH hno _) (fun v94 σ94 h94 => ?_)
          obtain ⟨e94, z94⟩ := h94
          have e94 := e94.symm
          subst e94
          refine mv_istore (pc := 97) B d_Exprs_ofTwo_97 (by decide) rfl ?_
          refine mv_aload_n (pc := 99) B d_Exprs_ofTwo_99 rfl 4 rfl ?_
          refine mv_iload (pc := 100) B d_Exprs_ofTwo_100 0 rfl ?_
          refine mv_iconst (pc := 102) (v := 4) B d_Exprs_ofTwo_102 (by decide) ?_
          refine mv_icmp_eq (pc := 103) (tgt := 119) B d_Exprs_ofTwo_103 rfl (fun h103 => ?_) (fun h103 => ?_)
          · skip
            refine mv_iconst (pc := 119) (v := 1) B d_Exprs_ofTwo_119 (by decide) ?_
            refine mv_goto (pc := 120) (tgt := 125) B d_Exprs_ofTwo_120 rfl ?_
            refine mv_lpick [4] rfl ?_
            exact j125 _ _ hR hF hX hT
          · skip
            refine mv_iload (pc := 106) B d_Exprs_ofTwo_106 0 rfl ?_
            refine mv_iconst (pc := 108) (v := 5) B d_Exprs_ofTwo_108 (by decide) ?_
            refine mv_icmp_eq (pc := 109) (tgt := 119) B d_Exprs_ofTwo_109 rfl (fun h109 => ?_) (fun h109 => ?_)
            · skip
              refine mv_iconst (pc := 119) (v := 1) B d_Exprs_ofTwo_119 (by decide) ?_
              refine mv_goto (pc := 120) (tgt := 125) B d_Exprs_ofTwo_120 rfl ?_
              refine mv_lpick [4] rfl ?_
              exact j125 _ _ hR hF hX hT
            · skip
              refine mv_iload_n (pc := 112) B d_Exprs_ofTwo_112 rfl 5 rfl ?_
              refine mv_sipush (pc := 113) (v := 213) B d_Exprs_ofTwo_113 (by decide) ?_
              refine mv_icmp_ne (pc := 116) (tgt := 123) B d_Exprs_ofTwo_116 rfl (fun h116 => ?_) (fun h116 => ?_)
              · skip
                refine mv_iload (pc := 123) B d_Exprs_ofTwo_123 2 rfl ?_
                refine mv_lpick [4] rfl ?_
                exact j125 _ _ hR hF hX hT
              · skip
                refine mv_iconst (pc := 119) (v := 1) B d_Exprs_ofTwo_119 (by decide) ?_
                refine mv_goto (pc := 120) (tgt := 125) B d_Exprs_ofTwo_120 rfl ?_
                refine mv_lpick [4] rfl ?_
                exact j125 _ _ hR hF hX hT
        · skip
          refine mv_iload (pc := 74) B d_Exprs_ofTwo_74 0 rfl ?_
          refine mv_if_ne (pc := 76) (tgt := 93) B d_Exprs_ofTwo_76 rfl (fun h76 => ?_) (fun h76 => ?_)
          · skip
            refine mv_iload_n (pc := 93) B d_Exprs_ofTwo_93 rfl 4 rfl ?_
            refine mv_callSi (pc := 94) (n := 1) B (mK_ok sk sv) hNs (c_Exprs_levelOf l hi _ _) rfl (ma_goodc kc_Exprs_levelOf) (B.2.2.2.1 _ k_1482) (B.2.2.2.1 _ k_1483) (B.2.2.2.1 _ k_7) ⟨by decide +kernel, by decide +kernel, by decide +kernel⟩ rfl d_Exprs_ofTwo_94 rfl (Nat.le_of_ble_eq_true rfl) ⟨by decide, by decide⟩ ⟨by decide, by decide⟩ ⟨by decide, by decide⟩ (mv_noH hno _) (fun v94 σ94 h94 => ?_)
            obtain ⟨e94, z94⟩ := h94
            have e94 := e94.symm
            subst e94
            refine mv_istore (pc := 97) B d_Exprs_ofTwo_97 (by decide) rfl ?_
            refine mv_aload_n (pc := 99) B d_Exprs_ofTwo_99 rfl 4 rfl ?_
            refine mv_iload (pc := 100) B d_Exprs_ofTwo_100 0 rfl ?_
            refine mv_iconst (pc := 102) (v := 4) B d_Exprs_ofTwo_102 (by decide) ?_
            refine mv_icmp_eq (pc := 103) (tgt := 119) B d_Exprs_ofTwo_103 rfl (fun h103 => ?_) (fun h103 => ?_)
            · skip
              refine mv_iconst (pc := 119) (v := 1) B d_Exprs_ofTwo_119 (by decide) ?_
              refine mv_goto (pc := 120) (tgt := 125) B d_Exprs_ofTwo_120 rfl ?_
              refine mv_lpick [4] rfl ?_
              exact j125 _ _ hR hF hX hT
            · skip
              refine mv_iload (pc := 106) B d_Exprs_ofTwo_106 0 rfl ?_
              refine mv_iconst (pc := 108) (v := 5) B d_Exprs_ofTwo_108 (by decide) ?_
              refine mv_icmp_eq (pc := 109) (tgt := 119) B d_Exprs_ofTwo_109 rfl (fun h109 => ?_) (fun h109 => ?_)
              · skip
                refine mv_iconst (pc := 119) (v := 1) B d_Exprs_ofTwo_119 (by decide) ?_
                refine mv_goto (pc := 120) (tgt := 125) B d_Exprs_ofTwo_120 rfl ?_
                refine mv_lpick [4] rfl ?_
                exact j125 _ _ hR hF hX hT
              · skip
                refine mv_iload_n (pc := 112) B d_Exprs_ofTwo_112 rfl 5 rfl ?_
                refine mv_sipush (pc := 113) (v := 213) B d_Exprs_ofTwo_113 (by decide) ?_
                refine mv_icmp_ne (pc := 116) (tgt := 123) B d_Exprs_ofTwo_116 rfl (fun h116 => ?_) (fun h116 => ?_)
                · skip
                  refine mv_iload (pc := 123) B d_Exprs_ofTwo_123 2 rfl ?_
                  refine mv_lpick [4] rfl ?_
                  exact j125 _ _ hR hF hX hT
                · skip
                  refine mv_iconst (pc := 119) (v := 1) B d_Exprs_ofTwo_119 (by decide) ?_
                  refine mv_goto (pc := 120) (tgt := 125) B d_Exprs_ofTwo_120 rfl ?_
                  refine mv_lpick [4] rfl ?_
                  exact j125 _ _ hR hF hX hT
          · skip
            refine mv_aload_n (pc := 79) B d_Exprs_ofTwo_79 rfl 3 rfl ?_
            refine mv_iload_n (pc := 80) B d_Exprs_ofTwo_80 rfl 5 rfl ?_
            refine mv_iconst (pc := 81) (v := 4) B d_Exprs_ofTwo_81 (by decide) ?_
            refine mv_callVv (pc := 82) (n := 2) (ci := 6) (C := R_Exprs) B (mK_ok sk sv) hNs rfl rfl (c_Exprs_tell l hi _ _ _ hR.1 gt0 gt1 (by decide)) rfl (ma_goodc kc_Exprs_tell) (B.2.2.2.1 _ k_1427) (B.2.2.2.1 _ k_1429) (B.2.2.2.1 _ ks_50) (B.2.2.2.1 _ k_7) ⟨by decide +kernel, by decide +kernel, by decide +kernel⟩ rfl d_Exprs_ofTwo_82 rfl (Nat.le_of_ble_eq_true rfl) ⟨by decide, by decide⟩ ⟨by decide, by decide⟩ ⟨by decide, by decide⟩ (mv_noH hno _) (fun σ82 h82 => ?_)
            obtain ⟨x9, y9, e82, z82⟩ := h82
            subst e82
            refine mv_gen (fun S85 eS85 => ?_)
            have hR : Rw 48 (mv_r S85) := by rw [eS85]; exact hR
            have hF : RF 48 σ S85 := by rw [eS85]; exact hF.tell _ _
            have hX : XM 48 th e0 bs BL f0 g0 ns S85 (ms) (hl) (ht + 1) (s0 + 1) := by rw [eS85]; exact hX.tell hP z82 _ _
            have hT : mv_i S85 3 = mv_i σ 3 := by rw [eS85]; exact hT
            clear eS85
            refine mv_aload_n (pc := 85) B d_Exprs_ofTwo_85 rfl 3 rfl ?_
            refine mv_iconst (pc := 86) (v := 0) B d_Exprs_ofTwo_86 (by decide) ?_
            refine mv_callVv (pc := 87) (n := 1) (ci := 6) (C := R_Exprs) B (mK_ok sk sv) hNs rfl rfl (c_Exprs_hold l hi _ _ hR.1 (by have := hX.1.2.2.1; omega) (by have := hX.1.2.2.1; omega)) rfl (ma_goodc kc_Exprs_hold) (B.2.2.2.1 _ k_1432) (B.2.2.2.1 _ k_1434) (B.2.2.2.1 _ ks_51) (B.2.2.2.1 _ k_7) ⟨by decide +kernel, by decide +kernel, by decide +kernel⟩ rfl d_Exprs_ofTwo_87 rfl (Nat.le_of_ble_eq_true rfl) ⟨by decide, by decide⟩ ⟨by decide, by decide⟩ ⟨by decide, by decide⟩ (mv_noH hno _) (fun σ87 h87 => ?_)
            subst h87
            refine mv_goto (pc := 90) (tgt := 128) B d_Exprs_ofTwo_90 rfl ?_
            refine mv_gen (fun S128 eS128 => ?_)
            have hR : Rw 48 (mv_r S128) := by rw [eS128]; exact hR
            have hF : RF 48 σ S128 := by rw [eS128]; exact hF.hold _
            have hX : XM 48 th e0 bs BL f0 g0 ns S128 (ms) (hl + 1) (ht + 1) (s0 + 1) := by rw [eS128]; exact hX.hold hP (by omega) _
            have hT : mv_i S128 3 = mv_i σ 3 := by rw [eS128]; exact hT
            clear eS128
            exact mv_vret (pc := 128) B hr d_Exprs_ofTwo_128 (Nat.le_refl _) (Nat.le_refl _) ⟨rfl, hF, hX, hT⟩
      · skip
        refine mv_aload_n (pc := 60) B d_Exprs_ofTwo_60 rfl 3 rfl ?_
        refine mv_iconst (pc := 61) (v := 0) B d_Exprs_ofTwo_61 (by decide) ?_
        refine mv_callVv (pc := 62) (n := 1) (ci := 6) (C := R_Exprs) B (mK_ok sk sv) hNs rfl rfl (c_Exprs_hold l hi _ _ hR.1 (by have := hX.1.2.2.1; omega) (by have := hX.1.2.2.1; omega)) rfl (ma_goodc kc_Exprs_hold) (B.2.2.2.1 _ k_1432) (B.2.2.2.1 _ k_1434) (B.2.2.2.1 _ ks_51) (B.2.2.2.1 _ k_7) ⟨by decide +kernel, by decide +kernel, by decide +kernel⟩ rfl d_Exprs_ofTwo_62 rfl (Nat.le_of_ble_eq_true rfl) ⟨by decide, by decide⟩ ⟨by decide, by decide⟩ ⟨by decide, by decide⟩ (mv_noH hno _) (fun σ62 h62 => ?_)
        subst h62
        refine mv_goto (pc := 65) (tgt := 128) B d_Exprs_ofTwo_65 rfl ?_
        refine mv_gen (fun S128 eS128 => ?_)
        have hR : Rw 48 (mv_r S128) := by rw [eS128]; exact hR
        have hF : RF 48 σ S128 := by rw [eS128]; exact hF.hold _
        have hX : XM 48 th e0 bs BL f0 g0 ns S128 (ms) (hl + 1) (ht + 1) (s0 + 1) := by rw [eS128]; exact hX.hold hP (by omega) _
        have hT : mv_i S128 3 = mv_i σ 3 := by rw [eS128]; exact hT
        clear eS128
        exact mv_vret (pc := 128) B hr d_Exprs_ofTwo_128 (Nat.le_refl _) (Nat.le_refl _) ⟨rfl, hF, hX, hT⟩
  refine mv_aload_n (pc := 0) B d_Exprs_ofTwo_0 rfl 0 rfl ?_
  refine mv_callVi (pc := 1) (n := 0) (ci := 6) (C := R_Exprs) B (mK_ok sk sv) hNs rfl rfl (c_Exprs_release l hi _ hR.1 (by have := hX.1.2.2.1; omega) (by have := hX.1.2.2.1; omega)) rfl (ma_goodc kc_Exprs_release) (B.2.2.2.1 _ k_1469) (B.2.2.2.1 _ k_1470) (B.2.2.2.1 _ k_1471) (B.2.2.2.1 _ k_7) ⟨by decide +kernel, by decide +kernel, by decide +kernel⟩ rfl d_Exprs_ofTwo_1 rfl (Nat.le_of_ble_eq_true rfl) ⟨by decide, by decide⟩ ⟨by decide, by decide⟩ ⟨by decide, by decide⟩ (mv_noH hno _) (fun v1 σ1 h1 => ?_)
  subst h1
  refine mv_gen (fun S4 eS4 => ?_)
  have hR : Rw 48 (mv_r S4) := by rw [eS4]; exact hR
  have hF : RF 48 σ S4 := by rw [eS4]; exact hF.rel
  have hX : XM 48 th e0 bs BL f0 g0 ns S4 (ms) (hl + 1) (ht + 2) (s0) := by rw [eS4]; exact hX.rel hP
  have hT : mv_i S4 3 = mv_i σ 3 := by rw [eS4]; exact hT
  clear eS4
  refine mv_istore_n (pc := 4) B d_Exprs_ofTwo_4 rfl (by decide) rfl ?_
  refine mv_aload_n (pc := 5) B d_Exprs_ofTwo_5 rfl 1 rfl ?_
  refine mv_callVi (pc := 6) (n := 0) (ci := 6) (C := R_Exprs) B (mK_ok sk sv) hNs rfl rfl (c_Exprs_release l hi _ hR.1 (by have := hX.1.2.2.1; omega) (by have := hX.1.2.2.1; omega)) rfl (ma_goodc kc_Exprs_release) (B.2.2.2.1 _ k_1469) (B.2.2.2.1 _ k_1470) (B.2.2.2.1 _ k_1471) (B.2.2.2.1 _ k_7) ⟨by decide +kernel, by decide +kernel, by decide +kernel⟩ rfl d_Exprs_ofTwo_6 rfl (Nat.le_of_ble_eq_true rfl) ⟨by decide, by decide⟩ ⟨by decide, by decide⟩ ⟨by decide, by decide⟩ (mv_noH hno _) (fun v6 σ6 h6 => ?_)
  subst h6
  refine mv_gen (fun S9 eS9 => ?_)
  have hR : Rw 48 (mv_r S9) := by rw [eS9]; exact hR
  have hF : RF 48 σ S9 := by rw [eS9]; exact hF.rel
  have hX : XM 48 th e0 bs BL f0 g0 ns S9 (ms) (hl) (ht + 2) (s0) := by rw [eS9]; exact hX.rel hP
  have hT : mv_i S9 3 = mv_i σ 3 := by rw [eS9]; exact hT
  clear eS9
  refine mv_istore (pc := 9) B d_Exprs_ofTwo_9 (by decide) rfl ?_
  refine mv_aload_n (pc := 11) B d_Exprs_ofTwo_11 rfl 2 rfl ?_
  refine mv_getR (pc := 12) (ci := 6) (C := R_Exprs) (T := F_Exprs) (N := 11) B 3 rfl rfl (by decide) i_Exprs (B.2.2.2.1 _ k_197) rfl hR.2.2.2 d_Exprs_ofTwo_12 ?_
  refine mv_iload_n (pc := 15) B d_Exprs_ofTwo_15 rfl 3 rfl ?_
  refine mv_iload (pc := 16) B d_Exprs_ofTwo_16 0 rfl ?_
  refine mv_i2l (pc := 18) B d_Exprs_ofTwo_18 ?_
  refine mv_callVi (pc := 19) (n := 2) (ci := 7) (C := R_Program) B (mK_ok sk sv) hNs rfl rfl (c_Program_emit_b l hi _ _ _ hR.2.1 (by have := hX.2.1.1; omega) (by have := hX.2.1.1; omega)) rfl (ma_goodc kc_Program_emit) (B.2.2.2.1 _ k_1425) (B.2.2.2.1 _ k_1385) (B.2.2.2.1 _ k_1386) (B.2.2.2.1 _ k_8) ⟨by decide +kernel, by decide +kernel, by decide +kernel⟩ rfl d_Exprs_ofTwo_19 rfl (Nat.le_of_ble_eq_true rfl) ⟨by decide, by decide⟩ ⟨by decide, by decide⟩ ⟨by decide, by decide⟩ (mv_noH hno _) (fun v19 σ19 h19 => ?_)
  obtain ⟨e19, -⟩ := h19
  subst e19
  refine mv_gen (fun S22 eS22 => ?_)
  have hR : Rw 48 (mv_r S22) := by rw [eS22]; exact hR
  have hF : RF 48 σ S22 := by rw [eS22]; exact hF.emit _ _
  have hX : XM 48 th e0 bs BL f0 g0 ns S22 (ms) (hl) (ht + 1) (s0 + 1) := by rw [eS22]; exact hX.emit0 hP (by omega) (ht + 1) hk2.2.1 hk2.2.2.1 (Op1_bin hk th _ (bs + ht)) (by omega)
  have hT : mv_i S22 3 = mv_i σ 3 := by rw [eS22]; exact hT
  clear eS22
  refine mv_pop (pc := 22) B d_Exprs_ofTwo_22 rfl ?_
  refine mv_iload_n (pc := 23) B d_Exprs_ofTwo_23 rfl 3 rfl ?_
  refine mv_sipush (pc := 24) (v := 131) B d_Exprs_ofTwo_24 (by decide) ?_
  refine mv_icmp_eq (pc := 27) (tgt := 44) B d_Exprs_ofTwo_27 rfl (fun h27 => ?_) (fun h27 => ?_)
  · skip
    refine mv_iconst (pc := 44) (v := 1) B d_Exprs_ofTwo_44 (by decide) ?_
    refine mv_goto (pc := 45) (tgt := 49) B d_Exprs_ofTwo_45 rfl ?_
    refine mv_istore (pc := 49) B d_Exprs_ofTwo_49 (by decide) rfl ?_
    refine mv_lpick [0, 1, 2, 3, 4, 5] rfl ?_
    exact j51 _ _ _ _ hR hF hX hT
  · skip
    refine mv_iload_n (pc := 30) B d_Exprs_ofTwo_30 rfl 3 rfl ?_
    refine mv_sipush (pc := 31) (v := 132) B d_Exprs_ofTwo_31 (by decide) ?_
    refine mv_icmp_eq (pc := 34) (tgt := 44) B d_Exprs_ofTwo_34 rfl (fun h34 => ?_) (fun h34 => ?_)
    · skip
      refine mv_iconst (pc := 44) (v := 1) B d_Exprs_ofTwo_44 (by decide) ?_
      refine mv_goto (pc := 45) (tgt := 49) B d_Exprs_ofTwo_45 rfl ?_
      refine mv_istore (pc := 49) B d_Exprs_ofTwo_49 (by decide) rfl ?_
      refine mv_lpick [0, 1, 2, 3, 4, 5] rfl ?_
      exact j51 _ _ _ _ hR hF hX hT
    · skip
      refine mv_iload_n (pc := 37) B d_Exprs_ofTwo_37 rfl 3 rfl ?_
      refine mv_sipush (pc := 38) (v := 216) B d_Exprs_ofTwo_38 (by decide) ?_
      refine mv_icmp_ne (pc := 41) (tgt := 48) B d_Exprs_ofTwo_41 rfl (fun h41 => ?_) (fun h41 => ?_)
      · skip
        refine mv_iconst (pc := 48) (v := 0) B d_Exprs_ofTwo_48 (by decide) ?_
        refine mv_istore (pc := 49) B d_Exprs_ofTwo_49 (by decide) rfl ?_
        refine mv_lpick [0, 1, 2, 3, 4, 5] rfl ?_
        exact j51 _ _ _ _ hR hF hX hT
      · skip
        refine mv_iconst (pc := 44) (v := 1) B d_Exprs_ofTwo_44 (by decide) ?_
        refine mv_goto (pc := 45) (tgt := 49) B d_Exprs_ofTwo_45 rfl ?_
        refine mv_istore (pc := 49) B d_Exprs_ofTwo_49 (by decide) rfl ?_
        refine mv_lpick [0, 1, 2, 3, 4, 5] rfl ?_
        exact j51 _ _ _ _ hR hF hX hT
set_option maxHeartbeats 4000000 in
set_option maxRecDepth 100000 in
theorem c_Exprs_ofTwo_c (l : Launch) {dA : FieldType → ClassId} {D : va_G} {al : Nat → Nat} {sk sv : Nat → Nat} (hi : mv_inj (mg dA D al me)) (σ : mv_H) (k9 t9 : Int32) {t len n z sz th sl e0 bs ns : Nat} {BL : (Nat → Nat) → Prop} {f0 : Nat → Int32} {g0 : Nat → Int64} {ms : List Mk} {hl ht s0 : Nat} (hB0 : SB 145 σ t len n z sz th sl) (ht2 : t = 1 ∨ t = 144) (hX : XM 145 th e0 bs BL f0 g0 ns σ (ms) (hl + 2) (ht + 2) (s0)) (hk : bin k9) (gt0 : 0 ≤ t9.toInt) (gt1 : t9.toInt < 32770) (hs : s0 < 8192) (hh : hl ≤ 900) (hb : bs + ht ≤ 990) : mv_C l y_Exprs_ofTwo (Cond.code y_Exprs_ofTwo b_Exprs_ofTwo 7 (Option.none : Option Jvm.ClassFile.FieldType) :: ma) ({ frames := 2, cells := 0, slots := 0, locals := 44 }) (mg dA D al me) (mK sk sv) [.ref (al 22), .int k9, .int t9] σ (mv_Rv (fun σ1 => RF 145 σ σ1 ∧ XM 145 th e0 bs BL f0 g0 ns σ1 (ms) (hl + 1) (ht + 1) (s0 + 1) ∧ mv_i σ1 3 = mv_i σ 3)) := by
  refine mv_C.ofV (cc := b_Exprs_ofTwo) (nL := 7) (ret := (Option.none : Option Jvm.ClassFile.FieldType)) (by decide +kernel) rfl hi (Nat.le_of_ble_eq_true rfl) ?_
  intro p e s m below meth c B hNs hr hnm hno
  have hP : PQ 145 := by unfold PQ; omega
  have hR := hB0.1
  have hF : RF 145 σ σ := RF0
  have hT : mv_i σ 3 = mv_i σ 3 := rfl
  have hk2 := bin_op hk
  have j125 : ∀ (τ : mv_H) (x9 : Int32) (hR : Rw 145 (mv_r τ)) (hF : RF 145 σ τ) (hX : XM 145 th e0 bs BL f0 g0 ns τ (ms) (hl) (ht + 1) (s0 + 1)) (hT : mv_i τ 3 = mv_i σ 3), mv_V p l e ({ frames := 2, cells := 0, slots := 0, locals := 44 }) s m ([.ref (al 22), .int k9, .int t9] : List Value).toArray below meth c (mg dA D al me) 7 0 0 (mv_Q (mg dA D al me) below s 0 0 (mv_Rv (fun σ1 => RF 145 σ σ1 ∧ XM 145 th e0 bs BL f0 g0 ns σ1 (ms) (hl + 1) (ht + 1) (s0 + 1) ∧ mv_i σ1 3 = mv_i σ 3))) τ 125 [(0, .ref (al 22))] [.int x9, .ref (al 22)] := by
    intro τ x9 hR hF hX hT
    refine mv_callVv (pc := 125) (n := 1) (ci := 6) (C := R_Exprs) B (mK_ok sk sv) hNs rfl rfl (c_Exprs_hold l hi _ _ hR.1 (by have := hX.1.2.2.1; omega) (by have := hX.1.2.2.1; omega)) rfl (ma_goodc kc_Exprs_hold) (B.2.2.2.1 _ k_1432) (B.2.2.2.1 _ k_1434) (B.2.2.2.1 _ ks_51) (B.2.2.2.1 _ k_7) ⟨by decide +kernel, by decide +kernel, by decide +kernel⟩ rfl d_Exprs_ofTwo_125 rfl (Nat.le_of_ble_eq_true rfl) ⟨by decide, by decide⟩ ⟨by decide, by decide⟩ ⟨by decide, by decide⟩ (mv_noH hno _) (fun σ125 h125 => ?_)
    subst h125
    refine mv_gen (fun S128 eS128 => ?_)
    have hR : Rw 145 (mv_r S128) := by rw [eS128]; exact hR
    have hF : RF 145 σ S128 := by rw [eS128]; exact hF.hold _
    have hX : XM 145 th e0 bs BL f0 g0 ns S128 (ms) (hl + 1) (ht + 1) (s0 + 1) := by rw [eS128]; exact hX.hold hP (by omega) _
    have hT : mv_i S128 3 = mv_i σ 3 := by rw [eS128]; exact hT
    clear eS128
    exact mv_vret (pc := 128) B hr d_Exprs_ofTwo_128 (Nat.le_refl _) (Nat.le_refl _) ⟨rfl, hF, hX, hT⟩
  have j51 : ∀ (τ : mv_H) (fl : Int32) (lf : Int32) (rt : Int32) (hR : Rw 145 (mv_r τ)) (hF : RF 145 σ τ) (hX : XM 145 th e0 bs BL f0 g0 ns τ (ms) (hl) (ht + 1) (s0 + 1)) (hT : mv_i τ 3 = mv_i σ 3), mv_V p l e ({ frames := 2, cells := 0, slots := 0, locals := 44 }) s m ([.ref (al 22), .int k9, .int t9] : List Value).toArray below meth c (mg dA D al me) 7 0 0 (mv_Q (mg dA D al me) below s 0 0 (mv_Rv (fun σ1 => RF 145 σ σ1 ∧ XM 145 th e0 bs BL f0 g0 ns σ1 (ms) (hl + 1) (ht + 1) (s0 + 1) ∧ mv_i σ1 3 = mv_i σ 3))) τ 51 [(5, .int fl), (4, .int lf), (3, .int rt), (0, .ref (al 22)), (1, .int k9), (2, .int t9)] [] := by
    intro τ fl lf rt hR hF hX hT
    refine mv_iload (pc := 51) B d_Exprs_ofTwo_51 1 rfl ?_
    refine mv_if_eq (pc := 53) (tgt := 60) B d_Exprs_ofTwo_53 rfl (fun h53 => ?_) (fun h53 => ?_)
    · skip
      refine mv_aload_n (pc := 60) B d_Exprs_ofTwo_60 rfl 3 rfl ?_
      refine mv_iconst (pc := 61) (v := 0) B d_Exprs_ofTwo_61 (by decide) ?_
      refine mv_callVv (pc := 62) (n := 1) (ci := 6) (C := R_Exprs) B (mK_ok sk sv) hNs rfl rfl (c_Exprs_hold l hi _ _ hR.1 (by have := hX.1.2.2.1; omega) (by have := hX.1.2.2.1; omega)) rfl (ma_goodc kc_Exprs_hold) (B.2.2.2.1 _ k_1432) (B.2.2.2.1 _ k_1434) (B.2.2.2.1 _ ks_51) (B.2.2.2.1 _ k_7) ⟨by decide +kernel, by decide +kernel, by decide +kernel⟩ rfl d_Exprs_ofTwo_62 rfl (Nat.le_of_ble_eq_true rfl) ⟨by decide, by decide⟩ ⟨by decide, by decide⟩ ⟨by decide, by decide⟩ (mv_noH hno _) (fun σ62 h62 => ?_)
      subst h62
      refine mv_goto (pc := 65) (tgt := 128) B d_Exprs_ofTwo_65 rfl ?_
      refine mv_gen (fun S128 eS128 => ?_)
      have hR : Rw 145 (mv_r S128) := by rw [eS128]; exact hR
      have hF : RF 145 σ S128 := by rw [eS128]; exact hF.hold _
      have hX : XM 145 th e0 bs BL f0 g0 ns S128 (ms) (hl + 1) (ht + 1) (s0 + 1) := by rw [eS128]; exact hX.hold hP (by omega) _
      have hT : mv_i S128 3 = mv_i σ 3 := by rw [eS128]; exact hT
      clear eS128
      exact mv_vret (pc := 128) B hr d_Exprs_ofTwo_128 (Nat.le_refl _) (Nat.le_refl _) ⟨rfl, hF, hX, hT⟩
    · skip
      refine mv_iload_n (pc := 56) B d_Exprs_ofTwo_56 rfl 2 rfl ?_
      refine mv_if_ne (pc := 57) (tgt := 68) B d_Exprs_ofTwo_57 rfl (fun h57 => ?_) (fun h57 => ?_)
      · skip
        refine mv_iload (pc := 68) B d_Exprs_ofTwo_68 1 rfl ?_
        refine mv_iload_n (pc := 70) B d_Exprs_ofTwo_70 rfl 2 rfl ?_
        refine mv_icmp_eq (pc := 71) (tgt := 93) B d_Exprs_ofTwo_71 rfl (fun h71 => ?_) (fun h71 => ?_)
        · skip
          refine mv_iload_n (pc := 93) B d_Exprs_ofTwo_93 rfl 4 rfl ?_
          refine mv_callSi (pc := 94) (n := 1) B (mK_ok sk sv) hNs (c_Exprs_levelOf l hi _ _) rfl (ma_goodc kc_Exprs_levelOf) (B.2.2.2.1 _ k_1482) (B.2.2.2.1 _ k_1483) (B.2.2.2.1 _ k_7) ⟨by decide +kernel, by decide +kernel, by decide +kernel⟩ rfl d_Exprs_ofTwo_94 rfl (Nat.le_of_ble_eq_true rfl) ⟨by decide, by decide⟩ ⟨by decide, by decide⟩ ⟨by decide, by decide⟩ (mv_noH hno _) (fun v94 σ94 h94 => ?_)
          obtain ⟨e94, z94⟩ := h94
          have e94 := e94.symm
          subst e94
          refine mv_istore (pc := 97) B d_Exprs_ofTwo_97 (by decide) rfl ?_
          refine mv_aload_n (pc := 99) B d_Exprs_ofTwo_99 rfl 4 rfl ?_
          refine mv_iload (pc := 100) B d_Exprs_ofTwo_100 0 rfl ?_
          refine mv_iconst (pc := 102) (v := 4) B d_Exprs_ofTwo_102 (by decide) ?_
          refine mv_icmp_eq (pc := 103) (tgt := 119) B d_Exprs_ofTwo_103 rfl (fun h103 => ?_) (fun h103 => ?_)
          · skip
            refine mv_iconst (pc := 119) (v := 1) B d_Exprs_ofTwo_119 (by decide) ?_
            refine mv_goto (pc := 120) (tgt := 125) B d_Exprs_ofTwo_120 rfl ?_
            refine mv_lpick [4] rfl ?_
            exact j125 _ _ hR hF hX hT
          · skip
            refine mv_iload (pc := 106) B d_Exprs_ofTwo_106 0 rfl ?_
            refine mv_iconst (pc := 108) (v := 5) B d_Exprs_ofTwo_108 (by decide) ?_
            refine mv_icmp_eq (pc := 109) (tgt := 119) B d_Exprs_ofTwo_109 rfl (fun h109 => ?_) (fun h109 => ?_)
            · skip
              refine mv_iconst (pc := 119) (v := 1) B d_Exprs_ofTwo_119 (by decide) ?_
              refine mv_goto (pc := 120) (tgt := 125) B d_Exprs_ofTwo_120 rfl ?_
              refine mv_lpick [4] rfl ?_
              exact j125 _ _ hR hF hX hT
            · skip
              refine mv_iload_n (pc := 112) B d_Exprs_ofTwo_112 rfl 5 rfl ?_
              refine mv_sipush (pc := 113) (v := 213) B d_Exprs_ofTwo_113 (by decide) ?_
              refine mv_icmp_ne (pc := 116) (tgt := 123) B d_Exprs_ofTwo_116 rfl (fun h116 => ?_) (fun h116 => ?_)
              · skip
                refine mv_iload (pc := 123) B d_Exprs_ofTwo_123 2 rfl ?_
                refine mv_lpick [4] rfl ?_
                exact j125 _ _ hR hF hX hT
              · skip
                refine mv_iconst (pc := 119) (v := 1) B d_Exprs_ofTwo_119 (by decide) ?_
                refine mv_goto (pc := 120) (tgt := 125) B d_Exprs_ofTwo_120 rfl ?_
                refine mv_lpick [4] rfl ?_
                exact j125 _ _ hR hF hX hT
        · skip
          refine mv_iload (pc := 74) B d_Exprs_ofTwo_74 0 rfl ?_
          refine mv_if_ne (pc := 76) (tgt := 93) B d_Exprs_ofTwo_76 rfl (fun h76 => ?_) (fun h76 => ?_)
          · skip
            refine mv_iload_n (pc := 93) B d_Exprs_ofTwo_93 rfl 4 rfl ?_
            refine mv_callSi (pc := 94) (n := 1) B (mK_ok sk sv) hNs (c_Exprs_levelOf l hi _ _) rfl (ma_goodc kc_Exprs_levelOf) (B.2.2.2.1 _ k_1482) (B.2.2.2.1 _ k_1483) (B.2.2.2.1 _ k_7) ⟨by decide +kernel, by decide +kernel, by decide +kernel⟩ rfl d_Exprs_ofTwo_94 rfl (Nat.le_of_ble_eq_true rfl) ⟨by decide, by decide⟩ ⟨by decide, by decide⟩ ⟨by decide, by decide⟩ (mv_noH hno _) (fun v94 σ94 h94 => ?_)
            obtain ⟨e94, z94⟩ := h94
            have e94 := e94.symm
            subst e94
            refine mv_istore (pc := 97) B d_Exprs_ofTwo_97 (by decide) rfl ?_
            refine mv_aload_n (pc := 99) B d_Exprs_ofTwo_99 rfl 4 rfl ?_
            refine mv_iload (pc := 100) B d_Exprs_ofTwo_100 0 rfl ?_
            refine mv_iconst (pc := 102) (v := 4) B d_Exprs_ofTwo_102 (by decide) ?_
            refine mv_icmp_eq (pc := 103) (tgt := 119) B d_Exprs_ofTwo_103 rfl (fun h103 => ?_) (fun h103 => ?_)
            · skip
              refine mv_iconst (pc := 119) (v := 1) B d_Exprs_ofTwo_119 (by decide) ?_
              refine mv_goto (pc := 120) (tgt := 125) B d_Exprs_ofTwo_120 rfl ?_
              refine mv_lpick [4] rfl ?_
              exact j125 _ _ hR hF hX hT
            · skip
              refine mv_iload (pc := 106) B d_Exprs_ofTwo_106 0 rfl ?_
              refine mv_iconst (pc := 108) (v := 5) B d_Exprs_ofTwo_108 (by decide) ?_
              refine mv_icmp_eq (pc := 109) (tgt := 119) B d_Exprs_ofTwo_109 rfl (fun h109 => ?_) (fun h109 => ?_)
              · skip
                refine mv_iconst (pc := 119) (v := 1) B d_Exprs_ofTwo_119 (by decide) ?_
                refine mv_goto (pc := 120) (tgt := 125) B d_Exprs_ofTwo_120 rfl ?_
                refine mv_lpick [4] rfl ?_
                exact j125 _ _ hR hF hX hT
              · skip
                refine mv_iload_n (pc := 112) B d_Exprs_ofTwo_112 rfl 5 rfl ?_
                refine mv_sipush (pc := 113) (v := 213) B d_Exprs_ofTwo_113 (by decide) ?_
                refine mv_icmp_ne (pc := 116) (tgt := 123) B d_Exprs_ofTwo_116 rfl (fun h116 => ?_) (fun h116 => ?_)
                · skip
                  refine mv_iload (pc := 123) B d_Exprs_ofTwo_123 2 rfl ?_
                  refine mv_lpick [4] rfl ?_
                  exact j125 _ _ hR hF hX hT
                · skip
                  refine mv_iconst (pc := 119) (v := 1) B d_Exprs_ofTwo_119 (by decide) ?_
                  refine mv_goto (pc := 120) (tgt := 125) B d_Exprs_ofTwo_120 rfl ?_
                  refine mv_lpick [4] rfl ?_
                  exact j125 _ _ hR hF hX hT
          · skip
            refine mv_aload_n (pc := 79) B d_Exprs_ofTwo_79 rfl 3 rfl ?_
            refine mv_iload_n (pc := 80) B d_Exprs_ofTwo_80 rfl 5 rfl ?_
            refine mv_iconst (pc := 81) (v := 4) B d_Exprs_ofTwo_81 (by decide) ?_
            refine mv_callVv (pc := 82) (n := 2) (ci := 6) (C := R_Exprs) B (mK_ok sk sv) hNs rfl rfl (c_Exprs_tell l hi _ _ _ hR.1 gt0 gt1 (by decide)) rfl (ma_goodc kc_Exprs_tell) (B.2.2.2.1 _ k_1427) (B.2.2.2.1 _ k_1429) (B.2.2.2.1 _ ks_50) (B.2.2.2.1 _ k_7) ⟨by decide +kernel, by decide +kernel, by decide +kernel⟩ rfl d_Exprs_ofTwo_82 rfl (Nat.le_of_ble_eq_true rfl) ⟨by decide, by decide⟩ ⟨by decide, by decide⟩ ⟨by decide, by decide⟩ (mv_noH hno _) (fun σ82 h82 => ?_)
            obtain ⟨x9, y9, e82, z82⟩ := h82
            subst e82
            refine mv_gen (fun S85 eS85 => ?_)
            have hR : Rw 145 (mv_r S85) := by rw [eS85]; exact hR
            have hF : RF 145 σ S85 := by rw [eS85]; exact hF.tell _ _
            have hX : XM 145 th e0 bs BL f0 g0 ns S85 (ms) (hl) (ht + 1) (s0 + 1) := by rw [eS85]; exact hX.tell hP z82 _ _
            have hT : mv_i S85 3 = mv_i σ 3 := by rw [eS85]; exact hT
            clear eS85
            refine mv_aload_n (pc := 85) B d_Exprs_ofTwo_85 rfl 3 rfl ?_
            refine mv_iconst (pc := 86) (v := 0) B d_Exprs_ofTwo_86 (by decide) ?_
            refine mv_callVv (pc := 87) (n := 1) (ci := 6) (C := R_Exprs) B (mK_ok sk sv) hNs rfl rfl (c_Exprs_hold l hi _ _ hR.1 (by have := hX.1.2.2.1; omega) (by have := hX.1.2.2.1; omega)) rfl (ma_goodc kc_Exprs_hold) (B.2.2.2.1 _ k_1432) (B.2.2.2.1 _ k_1434) (B.2.2.2.1 _ ks_51) (B.2.2.2.1 _ k_7) ⟨by decide +kernel, by decide +kernel, by decide +kernel⟩ rfl d_Exprs_ofTwo_87 rfl (Nat.le_of_ble_eq_true rfl) ⟨by decide, by decide⟩ ⟨by decide, by decide⟩ ⟨by decide, by decide⟩ (mv_noH hno _) (fun σ87 h87 => ?_)
            subst h87
            refine mv_goto (pc := 90) (tgt := 128) B d_Exprs_ofTwo_90 rfl ?_
            refine mv_gen (fun S128 eS128 => ?_)
            have hR : Rw 145 (mv_r S128) := by rw [eS128]; exact hR
            have hF : RF 145 σ S128 := by rw [eS128]; exact hF.hold _
            have hX : XM 145 th e0 bs BL f0 g0 ns S128 (ms) (hl + 1) (ht + 1) (s0 + 1) := by rw [eS128]; exact hX.hold hP (by omega) _
            have hT : mv_i S128 3 = mv_i σ 3 := by rw [eS128]; exact hT
            clear eS128
            exact mv_vret (pc := 128) B hr d_Exprs_ofTwo_128 (Nat.le_refl _) (Nat.le_refl _) ⟨rfl, hF, hX, hT⟩
      · skip
        refine mv_aload_n (pc := 60) B d_Exprs_ofTwo_60 rfl 3 rfl ?_
        refine mv_iconst (pc := 61) (v := 0) B d_Exprs_ofTwo_61 (by decide) ?_
        refine mv_callVv (pc := 62) (n := 1) (ci := 6) (C := R_Exprs) B (mK_ok sk sv) hNs rfl rfl (c_Exprs_hold l hi _ _ hR.1 (by have := hX.1.2.2.1; omega) (by have := hX.1.2.2.1; omega)) rfl (ma_goodc kc_Exprs_hold) (B.2.2.2.1 _ k_1432) (B.2.2.2.1 _ k_1434) (B.2.2.2.1 _ ks_51) (B.2.2.2.1 _ k_7) ⟨by decide +kernel, by decide +kernel, by decide +kernel⟩ rfl d_Exprs_ofTwo_62 rfl (Nat.le_of_ble_eq_true rfl) ⟨by decide, by decide⟩ ⟨by decide, by decide⟩ ⟨by decide, by decide⟩ (mv_noH hno _) (fun σ62 h62 => ?_)
        subst h62
        refine mv_goto (pc := 65) (tgt := 128) B d_Exprs_ofTwo_65 rfl ?_
        refine mv_gen (fun S128 eS128 => ?_)
        have hR : Rw 145 (mv_r S128) := by rw [eS128]; exact hR
        have hF : RF 145 σ S128 := by rw [eS128]; exact hF.hold _
        have hX : XM 145 th e0 bs BL f0 g0 ns S128 (ms) (hl + 1) (ht + 1) (s0 + 1) := by rw [eS128]; exact hX.hold hP (by omega) _
        have hT : mv_i S128 3 = mv_i σ 3 := by rw [eS128]; exact hT
        clear eS128
        exact mv_vret (pc := 128) B hr d_Exprs_ofTwo_128 (Nat.le_refl _) (Nat.le_refl _) ⟨rfl, hF, hX, hT⟩
  refine mv_aload_n (pc := 0) B d_Exprs_ofTwo_0 rfl 0 rfl ?_
  refine mv_callVi (pc := 1) (n := 0) (ci := 6) (C := R_Exprs) B (mK_ok sk sv) hNs rfl rfl (c_Exprs_release l hi _ hR.1 (by have := hX.1.2.2.1; omega) (by have := hX.1.2.2.1; omega)) rfl (ma_goodc kc_Exprs_release) (B.2.2.2.1 _ k_1469) (B.2.2.2.1 _ k_1470) (B.2.2.2.1 _ k_1471) (B.2.2.2.1 _ k_7) ⟨by decide +kernel, by decide +kernel, by decide +kernel⟩ rfl d_Exprs_ofTwo_1 rfl (Nat.le_of_ble_eq_true rfl) ⟨by decide, by decide⟩ ⟨by decide, by decide⟩ ⟨by decide, by decide⟩ (mv_noH hno _) (fun v1 σ1 h1 => ?_)
  subst h1
  refine mv_gen (fun S4 eS4 => ?_)
  have hR : Rw 145 (mv_r S4) := by rw [eS4]; exact hR
  have hF : RF 145 σ S4 := by rw [eS4]; exact hF.rel
  have hX : XM 145 th e0 bs BL f0 g0 ns S4 (ms) (hl + 1) (ht + 2) (s0) := by rw [eS4]; exact hX.rel hP
  have hT : mv_i S4 3 = mv_i σ 3 := by rw [eS4]; exact hT
  clear eS4
  refine mv_istore_n (pc := 4) B d_Exprs_ofTwo_4 rfl (by decide) rfl ?_
  refine mv_aload_n (pc := 5) B d_Exprs_ofTwo_5 rfl 1 rfl ?_
  refine mv_callVi (pc := 6) (n := 0) (ci := 6) (C := R_Exprs) B (mK_ok sk sv) hNs rfl rfl (c_Exprs_release l hi _ hR.1 (by have := hX.1.2.2.1; omega) (by have := hX.1.2.2.1; omega)) rfl (ma_goodc kc_Exprs_release) (B.2.2.2.1 _ k_1469) (B.2.2.2.1 _ k_1470) (B.2.2.2.1 _ k_1471) (B.2.2.2.1 _ k_7) ⟨by decide +kernel, by decide +kernel, by decide +kernel⟩ rfl d_Exprs_ofTwo_6 rfl (Nat.le_of_ble_eq_true rfl) ⟨by decide, by decide⟩ ⟨by decide, by decide⟩ ⟨by decide, by decide⟩ (mv_noH hno _) (fun v6 σ6 h6 => ?_)
  subst h6
  refine mv_gen (fun S9 eS9 => ?_)
  have hR : Rw 145 (mv_r S9) := by rw [eS9]; exact hR
  have hF : RF 145 σ S9 := by rw [eS9]; exact hF.rel
  have hX : XM 145 th e0 bs BL f0 g0 ns S9 (ms) (hl) (ht + 2) (s0) := by rw [eS9]; exact hX.rel hP
  have hT : mv_i S9 3 = mv_i σ 3 := by rw [eS9]; exact hT
  clear eS9
  refine mv_istore (pc := 9) B d_Exprs_ofTwo_9 (by decide) rfl ?_
  refine mv_aload_n (pc := 11) B d_Exprs_ofTwo_11 rfl 2 rfl ?_
  refine mv_getR (pc := 12) (ci := 6) (C := R_Exprs) (T := F_Exprs) (N := 11) B 3 rfl rfl (by decide) i_Exprs (B.2.2.2.1 _ k_197) rfl hR.2.2.2 d_Exprs_ofTwo_12 ?_
  refine mv_iload_n (pc := 15) B d_Exprs_ofTwo_15 rfl 3 rfl ?_
  refine mv_iload (pc := 16) B d_Exprs_ofTwo_16 0 rfl ?_
  refine mv_i2l (pc := 18) B d_Exprs_ofTwo_18 ?_
  refine mv_callVi (pc := 19) (n := 2) (ci := 7) (C := R_Program) B (mK_ok sk sv) hNs rfl rfl (c_Program_emit_c l hi _ _ _ hR.2.1 (by have := hX.2.1.1; omega) (by have := hX.2.1.1; omega)) rfl (ma_goodc kc_Program_emit) (B.2.2.2.1 _ k_1425) (B.2.2.2.1 _ k_1385) (B.2.2.2.1 _ k_1386) (B.2.2.2.1 _ k_8) ⟨by decide +kernel, by decide +kernel, by decide +kernel⟩ rfl d_Exprs_ofTwo_19 rfl (Nat.le_of_ble_eq_true rfl) ⟨by decide, by decide⟩ ⟨by decide, by decide⟩ ⟨by decide, by decide⟩ (mv_noH hno _) (fun v19 σ19 h19 => ?_)
  obtain ⟨e19, -⟩ := h19
  subst e19
  refine mv_gen (fun S22 eS22 => ?_)
  have hR : Rw 145 (mv_r S22) := by rw [eS22]; exact hR
  have hF : RF 145 σ S22 := by rw [eS22]; exact hF.emit _ _
  have hX : XM 145 th e0 bs BL f0 g0 ns S22 (ms) (hl) (ht + 1) (s0 + 1) := by rw [eS22]; exact hX.emit0 hP (by omega) (ht + 1) hk2.2.1 hk2.2.2.1 (Op1_bin hk th _ (bs + ht)) (by omega)
  have hT : mv_i S22 3 = mv_i σ 3 := by rw [eS22]; exact hT
  clear eS22
  refine mv_pop (pc := 22) B d_Exprs_ofTwo_22 rfl ?_
  refine mv_iload_n (pc := 23) B d_Exprs_ofTwo_23 rfl 3 rfl ?_
  refine mv_sipush (pc := 24) (v := 131) B d_Exprs_ofTwo_24 (by decide) ?_
  refine mv_icmp_eq (pc := 27) (tgt := 44) B d_Exprs_ofTwo_27 rfl (fun h27 => ?_) (fun h27 => ?_)
  · skip
    refine mv_iconst (pc := 44) (v := 1) B d_Exprs_ofTwo_44 (by decide) ?_
    refine mv_goto (pc := 45) (tgt := 49) B d_Exprs_ofTwo_45 rfl ?_
    refine mv_istore (pc := 49) B d_Exprs_ofTwo_49 (by decide) rfl ?_
    refine mv_lpick [0, 1, 2, 3, 4, 5] rfl ?_
    exact j51 _ _ _ _ hR hF hX hT
  · skip
    refine mv_iload_n (pc := 30) B d_Exprs_ofTwo_30 rfl 3 rfl ?_
    refine mv_sipush (pc := 31) (v := 132) B d_Exprs_ofTwo_31 (by decide) ?_
    refine mv_icmp_eq (pc := 34) (tgt := 44) B d_Exprs_ofTwo_34 rfl (fun h34 => ?_) (fun h34 => ?_)
    · skip
      refine mv_iconst (pc := 44) (v := 1) B d_Exprs_ofTwo_44 (by decide) ?_
      refine mv_goto (pc := 45) (tgt := 49) B d_Exprs_ofTwo_45 rfl ?_
      refine mv_istore (pc := 49) B d_Exprs_ofTwo_49 (by decide) rfl ?_
      refine mv_lpick [0, 1, 2, 3, 4, 5] rfl ?_
      exact j51 _ _ _ _ hR hF hX hT
    · skip
      refine mv_iload_n (pc := 37) B d_Exprs_ofTwo_37 rfl 3 rfl ?_
      refine mv_sipush (pc := 38) (v := 216) B d_Exprs_ofTwo_38 (by decide) ?_
      refine mv_icmp_ne (pc := 41) (tgt := 48) B d_Exprs_ofTwo_41 rfl (fun h41 => ?_) (fun h41 => ?_)
      · skip
        refine mv_iconst (pc := 48) (v := 0) B d_Exprs_ofTwo_48 (by decide) ?_
        refine mv_istore (pc := 49) B d_Exprs_ofTwo_49 (by decide) rfl ?_
        refine mv_lpick [0, 1, 2, 3, 4, 5] rfl ?_
        exact j51 _ _ _ _ hR hF hX hT
      · skip
        refine mv_iconst (pc := 44) (v := 1) B d_Exprs_ofTwo_44 (by decide) ?_
        refine mv_goto (pc := 45) (tgt := 49) B d_Exprs_ofTwo_45 rfl ?_
        refine mv_istore (pc := 49) B d_Exprs_ofTwo_49 (by decide) rfl ?_
        refine mv_lpick [0, 1, 2, 3, 4, 5] rfl ?_
        exact j51 _ _ _ _ hR hF hX hT
theorem un_wt {k w : Int32} (h : k = 305 ∨ k = 306 ∨ k = 307) : wt (k, w) = 0 ∧ wr (k, w) = 0 ∧ wc (k, w) = 1 ∧ wd (k, w) = 1 ∧ ¬ k = 63 ∧ ¬ k = 58 ∧ (isSet k = 0 ∧ (¬ k = 311 ∧ ¬ k = 312 ∧ ¬ k = 316 ∧ ¬ k = 317)) ∧ ∀ (th : Nat) (v : Int64) (x : Nat), Op1 th k v (x + 1) (x + 1) := by
  rcases h with rfl | rfl | rfl
  · exact ⟨rfl, rfl, rfl, rfl, by decide, by decide, by decide, fun th v x => ⟨by show 1 ≤ x + 1; omega, rfl, by unfold vok; exact ⟨fun q => absurd q (by decide), fun q => absurd q (by decide), fun q => absurd q (by decide)⟩⟩⟩
  · exact ⟨rfl, rfl, rfl, rfl, by decide, by decide, by decide, fun th v x => ⟨by show 1 ≤ x + 1; omega, rfl, by unfold vok; exact ⟨fun q => absurd q (by decide), fun q => absurd q (by decide), fun q => absurd q (by decide)⟩⟩⟩
  · exact ⟨rfl, rfl, rfl, rfl, by decide, by decide, by decide, fun th v x => ⟨by show 1 ≤ x + 1; omega, rfl, by unfold vok; exact ⟨fun q => absurd q (by decide), fun q => absurd q (by decide), fun q => absurd q (by decide)⟩⟩⟩
def y_Exprs_endBinaries : MethodName := ⟨"MachineLoom$Exprs", "endBinaries", "(I)V"⟩
abbrev b_Exprs_endBinaries : ByteArray := prog_3_method_15_code
theorem kc_Exprs_endBinaries : Cond.code y_Exprs_endBinaries b_Exprs_endBinaries 4 (Option.none : Option Jvm.ClassFile.FieldType) ∈ ma := ma_of (tb_7 _ (List.mem_of_getElem? (i := 48) rfl)) rfl
theorem k_1489 : (Jvm.Cond.methodLink "MachineLoom$Exprs" (176 : Nat) ({ cls := "MachineLoom$Exprs", name := "ofTwo", desc := "(II)V" } : Jvm.MethodName)) ∈ ma := ma_of (tb_7 _ (List.mem_of_getElem? (i := 49) rfl)) rfl
theorem k_1491 : (Jvm.Cond.instanceMethod ({ cls := "MachineLoom$Exprs", name := "ofTwo", desc := "(II)V" } : Jvm.MethodName)) ∈ ma := ma_of (tb_7 _ (List.mem_of_getElem? (i := 51) rfl)) rfl
theorem ks_57 : Cond.selects "MachineLoom$Exprs" ⟨"MachineLoom$Exprs", "ofTwo", "(II)V"⟩ ⟨"MachineLoom$Exprs", "ofTwo", "(II)V"⟩ ∈ ma := ma_sel 57 rfl rfl
theorem d_Exprs_endBinaries_0 : decode b_Exprs_endBinaries 0 = .ok (.iconst 0, 1) := by decide +kernel
theorem d_Exprs_endBinaries_1 : decode b_Exprs_endBinaries 1 = .ok (.istore_n 2, 1) := by decide +kernel
theorem d_Exprs_endBinaries_2 : decode b_Exprs_endBinaries 2 = .ok (.iload_n 2, 1) := by decide +kernel
theorem d_Exprs_endBinaries_3 : decode b_Exprs_endBinaries 3 = .ok (.sipush 1024, 3) := by decide +kernel
theorem d_Exprs_endBinaries_6 : decode b_Exprs_endBinaries 6 = .ok (.if_icmp .ge (61), 3) := by decide +kernel
theorem d_Exprs_endBinaries_9 : decode b_Exprs_endBinaries 9 = .ok (.aload_n 0, 1) := by decide +kernel
theorem d_Exprs_endBinaries_10 : decode b_Exprs_endBinaries 10 = .ok (.getfield 39, 3) := by decide +kernel
theorem d_Exprs_endBinaries_13 : decode b_Exprs_endBinaries 13 = .ok (.ifCond .le (54), 3) := by decide +kernel
theorem d_Exprs_endBinaries_16 : decode b_Exprs_endBinaries 16 = .ok (.aload_n 0, 1) := by decide +kernel
theorem d_Exprs_endBinaries_17 : decode b_Exprs_endBinaries 17 = .ok (.getfield 9, 3) := by decide +kernel
theorem d_Exprs_endBinaries_20 : decode b_Exprs_endBinaries 20 = .ok (.aload_n 0, 1) := by decide +kernel
theorem d_Exprs_endBinaries_21 : decode b_Exprs_endBinaries 21 = .ok (.getfield 39, 3) := by decide +kernel
theorem d_Exprs_endBinaries_24 : decode b_Exprs_endBinaries 24 = .ok (.iconst 1, 1) := by decide +kernel
theorem d_Exprs_endBinaries_25 : decode b_Exprs_endBinaries 25 = .ok (.isub, 1) := by decide +kernel
theorem d_Exprs_endBinaries_26 : decode b_Exprs_endBinaries 26 = .ok (.iaload, 1) := by decide +kernel
theorem d_Exprs_endBinaries_27 : decode b_Exprs_endBinaries 27 = .ok (.istore_n 3, 1) := by decide +kernel
theorem d_Exprs_endBinaries_28 : decode b_Exprs_endBinaries 28 = .ok (.iload_n 3, 1) := by decide +kernel
theorem d_Exprs_endBinaries_29 : decode b_Exprs_endBinaries 29 = .ok (.invokestatic 146, 3) := by decide +kernel
theorem d_Exprs_endBinaries_32 : decode b_Exprs_endBinaries 32 = .ok (.iload_n 1, 1) := by decide +kernel
theorem d_Exprs_endBinaries_33 : decode b_Exprs_endBinaries 33 = .ok (.if_icmp .ge (4), 3) := by decide +kernel
theorem d_Exprs_endBinaries_36 : decode b_Exprs_endBinaries 36 = .ok (.return_, 1) := by decide +kernel
theorem d_Exprs_endBinaries_37 : decode b_Exprs_endBinaries 37 = .ok (.aload_n 0, 1) := by decide +kernel
theorem d_Exprs_endBinaries_38 : decode b_Exprs_endBinaries 38 = .ok (.dup, 1) := by decide +kernel
theorem d_Exprs_endBinaries_39 : decode b_Exprs_endBinaries 39 = .ok (.getfield 39, 3) := by decide +kernel
theorem d_Exprs_endBinaries_42 : decode b_Exprs_endBinaries 42 = .ok (.iconst 1, 1) := by decide +kernel
theorem d_Exprs_endBinaries_43 : decode b_Exprs_endBinaries 43 = .ok (.isub, 1) := by decide +kernel
theorem d_Exprs_endBinaries_44 : decode b_Exprs_endBinaries 44 = .ok (.putfield 39, 3) := by decide +kernel
theorem d_Exprs_endBinaries_47 : decode b_Exprs_endBinaries 47 = .ok (.aload_n 0, 1) := by decide +kernel
theorem d_Exprs_endBinaries_48 : decode b_Exprs_endBinaries 48 = .ok (.iload_n 3, 1) := by decide +kernel
theorem d_Exprs_endBinaries_49 : decode b_Exprs_endBinaries 49 = .ok (.aload_n 0, 1) := by decide +kernel
theorem d_Exprs_endBinaries_50 : decode b_Exprs_endBinaries 50 = .ok (.getfield 15, 3) := by decide +kernel
theorem d_Exprs_endBinaries_53 : decode b_Exprs_endBinaries 53 = .ok (.aload_n 0, 1) := by decide +kernel
theorem d_Exprs_endBinaries_54 : decode b_Exprs_endBinaries 54 = .ok (.getfield 39, 3) := by decide +kernel
theorem d_Exprs_endBinaries_57 : decode b_Exprs_endBinaries 57 = .ok (.iaload, 1) := by decide +kernel
theorem d_Exprs_endBinaries_58 : decode b_Exprs_endBinaries 58 = .ok (.invokevirtual 176, 3) := by decide +kernel
theorem d_Exprs_endBinaries_61 : decode b_Exprs_endBinaries 61 = .ok (.iinc 2 (1), 3) := by decide +kernel
theorem d_Exprs_endBinaries_64 : decode b_Exprs_endBinaries 64 = .ok (.goto (-62), 3) := by decide +kernel
theorem d_Exprs_endBinaries_67 : decode b_Exprs_endBinaries 67 = .ok (.return_, 1) := by decide +kernel
set_option maxHeartbeats 4000000 in
set_option maxRecDepth 100000 in
theorem c_Exprs_endBinaries_a (l : Launch) {dA : FieldType → ClassId} {D : va_G} {al : Nat → Nat} {ext : mv_Sh} {sk sv : Nat → Nat} (hi : mv_inj (mg dA D al ext)) (σ : mv_H) (l9 : Int32) (Lq : Nat) (hL : l9.toInt = Lq) (hL1 : 1 ≤ Lq) {t len n z sz th sl e0 bs ns : Nat} {BL : (Nat → Nat) → Prop} {f0 : Nat → Int32} {g0 : Nat → Int64} {ms : List Mk} {s0 bd a : Nat} (hB0 : SB 32 σ t len n z sz th sl) (ht2 : t = 1 ∨ t = 144) (hX0 : XM 32 th e0 bs BL f0 g0 ns σ (ms) (sm wt ms + 1) (sm wr ms + 1) (s0)) (hI0 : TI σ sz bd ms s0 a) (hlen : len ≤ 32768) (hbs : bs ≤ 1) : mv_C l y_Exprs_endBinaries (Cond.code y_Exprs_endBinaries b_Exprs_endBinaries 4 (Option.none : Option Jvm.ClassFile.FieldType) :: ma) ({ frames := 3, cells := 0, slots := 0, locals := 70 }) (mg dA D al ext) (mK sk sv) [.ref (al 22), .int l9] σ (mv_Rv (fun σ1 => RF 32 σ σ1 ∧ ∃ ms2 s2, XM 32 th e0 bs BL f0 g0 ns σ1 (ms2) (sm wt ms2 + 1) (sm wr ms2 + 1) (s2) ∧ TI σ1 sz bd ms2 s2 a ∧ tl ms2 < Lq ∧ mv_i σ1 3 = mv_i σ 3)) := by
  refine mv_C.ofV (cc := b_Exprs_endBinaries) (nL := 4) (ret := (Option.none : Option Jvm.ClassFile.FieldType)) (by decide +kernel) rfl hi (Nat.le_of_ble_eq_true rfl) ?_
  intro p e s m below meth c B hNs hr hnm hno
  have hP : PQ 32 := by unfold PQ; omega
  have hR := hB0.1
  have hF : RF 32 σ σ := RF0
  have hT : mv_i σ 3 = mv_i σ 3 := rfl
  have hsz := hB0.2.1.2.2.2.2.2
  have ha9 := hI0.2.2.2.2.2.1
  have lp : ∀ (nn : Nat) (τ : mv_H) (tt : Int32) (ms : List Mk) (s1 : Nat) (hR : Rw 32 (mv_r τ)) (hF : RF 32 σ τ) (hX : XM 32 th e0 bs BL f0 g0 ns τ (ms) (sm wt ms + 1) (sm wr ms + 1) (s1)) (hI : TI τ sz bd ms s1 a) (hT : mv_i τ 3 = mv_i σ 3) (q0 : 0 ≤ tt.toInt) (q1 : tt.toInt + ms.length ≤ 600), ms.length < nn → mv_V p l e ({ frames := 3, cells := 0, slots := 0, locals := 70 }) s m ([.ref (al 22), .int l9] : List Value).toArray below meth c (mg dA D al ext) 4 0 0 (mv_Q (mg dA D al ext) below s 0 0 (mv_Rv (fun σ1 => RF 32 σ σ1 ∧ ∃ ms2 s2, XM 32 th e0 bs BL f0 g0 ns σ1 (ms2) (sm wt ms2 + 1) (sm wr ms2 + 1) (s2) ∧ TI σ1 sz bd ms2 s2 a ∧ tl ms2 < Lq ∧ mv_i σ1 3 = mv_i σ 3))) τ 2 [(2, .int tt), (0, .ref (al 22)), (1, .int l9)] [] := by
    intro nn
    induction nn with
    | zero => intro τ tt ms s1 hR hF hX hI hT q0 q1 hm; exact absurd hm (Nat.not_lt_zero _)
    | succ nn ih =>
      intro τ tt ms s1 hR hF hX hI hT q0 q1 hm
      refine mv_iload_n (pc := 2) B d_Exprs_endBinaries_2 rfl 0 rfl ?_
      refine mv_sipush (pc := 3) (v := 1024) B d_Exprs_endBinaries_3 (by decide) ?_
      refine mv_icmp_ge (pc := 6) (tgt := 67) B d_Exprs_endBinaries_6 rfl (fun h6 => ?_) (fun h6 => ?_)
      · skip
        exact absurd h6 (by rw [Int32.le_iff_toInt_le]; show ¬ ((1024 : Int) ≤ tt.toInt); omega)
      · skip
        rw [Int32.le_iff_toInt_le] at h6
        refine mv_aload_n (pc := 9) B d_Exprs_endBinaries_9 rfl 1 rfl ?_
        refine mv_getI (pc := 10) (ci := 6) (C := R_Exprs) (T := F_Exprs) (N := 11) B 8 rfl rfl (by decide) i_Exprs (B.2.2.2.1 _ k_202) rfl d_Exprs_endBinaries_10 ?_
        refine mv_if_le (pc := 13) (tgt := 67) B d_Exprs_endBinaries_13 rfl (fun h13 => ?_) (fun h13 => ?_)
        · skip
          rw [Int32.le_iff_toInt_le] at h13
          simp only [Int32.reduceToInt] at h13
          have enil := hX.nil h13
          subst enil
          exact mv_vret (pc := 67) B hr d_Exprs_endBinaries_67 (Nat.le_refl _) (Nat.le_refl _) ⟨rfl, hF, [], s1, hX, hI, by show 0 < Lq; omega, hT⟩
        · skip
          rw [Int32.le_iff_toInt_le] at h13
          simp only [Int32.reduceToInt] at h13
          obtain ⟨k8, w8, ms2, ems⟩ := hX.ne (by omega)
          subst ems
          obtain ⟨p1, p2, p3, p4⟩ := hX.top
          have pl := hI.len hX
          have pl1 : (((k8, w8) : Mk) :: ms2).length = ms2.length + 1 := rfl
          have t2 : (tt + 1).toInt = tt.toInt + 1 := i32_inc (by omega)
          have s1e : sm wt (((k8, w8) : Mk) :: ms2) = wt (k8, w8) + sm wt ms2 := rfl
          have s2e : sm wr (((k8, w8) : Mk) :: ms2) = wr (k8, w8) + sm wr ms2 := rfl
          have s3e : sm wc (((k8, w8) : Mk) :: ms2) = wc (k8, w8) + sm wc ms2 := rfl
          have s4e : sm wd (((k8, w8) : Mk) :: ms2) = wd (k8, w8) + sm wd ms2 := rfl
          have hI5 := hI.2.2.2.2.1
          have hsz := hB0.2.1.2.2.2.2.2
          have ha9 := hI.2.2.2.2.2.1
          refine mv_aload_n (pc := 16) B d_Exprs_endBinaries_16 rfl 1 rfl ?_
          refine mv_getR (pc := 17) (ci := 6) (C := R_Exprs) (T := F_Exprs) (N := 11) B 4 rfl rfl (by decide) i_Exprs (B.2.2.2.1 _ k_198) rfl (hR.1 _ 4 _ rfl) d_Exprs_endBinaries_17 ?_
          refine mv_aload_n (pc := 20) B d_Exprs_endBinaries_20 rfl 1 rfl ?_
          refine mv_getI (pc := 21) (ci := 6) (C := R_Exprs) (T := F_Exprs) (N := 11) B 8 rfl rfl (by decide) i_Exprs (B.2.2.2.1 _ k_202) rfl d_Exprs_endBinaries_21 ?_
          refine mv_iconst (pc := 24) (v := 1) B d_Exprs_endBinaries_24 (by decide) ?_
          refine mv_isub (pc := 25) B d_Exprs_endBinaries_25 ?_
          refine mv_iald (pc := 26) B rfl (i32_in (by omega) (by omega)) d_Exprs_endBinaries_26 ?_
          rw [p3]
          refine mv_istore_n (pc := 27) B d_Exprs_endBinaries_27 rfl (by decide) rfl ?_
          refine mv_iload_n (pc := 28) B d_Exprs_endBinaries_28 rfl 0 rfl ?_
          refine mv_callSi (pc := 29) (n := 1) B (mK_ok sk sv) hNs (c_Exprs_levelOf l hi _ _) rfl (ma_goodc kc_Exprs_levelOf) (B.2.2.2.1 _ k_1482) (B.2.2.2.1 _ k_1483) (B.2.2.2.1 _ k_7) ⟨by decide +kernel, by decide +kernel, by decide +kernel⟩ rfl d_Exprs_endBinaries_29 rfl (Nat.le_of_ble_eq_true rfl) ⟨by decide, by decide⟩ ⟨by decide, by decide⟩ ⟨by decide, by decide⟩ (mv_noH hno _) (fun v29 σ29 h29 => ?_)
          obtain ⟨e29, z29⟩ := h29
          have e29 := e29.symm
          subst e29
          refine mv_iload_n (pc := 32) B d_Exprs_endBinaries_32 rfl 3 rfl ?_
          refine mv_icmp_ge (pc := 33) (tgt := 37) B d_Exprs_endBinaries_33 rfl (fun h33 => ?_) (fun h33 => ?_)
          · skip
            rw [Int32.le_iff_toInt_le] at h33
            have hlv : 0 < lvl k8 := by omega
            obtain ⟨y1, y2, y3, y4, y5, y6, -⟩ := lvl_wt (w := w8) hlv
            refine mv_aload_n (pc := 37) B d_Exprs_endBinaries_37 rfl 2 rfl ?_
            refine mv_dup (pc := 38) B d_Exprs_endBinaries_38 rfl ?_
            refine mv_getI (pc := 39) (ci := 6) (C := R_Exprs) (T := F_Exprs) (N := 11) B 8 rfl rfl (by decide) i_Exprs (B.2.2.2.1 _ k_202) rfl d_Exprs_endBinaries_39 ?_
            refine mv_iconst (pc := 42) (v := 1) B d_Exprs_endBinaries_42 (by decide) ?_
            refine mv_isub (pc := 43) B d_Exprs_endBinaries_43 ?_
            refine mv_putI (pc := 44) (ci := 6) (C := R_Exprs) (T := F_Exprs) (N := 11) B 8 rfl rfl (by decide) i_Exprs t_Exprs_ok n_Exprs (B.2.2.2.1 _ k_202) rfl rfl rfl rfl d_Exprs_endBinaries_44 ?_
            refine mv_gen (fun S47 eS47 => ?_)
            have hR : Rw 32 (mv_r S47) := by rw [eS47]; exact hR
            have hF : RF 32 σ S47 := by rw [eS47]; exact hF.pop
            have hX : XM 32 th e0 bs BL f0 g0 ns S47 (ms2) (sm wt ms2 + 2) (sm wr ms2 + 2) (s1) := by
              rw [eS47]
              have := hX.pop hP ⟨y5, y6⟩
              rw [s1e, s2e, y1, y2, show 1 + sm wt ms2 + 1 = sm wt ms2 + 2 by omega, show 1 + sm wr ms2 + 1 = sm wr ms2 + 2 by omega] at this
              exact this
            have hT : mv_i S47 3 = mv_i σ 3 := by rw [eS47]; exact hT
            have e47 : mv_i S47 3 = mv_i τ 3 := by rw [eS47]; rfl
            have hk47 := hX.tok (i := (mv_i S47 22 8).toNatClampNeg) (by have := hX.n; omega)
            clear eS47
            refine mv_aload_n (pc := 47) B d_Exprs_endBinaries_47 rfl 2 rfl ?_
            refine mv_iload_n (pc := 48) B d_Exprs_endBinaries_48 rfl 0 rfl ?_
            refine mv_aload_n (pc := 49) B d_Exprs_endBinaries_49 rfl 2 rfl ?_
            refine mv_getR (pc := 50) (ci := 6) (C := R_Exprs) (T := F_Exprs) (N := 11) B 5 rfl rfl (by decide) i_Exprs (B.2.2.2.1 _ k_199) rfl (hR.1 _ 5 _ rfl) d_Exprs_endBinaries_50 ?_
            refine mv_aload_n (pc := 53) B d_Exprs_endBinaries_53 rfl 2 rfl ?_
            refine mv_getI (pc := 54) (ci := 6) (C := R_Exprs) (T := F_Exprs) (N := 11) B 8 rfl rfl (by decide) i_Exprs (B.2.2.2.1 _ k_202) rfl d_Exprs_endBinaries_54 ?_
            refine mv_iald (pc := 57) B rfl (i32_in (show 0 ≤ (mv_i S47 22 8).toInt by have := hX.1.1; omega) (show (mv_i S47 22 8).toInt < 1024 by have := hX.1.1; omega)) d_Exprs_endBinaries_57 ?_
            refine mv_callVv (pc := 58) (n := 2) (ci := 6) (C := R_Exprs) B (mK_ok sk sv) hNs rfl rfl (c_Exprs_ofTwo_a l hi _ _ _ (hB0.rf hF hP ht2) ht2 hX (Or.inl hlv) hk47.1 hk47.2 (by omega) (by omega) (by omega)) rfl (ma_goodc kc_Exprs_ofTwo) (B.2.2.2.1 _ k_1489) (B.2.2.2.1 _ k_1491) (B.2.2.2.1 _ ks_57) (B.2.2.2.1 _ k_7) ⟨by decide +kernel, by decide +kernel, by decide +kernel⟩ rfl d_Exprs_endBinaries_58 rfl (Nat.le_of_ble_eq_true rfl) ⟨by decide, by decide⟩ ⟨by decide, by decide⟩ ⟨by decide, by decide⟩ (mv_noH hno _) (fun σ58 h58 => ?_)
            obtain ⟨f58, x58, t58⟩ := h58
            have go := ih σ58 (tt + 1) ms2 (s1 + 1) (by rw [f58.2.2.2.2]; exact hR) (hF.tr f58) x58 (hI.up (t58.trans e47) (by omega) (by omega) hI.2.2.2.2.2.2.tail) (t58.trans hT) (by omega) (by omega) (by omega)
            refine mv_iinc (pc := 61) (j := 1) (v := 1) B d_Exprs_endBinaries_61 rfl (by decide) (by decide) rfl ?_
            refine mv_goto (pc := 64) (tgt := 2) B d_Exprs_endBinaries_64 rfl ?_
            refine mv_lpick [0, 2, 3] rfl ?_
            exact go
          · skip
            rw [Int32.le_iff_toInt_le] at h33
            have htl : tl (((k8, w8) : Mk) :: ms2) < Lq := by show lvl k8 < Lq; omega
            exact mv_vret (pc := 36) B hr d_Exprs_endBinaries_36 (Nat.le_refl _) (Nat.le_refl _) ⟨rfl, hF, _, _, hX, hI, htl, hT⟩
  refine mv_iconst (pc := 0) (v := 0) B d_Exprs_endBinaries_0 (by decide) ?_
  refine mv_istore_n (pc := 1) B d_Exprs_endBinaries_1 rfl (by decide) rfl ?_
  refine mv_lpick [0, 1, 2] rfl ?_
  exact lp _ _ _ ms s0 hR hF hX0 hI0 hT (by decide) (by have := hI0.len hX0; show (0 : Int) + ms.length ≤ 600; omega) (Nat.lt_succ_self _)
set_option maxHeartbeats 4000000 in
set_option maxRecDepth 100000 in
theorem c_Exprs_endBinaries_b (l : Launch) {dA : FieldType → ClassId} {D : va_G} {al : Nat → Nat} {ext : mv_Sh} {sk sv : Nat → Nat} (hi : mv_inj (mg dA D al ext)) (σ : mv_H) (l9 : Int32) (Lq : Nat) (hL : l9.toInt = Lq) (hL1 : 1 ≤ Lq) {t len n z sz th sl e0 bs ns : Nat} {BL : (Nat → Nat) → Prop} {f0 : Nat → Int32} {g0 : Nat → Int64} {ms : List Mk} {s0 bd a : Nat} (hB0 : SB 48 σ t len n z sz th sl) (ht2 : t = 1 ∨ t = 144) (hX0 : XM 48 th e0 bs BL f0 g0 ns σ (ms) (sm wt ms + 1) (sm wr ms + 1) (s0)) (hI0 : TI σ sz bd ms s0 a) (hlen : len ≤ 32768) (hbs : bs ≤ 1) : mv_C l y_Exprs_endBinaries (Cond.code y_Exprs_endBinaries b_Exprs_endBinaries 4 (Option.none : Option Jvm.ClassFile.FieldType) :: ma) ({ frames := 3, cells := 0, slots := 0, locals := 70 }) (mg dA D al ext) (mK sk sv) [.ref (al 22), .int l9] σ (mv_Rv (fun σ1 => RF 48 σ σ1 ∧ ∃ ms2 s2, XM 48 th e0 bs BL f0 g0 ns σ1 (ms2) (sm wt ms2 + 1) (sm wr ms2 + 1) (s2) ∧ TI σ1 sz bd ms2 s2 a ∧ tl ms2 < Lq ∧ mv_i σ1 3 = mv_i σ 3)) := by
  refine mv_C.ofV (cc := b_Exprs_endBinaries) (nL := 4) (ret := (Option.none : Option Jvm.ClassFile.FieldType)) (by decide +kernel) rfl hi (Nat.le_of_ble_eq_true rfl) ?_
  intro p e s m below meth c B hNs hr hnm hno
  have hP : PQ 48 := by unfold PQ; omega
  have hR := hB0.1
  have hF : RF 48 σ σ := RF0
  have hT : mv_i σ 3 = mv_i σ 3 := rfl
  have hsz := hB0.2.1.2.2.2.2.2
  have ha9 := hI0.2.2.2.2.2.1
  have lp : ∀ (nn : Nat) (τ : mv_H) (tt : Int32) (ms : List Mk) (s1 : Nat) (hR : Rw 48 (mv_r τ)) (hF : RF 48 σ τ) (hX : XM 48 th e0 bs BL f0 g0 ns τ (ms) (sm wt ms + 1) (sm wr ms + 1) (s1)) (hI : TI τ sz bd ms s1 a) (hT : mv_i τ 3 = mv_i σ 3) (q0 : 0 ≤ tt.toInt) (q1 : tt.toInt + ms.length ≤ 600), ms.length < nn → mv_V p l e ({ frames := 3, cells := 0, slots := 0, locals := 70 }) s m ([.ref (al 22), .int l9] : List Value).toArray below meth c (mg dA D al ext) 4 0 0 (mv_Q (mg dA D al ext) below s 0 0 (mv_Rv (fun σ1 => RF 48 σ σ1 ∧ ∃ ms2 s2, XM 48 th e0 bs BL f0 g0 ns σ1 (ms2) (sm wt ms2 + 1) (sm wr ms2 + 1) (s2) ∧ TI σ1 sz bd ms2 s2 a ∧ tl ms2 < Lq ∧ mv_i σ1 3 = mv_i σ 3))) τ 2 [(2, .int tt), (0, .ref (al 22)), (1, .int l9)] [] := by
    intro nn
    induction nn with
    | zero => intro τ tt ms s1 hR hF hX hI hT q0 q1 hm; exact absurd hm (Nat.not_lt_zero _)
    | succ nn ih =>
      intro τ tt ms s1 hR hF hX hI hT q0 q1 hm
      refine mv_iload_n (pc := 2) B d_Exprs_endBinaries_2 rfl 0 rfl ?_
      refine mv_sipush (pc := 3) (v := 1024) B d_Exprs_endBinaries_3 (by decide) ?_
      refine mv_icmp_ge (pc := 6) (tgt := 67) B d_Exprs_endBinaries_6 rfl (fun h6 => ?_) (fun h6 => ?_)
      · skip
        exact absurd h6 (by rw [Int32.le_iff_toInt_le]; show ¬ ((1024 : Int) ≤ tt.toInt); omega)
      · skip
        rw [Int32.le_iff_toInt_le] at h6
        refine mv_aload_n (pc := 9) B d_Exprs_endBinaries_9 rfl 1 rfl ?_
        refine mv_getI (pc := 10) (ci := 6) (C := R_Exprs) (T := F_Exprs) (N := 11) B 8 rfl rfl (by decide) i_Exprs (B.2.2.2.1 _ k_202) rfl d_Exprs_endBinaries_10 ?_
        refine mv_if_le (pc := 13) (tgt := 67) B d_Exprs_endBinaries_13 rfl (fun h13 => ?_) (fun h13 => ?_)
        · skip
          rw [Int32.le_iff_toInt_le] at h13
          simp only [Int32.reduceToInt] at h13
          have enil := hX.nil h13
          subst enil
          exact mv_vret (pc := 67) B hr d_Exprs_endBinaries_67 (Nat.le_refl _) (Nat.le_refl _) ⟨rfl, hF, [], s1, hX, hI, by show 0 < Lq; omega, hT⟩
        · skip
          rw [Int32.le_iff_toInt_le] at h13
          simp only [Int32.reduceToInt] at h13
          obtain ⟨k8, w8, ms2, ems⟩ := hX.ne (by omega)
          subst ems
          obtain ⟨p1, p2, p3, p4⟩ := hX.top
          have pl := hI.len hX
          have pl1 : (((k8, w8) : Mk) :: ms2).length = ms2.length + 1 := rfl
          have t2 : (tt + 1).toInt = tt.toInt + 1 := i32_inc (by omega)
          have s1e : sm wt (((k8, w8) : Mk) :: ms2) = wt (k8, w8) + sm wt ms2 := rfl
          have s2e : sm wr (((k8, w8) : Mk) :: ms2) = wr (k8, w8) + sm wr ms2 := rfl
          have s3e : sm wc (((k8, w8) : Mk) :: ms2) = wc (k8, w8) + sm wc ms2 := rfl
          have s4e : sm wd (((k8, w8) : Mk) :: ms2) = wd (k8, w8) + sm wd ms2 := rfl
          have hI5 := hI.2.2.2.2.1
          have hsz := hB0.2.1.2.2.2.2.2
          have ha9 := hI.2.2.2.2.2.1
          refine mv_aload_n (pc := 16) B d_Exprs_endBinaries_16 rfl 1 rfl ?_
          refine mv_getR (pc := 17) (ci := 6) (C := R_Exprs) (T := F_Exprs) (N := 11) B 4 rfl rfl (by decide) i_Exprs (B.2.2.2.1 _ k_198) rfl (hR.1 _ 4 _ rfl) d_Exprs_endBinaries_17 ?_
          refine mv_aload_n (pc := 20) B d_Exprs_endBinaries_20 rfl 1 rfl ?_
          refine mv_getI (pc := 21) (ci := 6) (C := R_Exprs) (T := F_Exprs) (N := 11) B 8 rfl rfl (by decide) i_Exprs (B.2.2.2.1 _ k_202) rfl d_Exprs_endBinaries_21 ?_
          refine mv_iconst (pc := 24) (v := 1) B d_Exprs_endBinaries_24 (by decide) ?_
          refine mv_isub (pc := 25) B d_Exprs_endBinaries_25 ?_
          refine mv_iald (pc := 26) B rfl (i32_in (by omega) (by omega)) d_Exprs_endBinaries_26 ?_
          rw [p3]
          refine mv_istore_n (pc := 27) B d_Exprs_endBinaries_27 rfl (by decide) rfl ?_
          refine mv_iload_n (pc := 28) B d_Exprs_endBinaries_28 rfl 0 rfl ?_
          refine mv_callSi (pc := 29) (n := 1) B (mK_ok sk sv) hNs (c_Exprs_levelOf l hi _ _) rfl (ma_goodc kc_Exprs_levelOf) (B.2.2.2.1 _ k_1482) (B.2.2.2.1 _ k_1483) (B.2.2.2.1 _ k_7) ⟨by decide +kernel, by decide +kernel, by decide +kernel⟩ rfl d_Exprs_endBinaries_29 rfl (Nat.le_of_ble_eq_true rfl) ⟨by decide, by decide⟩ ⟨by decide, by decide⟩ ⟨by decide, by decide⟩ (mv_noH hno _) (fun v29 σ29 h29 => ?_)
          obtain ⟨e29, z29⟩ := h29
          have e29 := e29.symm
          subst e29
          refine mv_iload_n (pc := 32) B d_Exprs_endBinaries_32 rfl 3 rfl ?_
          refine mv_icmp_ge (pc := 33) (tgt := 37) B d_Exprs_endBinaries_33 rfl (fun h33 => ?_) (fun h33 => ?_)
          · skip
            rw [Int32.le_iff_toInt_le] at h33
            have hlv : 0 < lvl k8 := by omega
            obtain ⟨y1, y2, y3, y4, y5, y6, -⟩ := lvl_wt (w := w8) hlv
            refine mv_aload_n (pc := 37) B d_Exprs_endBinaries_37 rfl 2 rfl ?_
            refine mv_dup (pc := 38) B d_Exprs_endBinaries_38 rfl ?_
            refine mv_getI (pc := 39) (ci := 6) (C := R_Exprs) (T := F_Exprs) (N := 11) B 8 rfl rfl (by decide) i_Exprs (B.2.2.2.1 _ k_202) rfl d_Exprs_endBinaries_39 ?_
            refine mv_iconst (pc := 42) (v := 1) B d_Exprs_endBinaries_42 (by decide) ?_
            refine mv_isub (pc := 43) B d_Exprs_endBinaries_43 ?_
            refine mv_putI (pc := 44) (ci := 6) (C := R_Exprs) (T := F_Exprs) (N := 11) B 8 rfl rfl (by decide) i_Exprs t_Exprs_ok n_Exprs (B.2.2.2.1 _ k_202) rfl rfl rfl rfl d_Exprs_endBinaries_44 ?_
            refine mv_gen (fun S47 eS47 => ?_)
            have hR : Rw 48 (mv_r S47) := by rw [eS47]; exact hR
            have hF : RF 48 σ S47 := by rw [eS47]; exact hF.pop
            have hX : XM 48 th e0 bs BL f0 g0 ns S47 (ms2) (sm wt ms2 + 2) (sm wr ms2 + 2) (s1) := by
              rw [eS47]
              have := hX.pop hP ⟨y5, y6⟩
              rw [s1e, s2e, y1, y2, show 1 + sm wt ms2 + 1 = sm wt ms2 + 2 by omega, show 1 + sm wr ms2 + 1 = sm wr ms2 + 2 by omega] at this
              exact this
            have hT : mv_i S47 3 = mv_i σ 3 := by rw [eS47]; exact hT
            have e47 : mv_i S47 3 = mv_i τ 3 := by rw [eS47]; rfl
            have hk47 := hX.tok (i := (mv_i S47 22 8).toNatClampNeg) (by have := hX.n; omega)
            clear eS47
            refine mv_aload_n (pc := 47) B d_Exprs_endBinaries_47 rfl 2 rfl ?_
            refine mv_iload_n (pc := 48) B d_Exprs_endBinaries_48 rfl 0 rfl ?_
            refine mv_aload_n (pc := 49) B d_Exprs_endBinaries_49 rfl 2 rfl ?_
            refine mv_getR (pc := 50) (ci := 6) (C := R_Exprs) (T := F_Exprs) (N := 11) B 5 rfl rfl (by decide) i_Exprs (B.2.2.2.1 _ k_199) rfl (hR.1 _ 5 _ rfl) d_Exprs_endBinaries_50 ?_
            refine mv_aload_n (pc := 53) B d_Exprs_endBinaries_53 rfl 2 rfl ?_
            refine mv_getI (pc := 54) (ci := 6) (C := R_Exprs) (T := F_Exprs) (N := 11) B 8 rfl rfl (by decide) i_Exprs (B.2.2.2.1 _ k_202) rfl d_Exprs_endBinaries_54 ?_
            refine mv_iald (pc := 57) B rfl (i32_in (show 0 ≤ (mv_i S47 22 8).toInt by have := hX.1.1; omega) (show (mv_i S47 22 8).toInt < 1024 by have := hX.1.1; omega)) d_Exprs_endBinaries_57 ?_
            refine mv_callVv (pc := 58) (n := 2) (ci := 6) (C := R_Exprs) B (mK_ok sk sv) hNs rfl rfl (c_Exprs_ofTwo_b l hi _ _ _ (hB0.rf hF hP ht2) ht2 hX (Or.inl hlv) hk47.1 hk47.2 (by omega) (by omega) (by omega)) rfl (ma_goodc kc_Exprs_ofTwo) (B.2.2.2.1 _ k_1489) (B.2.2.2.1 _ k_1491) (B.2.2.2.1 _ ks_57) (B.2.2.2.1 _ k_7) ⟨by decide +kernel, by decide +kernel, by decide +kernel⟩ rfl d_Exprs_endBinaries_58 rfl (Nat.le_of_ble_eq_true rfl) ⟨by decide, by decide⟩ ⟨by decide, by decide⟩ ⟨by decide, by decide⟩ (mv_noH hno _) (fun σ58 h58 => ?_)
            obtain ⟨f58, x58, t58⟩ := h58
            have go := ih σ58 (tt + 1) ms2 (s1 + 1) (by rw [f58.2.2.2.2]; exact hR) (hF.tr f58) x58 (hI.up (t58.trans e47) (by omega) (by omega) hI.2.2.2.2.2.2.tail) (t58.trans hT) (by omega) (by omega) (by omega)
            refine mv_iinc (pc := 61) (j := 1) (v := 1) B d_Exprs_endBinaries_61 rfl (by decide) (by decide) rfl ?_
            refine mv_goto (pc := 64) (tgt := 2) B d_Exprs_endBinaries_64 rfl ?_
            refine mv_lpick [0, 2, 3] rfl ?_
            exact go
          · skip
            rw [Int32.le_iff_toInt_le] at h33
            have htl : tl (((k8, w8) : Mk) :: ms2) < Lq := by show lvl k8 < Lq; omega
            exact mv_vret (pc := 36) B hr d_Exprs_endBinaries_36 (Nat.le_refl _) (Nat.le_refl _) ⟨rfl, hF, _, _, hX, hI, htl, hT⟩
  refine mv_iconst (pc := 0) (v := 0) B d_Exprs_endBinaries_0 (by decide) ?_
  refine mv_istore_n (pc := 1) B d_Exprs_endBinaries_1 rfl (by decide) rfl ?_
  refine mv_lpick [0, 1, 2] rfl ?_
  exact lp _ _ _ ms s0 hR hF hX0 hI0 hT (by decide) (by have := hI0.len hX0; show (0 : Int) + ms.length ≤ 600; omega) (Nat.lt_succ_self _)
set_option maxHeartbeats 4000000 in
set_option maxRecDepth 100000 in
theorem c_Exprs_endBinaries_c (l : Launch) {dA : FieldType → ClassId} {D : va_G} {al : Nat → Nat} {sk sv : Nat → Nat} (hi : mv_inj (mg dA D al me)) (σ : mv_H) (l9 : Int32) (Lq : Nat) (hL : l9.toInt = Lq) (hL1 : 1 ≤ Lq) {t len n z sz th sl e0 bs ns : Nat} {BL : (Nat → Nat) → Prop} {f0 : Nat → Int32} {g0 : Nat → Int64} {ms : List Mk} {s0 bd a : Nat} (hB0 : SB 145 σ t len n z sz th sl) (ht2 : t = 1 ∨ t = 144) (hX0 : XM 145 th e0 bs BL f0 g0 ns σ (ms) (sm wt ms + 1) (sm wr ms + 1) (s0)) (hI0 : TI σ sz bd ms s0 a) (hlen : len ≤ 8192) (hbs : bs ≤ 1) : mv_C l y_Exprs_endBinaries (Cond.code y_Exprs_endBinaries b_Exprs_endBinaries 4 (Option.none : Option Jvm.ClassFile.FieldType) :: ma) ({ frames := 3, cells := 0, slots := 0, locals := 70 }) (mg dA D al me) (mK sk sv) [.ref (al 22), .int l9] σ (mv_Rv (fun σ1 => RF 145 σ σ1 ∧ ∃ ms2 s2, XM 145 th e0 bs BL f0 g0 ns σ1 (ms2) (sm wt ms2 + 1) (sm wr ms2 + 1) (s2) ∧ TI σ1 sz bd ms2 s2 a ∧ tl ms2 < Lq ∧ mv_i σ1 3 = mv_i σ 3)) := by
  refine mv_C.ofV (cc := b_Exprs_endBinaries) (nL := 4) (ret := (Option.none : Option Jvm.ClassFile.FieldType)) (by decide +kernel) rfl hi (Nat.le_of_ble_eq_true rfl) ?_
  intro p e s m below meth c B hNs hr hnm hno
  have hP : PQ 145 := by unfold PQ; omega
  have hR := hB0.1
  have hF : RF 145 σ σ := RF0
  have hT : mv_i σ 3 = mv_i σ 3 := rfl
  have hsz := hB0.2.1.2.2.2.2.2
  have ha9 := hI0.2.2.2.2.2.1
  have lp : ∀ (nn : Nat) (τ : mv_H) (tt : Int32) (ms : List Mk) (s1 : Nat) (hR : Rw 145 (mv_r τ)) (hF : RF 145 σ τ) (hX : XM 145 th e0 bs BL f0 g0 ns τ (ms) (sm wt ms + 1) (sm wr ms + 1) (s1)) (hI : TI τ sz bd ms s1 a) (hT : mv_i τ 3 = mv_i σ 3) (q0 : 0 ≤ tt.toInt) (q1 : tt.toInt + ms.length ≤ 600), ms.length < nn → mv_V p l e ({ frames := 3, cells := 0, slots := 0, locals := 70 }) s m ([.ref (al 22), .int l9] : List Value).toArray below meth c (mg dA D al me) 4 0 0 (mv_Q (mg dA D al me) below s 0 0 (mv_Rv (fun σ1 => RF 145 σ σ1 ∧ ∃ ms2 s2, XM 145 th e0 bs BL f0 g0 ns σ1 (ms2) (sm wt ms2 + 1) (sm wr ms2 + 1) (s2) ∧ TI σ1 sz bd ms2 s2 a ∧ tl ms2 < Lq ∧ mv_i σ1 3 = mv_i σ 3))) τ 2 [(2, .int tt), (0, .ref (al 22)), (1, .int l9)] [] := by
    intro nn
    induction nn with
    | zero => intro τ tt ms s1 hR hF hX hI hT q0 q1 hm; exact absurd hm (Nat.not_lt_zero _)
    | succ nn ih =>
      intro τ tt ms s1 hR hF hX hI hT q0 q1 hm
      refine mv_iload_n (pc := 2) B d_Exprs_endBinaries_2 rfl 0 rfl ?_
      refine mv_sipush (pc := 3) (v := 1024) B d_Exprs_endBinaries_3 (by decide) ?_
      refine mv_icmp_ge (pc := 6) (tgt := 67) B d_Exprs_endBinaries_6 rfl (fun h6 => ?_) (fun h6 => ?_)
      · skip
        exact absurd h6 (by rw [Int32.le_iff_toInt_le]; show ¬ ((1024 : Int) ≤ tt.toInt); omega)
      · skip
        rw [Int32.le_iff_toInt_le] at h6
        refine mv_aload_n (pc := 9) B d_Exprs_endBinaries_9 rfl 1 rfl ?_
        refine mv_getI (pc := 10) (ci := 6) (C := R_Exprs) (T := F_Exprs) (N := 11) B 8 rfl rfl (by decide) i_Exprs (B.2.2.2.1 _ k_202) rfl d_Exprs_endBinaries_10 ?_
        refine mv_if_le (pc := 13) (tgt := 67) B d_Exprs_endBinaries_13 rfl (fun h13 => ?_) (fun h13 => ?_)
        · skip
          rw [Int32.le_iff_toInt_le] at h13
          simp only [Int32.reduceToInt] at h13
          have enil := hX.nil h13
          subst enil
          exact mv_vret (pc := 67) B hr d_Exprs_endBinaries_67 (Nat.le_refl _) (Nat.le_refl _) ⟨rfl, hF, [], s1, hX, hI, by show 0 < Lq; omega, hT⟩
        · skip
          rw [Int32.le_iff_toInt_le] at h13
          simp only [Int32.reduceToInt] at h13
          obtain ⟨k8, w8, ms2, ems⟩ := hX.ne (by omega)
          subst ems
          obtain ⟨p1, p2, p3, p4⟩ := hX.top
          have pl := hI.len hX
          have pl1 : (((k8, w8) : Mk) :: ms2).length = ms2.length + 1 := rfl
          have t2 : (tt + 1).toInt = tt.toInt + 1 := i32_inc (by omega)
          have s1e : sm wt (((k8, w8) : Mk) :: ms2) = wt (k8, w8) + sm wt ms2 := rfl
          have s2e : sm wr (((k8, w8) : Mk) :: ms2) = wr (k8, w8) + sm wr ms2 := rfl
          have s3e : sm wc (((k8, w8) : Mk) :: ms2) = wc (k8, w8) + sm wc ms2 := rfl
          have s4e : sm wd (((k8, w8) : Mk) :: ms2) = wd (k8, w8) + sm wd ms2 := rfl
          have hI5 := hI.2.2.2.2.1
          have hsz := hB0.2.1.2.2.2.2.2
          have ha9 := hI.2.2.2.2.2.1
          refine mv_aload_n (pc := 16) B d_Exprs_endBinaries_16 rfl 1 rfl ?_
          refine mv_getR (pc := 17) (ci := 6) (C := R_Exprs) (T := F_Exprs) (N := 11) B 4 rfl rfl (by decide) i_Exprs (B.2.2.2.1 _ k_198) rfl (hR.1 _ 4 _ rfl) d_Exprs_endBinaries_17 ?_
          refine mv_aload_n (pc := 20) B d_Exprs_endBinaries_20 rfl 1 rfl ?_
          refine mv_getI (pc := 21) (ci := 6) (C := R_Exprs) (T := F_Exprs) (N := 11) B 8 rfl rfl (by decide) i_Exprs (B.2.2.2.1 _ k_202) rfl d_Exprs_endBinaries_21 ?_
          refine mv_iconst (pc := 24) (v := 1) B d_Exprs_endBinaries_24 (by decide) ?_
          refine mv_isub (pc := 25) B d_Exprs_endBinaries_25 ?_
          refine mv_iald (pc := 26) B rfl (i32_in (by omega) (by omega)) d_Exprs_endBinaries_26 ?_
          rw [p3]
          refine mv_istore_n (pc := 27) B d_Exprs_endBinaries_27 rfl (by decide) rfl ?_
          refine mv_iload_n (pc := 28) B d_Exprs_endBinaries_28 rfl 0 rfl ?_
          refine mv_callSi (pc := 29) (n := 1) B (mK_ok sk sv) hNs (c_Exprs_levelOf l hi _ _) rfl (ma_goodc kc_Exprs_levelOf) (B.2.2.2.1 _ k_1482) (B.2.2.2.1 _ k_1483) (B.2.2.2.1 _ k_7) ⟨by decide +kernel, by decide +kernel, by decide +kernel⟩ rfl d_Exprs_endBinaries_29 rfl (Nat.le_of_ble_eq_true rfl) ⟨by decide, by decide⟩ ⟨by decide, by decide⟩ ⟨by decide, by decide⟩ (mv_noH hno _) (fun v29 σ29 h29 => ?_)
          obtain ⟨e29, z29⟩ := h29
          have e29 := e29.symm
          subst e29
          refine mv_iload_n (pc := 32) B d_Exprs_endBinaries_32 rfl 3 rfl ?_
          refine mv_icmp_ge (pc := 33) (tgt := 37) B d_Exprs_endBinaries_33 rfl (fun h33 => ?_) (fun h33 => ?_)
          · skip
            rw [Int32.le_iff_toInt_le] at h33
            have hlv : 0 < lvl k8 := by omega
            obtain ⟨y1, y2, y3, y4, y5, y6, -⟩ := lvl_wt (w := w8) hlv
            refine mv_aload_n (pc := 37) B d_Exprs_endBinaries_37 rfl 2 rfl ?_
            refine mv_dup (pc := 38) B d_Exprs_endBinaries_38 rfl ?_
            refine mv_getI (pc := 39) (ci := 6) (C := R_Exprs) (T := F_Exprs) (N := 11) B 8 rfl rfl (by decide) i_Exprs (B.2.2.2.1 _ k_202) rfl d_Exprs_endBinaries_39 ?_
            refine mv_iconst (pc := 42) (v := 1) B d_Exprs_endBinaries_42 (by decide) ?_
            refine mv_isub (pc := 43) B d_Exprs_endBinaries_43 ?_
            refine mv_putI (pc := 44) (ci := 6) (C := R_Exprs) (T := F_Exprs) (N := 11) B 8 rfl rfl (by decide) i_Exprs t_Exprs_ok n_Exprs (B.2.2.2.1 _ k_202) rfl rfl rfl rfl d_Exprs_endBinaries_44 ?_
            refine mv_gen (fun S47 eS47 => ?_)
            have hR : Rw 145 (mv_r S47) := by rw [eS47]; exact hR
            have hF : RF 145 σ S47 := by rw [eS47]; exact hF.pop
            have hX : XM 145 th e0 bs BL f0 g0 ns S47 (ms2) (sm wt ms2 + 2) (sm wr ms2 + 2) (s1) := by
              rw [eS47]
              have := hX.pop hP ⟨y5, y6⟩
              rw [s1e, s2e, y1, y2, show 1 + sm wt ms2 + 1 = sm wt ms2 + 2 by omega, show 1 + sm wr ms2 + 1 = sm wr ms2 + 2 by omega] at this
              exact this
            have hT : mv_i S47 3 = mv_i σ 3 := by rw [eS47]; exact hT
            have e47 : mv_i S47 3 = mv_i τ 3 := by rw [eS47]; rfl
            have hk47 := hX.tok (i := (mv_i S47 22 8).toNatClampNeg) (by have := hX.n; omega)
            clear eS47
            refine mv_aload_n (pc := 47) B d_Exprs_endBinaries_47 rfl 2 rfl ?_
            refine mv_iload_n (pc := 48) B d_Exprs_endBinaries_48 rfl 0 rfl ?_
            refine mv_aload_n (pc := 49) B d_Exprs_endBinaries_49 rfl 2 rfl ?_
            refine mv_getR (pc := 50) (ci := 6) (C := R_Exprs) (T := F_Exprs) (N := 11) B 5 rfl rfl (by decide) i_Exprs (B.2.2.2.1 _ k_199) rfl (hR.1 _ 5 _ rfl) d_Exprs_endBinaries_50 ?_
            refine mv_aload_n (pc := 53) B d_Exprs_endBinaries_53 rfl 2 rfl ?_
            refine mv_getI (pc := 54) (ci := 6) (C := R_Exprs) (T := F_Exprs) (N := 11) B 8 rfl rfl (by decide) i_Exprs (B.2.2.2.1 _ k_202) rfl d_Exprs_endBinaries_54 ?_
            refine mv_iald (pc := 57) B rfl (i32_in (show 0 ≤ (mv_i S47 22 8).toInt by have := hX.1.1; omega) (show (mv_i S47 22 8).toInt < 1024 by have := hX.1.1; omega)) d_Exprs_endBinaries_57 ?_
            refine mv_callVv (pc := 58) (n := 2) (ci := 6) (C := R_Exprs) B (mK_ok sk sv) hNs rfl rfl (c_Exprs_ofTwo_c l hi _ _ _ (hB0.rf hF hP ht2) ht2 hX (Or.inl hlv) hk47.1 hk47.2 (by omega) (by omega) (by omega)) rfl (ma_goodc kc_Exprs_ofTwo) (B.2.2.2.1 _ k_1489) (B.2.2.2.1 _ k_1491) (B.2.2.2.1 _ ks_57) (B.2.2.2.1 _ k_7) ⟨by decide +kernel, by decide +kernel, by decide +kernel⟩ rfl d_Exprs_endBinaries_58 rfl (Nat.le_of_ble_eq_true rfl) ⟨by decide, by decide⟩ ⟨by decide, by decide⟩ ⟨by decide, by decide⟩ (mv_noH hno _) (fun σ58 h58 => ?_)
            obtain ⟨f58, x58, t58⟩ := h58
            have go := ih σ58 (tt + 1) ms2 (s1 + 1) (by rw [f58.2.2.2.2]; exact hR) (hF.tr f58) x58 (hI.up (t58.trans e47) (by omega) (by omega) hI.2.2.2.2.2.2.tail) (t58.trans hT) (by omega) (by omega) (by omega)
            refine mv_iinc (pc := 61) (j := 1) (v := 1) B d_Exprs_endBinaries_61 rfl (by decide) (by decide) rfl ?_
            refine mv_goto (pc := 64) (tgt := 2) B d_Exprs_endBinaries_64 rfl ?_
            refine mv_lpick [0, 2, 3] rfl ?_
            exact go
          · skip
            rw [Int32.le_iff_toInt_le] at h33
            have htl : tl (((k8, w8) : Mk) :: ms2) < Lq := by show lvl k8 < Lq; omega
            exact mv_vret (pc := 36) B hr d_Exprs_endBinaries_36 (Nat.le_refl _) (Nat.le_refl _) ⟨rfl, hF, _, _, hX, hI, htl, hT⟩
  refine mv_iconst (pc := 0) (v := 0) B d_Exprs_endBinaries_0 (by decide) ?_
  refine mv_istore_n (pc := 1) B d_Exprs_endBinaries_1 rfl (by decide) rfl ?_
  refine mv_lpick [0, 1, 2] rfl ?_
  exact lp _ _ _ ms s0 hR hF hX0 hI0 hT (by decide) (by have := hI0.len hX0; show (0 : Int) + ms.length ≤ 600; omega) (Nat.lt_succ_self _)
def y_Exprs_endSigns : MethodName := ⟨"MachineLoom$Exprs", "endSigns", "()V"⟩
abbrev b_Exprs_endSigns : ByteArray := prog_3_method_14_code
theorem kc_Exprs_endSigns : Cond.code y_Exprs_endSigns b_Exprs_endSigns 4 (Option.none : Option Jvm.ClassFile.FieldType) ∈ ma := ma_of (tb_7 _ (List.mem_of_getElem? (i := 41) rfl)) rfl
theorem k_1436 : (Jvm.Cond.methodLink "MachineLoom$Exprs" (105 : Nat) ({ cls := "MachineLoom$Bits", name := "mask", desc := "(I)J" } : Jvm.MethodName)) ∈ ma := ma_of (tb_6 _ (List.mem_of_getElem? (i := 236) rfl)) rfl
theorem k_104 : (Jvm.Cond.fieldLink "MachineLoom$Exprs" (173 : Nat) "MachineLoom$Tokens" "depth" "I") ∈ ma := ma_of (tb_1 _ (List.mem_of_getElem? (i := 104) rfl)) rfl
theorem d_Exprs_endSigns_0 : decode b_Exprs_endSigns 0 = .ok (.iconst 0, 1) := by decide +kernel
theorem d_Exprs_endSigns_1 : decode b_Exprs_endSigns 1 = .ok (.istore_n 1, 1) := by decide +kernel
theorem d_Exprs_endSigns_2 : decode b_Exprs_endSigns 2 = .ok (.iload_n 1, 1) := by decide +kernel
theorem d_Exprs_endSigns_3 : decode b_Exprs_endSigns 3 = .ok (.bipush 60, 2) := by decide +kernel
theorem d_Exprs_endSigns_5 : decode b_Exprs_endSigns 5 = .ok (.if_icmp .gt (124), 3) := by decide +kernel
theorem d_Exprs_endSigns_8 : decode b_Exprs_endSigns 8 = .ok (.aload_n 0, 1) := by decide +kernel
theorem d_Exprs_endSigns_9 : decode b_Exprs_endSigns 9 = .ok (.getfield 39, 3) := by decide +kernel
theorem d_Exprs_endSigns_12 : decode b_Exprs_endSigns 12 = .ok (.ifCond .le (117), 3) := by decide +kernel
theorem d_Exprs_endSigns_15 : decode b_Exprs_endSigns 15 = .ok (.aload_n 0, 1) := by decide +kernel
theorem d_Exprs_endSigns_16 : decode b_Exprs_endSigns 16 = .ok (.getfield 9, 3) := by decide +kernel
theorem d_Exprs_endSigns_19 : decode b_Exprs_endSigns 19 = .ok (.aload_n 0, 1) := by decide +kernel
theorem d_Exprs_endSigns_20 : decode b_Exprs_endSigns 20 = .ok (.getfield 39, 3) := by decide +kernel
theorem d_Exprs_endSigns_23 : decode b_Exprs_endSigns 23 = .ok (.iconst 1, 1) := by decide +kernel
theorem d_Exprs_endSigns_24 : decode b_Exprs_endSigns 24 = .ok (.isub, 1) := by decide +kernel
theorem d_Exprs_endSigns_25 : decode b_Exprs_endSigns 25 = .ok (.iaload, 1) := by decide +kernel
theorem d_Exprs_endSigns_26 : decode b_Exprs_endSigns 26 = .ok (.istore_n 2, 1) := by decide +kernel
theorem d_Exprs_endSigns_27 : decode b_Exprs_endSigns 27 = .ok (.iload_n 2, 1) := by decide +kernel
theorem d_Exprs_endSigns_28 : decode b_Exprs_endSigns 28 = .ok (.sipush 305, 3) := by decide +kernel
theorem d_Exprs_endSigns_31 : decode b_Exprs_endSigns 31 = .ok (.if_icmp .eq (18), 3) := by decide +kernel
theorem d_Exprs_endSigns_34 : decode b_Exprs_endSigns 34 = .ok (.iload_n 2, 1) := by decide +kernel
theorem d_Exprs_endSigns_35 : decode b_Exprs_endSigns 35 = .ok (.sipush 306, 3) := by decide +kernel
theorem d_Exprs_endSigns_38 : decode b_Exprs_endSigns 38 = .ok (.if_icmp .eq (11), 3) := by decide +kernel
theorem d_Exprs_endSigns_41 : decode b_Exprs_endSigns 41 = .ok (.iload_n 2, 1) := by decide +kernel
theorem d_Exprs_endSigns_42 : decode b_Exprs_endSigns 42 = .ok (.sipush 307, 3) := by decide +kernel
theorem d_Exprs_endSigns_45 : decode b_Exprs_endSigns 45 = .ok (.if_icmp .eq (4), 3) := by decide +kernel
theorem d_Exprs_endSigns_48 : decode b_Exprs_endSigns 48 = .ok (.return_, 1) := by decide +kernel
theorem d_Exprs_endSigns_49 : decode b_Exprs_endSigns 49 = .ok (.aload_n 0, 1) := by decide +kernel
theorem d_Exprs_endSigns_50 : decode b_Exprs_endSigns 50 = .ok (.dup, 1) := by decide +kernel
theorem d_Exprs_endSigns_51 : decode b_Exprs_endSigns 51 = .ok (.getfield 39, 3) := by decide +kernel
theorem d_Exprs_endSigns_54 : decode b_Exprs_endSigns 54 = .ok (.iconst 1, 1) := by decide +kernel
theorem d_Exprs_endSigns_55 : decode b_Exprs_endSigns 55 = .ok (.isub, 1) := by decide +kernel
theorem d_Exprs_endSigns_56 : decode b_Exprs_endSigns 56 = .ok (.putfield 39, 3) := by decide +kernel
theorem d_Exprs_endSigns_59 : decode b_Exprs_endSigns 59 = .ok (.aload_n 0, 1) := by decide +kernel
theorem d_Exprs_endSigns_60 : decode b_Exprs_endSigns 60 = .ok (.getfield 27, 3) := by decide +kernel
theorem d_Exprs_endSigns_63 : decode b_Exprs_endSigns 63 = .ok (.dup, 1) := by decide +kernel
theorem d_Exprs_endSigns_64 : decode b_Exprs_endSigns 64 = .ok (.getfield 173, 3) := by decide +kernel
theorem d_Exprs_endSigns_67 : decode b_Exprs_endSigns 67 = .ok (.iconst 1, 1) := by decide +kernel
theorem d_Exprs_endSigns_68 : decode b_Exprs_endSigns 68 = .ok (.isub, 1) := by decide +kernel
theorem d_Exprs_endSigns_69 : decode b_Exprs_endSigns 69 = .ok (.putfield 173, 3) := by decide +kernel
theorem d_Exprs_endSigns_72 : decode b_Exprs_endSigns 72 = .ok (.aload_n 0, 1) := by decide +kernel
theorem d_Exprs_endSigns_73 : decode b_Exprs_endSigns 73 = .ok (.invokevirtual 164, 3) := by decide +kernel
theorem d_Exprs_endSigns_76 : decode b_Exprs_endSigns 76 = .ok (.istore_n 3, 1) := by decide +kernel
theorem d_Exprs_endSigns_77 : decode b_Exprs_endSigns 77 = .ok (.iload_n 2, 1) := by decide +kernel
theorem d_Exprs_endSigns_78 : decode b_Exprs_endSigns 78 = .ok (.sipush 307, 3) := by decide +kernel
theorem d_Exprs_endSigns_81 : decode b_Exprs_endSigns 81 = .ok (.if_icmp .ne (24), 3) := by decide +kernel
theorem d_Exprs_endSigns_84 : decode b_Exprs_endSigns 84 = .ok (.iload_n 3, 1) := by decide +kernel
theorem d_Exprs_endSigns_85 : decode b_Exprs_endSigns 85 = .ok (.iconst 1, 1) := by decide +kernel
theorem d_Exprs_endSigns_86 : decode b_Exprs_endSigns 86 = .ok (.if_icmp .le (19), 3) := by decide +kernel
theorem d_Exprs_endSigns_89 : decode b_Exprs_endSigns 89 = .ok (.aload_n 0, 1) := by decide +kernel
theorem d_Exprs_endSigns_90 : decode b_Exprs_endSigns 90 = .ok (.aload_n 0, 1) := by decide +kernel
theorem d_Exprs_endSigns_91 : decode b_Exprs_endSigns 91 = .ok (.getfield 15, 3) := by decide +kernel
theorem d_Exprs_endSigns_94 : decode b_Exprs_endSigns 94 = .ok (.aload_n 0, 1) := by decide +kernel
theorem d_Exprs_endSigns_95 : decode b_Exprs_endSigns 95 = .ok (.getfield 39, 3) := by decide +kernel
theorem d_Exprs_endSigns_98 : decode b_Exprs_endSigns 98 = .ok (.iaload, 1) := by decide +kernel
theorem d_Exprs_endSigns_99 : decode b_Exprs_endSigns 99 = .ok (.iconst 4, 1) := by decide +kernel
theorem d_Exprs_endSigns_100 : decode b_Exprs_endSigns 100 = .ok (.invokevirtual 101, 3) := by decide +kernel
theorem d_Exprs_endSigns_103 : decode b_Exprs_endSigns 103 = .ok (.iconst 0, 1) := by decide +kernel
theorem d_Exprs_endSigns_104 : decode b_Exprs_endSigns 104 = .ok (.istore_n 3, 1) := by decide +kernel
theorem d_Exprs_endSigns_105 : decode b_Exprs_endSigns 105 = .ok (.aload_n 0, 1) := by decide +kernel
theorem d_Exprs_endSigns_106 : decode b_Exprs_endSigns 106 = .ok (.getfield 89, 3) := by decide +kernel
theorem d_Exprs_endSigns_109 : decode b_Exprs_endSigns 109 = .ok (.iload_n 2, 1) := by decide +kernel
theorem d_Exprs_endSigns_110 : decode b_Exprs_endSigns 110 = .ok (.iload_n 3, 1) := by decide +kernel
theorem d_Exprs_endSigns_111 : decode b_Exprs_endSigns 111 = .ok (.invokestatic 105, 3) := by decide +kernel
theorem d_Exprs_endSigns_114 : decode b_Exprs_endSigns 114 = .ok (.invokevirtual 93, 3) := by decide +kernel
theorem d_Exprs_endSigns_117 : decode b_Exprs_endSigns 117 = .ok (.pop, 1) := by decide +kernel
theorem d_Exprs_endSigns_118 : decode b_Exprs_endSigns 118 = .ok (.aload_n 0, 1) := by decide +kernel
theorem d_Exprs_endSigns_119 : decode b_Exprs_endSigns 119 = .ok (.iload_n 3, 1) := by decide +kernel
theorem d_Exprs_endSigns_120 : decode b_Exprs_endSigns 120 = .ok (.invokevirtual 102, 3) := by decide +kernel
theorem d_Exprs_endSigns_123 : decode b_Exprs_endSigns 123 = .ok (.iinc 1 (1), 3) := by decide +kernel
theorem d_Exprs_endSigns_126 : decode b_Exprs_endSigns 126 = .ok (.goto (-124), 3) := by decide +kernel
theorem d_Exprs_endSigns_129 : decode b_Exprs_endSigns 129 = .ok (.return_, 1) := by decide +kernel
set_option maxHeartbeats 4000000 in
set_option maxRecDepth 100000 in
theorem c_Exprs_endSigns_a (l : Launch) {dA : FieldType → ClassId} {D : va_G} {al : Nat → Nat} {ext : mv_Sh} {sk sv : Nat → Nat} (hi : mv_inj (mg dA D al ext)) (σ : mv_H) {t len n z sz th sl e0 bs ns : Nat} {BL : (Nat → Nat) → Prop} {f0 : Nat → Int32} {g0 : Nat → Int64} {ms : List Mk} {s0 bd a : Nat} (hB0 : SB 32 σ t len n z sz th sl) (ht2 : t = 1 ∨ t = 144) (hX0 : XM 32 th e0 bs BL f0 g0 ns σ (ms) (sm wt ms + 1) (sm wr ms + 1) (s0)) (hI0 : TI σ sz bd ms s0 a) (hlen : len ≤ 32768) (hbs : bs ≤ 1) : mv_C l y_Exprs_endSigns (Cond.code y_Exprs_endSigns b_Exprs_endSigns 4 (Option.none : Option Jvm.ClassFile.FieldType) :: ma) ({ frames := 2, cells := 0, slots := 0, locals := 44 }) (mg dA D al ext) (mK sk sv) [.ref (al 22)] σ (mv_Rv (fun σ1 => RF 32 σ σ1 ∧ ∃ ms2 s2, XM 32 th e0 bs BL f0 g0 ns σ1 (ms2) (sm wt ms2 + 1) (sm wr ms2 + 1) (s2) ∧ TI σ1 sz bd ms2 s2 a ∧ mv_i σ1 3 7 = mv_i σ 3 7 ∧ mv_i σ1 3 9 = mv_i σ 3 9)) := by
  refine mv_C.ofV (cc := b_Exprs_endSigns) (nL := 4) (ret := (Option.none : Option Jvm.ClassFile.FieldType)) (by decide +kernel) rfl hi (Nat.le_of_ble_eq_true rfl) ?_
  intro p e s m below meth c B hNs hr hnm hno
  have hP : PQ 32 := by unfold PQ; omega
  have hR := hB0.1
  have hF : RF 32 σ σ := RF0
  have hT : mv_i σ 3 = mv_i σ 3 := rfl
  have hsz := hB0.2.1.2.2.2.2.2
  have ha9 := hI0.2.2.2.2.2.1
  have lp : ∀ (nn : Nat) (τ : mv_H) (tt : Int32) (ms : List Mk) (s1 : Nat) (hR : Rw 32 (mv_r τ)) (hF : RF 32 σ τ) (hX : XM 32 th e0 bs BL f0 g0 ns τ (ms) (sm wt ms + 1) (sm wr ms + 1) (s1)) (hI : TI τ sz bd ms s1 a) (h7 : mv_i τ 3 7 = mv_i σ 3 7) (h9 : mv_i τ 3 9 = mv_i σ 3 9) (q0 : 0 ≤ tt.toInt) (q1 : tt.toInt ≤ 61), (61 - tt.toInt).toNat < nn → mv_V p l e ({ frames := 2, cells := 0, slots := 0, locals := 44 }) s m ([.ref (al 22)] : List Value).toArray below meth c (mg dA D al ext) 4 0 0 (mv_Q (mg dA D al ext) below s 0 0 (mv_Rv (fun σ1 => RF 32 σ σ1 ∧ ∃ ms2 s2, XM 32 th e0 bs BL f0 g0 ns σ1 (ms2) (sm wt ms2 + 1) (sm wr ms2 + 1) (s2) ∧ TI σ1 sz bd ms2 s2 a ∧ mv_i σ1 3 7 = mv_i σ 3 7 ∧ mv_i σ1 3 9 = mv_i σ 3 9))) τ 2 [(1, .int tt), (0, .ref (al 22))] [] := by
    intro nn
    induction nn with
    | zero => intro τ tt ms s1 hR hF hX hI h7 h9 q0 q1 hm; exact absurd hm (Nat.not_lt_zero _)
    | succ nn ih =>
      intro τ tt ms s1 hR hF hX hI h7 h9 q0 q1 hm
      have j49 : ∀ (k8 w8 : Int32) (ms2 : List Mk) (hX : XM 32 th e0 bs BL f0 g0 ns τ (((k8, w8) : Mk) :: ms2) (sm wt (((k8, w8) : Mk) :: ms2) + 1) (sm wr (((k8, w8) : Mk) :: ms2) + 1) (s1)) (hI : TI τ sz bd (((k8, w8) : Mk) :: ms2) s1 a) (h5 : ¬ (60 : Int) < tt.toInt) (hu : k8 = 305 ∨ k8 = 306 ∨ k8 = 307), mv_V p l e ({ frames := 2, cells := 0, slots := 0, locals := 44 }) s m ([.ref (al 22)] : List Value).toArray below meth c (mg dA D al ext) 4 0 0 (mv_Q (mg dA D al ext) below s 0 0 (mv_Rv (fun σ1 => RF 32 σ σ1 ∧ ∃ ms2 s2, XM 32 th e0 bs BL f0 g0 ns σ1 (ms2) (sm wt ms2 + 1) (sm wr ms2 + 1) (s2) ∧ TI σ1 sz bd ms2 s2 a ∧ mv_i σ1 3 7 = mv_i σ 3 7 ∧ mv_i σ1 3 9 = mv_i σ 3 9))) τ 49 [(2, .int k8), (1, .int tt), (0, .ref (al 22))] [] := by
        intro k8 w8 ms2 hX hI h5 hu
        obtain ⟨p1, p2, p3, p4⟩ := hX.top
        have pl := hI.len hX
        have pl1 : (((k8, w8) : Mk) :: ms2).length = ms2.length + 1 := rfl
        have t2 : (tt + 1).toInt = tt.toInt + 1 := i32_inc (by omega)
        have s1e : sm wt (((k8, w8) : Mk) :: ms2) = wt (k8, w8) + sm wt ms2 := rfl
        have s2e : sm wr (((k8, w8) : Mk) :: ms2) = wr (k8, w8) + sm wr ms2 := rfl
        have s3e : sm wc (((k8, w8) : Mk) :: ms2) = wc (k8, w8) + sm wc ms2 := rfl
        have s4e : sm wd (((k8, w8) : Mk) :: ms2) = wd (k8, w8) + sm wd ms2 := rfl
        have hI5 := hI.2.2.2.2.1
        have hsz := hB0.2.1.2.2.2.2.2
        have ha9 := hI.2.2.2.2.2.1
        obtain ⟨y1, y2, y3, y4, y5, y6, y7, y8⟩ := un_wt (w := w8) hu
        have j105 : ∀ (υ : mv_H) (wi : Int32) (hR : Rw 32 (mv_r υ)) (hF : RF 32 σ υ) (hX : XM 32 th e0 bs BL f0 g0 ns υ (ms2) (sm wt ms2) (sm wr ms2 + 1) (s1)) (d7 : mv_i υ 3 7 = mv_i τ 3 7) (d8 : mv_i υ 3 8 = mv_i τ 3 8 - 1) (d9 : mv_i υ 3 9 = mv_i τ 3 9), mv_V p l e ({ frames := 2, cells := 0, slots := 0, locals := 44 }) s m ([.ref (al 22)] : List Value).toArray below meth c (mg dA D al ext) 4 0 0 (mv_Q (mg dA D al ext) below s 0 0 (mv_Rv (fun σ1 => RF 32 σ σ1 ∧ ∃ ms2 s2, XM 32 th e0 bs BL f0 g0 ns σ1 (ms2) (sm wt ms2 + 1) (sm wr ms2 + 1) (s2) ∧ TI σ1 sz bd ms2 s2 a ∧ mv_i σ1 3 7 = mv_i σ 3 7 ∧ mv_i σ1 3 9 = mv_i σ 3 9))) υ 105 [(3, .int wi), (2, .int k8), (1, .int tt), (0, .ref (al 22))] [] := by
          intro υ wi hR hF hX d7 d8 d9
          refine mv_aload_n (pc := 105) B d_Exprs_endSigns_105 rfl 3 rfl ?_
          refine mv_getR (pc := 106) (ci := 6) (C := R_Exprs) (T := F_Exprs) (N := 11) B 3 rfl rfl (by decide) i_Exprs (B.2.2.2.1 _ k_197) rfl hR.2.2.2 d_Exprs_endSigns_106 ?_
          refine mv_iload_n (pc := 109) B d_Exprs_endSigns_109 rfl 1 rfl ?_
          refine mv_iload_n (pc := 110) B d_Exprs_endSigns_110 rfl 0 rfl ?_
          refine mv_callSl (pc := 111) (n := 1) B (mK_ok sk sv) hNs (c_Bits_mask l hi _ _) rfl (ma_goodc kc_Bits_mask) (B.2.2.2.1 _ k_1436) (B.2.2.2.1 _ k_1437) (B.2.2.2.1 _ k_33) ⟨by decide +kernel, by decide +kernel, by decide +kernel⟩ rfl d_Exprs_endSigns_111 rfl (Nat.le_of_ble_eq_true rfl) ⟨by decide, by decide⟩ ⟨by decide, by decide⟩ ⟨by decide, by decide⟩ (mv_noH hno _) (fun v111 σ111 h111 => ?_)
          obtain ⟨e111, -⟩ : σ111 = υ ∧ True := ⟨by first | exact h111 | exact h111.1, trivial⟩
          have e111 := e111.symm
          subst e111
          refine mv_callVi (pc := 114) (n := 2) (ci := 7) (C := R_Program) B (mK_ok sk sv) hNs rfl rfl (c_Program_emit_a l hi _ _ _ hR.2.1 (by have := hX.2.1.1; omega) (by have := hX.2.1.1; omega)) rfl (ma_goodc kc_Program_emit) (B.2.2.2.1 _ k_1425) (B.2.2.2.1 _ k_1385) (B.2.2.2.1 _ k_1386) (B.2.2.2.1 _ k_8) ⟨by decide +kernel, by decide +kernel, by decide +kernel⟩ rfl d_Exprs_endSigns_114 rfl (Nat.le_of_ble_eq_true rfl) ⟨by decide, by decide⟩ ⟨by decide, by decide⟩ ⟨by decide, by decide⟩ (mv_noH hno _) (fun v114 σ114 h114 => ?_)
          obtain ⟨e114, -⟩ := h114
          subst e114
          refine mv_gen (fun S117 eS117 => ?_)
          have hR : Rw 32 (mv_r S117) := by rw [eS117]; exact hR
          have hF : RF 32 σ S117 := by rw [eS117]; exact hF.emit _ _
          have hX : XM 32 th e0 bs BL f0 g0 ns S117 (ms2) (sm wt ms2) (sm wr ms2 + 1) (s1 + 1) := by rw [eS117]; exact hX.emit0 hP (by omega) (sm wr ms2 + 1) y7.1 y7.2 (y8 th _ (bs + sm wr ms2)) (by omega)
          have d7 : mv_i S117 3 7 = mv_i τ 3 7 := by rw [eS117]; exact d7
          have d8 : mv_i S117 3 8 = mv_i τ 3 8 - 1 := by rw [eS117]; exact d8
          have d9 : mv_i S117 3 9 = mv_i τ 3 9 := by rw [eS117]; exact d9
          clear eS117
          refine mv_pop (pc := 117) B d_Exprs_endSigns_117 rfl ?_
          refine mv_aload_n (pc := 118) B d_Exprs_endSigns_118 rfl 3 rfl ?_
          refine mv_iload_n (pc := 119) B d_Exprs_endSigns_119 rfl 0 rfl ?_
          refine mv_callVv (pc := 120) (n := 1) (ci := 6) (C := R_Exprs) B (mK_ok sk sv) hNs rfl rfl (c_Exprs_hold l hi _ _ hR.1 (by have := hX.1.2.2.1; omega) (by have := hX.1.2.2.1; omega)) rfl (ma_goodc kc_Exprs_hold) (B.2.2.2.1 _ k_1432) (B.2.2.2.1 _ k_1434) (B.2.2.2.1 _ ks_51) (B.2.2.2.1 _ k_7) ⟨by decide +kernel, by decide +kernel, by decide +kernel⟩ rfl d_Exprs_endSigns_120 rfl (Nat.le_of_ble_eq_true rfl) ⟨by decide, by decide⟩ ⟨by decide, by decide⟩ ⟨by decide, by decide⟩ (mv_noH hno _) (fun σ120 h120 => ?_)
          subst h120
          refine mv_gen (fun S123 eS123 => ?_)
          have hR : Rw 32 (mv_r S123) := by rw [eS123]; exact hR
          have hF : RF 32 σ S123 := by rw [eS123]; exact hF.hold _
          have hX : XM 32 th e0 bs BL f0 g0 ns S123 (ms2) (sm wt ms2 + 1) (sm wr ms2 + 1) (s1 + 1) := by rw [eS123]; exact hX.hold hP (by omega) _
          have d7 : mv_i S123 3 7 = mv_i τ 3 7 := by rw [eS123]; exact d7
          have d8 : mv_i S123 3 8 = mv_i τ 3 8 - 1 := by rw [eS123]; exact d8
          have d9 : mv_i S123 3 9 = mv_i τ 3 9 := by rw [eS123]; exact d9
          have go := ih S123 (tt + 1) ms2 (s1 + 1) hR hF hX (hI.dn d7 d8 d9 (by omega) (by omega) hI.2.2.2.2.2.2.tail) (d7.trans h7) (d9.trans h9) (by omega) (by omega) (by omega)
          clear eS123
          refine mv_iinc (pc := 123) (j := 2) (v := 1) B d_Exprs_endSigns_123 rfl (by decide) (by decide) rfl ?_
          refine mv_goto (pc := 126) (tgt := 2) B d_Exprs_endSigns_126 rfl ?_
          refine mv_lpick [0, 3] rfl ?_
          exact go
        have j49 : mv_V p l e ({ frames := 2, cells := 0, slots := 0, locals := 44 }) s m ([.ref (al 22)] : List Value).toArray below meth c (mg dA D al ext) 4 0 0 (mv_Q (mg dA D al ext) below s 0 0 (mv_Rv (fun σ1 => RF 32 σ σ1 ∧ ∃ ms2 s2, XM 32 th e0 bs BL f0 g0 ns σ1 (ms2) (sm wt ms2 + 1) (sm wr ms2 + 1) (s2) ∧ TI σ1 sz bd ms2 s2 a ∧ mv_i σ1 3 7 = mv_i σ 3 7 ∧ mv_i σ1 3 9 = mv_i σ 3 9))) τ 49 [(2, .int k8), (1, .int tt), (0, .ref (al 22))] [] := by
          refine mv_aload_n (pc := 49) B d_Exprs_endSigns_49 rfl 2 rfl ?_
          refine mv_dup (pc := 50) B d_Exprs_endSigns_50 rfl ?_
          refine mv_getI (pc := 51) (ci := 6) (C := R_Exprs) (T := F_Exprs) (N := 11) B 8 rfl rfl (by decide) i_Exprs (B.2.2.2.1 _ k_202) rfl d_Exprs_endSigns_51 ?_
          refine mv_iconst (pc := 54) (v := 1) B d_Exprs_endSigns_54 (by decide) ?_
          refine mv_isub (pc := 55) B d_Exprs_endSigns_55 ?_
          refine mv_putI (pc := 56) (ci := 6) (C := R_Exprs) (T := F_Exprs) (N := 11) B 8 rfl rfl (by decide) i_Exprs t_Exprs_ok n_Exprs (B.2.2.2.1 _ k_202) rfl rfl rfl rfl d_Exprs_endSigns_56 ?_
          refine mv_aload_n (pc := 59) B d_Exprs_endSigns_59 rfl 2 rfl ?_
          refine mv_getR (pc := 60) (ci := 6) (C := R_Exprs) (T := F_Exprs) (N := 11) B 0 rfl rfl (by decide) i_Exprs (B.2.2.2.1 _ k_193) rfl (hR.1 _ 0 _ rfl) d_Exprs_endSigns_60 ?_
          refine mv_dup (pc := 63) B d_Exprs_endSigns_63 rfl ?_
          refine mv_getI (pc := 64) (ci := 2) (C := R_Tokens) (T := F_Tokens) (N := 10) B 8 rfl rfl (by decide) i_Tokens (B.2.2.2.1 _ k_104) rfl d_Exprs_endSigns_64 ?_
          refine mv_iconst (pc := 67) (v := 1) B d_Exprs_endSigns_67 (by decide) ?_
          refine mv_isub (pc := 68) B d_Exprs_endSigns_68 ?_
          refine mv_putI (pc := 69) (ci := 2) (C := R_Tokens) (T := F_Tokens) (N := 10) B 8 rfl rfl (by decide) i_Tokens t_Tokens_ok n_Tokens (B.2.2.2.1 _ k_104) rfl rfl rfl rfl d_Exprs_endSigns_69 ?_
          refine mv_gen (fun S72 eS72 => ?_)
          have hR : Rw 32 (mv_r S72) := by rw [eS72]; exact hR
          have hF : RF 32 σ S72 := by rw [eS72]; exact hF.pop.c3 ⟨by omega, by omega⟩ _
          have hX : XM 32 th e0 bs BL f0 g0 ns S72 (ms2) (sm wt ms2 + 1) (sm wr ms2 + 1) (s1) := by
            rw [eS72]
            have := (hX.pop hP ⟨y5, y6⟩).c3 hP 8 (mv_i τ 3 8 - 1)
            rw [s1e, s2e, y1, y2, Nat.zero_add, Nat.zero_add] at this
            exact this
          have d7 : mv_i S72 3 7 = mv_i τ 3 7 := by rw [eS72]; rfl
          have d8 : mv_i S72 3 8 = mv_i τ 3 8 - 1 := by rw [eS72]; rfl
          have d9 : mv_i S72 3 9 = mv_i τ 3 9 := by rw [eS72]; rfl
          clear eS72
          refine mv_aload_n (pc := 72) B d_Exprs_endSigns_72 rfl 2 rfl ?_
          refine mv_callVi (pc := 73) (n := 0) (ci := 6) (C := R_Exprs) B (mK_ok sk sv) hNs rfl rfl (c_Exprs_release l hi _ hR.1 (by have := hX.1.2.2.1; omega) (by have := hX.1.2.2.1; omega)) rfl (ma_goodc kc_Exprs_release) (B.2.2.2.1 _ k_1469) (B.2.2.2.1 _ k_1470) (B.2.2.2.1 _ k_1471) (B.2.2.2.1 _ k_7) ⟨by decide +kernel, by decide +kernel, by decide +kernel⟩ rfl d_Exprs_endSigns_73 rfl (Nat.le_of_ble_eq_true rfl) ⟨by decide, by decide⟩ ⟨by decide, by decide⟩ ⟨by decide, by decide⟩ (mv_noH hno _) (fun v73 σ73 h73 => ?_)
          subst h73
          refine mv_gen (fun S76 eS76 => ?_)
          have hR : Rw 32 (mv_r S76) := by rw [eS76]; exact hR
          have hF : RF 32 σ S76 := by rw [eS76]; exact hF.rel
          have hX : XM 32 th e0 bs BL f0 g0 ns S76 (ms2) (sm wt ms2) (sm wr ms2 + 1) (s1) := by rw [eS76]; exact hX.rel hP
          have d7 : mv_i S76 3 7 = mv_i τ 3 7 := by rw [eS76]; exact d7
          have d8 : mv_i S76 3 8 = mv_i τ 3 8 - 1 := by rw [eS76]; exact d8
          have d9 : mv_i S76 3 9 = mv_i τ 3 9 := by rw [eS76]; exact d9
          have hk76 := hX.tok (i := (mv_i S76 22 8).toNatClampNeg) (by have := hX.n; omega)
          clear eS76
          refine mv_istore_n (pc := 76) B d_Exprs_endSigns_76 rfl (by decide) rfl ?_
          refine mv_iload_n (pc := 77) B d_Exprs_endSigns_77 rfl 1 rfl ?_
          refine mv_sipush (pc := 78) (v := 307) B d_Exprs_endSigns_78 (by decide) ?_
          refine mv_icmp_ne (pc := 81) (tgt := 105) B d_Exprs_endSigns_81 rfl (fun h81 => ?_) (fun h81 => ?_)
          · skip
            refine mv_lpick [0, 1, 2, 3] rfl ?_
            exact j105 _ _ hR hF hX d7 d8 d9
          · skip
            refine mv_iload_n (pc := 84) B d_Exprs_endSigns_84 rfl 0 rfl ?_
            refine mv_iconst (pc := 85) (v := 1) B d_Exprs_endSigns_85 (by decide) ?_
            refine mv_icmp_le (pc := 86) (tgt := 105) B d_Exprs_endSigns_86 rfl (fun h86 => ?_) (fun h86 => ?_)
            · skip
              refine mv_lpick [0, 1, 2, 3] rfl ?_
              exact j105 _ _ hR hF hX d7 d8 d9
            · skip
              refine mv_aload_n (pc := 89) B d_Exprs_endSigns_89 rfl 3 rfl ?_
              refine mv_aload_n (pc := 90) B d_Exprs_endSigns_90 rfl 3 rfl ?_
              refine mv_getR (pc := 91) (ci := 6) (C := R_Exprs) (T := F_Exprs) (N := 11) B 5 rfl rfl (by decide) i_Exprs (B.2.2.2.1 _ k_199) rfl (hR.1 _ 5 _ rfl) d_Exprs_endSigns_91 ?_
              refine mv_aload_n (pc := 94) B d_Exprs_endSigns_94 rfl 3 rfl ?_
              refine mv_getI (pc := 95) (ci := 6) (C := R_Exprs) (T := F_Exprs) (N := 11) B 8 rfl rfl (by decide) i_Exprs (B.2.2.2.1 _ k_202) rfl d_Exprs_endSigns_95 ?_
              refine mv_iald (pc := 98) B rfl (i32_in (show 0 ≤ (mv_i S76 22 8).toInt by have := hX.1.1; omega) (show (mv_i S76 22 8).toInt < 1024 by have := hX.1.1; omega)) d_Exprs_endSigns_98 ?_
              refine mv_iconst (pc := 99) (v := 4) B d_Exprs_endSigns_99 (by decide) ?_
              refine mv_callVv (pc := 100) (n := 2) (ci := 6) (C := R_Exprs) B (mK_ok sk sv) hNs rfl rfl (c_Exprs_tell l hi _ _ _ hR.1 hk76.1 hk76.2 (by decide)) rfl (ma_goodc kc_Exprs_tell) (B.2.2.2.1 _ k_1427) (B.2.2.2.1 _ k_1429) (B.2.2.2.1 _ ks_50) (B.2.2.2.1 _ k_7) ⟨by decide +kernel, by decide +kernel, by decide +kernel⟩ rfl d_Exprs_endSigns_100 rfl (Nat.le_of_ble_eq_true rfl) ⟨by decide, by decide⟩ ⟨by decide, by decide⟩ ⟨by decide, by decide⟩ (mv_noH hno _) (fun σ100 h100 => ?_)
              obtain ⟨x9, y9, e100, z100⟩ := h100
              subst e100
              refine mv_gen (fun S103 eS103 => ?_)
              have hR : Rw 32 (mv_r S103) := by rw [eS103]; exact hR
              have hF : RF 32 σ S103 := by rw [eS103]; exact hF.tell _ _
              have hX : XM 32 th e0 bs BL f0 g0 ns S103 (ms2) (sm wt ms2) (sm wr ms2 + 1) (s1) := by rw [eS103]; exact hX.tell hP z100 _ _
              have d7 : mv_i S103 3 7 = mv_i τ 3 7 := by rw [eS103]; exact d7
              have d8 : mv_i S103 3 8 = mv_i τ 3 8 - 1 := by rw [eS103]; exact d8
              have d9 : mv_i S103 3 9 = mv_i τ 3 9 := by rw [eS103]; exact d9
              clear eS103
              refine mv_iconst (pc := 103) (v := 0) B d_Exprs_endSigns_103 (by decide) ?_
              refine mv_istore_n (pc := 104) B d_Exprs_endSigns_104 rfl (by decide) rfl ?_
              refine mv_lpick [0, 1, 2, 3] rfl ?_
              exact j105 _ _ hR hF hX d7 d8 d9
        exact j49
      refine mv_iload_n (pc := 2) B d_Exprs_endSigns_2 rfl 0 rfl ?_
      refine mv_bipush (pc := 3) (v := 60) B d_Exprs_endSigns_3 (by decide) ?_
      refine mv_icmp_gt (pc := 5) (tgt := 129) B d_Exprs_endSigns_5 rfl (fun h5 => ?_) (fun h5 => ?_)
      · skip
        exact mv_vret (pc := 129) B hr d_Exprs_endSigns_129 (Nat.le_refl _) (Nat.le_refl _) ⟨rfl, hF, _, _, hX, hI, h7, h9⟩
      · skip
        rw [Int32.lt_iff_toInt_lt] at h5
        have h5 : ¬ (60 : Int) < tt.toInt := h5
        refine mv_aload_n (pc := 8) B d_Exprs_endSigns_8 rfl 1 rfl ?_
        refine mv_getI (pc := 9) (ci := 6) (C := R_Exprs) (T := F_Exprs) (N := 11) B 8 rfl rfl (by decide) i_Exprs (B.2.2.2.1 _ k_202) rfl d_Exprs_endSigns_9 ?_
        refine mv_if_le (pc := 12) (tgt := 129) B d_Exprs_endSigns_12 rfl (fun h12 => ?_) (fun h12 => ?_)
        · skip
          exact mv_vret (pc := 129) B hr d_Exprs_endSigns_129 (Nat.le_refl _) (Nat.le_refl _) ⟨rfl, hF, _, _, hX, hI, h7, h9⟩
        · skip
          rw [Int32.le_iff_toInt_le] at h12
          simp only [Int32.reduceToInt] at h12
          obtain ⟨k8, w8, ms2, ems⟩ := hX.ne (by omega)
          subst ems
          obtain ⟨p1, p2, p3, p4⟩ := hX.top
          have pl := hI.len hX
          have pl1 : (((k8, w8) : Mk) :: ms2).length = ms2.length + 1 := rfl
          have t2 : (tt + 1).toInt = tt.toInt + 1 := i32_inc (by omega)
          have s1e : sm wt (((k8, w8) : Mk) :: ms2) = wt (k8, w8) + sm wt ms2 := rfl
          have s2e : sm wr (((k8, w8) : Mk) :: ms2) = wr (k8, w8) + sm wr ms2 := rfl
          have s3e : sm wc (((k8, w8) : Mk) :: ms2) = wc (k8, w8) + sm wc ms2 := rfl
          have s4e : sm wd (((k8, w8) : Mk) :: ms2) = wd (k8, w8) + sm wd ms2 := rfl
          have hI5 := hI.2.2.2.2.1
          have hsz := hB0.2.1.2.2.2.2.2
          have ha9 := hI.2.2.2.2.2.1
          refine mv_aload_n (pc := 15) B d_Exprs_endSigns_15 rfl 1 rfl ?_
          refine mv_getR (pc := 16) (ci := 6) (C := R_Exprs) (T := F_Exprs) (N := 11) B 4 rfl rfl (by decide) i_Exprs (B.2.2.2.1 _ k_198) rfl (hR.1 _ 4 _ rfl) d_Exprs_endSigns_16 ?_
          refine mv_aload_n (pc := 19) B d_Exprs_endSigns_19 rfl 1 rfl ?_
          refine mv_getI (pc := 20) (ci := 6) (C := R_Exprs) (T := F_Exprs) (N := 11) B 8 rfl rfl (by decide) i_Exprs (B.2.2.2.1 _ k_202) rfl d_Exprs_endSigns_20 ?_
          refine mv_iconst (pc := 23) (v := 1) B d_Exprs_endSigns_23 (by decide) ?_
          refine mv_isub (pc := 24) B d_Exprs_endSigns_24 ?_
          refine mv_iald (pc := 25) B rfl (i32_in (by omega) (by omega)) d_Exprs_endSigns_25 ?_
          rw [p3]
          refine mv_istore_n (pc := 26) B d_Exprs_endSigns_26 rfl (by decide) rfl ?_
          refine mv_iload_n (pc := 27) B d_Exprs_endSigns_27 rfl 0 rfl ?_
          refine mv_sipush (pc := 28) (v := 305) B d_Exprs_endSigns_28 (by decide) ?_
          refine mv_icmp_eq (pc := 31) (tgt := 49) B d_Exprs_endSigns_31 rfl (fun h31 => ?_) (fun h31 => ?_)
          · skip
            have hu : k8 = 305 ∨ k8 = 306 ∨ k8 = 307 := Or.inl h31
            refine mv_lpick [0, 1, 2] rfl ?_
            exact j49 _ _ _ hX hI h5 hu
          · skip
            refine mv_iload_n (pc := 34) B d_Exprs_endSigns_34 rfl 0 rfl ?_
            refine mv_sipush (pc := 35) (v := 306) B d_Exprs_endSigns_35 (by decide) ?_
            refine mv_icmp_eq (pc := 38) (tgt := 49) B d_Exprs_endSigns_38 rfl (fun h38 => ?_) (fun h38 => ?_)
            · skip
              have hu : k8 = 305 ∨ k8 = 306 ∨ k8 = 307 := Or.inr (Or.inl h38)
              refine mv_lpick [0, 1, 2] rfl ?_
              exact j49 _ _ _ hX hI h5 hu
            · skip
              refine mv_iload_n (pc := 41) B d_Exprs_endSigns_41 rfl 0 rfl ?_
              refine mv_sipush (pc := 42) (v := 307) B d_Exprs_endSigns_42 (by decide) ?_
              refine mv_icmp_eq (pc := 45) (tgt := 49) B d_Exprs_endSigns_45 rfl (fun h45 => ?_) (fun h45 => ?_)
              · skip
                have hu : k8 = 305 ∨ k8 = 306 ∨ k8 = 307 := Or.inr (Or.inr h45)
                refine mv_lpick [0, 1, 2] rfl ?_
                exact j49 _ _ _ hX hI h5 hu
              · skip
                exact mv_vret (pc := 48) B hr d_Exprs_endSigns_48 (Nat.le_refl _) (Nat.le_refl _) ⟨rfl, hF, _, _, hX, hI, h7, h9⟩
  refine mv_iconst (pc := 0) (v := 0) B d_Exprs_endSigns_0 (by decide) ?_
  refine mv_istore_n (pc := 1) B d_Exprs_endSigns_1 rfl (by decide) rfl ?_
  refine mv_lpick [0, 1] rfl ?_
  exact lp _ _ _ ms s0 hR hF hX0 hI0 rfl rfl (by decide) (by decide) (Nat.lt_succ_self _)
set_option maxHeartbeats 4000000 in
set_option maxRecDepth 100000 in
theorem c_Exprs_endSigns_b (l : Launch) {dA : FieldType → ClassId} {D : va_G} {al : Nat → Nat} {ext : mv_Sh} {sk sv : Nat → Nat} (hi : mv_inj (mg dA D al ext)) (σ : mv_H) {t len n z sz th sl e0 bs ns : Nat} {BL : (Nat → Nat) → Prop} {f0 : Nat → Int32} {g0 : Nat → Int64} {ms : List Mk} {s0 bd a : Nat} (hB0 : SB 48 σ t len n z sz th sl) (ht2 : t = 1 ∨ t = 144) (hX0 : XM 48 th e0 bs BL f0 g0 ns σ (ms) (sm wt ms + 1) (sm wr ms + 1) (s0)) (hI0 : TI σ sz bd ms s0 a) (hlen : len ≤ 32768) (hbs : bs ≤ 1) : mv_C l y_Exprs_endSigns (Cond.code y_Exprs_endSigns b_Exprs_endSigns 4 (Option.none : Option Jvm.ClassFile.FieldType) :: ma) ({ frames := 2, cells := 0, slots := 0, locals := 44 }) (mg dA D al ext) (mK sk sv) [.ref (al 22)] σ (mv_Rv (fun σ1 => RF 48 σ σ1 ∧ ∃ ms2 s2, XM 48 th e0 bs BL f0 g0 ns σ1 (ms2) (sm wt ms2 + 1) (sm wr ms2 + 1) (s2) ∧ TI σ1 sz bd ms2 s2 a ∧ mv_i σ1 3 7 = mv_i σ 3 7 ∧ mv_i σ1 3 9 = mv_i σ 3 9)) := by
  refine mv_C.ofV (cc := b_Exprs_endSigns) (nL := 4) (ret := (Option.none : Option Jvm.ClassFile.FieldType)) (by decide +kernel) rfl hi (Nat.le_of_ble_eq_true rfl) ?_
  intro p e s m below meth c B hNs hr hnm hno
  have hP : PQ 48 := by unfold PQ; omega
  have hR := hB0.1
  have hF : RF 48 σ σ := RF0
  have hT : mv_i σ 3 = mv_i σ 3 := rfl
  have hsz := hB0.2.1.2.2.2.2.2
  have ha9 := hI0.2.2.2.2.2.1
  have lp : ∀ (nn : Nat) (τ : mv_H) (tt : Int32) (ms : List Mk) (s1 : Nat) (hR : Rw 48 (mv_r τ)) (hF : RF 48 σ τ) (hX : XM 48 th e0 bs BL f0 g0 ns τ (ms) (sm wt ms + 1) (sm wr ms + 1) (s1)) (hI : TI τ sz bd ms s1 a) (h7 : mv_i τ 3 7 = mv_i σ 3 7) (h9 : mv_i τ 3 9 = mv_i σ 3 9) (q0 : 0 ≤ tt.toInt) (q1 : tt.toInt ≤ 61), (61 - tt.toInt).toNat < nn → mv_V p l e ({ frames := 2, cells := 0, slots := 0, locals := 44 }) s m ([.ref (al 22)] : List Value).toArray below meth c (mg dA D al ext) 4 0 0 (mv_Q (mg dA D al ext) below s 0 0 (mv_Rv (fun σ1 => RF 48 σ σ1 ∧ ∃ ms2 s2, XM 48 th e0 bs BL f0 g0 ns σ1 (ms2) (sm wt ms2 + 1) (sm wr ms2 + 1) (s2) ∧ TI σ1 sz bd ms2 s2 a ∧ mv_i σ1 3 7 = mv_i σ 3 7 ∧ mv_i σ1 3 9 = mv_i σ 3 9))) τ 2 [(1, .int tt), (0, .ref (al 22))] [] := by
    intro nn
    induction nn with
    | zero => intro τ tt ms s1 hR hF hX hI h7 h9 q0 q1 hm; exact absurd hm (Nat.not_lt_zero _)
    | succ nn ih =>
      intro τ tt ms s1 hR hF hX hI h7 h9 q0 q1 hm
      have j49 : ∀ (k8 w8 : Int32) (ms2 : List Mk) (hX : XM 48 th e0 bs BL f0 g0 ns τ (((k8, w8) : Mk) :: ms2) (sm wt (((k8, w8) : Mk) :: ms2) + 1) (sm wr (((k8, w8) : Mk) :: ms2) + 1) (s1)) (hI : TI τ sz bd (((k8, w8) : Mk) :: ms2) s1 a) (h5 : ¬ (60 : Int) < tt.toInt) (hu : k8 = 305 ∨ k8 = 306 ∨ k8 = 307), mv_V p l e ({ frames := 2, cells := 0, slots := 0, locals := 44 }) s m ([.ref (al 22)] : List Value).toArray below meth c (mg dA D al ext) 4 0 0 (mv_Q (mg dA D al ext) below s 0 0 (mv_Rv (fun σ1 => RF 48 σ σ1 ∧ ∃ ms2 s2, XM 48 th e0 bs BL f0 g0 ns σ1 (ms2) (sm wt ms2 + 1) (sm wr ms2 + 1) (s2) ∧ TI σ1 sz bd ms2 s2 a ∧ mv_i σ1 3 7 = mv_i σ 3 7 ∧ mv_i σ1 3 9 = mv_i σ 3 9))) τ 49 [(2, .int k8), (1, .int tt), (0, .ref (al 22))] [] := by
        intro k8 w8 ms2 hX hI h5 hu
        obtain ⟨p1, p2, p3, p4⟩ := hX.top
        have pl := hI.len hX
        have pl1 : (((k8, w8) : Mk) :: ms2).length = ms2.length + 1 := rfl
        have t2 : (tt + 1).toInt = tt.toInt + 1 := i32_inc (by omega)
        have s1e : sm wt (((k8, w8) : Mk) :: ms2) = wt (k8, w8) + sm wt ms2 := rfl
        have s2e : sm wr (((k8, w8) : Mk) :: ms2) = wr (k8, w8) + sm wr ms2 := rfl
        have s3e : sm wc (((k8, w8) : Mk) :: ms2) = wc (k8, w8) + sm wc ms2 := rfl
        have s4e : sm wd (((k8, w8) : Mk) :: ms2) = wd (k8, w8) + sm wd ms2 := rfl
        have hI5 := hI.2.2.2.2.1
        have hsz := hB0.2.1.2.2.2.2.2
        have ha9 := hI.2.2.2.2.2.1
        obtain ⟨y1, y2, y3, y4, y5, y6, y7, y8⟩ := un_wt (w := w8) hu
        have j105 : ∀ (υ : mv_H) (wi : Int32) (hR : Rw 48 (mv_r υ)) (hF : RF 48 σ υ) (hX : XM 48 th e0 bs BL f0 g0 ns υ (ms2) (sm wt ms2) (sm wr ms2 + 1) (s1)) (d7 : mv_i υ 3 7 = mv_i τ 3 7) (d8 : mv_i υ 3 8 = mv_i τ 3 8 - 1) (d9 : mv_i υ 3 9 = mv_i τ 3 9), mv_V p l e ({ frames := 2, cells := 0, slots := 0, locals := 44 }) s m ([.ref (al 22)] : List Value).toArray below meth c (mg dA D al ext) 4 0 0 (mv_Q (mg dA D al ext) below s 0 0 (mv_Rv (fun σ1 => RF 48 σ σ1 ∧ ∃ ms2 s2, XM 48 th e0 bs BL f0 g0 ns σ1 (ms2) (sm wt ms2 + 1) (sm wr ms2 + 1) (s2) ∧ TI σ1 sz bd ms2 s2 a ∧ mv_i σ1 3 7 = mv_i σ 3 7 ∧ mv_i σ1 3 9 = mv_i σ 3 9))) υ 105 [(3, .int wi), (2, .int k8), (1, .int tt), (0, .ref (al 22))] [] := by
          intro υ wi hR hF hX d7 d8 d9
          refine mv_aload_n (pc := 105) B d_Exprs_endSigns_105 rfl 3 rfl ?_
          refine mv_getR (pc := 106) (ci := 6) (C := R_Exprs) (T := F_Exprs) (N := 11) B 3 rfl rfl (by decide) i_Exprs (B.2.2.2.1 _ k_197) rfl hR.2.2.2 d_Exprs_endSigns_106 ?_
          refine mv_iload_n (pc := 109) B d_Exprs_endSigns_109 rfl 1 rfl ?_
          refine mv_iload_n (pc := 110) B d_Exprs_endSigns_110 rfl 0 rfl ?_
          refine mv_callSl (pc := 111) (n := 1) B (mK_ok sk sv) hNs (c_Bits_mask l hi _ _) rfl (ma_goodc kc_Bits_mask) (B.2.2.2.1 _ k_1436) (B.2.2.2.1 _ k_1437) (B.2.2.2.1 _ k_33) ⟨by decide +kernel, by decide +kernel, by decide +kernel⟩ rfl d_Exprs_endSigns_111 rfl (Nat.le_of_ble_eq_true rfl) ⟨by decide, by decide⟩ ⟨by decide, by decide⟩ ⟨by decide, by decide⟩ (mv_noH hno _) (fun v111 σ111 h111 => ?_)
          obtain ⟨e111, -⟩ : σ111 = υ ∧ True := ⟨by first | exact h111 | exact h111.1, trivial⟩
          have e111 := e111.symm
          subst e111
          refine mv_callVi (pc := 114) (n := 2) (ci := 7) (C := R_Program) B (mK_ok sk sv) hNs rfl rfl (c_Program_emit_b l hi _ _ _ hR.2.1 (by have := hX.2.1.1; omega) (by have := hX.2.1.1; omega)) rfl (ma_goodc kc_Program_emit) (B.2.2.2.1 _ k_1425) (B.2.2.2.1 _ k_1385) (B.2.2.2.1 _ k_1386) (B.2.2.2.1 _ k_8) ⟨by decide +kernel, by decide +kernel, by decide +kernel⟩ rfl d_Exprs_endSigns_114 rfl (Nat.le_of_ble_eq_true rfl) ⟨by decide, by decide⟩ ⟨by decide, by decide⟩ ⟨by decide, by decide⟩ (mv_noH hno _) (fun v114 σ114 h114 => ?_)
          obtain ⟨e114, -⟩ := h114
          subst e114
          refine mv_gen (fun S117 eS117 => ?_)
          have hR : Rw 48 (mv_r S117) := by rw [eS117]; exact hR
          have hF : RF 48 σ S117 := by rw [eS117]; exact hF.emit _ _
          have hX : XM 48 th e0 bs BL f0 g0 ns S117 (ms2) (sm wt ms2) (sm wr ms2 + 1) (s1 + 1) := by rw [eS117]; exact hX.emit0 hP (by omega) (sm wr ms2 + 1) y7.1 y7.2 (y8 th _ (bs + sm wr ms2)) (by omega)
          have d7 : mv_i S117 3 7 = mv_i τ 3 7 := by rw [eS117]; exact d7
          have d8 : mv_i S117 3 8 = mv_i τ 3 8 - 1 := by rw [eS117]; exact d8
          have d9 : mv_i S117 3 9 = mv_i τ 3 9 := by rw [eS117]; exact d9
          clear eS117
          refine mv_pop (pc := 117) B d_Exprs_endSigns_117 rfl ?_
          refine mv_aload_n (pc := 118) B d_Exprs_endSigns_118 rfl 3 rfl ?_
          refine mv_iload_n (pc := 119) B d_Exprs_endSigns_119 rfl 0 rfl ?_
          refine mv_callVv (pc := 120) (n := 1) (ci := 6) (C := R_Exprs) B (mK_ok sk sv) hNs rfl rfl (c_Exprs_hold l hi _ _ hR.1 (by have := hX.1.2.2.1; omega) (by have := hX.1.2.2.1; omega)) rfl (ma_goodc kc_Exprs_hold) (B.2.2.2.1 _ k_1432) (B.2.2.2.1 _ k_1434) (B.2.2.2.1 _ ks_51) (B.2.2.2.1 _ k_7) ⟨by decide +kernel, by decide +kernel, by decide +kernel⟩ rfl d_Exprs_endSigns_120 rfl (Nat.le_of_ble_eq_true rfl) ⟨by decide, by decide⟩ ⟨by decide, by decide⟩ ⟨by decide, by decide⟩ (mv_noH hno _) (fun σ120 h120 => ?_)
          subst h120
          refine mv_gen (fun S123 eS123 => ?_)
          have hR : Rw 48 (mv_r S123) := by rw [eS123]; exact hR
          have hF : RF 48 σ S123 := by rw [eS123]; exact hF.hold _
          have hX : XM 48 th e0 bs BL f0 g0 ns S123 (ms2) (sm wt ms2 + 1) (sm wr ms2 + 1) (s1 + 1) := by rw [eS123]; exact hX.hold hP (by omega) _
          have d7 : mv_i S123 3 7 = mv_i τ 3 7 := by rw [eS123]; exact d7
          have d8 : mv_i S123 3 8 = mv_i τ 3 8 - 1 := by rw [eS123]; exact d8
          have d9 : mv_i S123 3 9 = mv_i τ 3 9 := by rw [eS123]; exact d9
          have go := ih S123 (tt + 1) ms2 (s1 + 1) hR hF hX (hI.dn d7 d8 d9 (by omega) (by omega) hI.2.2.2.2.2.2.tail) (d7.trans h7) (d9.trans h9) (by omega) (by omega) (by omega)
          clear eS123
          refine mv_iinc (pc := 123) (j := 2) (v := 1) B d_Exprs_endSigns_123 rfl (by decide) (by decide) rfl ?_
          refine mv_goto (pc := 126) (tgt := 2) B d_Exprs_endSigns_126 rfl ?_
          refine mv_lpick [0, 3] rfl ?_
          exact go
        have j49 : mv_V p l e ({ frames := 2, cells := 0, slots := 0, locals := 44 }) s m ([.ref (al 22)] : List Value).toArray below meth c (mg dA D al ext) 4 0 0 (mv_Q (mg dA D al ext) below s 0 0 (mv_Rv (fun σ1 => RF 48 σ σ1 ∧ ∃ ms2 s2, XM 48 th e0 bs BL f0 g0 ns σ1 (ms2) (sm wt ms2 + 1) (sm wr ms2 + 1) (s2) ∧ TI σ1 sz bd ms2 s2 a ∧ mv_i σ1 3 7 = mv_i σ 3 7 ∧ mv_i σ1 3 9 = mv_i σ 3 9))) τ 49 [(2, .int k8), (1, .int tt), (0, .ref (al 22))] [] := by
          refine mv_aload_n (pc := 49) B d_Exprs_endSigns_49 rfl 2 rfl ?_
          refine mv_dup (pc := 50) B d_Exprs_endSigns_50 rfl ?_
          refine mv_getI (pc := 51) (ci := 6) (C := R_Exprs) (T := F_Exprs) (N := 11) B 8 rfl rfl (by decide) i_Exprs (B.2.2.2.1 _ k_202) rfl d_Exprs_endSigns_51 ?_
          refine mv_iconst (pc := 54) (v := 1) B d_Exprs_endSigns_54 (by decide) ?_
          refine mv_isub (pc := 55) B d_Exprs_endSigns_55 ?_
          refine mv_putI (pc := 56) (ci := 6) (C := R_Exprs) (T := F_Exprs) (N := 11) B 8 rfl rfl (by decide) i_Exprs t_Exprs_ok n_Exprs (B.2.2.2.1 _ k_202) rfl rfl rfl rfl d_Exprs_endSigns_56 ?_
          refine mv_aload_n (pc := 59) B d_Exprs_endSigns_59 rfl 2 rfl ?_
          refine mv_getR (pc := 60) (ci := 6) (C := R_Exprs) (T := F_Exprs) (N := 11) B 0 rfl rfl (by decide) i_Exprs (B.2.2.2.1 _ k_193) rfl (hR.1 _ 0 _ rfl) d_Exprs_endSigns_60 ?_
          refine mv_dup (pc := 63) B d_Exprs_endSigns_63 rfl ?_
          refine mv_getI (pc := 64) (ci := 2) (C := R_Tokens) (T := F_Tokens) (N := 10) B 8 rfl rfl (by decide) i_Tokens (B.2.2.2.1 _ k_104) rfl d_Exprs_endSigns_64 ?_
          refine mv_iconst (pc := 67) (v := 1) B d_Exprs_endSigns_67 (by decide) ?_
          refine mv_isub (pc := 68) B d_Exprs_endSigns_68 ?_
          refine mv_putI (pc := 69) (ci := 2) (C := R_Tokens) (T := F_Tokens) (N := 10) B 8 rfl rfl (by decide) i_Tokens t_Tokens_ok n_Tokens (B.2.2.2.1 _ k_104) rfl rfl rfl rfl d_Exprs_endSigns_69 ?_
          refine mv_gen (fun S72 eS72 => ?_)
          have hR : Rw 48 (mv_r S72) := by rw [eS72]; exact hR
          have hF : RF 48 σ S72 := by rw [eS72]; exact hF.pop.c3 ⟨by omega, by omega⟩ _
          have hX : XM 48 th e0 bs BL f0 g0 ns S72 (ms2) (sm wt ms2 + 1) (sm wr ms2 + 1) (s1) := by
            rw [eS72]
            have := (hX.pop hP ⟨y5, y6⟩).c3 hP 8 (mv_i τ 3 8 - 1)
            rw [s1e, s2e, y1, y2, Nat.zero_add, Nat.zero_add] at this
            exact this
          have d7 : mv_i S72 3 7 = mv_i τ 3 7 := by rw [eS72]; rfl
          have d8 : mv_i S72 3 8 = mv_i τ 3 8 - 1 := by rw [eS72]; rfl
          have d9 : mv_i S72 3 9 = mv_i τ 3 9 := by rw [eS72]; rfl
          clear eS72
          refine mv_aload_n (pc := 72) B d_Exprs_endSigns_72 rfl 2 rfl ?_
          refine mv_callVi (pc := 73) (n := 0) (ci := 6) (C := R_Exprs) B (mK_ok sk sv) hNs rfl rfl (c_Exprs_release l hi _ hR.1 (by have := hX.1.2.2.1; omega) (by have := hX.1.2.2.1; omega)) rfl (ma_goodc kc_Exprs_release) (B.2.2.2.1 _ k_1469) (B.2.2.2.1 _ k_1470) (B.2.2.2.1 _ k_1471) (B.2.2.2.1 _ k_7) ⟨by decide +kernel, by decide +kernel, by decide +kernel⟩ rfl d_Exprs_endSigns_73 rfl (Nat.le_of_ble_eq_true rfl) ⟨by decide, by decide⟩ ⟨by decide, by decide⟩ ⟨by decide, by decide⟩ (mv_noH hno _) (fun v73 σ73 h73 => ?_)
          subst h73
          refine mv_gen (fun S76 eS76 => ?_)
          have hR : Rw 48 (mv_r S76) := by rw [eS76]; exact hR
          have hF : RF 48 σ S76 := by rw [eS76]; exact hF.rel
          have hX : XM 48 th e0 bs BL f0 g0 ns S76 (ms2) (sm wt ms2) (sm wr ms2 + 1) (s1) := by rw [eS76]; exact hX.rel hP
          have d7 : mv_i S76 3 7 = mv_i τ 3 7 := by rw [eS76]; exact d7
          have d8 : mv_i S76 3 8 = mv_i τ 3 8 - 1 := by rw [eS76]; exact d8
          have d9 : mv_i S76 3 9 = mv_i τ 3 9 := by rw [eS76]; exact d9
          have hk76 := hX.tok (i := (mv_i S76 22 8).toNatClampNeg) (by have := hX.n; omega)
          clear eS76
          refine mv_istore_n (pc := 76) B d_Exprs_endSigns_76 rfl (by decide) rfl ?_
          refine mv_iload_n (pc := 77) B d_Exprs_endSigns_77 rfl 1 rfl ?_
          refine mv_sipush (pc := 78) (v := 307) B d_Exprs_endSigns_78 (by decide) ?_
          refine mv_icmp_ne (pc := 81) (tgt := 105) B d_Exprs_endSigns_81 rfl (fun h81 => ?_) (fun h81 => ?_)
          · skip
            refine mv_lpick [0, 1, 2, 3] rfl ?_
            exact j105 _ _ hR hF hX d7 d8 d9
          · skip
            refine mv_iload_n (pc := 84) B d_Exprs_endSigns_84 rfl 0 rfl ?_
            refine mv_iconst (pc := 85) (v := 1) B d_Exprs_endSigns_85 (by decide) ?_
            refine mv_icmp_le (pc := 86) (tgt := 105) B d_Exprs_endSigns_86 rfl (fun h86 => ?_) (fun h86 => ?_)
            · skip
              refine mv_lpick [0, 1, 2, 3] rfl ?_
              exact j105 _ _ hR hF hX d7 d8 d9
            · skip
              refine mv_aload_n (pc := 89) B d_Exprs_endSigns_89 rfl 3 rfl ?_
              refine mv_aload_n (pc := 90) B d_Exprs_endSigns_90 rfl 3 rfl ?_
              refine mv_getR (pc := 91) (ci := 6) (C := R_Exprs) (T := F_Exprs) (N := 11) B 5 rfl rfl (by decide) i_Exprs (B.2.2.2.1 _ k_199) rfl (hR.1 _ 5 _ rfl) d_Exprs_endSigns_91 ?_
              refine mv_aload_n (pc := 94) B d_Exprs_endSigns_94 rfl 3 rfl ?_
              refine mv_getI (pc := 95) (ci := 6) (C := R_Exprs) (T := F_Exprs) (N := 11) B 8 rfl rfl (by decide) i_Exprs (B.2.2.2.1 _ k_202) rfl d_Exprs_endSigns_95 ?_
              refine mv_iald (pc := 98) B rfl (i32_in (show 0 ≤ (mv_i S76 22 8).toInt by have := hX.1.1; omega) (show (mv_i S76 22 8).toInt < 1024 by have := hX.1.1; omega)) d_Exprs_endSigns_98 ?_
              refine mv_iconst (pc := 99) (v := 4) B d_Exprs_endSigns_99 (by decide) ?_
              refine mv_callVv (pc := 100) (n := 2) (ci := 6) (C := R_Exprs) B (mK_ok sk sv) hNs rfl rfl (c_Exprs_tell l hi _ _ _ hR.1 hk76.1 hk76.2 (by decide)) rfl (ma_goodc kc_Exprs_tell) (B.2.2.2.1 _ k_1427) (B.2.2.2.1 _ k_1429) (B.2.2.2.1 _ ks_50) (B.2.2.2.1 _ k_7) ⟨by decide +kernel, by decide +kernel, by decide +kernel⟩ rfl d_Exprs_endSigns_100 rfl (Nat.le_of_ble_eq_true rfl) ⟨by decide, by decide⟩ ⟨by decide, by decide⟩ ⟨by decide, by decide⟩ (mv_noH hno _) (fun σ100 h100 => ?_)
              obtain ⟨x9, y9, e100, z100⟩ := h100
              subst e100
              refine mv_gen (fun S103 eS103 => ?_)
              have hR : Rw 48 (mv_r S103) := by rw [eS103]; exact hR
              have hF : RF 48 σ S103 := by rw [eS103]; exact hF.tell _ _
              have hX : XM 48 th e0 bs BL f0 g0 ns S103 (ms2) (sm wt ms2) (sm wr ms2 + 1) (s1) := by rw [eS103]; exact hX.tell hP z100 _ _
              have d7 : mv_i S103 3 7 = mv_i τ 3 7 := by rw [eS103]; exact d7
              have d8 : mv_i S103 3 8 = mv_i τ 3 8 - 1 := by rw [eS103]; exact d8
              have d9 : mv_i S103 3 9 = mv_i τ 3 9 := by rw [eS103]; exact d9
              clear eS103
              refine mv_iconst (pc := 103) (v := 0) B d_Exprs_endSigns_103 (by decide) ?_
              refine mv_istore_n (pc := 104) B d_Exprs_endSigns_104 rfl (by decide) rfl ?_
              refine mv_lpick [0, 1, 2, 3] rfl ?_
              exact j105 _ _ hR hF hX d7 d8 d9
        exact j49
      refine mv_iload_n (pc := 2) B d_Exprs_endSigns_2 rfl 0 rfl ?_
      refine mv_bipush (pc := 3) (v := 60) B d_Exprs_endSigns_3 (by decide) ?_
      refine mv_icmp_gt (pc := 5) (tgt := 129) B d_Exprs_endSigns_5 rfl (fun h5 => ?_) (fun h5 => ?_)
      · skip
        exact mv_vret (pc := 129) B hr d_Exprs_endSigns_129 (Nat.le_refl _) (Nat.le_refl _) ⟨rfl, hF, _, _, hX, hI, h7, h9⟩
      · skip
        rw [Int32.lt_iff_toInt_lt] at h5
        have h5 : ¬ (60 : Int) < tt.toInt := h5
        refine mv_aload_n (pc := 8) B d_Exprs_endSigns_8 rfl 1 rfl ?_
        refine mv_getI (pc := 9) (ci := 6) (C := R_Exprs) (T := F_Exprs) (N := 11) B 8 rfl rfl (by decide) i_Exprs (B.2.2.2.1 _ k_202) rfl d_Exprs_endSigns_9 ?_
        refine mv_if_le (pc := 12) (tgt := 129) B d_Exprs_endSigns_12 rfl (fun h12 => ?_) (fun h12 => ?_)
        · skip
          exact mv_vret (pc := 129) B hr d_Exprs_endSigns_129 (Nat.le_refl _) (Nat.le_refl _) ⟨rfl, hF, _, _, hX, hI, h7, h9⟩
        · skip
          rw [Int32.le_iff_toInt_le] at h12
          simp only [Int32.reduceToInt] at h12
          obtain ⟨k8, w8, ms2, ems⟩ := hX.ne (by omega)
          subst ems
          obtain ⟨p1, p2, p3, p4⟩ := hX.top
          have pl := hI.len hX
          have pl1 : (((k8, w8) : Mk) :: ms2).length = ms2.length + 1 := rfl
          have t2 : (tt + 1).toInt = tt.toInt + 1 := i32_inc (by omega)
          have s1e : sm wt (((k8, w8) : Mk) :: ms2) = wt (k8, w8) + sm wt ms2 := rfl
          have s2e : sm wr (((k8, w8) : Mk) :: ms2) = wr (k8, w8) + sm wr ms2 := rfl
          have s3e : sm wc (((k8, w8) : Mk) :: ms2) = wc (k8, w8) + sm wc ms2 := rfl
          have s4e : sm wd (((k8, w8) : Mk) :: ms2) = wd (k8, w8) + sm wd ms2 := rfl
          have hI5 := hI.2.2.2.2.1
          have hsz := hB0.2.1.2.2.2.2.2
          have ha9 := hI.2.2.2.2.2.1
          refine mv_aload_n (pc := 15) B d_Exprs_endSigns_15 rfl 1 rfl ?_
          refine mv_getR (pc := 16) (ci := 6) (C := R_Exprs) (T := F_Exprs) (N := 11) B 4 rfl rfl (by decide) i_Exprs (B.2.2.2.1 _ k_198) rfl (hR.1 _ 4 _ rfl) d_Exprs_endSigns_16 ?_
          refine mv_aload_n (pc := 19) B d_Exprs_endSigns_19 rfl 1 rfl ?_
          refine mv_getI (pc := 20) (ci := 6) (C := R_Exprs) (T := F_Exprs) (N := 11) B 8 rfl rfl (by decide) i_Exprs (B.2.2.2.1 _ k_202) rfl d_Exprs_endSigns_20 ?_
          refine mv_iconst (pc := 23) (v := 1) B d_Exprs_endSigns_23 (by decide) ?_
          refine mv_isub (pc := 24) B d_Exprs_endSigns_24 ?_
          refine mv_iald (pc := 25) B rfl (i32_in (by omega) (by omega)) d_Exprs_endSigns_25 ?_
          rw [p3]
          refine mv_istore_n (pc := 26) B d_Exprs_endSigns_26 rfl (by decide) rfl ?_
          refine mv_iload_n (pc := 27) B d_Exprs_endSigns_27 rfl 0 rfl ?_
          refine mv_sipush (pc := 28) (v := 305) B d_Exprs_endSigns_28 (by decide) ?_
          refine mv_icmp_eq (pc := 31) (tgt := 49) B d_Exprs_endSigns_31 rfl (fun h31 => ?_) (fun h31 => ?_)
          · skip
            have hu : k8 = 305 ∨ k8 = 306 ∨ k8 = 307 := Or.inl h31
            refine mv_lpick [0, 1, 2] rfl ?_
            exact j49 _ _ _ hX hI h5 hu
          · skip
            refine mv_iload_n (pc := 34) B d_Exprs_endSigns_34 rfl 0 rfl ?_
            refine mv_sipush (pc := 35) (v := 306) B d_Exprs_endSigns_35 (by decide) ?_
            refine mv_icmp_eq (pc := 38) (tgt := 49) B d_Exprs_endSigns_38 rfl (fun h38 => ?_) (fun h38 => ?_)
            · skip
              have hu : k8 = 305 ∨ k8 = 306 ∨ k8 = 307 := Or.inr (Or.inl h38)
              refine mv_lpick [0, 1, 2] rfl ?_
              exact j49 _ _ _ hX hI h5 hu
            · skip
              refine mv_iload_n (pc := 41) B d_Exprs_endSigns_41 rfl 0 rfl ?_
              refine mv_sipush (pc := 42) (v := 307) B d_Exprs_endSigns_42 (by decide) ?_
              refine mv_icmp_eq (pc := 45) (tgt := 49) B d_Exprs_endSigns_45 rfl (fun h45 => ?_) (fun h45 => ?_)
              · skip
                have hu : k8 = 305 ∨ k8 = 306 ∨ k8 = 307 := Or.inr (Or.inr h45)
                refine mv_lpick [0, 1, 2] rfl ?_
                exact j49 _ _ _ hX hI h5 hu
              · skip
                exact mv_vret (pc := 48) B hr d_Exprs_endSigns_48 (Nat.le_refl _) (Nat.le_refl _) ⟨rfl, hF, _, _, hX, hI, h7, h9⟩
  refine mv_iconst (pc := 0) (v := 0) B d_Exprs_endSigns_0 (by decide) ?_
  refine mv_istore_n (pc := 1) B d_Exprs_endSigns_1 rfl (by decide) rfl ?_
  refine mv_lpick [0, 1] rfl ?_
  exact lp _ _ _ ms s0 hR hF hX0 hI0 rfl rfl (by decide) (by decide) (Nat.lt_succ_self _)
set_option maxHeartbeats 4000000 in
set_option maxRecDepth 100000 in
theorem c_Exprs_endSigns_c (l : Launch) {dA : FieldType → ClassId} {D : va_G} {al : Nat → Nat} {sk sv : Nat → Nat} (hi : mv_inj (mg dA D al me)) (σ : mv_H) {t len n z sz th sl e0 bs ns : Nat} {BL : (Nat → Nat) → Prop} {f0 : Nat → Int32} {g0 : Nat → Int64} {ms : List Mk} {s0 bd a : Nat} (hB0 : SB 145 σ t len n z sz th sl) (ht2 : t = 1 ∨ t = 144) (hX0 : XM 145 th e0 bs BL f0 g0 ns σ (ms) (sm wt ms + 1) (sm wr ms + 1) (s0)) (hI0 : TI σ sz bd ms s0 a) (hlen : len ≤ 8192) (hbs : bs ≤ 1) : mv_C l y_Exprs_endSigns (Cond.code y_Exprs_endSigns b_Exprs_endSigns 4 (Option.none : Option Jvm.ClassFile.FieldType) :: ma) ({ frames := 2, cells := 0, slots := 0, locals := 44 }) (mg dA D al me) (mK sk sv) [.ref (al 22)] σ (mv_Rv (fun σ1 => RF 145 σ σ1 ∧ ∃ ms2 s2, XM 145 th e0 bs BL f0 g0 ns σ1 (ms2) (sm wt ms2 + 1) (sm wr ms2 + 1) (s2) ∧ TI σ1 sz bd ms2 s2 a ∧ mv_i σ1 3 7 = mv_i σ 3 7 ∧ mv_i σ1 3 9 = mv_i σ 3 9)) := by
  refine mv_C.ofV (cc := b_Exprs_endSigns) (nL := 4) (ret := (Option.none : Option Jvm.ClassFile.FieldType)) (by decide +kernel) rfl hi (Nat.le_of_ble_eq_true rfl) ?_
  intro p e s m below meth c B hNs hr hnm hno
  have hP : PQ 145 := by unfold PQ; omega
  have hR := hB0.1
  have hF : RF 145 σ σ := RF0
  have hT : mv_i σ 3 = mv_i σ 3 := rfl
  have hsz := hB0.2.1.2.2.2.2.2
  have ha9 := hI0.2.2.2.2.2.1
  have lp : ∀ (nn : Nat) (τ : mv_H) (tt : Int32) (ms : List Mk) (s1 : Nat) (hR : Rw 145 (mv_r τ)) (hF : RF 145 σ τ) (hX : XM 145 th e0 bs BL f0 g0 ns τ (ms) (sm wt ms + 1) (sm wr ms + 1) (s1)) (hI : TI τ sz bd ms s1 a) (h7 : mv_i τ 3 7 = mv_i σ 3 7) (h9 : mv_i τ 3 9 = mv_i σ 3 9) (q0 : 0 ≤ tt.toInt) (q1 : tt.toInt ≤ 61), (61 - tt.toInt).toNat < nn → mv_V p l e ({ frames := 2, cells := 0, slots := 0, locals := 44 }) s m ([.ref (al 22)] : List Value).toArray below meth c (mg dA D al me) 4 0 0 (mv_Q (mg dA D al me) below s 0 0 (mv_Rv (fun σ1 => RF 145 σ σ1 ∧ ∃ ms2 s2, XM 145 th e0 bs BL f0 g0 ns σ1 (ms2) (sm wt ms2 + 1) (sm wr ms2 + 1) (s2) ∧ TI σ1 sz bd ms2 s2 a ∧ mv_i σ1 3 7 = mv_i σ 3 7 ∧ mv_i σ1 3 9 = mv_i σ 3 9))) τ 2 [(1, .int tt), (0, .ref (al 22))] [] := by
    intro nn
    induction nn with
    | zero => intro τ tt ms s1 hR hF hX hI h7 h9 q0 q1 hm; exact absurd hm (Nat.not_lt_zero _)
    | succ nn ih =>
      intro τ tt ms s1 hR hF hX hI h7 h9 q0 q1 hm
      have j49 : ∀ (k8 w8 : Int32) (ms2 : List Mk) (hX : XM 145 th e0 bs BL f0 g0 ns τ (((k8, w8) : Mk) :: ms2) (sm wt (((k8, w8) : Mk) :: ms2) + 1) (sm wr (((k8, w8) : Mk) :: ms2) + 1) (s1)) (hI : TI τ sz bd (((k8, w8) : Mk) :: ms2) s1 a) (h5 : ¬ (60 : Int) < tt.toInt) (hu : k8 = 305 ∨ k8 = 306 ∨ k8 = 307), mv_V p l e ({ frames := 2, cells := 0, slots := 0, locals := 44 }) s m ([.ref (al 22)] : List Value).toArray below meth c (mg dA D al me) 4 0 0 (mv_Q (mg dA D al me) below s 0 0 (mv_Rv (fun σ1 => RF 145 σ σ1 ∧ ∃ ms2 s2, XM 145 th e0 bs BL f0 g0 ns σ1 (ms2) (sm wt ms2 + 1) (sm wr ms2 + 1) (s2) ∧ TI σ1 sz bd ms2 s2 a ∧ mv_i σ1 3 7 = mv_i σ 3 7 ∧ mv_i σ1 3 9 = mv_i σ 3 9))) τ 49 [(2, .int k8), (1, .int tt), (0, .ref (al 22))] [] := by
        intro k8 w8 ms2 hX hI h5 hu
        obtain ⟨p1, p2, p3, p4⟩ := hX.top
        have pl := hI.len hX
        have pl1 : (((k8, w8) : Mk) :: ms2).length = ms2.length + 1 := rfl
        have t2 : (tt + 1).toInt = tt.toInt + 1 := i32_inc (by omega)
        have s1e : sm wt (((k8, w8) : Mk) :: ms2) = wt (k8, w8) + sm wt ms2 := rfl
        have s2e : sm wr (((k8, w8) : Mk) :: ms2) = wr (k8, w8) + sm wr ms2 := rfl
        have s3e : sm wc (((k8, w8) : Mk) :: ms2) = wc (k8, w8) + sm wc ms2 := rfl
        have s4e : sm wd (((k8, w8) : Mk) :: ms2) = wd (k8, w8) + sm wd ms2 := rfl
        have hI5 := hI.2.2.2.2.1
        have hsz := hB0.2.1.2.2.2.2.2
        have ha9 := hI.2.2.2.2.2.1
        obtain ⟨y1, y2, y3, y4, y5, y6, y7, y8⟩ := un_wt (w := w8) hu
        have j105 : ∀ (υ : mv_H) (wi : Int32) (hR : Rw 145 (mv_r υ)) (hF : RF 145 σ υ) (hX : XM 145 th e0 bs BL f0 g0 ns υ (ms2) (sm wt ms2) (sm wr ms2 + 1) (s1)) (d7 : mv_i υ 3 7 = mv_i τ 3 7) (d8 : mv_i υ 3 8 = mv_i τ 3 8 - 1) (d9 : mv_i υ 3 9 = mv_i τ 3 9), mv_V p l e ({ frames := 2, cells := 0, slots := 0, locals := 44 }) s m ([.ref (al 22)] : List Value).toArray below meth c (mg dA D al me) 4 0 0 (mv_Q (mg dA D al me) below s 0 0 (mv_Rv (fun σ1 => RF 145 σ σ1 ∧ ∃ ms2 s2, XM 145 th e0 bs BL f0 g0 ns σ1 (ms2) (sm wt ms2 + 1) (sm wr ms2 + 1) (s2) ∧ TI σ1 sz bd ms2 s2 a ∧ mv_i σ1 3 7 = mv_i σ 3 7 ∧ mv_i σ1 3 9 = mv_i σ 3 9))) υ 105 [(3, .int wi), (2, .int k8), (1, .int tt), (0, .ref (al 22))] [] := by
          intro υ wi hR hF hX d7 d8 d9
          refine mv_aload_n (pc := 105) B d_Exprs_endSigns_105 rfl 3 rfl ?_
          refine mv_getR (pc := 106) (ci := 6) (C := R_Exprs) (T := F_Exprs) (N := 11) B 3 rfl rfl (by decide) i_Exprs (B.2.2.2.1 _ k_197) rfl hR.2.2.2 d_Exprs_endSigns_106 ?_
          refine mv_iload_n (pc := 109) B d_Exprs_endSigns_109 rfl 1 rfl ?_
          refine mv_iload_n (pc := 110) B d_Exprs_endSigns_110 rfl 0 rfl ?_
          refine mv_callSl (pc := 111) (n := 1) B (mK_ok sk sv) hNs (c_Bits_mask l hi _ _) rfl (ma_goodc kc_Bits_mask) (B.2.2.2.1 _ k_1436) (B.2.2.2.1 _ k_1437) (B.2.2.2.1 _ k_33) ⟨by decide +kernel, by decide +kernel, by decide +kernel⟩ rfl d_Exprs_endSigns_111 rfl (Nat.le_of_ble_eq_true rfl) ⟨by decide, by decide⟩ ⟨by decide, by decide⟩ ⟨by decide, by decide⟩ (mv_noH hno _) (fun v111 σ111 h111 => ?_)
          obtain ⟨e111, -⟩ : σ111 = υ ∧ True := ⟨by first | exact h111 | exact h111.1, trivial⟩
          have e111 := e111.symm
          subst e111
          refine mv_callVi (pc := 114) (n := 2) (ci := 7) (C := R_Program) B (mK_ok sk sv) hNs rfl rfl (c_Program_emit_c l hi _ _ _ hR.2.1 (by have := hX.2.1.1; omega) (by have := hX.2.1.1; omega)) rfl (ma_goodc kc_Program_emit) (B.2.2.2.1 _ k_1425) (B.2.2.2.1 _ k_1385) (B.2.2.2.1 _ k_1386) (B.2.2.2.1 _ k_8) ⟨by decide +kernel, by decide +kernel, by decide +kernel⟩ rfl d_Exprs_endSigns_114 rfl (Nat.le_of_ble_eq_true rfl) ⟨by decide, by decide⟩ ⟨by decide, by decide⟩ ⟨by decide, by decide⟩ (mv_noH hno _) (fun v114 σ114 h114 => ?_)
          obtain ⟨e114, -⟩ := h114
          subst e114
          refine mv_gen (fun S117 eS117 => ?_)
          have hR : Rw 145 (mv_r S117) := by rw [eS117]; exact hR
          have hF : RF 145 σ S117 := by rw [eS117]; exact hF.emit _ _
          have hX : XM 145 th e0 bs BL f0 g0 ns S117 (ms2) (sm wt ms2) (sm wr ms2 + 1) (s1 + 1) := by rw [eS117]; exact hX.emit0 hP (by omega) (sm wr ms2 + 1) y7.1 y7.2 (y8 th _ (bs + sm wr ms2)) (by omega)
          have d7 : mv_i S117 3 7 = mv_i τ 3 7 := by rw [eS117]; exact d7
          have d8 : mv_i S117 3 8 = mv_i τ 3 8 - 1 := by rw [eS117]; exact d8
          have d9 : mv_i S117 3 9 = mv_i τ 3 9 := by rw [eS117]; exact d9
          clear eS117
          refine mv_pop (pc := 117) B d_Exprs_endSigns_117 rfl ?_
          refine mv_aload_n (pc := 118) B d_Exprs_endSigns_118 rfl 3 rfl ?_
          refine mv_iload_n (pc := 119) B d_Exprs_endSigns_119 rfl 0 rfl ?_
          refine mv_callVv (pc := 120) (n := 1) (ci := 6) (C := R_Exprs) B (mK_ok sk sv) hNs rfl rfl (c_Exprs_hold l hi _ _ hR.1 (by have := hX.1.2.2.1; omega) (by have := hX.1.2.2.1; omega)) rfl (ma_goodc kc_Exprs_hold) (B.2.2.2.1 _ k_1432) (B.2.2.2.1 _ k_1434) (B.2.2.2.1 _ ks_51) (B.2.2.2.1 _ k_7) ⟨by decide +kernel, by decide +kernel, by decide +kernel⟩ rfl d_Exprs_endSigns_120 rfl (Nat.le_of_ble_eq_true rfl) ⟨by decide, by decide⟩ ⟨by decide, by decide⟩ ⟨by decide, by decide⟩ (mv_noH hno _) (fun σ120 h120 => ?_)
          subst h120
          refine mv_gen (fun S123 eS123 => ?_)
          have hR : Rw 145 (mv_r S123) := by rw [eS123]; exact hR
          have hF : RF 145 σ S123 := by rw [eS123]; exact hF.hold _
          have hX : XM 145 th e0 bs BL f0 g0 ns S123 (ms2) (sm wt ms2 + 1) (sm wr ms2 + 1) (s1 + 1) := by rw [eS123]; exact hX.hold hP (by omega) _
          have d7 : mv_i S123 3 7 = mv_i τ 3 7 := by rw [eS123]; exact d7
          have d8 : mv_i S123 3 8 = mv_i τ 3 8 - 1 := by rw [eS123]; exact d8
          have d9 : mv_i S123 3 9 = mv_i τ 3 9 := by rw [eS123]; exact d9
          have go := ih S123 (tt + 1) ms2 (s1 + 1) hR hF hX (hI.dn d7 d8 d9 (by omega) (by omega) hI.2.2.2.2.2.2.tail) (d7.trans h7) (d9.trans h9) (by omega) (by omega) (by omega)
          clear eS123
          refine mv_iinc (pc := 123) (j := 2) (v := 1) B d_Exprs_endSigns_123 rfl (by decide) (by decide) rfl ?_
          refine mv_goto (pc := 126) (tgt := 2) B d_Exprs_endSigns_126 rfl ?_
          refine mv_lpick [0, 3] rfl ?_
          exact go
        have j49 : mv_V p l e ({ frames := 2, cells := 0, slots := 0, locals := 44 }) s m ([.ref (al 22)] : List Value).toArray below meth c (mg dA D al me) 4 0 0 (mv_Q (mg dA D al me) below s 0 0 (mv_Rv (fun σ1 => RF 145 σ σ1 ∧ ∃ ms2 s2, XM 145 th e0 bs BL f0 g0 ns σ1 (ms2) (sm wt ms2 + 1) (sm wr ms2 + 1) (s2) ∧ TI σ1 sz bd ms2 s2 a ∧ mv_i σ1 3 7 = mv_i σ 3 7 ∧ mv_i σ1 3 9 = mv_i σ 3 9))) τ 49 [(2, .int k8), (1, .int tt), (0, .ref (al 22))] [] := by
          refine mv_aload_n (pc := 49) B d_Exprs_endSigns_49 rfl 2 rfl ?_
          refine mv_dup (pc := 50) B d_Exprs_endSigns_50 rfl ?_
          refine mv_getI (pc := 51) (ci := 6) (C := R_Exprs) (T := F_Exprs) (N := 11) B 8 rfl rfl (by decide) i_Exprs (B.2.2.2.1 _ k_202) rfl d_Exprs_endSigns_51 ?_
          refine mv_iconst (pc := 54) (v := 1) B d_Exprs_endSigns_54 (by decide) ?_
          refine mv_isub (pc := 55) B d_Exprs_endSigns_55 ?_
          refine mv_putI (pc := 56) (ci := 6) (C := R_Exprs) (T := F_Exprs) (N := 11) B 8 rfl rfl (by decide) i_Exprs t_Exprs_ok n_Exprs (B.2.2.2.1 _ k_202) rfl rfl rfl rfl d_Exprs_endSigns_56 ?_
          refine mv_aload_n (pc := 59) B d_Exprs_endSigns_59 rfl 2 rfl ?_
          refine mv_getR (pc := 60) (ci := 6) (C := R_Exprs) (T := F_Exprs) (N := 11) B 0 rfl rfl (by decide) i_Exprs (B.2.2.2.1 _ k_193) rfl (hR.1 _ 0 _ rfl) d_Exprs_endSigns_60 ?_
          refine mv_dup (pc := 63) B d_Exprs_endSigns_63 rfl ?_
          refine mv_getI (pc := 64) (ci := 2) (C := R_Tokens) (T := F_Tokens) (N := 10) B 8 rfl rfl (by decide) i_Tokens (B.2.2.2.1 _ k_104) rfl d_Exprs_endSigns_64 ?_
          refine mv_iconst (pc := 67) (v := 1) B d_Exprs_endSigns_67 (by decide) ?_
          refine mv_isub (pc := 68) B d_Exprs_endSigns_68 ?_
          refine mv_putI (pc := 69) (ci := 2) (C := R_Tokens) (T := F_Tokens) (N := 10) B 8 rfl rfl (by decide) i_Tokens t_Tokens_ok n_Tokens (B.2.2.2.1 _ k_104) rfl rfl rfl rfl d_Exprs_endSigns_69 ?_
          refine mv_gen (fun S72 eS72 => ?_)
          have hR : Rw 145 (mv_r S72) := by rw [eS72]; exact hR
          have hF : RF 145 σ S72 := by rw [eS72]; exact hF.pop.c3 ⟨by omega, by omega⟩ _
          have hX : XM 145 th e0 bs BL f0 g0 ns S72 (ms2) (sm wt ms2 + 1) (sm wr ms2 + 1) (s1) := by
            rw [eS72]
            have := (hX.pop hP ⟨y5, y6⟩).c3 hP 8 (mv_i τ 3 8 - 1)
            rw [s1e, s2e, y1, y2, Nat.zero_add, Nat.zero_add] at this
            exact this
          have d7 : mv_i S72 3 7 = mv_i τ 3 7 := by rw [eS72]; rfl
          have d8 : mv_i S72 3 8 = mv_i τ 3 8 - 1 := by rw [eS72]; rfl
          have d9 : mv_i S72 3 9 = mv_i τ 3 9 := by rw [eS72]; rfl
          clear eS72
          refine mv_aload_n (pc := 72) B d_Exprs_endSigns_72 rfl 2 rfl ?_
          refine mv_callVi (pc := 73) (n := 0) (ci := 6) (C := R_Exprs) B (mK_ok sk sv) hNs rfl rfl (c_Exprs_release l hi _ hR.1 (by have := hX.1.2.2.1; omega) (by have := hX.1.2.2.1; omega)) rfl (ma_goodc kc_Exprs_release) (B.2.2.2.1 _ k_1469) (B.2.2.2.1 _ k_1470) (B.2.2.2.1 _ k_1471) (B.2.2.2.1 _ k_7) ⟨by decide +kernel, by decide +kernel, by decide +kernel⟩ rfl d_Exprs_endSigns_73 rfl (Nat.le_of_ble_eq_true rfl) ⟨by decide, by decide⟩ ⟨by decide, by decide⟩ ⟨by decide, by decide⟩ (mv_noH hno _) (fun v73 σ73 h73 => ?_)
          subst h73
          refine mv_gen (fun S76 eS76 => ?_)
          have hR : Rw 145 (mv_r S76) := by rw [eS76]; exact hR
          have hF : RF 145 σ S76 := by rw [eS76]; exact hF.rel
          have hX : XM 145 th e0 bs BL f0 g0 ns S76 (ms2) (sm wt ms2) (sm wr ms2 + 1) (s1) := by rw [eS76]; exact hX.rel hP
          have d7 : mv_i S76 3 7 = mv_i τ 3 7 := by rw [eS76]; exact d7
          have d8 : mv_i S76 3 8 = mv_i τ 3 8 - 1 := by rw [eS76]; exact d8
          have d9 : mv_i S76 3 9 = mv_i τ 3 9 := by rw [eS76]; exact d9
          have hk76 := hX.tok (i := (mv_i S76 22 8).toNatClampNeg) (by have := hX.n; omega)
          clear eS76
          refine mv_istore_n (pc := 76) B d_Exprs_endSigns_76 rfl (by decide) rfl ?_
          refine mv_iload_n (pc := 77) B d_Exprs_endSigns_77 rfl 1 rfl ?_
          refine mv_sipush (pc := 78) (v := 307) B d_Exprs_endSigns_78 (by decide) ?_
          refine mv_icmp_ne (pc := 81) (tgt := 105) B d_Exprs_endSigns_81 rfl (fun h81 => ?_) (fun h81 => ?_)
          · skip
            refine mv_lpick [0, 1, 2, 3] rfl ?_
            exact j105 _ _ hR hF hX d7 d8 d9
          · skip
            refine mv_iload_n (pc := 84) B d_Exprs_endSigns_84 rfl 0 rfl ?_
            refine mv_iconst (pc := 85) (v := 1) B d_Exprs_endSigns_85 (by decide) ?_
            refine mv_icmp_le (pc := 86) (tgt := 105) B d_Exprs_endSigns_86 rfl (fun h86 => ?_) (fun h86 => ?_)
            · skip
              refine mv_lpick [0, 1, 2, 3] rfl ?_
              exact j105 _ _ hR hF hX d7 d8 d9
            · skip
              refine mv_aload_n (pc := 89) B d_Exprs_endSigns_89 rfl 3 rfl ?_
              refine mv_aload_n (pc := 90) B d_Exprs_endSigns_90 rfl 3 rfl ?_
              refine mv_getR (pc := 91) (ci := 6) (C := R_Exprs) (T := F_Exprs) (N := 11) B 5 rfl rfl (by decide) i_Exprs (B.2.2.2.1 _ k_199) rfl (hR.1 _ 5 _ rfl) d_Exprs_endSigns_91 ?_
              refine mv_aload_n (pc := 94) B d_Exprs_endSigns_94 rfl 3 rfl ?_
              refine mv_getI (pc := 95) (ci := 6) (C := R_Exprs) (T := F_Exprs) (N := 11) B 8 rfl rfl (by decide) i_Exprs (B.2.2.2.1 _ k_202) rfl d_Exprs_endSigns_95 ?_
              refine mv_iald (pc := 98) B rfl (i32_in (show 0 ≤ (mv_i S76 22 8).toInt by have := hX.1.1; omega) (show (mv_i S76 22 8).toInt < 1024 by have := hX.1.1; omega)) d_Exprs_endSigns_98 ?_
              refine mv_iconst (pc := 99) (v := 4) B d_Exprs_endSigns_99 (by decide) ?_
              refine mv_callVv (pc := 100) (n := 2) (ci := 6) (C := R_Exprs) B (mK_ok sk sv) hNs rfl rfl (c_Exprs_tell l hi _ _ _ hR.1 hk76.1 hk76.2 (by decide)) rfl (ma_goodc kc_Exprs_tell) (B.2.2.2.1 _ k_1427) (B.2.2.2.1 _ k_1429) (B.2.2.2.1 _ ks_50) (B.2.2.2.1 _ k_7) ⟨by decide +kernel, by decide +kernel, by decide +kernel⟩ rfl d_Exprs_endSigns_100 rfl (Nat.le_of_ble_eq_true rfl) ⟨by decide, by decide⟩ ⟨by decide, by decide⟩ ⟨by decide, by decide⟩ (mv_noH hno _) (fun σ100 h100 => ?_)
              obtain ⟨x9, y9, e100, z100⟩ := h100
              subst e100
              refine mv_gen (fun S103 eS103 => ?_)
              have hR : Rw 145 (mv_r S103) := by rw [eS103]; exact hR
              have hF : RF 145 σ S103 := by rw [eS103]; exact hF.tell _ _
              have hX : XM 145 th e0 bs BL f0 g0 ns S103 (ms2) (sm wt ms2) (sm wr ms2 + 1) (s1) := by rw [eS103]; exact hX.tell hP z100 _ _
              have d7 : mv_i S103 3 7 = mv_i τ 3 7 := by rw [eS103]; exact d7
              have d8 : mv_i S103 3 8 = mv_i τ 3 8 - 1 := by rw [eS103]; exact d8
              have d9 : mv_i S103 3 9 = mv_i τ 3 9 := by rw [eS103]; exact d9
              clear eS103
              refine mv_iconst (pc := 103) (v := 0) B d_Exprs_endSigns_103 (by decide) ?_
              refine mv_istore_n (pc := 104) B d_Exprs_endSigns_104 rfl (by decide) rfl ?_
              refine mv_lpick [0, 1, 2, 3] rfl ?_
              exact j105 _ _ hR hF hX d7 d8 d9
        exact j49
      refine mv_iload_n (pc := 2) B d_Exprs_endSigns_2 rfl 0 rfl ?_
      refine mv_bipush (pc := 3) (v := 60) B d_Exprs_endSigns_3 (by decide) ?_
      refine mv_icmp_gt (pc := 5) (tgt := 129) B d_Exprs_endSigns_5 rfl (fun h5 => ?_) (fun h5 => ?_)
      · skip
        exact mv_vret (pc := 129) B hr d_Exprs_endSigns_129 (Nat.le_refl _) (Nat.le_refl _) ⟨rfl, hF, _, _, hX, hI, h7, h9⟩
      · skip
        rw [Int32.lt_iff_toInt_lt] at h5
        have h5 : ¬ (60 : Int) < tt.toInt := h5
        refine mv_aload_n (pc := 8) B d_Exprs_endSigns_8 rfl 1 rfl ?_
        refine mv_getI (pc := 9) (ci := 6) (C := R_Exprs) (T := F_Exprs) (N := 11) B 8 rfl rfl (by decide) i_Exprs (B.2.2.2.1 _ k_202) rfl d_Exprs_endSigns_9 ?_
        refine mv_if_le (pc := 12) (tgt := 129) B d_Exprs_endSigns_12 rfl (fun h12 => ?_) (fun h12 => ?_)
        · skip
          exact mv_vret (pc := 129) B hr d_Exprs_endSigns_129 (Nat.le_refl _) (Nat.le_refl _) ⟨rfl, hF, _, _, hX, hI, h7, h9⟩
        · skip
          rw [Int32.le_iff_toInt_le] at h12
          simp only [Int32.reduceToInt] at h12
          obtain ⟨k8, w8, ms2, ems⟩ := hX.ne (by omega)
          subst ems
          obtain ⟨p1, p2, p3, p4⟩ := hX.top
          have pl := hI.len hX
          have pl1 : (((k8, w8) : Mk) :: ms2).length = ms2.length + 1 := rfl
          have t2 : (tt + 1).toInt = tt.toInt + 1 := i32_inc (by omega)
          have s1e : sm wt (((k8, w8) : Mk) :: ms2) = wt (k8, w8) + sm wt ms2 := rfl
          have s2e : sm wr (((k8, w8) : Mk) :: ms2) = wr (k8, w8) + sm wr ms2 := rfl
          have s3e : sm wc (((k8, w8) : Mk) :: ms2) = wc (k8, w8) + sm wc ms2 := rfl
          have s4e : sm wd (((k8, w8) : Mk) :: ms2) = wd (k8, w8) + sm wd ms2 := rfl
          have hI5 := hI.2.2.2.2.1
          have hsz := hB0.2.1.2.2.2.2.2
          have ha9 := hI.2.2.2.2.2.1
          refine mv_aload_n (pc := 15) B d_Exprs_endSigns_15 rfl 1 rfl ?_
          refine mv_getR (pc := 16) (ci := 6) (C := R_Exprs) (T := F_Exprs) (N := 11) B 4 rfl rfl (by decide) i_Exprs (B.2.2.2.1 _ k_198) rfl (hR.1 _ 4 _ rfl) d_Exprs_endSigns_16 ?_
          refine mv_aload_n (pc := 19) B d_Exprs_endSigns_19 rfl 1 rfl ?_
          refine mv_getI (pc := 20) (ci := 6) (C := R_Exprs) (T := F_Exprs) (N := 11) B 8 rfl rfl (by decide) i_Exprs (B.2.2.2.1 _ k_202) rfl d_Exprs_endSigns_20 ?_
          refine mv_iconst (pc := 23) (v := 1) B d_Exprs_endSigns_23 (by decide) ?_
          refine mv_isub (pc := 24) B d_Exprs_endSigns_24 ?_
          refine mv_iald (pc := 25) B rfl (i32_in (by omega) (by omega)) d_Exprs_endSigns_25 ?_
          rw [p3]
          refine mv_istore_n (pc := 26) B d_Exprs_endSigns_26 rfl (by decide) rfl ?_
          refine mv_iload_n (pc := 27) B d_Exprs_endSigns_27 rfl 0 rfl ?_
          refine mv_sipush (pc := 28) (v := 305) B d_Exprs_endSigns_28 (by decide) ?_
          refine mv_icmp_eq (pc := 31) (tgt := 49) B d_Exprs_endSigns_31 rfl (fun h31 => ?_) (fun h31 => ?_)
          · skip
            have hu : k8 = 305 ∨ k8 = 306 ∨ k8 = 307 := Or.inl h31
            refine mv_lpick [0, 1, 2] rfl ?_
            exact j49 _ _ _ hX hI h5 hu
          · skip
            refine mv_iload_n (pc := 34) B d_Exprs_endSigns_34 rfl 0 rfl ?_
            refine mv_sipush (pc := 35) (v := 306) B d_Exprs_endSigns_35 (by decide) ?_
            refine mv_icmp_eq (pc := 38) (tgt := 49) B d_Exprs_endSigns_38 rfl (fun h38 => ?_) (fun h38 => ?_)
            · skip
              have hu : k8 = 305 ∨ k8 = 306 ∨ k8 = 307 := Or.inr (Or.inl h38)
              refine mv_lpick [0, 1, 2] rfl ?_
              exact j49 _ _ _ hX hI h5 hu
            · skip
              refine mv_iload_n (pc := 41) B d_Exprs_endSigns_41 rfl 0 rfl ?_
              refine mv_sipush (pc := 42) (v := 307) B d_Exprs_endSigns_42 (by decide) ?_
              refine mv_icmp_eq (pc := 45) (tgt := 49) B d_Exprs_endSigns_45 rfl (fun h45 => ?_) (fun h45 => ?_)
              · skip
                have hu : k8 = 305 ∨ k8 = 306 ∨ k8 = 307 := Or.inr (Or.inr h45)
                refine mv_lpick [0, 1, 2] rfl ?_
                exact j49 _ _ _ hX hI h5 hu
              · skip
                exact mv_vret (pc := 48) B hr d_Exprs_endSigns_48 (Nat.le_refl _) (Nat.le_refl _) ⟨rfl, hF, _, _, hX, hI, h7, h9⟩
  refine mv_iconst (pc := 0) (v := 0) B d_Exprs_endSigns_0 (by decide) ?_
  refine mv_istore_n (pc := 1) B d_Exprs_endSigns_1 rfl (by decide) rfl ?_
  refine mv_lpick [0, 1] rfl ?_
  exact lp _ _ _ ms s0 hR hF hX0 hI0 rfl rfl (by decide) (by decide) (Nat.lt_succ_self _)
def y_Exprs_endChoices : MethodName := ⟨"MachineLoom$Exprs", "endChoices", "()V"⟩
abbrev b_Exprs_endChoices : ByteArray := prog_3_method_19_code
theorem kc_Exprs_endChoices : Cond.code y_Exprs_endChoices b_Exprs_endChoices 6 (Option.none : Option Jvm.ClassFile.FieldType) ∈ ma := ma_of (tb_7 _ (List.mem_of_getElem? (i := 60) rfl)) rfl
theorem k_1501 : (Jvm.Cond.methodLink "MachineLoom$Exprs" (179 : Nat) ({ cls := "MachineLoom$Program", name := "aim", desc := "(I)V" } : Jvm.MethodName)) ∈ ma := ma_of (tb_7 _ (List.mem_of_getElem? (i := 61) rfl)) rfl
theorem k_1403 : (Jvm.Cond.instanceMethod ({ cls := "MachineLoom$Program", name := "aim", desc := "(I)V" } : Jvm.MethodName)) ∈ ma := ma_of (tb_6 _ (List.mem_of_getElem? (i := 203) rfl)) rfl
theorem k_1404 : (Jvm.Cond.selects "MachineLoom$Program" ({ cls := "MachineLoom$Program", name := "aim", desc := "(I)V" } : Jvm.MethodName) ({ cls := "MachineLoom$Program", name := "aim", desc := "(I)V" } : Jvm.MethodName)) ∈ ma := ma_of (tb_6 _ (List.mem_of_getElem? (i := 204) rfl)) rfl
theorem k_201 : (Jvm.Cond.fieldLink "MachineLoom$Exprs" (21 : Nat) "MachineLoom$Exprs" "conditions" "[I") ∈ ma := ma_of (tb_1 _ (List.mem_of_getElem? (i := 201) rfl)) rfl
theorem d_Exprs_endChoices_0 : decode b_Exprs_endChoices 0 = .ok (.iconst 0, 1) := by decide +kernel
theorem d_Exprs_endChoices_1 : decode b_Exprs_endChoices 1 = .ok (.istore_n 1, 1) := by decide +kernel
theorem d_Exprs_endChoices_2 : decode b_Exprs_endChoices 2 = .ok (.iload_n 1, 1) := by decide +kernel
theorem d_Exprs_endChoices_3 : decode b_Exprs_endChoices 3 = .ok (.bipush 60, 2) := by decide +kernel
theorem d_Exprs_endChoices_5 : decode b_Exprs_endChoices 5 = .ok (.if_icmp .gt (160), 3) := by decide +kernel
theorem d_Exprs_endChoices_8 : decode b_Exprs_endChoices 8 = .ok (.aload_n 0, 1) := by decide +kernel
theorem d_Exprs_endChoices_9 : decode b_Exprs_endChoices 9 = .ok (.getfield 39, 3) := by decide +kernel
theorem d_Exprs_endChoices_12 : decode b_Exprs_endChoices 12 = .ok (.ifCond .le (153), 3) := by decide +kernel
theorem d_Exprs_endChoices_15 : decode b_Exprs_endChoices 15 = .ok (.aload_n 0, 1) := by decide +kernel
theorem d_Exprs_endChoices_16 : decode b_Exprs_endChoices 16 = .ok (.getfield 9, 3) := by decide +kernel
theorem d_Exprs_endChoices_19 : decode b_Exprs_endChoices 19 = .ok (.aload_n 0, 1) := by decide +kernel
theorem d_Exprs_endChoices_20 : decode b_Exprs_endChoices 20 = .ok (.getfield 39, 3) := by decide +kernel
theorem d_Exprs_endChoices_23 : decode b_Exprs_endChoices 23 = .ok (.iconst 1, 1) := by decide +kernel
theorem d_Exprs_endChoices_24 : decode b_Exprs_endChoices 24 = .ok (.isub, 1) := by decide +kernel
theorem d_Exprs_endChoices_25 : decode b_Exprs_endChoices 25 = .ok (.iaload, 1) := by decide +kernel
theorem d_Exprs_endChoices_26 : decode b_Exprs_endChoices 26 = .ok (.bipush 58, 2) := by decide +kernel
theorem d_Exprs_endChoices_28 : decode b_Exprs_endChoices 28 = .ok (.if_icmp .eq (4), 3) := by decide +kernel
theorem d_Exprs_endChoices_31 : decode b_Exprs_endChoices 31 = .ok (.return_, 1) := by decide +kernel
theorem d_Exprs_endChoices_32 : decode b_Exprs_endChoices 32 = .ok (.aload_n 0, 1) := by decide +kernel
theorem d_Exprs_endChoices_33 : decode b_Exprs_endChoices 33 = .ok (.dup, 1) := by decide +kernel
theorem d_Exprs_endChoices_34 : decode b_Exprs_endChoices 34 = .ok (.getfield 39, 3) := by decide +kernel
theorem d_Exprs_endChoices_37 : decode b_Exprs_endChoices 37 = .ok (.iconst 1, 1) := by decide +kernel
theorem d_Exprs_endChoices_38 : decode b_Exprs_endChoices 38 = .ok (.isub, 1) := by decide +kernel
theorem d_Exprs_endChoices_39 : decode b_Exprs_endChoices 39 = .ok (.putfield 39, 3) := by decide +kernel
theorem d_Exprs_endChoices_42 : decode b_Exprs_endChoices 42 = .ok (.aload_n 0, 1) := by decide +kernel
theorem d_Exprs_endChoices_43 : decode b_Exprs_endChoices 43 = .ok (.getfield 27, 3) := by decide +kernel
theorem d_Exprs_endChoices_46 : decode b_Exprs_endChoices 46 = .ok (.dup, 1) := by decide +kernel
theorem d_Exprs_endChoices_47 : decode b_Exprs_endChoices 47 = .ok (.getfield 173, 3) := by decide +kernel
theorem d_Exprs_endChoices_50 : decode b_Exprs_endChoices 50 = .ok (.iconst 1, 1) := by decide +kernel
theorem d_Exprs_endChoices_51 : decode b_Exprs_endChoices 51 = .ok (.isub, 1) := by decide +kernel
theorem d_Exprs_endChoices_52 : decode b_Exprs_endChoices 52 = .ok (.putfield 173, 3) := by decide +kernel
theorem d_Exprs_endChoices_55 : decode b_Exprs_endChoices 55 = .ok (.aload_n 0, 1) := by decide +kernel
theorem d_Exprs_endChoices_56 : decode b_Exprs_endChoices 56 = .ok (.getfield 89, 3) := by decide +kernel
theorem d_Exprs_endChoices_59 : decode b_Exprs_endChoices 59 = .ok (.aload_n 0, 1) := by decide +kernel
theorem d_Exprs_endChoices_60 : decode b_Exprs_endChoices 60 = .ok (.getfield 18, 3) := by decide +kernel
theorem d_Exprs_endChoices_63 : decode b_Exprs_endChoices 63 = .ok (.aload_n 0, 1) := by decide +kernel
theorem d_Exprs_endChoices_64 : decode b_Exprs_endChoices 64 = .ok (.getfield 39, 3) := by decide +kernel
theorem d_Exprs_endChoices_67 : decode b_Exprs_endChoices 67 = .ok (.iaload, 1) := by decide +kernel
theorem d_Exprs_endChoices_68 : decode b_Exprs_endChoices 68 = .ok (.invokevirtual 179, 3) := by decide +kernel
theorem d_Exprs_endChoices_71 : decode b_Exprs_endChoices 71 = .ok (.aload_n 0, 1) := by decide +kernel
theorem d_Exprs_endChoices_72 : decode b_Exprs_endChoices 72 = .ok (.invokevirtual 164, 3) := by decide +kernel
theorem d_Exprs_endChoices_75 : decode b_Exprs_endChoices 75 = .ok (.istore_n 2, 1) := by decide +kernel
theorem d_Exprs_endChoices_76 : decode b_Exprs_endChoices 76 = .ok (.aload_n 0, 1) := by decide +kernel
theorem d_Exprs_endChoices_77 : decode b_Exprs_endChoices 77 = .ok (.invokevirtual 164, 3) := by decide +kernel
theorem d_Exprs_endChoices_80 : decode b_Exprs_endChoices 80 = .ok (.istore_n 3, 1) := by decide +kernel
theorem d_Exprs_endChoices_81 : decode b_Exprs_endChoices 81 = .ok (.aload_n 0, 1) := by decide +kernel
theorem d_Exprs_endChoices_82 : decode b_Exprs_endChoices 82 = .ok (.getfield 21, 3) := by decide +kernel
theorem d_Exprs_endChoices_85 : decode b_Exprs_endChoices 85 = .ok (.aload_n 0, 1) := by decide +kernel
theorem d_Exprs_endChoices_86 : decode b_Exprs_endChoices 86 = .ok (.getfield 39, 3) := by decide +kernel
theorem d_Exprs_endChoices_89 : decode b_Exprs_endChoices 89 = .ok (.iaload, 1) := by decide +kernel
theorem d_Exprs_endChoices_90 : decode b_Exprs_endChoices 90 = .ok (.istore 4, 2) := by decide +kernel
theorem d_Exprs_endChoices_92 : decode b_Exprs_endChoices 92 = .ok (.iload 4, 2) := by decide +kernel
theorem d_Exprs_endChoices_94 : decode b_Exprs_endChoices 94 = .ok (.ifCond .eq (11), 3) := by decide +kernel
theorem d_Exprs_endChoices_97 : decode b_Exprs_endChoices 97 = .ok (.iload_n 3, 1) := by decide +kernel
theorem d_Exprs_endChoices_98 : decode b_Exprs_endChoices 98 = .ok (.ifCond .eq (7), 3) := by decide +kernel
theorem d_Exprs_endChoices_101 : decode b_Exprs_endChoices 101 = .ok (.iload_n 2, 1) := by decide +kernel
theorem d_Exprs_endChoices_102 : decode b_Exprs_endChoices 102 = .ok (.ifCond .ne (7), 3) := by decide +kernel
theorem d_Exprs_endChoices_105 : decode b_Exprs_endChoices 105 = .ok (.iconst 1, 1) := by decide +kernel
theorem d_Exprs_endChoices_106 : decode b_Exprs_endChoices 106 = .ok (.goto (4), 3) := by decide +kernel
theorem d_Exprs_endChoices_109 : decode b_Exprs_endChoices 109 = .ok (.iconst 0, 1) := by decide +kernel
theorem d_Exprs_endChoices_110 : decode b_Exprs_endChoices 110 = .ok (.istore 5, 2) := by decide +kernel
theorem d_Exprs_endChoices_112 : decode b_Exprs_endChoices 112 = .ok (.iload 5, 2) := by decide +kernel
theorem d_Exprs_endChoices_114 : decode b_Exprs_endChoices 114 = .ok (.ifCond .ne (31), 3) := by decide +kernel
theorem d_Exprs_endChoices_117 : decode b_Exprs_endChoices 117 = .ok (.iload 4, 2) := by decide +kernel
theorem d_Exprs_endChoices_119 : decode b_Exprs_endChoices 119 = .ok (.iconst 1, 1) := by decide +kernel
theorem d_Exprs_endChoices_120 : decode b_Exprs_endChoices 120 = .ok (.if_icmp .ne (8), 3) := by decide +kernel
theorem d_Exprs_endChoices_123 : decode b_Exprs_endChoices 123 = .ok (.iload_n 3, 1) := by decide +kernel
theorem d_Exprs_endChoices_124 : decode b_Exprs_endChoices 124 = .ok (.iload_n 2, 1) := by decide +kernel
theorem d_Exprs_endChoices_125 : decode b_Exprs_endChoices 125 = .ok (.if_icmp .eq (20), 3) := by decide +kernel
theorem d_Exprs_endChoices_128 : decode b_Exprs_endChoices 128 = .ok (.aload_n 0, 1) := by decide +kernel
theorem d_Exprs_endChoices_129 : decode b_Exprs_endChoices 129 = .ok (.aload_n 0, 1) := by decide +kernel
theorem d_Exprs_endChoices_130 : decode b_Exprs_endChoices 130 = .ok (.getfield 15, 3) := by decide +kernel
theorem d_Exprs_endChoices_133 : decode b_Exprs_endChoices 133 = .ok (.aload_n 0, 1) := by decide +kernel
theorem d_Exprs_endChoices_134 : decode b_Exprs_endChoices 134 = .ok (.getfield 39, 3) := by decide +kernel
theorem d_Exprs_endChoices_137 : decode b_Exprs_endChoices 137 = .ok (.iaload, 1) := by decide +kernel
theorem d_Exprs_endChoices_138 : decode b_Exprs_endChoices 138 = .ok (.iconst 4, 1) := by decide +kernel
theorem d_Exprs_endChoices_139 : decode b_Exprs_endChoices 139 = .ok (.invokevirtual 101, 3) := by decide +kernel
theorem d_Exprs_endChoices_142 : decode b_Exprs_endChoices 142 = .ok (.iconst 1, 1) := by decide +kernel
theorem d_Exprs_endChoices_143 : decode b_Exprs_endChoices 143 = .ok (.istore 5, 2) := by decide +kernel
theorem d_Exprs_endChoices_145 : decode b_Exprs_endChoices 145 = .ok (.aload_n 0, 1) := by decide +kernel
theorem d_Exprs_endChoices_146 : decode b_Exprs_endChoices 146 = .ok (.iload 5, 2) := by decide +kernel
theorem d_Exprs_endChoices_148 : decode b_Exprs_endChoices 148 = .ok (.ifCond .eq (7), 3) := by decide +kernel
theorem d_Exprs_endChoices_151 : decode b_Exprs_endChoices 151 = .ok (.iconst 0, 1) := by decide +kernel
theorem d_Exprs_endChoices_152 : decode b_Exprs_endChoices 152 = .ok (.goto (4), 3) := by decide +kernel
theorem d_Exprs_endChoices_155 : decode b_Exprs_endChoices 155 = .ok (.iload_n 3, 1) := by decide +kernel
theorem d_Exprs_endChoices_156 : decode b_Exprs_endChoices 156 = .ok (.invokevirtual 102, 3) := by decide +kernel
theorem d_Exprs_endChoices_159 : decode b_Exprs_endChoices 159 = .ok (.iinc 1 (1), 3) := by decide +kernel
theorem d_Exprs_endChoices_162 : decode b_Exprs_endChoices 162 = .ok (.goto (-160), 3) := by decide +kernel
theorem d_Exprs_endChoices_165 : decode b_Exprs_endChoices 165 = .ok (.return_, 1) := by decide +kernel
set_option maxHeartbeats 4000000 in
set_option maxRecDepth 100000 in
theorem c_Exprs_endChoices_a (l : Launch) {dA : FieldType → ClassId} {D : va_G} {al : Nat → Nat} {ext : mv_Sh} {sk sv : Nat → Nat} (hi : mv_inj (mg dA D al ext)) (σ : mv_H) {t len n z sz th sl e0 bs ns : Nat} {BL : (Nat → Nat) → Prop} {f0 : Nat → Int32} {g0 : Nat → Int64} {ms : List Mk} {s0 bd a : Nat} (hB0 : SB 32 σ t len n z sz th sl) (ht2 : t = 1 ∨ t = 144) (hX0 : XM 32 th e0 bs BL f0 g0 ns σ (ms) (sm wt ms + 1) (sm wr ms + 1) (s0)) (hI0 : TI σ sz bd ms s0 a) (hlen : len ≤ 32768) (hbs : bs ≤ 1) : mv_C l y_Exprs_endChoices (Cond.code y_Exprs_endChoices b_Exprs_endChoices 6 (Option.none : Option Jvm.ClassFile.FieldType) :: ma) ({ frames := 2, cells := 0, slots := 0, locals := 44 }) (mg dA D al ext) (mK sk sv) [.ref (al 22)] σ (mv_Rv (fun σ1 => RF 32 σ σ1 ∧ ∃ ms2 s2, XM 32 th e0 bs BL f0 g0 ns σ1 (ms2) (sm wt ms2 + 1) (sm wr ms2 + 1) (s2) ∧ TI σ1 sz bd ms2 s2 a ∧ mv_i σ1 3 7 = mv_i σ 3 7 ∧ mv_i σ1 3 9 = mv_i σ 3 9)) := by
  refine mv_C.ofV (cc := b_Exprs_endChoices) (nL := 6) (ret := (Option.none : Option Jvm.ClassFile.FieldType)) (by decide +kernel) rfl hi (Nat.le_of_ble_eq_true rfl) ?_
  intro p e s m below meth c B hNs hr hnm hno
  have hP : PQ 32 := by unfold PQ; omega
  have hR := hB0.1
  have hF : RF 32 σ σ := RF0
  have hT : mv_i σ 3 = mv_i σ 3 := rfl
  have hsz := hB0.2.1.2.2.2.2.2
  have ha9 := hI0.2.2.2.2.2.1
  have lp : ∀ (nn : Nat) (τ : mv_H) (tt : Int32) (ms : List Mk) (s1 : Nat) (hR : Rw 32 (mv_r τ)) (hF : RF 32 σ τ) (hX : XM 32 th e0 bs BL f0 g0 ns τ (ms) (sm wt ms + 1) (sm wr ms + 1) (s1)) (hI : TI τ sz bd ms s1 a) (h7 : mv_i τ 3 7 = mv_i σ 3 7) (h9 : mv_i τ 3 9 = mv_i σ 3 9) (q0 : 0 ≤ tt.toInt) (q1 : tt.toInt ≤ 61), (61 - tt.toInt).toNat < nn → mv_V p l e ({ frames := 2, cells := 0, slots := 0, locals := 44 }) s m ([.ref (al 22)] : List Value).toArray below meth c (mg dA D al ext) 6 0 0 (mv_Q (mg dA D al ext) below s 0 0 (mv_Rv (fun σ1 => RF 32 σ σ1 ∧ ∃ ms2 s2, XM 32 th e0 bs BL f0 g0 ns σ1 (ms2) (sm wt ms2 + 1) (sm wr ms2 + 1) (s2) ∧ TI σ1 sz bd ms2 s2 a ∧ mv_i σ1 3 7 = mv_i σ 3 7 ∧ mv_i σ1 3 9 = mv_i σ 3 9))) τ 2 [(1, .int tt), (0, .ref (al 22))] [] := by
    intro nn
    induction nn with
    | zero => intro τ tt ms s1 hR hF hX hI h7 h9 q0 q1 hm; exact absurd hm (Nat.not_lt_zero _)
    | succ nn ih =>
      intro τ tt ms s1 hR hF hX hI h7 h9 q0 q1 hm
      have j32 : ∀ (w8 : Int32) (ms2 : List Mk) (hX : XM 32 th e0 bs BL f0 g0 ns τ (((58, w8) : Mk) :: ms2) (sm wt (((58, w8) : Mk) :: ms2) + 1) (sm wr (((58, w8) : Mk) :: ms2) + 1) (s1)) (hI : TI τ sz bd (((58, w8) : Mk) :: ms2) s1 a) (h5 : ¬ (60 : Int) < tt.toInt), mv_V p l e ({ frames := 2, cells := 0, slots := 0, locals := 44 }) s m ([.ref (al 22)] : List Value).toArray below meth c (mg dA D al ext) 6 0 0 (mv_Q (mg dA D al ext) below s 0 0 (mv_Rv (fun σ1 => RF 32 σ σ1 ∧ ∃ ms2 s2, XM 32 th e0 bs BL f0 g0 ns σ1 (ms2) (sm wt ms2 + 1) (sm wr ms2 + 1) (s2) ∧ TI σ1 sz bd ms2 s2 a ∧ mv_i σ1 3 7 = mv_i σ 3 7 ∧ mv_i σ1 3 9 = mv_i σ 3 9))) τ 32 [(1, .int tt), (0, .ref (al 22))] [] := by
        intro w8 ms2 hX hI h5
        obtain ⟨p1, p2, p3, p4⟩ := hX.top
        have pl := hI.len hX
        have pl1 : (((58, w8) : Mk) :: ms2).length = ms2.length + 1 := rfl
        have t2 : (tt + 1).toInt = tt.toInt + 1 := i32_inc (by omega)
        have s1e : sm wt (((58, w8) : Mk) :: ms2) = wt (58, w8) + sm wt ms2 := rfl
        have s2e : sm wr (((58, w8) : Mk) :: ms2) = wr (58, w8) + sm wr ms2 := rfl
        have s3e : sm wc (((58, w8) : Mk) :: ms2) = wc (58, w8) + sm wc ms2 := rfl
        have s4e : sm wd (((58, w8) : Mk) :: ms2) = wd (58, w8) + sm wd ms2 := rfl
        have hI5 := hI.2.2.2.2.1
        have hsz := hB0.2.1.2.2.2.2.2
        have ha9 := hI.2.2.2.2.2.1
        have y1 : wt (58, w8) = 1 := rfl
        have y2 : wr (58, w8) = 0 := rfl
        have y3 : wc (58, w8) = 0 := rfl
        have y4 : wd (58, w8) = 1 := rfl
        obtain ⟨u8, v1, v2, v3⟩ := hX.1.2.2.2.2.2.head.1 (Or.inr rfl)
        have v1 : w8.toInt = u8 := v1
        have v4 := hX.2.1.1
        have j156 : ∀ (υ : mv_H) (x9 : Int32) (hR : Rw 32 (mv_r υ)) (hF : RF 32 σ υ) (hX : XM 32 th e0 bs BL f0 g0 ns υ (ms2) (sm wt ms2) (sm wr ms2 + 1) (s1)) (d7 : mv_i υ 3 7 = mv_i τ 3 7) (d8 : mv_i υ 3 8 = mv_i τ 3 8 - 1) (d9 : mv_i υ 3 9 = mv_i τ 3 9), mv_V p l e ({ frames := 2, cells := 0, slots := 0, locals := 44 }) s m ([.ref (al 22)] : List Value).toArray below meth c (mg dA D al ext) 6 0 0 (mv_Q (mg dA D al ext) below s 0 0 (mv_Rv (fun σ1 => RF 32 σ σ1 ∧ ∃ ms2 s2, XM 32 th e0 bs BL f0 g0 ns σ1 (ms2) (sm wt ms2 + 1) (sm wr ms2 + 1) (s2) ∧ TI σ1 sz bd ms2 s2 a ∧ mv_i σ1 3 7 = mv_i σ 3 7 ∧ mv_i σ1 3 9 = mv_i σ 3 9))) υ 156 [(1, .int tt), (0, .ref (al 22))] [.int x9, .ref (al 22)] := by
          intro υ x9 hR hF hX d7 d8 d9
          refine mv_callVv (pc := 156) (n := 1) (ci := 6) (C := R_Exprs) B (mK_ok sk sv) hNs rfl rfl (c_Exprs_hold l hi _ _ hR.1 (by have := hX.1.2.2.1; omega) (by have := hX.1.2.2.1; omega)) rfl (ma_goodc kc_Exprs_hold) (B.2.2.2.1 _ k_1432) (B.2.2.2.1 _ k_1434) (B.2.2.2.1 _ ks_51) (B.2.2.2.1 _ k_7) ⟨by decide +kernel, by decide +kernel, by decide +kernel⟩ rfl d_Exprs_endChoices_156 rfl (Nat.le_of_ble_eq_true rfl) ⟨by decide, by decide⟩ ⟨by decide, by decide⟩ ⟨by decide, by decide⟩ (mv_noH hno _) (fun σ156 h156 => ?_)
          subst h156
          refine mv_gen (fun S159 eS159 => ?_)
          have hR : Rw 32 (mv_r S159) := by rw [eS159]; exact hR
          have hF : RF 32 σ S159 := by rw [eS159]; exact hF.hold _
          have hX : XM 32 th e0 bs BL f0 g0 ns S159 (ms2) (sm wt ms2 + 1) (sm wr ms2 + 1) (s1) := by rw [eS159]; exact hX.hold hP (by omega) _
          have d7 : mv_i S159 3 7 = mv_i τ 3 7 := by rw [eS159]; exact d7
          have d8 : mv_i S159 3 8 = mv_i τ 3 8 - 1 := by rw [eS159]; exact d8
          have d9 : mv_i S159 3 9 = mv_i τ 3 9 := by rw [eS159]; exact d9
          have go := ih S159 (tt + 1) ms2 s1 hR hF hX (hI.dn d7 d8 d9 (by omega) (by omega) hI.2.2.2.2.2.2.tail) (d7.trans h7) (d9.trans h9) (by omega) (by omega) (by omega)
          clear eS159
          refine mv_iinc (pc := 159) (j := 0) (v := 1) B d_Exprs_endChoices_159 rfl (by decide) (by decide) rfl ?_
          refine mv_goto (pc := 162) (tgt := 2) B d_Exprs_endChoices_162 rfl ?_
          refine mv_lpick [0, 1] rfl ?_
          exact go
        have j145 : ∀ (υ : mv_H) (fl : Int32) (ys : Int32) (hR : Rw 32 (mv_r υ)) (hF : RF 32 σ υ) (hX : XM 32 th e0 bs BL f0 g0 ns υ (ms2) (sm wt ms2) (sm wr ms2 + 1) (s1)) (d7 : mv_i υ 3 7 = mv_i τ 3 7) (d8 : mv_i υ 3 8 = mv_i τ 3 8 - 1) (d9 : mv_i υ 3 9 = mv_i τ 3 9), mv_V p l e ({ frames := 2, cells := 0, slots := 0, locals := 44 }) s m ([.ref (al 22)] : List Value).toArray below meth c (mg dA D al ext) 6 0 0 (mv_Q (mg dA D al ext) below s 0 0 (mv_Rv (fun σ1 => RF 32 σ σ1 ∧ ∃ ms2 s2, XM 32 th e0 bs BL f0 g0 ns σ1 (ms2) (sm wt ms2 + 1) (sm wr ms2 + 1) (s2) ∧ TI σ1 sz bd ms2 s2 a ∧ mv_i σ1 3 7 = mv_i σ 3 7 ∧ mv_i σ1 3 9 = mv_i σ 3 9))) υ 145 [(5, .int fl), (3, .int ys), (1, .int tt), (0, .ref (al 22))] [] := by
          intro υ fl ys hR hF hX d7 d8 d9
          refine mv_aload_n (pc := 145) B d_Exprs_endChoices_145 rfl 3 rfl ?_
          refine mv_iload (pc := 146) B d_Exprs_endChoices_146 0 rfl ?_
          refine mv_if_eq (pc := 148) (tgt := 155) B d_Exprs_endChoices_148 rfl (fun h148 => ?_) (fun h148 => ?_)
          · skip
            refine mv_iload_n (pc := 155) B d_Exprs_endChoices_155 rfl 1 rfl ?_
            refine mv_lpick [2, 3] rfl ?_
            exact j156 _ _ hR hF hX d7 d8 d9
          · skip
            refine mv_iconst (pc := 151) (v := 0) B d_Exprs_endChoices_151 (by decide) ?_
            refine mv_goto (pc := 152) (tgt := 156) B d_Exprs_endChoices_152 rfl ?_
            refine mv_lpick [2, 3] rfl ?_
            exact j156 _ _ hR hF hX d7 d8 d9
        have j110 : ∀ (υ : mv_H) (fl : Int32) (cn : Int32) (ys : Int32) (no : Int32) (hR : Rw 32 (mv_r υ)) (hF : RF 32 σ υ) (hX : XM 32 th e0 bs BL f0 g0 ns υ (ms2) (sm wt ms2) (sm wr ms2 + 1) (s1)) (d7 : mv_i υ 3 7 = mv_i τ 3 7) (d8 : mv_i υ 3 8 = mv_i τ 3 8 - 1) (d9 : mv_i υ 3 9 = mv_i τ 3 9), mv_V p l e ({ frames := 2, cells := 0, slots := 0, locals := 44 }) s m ([.ref (al 22)] : List Value).toArray below meth c (mg dA D al ext) 6 0 0 (mv_Q (mg dA D al ext) below s 0 0 (mv_Rv (fun σ1 => RF 32 σ σ1 ∧ ∃ ms2 s2, XM 32 th e0 bs BL f0 g0 ns σ1 (ms2) (sm wt ms2 + 1) (sm wr ms2 + 1) (s2) ∧ TI σ1 sz bd ms2 s2 a ∧ mv_i σ1 3 7 = mv_i σ 3 7 ∧ mv_i σ1 3 9 = mv_i σ 3 9))) υ 110 [(4, .int cn), (3, .int ys), (2, .int no), (1, .int tt), (0, .ref (al 22))] [.int fl] := by
          intro υ fl cn ys no hR hF hX d7 d8 d9
          have hk9 := hX.tok (i := (mv_i υ 22 8).toNatClampNeg) (by have := hX.n; omega)
          refine mv_istore (pc := 110) B d_Exprs_endChoices_110 (by decide) rfl ?_
          refine mv_iload (pc := 112) B d_Exprs_endChoices_112 0 rfl ?_
          refine mv_if_ne (pc := 114) (tgt := 145) B d_Exprs_endChoices_114 rfl (fun h114 => ?_) (fun h114 => ?_)
          · skip
            refine mv_lpick [0, 2, 4, 5] rfl ?_
            exact j145 _ _ _ hR hF hX d7 d8 d9
          · skip
            refine mv_iload (pc := 117) B d_Exprs_endChoices_117 1 rfl ?_
            refine mv_iconst (pc := 119) (v := 1) B d_Exprs_endChoices_119 (by decide) ?_
            refine mv_icmp_ne (pc := 120) (tgt := 128) B d_Exprs_endChoices_120 rfl (fun h120 => ?_) (fun h120 => ?_)
            · skip
              refine mv_aload_n (pc := 128) B d_Exprs_endChoices_128 rfl 5 rfl ?_
              refine mv_aload_n (pc := 129) B d_Exprs_endChoices_129 rfl 5 rfl ?_
              refine mv_getR (pc := 130) (ci := 6) (C := R_Exprs) (T := F_Exprs) (N := 11) B 5 rfl rfl (by decide) i_Exprs (B.2.2.2.1 _ k_199) rfl (hR.1 _ 5 _ rfl) d_Exprs_endChoices_130 ?_
              refine mv_aload_n (pc := 133) B d_Exprs_endChoices_133 rfl 5 rfl ?_
              refine mv_getI (pc := 134) (ci := 6) (C := R_Exprs) (T := F_Exprs) (N := 11) B 8 rfl rfl (by decide) i_Exprs (B.2.2.2.1 _ k_202) rfl d_Exprs_endChoices_134 ?_
              refine mv_iald (pc := 137) B rfl (i32_in (show 0 ≤ (mv_i υ 22 8).toInt by have := hX.1.1; omega) (show (mv_i υ 22 8).toInt < 1024 by have := hX.1.1; omega)) d_Exprs_endChoices_137 ?_
              refine mv_iconst (pc := 138) (v := 4) B d_Exprs_endChoices_138 (by decide) ?_
              refine mv_callVv (pc := 139) (n := 2) (ci := 6) (C := R_Exprs) B (mK_ok sk sv) hNs rfl rfl (c_Exprs_tell l hi _ _ _ hR.1 hk9.1 hk9.2 (by decide)) rfl (ma_goodc kc_Exprs_tell) (B.2.2.2.1 _ k_1427) (B.2.2.2.1 _ k_1429) (B.2.2.2.1 _ ks_50) (B.2.2.2.1 _ k_7) ⟨by decide +kernel, by decide +kernel, by decide +kernel⟩ rfl d_Exprs_endChoices_139 rfl (Nat.le_of_ble_eq_true rfl) ⟨by decide, by decide⟩ ⟨by decide, by decide⟩ ⟨by decide, by decide⟩ (mv_noH hno _) (fun σ139 h139 => ?_)
              obtain ⟨x9, y9, e139, z139⟩ := h139
              subst e139
              refine mv_gen (fun S142 eS142 => ?_)
              have hR : Rw 32 (mv_r S142) := by rw [eS142]; exact hR
              have hF : RF 32 σ S142 := by rw [eS142]; exact hF.tell _ _
              have hX : XM 32 th e0 bs BL f0 g0 ns S142 (ms2) (sm wt ms2) (sm wr ms2 + 1) (s1) := by rw [eS142]; exact hX.tell hP z139 _ _
              have d7 : mv_i S142 3 7 = mv_i τ 3 7 := by rw [eS142]; exact d7
              have d8 : mv_i S142 3 8 = mv_i τ 3 8 - 1 := by rw [eS142]; exact d8
              have d9 : mv_i S142 3 9 = mv_i τ 3 9 := by rw [eS142]; exact d9
              clear eS142
              refine mv_iconst (pc := 142) (v := 1) B d_Exprs_endChoices_142 (by decide) ?_
              refine mv_istore (pc := 143) B d_Exprs_endChoices_143 (by decide) rfl ?_
              refine mv_lpick [0, 2, 4, 5] rfl ?_
              exact j145 _ _ _ hR hF hX d7 d8 d9
            · skip
              refine mv_iload_n (pc := 123) B d_Exprs_endChoices_123 rfl 2 rfl ?_
              refine mv_iload_n (pc := 124) B d_Exprs_endChoices_124 rfl 3 rfl ?_
              refine mv_icmp_eq (pc := 125) (tgt := 145) B d_Exprs_endChoices_125 rfl (fun h125 => ?_) (fun h125 => ?_)
              · skip
                refine mv_lpick [0, 2, 4, 5] rfl ?_
                exact j145 _ _ _ hR hF hX d7 d8 d9
              · skip
                refine mv_aload_n (pc := 128) B d_Exprs_endChoices_128 rfl 5 rfl ?_
                refine mv_aload_n (pc := 129) B d_Exprs_endChoices_129 rfl 5 rfl ?_
                refine mv_getR (pc := 130) (ci := 6) (C := R_Exprs) (T := F_Exprs) (N := 11) B 5 rfl rfl (by decide) i_Exprs (B.2.2.2.1 _ k_199) rfl (hR.1 _ 5 _ rfl) d_Exprs_endChoices_130 ?_
                refine mv_aload_n (pc := 133) B d_Exprs_endChoices_133 rfl 5 rfl ?_
                refine mv_getI (pc := 134) (ci := 6) (C := R_Exprs) (T := F_Exprs) (N := 11) B 8 rfl rfl (by decide) i_Exprs (B.2.2.2.1 _ k_202) rfl d_Exprs_endChoices_134 ?_
                refine mv_iald (pc := 137) B rfl (i32_in (show 0 ≤ (mv_i υ 22 8).toInt by have := hX.1.1; omega) (show (mv_i υ 22 8).toInt < 1024 by have := hX.1.1; omega)) d_Exprs_endChoices_137 ?_
                refine mv_iconst (pc := 138) (v := 4) B d_Exprs_endChoices_138 (by decide) ?_
                refine mv_callVv (pc := 139) (n := 2) (ci := 6) (C := R_Exprs) B (mK_ok sk sv) hNs rfl rfl (c_Exprs_tell l hi _ _ _ hR.1 hk9.1 hk9.2 (by decide)) rfl (ma_goodc kc_Exprs_tell) (B.2.2.2.1 _ k_1427) (B.2.2.2.1 _ k_1429) (B.2.2.2.1 _ ks_50) (B.2.2.2.1 _ k_7) ⟨by decide +kernel, by decide +kernel, by decide +kernel⟩ rfl d_Exprs_endChoices_139 rfl (Nat.le_of_ble_eq_true rfl) ⟨by decide, by decide⟩ ⟨by decide, by decide⟩ ⟨by decide, by decide⟩ (mv_noH hno _) (fun σ139 h139 => ?_)
                obtain ⟨x9, y9, e139, z139⟩ := h139
                subst e139
                refine mv_gen (fun S142 eS142 => ?_)
                have hR : Rw 32 (mv_r S142) := by rw [eS142]; exact hR
                have hF : RF 32 σ S142 := by rw [eS142]; exact hF.tell _ _
                have hX : XM 32 th e0 bs BL f0 g0 ns S142 (ms2) (sm wt ms2) (sm wr ms2 + 1) (s1) := by rw [eS142]; exact hX.tell hP z139 _ _
                have d7 : mv_i S142 3 7 = mv_i τ 3 7 := by rw [eS142]; exact d7
                have d8 : mv_i S142 3 8 = mv_i τ 3 8 - 1 := by rw [eS142]; exact d8
                have d9 : mv_i S142 3 9 = mv_i τ 3 9 := by rw [eS142]; exact d9
                clear eS142
                refine mv_iconst (pc := 142) (v := 1) B d_Exprs_endChoices_142 (by decide) ?_
                refine mv_istore (pc := 143) B d_Exprs_endChoices_143 (by decide) rfl ?_
                refine mv_lpick [0, 2, 4, 5] rfl ?_
                exact j145 _ _ _ hR hF hX d7 d8 d9
        refine mv_aload_n (pc := 32) B d_Exprs_endChoices_32 rfl 1 rfl ?_
        refine mv_dup (pc := 33) B d_Exprs_endChoices_33 rfl ?_
        refine mv_getI (pc := 34) (ci := 6) (C := R_Exprs) (T := F_Exprs) (N := 11) B 8 rfl rfl (by decide) i_Exprs (B.2.2.2.1 _ k_202) rfl d_Exprs_endChoices_34 ?_
        refine mv_iconst (pc := 37) (v := 1) B d_Exprs_endChoices_37 (by decide) ?_
        refine mv_isub (pc := 38) B d_Exprs_endChoices_38 ?_
        refine mv_putI (pc := 39) (ci := 6) (C := R_Exprs) (T := F_Exprs) (N := 11) B 8 rfl rfl (by decide) i_Exprs t_Exprs_ok n_Exprs (B.2.2.2.1 _ k_202) rfl rfl rfl rfl d_Exprs_endChoices_39 ?_
        refine mv_aload_n (pc := 42) B d_Exprs_endChoices_42 rfl 1 rfl ?_
        refine mv_getR (pc := 43) (ci := 6) (C := R_Exprs) (T := F_Exprs) (N := 11) B 0 rfl rfl (by decide) i_Exprs (B.2.2.2.1 _ k_193) rfl (hR.1 _ 0 _ rfl) d_Exprs_endChoices_43 ?_
        refine mv_dup (pc := 46) B d_Exprs_endChoices_46 rfl ?_
        refine mv_getI (pc := 47) (ci := 2) (C := R_Tokens) (T := F_Tokens) (N := 10) B 8 rfl rfl (by decide) i_Tokens (B.2.2.2.1 _ k_104) rfl d_Exprs_endChoices_47 ?_
        refine mv_iconst (pc := 50) (v := 1) B d_Exprs_endChoices_50 (by decide) ?_
        refine mv_isub (pc := 51) B d_Exprs_endChoices_51 ?_
        refine mv_putI (pc := 52) (ci := 2) (C := R_Tokens) (T := F_Tokens) (N := 10) B 8 rfl rfl (by decide) i_Tokens t_Tokens_ok n_Tokens (B.2.2.2.1 _ k_104) rfl rfl rfl rfl d_Exprs_endChoices_52 ?_
        refine mv_gen (fun S55 eS55 => ?_)
        have hR : Rw 32 (mv_r S55) := by rw [eS55]; exact hR
        have hF : RF 32 σ S55 := by rw [eS55]; exact hF.pop.c3 ⟨by omega, by omega⟩ _
        have p5 : mv_a S55 25 (mv_i S55 22 8).toNatClampNeg = w8 := by rw [eS55]; exact p4
        have p6 : mv_i S55 32 17 = mv_i τ 32 17 := by rw [eS55]; rfl
        have p7 : (mv_i S55 22 8).toInt = ms2.length := by rw [eS55]; exact p1
        have hX : XM 32 th e0 bs BL f0 g0 ns (mv_sb S55 42 w8.toNatClampNeg (mv_i S55 32 17).toInt64) (ms2) (sm wt ms2 + 2) (sm wr ms2 + 1) (s1) := by
          have hX2 := hX
          rw [s1e, s2e, y1, y2, show 1 + sm wt ms2 + 1 = sm wt ms2 + 2 by omega, Nat.zero_add] at hX2
          have := (hX2.chosen hP (w1 := (mv_i S55 32 17).toInt64) (by rw [lg_toInt, p6]; exact v4)).c3 hP 8 (mv_i τ 3 8 - 1)
          rw [eS55] at this ⊢
          exact this
        have d7 : mv_i S55 3 7 = mv_i τ 3 7 := by rw [eS55]; rfl
        have d8 : mv_i S55 3 8 = mv_i τ 3 8 - 1 := by rw [eS55]; rfl
        have d9 : mv_i S55 3 9 = mv_i τ 3 9 := by rw [eS55]; rfl
        clear eS55
        refine mv_aload_n (pc := 55) B d_Exprs_endChoices_55 rfl 1 rfl ?_
        refine mv_getR (pc := 56) (ci := 6) (C := R_Exprs) (T := F_Exprs) (N := 11) B 3 rfl rfl (by decide) i_Exprs (B.2.2.2.1 _ k_197) rfl hR.2.2.2 d_Exprs_endChoices_56 ?_
        refine mv_aload_n (pc := 59) B d_Exprs_endChoices_59 rfl 1 rfl ?_
        refine mv_getR (pc := 60) (ci := 6) (C := R_Exprs) (T := F_Exprs) (N := 11) B 6 rfl rfl (by decide) i_Exprs (B.2.2.2.1 _ k_200) rfl (hR.1 _ 6 _ rfl) d_Exprs_endChoices_60 ?_
        refine mv_aload_n (pc := 63) B d_Exprs_endChoices_63 rfl 1 rfl ?_
        refine mv_getI (pc := 64) (ci := 6) (C := R_Exprs) (T := F_Exprs) (N := 11) B 8 rfl rfl (by decide) i_Exprs (B.2.2.2.1 _ k_202) rfl d_Exprs_endChoices_64 ?_
        refine mv_iald (pc := 67) B rfl (i32_in (by omega) (by omega)) d_Exprs_endChoices_67 ?_
        rw [p5]
        refine mv_callVv (pc := 68) (n := 1) (ci := 7) (C := R_Program) B (mK_ok sk sv) hNs rfl rfl (c_Program_aim_a l hi _ _ hR.2.1 (by omega)) rfl (ma_goodc kc_Program_aim) (B.2.2.2.1 _ k_1501) (B.2.2.2.1 _ k_1403) (B.2.2.2.1 _ k_1404) (B.2.2.2.1 _ k_8) ⟨by decide +kernel, by decide +kernel, by decide +kernel⟩ rfl d_Exprs_endChoices_68 rfl (Nat.le_of_ble_eq_true rfl) ⟨by decide, by decide⟩ ⟨by decide, by decide⟩ ⟨by decide, by decide⟩ (mv_noH hno _) (fun σ68 h68 => ?_)
        have h68 := (h68.resolve_left (fun q => by omega)).2
        subst h68
        refine mv_gen (fun S71 eS71 => ?_)
        have hR : Rw 32 (mv_r S71) := by rw [eS71]; exact hR
        have hF : RF 32 σ S71 := by rw [eS71]; exact hF.aim _ _
        have hX : XM 32 th e0 bs BL f0 g0 ns S71 (ms2) (sm wt ms2 + 2) (sm wr ms2 + 1) (s1) := by rw [eS71]; exact hX
        have d7 : mv_i S71 3 7 = mv_i τ 3 7 := by rw [eS71]; exact d7
        have d8 : mv_i S71 3 8 = mv_i τ 3 8 - 1 := by rw [eS71]; exact d8
        have d9 : mv_i S71 3 9 = mv_i τ 3 9 := by rw [eS71]; exact d9
        clear eS71
        refine mv_aload_n (pc := 71) B d_Exprs_endChoices_71 rfl 1 rfl ?_
        refine mv_callVi (pc := 72) (n := 0) (ci := 6) (C := R_Exprs) B (mK_ok sk sv) hNs rfl rfl (c_Exprs_release l hi _ hR.1 (by have := hX.1.2.2.1; omega) (by have := hX.1.2.2.1; omega)) rfl (ma_goodc kc_Exprs_release) (B.2.2.2.1 _ k_1469) (B.2.2.2.1 _ k_1470) (B.2.2.2.1 _ k_1471) (B.2.2.2.1 _ k_7) ⟨by decide +kernel, by decide +kernel, by decide +kernel⟩ rfl d_Exprs_endChoices_72 rfl (Nat.le_of_ble_eq_true rfl) ⟨by decide, by decide⟩ ⟨by decide, by decide⟩ ⟨by decide, by decide⟩ (mv_noH hno _) (fun v72 σ72 h72 => ?_)
        subst h72
        refine mv_gen (fun S75 eS75 => ?_)
        have hR : Rw 32 (mv_r S75) := by rw [eS75]; exact hR
        have hF : RF 32 σ S75 := by rw [eS75]; exact hF.rel
        have hX : XM 32 th e0 bs BL f0 g0 ns S75 (ms2) (sm wt ms2 + 1) (sm wr ms2 + 1) (s1) := by rw [eS75]; exact hX.rel hP
        have d7 : mv_i S75 3 7 = mv_i τ 3 7 := by rw [eS75]; exact d7
        have d8 : mv_i S75 3 8 = mv_i τ 3 8 - 1 := by rw [eS75]; exact d8
        have d9 : mv_i S75 3 9 = mv_i τ 3 9 := by rw [eS75]; exact d9
        clear eS75
        refine mv_istore_n (pc := 75) B d_Exprs_endChoices_75 rfl (by decide) rfl ?_
        refine mv_aload_n (pc := 76) B d_Exprs_endChoices_76 rfl 2 rfl ?_
        refine mv_callVi (pc := 77) (n := 0) (ci := 6) (C := R_Exprs) B (mK_ok sk sv) hNs rfl rfl (c_Exprs_release l hi _ hR.1 (by have := hX.1.2.2.1; omega) (by have := hX.1.2.2.1; omega)) rfl (ma_goodc kc_Exprs_release) (B.2.2.2.1 _ k_1469) (B.2.2.2.1 _ k_1470) (B.2.2.2.1 _ k_1471) (B.2.2.2.1 _ k_7) ⟨by decide +kernel, by decide +kernel, by decide +kernel⟩ rfl d_Exprs_endChoices_77 rfl (Nat.le_of_ble_eq_true rfl) ⟨by decide, by decide⟩ ⟨by decide, by decide⟩ ⟨by decide, by decide⟩ (mv_noH hno _) (fun v77 σ77 h77 => ?_)
        subst h77
        refine mv_gen (fun S80 eS80 => ?_)
        have hR : Rw 32 (mv_r S80) := by rw [eS80]; exact hR
        have hF : RF 32 σ S80 := by rw [eS80]; exact hF.rel
        have hX : XM 32 th e0 bs BL f0 g0 ns S80 (ms2) (sm wt ms2) (sm wr ms2 + 1) (s1) := by rw [eS80]; exact hX.rel hP
        have d7 : mv_i S80 3 7 = mv_i τ 3 7 := by rw [eS80]; exact d7
        have d8 : mv_i S80 3 8 = mv_i τ 3 8 - 1 := by rw [eS80]; exact d8
        have d9 : mv_i S80 3 9 = mv_i τ 3 9 := by rw [eS80]; exact d9
        clear eS80
        refine mv_istore_n (pc := 80) B d_Exprs_endChoices_80 rfl (by decide) rfl ?_
        refine mv_aload_n (pc := 81) B d_Exprs_endChoices_81 rfl 3 rfl ?_
        refine mv_getR (pc := 82) (ci := 6) (C := R_Exprs) (T := F_Exprs) (N := 11) B 7 rfl rfl (by decide) i_Exprs (B.2.2.2.1 _ k_201) rfl (hR.1 _ 7 _ rfl) d_Exprs_endChoices_82 ?_
        refine mv_aload_n (pc := 85) B d_Exprs_endChoices_85 rfl 3 rfl ?_
        refine mv_getI (pc := 86) (ci := 6) (C := R_Exprs) (T := F_Exprs) (N := 11) B 8 rfl rfl (by decide) i_Exprs (B.2.2.2.1 _ k_202) rfl d_Exprs_endChoices_86 ?_
        refine mv_iald (pc := 89) B rfl (i32_in (show 0 ≤ (mv_i S80 22 8).toInt by have := hX.1.1; omega) (show (mv_i S80 22 8).toInt < 1024 by have := hX.1.1; omega)) d_Exprs_endChoices_89 ?_
        refine mv_istore (pc := 90) B d_Exprs_endChoices_90 (by decide) rfl ?_
        refine mv_iload (pc := 92) B d_Exprs_endChoices_92 0 rfl ?_
        refine mv_if_eq (pc := 94) (tgt := 105) B d_Exprs_endChoices_94 rfl (fun h94 => ?_) (fun h94 => ?_)
        · skip
          refine mv_iconst (pc := 105) (v := 1) B d_Exprs_endChoices_105 (by decide) ?_
          refine mv_goto (pc := 106) (tgt := 110) B d_Exprs_endChoices_106 rfl ?_
          refine mv_lpick [0, 1, 2, 3, 4] rfl ?_
          exact j110 _ _ _ _ _ hR hF hX d7 d8 d9
        · skip
          refine mv_iload_n (pc := 97) B d_Exprs_endChoices_97 rfl 1 rfl ?_
          refine mv_if_eq (pc := 98) (tgt := 105) B d_Exprs_endChoices_98 rfl (fun h98 => ?_) (fun h98 => ?_)
          · skip
            refine mv_iconst (pc := 105) (v := 1) B d_Exprs_endChoices_105 (by decide) ?_
            refine mv_goto (pc := 106) (tgt := 110) B d_Exprs_endChoices_106 rfl ?_
            refine mv_lpick [0, 1, 2, 3, 4] rfl ?_
            exact j110 _ _ _ _ _ hR hF hX d7 d8 d9
          · skip
            refine mv_iload_n (pc := 101) B d_Exprs_endChoices_101 rfl 2 rfl ?_
            refine mv_if_ne (pc := 102) (tgt := 109) B d_Exprs_endChoices_102 rfl (fun h102 => ?_) (fun h102 => ?_)
            · skip
              refine mv_iconst (pc := 109) (v := 0) B d_Exprs_endChoices_109 (by decide) ?_
              refine mv_lpick [0, 1, 2, 3, 4] rfl ?_
              exact j110 _ _ _ _ _ hR hF hX d7 d8 d9
            · skip
              refine mv_iconst (pc := 105) (v := 1) B d_Exprs_endChoices_105 (by decide) ?_
              refine mv_goto (pc := 106) (tgt := 110) B d_Exprs_endChoices_106 rfl ?_
              refine mv_lpick [0, 1, 2, 3, 4] rfl ?_
              exact j110 _ _ _ _ _ hR hF hX d7 d8 d9
      refine mv_iload_n (pc := 2) B d_Exprs_endChoices_2 rfl 0 rfl ?_
      refine mv_bipush (pc := 3) (v := 60) B d_Exprs_endChoices_3 (by decide) ?_
      refine mv_icmp_gt (pc := 5) (tgt := 165) B d_Exprs_endChoices_5 rfl (fun h5 => ?_) (fun h5 => ?_)
      · skip
        exact mv_vret (pc := 165) B hr d_Exprs_endChoices_165 (Nat.le_refl _) (Nat.le_refl _) ⟨rfl, hF, _, _, hX, hI, h7, h9⟩
      · skip
        rw [Int32.lt_iff_toInt_lt] at h5
        have h5 : ¬ (60 : Int) < tt.toInt := h5
        refine mv_aload_n (pc := 8) B d_Exprs_endChoices_8 rfl 1 rfl ?_
        refine mv_getI (pc := 9) (ci := 6) (C := R_Exprs) (T := F_Exprs) (N := 11) B 8 rfl rfl (by decide) i_Exprs (B.2.2.2.1 _ k_202) rfl d_Exprs_endChoices_9 ?_
        refine mv_if_le (pc := 12) (tgt := 165) B d_Exprs_endChoices_12 rfl (fun h12 => ?_) (fun h12 => ?_)
        · skip
          exact mv_vret (pc := 165) B hr d_Exprs_endChoices_165 (Nat.le_refl _) (Nat.le_refl _) ⟨rfl, hF, _, _, hX, hI, h7, h9⟩
        · skip
          rw [Int32.le_iff_toInt_le] at h12
          simp only [Int32.reduceToInt] at h12
          obtain ⟨k8, w8, ms2, ems⟩ := hX.ne (by omega)
          subst ems
          obtain ⟨p1, p2, p3, p4⟩ := hX.top
          have pl := hI.len hX
          have pl1 : (((k8, w8) : Mk) :: ms2).length = ms2.length + 1 := rfl
          have t2 : (tt + 1).toInt = tt.toInt + 1 := i32_inc (by omega)
          have s1e : sm wt (((k8, w8) : Mk) :: ms2) = wt (k8, w8) + sm wt ms2 := rfl
          have s2e : sm wr (((k8, w8) : Mk) :: ms2) = wr (k8, w8) + sm wr ms2 := rfl
          have s3e : sm wc (((k8, w8) : Mk) :: ms2) = wc (k8, w8) + sm wc ms2 := rfl
          have s4e : sm wd (((k8, w8) : Mk) :: ms2) = wd (k8, w8) + sm wd ms2 := rfl
          have hI5 := hI.2.2.2.2.1
          have hsz := hB0.2.1.2.2.2.2.2
          have ha9 := hI.2.2.2.2.2.1
          refine mv_aload_n (pc := 15) B d_Exprs_endChoices_15 rfl 1 rfl ?_
          refine mv_getR (pc := 16) (ci := 6) (C := R_Exprs) (T := F_Exprs) (N := 11) B 4 rfl rfl (by decide) i_Exprs (B.2.2.2.1 _ k_198) rfl (hR.1 _ 4 _ rfl) d_Exprs_endChoices_16 ?_
          refine mv_aload_n (pc := 19) B d_Exprs_endChoices_19 rfl 1 rfl ?_
          refine mv_getI (pc := 20) (ci := 6) (C := R_Exprs) (T := F_Exprs) (N := 11) B 8 rfl rfl (by decide) i_Exprs (B.2.2.2.1 _ k_202) rfl d_Exprs_endChoices_20 ?_
          refine mv_iconst (pc := 23) (v := 1) B d_Exprs_endChoices_23 (by decide) ?_
          refine mv_isub (pc := 24) B d_Exprs_endChoices_24 ?_
          refine mv_iald (pc := 25) B rfl (i32_in (by omega) (by omega)) d_Exprs_endChoices_25 ?_
          refine mv_bipush (pc := 26) (v := 58) B d_Exprs_endChoices_26 (by decide) ?_
          refine mv_icmp_eq (pc := 28) (tgt := 32) B d_Exprs_endChoices_28 rfl (fun h28 => ?_) (fun h28 => ?_)
          · skip
            rw [p3] at h28
            subst h28
            refine mv_lpick [0, 1] rfl ?_
            exact j32 _ _ hX hI h5
          · skip
            exact mv_vret (pc := 31) B hr d_Exprs_endChoices_31 (Nat.le_refl _) (Nat.le_refl _) ⟨rfl, hF, _, _, hX, hI, h7, h9⟩
  refine mv_iconst (pc := 0) (v := 0) B d_Exprs_endChoices_0 (by decide) ?_
  refine mv_istore_n (pc := 1) B d_Exprs_endChoices_1 rfl (by decide) rfl ?_
  refine mv_lpick [0, 1] rfl ?_
  exact lp _ _ _ ms s0 hR hF hX0 hI0 rfl rfl (by decide) (by decide) (Nat.lt_succ_self _)
set_option maxHeartbeats 4000000 in
set_option maxRecDepth 100000 in
theorem c_Exprs_endChoices_b (l : Launch) {dA : FieldType → ClassId} {D : va_G} {al : Nat → Nat} {ext : mv_Sh} {sk sv : Nat → Nat} (hi : mv_inj (mg dA D al ext)) (σ : mv_H) {t len n z sz th sl e0 bs ns : Nat} {BL : (Nat → Nat) → Prop} {f0 : Nat → Int32} {g0 : Nat → Int64} {ms : List Mk} {s0 bd a : Nat} (hB0 : SB 48 σ t len n z sz th sl) (ht2 : t = 1 ∨ t = 144) (hX0 : XM 48 th e0 bs BL f0 g0 ns σ (ms) (sm wt ms + 1) (sm wr ms + 1) (s0)) (hI0 : TI σ sz bd ms s0 a) (hlen : len ≤ 32768) (hbs : bs ≤ 1) : mv_C l y_Exprs_endChoices (Cond.code y_Exprs_endChoices b_Exprs_endChoices 6 (Option.none : Option Jvm.ClassFile.FieldType) :: ma) ({ frames := 2, cells := 0, slots := 0, locals := 44 }) (mg dA D al ext) (mK sk sv) [.ref (al 22)] σ (mv_Rv (fun σ1 => RF 48 σ σ1 ∧ ∃ ms2 s2, XM 48 th e0 bs BL f0 g0 ns σ1 (ms2) (sm wt ms2 + 1) (sm wr ms2 + 1) (s2) ∧ TI σ1 sz bd ms2 s2 a ∧ mv_i σ1 3 7 = mv_i σ 3 7 ∧ mv_i σ1 3 9 = mv_i σ 3 9)) := by
  refine mv_C.ofV (cc := b_Exprs_endChoices) (nL := 6) (ret := (Option.none : Option Jvm.ClassFile.FieldType)) (by decide +kernel) rfl hi (Nat.le_of_ble_eq_true rfl) ?_
  intro p e s m below meth c B hNs hr hnm hno
  have hP : PQ 48 := by unfold PQ; omega
  have hR := hB0.1
  have hF : RF 48 σ σ := RF0
  have hT : mv_i σ 3 = mv_i σ 3 := rfl
  have hsz := hB0.2.1.2.2.2.2.2
  have ha9 := hI0.2.2.2.2.2.1
  have lp : ∀ (nn : Nat) (τ : mv_H) (tt : Int32) (ms : List Mk) (s1 : Nat) (hR : Rw 48 (mv_r τ)) (hF : RF 48 σ τ) (hX : XM 48 th e0 bs BL f0 g0 ns τ (ms) (sm wt ms + 1) (sm wr ms + 1) (s1)) (hI : TI τ sz bd ms s1 a) (h7 : mv_i τ 3 7 = mv_i σ 3 7) (h9 : mv_i τ 3 9 = mv_i σ 3 9) (q0 : 0 ≤ tt.toInt) (q1 : tt.toInt ≤ 61), (61 - tt.toInt).toNat < nn → mv_V p l e ({ frames := 2, cells := 0, slots := 0, locals := 44 }) s m ([.ref (al 22)] : List Value).toArray below meth c (mg dA D al ext) 6 0 0 (mv_Q (mg dA D al ext) below s 0 0 (mv_Rv (fun σ1 => RF 48 σ σ1 ∧ ∃ ms2 s2, XM 48 th e0 bs BL f0 g0 ns σ1 (ms2) (sm wt ms2 + 1) (sm wr ms2 + 1) (s2) ∧ TI σ1 sz bd ms2 s2 a ∧ mv_i σ1 3 7 = mv_i σ 3 7 ∧ mv_i σ1 3 9 = mv_i σ 3 9))) τ 2 [(1, .int tt), (0, .ref (al 22))] [] := by
    intro nn
    induction nn with
    | zero => intro τ tt ms s1 hR hF hX hI h7 h9 q0 q1 hm; exact absurd hm (Nat.not_lt_zero _)
    | succ nn ih =>
      intro τ tt ms s1 hR hF hX hI h7 h9 q0 q1 hm
      have j32 : ∀ (w8 : Int32) (ms2 : List Mk) (hX : XM 48 th e0 bs BL f0 g0 ns τ (((58, w8) : Mk) :: ms2) (sm wt (((58, w8) : Mk) :: ms2) + 1) (sm wr (((58, w8) : Mk) :: ms2) + 1) (s1)) (hI : TI τ sz bd (((58, w8) : Mk) :: ms2) s1 a) (h5 : ¬ (60 : Int) < tt.toInt), mv_V p l e ({ frames := 2, cells := 0, slots := 0, locals := 44 }) s m ([.ref (al 22)] : List Value).toArray below meth c (mg dA D al ext) 6 0 0 (mv_Q (mg dA D al ext) below s 0 0 (mv_Rv (fun σ1 => RF 48 σ σ1 ∧ ∃ ms2 s2, XM 48 th e0 bs BL f0 g0 ns σ1 (ms2) (sm wt ms2 + 1) (sm wr ms2 + 1) (s2) ∧ TI σ1 sz bd ms2 s2 a ∧ mv_i σ1 3 7 = mv_i σ 3 7 ∧ mv_i σ1 3 9 = mv_i σ 3 9))) τ 32 [(1, .int tt), (0, .ref (al 22))] [] := by
        intro w8 ms2 hX hI h5
        obtain ⟨p1, p2, p3, p4⟩ := hX.top
        have pl := hI.len hX
        have pl1 : (((58, w8) : Mk) :: ms2).length = ms2.length + 1 := rfl
        have t2 : (tt + 1).toInt = tt.toInt + 1 := i32_inc (by omega)
        have s1e : sm wt (((58, w8) : Mk) :: ms2) = wt (58, w8) + sm wt ms2 := rfl
        have s2e : sm wr (((58, w8) : Mk) :: ms2) = wr (58, w8) + sm wr ms2 := rfl
        have s3e : sm wc (((58, w8) : Mk) :: ms2) = wc (58, w8) + sm wc ms2 := rfl
        have s4e : sm wd (((58, w8) : Mk) :: ms2) = wd (58, w8) + sm wd ms2 := rfl
        have hI5 := hI.2.2.2.2.1
        have hsz := hB0.2.1.2.2.2.2.2
        have ha9 := hI.2.2.2.2.2.1
        have y1 : wt (58, w8) = 1 := rfl
        have y2 : wr (58, w8) = 0 := rfl
        have y3 : wc (58, w8) = 0 := rfl
        have y4 : wd (58, w8) = 1 := rfl
        obtain ⟨u8, v1, v2, v3⟩ := hX.1.2.2.2.2.2.head.1 (Or.inr rfl)
        have v1 : w8.toInt = u8 := v1
        have v4 := hX.2.1.1
        have j156 : ∀ (υ : mv_H) (x9 : Int32) (hR : Rw 48 (mv_r υ)) (hF : RF 48 σ υ) (hX : XM 48 th e0 bs BL f0 g0 ns υ (ms2) (sm wt ms2) (sm wr ms2 + 1) (s1)) (d7 : mv_i υ 3 7 = mv_i τ 3 7) (d8 : mv_i υ 3 8 = mv_i τ 3 8 - 1) (d9 : mv_i υ 3 9 = mv_i τ 3 9), mv_V p l e ({ frames := 2, cells := 0, slots := 0, locals := 44 }) s m ([.ref (al 22)] : List Value).toArray below meth c (mg dA D al ext) 6 0 0 (mv_Q (mg dA D al ext) below s 0 0 (mv_Rv (fun σ1 => RF 48 σ σ1 ∧ ∃ ms2 s2, XM 48 th e0 bs BL f0 g0 ns σ1 (ms2) (sm wt ms2 + 1) (sm wr ms2 + 1) (s2) ∧ TI σ1 sz bd ms2 s2 a ∧ mv_i σ1 3 7 = mv_i σ 3 7 ∧ mv_i σ1 3 9 = mv_i σ 3 9))) υ 156 [(1, .int tt), (0, .ref (al 22))] [.int x9, .ref (al 22)] := by
          intro υ x9 hR hF hX d7 d8 d9
          refine mv_callVv (pc := 156) (n := 1) (ci := 6) (C := R_Exprs) B (mK_ok sk sv) hNs rfl rfl (c_Exprs_hold l hi _ _ hR.1 (by have := hX.1.2.2.1; omega) (by have := hX.1.2.2.1; omega)) rfl (ma_goodc kc_Exprs_hold) (B.2.2.2.1 _ k_1432) (B.2.2.2.1 _ k_1434) (B.2.2.2.1 _ ks_51) (B.2.2.2.1 _ k_7) ⟨by decide +kernel, by decide +kernel, by decide +kernel⟩ rfl d_Exprs_endChoices_156 rfl (Nat.le_of_ble_eq_true rfl) ⟨by decide, by decide⟩ ⟨by decide, by decide⟩ ⟨by decide, by decide⟩ (mv_noH hno _) (fun σ156 h156 => ?_)
          subst h156
          refine mv_gen (fun S159 eS159 => ?_)
          have hR : Rw 48 (mv_r S159) := by rw [eS159]; exact hR
          have hF : RF 48 σ S159 := by rw [eS159]; exact hF.hold _
          have hX : XM 48 th e0 bs BL f0 g0 ns S159 (ms2) (sm wt ms2 + 1) (sm wr ms2 + 1) (s1) := by rw [eS159]; exact hX.hold hP (by omega) _
          have d7 : mv_i S159 3 7 = mv_i τ 3 7 := by rw [eS159]; exact d7
          have d8 : mv_i S159 3 8 = mv_i τ 3 8 - 1 := by rw [eS159]; exact d8
          have d9 : mv_i S159 3 9 = mv_i τ 3 9 := by rw [eS159]; exact d9
          have go := ih S159 (tt + 1) ms2 s1 hR hF hX (hI.dn d7 d8 d9 (by omega) (by omega) hI.2.2.2.2.2.2.tail) (d7.trans h7) (d9.trans h9) (by omega) (by omega) (by omega)
          clear eS159
          refine mv_iinc (pc := 159) (j := 0) (v := 1) B d_Exprs_endChoices_159 rfl (by decide) (by decide) rfl ?_
          refine mv_goto (pc := 162) (tgt := 2) B d_Exprs_endChoices_162 rfl ?_
          refine mv_lpick [0, 1] rfl ?_
          exact go
        have j145 : ∀ (υ : mv_H) (fl : Int32) (ys : Int32) (hR : Rw 48 (mv_r υ)) (hF : RF 48 σ υ) (hX : XM 48 th e0 bs BL f0 g0 ns υ (ms2) (sm wt ms2) (sm wr ms2 + 1) (s1)) (d7 : mv_i υ 3 7 = mv_i τ 3 7) (d8 : mv_i υ 3 8 = mv_i τ 3 8 - 1) (d9 : mv_i υ 3 9 = mv_i τ 3 9), mv_V p l e ({ frames := 2, cells := 0, slots := 0, locals := 44 }) s m ([.ref (al 22)] : List Value).toArray below meth c (mg dA D al ext) 6 0 0 (mv_Q (mg dA D al ext) below s 0 0 (mv_Rv (fun σ1 => RF 48 σ σ1 ∧ ∃ ms2 s2, XM 48 th e0 bs BL f0 g0 ns σ1 (ms2) (sm wt ms2 + 1) (sm wr ms2 + 1) (s2) ∧ TI σ1 sz bd ms2 s2 a ∧ mv_i σ1 3 7 = mv_i σ 3 7 ∧ mv_i σ1 3 9 = mv_i σ 3 9))) υ 145 [(5, .int fl), (3, .int ys), (1, .int tt), (0, .ref (al 22))] [] := by
          intro υ fl ys hR hF hX d7 d8 d9
          refine mv_aload_n (pc := 145) B d_Exprs_endChoices_145 rfl 3 rfl ?_
          refine mv_iload (pc := 146) B d_Exprs_endChoices_146 0 rfl ?_
          refine mv_if_eq (pc := 148) (tgt := 155) B d_Exprs_endChoices_148 rfl (fun h148 => ?_) (fun h148 => ?_)
          · skip
            refine mv_iload_n (pc := 155) B d_Exprs_endChoices_155 rfl 1 rfl ?_
            refine mv_lpick [2, 3] rfl ?_
            exact j156 _ _ hR hF hX d7 d8 d9
          · skip
            refine mv_iconst (pc := 151) (v := 0) B d_Exprs_endChoices_151 (by decide) ?_
            refine mv_goto (pc := 152) (tgt := 156) B d_Exprs_endChoices_152 rfl ?_
            refine mv_lpick [2, 3] rfl ?_
            exact j156 _ _ hR hF hX d7 d8 d9
        have j110 : ∀ (υ : mv_H) (fl : Int32) (cn : Int32) (ys : Int32) (no : Int32) (hR : Rw 48 (mv_r υ)) (hF : RF 48 σ υ) (hX : XM 48 th e0 bs BL f0 g0 ns υ (ms2) (sm wt ms2) (sm wr ms2 + 1) (s1)) (d7 : mv_i υ 3 7 = mv_i τ 3 7) (d8 : mv_i υ 3 8 = mv_i τ 3 8 - 1) (d9 : mv_i υ 3 9 = mv_i τ 3 9), mv_V p l e ({ frames := 2, cells := 0, slots := 0, locals := 44 }) s m ([.ref (al 22)] : List Value).toArray below meth c (mg dA D al ext) 6 0 0 (mv_Q (mg dA D al ext) below s 0 0 (mv_Rv (fun σ1 => RF 48 σ σ1 ∧ ∃ ms2 s2, XM 48 th e0 bs BL f0 g0 ns σ1 (ms2) (sm wt ms2 + 1) (sm wr ms2 + 1) (s2) ∧ TI σ1 sz bd ms2 s2 a ∧ mv_i σ1 3 7 = mv_i σ 3 7 ∧ mv_i σ1 3 9 = mv_i σ 3 9))) υ 110 [(4, .int cn), (3, .int ys), (2, .int no), (1, .int tt), (0, .ref (al 22))] [.int fl] := by
          intro υ fl cn ys no hR hF hX d7 d8 d9
          have hk9 := hX.tok (i := (mv_i υ 22 8).toNatClampNeg) (by have := hX.n; omega)
          refine mv_istore (pc := 110) B d_Exprs_endChoices_110 (by decide) rfl ?_
          refine mv_iload (pc := 112) B d_Exprs_endChoices_112 0 rfl ?_
          refine mv_if_ne (pc := 114) (tgt := 145) B d_Exprs_endChoices_114 rfl (fun h114 => ?_) (fun h114 => ?_)
          · skip
            refine mv_lpick [0, 2, 4, 5] rfl ?_
            exact j145 _ _ _ hR hF hX d7 d8 d9
          · skip
            refine mv_iload (pc := 117) B d_Exprs_endChoices_117 1 rfl ?_
            refine mv_iconst (pc := 119) (v := 1) B d_Exprs_endChoices_119 (by decide) ?_
            refine mv_icmp_ne (pc := 120) (tgt := 128) B d_Exprs_endChoices_120 rfl (fun h120 => ?_) (fun h120 => ?_)
            · skip
              refine mv_aload_n (pc := 128) B d_Exprs_endChoices_128 rfl 5 rfl ?_
              refine mv_aload_n (pc := 129) B d_Exprs_endChoices_129 rfl 5 rfl ?_
              refine mv_getR (pc := 130) (ci := 6) (C := R_Exprs) (T := F_Exprs) (N := 11) B 5 rfl rfl (by decide) i_Exprs (B.2.2.2.1 _ k_199) rfl (hR.1 _ 5 _ rfl) d_Exprs_endChoices_130 ?_
              refine mv_aload_n (pc := 133) B d_Exprs_endChoices_133 rfl 5 rfl ?_
              refine mv_getI (pc := 134) (ci := 6) (C := R_Exprs) (T := F_Exprs) (N := 11) B 8 rfl rfl (by decide) i_Exprs (B.2.2.2.1 _ k_202) rfl d_Exprs_endChoices_134 ?_
              refine mv_iald (pc := 137) B rfl (i32_in (show 0 ≤ (mv_i υ 22 8).toInt by have := hX.1.1; omega) (show (mv_i υ 22 8).toInt < 1024 by have := hX.1.1; omega)) d_Exprs_endChoices_137 ?_
              refine mv_iconst (pc := 138) (v := 4) B d_Exprs_endChoices_138 (by decide) ?_
              refine mv_callVv (pc := 139) (n := 2) (ci := 6) (C := R_Exprs) B (mK_ok sk sv) hNs rfl rfl (c_Exprs_tell l hi _ _ _ hR.1 hk9.1 hk9.2 (by decide)) rfl (ma_goodc kc_Exprs_tell) (B.2.2.2.1 _ k_1427) (B.2.2.2.1 _ k_1429) (B.2.2.2.1 _ ks_50) (B.2.2.2.1 _ k_7) ⟨by decide +kernel, by decide +kernel, by decide +kernel⟩ rfl d_Exprs_endChoices_139 rfl (Nat.le_of_ble_eq_true rfl) ⟨by decide, by decide⟩ ⟨by decide, by decide⟩ ⟨by decide, by decide⟩ (mv_noH hno _) (fun σ139 h139 => ?_)
              obtain ⟨x9, y9, e139, z139⟩ := h139
              subst e139
              refine mv_gen (fun S142 eS142 => ?_)
              have hR : Rw 48 (mv_r S142) := by rw [eS142]; exact hR
              have hF : RF 48 σ S142 := by rw [eS142]; exact hF.tell _ _
              have hX : XM 48 th e0 bs BL f0 g0 ns S142 (ms2) (sm wt ms2) (sm wr ms2 + 1) (s1) := by rw [eS142]; exact hX.tell hP z139 _ _
              have d7 : mv_i S142 3 7 = mv_i τ 3 7 := by rw [eS142]; exact d7
              have d8 : mv_i S142 3 8 = mv_i τ 3 8 - 1 := by rw [eS142]; exact d8
              have d9 : mv_i S142 3 9 = mv_i τ 3 9 := by rw [eS142]; exact d9
              clear eS142
              refine mv_iconst (pc := 142) (v := 1) B d_Exprs_endChoices_142 (by decide) ?_
              refine mv_istore (pc := 143) B d_Exprs_endChoices_143 (by decide) rfl ?_
              refine mv_lpick [0, 2, 4, 5] rfl ?_
              exact j145 _ _ _ hR hF hX d7 d8 d9
            · skip
              refine mv_iload_n (pc := 123) B d_Exprs_endChoices_123 rfl 2 rfl ?_
              refine mv_iload_n (pc := 124) B d_Exprs_endChoices_124 rfl 3 rfl ?_
              refine mv_icmp_eq (pc := 125) (tgt := 145) B d_Exprs_endChoices_125 rfl (fun h125 => ?_) (fun h125 => ?_)
              · skip
                refine mv_lpick [0, 2, 4, 5] rfl ?_
                exact j145 _ _ _ hR hF hX d7 d8 d9
              · skip
                refine mv_aload_n (pc := 128) B d_Exprs_endChoices_128 rfl 5 rfl ?_
                refine mv_aload_n (pc := 129) B d_Exprs_endChoices_129 rfl 5 rfl ?_
                refine mv_getR (pc := 130) (ci := 6) (C := R_Exprs) (T := F_Exprs) (N := 11) B 5 rfl rfl (by decide) i_Exprs (B.2.2.2.1 _ k_199) rfl (hR.1 _ 5 _ rfl) d_Exprs_endChoices_130 ?_
                refine mv_aload_n (pc := 133) B d_Exprs_endChoices_133 rfl 5 rfl ?_
                refine mv_getI (pc := 134) (ci := 6) (C := R_Exprs) (T := F_Exprs) (N := 11) B 8 rfl rfl (by decide) i_Exprs (B.2.2.2.1 _ k_202) rfl d_Exprs_endChoices_134 ?_
                refine mv_iald (pc := 137) B rfl (i32_in (show 0 ≤ (mv_i υ 22 8).toInt by have := hX.1.1; omega) (show (mv_i υ 22 8).toInt < 1024 by have := hX.1.1; omega)) d_Exprs_endChoices_137 ?_
                refine mv_iconst (pc := 138) (v := 4) B d_Exprs_endChoices_138 (by decide) ?_
                refine mv_callVv (pc := 139) (n := 2) (ci := 6) (C := R_Exprs) B (mK_ok sk sv) hNs rfl rfl (c_Exprs_tell l hi _ _ _ hR.1 hk9.1 hk9.2 (by decide)) rfl (ma_goodc kc_Exprs_tell) (B.2.2.2.1 _ k_1427) (B.2.2.2.1 _ k_1429) (B.2.2.2.1 _ ks_50) (B.2.2.2.1 _ k_7) ⟨by decide +kernel, by decide +kernel, by decide +kernel⟩ rfl d_Exprs_endChoices_139 rfl (Nat.le_of_ble_eq_true rfl) ⟨by decide, by decide⟩ ⟨by decide, by decide⟩ ⟨by decide, by decide⟩ (mv_noH hno _) (fun σ139 h139 => ?_)
                obtain ⟨x9, y9, e139, z139⟩ := h139
                subst e139
                refine mv_gen (fun S142 eS142 => ?_)
                have hR : Rw 48 (mv_r S142) := by rw [eS142]; exact hR
                have hF : RF 48 σ S142 := by rw [eS142]; exact hF.tell _ _
                have hX : XM 48 th e0 bs BL f0 g0 ns S142 (ms2) (sm wt ms2) (sm wr ms2 + 1) (s1) := by rw [eS142]; exact hX.tell hP z139 _ _
                have d7 : mv_i S142 3 7 = mv_i τ 3 7 := by rw [eS142]; exact d7
                have d8 : mv_i S142 3 8 = mv_i τ 3 8 - 1 := by rw [eS142]; exact d8
                have d9 : mv_i S142 3 9 = mv_i τ 3 9 := by rw [eS142]; exact d9
                clear eS142
                refine mv_iconst (pc := 142) (v := 1) B d_Exprs_endChoices_142 (by decide) ?_
                refine mv_istore (pc := 143) B d_Exprs_endChoices_143 (by decide) rfl ?_
                refine mv_lpick [0, 2, 4, 5] rfl ?_
                exact j145 _ _ _ hR hF hX d7 d8 d9
        refine mv_aload_n (pc := 32) B d_Exprs_endChoices_32 rfl 1 rfl ?_
        refine mv_dup (pc := 33) B d_Exprs_endChoices_33 rfl ?_
        refine mv_getI (pc := 34) (ci := 6) (C := R_Exprs) (T := F_Exprs) (N := 11) B 8 rfl rfl (by decide) i_Exprs (B.2.2.2.1 _ k_202) rfl d_Exprs_endChoices_34 ?_
        refine mv_iconst (pc := 37) (v := 1) B d_Exprs_endChoices_37 (by decide) ?_
        refine mv_isub (pc := 38) B d_Exprs_endChoices_38 ?_
        refine mv_putI (pc := 39) (ci := 6) (C := R_Exprs) (T := F_Exprs) (N := 11) B 8 rfl rfl (by decide) i_Exprs t_Exprs_ok n_Exprs (B.2.2.2.1 _ k_202) rfl rfl rfl rfl d_Exprs_endChoices_39 ?_
        refine mv_aload_n (pc := 42) B d_Exprs_endChoices_42 rfl 1 rfl ?_
        refine mv_getR (pc := 43) (ci := 6) (C := R_Exprs) (T := F_Exprs) (N := 11) B 0 rfl rfl (by decide) i_Exprs (B.2.2.2.1 _ k_193) rfl (hR.1 _ 0 _ rfl) d_Exprs_endChoices_43 ?_
        refine mv_dup (pc := 46) B d_Exprs_endChoices_46 rfl ?_
        refine mv_getI (pc := 47) (ci := 2) (C := R_Tokens) (T := F_Tokens) (N := 10) B 8 rfl rfl (by decide) i_Tokens (B.2.2.2.1 _ k_104) rfl d_Exprs_endChoices_47 ?_
        refine mv_iconst (pc := 50) (v := 1) B d_Exprs_endChoices_50 (by decide) ?_
        refine mv_isub (pc := 51) B d_Exprs_endChoices_51 ?_
        refine mv_putI (pc := 52) (ci := 2) (C := R_Tokens) (T := F_Tokens) (N := 10) B 8 rfl rfl (by decide) i_Tokens t_Tokens_ok n_Tokens (B.2.2.2.1 _ k_104) rfl rfl rfl rfl d_Exprs_endChoices_52 ?_
        refine mv_gen (fun S55 eS55 => ?_)
        have hR : Rw 48 (mv_r S55) := by rw [eS55]; exact hR
        have hF : RF 48 σ S55 := by rw [eS55]; exact hF.pop.c3 ⟨by omega, by omega⟩ _
        have p5 : mv_a S55 25 (mv_i S55 22 8).toNatClampNeg = w8 := by rw [eS55]; exact p4
        have p6 : mv_i S55 48 17 = mv_i τ 48 17 := by rw [eS55]; rfl
        have p7 : (mv_i S55 22 8).toInt = ms2.length := by rw [eS55]; exact p1
        have hX : XM 48 th e0 bs BL f0 g0 ns (mv_sb S55 58 w8.toNatClampNeg (mv_i S55 48 17).toInt64) (ms2) (sm wt ms2 + 2) (sm wr ms2 + 1) (s1) := by
          have hX2 := hX
          rw [s1e, s2e, y1, y2, show 1 + sm wt ms2 + 1 = sm wt ms2 + 2 by omega, Nat.zero_add] at hX2
          have := (hX2.chosen hP (w1 := (mv_i S55 48 17).toInt64) (by rw [lg_toInt, p6]; exact v4)).c3 hP 8 (mv_i τ 3 8 - 1)
          rw [eS55] at this ⊢
          exact this
        have d7 : mv_i S55 3 7 = mv_i τ 3 7 := by rw [eS55]; rfl
        have d8 : mv_i S55 3 8 = mv_i τ 3 8 - 1 := by rw [eS55]; rfl
        have d9 : mv_i S55 3 9 = mv_i τ 3 9 := by rw [eS55]; rfl
        clear eS55
        refine mv_aload_n (pc := 55) B d_Exprs_endChoices_55 rfl 1 rfl ?_
        refine mv_getR (pc := 56) (ci := 6) (C := R_Exprs) (T := F_Exprs) (N := 11) B 3 rfl rfl (by decide) i_Exprs (B.2.2.2.1 _ k_197) rfl hR.2.2.2 d_Exprs_endChoices_56 ?_
        refine mv_aload_n (pc := 59) B d_Exprs_endChoices_59 rfl 1 rfl ?_
        refine mv_getR (pc := 60) (ci := 6) (C := R_Exprs) (T := F_Exprs) (N := 11) B 6 rfl rfl (by decide) i_Exprs (B.2.2.2.1 _ k_200) rfl (hR.1 _ 6 _ rfl) d_Exprs_endChoices_60 ?_
        refine mv_aload_n (pc := 63) B d_Exprs_endChoices_63 rfl 1 rfl ?_
        refine mv_getI (pc := 64) (ci := 6) (C := R_Exprs) (T := F_Exprs) (N := 11) B 8 rfl rfl (by decide) i_Exprs (B.2.2.2.1 _ k_202) rfl d_Exprs_endChoices_64 ?_
        refine mv_iald (pc := 67) B rfl (i32_in (by omega) (by omega)) d_Exprs_endChoices_67 ?_
        rw [p5]
        refine mv_callVv (pc := 68) (n := 1) (ci := 7) (C := R_Program) B (mK_ok sk sv) hNs rfl rfl (c_Program_aim_b l hi _ _ hR.2.1 (by omega)) rfl (ma_goodc kc_Program_aim) (B.2.2.2.1 _ k_1501) (B.2.2.2.1 _ k_1403) (B.2.2.2.1 _ k_1404) (B.2.2.2.1 _ k_8) ⟨by decide +kernel, by decide +kernel, by decide +kernel⟩ rfl d_Exprs_endChoices_68 rfl (Nat.le_of_ble_eq_true rfl) ⟨by decide, by decide⟩ ⟨by decide, by decide⟩ ⟨by decide, by decide⟩ (mv_noH hno _) (fun σ68 h68 => ?_)
        have h68 := (h68.resolve_left (fun q => by omega)).2
        subst h68
        refine mv_gen (fun S71 eS71 => ?_)
        have hR : Rw 48 (mv_r S71) := by rw [eS71]; exact hR
        have hF : RF 48 σ S71 := by rw [eS71]; exact hF.aim _ _
        have hX : XM 48 th e0 bs BL f0 g0 ns S71 (ms2) (sm wt ms2 + 2) (sm wr ms2 + 1) (s1) := by rw [eS71]; exact hX
        have d7 : mv_i S71 3 7 = mv_i τ 3 7 := by rw [eS71]; exact d7
        have d8 : mv_i S71 3 8 = mv_i τ 3 8 - 1 := by rw [eS71]; exact d8
        have d9 : mv_i S71 3 9 = mv_i τ 3 9 := by rw [eS71]; exact d9
        clear eS71
        refine mv_aload_n (pc := 71) B d_Exprs_endChoices_71 rfl 1 rfl ?_
        refine mv_callVi (pc := 72) (n := 0) (ci := 6) (C := R_Exprs) B (mK_ok sk sv) hNs rfl rfl (c_Exprs_release l hi _ hR.1 (by have := hX.1.2.2.1; omega) (by have := hX.1.2.2.1; omega)) rfl (ma_goodc kc_Exprs_release) (B.2.2.2.1 _ k_1469) (B.2.2.2.1 _ k_1470) (B.2.2.2.1 _ k_1471) (B.2.2.2.1 _ k_7) ⟨by decide +kernel, by decide +kernel, by decide +kernel⟩ rfl d_Exprs_endChoices_72 rfl (Nat.le_of_ble_eq_true rfl) ⟨by decide, by decide⟩ ⟨by decide, by decide⟩ ⟨by decide, by decide⟩ (mv_noH hno _) (fun v72 σ72 h72 => ?_)
        subst h72
        refine mv_gen (fun S75 eS75 => ?_)
        have hR : Rw 48 (mv_r S75) := by rw [eS75]; exact hR
        have hF : RF 48 σ S75 := by rw [eS75]; exact hF.rel
        have hX : XM 48 th e0 bs BL f0 g0 ns S75 (ms2) (sm wt ms2 + 1) (sm wr ms2 + 1) (s1) := by rw [eS75]; exact hX.rel hP
        have d7 : mv_i S75 3 7 = mv_i τ 3 7 := by rw [eS75]; exact d7
        have d8 : mv_i S75 3 8 = mv_i τ 3 8 - 1 := by rw [eS75]; exact d8
        have d9 : mv_i S75 3 9 = mv_i τ 3 9 := by rw [eS75]; exact d9
        clear eS75
        refine mv_istore_n (pc := 75) B d_Exprs_endChoices_75 rfl (by decide) rfl ?_
        refine mv_aload_n (pc := 76) B d_Exprs_endChoices_76 rfl 2 rfl ?_
        refine mv_callVi (pc := 77) (n := 0) (ci := 6) (C := R_Exprs) B (mK_ok sk sv) hNs rfl rfl (c_Exprs_release l hi _ hR.1 (by have := hX.1.2.2.1; omega) (by have := hX.1.2.2.1; omega)) rfl (ma_goodc kc_Exprs_release) (B.2.2.2.1 _ k_1469) (B.2.2.2.1 _ k_1470) (B.2.2.2.1 _ k_1471) (B.2.2.2.1 _ k_7) ⟨by decide +kernel, by decide +kernel, by decide +kernel⟩ rfl d_Exprs_endChoices_77 rfl (Nat.le_of_ble_eq_true rfl) ⟨by decide, by decide⟩ ⟨by decide, by decide⟩ ⟨by decide, by decide⟩ (mv_noH hno _) (fun v77 σ77 h77 => ?_)
        subst h77
        refine mv_gen (fun S80 eS80 => ?_)
        have hR : Rw 48 (mv_r S80) := by rw [eS80]; exact hR
        have hF : RF 48 σ S80 := by rw [eS80]; exact hF.rel
        have hX : XM 48 th e0 bs BL f0 g0 ns S80 (ms2) (sm wt ms2) (sm wr ms2 + 1) (s1) := by rw [eS80]; exact hX.rel hP
        have d7 : mv_i S80 3 7 = mv_i τ 3 7 := by rw [eS80]; exact d7
        have d8 : mv_i S80 3 8 = mv_i τ 3 8 - 1 := by rw [eS80]; exact d8
        have d9 : mv_i S80 3 9 = mv_i τ 3 9 := by rw [eS80]; exact d9
        clear eS80
        refine mv_istore_n (pc := 80) B d_Exprs_endChoices_80 rfl (by decide) rfl ?_
        refine mv_aload_n (pc := 81) B d_Exprs_endChoices_81 rfl 3 rfl ?_
        refine mv_getR (pc := 82) (ci := 6) (C := R_Exprs) (T := F_Exprs) (N := 11) B 7 rfl rfl (by decide) i_Exprs (B.2.2.2.1 _ k_201) rfl (hR.1 _ 7 _ rfl) d_Exprs_endChoices_82 ?_
        refine mv_aload_n (pc := 85) B d_Exprs_endChoices_85 rfl 3 rfl ?_
        refine mv_getI (pc := 86) (ci := 6) (C := R_Exprs) (T := F_Exprs) (N := 11) B 8 rfl rfl (by decide) i_Exprs (B.2.2.2.1 _ k_202) rfl d_Exprs_endChoices_86 ?_
        refine mv_iald (pc := 89) B rfl (i32_in (show 0 ≤ (mv_i S80 22 8).toInt by have := hX.1.1; omega) (show (mv_i S80 22 8).toInt < 1024 by have := hX.1.1; omega)) d_Exprs_endChoices_89 ?_
        refine mv_istore (pc := 90) B d_Exprs_endChoices_90 (by decide) rfl ?_
        refine mv_iload (pc := 92) B d_Exprs_endChoices_92 0 rfl ?_
        refine mv_if_eq (pc := 94) (tgt := 105) B d_Exprs_endChoices_94 rfl (fun h94 => ?_) (fun h94 => ?_)
        · skip
          refine mv_iconst (pc := 105) (v := 1) B d_Exprs_endChoices_105 (by decide) ?_
          refine mv_goto (pc := 106) (tgt := 110) B d_Exprs_endChoices_106 rfl ?_
          refine mv_lpick [0, 1, 2, 3, 4] rfl ?_
          exact j110 _ _ _ _ _ hR hF hX d7 d8 d9
        · skip
          refine mv_iload_n (pc := 97) B d_Exprs_endChoices_97 rfl 1 rfl ?_
          refine mv_if_eq (pc := 98) (tgt := 105) B d_Exprs_endChoices_98 rfl (fun h98 => ?_) (fun h98 => ?_)
          · skip
            refine mv_iconst (pc := 105) (v := 1) B d_Exprs_endChoices_105 (by decide) ?_
            refine mv_goto (pc := 106) (tgt := 110) B d_Exprs_endChoices_106 rfl ?_
            refine mv_lpick [0, 1, 2, 3, 4] rfl ?_
            exact j110 _ _ _ _ _ hR hF hX d7 d8 d9
          · skip
            refine mv_iload_n (pc := 101) B d_Exprs_endChoices_101 rfl 2 rfl ?_
            refine mv_if_ne (pc := 102) (tgt := 109) B d_Exprs_endChoices_102 rfl (fun h102 => ?_) (fun h102 => ?_)
            · skip
              refine mv_iconst (pc := 109) (v := 0) B d_Exprs_endChoices_109 (by decide) ?_
              refine mv_lpick [0, 1, 2, 3, 4] rfl ?_
              exact j110 _ _ _ _ _ hR hF hX d7 d8 d9
            · skip
              refine mv_iconst (pc := 105) (v := 1) B d_Exprs_endChoices_105 (by decide) ?_
              refine mv_goto (pc := 106) (tgt := 110) B d_Exprs_endChoices_106 rfl ?_
              refine mv_lpick [0, 1, 2, 3, 4] rfl ?_
              exact j110 _ _ _ _ _ hR hF hX d7 d8 d9
      refine mv_iload_n (pc := 2) B d_Exprs_endChoices_2 rfl 0 rfl ?_
      refine mv_bipush (pc := 3) (v := 60) B d_Exprs_endChoices_3 (by decide) ?_
      refine mv_icmp_gt (pc := 5) (tgt := 165) B d_Exprs_endChoices_5 rfl (fun h5 => ?_) (fun h5 => ?_)
      · skip
        exact mv_vret (pc := 165) B hr d_Exprs_endChoices_165 (Nat.le_refl _) (Nat.le_refl _) ⟨rfl, hF, _, _, hX, hI, h7, h9⟩
      · skip
        rw [Int32.lt_iff_toInt_lt] at h5
        have h5 : ¬ (60 : Int) < tt.toInt := h5
        refine mv_aload_n (pc := 8) B d_Exprs_endChoices_8 rfl 1 rfl ?_
        refine mv_getI (pc := 9) (ci := 6) (C := R_Exprs) (T := F_Exprs) (N := 11) B 8 rfl rfl (by decide) i_Exprs (B.2.2.2.1 _ k_202) rfl d_Exprs_endChoices_9 ?_
        refine mv_if_le (pc := 12) (tgt := 165) B d_Exprs_endChoices_12 rfl (fun h12 => ?_) (fun h12 => ?_)
        · skip
          exact mv_vret (pc := 165) B hr d_Exprs_endChoices_165 (Nat.le_refl _) (Nat.le_refl _) ⟨rfl, hF, _, _, hX, hI, h7, h9⟩
        · skip
          rw [Int32.le_iff_toInt_le] at h12
          simp only [Int32.reduceToInt] at h12
          obtain ⟨k8, w8, ms2, ems⟩ := hX.ne (by omega)
          subst ems
          obtain ⟨p1, p2, p3, p4⟩ := hX.top
          have pl := hI.len hX
          have pl1 : (((k8, w8) : Mk) :: ms2).length = ms2.length + 1 := rfl
          have t2 : (tt + 1).toInt = tt.toInt + 1 := i32_inc (by omega)
          have s1e : sm wt (((k8, w8) : Mk) :: ms2) = wt (k8, w8) + sm wt ms2 := rfl
          have s2e : sm wr (((k8, w8) : Mk) :: ms2) = wr (k8, w8) + sm wr ms2 := rfl
          have s3e : sm wc (((k8, w8) : Mk) :: ms2) = wc (k8, w8) + sm wc ms2 := rfl
          have s4e : sm wd (((k8, w8) : Mk) :: ms2) = wd (k8, w8) + sm wd ms2 := rfl
          have hI5 := hI.2.2.2.2.1
          have hsz := hB0.2.1.2.2.2.2.2
          have ha9 := hI.2.2.2.2.2.1
          refine mv_aload_n (pc := 15) B d_Exprs_endChoices_15 rfl 1 rfl ?_
          refine mv_getR (pc := 16) (ci := 6) (C := R_Exprs) (T := F_Exprs) (N := 11) B 4 rfl rfl (by decide) i_Exprs (B.2.2.2.1 _ k_198) rfl (hR.1 _ 4 _ rfl) d_Exprs_endChoices_16 ?_
          refine mv_aload_n (pc := 19) B d_Exprs_endChoices_19 rfl 1 rfl ?_
          refine mv_getI (pc := 20) (ci := 6) (C := R_Exprs) (T := F_Exprs) (N := 11) B 8 rfl rfl (by decide) i_Exprs (B.2.2.2.1 _ k_202) rfl d_Exprs_endChoices_20 ?_
          refine mv_iconst (pc := 23) (v := 1) B d_Exprs_endChoices_23 (by decide) ?_
          refine mv_isub (pc := 24) B d_Exprs_endChoices_24 ?_
          refine mv_iald (pc := 25) B rfl (i32_in (by omega) (by omega)) d_Exprs_endChoices_25 ?_
          refine mv_bipush (pc := 26) (v := 58) B d_Exprs_endChoices_26 (by decide) ?_
          refine mv_icmp_eq (pc := 28) (tgt := 32) B d_Exprs_endChoices_28 rfl (fun h28 => ?_) (fun h28 => ?_)
          · skip
            rw [p3] at h28
            subst h28
            refine mv_lpick [0, 1] rfl ?_
            exact j32 _ _ hX hI h5
          · skip
            exact mv_vret (pc := 31) B hr d_Exprs_endChoices_31 (Nat.le_refl _) (Nat.le_refl _) ⟨rfl, hF, _, _, hX, hI, h7, h9⟩
  refine mv_iconst (pc := 0) (v := 0) B d_Exprs_endChoices_0 (by decide) ?_
  refine mv_istore_n (pc := 1) B d_Exprs_endChoices_1 rfl (by decide) rfl ?_
  refine mv_lpick [0, 1] rfl ?_
  exact lp _ _ _ ms s0 hR hF hX0 hI0 rfl rfl (by decide) (by decide) (Nat.lt_succ_self _)
set_option maxHeartbeats 4000000 in
set_option maxRecDepth 100000 in
theorem c_Exprs_endChoices_c (l : Launch) {dA : FieldType → ClassId} {D : va_G} {al : Nat → Nat} {sk sv : Nat → Nat} (hi : mv_inj (mg dA D al me)) (σ : mv_H) {t len n z sz th sl e0 bs ns : Nat} {BL : (Nat → Nat) → Prop} {f0 : Nat → Int32} {g0 : Nat → Int64} {ms : List Mk} {s0 bd a : Nat} (hB0 : SB 145 σ t len n z sz th sl) (ht2 : t = 1 ∨ t = 144) (hX0 : XM 145 th e0 bs BL f0 g0 ns σ (ms) (sm wt ms + 1) (sm wr ms + 1) (s0)) (hI0 : TI σ sz bd ms s0 a) (hlen : len ≤ 8192) (hbs : bs ≤ 1) : mv_C l y_Exprs_endChoices (Cond.code y_Exprs_endChoices b_Exprs_endChoices 6 (Option.none : Option Jvm.ClassFile.FieldType) :: ma) ({ frames := 2, cells := 0, slots := 0, locals := 44 }) (mg dA D al me) (mK sk sv) [.ref (al 22)] σ (mv_Rv (fun σ1 => RF 145 σ σ1 ∧ ∃ ms2 s2, XM 145 th e0 bs BL f0 g0 ns σ1 (ms2) (sm wt ms2 + 1) (sm wr ms2 + 1) (s2) ∧ TI σ1 sz bd ms2 s2 a ∧ mv_i σ1 3 7 = mv_i σ 3 7 ∧ mv_i σ1 3 9 = mv_i σ 3 9)) := by
  refine mv_C.ofV (cc := b_Exprs_endChoices) (nL := 6) (ret := (Option.none : Option Jvm.ClassFile.FieldType)) (by decide +kernel) rfl hi (Nat.le_of_ble_eq_true rfl) ?_
  intro p e s m below meth c B hNs hr hnm hno
  have hP : PQ 145 := by unfold PQ; omega
  have hR := hB0.1
  have hF : RF 145 σ σ := RF0
  have hT : mv_i σ 3 = mv_i σ 3 := rfl
  have hsz := hB0.2.1.2.2.2.2.2
  have ha9 := hI0.2.2.2.2.2.1
  have lp : ∀ (nn : Nat) (τ : mv_H) (tt : Int32) (ms : List Mk) (s1 : Nat) (hR : Rw 145 (mv_r τ)) (hF : RF 145 σ τ) (hX : XM 145 th e0 bs BL f0 g0 ns τ (ms) (sm wt ms + 1) (sm wr ms + 1) (s1)) (hI : TI τ sz bd ms s1 a) (h7 : mv_i τ 3 7 = mv_i σ 3 7) (h9 : mv_i τ 3 9 = mv_i σ 3 9) (q0 : 0 ≤ tt.toInt) (q1 : tt.toInt ≤ 61), (61 - tt.toInt).toNat < nn → mv_V p l e ({ frames := 2, cells := 0, slots := 0, locals := 44 }) s m ([.ref (al 22)] : List Value).toArray below meth c (mg dA D al me) 6 0 0 (mv_Q (mg dA D al me) below s 0 0 (mv_Rv (fun σ1 => RF 145 σ σ1 ∧ ∃ ms2 s2, XM 145 th e0 bs BL f0 g0 ns σ1 (ms2) (sm wt ms2 + 1) (sm wr ms2 + 1) (s2) ∧ TI σ1 sz bd ms2 s2 a ∧ mv_i σ1 3 7 = mv_i σ 3 7 ∧ mv_i σ1 3 9 = mv_i σ 3 9))) τ 2 [(1, .int tt), (0, .ref (al 22))] [] := by
    intro nn
    induction nn with
    | zero => intro τ tt ms s1 hR hF hX hI h7 h9 q0 q1 hm; exact absurd hm (Nat.not_lt_zero _)
    | succ nn ih =>
      intro τ tt ms s1 hR hF hX hI h7 h9 q0 q1 hm
      have j32 : ∀ (w8 : Int32) (ms2 : List Mk) (hX : XM 145 th e0 bs BL f0 g0 ns τ (((58, w8) : Mk) :: ms2) (sm wt (((58, w8) : Mk) :: ms2) + 1) (sm wr (((58, w8) : Mk) :: ms2) + 1) (s1)) (hI : TI τ sz bd (((58, w8) : Mk) :: ms2) s1 a) (h5 : ¬ (60 : Int) < tt.toInt), mv_V p l e ({ frames := 2, cells := 0, slots := 0, locals := 44 }) s m ([.ref (al 22)] : List Value).toArray below meth c (mg dA D al me) 6 0 0 (mv_Q (mg dA D al me) below s 0 0 (mv_Rv (fun σ1 => RF 145 σ σ1 ∧ ∃ ms2 s2, XM 145 th e0 bs BL f0 g0 ns σ1 (ms2) (sm wt ms2 + 1) (sm wr ms2 + 1) (s2) ∧ TI σ1 sz bd ms2 s2 a ∧ mv_i σ1 3 7 = mv_i σ 3 7 ∧ mv_i σ1 3 9 = mv_i σ 3 9))) τ 32 [(1, .int tt), (0, .ref (al 22))] [] := by
        intro w8 ms2 hX hI h5
        obtain ⟨p1, p2, p3, p4⟩ := hX.top
        have pl := hI.len hX
        have pl1 : (((58, w8) : Mk) :: ms2).length = ms2.length + 1 := rfl
        have t2 : (tt + 1).toInt = tt.toInt + 1 := i32_inc (by omega)
        have s1e : sm wt (((58, w8) : Mk) :: ms2) = wt (58, w8) + sm wt ms2 := rfl
        have s2e : sm wr (((58, w8) : Mk) :: ms2) = wr (58, w8) + sm wr ms2 := rfl
        have s3e : sm wc (((58, w8) : Mk) :: ms2) = wc (58, w8) + sm wc ms2 := rfl
        have s4e : sm wd (((58, w8) : Mk) :: ms2) = wd (58, w8) + sm wd ms2 := rfl
        have hI5 := hI.2.2.2.2.1
        have hsz := hB0.2.1.2.2.2.2.2
        have ha9 := hI.2.2.2.2.2.1
        have y1 : wt (58, w8) = 1 := rfl
        have y2 : wr (58, w8) = 0 := rfl
        have y3 : wc (58, w8) = 0 := rfl
        have y4 : wd (58, w8) = 1 := rfl
        obtain ⟨u8, v1, v2, v3⟩ := hX.1.2.2.2.2.2.head.1 (Or.inr rfl)
        have v1 : w8.toInt = u8 := v1
        have v4 := hX.2.1.1
        have j156 : ∀ (υ : mv_H) (x9 : Int32) (hR : Rw 145 (mv_r υ)) (hF : RF 145 σ υ) (hX : XM 145 th e0 bs BL f0 g0 ns υ (ms2) (sm wt ms2) (sm wr ms2 + 1) (s1)) (d7 : mv_i υ 3 7 = mv_i τ 3 7) (d8 : mv_i υ 3 8 = mv_i τ 3 8 - 1) (d9 : mv_i υ 3 9 = mv_i τ 3 9), mv_V p l e ({ frames := 2, cells := 0, slots := 0, locals := 44 }) s m ([.ref (al 22)] : List Value).toArray below meth c (mg dA D al me) 6 0 0 (mv_Q (mg dA D al me) below s 0 0 (mv_Rv (fun σ1 => RF 145 σ σ1 ∧ ∃ ms2 s2, XM 145 th e0 bs BL f0 g0 ns σ1 (ms2) (sm wt ms2 + 1) (sm wr ms2 + 1) (s2) ∧ TI σ1 sz bd ms2 s2 a ∧ mv_i σ1 3 7 = mv_i σ 3 7 ∧ mv_i σ1 3 9 = mv_i σ 3 9))) υ 156 [(1, .int tt), (0, .ref (al 22))] [.int x9, .ref (al 22)] := by
          intro υ x9 hR hF hX d7 d8 d9
          refine mv_callVv (pc := 156) (n := 1) (ci := 6) (C := R_Exprs) B (mK_ok sk sv) hNs rfl rfl (c_Exprs_hold l hi _ _ hR.1 (by have := hX.1.2.2.1; omega) (by have := hX.1.2.2.1; omega)) rfl (ma_goodc kc_Exprs_hold) (B.2.2.2.1 _ k_1432) (B.2.2.2.1 _ k_1434) (B.2.2.2.1 _ ks_51) (B.2.2.2.1 _ k_7) ⟨by decide +kernel, by decide +kernel, by decide +kernel⟩ rfl d_Exprs_endChoices_156 rfl (Nat.le_of_ble_eq_true rfl) ⟨by decide, by decide⟩ ⟨by decide, by decide⟩ ⟨by decide, by decide⟩ (mv_noH hno _) (fun σ156 h156 => ?_)
          subst h156
          refine mv_gen (fun S159 eS159 => ?_)
          have hR : Rw 145 (mv_r S159) := by rw [eS159]; exact hR
          have hF : RF 145 σ S159 := by rw [eS159]; exact hF.hold _
          have hX : XM 145 th e0 bs BL f0 g0 ns S159 (ms2) (sm wt ms2 + 1) (sm wr ms2 + 1) (s1) := by rw [eS159]; exact hX.hold hP (by omega) _
          have d7 : mv_i S159 3 7 = mv_i τ 3 7 := by rw [eS159]; exact d7
          have d8 : mv_i S159 3 8 = mv_i τ 3 8 - 1 := by rw [eS159]; exact d8
          have d9 : mv_i S159 3 9 = mv_i τ 3 9 := by rw [eS159]; exact d9
          have go := ih S159 (tt + 1) ms2 s1 hR hF hX (hI.dn d7 d8 d9 (by omega) (by omega) hI.2.2.2.2.2.2.tail) (d7.trans h7) (d9.trans h9) (by omega) (by omega) (by omega)
          clear eS159
          refine mv_iinc (pc := 159) (j := 0) (v := 1) B d_Exprs_endChoices_159 rfl (by decide) (by decide) rfl ?_
          refine mv_goto (pc := 162) (tgt := 2) B d_Exprs_endChoices_162 rfl ?_
          refine mv_lpick [0, 1] rfl ?_
          exact go
        have j145 : ∀ (υ : mv_H) (fl : Int32) (ys : Int32) (hR : Rw 145 (mv_r υ)) (hF : RF 145 σ υ) (hX : XM 145 th e0 bs BL f0 g0 ns υ (ms2) (sm wt ms2) (sm wr ms2 + 1) (s1)) (d7 : mv_i υ 3 7 = mv_i τ 3 7) (d8 : mv_i υ 3 8 = mv_i τ 3 8 - 1) (d9 : mv_i υ 3 9 = mv_i τ 3 9), mv_V p l e ({ frames := 2, cells := 0, slots := 0, locals := 44 }) s m ([.ref (al 22)] : List Value).toArray below meth c (mg dA D al me) 6 0 0 (mv_Q (mg dA D al me) below s 0 0 (mv_Rv (fun σ1 => RF 145 σ σ1 ∧ ∃ ms2 s2, XM 145 th e0 bs BL f0 g0 ns σ1 (ms2) (sm wt ms2 + 1) (sm wr ms2 + 1) (s2) ∧ TI σ1 sz bd ms2 s2 a ∧ mv_i σ1 3 7 = mv_i σ 3 7 ∧ mv_i σ1 3 9 = mv_i σ 3 9))) υ 145 [(5, .int fl), (3, .int ys), (1, .int tt), (0, .ref (al 22))] [] := by
          intro υ fl ys hR hF hX d7 d8 d9
          refine mv_aload_n (pc := 145) B d_Exprs_endChoices_145 rfl 3 rfl ?_
          refine mv_iload (pc := 146) B d_Exprs_endChoices_146 0 rfl ?_
          refine mv_if_eq (pc := 148) (tgt := 155) B d_Exprs_endChoices_148 rfl (fun h148 => ?_) (fun h148 => ?_)
          · skip
            refine mv_iload_n (pc := 155) B d_Exprs_endChoices_155 rfl 1 rfl ?_
            refine mv_lpick [2, 3] rfl ?_
            exact j156 _ _ hR hF hX d7 d8 d9
          · skip
            refine mv_iconst (pc := 151) (v := 0) B d_Exprs_endChoices_151 (by decide) ?_
            refine mv_goto (pc := 152) (tgt := 156) B d_Exprs_endChoices_152 rfl ?_
            refine mv_lpick [2, 3] rfl ?_
            exact j156 _ _ hR hF hX d7 d8 d9
        have j110 : ∀ (υ : mv_H) (fl : Int32) (cn : Int32) (ys : Int32) (no : Int32) (hR : Rw 145 (mv_r υ)) (hF : RF 145 σ υ) (hX : XM 145 th e0 bs BL f0 g0 ns υ (ms2) (sm wt ms2) (sm wr ms2 + 1) (s1)) (d7 : mv_i υ 3 7 = mv_i τ 3 7) (d8 : mv_i υ 3 8 = mv_i τ 3 8 - 1) (d9 : mv_i υ 3 9 = mv_i τ 3 9), mv_V p l e ({ frames := 2, cells := 0, slots := 0, locals := 44 }) s m ([.ref (al 22)] : List Value).toArray below meth c (mg dA D al me) 6 0 0 (mv_Q (mg dA D al me) below s 0 0 (mv_Rv (fun σ1 => RF 145 σ σ1 ∧ ∃ ms2 s2, XM 145 th e0 bs BL f0 g0 ns σ1 (ms2) (sm wt ms2 + 1) (sm wr ms2 + 1) (s2) ∧ TI σ1 sz bd ms2 s2 a ∧ mv_i σ1 3 7 = mv_i σ 3 7 ∧ mv_i σ1 3 9 = mv_i σ 3 9))) υ 110 [(4, .int cn), (3, .int ys), (2, .int no), (1, .int tt), (0, .ref (al 22))] [.int fl] := by
          intro υ fl cn ys no hR hF hX d7 d8 d9
          have hk9 := hX.tok (i := (mv_i υ 22 8).toNatClampNeg) (by have := hX.n; omega)
          refine mv_istore (pc := 110) B d_Exprs_endChoices_110 (by decide) rfl ?_
          refine mv_iload (pc := 112) B d_Exprs_endChoices_112 0 rfl ?_
          refine mv_if_ne (pc := 114) (tgt := 145) B d_Exprs_endChoices_114 rfl (fun h114 => ?_) (fun h114 => ?_)
          · skip
            refine mv_lpick [0, 2, 4, 5] rfl ?_
            exact j145 _ _ _ hR hF hX d7 d8 d9
          · skip
            refine mv_iload (pc := 117) B d_Exprs_endChoices_117 1 rfl ?_
            refine mv_iconst (pc := 119) (v := 1) B d_Exprs_endChoices_119 (by decide) ?_
            refine mv_icmp_ne (pc := 120) (tgt := 128) B d_Exprs_endChoices_120 rfl (fun h120 => ?_) (fun h120 => ?_)
            · skip
              refine mv_aload_n (pc := 128) B d_Exprs_endChoices_128 rfl 5 rfl ?_
              refine mv_aload_n (pc := 129) B d_Exprs_endChoices_129 rfl 5 rfl ?_
              refine mv_getR (pc := 130) (ci := 6) (C := R_Exprs) (T := F_Exprs) (N := 11) B 5 rfl rfl (by decide) i_Exprs (B.2.2.2.1 _ k_199) rfl (hR.1 _ 5 _ rfl) d_Exprs_endChoices_130 ?_
              refine mv_aload_n (pc := 133) B d_Exprs_endChoices_133 rfl 5 rfl ?_
              refine mv_getI (pc := 134) (ci := 6) (C := R_Exprs) (T := F_Exprs) (N := 11) B 8 rfl rfl (by decide) i_Exprs (B.2.2.2.1 _ k_202) rfl d_Exprs_endChoices_134 ?_
              refine mv_iald (pc := 137) B rfl (i32_in (show 0 ≤ (mv_i υ 22 8).toInt by have := hX.1.1; omega) (show (mv_i υ 22 8).toInt < 1024 by have := hX.1.1; omega)) d_Exprs_endChoices_137 ?_
              refine mv_iconst (pc := 138) (v := 4) B d_Exprs_endChoices_138 (by decide) ?_
              refine mv_callVv (pc := 139) (n := 2) (ci := 6) (C := R_Exprs) B (mK_ok sk sv) hNs rfl rfl (c_Exprs_tell l hi _ _ _ hR.1 hk9.1 hk9.2 (by decide)) rfl (ma_goodc kc_Exprs_tell) (B.2.2.2.1 _ k_1427) (B.2.2.2.1 _ k_1429) (B.2.2.2.1 _ ks_50) (B.2.2.2.1 _ k_7) ⟨by decide +kernel, by decide +kernel, by decide +kernel⟩ rfl d_Exprs_endChoices_139 rfl (Nat.le_of_ble_eq_true rfl) ⟨by decide, by decide⟩ ⟨by decide, by decide⟩ ⟨by decide, by decide⟩ (mv_noH hno _) (fun σ139 h139 => ?_)
              obtain ⟨x9, y9, e139, z139⟩ := h139
              subst e139
              refine mv_gen (fun S142 eS142 => ?_)
              have hR : Rw 145 (mv_r S142) := by rw [eS142]; exact hR
              have hF : RF 145 σ S142 := by rw [eS142]; exact hF.tell _ _
              have hX : XM 145 th e0 bs BL f0 g0 ns S142 (ms2) (sm wt ms2) (sm wr ms2 + 1) (s1) := by rw [eS142]; exact hX.tell hP z139 _ _
              have d7 : mv_i S142 3 7 = mv_i τ 3 7 := by rw [eS142]; exact d7
              have d8 : mv_i S142 3 8 = mv_i τ 3 8 - 1 := by rw [eS142]; exact d8
              have d9 : mv_i S142 3 9 = mv_i τ 3 9 := by rw [eS142]; exact d9
              clear eS142
              refine mv_iconst (pc := 142) (v := 1) B d_Exprs_endChoices_142 (by decide) ?_
              refine mv_istore (pc := 143) B d_Exprs_endChoices_143 (by decide) rfl ?_
              refine mv_lpick [0, 2, 4, 5] rfl ?_
              exact j145 _ _ _ hR hF hX d7 d8 d9
            · skip
              refine mv_iload_n (pc := 123) B d_Exprs_endChoices_123 rfl 2 rfl ?_
              refine mv_iload_n (pc := 124) B d_Exprs_endChoices_124 rfl 3 rfl ?_
              refine mv_icmp_eq (pc := 125) (tgt := 145) B d_Exprs_endChoices_125 rfl (fun h125 => ?_) (fun h125 => ?_)
              · skip
                refine mv_lpick [0, 2, 4, 5] rfl ?_
                exact j145 _ _ _ hR hF hX d7 d8 d9
              · skip
                refine mv_aload_n (pc := 128) B d_Exprs_endChoices_128 rfl 5 rfl ?_
                refine mv_aload_n (pc := 129) B d_Exprs_endChoices_129 rfl 5 rfl ?_
                refine mv_getR (pc := 130) (ci := 6) (C := R_Exprs) (T := F_Exprs) (N := 11) B 5 rfl rfl (by decide) i_Exprs (B.2.2.2.1 _ k_199) rfl (hR.1 _ 5 _ rfl) d_Exprs_endChoices_130 ?_
                refine mv_aload_n (pc := 133) B d_Exprs_endChoices_133 rfl 5 rfl ?_
                refine mv_getI (pc := 134) (ci := 6) (C := R_Exprs) (T := F_Exprs) (N := 11) B 8 rfl rfl (by decide) i_Exprs (B.2.2.2.1 _ k_202) rfl d_Exprs_endChoices_134 ?_
                refine mv_iald (pc := 137) B rfl (i32_in (show 0 ≤ (mv_i υ 22 8).toInt by have := hX.1.1; omega) (show (mv_i υ 22 8).toInt < 1024 by have := hX.1.1; omega)) d_Exprs_endChoices_137 ?_
                refine mv_iconst (pc := 138) (v := 4) B d_Exprs_endChoices_138 (by decide) ?_
                refine mv_callVv (pc := 139) (n := 2) (ci := 6) (C := R_Exprs) B (mK_ok sk sv) hNs rfl rfl (c_Exprs_tell l hi _ _ _ hR.1 hk9.1 hk9.2 (by decide)) rfl (ma_goodc kc_Exprs_tell) (B.2.2.2.1 _ k_1427) (B.2.2.2.1 _ k_1429) (B.2.2.2.1 _ ks_50) (B.2.2.2.1 _ k_7) ⟨by decide +kernel, by decide +kernel, by decide +kernel⟩ rfl d_Exprs_endChoices_139 rfl (Nat.le_of_ble_eq_true rfl) ⟨by decide, by decide⟩ ⟨by decide, by decide⟩ ⟨by decide, by decide⟩ (mv_noH hno _) (fun σ139 h139 => ?_)
                obtain ⟨x9, y9, e139, z139⟩ := h139
                subst e139
                refine mv_gen (fun S142 eS142 => ?_)
                have hR : Rw 145 (mv_r S142) := by rw [eS142]; exact hR
                have hF : RF 145 σ S142 := by rw [eS142]; exact hF.tell _ _
                have hX : XM 145 th e0 bs BL f0 g0 ns S142 (ms2) (sm wt ms2) (sm wr ms2 + 1) (s1) := by rw [eS142]; exact hX.tell hP z139 _ _
                have d7 : mv_i S142 3 7 = mv_i τ 3 7 := by rw [eS142]; exact d7
                have d8 : mv_i S142 3 8 = mv_i τ 3 8 - 1 := by rw [eS142]; exact d8
                have d9 : mv_i S142 3 9 = mv_i τ 3 9 := by rw [eS142]; exact d9
                clear eS142
                refine mv_iconst (pc := 142) (v := 1) B d_Exprs_endChoices_142 (by decide) ?_
                refine mv_istore (pc := 143) B d_Exprs_endChoices_143 (by decide) rfl ?_
                refine mv_lpick [0, 2, 4, 5] rfl ?_
                exact j145 _ _ _ hR hF hX d7 d8 d9
        refine mv_aload_n (pc := 32) B d_Exprs_endChoices_32 rfl 1 rfl ?_
        refine mv_dup (pc := 33) B d_Exprs_endChoices_33 rfl ?_
        refine mv_getI (pc := 34) (ci := 6) (C := R_Exprs) (T := F_Exprs) (N := 11) B 8 rfl rfl (by decide) i_Exprs (B.2.2.2.1 _ k_202) rfl d_Exprs_endChoices_34 ?_
        refine mv_iconst (pc := 37) (v := 1) B d_Exprs_endChoices_37 (by decide) ?_
        refine mv_isub (pc := 38) B d_Exprs_endChoices_38 ?_
        refine mv_putI (pc := 39) (ci := 6) (C := R_Exprs) (T := F_Exprs) (N := 11) B 8 rfl rfl (by decide) i_Exprs t_Exprs_ok n_Exprs (B.2.2.2.1 _ k_202) rfl rfl rfl rfl d_Exprs_endChoices_39 ?_
        refine mv_aload_n (pc := 42) B d_Exprs_endChoices_42 rfl 1 rfl ?_
        refine mv_getR (pc := 43) (ci := 6) (C := R_Exprs) (T := F_Exprs) (N := 11) B 0 rfl rfl (by decide) i_Exprs (B.2.2.2.1 _ k_193) rfl (hR.1 _ 0 _ rfl) d_Exprs_endChoices_43 ?_
        refine mv_dup (pc := 46) B d_Exprs_endChoices_46 rfl ?_
        refine mv_getI (pc := 47) (ci := 2) (C := R_Tokens) (T := F_Tokens) (N := 10) B 8 rfl rfl (by decide) i_Tokens (B.2.2.2.1 _ k_104) rfl d_Exprs_endChoices_47 ?_
        refine mv_iconst (pc := 50) (v := 1) B d_Exprs_endChoices_50 (by decide) ?_
        refine mv_isub (pc := 51) B d_Exprs_endChoices_51 ?_
        refine mv_putI (pc := 52) (ci := 2) (C := R_Tokens) (T := F_Tokens) (N := 10) B 8 rfl rfl (by decide) i_Tokens t_Tokens_ok n_Tokens (B.2.2.2.1 _ k_104) rfl rfl rfl rfl d_Exprs_endChoices_52 ?_
        refine mv_gen (fun S55 eS55 => ?_)
        have hR : Rw 145 (mv_r S55) := by rw [eS55]; exact hR
        have hF : RF 145 σ S55 := by rw [eS55]; exact hF.pop.c3 ⟨by omega, by omega⟩ _
        have p5 : mv_a S55 25 (mv_i S55 22 8).toNatClampNeg = w8 := by rw [eS55]; exact p4
        have p6 : mv_i S55 145 17 = mv_i τ 145 17 := by rw [eS55]; rfl
        have p7 : (mv_i S55 22 8).toInt = ms2.length := by rw [eS55]; exact p1
        have hX : XM 145 th e0 bs BL f0 g0 ns (mv_sb S55 155 w8.toNatClampNeg (mv_i S55 145 17).toInt64) (ms2) (sm wt ms2 + 2) (sm wr ms2 + 1) (s1) := by
          have hX2 := hX
          rw [s1e, s2e, y1, y2, show 1 + sm wt ms2 + 1 = sm wt ms2 + 2 by omega, Nat.zero_add] at hX2
          have := (hX2.chosen hP (w1 := (mv_i S55 145 17).toInt64) (by rw [lg_toInt, p6]; exact v4)).c3 hP 8 (mv_i τ 3 8 - 1)
          rw [eS55] at this ⊢
          exact this
        have d7 : mv_i S55 3 7 = mv_i τ 3 7 := by rw [eS55]; rfl
        have d8 : mv_i S55 3 8 = mv_i τ 3 8 - 1 := by rw [eS55]; rfl
        have d9 : mv_i S55 3 9 = mv_i τ 3 9 := by rw [eS55]; rfl
        clear eS55
        refine mv_aload_n (pc := 55) B d_Exprs_endChoices_55 rfl 1 rfl ?_
        refine mv_getR (pc := 56) (ci := 6) (C := R_Exprs) (T := F_Exprs) (N := 11) B 3 rfl rfl (by decide) i_Exprs (B.2.2.2.1 _ k_197) rfl hR.2.2.2 d_Exprs_endChoices_56 ?_
        refine mv_aload_n (pc := 59) B d_Exprs_endChoices_59 rfl 1 rfl ?_
        refine mv_getR (pc := 60) (ci := 6) (C := R_Exprs) (T := F_Exprs) (N := 11) B 6 rfl rfl (by decide) i_Exprs (B.2.2.2.1 _ k_200) rfl (hR.1 _ 6 _ rfl) d_Exprs_endChoices_60 ?_
        refine mv_aload_n (pc := 63) B d_Exprs_endChoices_63 rfl 1 rfl ?_
        refine mv_getI (pc := 64) (ci := 6) (C := R_Exprs) (T := F_Exprs) (N := 11) B 8 rfl rfl (by decide) i_Exprs (B.2.2.2.1 _ k_202) rfl d_Exprs_endChoices_64 ?_
        refine mv_iald (pc := 67) B rfl (i32_in (by omega) (by omega)) d_Exprs_endChoices_67 ?_
        rw [p5]
        refine mv_callVv (pc := 68) (n := 1) (ci := 7) (C := R_Program) B (mK_ok sk sv) hNs rfl rfl (c_Program_aim_c l hi _ _ hR.2.1 (by omega)) rfl (ma_goodc kc_Program_aim) (B.2.2.2.1 _ k_1501) (B.2.2.2.1 _ k_1403) (B.2.2.2.1 _ k_1404) (B.2.2.2.1 _ k_8) ⟨by decide +kernel, by decide +kernel, by decide +kernel⟩ rfl d_Exprs_endChoices_68 rfl (Nat.le_of_ble_eq_true rfl) ⟨by decide, by decide⟩ ⟨by decide, by decide⟩ ⟨by decide, by decide⟩ (mv_noH hno _) (fun σ68 h68 => ?_)
        have h68 := (h68.resolve_left (fun q => by omega)).2
        subst h68
        refine mv_gen (fun S71 eS71 => ?_)
        have hR : Rw 145 (mv_r S71) := by rw [eS71]; exact hR
        have hF : RF 145 σ S71 := by rw [eS71]; exact hF.aim _ _
        have hX : XM 145 th e0 bs BL f0 g0 ns S71 (ms2) (sm wt ms2 + 2) (sm wr ms2 + 1) (s1) := by rw [eS71]; exact hX
        have d7 : mv_i S71 3 7 = mv_i τ 3 7 := by rw [eS71]; exact d7
        have d8 : mv_i S71 3 8 = mv_i τ 3 8 - 1 := by rw [eS71]; exact d8
        have d9 : mv_i S71 3 9 = mv_i τ 3 9 := by rw [eS71]; exact d9
        clear eS71
        refine mv_aload_n (pc := 71) B d_Exprs_endChoices_71 rfl 1 rfl ?_
        refine mv_callVi (pc := 72) (n := 0) (ci := 6) (C := R_Exprs) B (mK_ok sk sv) hNs rfl rfl (c_Exprs_release l hi _ hR.1 (by have := hX.1.2.2.1; omega) (by have := hX.1.2.2.1; omega)) rfl (ma_goodc kc_Exprs_release) (B.2.2.2.1 _ k_1469) (B.2.2.2.1 _ k_1470) (B.2.2.2.1 _ k_1471) (B.2.2.2.1 _ k_7) ⟨by decide +kernel, by decide +kernel, by decide +kernel⟩ rfl d_Exprs_endChoices_72 rfl (Nat.le_of_ble_eq_true rfl) ⟨by decide, by decide⟩ ⟨by decide, by decide⟩ ⟨by decide, by decide⟩ (mv_noH hno _) (fun v72 σ72 h72 => ?_)
        subst h72
        refine mv_gen (fun S75 eS75 => ?_)
        have hR : Rw 145 (mv_r S75) := by rw [eS75]; exact hR
        have hF : RF 145 σ S75 := by rw [eS75]; exact hF.rel
        have hX : XM 145 th e0 bs BL f0 g0 ns S75 (ms2) (sm wt ms2 + 1) (sm wr ms2 + 1) (s1) := by rw [eS75]; exact hX.rel hP
        have d7 : mv_i S75 3 7 = mv_i τ 3 7 := by rw [eS75]; exact d7
        have d8 : mv_i S75 3 8 = mv_i τ 3 8 - 1 := by rw [eS75]; exact d8
        have d9 : mv_i S75 3 9 = mv_i τ 3 9 := by rw [eS75]; exact d9
        clear eS75
        refine mv_istore_n (pc := 75) B d_Exprs_endChoices_75 rfl (by decide) rfl ?_
        refine mv_aload_n (pc := 76) B d_Exprs_endChoices_76 rfl 2 rfl ?_
        refine mv_callVi (pc := 77) (n := 0) (ci := 6) (C := R_Exprs) B (mK_ok sk sv) hNs rfl rfl (c_Exprs_release l hi _ hR.1 (by have := hX.1.2.2.1; omega) (by have := hX.1.2.2.1; omega)) rfl (ma_goodc kc_Exprs_release) (B.2.2.2.1 _ k_1469) (B.2.2.2.1 _ k_1470) (B.2.2.2.1 _ k_1471) (B.2.2.2.1 _ k_7) ⟨by decide +kernel, by decide +kernel, by decide +kernel⟩ rfl d_Exprs_endChoices_77 rfl (Nat.le_of_ble_eq_true rfl) ⟨by decide, by decide⟩ ⟨by decide, by decide⟩ ⟨by decide, by decide⟩ (mv_noH hno _) (fun v77 σ77 h77 => ?_)
        subst h77
        refine mv_gen (fun S80 eS80 => ?_)
        have hR : Rw 145 (mv_r S80) := by rw [eS80]; exact hR
        have hF : RF 145 σ S80 := by rw [eS80]; exact hF.rel
        have hX : XM 145 th e0 bs BL f0 g0 ns S80 (ms2) (sm wt ms2) (sm wr ms2 + 1) (s1) := by rw [eS80]; exact hX.rel hP
        have d7 : mv_i S80 3 7 = mv_i τ 3 7 := by rw [eS80]; exact d7
        have d8 : mv_i S80 3 8 = mv_i τ 3 8 - 1 := by rw [eS80]; exact d8
        have d9 : mv_i S80 3 9 = mv_i τ 3 9 := by rw [eS80]; exact d9
        clear eS80
        refine mv_istore_n (pc := 80) B d_Exprs_endChoices_80 rfl (by decide) rfl ?_
        refine mv_aload_n (pc := 81) B d_Exprs_endChoices_81 rfl 3 rfl ?_
        refine mv_getR (pc := 82) (ci := 6) (C := R_Exprs) (T := F_Exprs) (N := 11) B 7 rfl rfl (by decide) i_Exprs (B.2.2.2.1 _ k_201) rfl (hR.1 _ 7 _ rfl) d_Exprs_endChoices_82 ?_
        refine mv_aload_n (pc := 85) B d_Exprs_endChoices_85 rfl 3 rfl ?_
        refine mv_getI (pc := 86) (ci := 6) (C := R_Exprs) (T := F_Exprs) (N := 11) B 8 rfl rfl (by decide) i_Exprs (B.2.2.2.1 _ k_202) rfl d_Exprs_endChoices_86 ?_
        refine mv_iald (pc := 89) B rfl (i32_in (show 0 ≤ (mv_i S80 22 8).toInt by have := hX.1.1; omega) (show (mv_i S80 22 8).toInt < 1024 by have := hX.1.1; omega)) d_Exprs_endChoices_89 ?_
        refine mv_istore (pc := 90) B d_Exprs_endChoices_90 (by decide) rfl ?_
        refine mv_iload (pc := 92) B d_Exprs_endChoices_92 0 rfl ?_
        refine mv_if_eq (pc := 94) (tgt := 105) B d_Exprs_endChoices_94 rfl (fun h94 => ?_) (fun h94 => ?_)
        · skip
          refine mv_iconst (pc := 105) (v := 1) B d_Exprs_endChoices_105 (by decide) ?_
          refine mv_goto (pc := 106) (tgt := 110) B d_Exprs_endChoices_106 rfl ?_
          refine mv_lpick [0, 1, 2, 3, 4] rfl ?_
          exact j110 _ _ _ _ _ hR hF hX d7 d8 d9
        · skip
          refine mv_iload_n (pc := 97) B d_Exprs_endChoices_97 rfl 1 rfl ?_
          refine mv_if_eq (pc := 98) (tgt := 105) B d_Exprs_endChoices_98 rfl (fun h98 => ?_) (fun h98 => ?_)
          · skip
            refine mv_iconst (pc := 105) (v := 1) B d_Exprs_endChoices_105 (by decide) ?_
            refine mv_goto (pc := 106) (tgt := 110) B d_Exprs_endChoices_106 rfl ?_
            refine mv_lpick [0, 1, 2, 3, 4] rfl ?_
            exact j110 _ _ _ _ _ hR hF hX d7 d8 d9
          · skip
            refine mv_iload_n (pc := 101) B d_Exprs_endChoices_101 rfl 2 rfl ?_
            refine mv_if_ne (pc := 102) (tgt := 109) B d_Exprs_endChoices_102 rfl (fun h102 => ?_) (fun h102 => ?_)
            · skip
              refine mv_iconst (pc := 109) (v := 0) B d_Exprs_endChoices_109 (by decide) ?_
              refine mv_lpick [0, 1, 2, 3, 4] rfl ?_
              exact j110 _ _ _ _ _ hR hF hX d7 d8 d9
            · skip
              refine mv_iconst (pc := 105) (v := 1) B d_Exprs_endChoices_105 (by decide) ?_
              refine mv_goto (pc := 106) (tgt := 110) B d_Exprs_endChoices_106 rfl ?_
              refine mv_lpick [0, 1, 2, 3, 4] rfl ?_
              exact j110 _ _ _ _ _ hR hF hX d7 d8 d9
      refine mv_iload_n (pc := 2) B d_Exprs_endChoices_2 rfl 0 rfl ?_
      refine mv_bipush (pc := 3) (v := 60) B d_Exprs_endChoices_3 (by decide) ?_
      refine mv_icmp_gt (pc := 5) (tgt := 165) B d_Exprs_endChoices_5 rfl (fun h5 => ?_) (fun h5 => ?_)
      · skip
        exact mv_vret (pc := 165) B hr d_Exprs_endChoices_165 (Nat.le_refl _) (Nat.le_refl _) ⟨rfl, hF, _, _, hX, hI, h7, h9⟩
      · skip
        rw [Int32.lt_iff_toInt_lt] at h5
        have h5 : ¬ (60 : Int) < tt.toInt := h5
        refine mv_aload_n (pc := 8) B d_Exprs_endChoices_8 rfl 1 rfl ?_
        refine mv_getI (pc := 9) (ci := 6) (C := R_Exprs) (T := F_Exprs) (N := 11) B 8 rfl rfl (by decide) i_Exprs (B.2.2.2.1 _ k_202) rfl d_Exprs_endChoices_9 ?_
        refine mv_if_le (pc := 12) (tgt := 165) B d_Exprs_endChoices_12 rfl (fun h12 => ?_) (fun h12 => ?_)
        · skip
          exact mv_vret (pc := 165) B hr d_Exprs_endChoices_165 (Nat.le_refl _) (Nat.le_refl _) ⟨rfl, hF, _, _, hX, hI, h7, h9⟩
        · skip
          rw [Int32.le_iff_toInt_le] at h12
          simp only [Int32.reduceToInt] at h12
          obtain ⟨k8, w8, ms2, ems⟩ := hX.ne (by omega)
          subst ems
          obtain ⟨p1, p2, p3, p4⟩ := hX.top
          have pl := hI.len hX
          have pl1 : (((k8, w8) : Mk) :: ms2).length = ms2.length + 1 := rfl
          have t2 : (tt + 1).toInt = tt.toInt + 1 := i32_inc (by omega)
          have s1e : sm wt (((k8, w8) : Mk) :: ms2) = wt (k8, w8) + sm wt ms2 := rfl
          have s2e : sm wr (((k8, w8) : Mk) :: ms2) = wr (k8, w8) + sm wr ms2 := rfl
          have s3e : sm wc (((k8, w8) : Mk) :: ms2) = wc (k8, w8) + sm wc ms2 := rfl
          have s4e : sm wd (((k8, w8) : Mk) :: ms2) = wd (k8, w8) + sm wd ms2 := rfl
          have hI5 := hI.2.2.2.2.1
          have hsz := hB0.2.1.2.2.2.2.2
          have ha9 := hI.2.2.2.2.2.1
          refine mv_aload_n (pc := 15) B d_Exprs_endChoices_15 rfl 1 rfl ?_
          refine mv_getR (pc := 16) (ci := 6) (C := R_Exprs) (T := F_Exprs) (N := 11) B 4 rfl rfl (by decide) i_Exprs (B.2.2.2.1 _ k_198) rfl (hR.1 _ 4 _ rfl) d_Exprs_endChoices_16 ?_
          refine mv_aload_n (pc := 19) B d_Exprs_endChoices_19 rfl 1 rfl ?_
          refine mv_getI (pc := 20) (ci := 6) (C := R_Exprs) (T := F_Exprs) (N := 11) B 8 rfl rfl (by decide) i_Exprs (B.2.2.2.1 _ k_202) rfl d_Exprs_endChoices_20 ?_
          refine mv_iconst (pc := 23) (v := 1) B d_Exprs_endChoices_23 (by decide) ?_
          refine mv_isub (pc := 24) B d_Exprs_endChoices_24 ?_
          refine mv_iald (pc := 25) B rfl (i32_in (by omega) (by omega)) d_Exprs_endChoices_25 ?_
          refine mv_bipush (pc := 26) (v := 58) B d_Exprs_endChoices_26 (by decide) ?_
          refine mv_icmp_eq (pc := 28) (tgt := 32) B d_Exprs_endChoices_28 rfl (fun h28 => ?_) (fun h28 => ?_)
          · skip
            rw [p3] at h28
            subst h28
            refine mv_lpick [0, 1] rfl ?_
            exact j32 _ _ hX hI h5
          · skip
            exact mv_vret (pc := 31) B hr d_Exprs_endChoices_31 (Nat.le_refl _) (Nat.le_refl _) ⟨rfl, hF, _, _, hX, hI, h7, h9⟩
  refine mv_iconst (pc := 0) (v := 0) B d_Exprs_endChoices_0 (by decide) ?_
  refine mv_istore_n (pc := 1) B d_Exprs_endChoices_1 rfl (by decide) rfl ?_
  refine mv_lpick [0, 1] rfl ?_
  exact lp _ _ _ ms s0 hR hF hX0 hI0 rfl rfl (by decide) (by decide) (Nat.lt_succ_self _)
