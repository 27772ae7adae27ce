/-! Tokens: one TOKEN; Symbols.clear; all TOKENS -/
def y_Tokens_cutOne : MethodName := ⟨"MachineLoom$Tokens", "cutOne", "(I)I"⟩
abbrev b_Tokens_cutOne : ByteArray := prog_10_method_4_code
theorem kc_Tokens_cutOne : Cond.code y_Tokens_cutOne b_Tokens_cutOne 4 (Option.some Jvm.ClassFile.FieldType.int) ∈ ma := ma_of (tb_4 _ (List.mem_of_getElem? (i := 106) rfl)) rfl
theorem k_862 : (Jvm.Cond.methodLink "MachineLoom$Tokens" (81 : Nat) ({ cls := "MachineLoom$Tokens", name := "cutName", desc := "(I)I" } : Jvm.MethodName)) ∈ ma := ma_of (tb_4 _ (List.mem_of_getElem? (i := 142) rfl)) rfl
theorem k_864 : (Jvm.Cond.instanceMethod ({ cls := "MachineLoom$Tokens", name := "cutName", desc := "(I)I" } : Jvm.MethodName)) ∈ ma := ma_of (tb_4 _ (List.mem_of_getElem? (i := 144) rfl)) rfl
theorem ks_27 : Cond.selects "MachineLoom$Tokens" ⟨"MachineLoom$Tokens", "cutName", "(I)I"⟩ ⟨"MachineLoom$Tokens", "cutName", "(I)I"⟩ ∈ ma := ma_sel 27 rfl rfl
theorem k_877 : (Jvm.Cond.methodLink "MachineLoom$Tokens" (87 : Nat) ({ cls := "MachineLoom$Tokens", name := "cutSign", desc := "(II)I" } : Jvm.MethodName)) ∈ ma := ma_of (tb_4 _ (List.mem_of_getElem? (i := 157) rfl)) rfl
theorem k_879 : (Jvm.Cond.instanceMethod ({ cls := "MachineLoom$Tokens", name := "cutSign", desc := "(II)I" } : Jvm.MethodName)) ∈ ma := ma_of (tb_4 _ (List.mem_of_getElem? (i := 159) rfl)) rfl
theorem ks_29 : Cond.selects "MachineLoom$Tokens" ⟨"MachineLoom$Tokens", "cutSign", "(II)I"⟩ ⟨"MachineLoom$Tokens", "cutSign", "(II)I"⟩ ∈ ma := ma_sel 29 rfl rfl
theorem k_870 : (Jvm.Cond.methodLink "MachineLoom$Tokens" (84 : Nat) ({ cls := "MachineLoom$Tokens", name := "cutCode", desc := "(I)I" } : Jvm.MethodName)) ∈ ma := ma_of (tb_4 _ (List.mem_of_getElem? (i := 150) rfl)) rfl
theorem k_872 : (Jvm.Cond.instanceMethod ({ cls := "MachineLoom$Tokens", name := "cutCode", desc := "(I)I" } : Jvm.MethodName)) ∈ ma := ma_of (tb_4 _ (List.mem_of_getElem? (i := 152) rfl)) rfl
theorem ks_28 : Cond.selects "MachineLoom$Tokens" ⟨"MachineLoom$Tokens", "cutCode", "(I)I"⟩ ⟨"MachineLoom$Tokens", "cutCode", "(I)I"⟩ ∈ ma := ma_sel 28 rfl rfl
theorem k_856 : (Jvm.Cond.methodLink "MachineLoom$Tokens" (75 : Nat) ({ cls := "MachineLoom$Tokens", name := "cutDecimal", desc := "(I)I" } : Jvm.MethodName)) ∈ ma := ma_of (tb_4 _ (List.mem_of_getElem? (i := 136) rfl)) rfl
theorem k_858 : (Jvm.Cond.instanceMethod ({ cls := "MachineLoom$Tokens", name := "cutDecimal", desc := "(I)I" } : Jvm.MethodName)) ∈ ma := ma_of (tb_4 _ (List.mem_of_getElem? (i := 138) rfl)) rfl
theorem ks_26 : Cond.selects "MachineLoom$Tokens" ⟨"MachineLoom$Tokens", "cutDecimal", "(I)I"⟩ ⟨"MachineLoom$Tokens", "cutDecimal", "(I)I"⟩ ∈ ma := ma_sel 26 rfl rfl
theorem k_838 : (Jvm.Cond.methodLink "MachineLoom$Tokens" (72 : Nat) ({ cls := "MachineLoom$Tokens", name := "cutHex", desc := "(I)I" } : Jvm.MethodName)) ∈ ma := ma_of (tb_4 _ (List.mem_of_getElem? (i := 118) rfl)) rfl
theorem k_840 : (Jvm.Cond.instanceMethod ({ cls := "MachineLoom$Tokens", name := "cutHex", desc := "(I)I" } : Jvm.MethodName)) ∈ ma := ma_of (tb_4 _ (List.mem_of_getElem? (i := 120) rfl)) rfl
theorem ks_23 : Cond.selects "MachineLoom$Tokens" ⟨"MachineLoom$Tokens", "cutHex", "(I)I"⟩ ⟨"MachineLoom$Tokens", "cutHex", "(I)I"⟩ ∈ ma := ma_sel 23 rfl rfl
theorem d_Tokens_cutOne_0 : decode b_Tokens_cutOne 0 = .ok (.aload_n 0, 1) := by decide +kernel
theorem d_Tokens_cutOne_1 : decode b_Tokens_cutOne 1 = .ok (.iload_n 1, 1) := by decide +kernel
theorem d_Tokens_cutOne_2 : decode b_Tokens_cutOne 2 = .ok (.invokevirtual 61, 3) := by decide +kernel
theorem d_Tokens_cutOne_5 : decode b_Tokens_cutOne 5 = .ok (.istore_n 2, 1) := by decide +kernel
theorem d_Tokens_cutOne_6 : decode b_Tokens_cutOne 6 = .ok (.iload_n 2, 1) := by decide +kernel
theorem d_Tokens_cutOne_7 : decode b_Tokens_cutOne 7 = .ok (.ifCond .ge (15), 3) := by decide +kernel
theorem d_Tokens_cutOne_10 : decode b_Tokens_cutOne 10 = .ok (.aload_n 0, 1) := by decide +kernel
theorem d_Tokens_cutOne_11 : decode b_Tokens_cutOne 11 = .ok (.iconst 1, 1) := by decide +kernel
theorem d_Tokens_cutOne_12 : decode b_Tokens_cutOne 12 = .ok (.aload_n 0, 1) := by decide +kernel
theorem d_Tokens_cutOne_13 : decode b_Tokens_cutOne 13 = .ok (.getfield 34, 3) := by decide +kernel
theorem d_Tokens_cutOne_16 : decode b_Tokens_cutOne 16 = .ok (.lconst 0, 1) := by decide +kernel
theorem d_Tokens_cutOne_17 : decode b_Tokens_cutOne 17 = .ok (.iconst (-1), 1) := by decide +kernel
theorem d_Tokens_cutOne_18 : decode b_Tokens_cutOne 18 = .ok (.invokevirtual 64, 3) := by decide +kernel
theorem d_Tokens_cutOne_21 : decode b_Tokens_cutOne 21 = .ok (.ireturn, 1) := by decide +kernel
theorem d_Tokens_cutOne_22 : decode b_Tokens_cutOne 22 = .ok (.iload_n 2, 1) := by decide +kernel
theorem d_Tokens_cutOne_23 : decode b_Tokens_cutOne 23 = .ok (.invokestatic 68, 3) := by decide +kernel
theorem d_Tokens_cutOne_26 : decode b_Tokens_cutOne 26 = .ok (.ifCond .eq (45), 3) := by decide +kernel
theorem d_Tokens_cutOne_29 : decode b_Tokens_cutOne 29 = .ok (.iload_n 2, 1) := by decide +kernel
theorem d_Tokens_cutOne_30 : decode b_Tokens_cutOne 30 = .ok (.bipush 48, 2) := by decide +kernel
theorem d_Tokens_cutOne_32 : decode b_Tokens_cutOne 32 = .ok (.if_icmp .ne (19), 3) := by decide +kernel
theorem d_Tokens_cutOne_35 : decode b_Tokens_cutOne 35 = .ok (.aload_n 0, 1) := by decide +kernel
theorem d_Tokens_cutOne_36 : decode b_Tokens_cutOne 36 = .ok (.iload_n 1, 1) := by decide +kernel
theorem d_Tokens_cutOne_37 : decode b_Tokens_cutOne 37 = .ok (.iconst 1, 1) := by decide +kernel
theorem d_Tokens_cutOne_38 : decode b_Tokens_cutOne 38 = .ok (.iadd, 1) := by decide +kernel
theorem d_Tokens_cutOne_39 : decode b_Tokens_cutOne 39 = .ok (.invokevirtual 61, 3) := by decide +kernel
theorem d_Tokens_cutOne_42 : decode b_Tokens_cutOne 42 = .ok (.bipush 120, 2) := by decide +kernel
theorem d_Tokens_cutOne_44 : decode b_Tokens_cutOne 44 = .ok (.if_icmp .ne (7), 3) := by decide +kernel
theorem d_Tokens_cutOne_47 : decode b_Tokens_cutOne 47 = .ok (.iconst 1, 1) := by decide +kernel
theorem d_Tokens_cutOne_48 : decode b_Tokens_cutOne 48 = .ok (.goto (4), 3) := by decide +kernel
theorem d_Tokens_cutOne_51 : decode b_Tokens_cutOne 51 = .ok (.iconst 0, 1) := by decide +kernel
theorem d_Tokens_cutOne_52 : decode b_Tokens_cutOne 52 = .ok (.istore_n 3, 1) := by decide +kernel
theorem d_Tokens_cutOne_53 : decode b_Tokens_cutOne 53 = .ok (.iload_n 3, 1) := by decide +kernel
theorem d_Tokens_cutOne_54 : decode b_Tokens_cutOne 54 = .ok (.ifCond .eq (11), 3) := by decide +kernel
theorem d_Tokens_cutOne_57 : decode b_Tokens_cutOne 57 = .ok (.aload_n 0, 1) := by decide +kernel
theorem d_Tokens_cutOne_58 : decode b_Tokens_cutOne 58 = .ok (.iload_n 1, 1) := by decide +kernel
theorem d_Tokens_cutOne_59 : decode b_Tokens_cutOne 59 = .ok (.invokevirtual 72, 3) := by decide +kernel
theorem d_Tokens_cutOne_62 : decode b_Tokens_cutOne 62 = .ok (.goto (8), 3) := by decide +kernel
theorem d_Tokens_cutOne_65 : decode b_Tokens_cutOne 65 = .ok (.aload_n 0, 1) := by decide +kernel
theorem d_Tokens_cutOne_66 : decode b_Tokens_cutOne 66 = .ok (.iload_n 1, 1) := by decide +kernel
theorem d_Tokens_cutOne_67 : decode b_Tokens_cutOne 67 = .ok (.invokevirtual 75, 3) := by decide +kernel
theorem d_Tokens_cutOne_70 : decode b_Tokens_cutOne 70 = .ok (.ireturn, 1) := by decide +kernel
theorem d_Tokens_cutOne_71 : decode b_Tokens_cutOne 71 = .ok (.iload_n 2, 1) := by decide +kernel
theorem d_Tokens_cutOne_72 : decode b_Tokens_cutOne 72 = .ok (.invokestatic 78, 3) := by decide +kernel
theorem d_Tokens_cutOne_75 : decode b_Tokens_cutOne 75 = .ok (.ifCond .ne (9), 3) := by decide +kernel
theorem d_Tokens_cutOne_78 : decode b_Tokens_cutOne 78 = .ok (.iload_n 2, 1) := by decide +kernel
theorem d_Tokens_cutOne_79 : decode b_Tokens_cutOne 79 = .ok (.bipush 95, 2) := by decide +kernel
theorem d_Tokens_cutOne_81 : decode b_Tokens_cutOne 81 = .ok (.if_icmp .ne (9), 3) := by decide +kernel
theorem d_Tokens_cutOne_84 : decode b_Tokens_cutOne 84 = .ok (.aload_n 0, 1) := by decide +kernel
theorem d_Tokens_cutOne_85 : decode b_Tokens_cutOne 85 = .ok (.iload_n 1, 1) := by decide +kernel
theorem d_Tokens_cutOne_86 : decode b_Tokens_cutOne 86 = .ok (.invokevirtual 81, 3) := by decide +kernel
theorem d_Tokens_cutOne_89 : decode b_Tokens_cutOne 89 = .ok (.ireturn, 1) := by decide +kernel
theorem d_Tokens_cutOne_90 : decode b_Tokens_cutOne 90 = .ok (.iload_n 2, 1) := by decide +kernel
theorem d_Tokens_cutOne_91 : decode b_Tokens_cutOne 91 = .ok (.bipush 34, 2) := by decide +kernel
theorem d_Tokens_cutOne_93 : decode b_Tokens_cutOne 93 = .ok (.if_icmp .ne (11), 3) := by decide +kernel
theorem d_Tokens_cutOne_96 : decode b_Tokens_cutOne 96 = .ok (.aload_n 0, 1) := by decide +kernel
theorem d_Tokens_cutOne_97 : decode b_Tokens_cutOne 97 = .ok (.iload_n 1, 1) := by decide +kernel
theorem d_Tokens_cutOne_98 : decode b_Tokens_cutOne 98 = .ok (.invokevirtual 84, 3) := by decide +kernel
theorem d_Tokens_cutOne_101 : decode b_Tokens_cutOne 101 = .ok (.goto (9), 3) := by decide +kernel
theorem d_Tokens_cutOne_104 : decode b_Tokens_cutOne 104 = .ok (.aload_n 0, 1) := by decide +kernel
theorem d_Tokens_cutOne_105 : decode b_Tokens_cutOne 105 = .ok (.iload_n 1, 1) := by decide +kernel
theorem d_Tokens_cutOne_106 : decode b_Tokens_cutOne 106 = .ok (.iload_n 2, 1) := by decide +kernel
theorem d_Tokens_cutOne_107 : decode b_Tokens_cutOne 107 = .ok (.invokevirtual 87, 3) := by decide +kernel
theorem d_Tokens_cutOne_110 : decode b_Tokens_cutOne 110 = .ok (.ireturn, 1) := by decide +kernel
set_option maxHeartbeats 4000000 in
set_option maxRecDepth 100000 in
theorem c_Tokens_cutOne (l : Launch) {dA : FieldType → ClassId} {D : va_G} {al : Nat → Nat} {ext : mv_Sh} {sk sv : Nat → Nat} (hi : mv_inj (mg dA D al ext)) (σ : mv_H) (f : Int32) (t tn len : Nat) (hx : tx ext σ t tn len) (n z sz F : Nat) (hS : Sy σ n z) (hT : Tk σ t len sz n) (hsz9 : sz < 32770) (hJ : Ju σ t len n z F) (gF : f.toInt = F) (g0 : 0 ≤ f.toInt) (g1 : f.toInt ≤ len) (hby8 : ∀ i, i < tn → -128 ≤ (mv_a σ t i).toInt ∧ (mv_a σ t i).toInt ≤ 127) : mv_C l y_Tokens_cutOne (Cond.code y_Tokens_cutOne b_Tokens_cutOne 4 (Option.some Jvm.ClassFile.FieldType.int) :: ma) ({ frames := 5, cells := 0, slots := 0, locals := 129 }) (mg dA D al ext) (mK sk sv) [.ref (al 3), .int f] σ (mv_Ri (fun v σ1 => CutP σ t len sz F v σ1)) := by
  refine mv_C.ofV (cc := b_Tokens_cutOne) (nL := 4) (ret := (Option.some Jvm.ClassFile.FieldType.int)) (by decide +kernel) rfl hi (Nat.le_of_ble_eq_true rfl) ?_
  intro p e s m below meth c B hNs hr hnm hno
  obtain ⟨hsh, ht, hts, hlen, hl1, hl2, ht2⟩ := hx
  have hsz : vp_in (mv_i σ 3 6) 32770 := i32_in (by have := hT.1; omega) (by have := hT.1; omega)
  refine mv_aload_n (pc := 0) B d_Tokens_cutOne_0 rfl 0 rfl ?_
  refine mv_iload_n (pc := 1) B d_Tokens_cutOne_1 rfl 1 rfl ?_
  refine mv_callVi (pc := 2) (n := 1) (ci := 2) (C := R_Tokens) B (mK_ok sk sv) hNs rfl rfl (c_Tokens_characterAt l hi _ _ t tn hsh ht hts (by omega) (by omega)) rfl (ma_goodc kc_Tokens_characterAt) (B.2.2.2.1 _ k_827) (B.2.2.2.1 _ k_829) (B.2.2.2.1 _ ks_21) (B.2.2.2.1 _ k_3) ⟨by decide +kernel, by decide +kernel, by decide +kernel⟩ rfl d_Tokens_cutOne_2 rfl (Nat.le_of_ble_eq_true rfl) ⟨by decide, by decide⟩ ⟨by decide, by decide⟩ ⟨by decide, by decide⟩ (mv_noH hno _) (fun v2 σ2 h2 => ?_)
  obtain ⟨e2, z2⟩ := h2
  have e2 := e2.symm
  subst e2
  refine mv_istore_n (pc := 5) B d_Tokens_cutOne_5 rfl (by decide) rfl ?_
  refine mv_iload_n (pc := 6) B d_Tokens_cutOne_6 rfl 0 rfl ?_
  refine mv_if_ge (pc := 7) (tgt := 22) B d_Tokens_cutOne_7 rfl (fun h7 => ?_) (fun h7 => ?_)
  · skip
    have gl : f.toInt < len := Decidable.byContradiction fun q => by rw [if_neg (by omega)] at z2; rw [z2] at h7; exact absurd h7 (by decide)
    have zc : v2.toInt = (mv_a σ t f.toNatClampNeg).toInt % 256 := by rw [z2, if_pos (by omega), and255]
    have hb := hby8 f.toNatClampNeg (by have := i32_cl g0; omega)
    refine mv_iload_n (pc := 22) B d_Tokens_cutOne_22 rfl 0 rfl ?_
    refine mv_callSi (pc := 23) (n := 1) B (mK_ok sk sv) hNs (c_Tokens_isDigit l hi _ _) rfl (ma_goodc kc_Tokens_isDigit) (B.2.2.2.1 _ k_835) (B.2.2.2.1 _ k_836) (B.2.2.2.1 _ k_3) ⟨by decide +kernel, by decide +kernel, by decide +kernel⟩ rfl d_Tokens_cutOne_23 rfl (Nat.le_of_ble_eq_true rfl) ⟨by decide, by decide⟩ ⟨by decide, by decide⟩ ⟨by decide, by decide⟩ (mv_noH hno _) (fun v23 σ23 h23 => ?_)
    obtain ⟨e23, z23⟩ := h23
    have e23 := e23.symm
    subst e23
    refine mv_if_eq (pc := 26) (tgt := 71) B d_Tokens_cutOne_26 rfl (fun h26 => ?_) (fun h26 => ?_)
    · skip
      refine mv_iload_n (pc := 71) B d_Tokens_cutOne_71 rfl 0 rfl ?_
      refine mv_callSi (pc := 72) (n := 1) B (mK_ok sk sv) hNs (c_Tokens_isLetter l hi _ _) rfl (ma_goodc kc_Tokens_isLetter) (B.2.2.2.1 _ k_853) (B.2.2.2.1 _ k_854) (B.2.2.2.1 _ k_3) ⟨by decide +kernel, by decide +kernel, by decide +kernel⟩ rfl d_Tokens_cutOne_72 rfl (Nat.le_of_ble_eq_true rfl) ⟨by decide, by decide⟩ ⟨by decide, by decide⟩ ⟨by decide, by decide⟩ (mv_noH hno _) (fun v72 σ72 h72 => ?_)
      obtain ⟨e72, z72⟩ := h72
      have e72 := e72.symm
      subst e72
      refine mv_if_ne (pc := 75) (tgt := 84) B d_Tokens_cutOne_75 rfl (fun h75 => ?_) (fun h75 => ?_)
      · skip
        have z75 := zb_t z72 h75
        have gn : ch_name (mv_a σ t f.toNatClampNeg).toInt := by omega
        refine mv_aload_n (pc := 84) B d_Tokens_cutOne_84 rfl 1 rfl ?_
        refine mv_iload_n (pc := 85) B d_Tokens_cutOne_85 rfl 2 rfl ?_
        refine mv_callVi (pc := 86) (n := 1) (ci := 2) (C := R_Tokens) B (mK_ok sk sv) hNs rfl rfl (c_Tokens_cutName l hi _ _ t tn len ⟨hsh, ht, hts, hlen, hl1, hl2, ht2⟩ n z sz F hS hT hsz9 hJ gF (by omega) gl gn) rfl (ma_goodc kc_Tokens_cutName) (B.2.2.2.1 _ k_862) (B.2.2.2.1 _ k_864) (B.2.2.2.1 _ ks_27) (B.2.2.2.1 _ k_3) ⟨by decide +kernel, by decide +kernel, by decide +kernel⟩ rfl d_Tokens_cutOne_86 rfl (Nat.le_of_ble_eq_true rfl) ⟨by decide, by decide⟩ ⟨by decide, by decide⟩ ⟨by decide, by decide⟩ (mv_noH hno _) (fun v86 σ86 h86 => ?_)
        exact mv_iret (pc := 89) B hr rfl d_Tokens_cutOne_89 (Nat.le_refl _) (Nat.le_refl _) ⟨_, rfl, h86⟩
      · skip
        refine mv_iload_n (pc := 78) B d_Tokens_cutOne_78 rfl 0 rfl ?_
        refine mv_bipush (pc := 79) (v := 95) B d_Tokens_cutOne_79 (by decide) ?_
        refine mv_icmp_ne (pc := 81) (tgt := 90) B d_Tokens_cutOne_81 rfl (fun h81 => ?_) (fun h81 => ?_)
        · skip
          refine mv_iload_n (pc := 90) B d_Tokens_cutOne_90 rfl 0 rfl ?_
          refine mv_bipush (pc := 91) (v := 34) B d_Tokens_cutOne_91 (by decide) ?_
          refine mv_icmp_ne (pc := 93) (tgt := 104) B d_Tokens_cutOne_93 rfl (fun h93 => ?_) (fun h93 => ?_)
          · skip
            refine mv_aload_n (pc := 104) B d_Tokens_cutOne_104 rfl 1 rfl ?_
            refine mv_iload_n (pc := 105) B d_Tokens_cutOne_105 rfl 2 rfl ?_
            refine mv_iload_n (pc := 106) B d_Tokens_cutOne_106 rfl 0 rfl ?_
            refine mv_callVi (pc := 107) (n := 2) (ci := 2) (C := R_Tokens) B (mK_ok sk sv) hNs rfl rfl (c_Tokens_cutSign l hi _ _ _ t tn len ⟨hsh, ht, hts, hlen, hl1, hl2, ht2⟩ hsz (by omega) gl (by omega)) rfl (ma_goodc kc_Tokens_cutSign) (B.2.2.2.1 _ k_877) (B.2.2.2.1 _ k_879) (B.2.2.2.1 _ ks_29) (B.2.2.2.1 _ k_3) ⟨by decide +kernel, by decide +kernel, by decide +kernel⟩ rfl d_Tokens_cutOne_107 rfl (Nat.le_of_ble_eq_true rfl) ⟨by decide, by decide⟩ ⟨by decide, by decide⟩ ⟨by decide, by decide⟩ (mv_noH hno _) (fun v107 σ107 h107 => ?_)
            exact mv_iret (pc := 110) B hr rfl d_Tokens_cutOne_110 (Nat.le_refl _) (Nat.le_refl _) ⟨_, rfl, by first | exact CutP.of (f := F) (gF ▸ h98) rfl hS hT hsz9 ht2 hJ | exact CutP.of (f := F) (gF ▸ h107) rfl hS hT hsz9 ht2 hJ⟩
          · skip
            have gq8 : mv_a σ t f.toNatClampNeg = 34 := q34 hb (by rw [if_pos (by omega)] at z2; rw [← z2]; exact h93)
            refine mv_aload_n (pc := 96) B d_Tokens_cutOne_96 rfl 1 rfl ?_
            refine mv_iload_n (pc := 97) B d_Tokens_cutOne_97 rfl 2 rfl ?_
            refine mv_callVi (pc := 98) (n := 1) (ci := 2) (C := R_Tokens) B (mK_ok sk sv) hNs rfl rfl (c_Tokens_cutCode l hi _ _ t tn len ⟨hsh, ht, hts, hlen, hl1, hl2, ht2⟩ hsz (by omega) gl gq8 hby8) rfl (ma_goodc kc_Tokens_cutCode) (B.2.2.2.1 _ k_870) (B.2.2.2.1 _ k_872) (B.2.2.2.1 _ ks_28) (B.2.2.2.1 _ k_3) ⟨by decide +kernel, by decide +kernel, by decide +kernel⟩ rfl d_Tokens_cutOne_98 rfl (Nat.le_of_ble_eq_true rfl) ⟨by decide, by decide⟩ ⟨by decide, by decide⟩ ⟨by decide, by decide⟩ (mv_noH hno _) (fun v98 σ98 h98 => ?_)
            refine mv_goto (pc := 101) (tgt := 110) B d_Tokens_cutOne_101 rfl ?_
            exact mv_iret (pc := 110) B hr rfl d_Tokens_cutOne_110 (Nat.le_refl _) (Nat.le_refl _) ⟨_, rfl, by first | exact CutP.of (f := F) (gF ▸ h98) rfl hS hT hsz9 ht2 hJ | exact CutP.of (f := F) (gF ▸ h107) rfl hS hT hsz9 ht2 hJ⟩
        · skip
          have e81 : v2.toInt = 95 := by rw [h81]; rfl
          have gn : ch_name (mv_a σ t f.toNatClampNeg).toInt := by omega
          refine mv_aload_n (pc := 84) B d_Tokens_cutOne_84 rfl 1 rfl ?_
          refine mv_iload_n (pc := 85) B d_Tokens_cutOne_85 rfl 2 rfl ?_
          refine mv_callVi (pc := 86) (n := 1) (ci := 2) (C := R_Tokens) B (mK_ok sk sv) hNs rfl rfl (c_Tokens_cutName l hi _ _ t tn len ⟨hsh, ht, hts, hlen, hl1, hl2, ht2⟩ n z sz F hS hT hsz9 hJ gF (by omega) gl gn) rfl (ma_goodc kc_Tokens_cutName) (B.2.2.2.1 _ k_862) (B.2.2.2.1 _ k_864) (B.2.2.2.1 _ ks_27) (B.2.2.2.1 _ k_3) ⟨by decide +kernel, by decide +kernel, by decide +kernel⟩ rfl d_Tokens_cutOne_86 rfl (Nat.le_of_ble_eq_true rfl) ⟨by decide, by decide⟩ ⟨by decide, by decide⟩ ⟨by decide, by decide⟩ (mv_noH hno _) (fun v86 σ86 h86 => ?_)
          exact mv_iret (pc := 89) B hr rfl d_Tokens_cutOne_89 (Nat.le_refl _) (Nat.le_refl _) ⟨_, rfl, h86⟩
    · skip
      have z26 := zb_t z23 h26
      have gd : ch_digit (mv_a σ t f.toNatClampNeg).toInt := by omega
      refine mv_iload_n (pc := 29) B d_Tokens_cutOne_29 rfl 0 rfl ?_
      refine mv_bipush (pc := 30) (v := 48) B d_Tokens_cutOne_30 (by decide) ?_
      refine mv_icmp_ne (pc := 32) (tgt := 51) B d_Tokens_cutOne_32 rfl (fun h32 => ?_) (fun h32 => ?_)
      · skip
        refine mv_iconst (pc := 51) (v := 0) B d_Tokens_cutOne_51 (by decide) ?_
        refine mv_istore_n (pc := 52) B d_Tokens_cutOne_52 rfl (by decide) rfl ?_
        refine mv_iload_n (pc := 53) B d_Tokens_cutOne_53 rfl 0 rfl ?_
        refine mv_if_eq (pc := 54) (tgt := 65) B d_Tokens_cutOne_54 rfl (fun h54 => ?_) (fun h54 => ?_)
        · skip
          refine mv_aload_n (pc := 65) B d_Tokens_cutOne_65 rfl 2 rfl ?_
          refine mv_iload_n (pc := 66) B d_Tokens_cutOne_66 rfl 3 rfl ?_
          refine mv_callVi (pc := 67) (n := 1) (ci := 2) (C := R_Tokens) B (mK_ok sk sv) hNs rfl rfl (c_Tokens_cutDecimal l hi _ _ t tn len ⟨hsh, ht, hts, hlen, hl1, hl2, ht2⟩ hsz (by omega) gl gd) rfl (ma_goodc kc_Tokens_cutDecimal) (B.2.2.2.1 _ k_856) (B.2.2.2.1 _ k_858) (B.2.2.2.1 _ ks_26) (B.2.2.2.1 _ k_3) ⟨by decide +kernel, by decide +kernel, by decide +kernel⟩ rfl d_Tokens_cutOne_67 rfl (Nat.le_of_ble_eq_true rfl) ⟨by decide, by decide⟩ ⟨by decide, by decide⟩ ⟨by decide, by decide⟩ (mv_noH hno _) (fun v67 σ67 h67 => ?_)
          exact mv_iret (pc := 70) B hr rfl d_Tokens_cutOne_70 (Nat.le_refl _) (Nat.le_refl _) ⟨_, rfl, by first | exact CutP.of (f := F) (gF ▸ h59) rfl hS hT hsz9 ht2 hJ | exact CutP.of (f := F) (gF ▸ h67) rfl hS hT hsz9 ht2 hJ⟩
        · skip
          refine mv_aload_n (pc := 57) B d_Tokens_cutOne_57 rfl 2 rfl ?_
          refine mv_iload_n (pc := 58) B d_Tokens_cutOne_58 rfl 3 rfl ?_
          refine mv_callVi (pc := 59) (n := 1) (ci := 2) (C := R_Tokens) B (mK_ok sk sv) hNs rfl rfl (c_Tokens_cutHex l hi _ _ t tn len ⟨hsh, ht, hts, hlen, hl1, hl2, ht2⟩ hsz (by omega) (by first | exact gx | exact absurd rfl h54)) rfl (ma_goodc kc_Tokens_cutHex) (B.2.2.2.1 _ k_838) (B.2.2.2.1 _ k_840) (B.2.2.2.1 _ ks_23) (B.2.2.2.1 _ k_3) ⟨by decide +kernel, by decide +kernel, by decide +kernel⟩ rfl d_Tokens_cutOne_59 rfl (Nat.le_of_ble_eq_true rfl) ⟨by decide, by decide⟩ ⟨by decide, by decide⟩ ⟨by decide, by decide⟩ (mv_noH hno _) (fun v59 σ59 h59 => ?_)
          refine mv_goto (pc := 62) (tgt := 70) B d_Tokens_cutOne_62 rfl ?_
          exact mv_iret (pc := 70) B hr rfl d_Tokens_cutOne_70 (Nat.le_refl _) (Nat.le_refl _) ⟨_, rfl, by first | exact CutP.of (f := F) (gF ▸ h59) rfl hS hT hsz9 ht2 hJ | exact CutP.of (f := F) (gF ▸ h67) rfl hS hT hsz9 ht2 hJ⟩
      · skip
        refine mv_aload_n (pc := 35) B d_Tokens_cutOne_35 rfl 1 rfl ?_
        refine mv_iload_n (pc := 36) B d_Tokens_cutOne_36 rfl 2 rfl ?_
        refine mv_iconst (pc := 37) (v := 1) B d_Tokens_cutOne_37 (by decide) ?_
        refine mv_iadd (pc := 38) B d_Tokens_cutOne_38 ?_
        refine mv_topi (fun y38 ey38 => ?_)
        have fy38 := i32_addE ey38 (by (try simp only [Int32.reduceToInt]); omega) (by (try simp only [Int32.reduceToInt]); omega)
        try simp only [Int32.reduceToInt] at fy38
        refine mv_callVi (pc := 39) (n := 1) (ci := 2) (C := R_Tokens) B (mK_ok sk sv) hNs rfl rfl (c_Tokens_characterAt l hi _ _ t tn hsh ht hts (by omega) (by omega)) rfl (ma_goodc kc_Tokens_characterAt) (B.2.2.2.1 _ k_827) (B.2.2.2.1 _ k_829) (B.2.2.2.1 _ ks_21) (B.2.2.2.1 _ k_3) ⟨by decide +kernel, by decide +kernel, by decide +kernel⟩ rfl d_Tokens_cutOne_39 rfl (Nat.le_of_ble_eq_true rfl) ⟨by decide, by decide⟩ ⟨by decide, by decide⟩ ⟨by decide, by decide⟩ (mv_noH hno _) (fun v39 σ39 h39 => ?_)
        obtain ⟨e39, z39⟩ := h39
        have e39 := e39.symm
        subst e39
        refine mv_bipush (pc := 42) (v := 120) B d_Tokens_cutOne_42 (by decide) ?_
        refine mv_icmp_ne (pc := 44) (tgt := 51) B d_Tokens_cutOne_44 rfl (fun h44 => ?_) (fun h44 => ?_)
        · skip
          refine mv_iconst (pc := 51) (v := 0) B d_Tokens_cutOne_51 (by decide) ?_
          refine mv_istore_n (pc := 52) B d_Tokens_cutOne_52 rfl (by decide) rfl ?_
          refine mv_iload_n (pc := 53) B d_Tokens_cutOne_53 rfl 0 rfl ?_
          refine mv_if_eq (pc := 54) (tgt := 65) B d_Tokens_cutOne_54 rfl (fun h54 => ?_) (fun h54 => ?_)
          · skip
            refine mv_aload_n (pc := 65) B d_Tokens_cutOne_65 rfl 2 rfl ?_
            refine mv_iload_n (pc := 66) B d_Tokens_cutOne_66 rfl 3 rfl ?_
            refine mv_callVi (pc := 67) (n := 1) (ci := 2) (C := R_Tokens) B (mK_ok sk sv) hNs rfl rfl (c_Tokens_cutDecimal l hi _ _ t tn len ⟨hsh, ht, hts, hlen, hl1, hl2, ht2⟩ hsz (by omega) gl gd) rfl (ma_goodc kc_Tokens_cutDecimal) (B.2.2.2.1 _ k_856) (B.2.2.2.1 _ k_858) (B.2.2.2.1 _ ks_26) (B.2.2.2.1 _ k_3) ⟨by decide +kernel, by decide +kernel, by decide +kernel⟩ rfl d_Tokens_cutOne_67 rfl (Nat.le_of_ble_eq_true rfl) ⟨by decide, by decide⟩ ⟨by decide, by decide⟩ ⟨by decide, by decide⟩ (mv_noH hno _) (fun v67 σ67 h67 => ?_)
            exact mv_iret (pc := 70) B hr rfl d_Tokens_cutOne_70 (Nat.le_refl _) (Nat.le_refl _) ⟨_, rfl, by first | exact CutP.of (f := F) (gF ▸ h59) rfl hS hT hsz9 ht2 hJ | exact CutP.of (f := F) (gF ▸ h67) rfl hS hT hsz9 ht2 hJ⟩
          · skip
            refine mv_aload_n (pc := 57) B d_Tokens_cutOne_57 rfl 2 rfl ?_
            refine mv_iload_n (pc := 58) B d_Tokens_cutOne_58 rfl 3 rfl ?_
            refine mv_callVi (pc := 59) (n := 1) (ci := 2) (C := R_Tokens) B (mK_ok sk sv) hNs rfl rfl (c_Tokens_cutHex l hi _ _ t tn len ⟨hsh, ht, hts, hlen, hl1, hl2, ht2⟩ hsz (by omega) (by first | exact gx | exact absurd rfl h54)) rfl (ma_goodc kc_Tokens_cutHex) (B.2.2.2.1 _ k_838) (B.2.2.2.1 _ k_840) (B.2.2.2.1 _ ks_23) (B.2.2.2.1 _ k_3) ⟨by decide +kernel, by decide +kernel, by decide +kernel⟩ rfl d_Tokens_cutOne_59 rfl (Nat.le_of_ble_eq_true rfl) ⟨by decide, by decide⟩ ⟨by decide, by decide⟩ ⟨by decide, by decide⟩ (mv_noH hno _) (fun v59 σ59 h59 => ?_)
            refine mv_goto (pc := 62) (tgt := 70) B d_Tokens_cutOne_62 rfl ?_
            exact mv_iret (pc := 70) B hr rfl d_Tokens_cutOne_70 (Nat.le_refl _) (Nat.le_refl _) ⟨_, rfl, by first | exact CutP.of (f := F) (gF ▸ h59) rfl hS hT hsz9 ht2 hJ | exact CutP.of (f := F) (gF ▸ h67) rfl hS hT hsz9 ht2 hJ⟩
        · skip
          have gx : f.toInt + 1 < len := Decidable.byContradiction fun q => by rw [if_neg (by omega)] at z39; rw [z39] at h44; exact absurd h44 (by decide)
          refine mv_iconst (pc := 47) (v := 1) B d_Tokens_cutOne_47 (by decide) ?_
          refine mv_goto (pc := 48) (tgt := 52) B d_Tokens_cutOne_48 rfl ?_
          refine mv_istore_n (pc := 52) B d_Tokens_cutOne_52 rfl (by decide) rfl ?_
          refine mv_iload_n (pc := 53) B d_Tokens_cutOne_53 rfl 0 rfl ?_
          refine mv_if_eq (pc := 54) (tgt := 65) B d_Tokens_cutOne_54 rfl (fun h54 => ?_) (fun h54 => ?_)
          · skip
            refine mv_aload_n (pc := 65) B d_Tokens_cutOne_65 rfl 2 rfl ?_
            refine mv_iload_n (pc := 66) B d_Tokens_cutOne_66 rfl 3 rfl ?_
            refine mv_callVi (pc := 67) (n := 1) (ci := 2) (C := R_Tokens) B (mK_ok sk sv) hNs rfl rfl (c_Tokens_cutDecimal l hi _ _ t tn len ⟨hsh, ht, hts, hlen, hl1, hl2, ht2⟩ hsz (by omega) gl gd) rfl (ma_goodc kc_Tokens_cutDecimal) (B.2.2.2.1 _ k_856) (B.2.2.2.1 _ k_858) (B.2.2.2.1 _ ks_26) (B.2.2.2.1 _ k_3) ⟨by decide +kernel, by decide +kernel, by decide +kernel⟩ rfl d_Tokens_cutOne_67 rfl (Nat.le_of_ble_eq_true rfl) ⟨by decide, by decide⟩ ⟨by decide, by decide⟩ ⟨by decide, by decide⟩ (mv_noH hno _) (fun v67 σ67 h67 => ?_)
            exact mv_iret (pc := 70) B hr rfl d_Tokens_cutOne_70 (Nat.le_refl _) (Nat.le_refl _) ⟨_, rfl, by first | exact CutP.of (f := F) (gF ▸ h59) rfl hS hT hsz9 ht2 hJ | exact CutP.of (f := F) (gF ▸ h67) rfl hS hT hsz9 ht2 hJ⟩
          · skip
            refine mv_aload_n (pc := 57) B d_Tokens_cutOne_57 rfl 2 rfl ?_
            refine mv_iload_n (pc := 58) B d_Tokens_cutOne_58 rfl 3 rfl ?_
            refine mv_callVi (pc := 59) (n := 1) (ci := 2) (C := R_Tokens) B (mK_ok sk sv) hNs rfl rfl (c_Tokens_cutHex l hi _ _ t tn len ⟨hsh, ht, hts, hlen, hl1, hl2, ht2⟩ hsz (by omega) (by first | exact gx | exact absurd rfl h54)) rfl (ma_goodc kc_Tokens_cutHex) (B.2.2.2.1 _ k_838) (B.2.2.2.1 _ k_840) (B.2.2.2.1 _ ks_23) (B.2.2.2.1 _ k_3) ⟨by decide +kernel, by decide +kernel, by decide +kernel⟩ rfl d_Tokens_cutOne_59 rfl (Nat.le_of_ble_eq_true rfl) ⟨by decide, by decide⟩ ⟨by decide, by decide⟩ ⟨by decide, by decide⟩ (mv_noH hno _) (fun v59 σ59 h59 => ?_)
            refine mv_goto (pc := 62) (tgt := 70) B d_Tokens_cutOne_62 rfl ?_
            exact mv_iret (pc := 70) B hr rfl d_Tokens_cutOne_70 (Nat.le_refl _) (Nat.le_refl _) ⟨_, rfl, by first | exact CutP.of (f := F) (gF ▸ h59) rfl hS hT hsz9 ht2 hJ | exact CutP.of (f := F) (gF ▸ h67) rfl hS hT hsz9 ht2 hJ⟩
  · skip
    refine mv_aload_n (pc := 10) B d_Tokens_cutOne_10 rfl 1 rfl ?_
    refine mv_iconst (pc := 11) (v := 1) B d_Tokens_cutOne_11 (by decide) ?_
    refine mv_aload_n (pc := 12) B d_Tokens_cutOne_12 rfl 1 rfl ?_
    refine mv_getI (pc := 13) (ci := 2) (C := R_Tokens) (T := F_Tokens) (N := 10) B 5 rfl rfl (by decide) i_Tokens (B.2.2.2.1 _ k_100) rfl d_Tokens_cutOne_13 ?_
    refine mv_lconst (pc := 16) (v := 0) B d_Tokens_cutOne_16 (by decide) ?_
    refine mv_iconst (pc := 17) (v := -1) B d_Tokens_cutOne_17 (by decide) ?_
    refine mv_callVi (pc := 18) (n := 4) (ci := 2) (C := R_Tokens) B (mK_ok sk sv) hNs rfl rfl (c_Tokens_add l hi _ _ _ _ _ hsh hsz) rfl (ma_goodc kc_Tokens_add) (B.2.2.2.1 _ k_831) (B.2.2.2.1 _ k_833) (B.2.2.2.1 _ ks_22) (B.2.2.2.1 _ k_3) ⟨by decide +kernel, by decide +kernel, by decide +kernel⟩ rfl d_Tokens_cutOne_18 rfl (Nat.le_of_ble_eq_true rfl) ⟨by decide, by decide⟩ ⟨by decide, by decide⟩ ⟨by decide, by decide⟩ (mv_noH hno _) (fun v18 σ18 h18 => ?_)
    obtain ⟨rfl, rfl⟩ := h18
    exact mv_iret (pc := 21) B hr rfl d_Tokens_cutOne_21 (Nat.le_refl _) (Nat.le_refl _) ⟨_, rfl, CutP.of (f := F) ⟨1, _, 0, rfl, (by show 0 ≤ (mv_i σ 3 5).toInt; omega), Or.inl ⟨rfl, Or.inl rfl⟩⟩ rfl hS hT hsz9 ht2 hJ⟩
def ws_n (i : Nat) : Nat := (((st_g 132).2.2.2.take i).filter (fun b => b == 32)).length
theorem ws_len : (st_g 132).2.2.2.length = 74 := by decide +kernel
theorem ws_s : ∀ i, i < 74 → ws_n (i + 1) = ws_n i + (if (st_g 132).2.2.2.getD i 0 = 32 then 1 else 0) := by decide +kernel
theorem ws_m : ∀ i, i ≤ 74 → ws_n i ≤ 17 := by decide +kernel
theorem ws_b : ∀ i, i < 74 → vp_nar .byte ((((st_g 132).2.2.2.getD i 0) &&& 255).toInt8.toInt32) = (st_g 132).2.2.2.getD i 0 := by decide +kernel
theorem ws_c : ∀ i, i < 74 → (st_g 132).2.2.2.getD i 0 = 32 ∨ (48 ≤ ((st_g 132).2.2.2.getD i 0).toInt ∧ ((st_g 132).2.2.2.getD i 0).toInt ≤ 122) := by decide +kernel
abbrev SyG : mv_H → mv_H → Prop := Fr (fun o k => o = 7 ∧ k = 5) (fun o => 8 ≤ o ∧ o ≤ 12) (fun _ => False)
theorem SyF.G {σ τ : mv_H} (h : SyF σ τ) : SyG σ τ := h.up (fun _ _ q => q) (fun _ q => ⟨q.1, by omega⟩) (fun _ q => q)
theorem Sy.zero (σ : mv_H) : Sy (mv_sa (mv_si (mv_fi σ 10 0 1024 (-1)) 7 5 0) 9 0 0) 0 0 := by
  have e9 : ∀ j, mv_a (mv_sa (mv_si (mv_fi σ 10 0 1024 (-1)) 7 5 0) 9 0 0) 9 j = if j = 0 then 0 else mv_a σ 9 j := fun j => by
    show (if 9 = 9 ∧ j = 0 then (0 : Int32) else mv_a σ 9 j) = _
    simp only [true_and]
  have e10 : ∀ j, mv_a (mv_sa (mv_si (mv_fi σ 10 0 1024 (-1)) 7 5 0) 9 0 0) 10 j = if 0 ≤ j ∧ j < 1024 then -1 else mv_a σ 10 j := fun j => rfl
  refine ⟨rfl, by decide, by decide, ?_, ?_, ?_, ?_, ?_, ?_⟩
  · rw [e9, if_pos rfl]; rfl
  · intro j hj
    have : j = 0 := by omega
    subst this
    rw [e9, if_pos rfl]; decide
  · intro j hj; omega
  · intro j hj
    rw [e10, if_pos ⟨Nat.zero_le _, hj⟩]; decide
  · intro j hj; omega
  · intro j hj; omega
theorem Sy.wd {σ : mv_H} {n z : Nat} (h : Sy σ n z) (k : Nat) (v : Int32) : Sy (mv_sa σ 12 k v) n z := h
def y_Symbols_clear : MethodName := ⟨"MachineLoom$Symbols", "clear", "()V"⟩
abbrev b_Symbols_clear : ByteArray := prog_9_method_2_code
theorem kc_Symbols_clear : Cond.code y_Symbols_clear b_Symbols_clear 3 (Option.none : Option Jvm.ClassFile.FieldType) ∈ ma := ma_of (tb_4 _ (List.mem_of_getElem? (i := 76) rfl)) rfl
theorem k_801 : (Jvm.Cond.methodLink "MachineLoom$Symbols" (41 : Nat) ({ cls := "java/lang/String", name := "length", desc := "()I" } : Jvm.MethodName)) ∈ ma := ma_of (tb_4 _ (List.mem_of_getElem? (i := 81) rfl)) rfl
theorem k_70 : (Jvm.Cond.fieldLink "MachineLoom$Symbols" (26 : Nat) "MachineLoom$Symbols" "words" "[B") ∈ ma := ma_of (tb_1 _ (List.mem_of_getElem? (i := 70) rfl)) rfl
theorem k_802 : (Jvm.Cond.methodLink "MachineLoom$Symbols" (47 : Nat) ({ cls := "java/lang/String", name := "charAt", desc := "(I)C" } : Jvm.MethodName)) ∈ ma := ma_of (tb_4 _ (List.mem_of_getElem? (i := 82) rfl)) rfl
theorem k_556 : (Jvm.Cond.instanceMethod ({ cls := "java/lang/String", name := "charAt", desc := "(I)C" } : Jvm.MethodName)) ∈ ma := ma_of (tb_3 _ (List.mem_of_getElem? (i := 76) rfl)) rfl
theorem k_557 : (Jvm.Cond.selects "java/lang/String" ({ cls := "java/lang/String", name := "charAt", desc := "(I)C" } : Jvm.MethodName) ({ cls := "java/lang/String", name := "charAt", desc := "(I)C" } : Jvm.MethodName)) ∈ ma := ma_of (tb_3 _ (List.mem_of_getElem? (i := 77) rfl)) rfl
theorem k_803 : (Jvm.Cond.methodLink "MachineLoom$Symbols" (51 : Nat) ({ cls := "MachineLoom$Symbols", name := "find", desc := "([BII)I" } : Jvm.MethodName)) ∈ ma := ma_of (tb_4 _ (List.mem_of_getElem? (i := 83) rfl)) rfl
theorem k_797 : (Jvm.Cond.methodLink "MachineLoom$Symbols" (29 : Nat) ({ cls := "java/util/Arrays", name := "fill", desc := "([II)V" } : Jvm.MethodName)) ∈ ma := ma_of (tb_4 _ (List.mem_of_getElem? (i := 77) rfl)) rfl
theorem k_798 : (Jvm.Cond.static ({ cls := "java/util/Arrays", name := "fill", desc := "([II)V" } : Jvm.MethodName)) ∈ ma := ma_of (tb_4 _ (List.mem_of_getElem? (i := 78) rfl)) rfl
theorem d_Symbols_clear_0 : decode b_Symbols_clear 0 = .ok (.aload_n 0, 1) := by decide +kernel
theorem d_Symbols_clear_1 : decode b_Symbols_clear 1 = .ok (.getfield 20, 3) := by decide +kernel
theorem d_Symbols_clear_4 : decode b_Symbols_clear 4 = .ok (.iconst (-1), 1) := by decide +kernel
theorem d_Symbols_clear_5 : decode b_Symbols_clear 5 = .ok (.invokestatic 29, 3) := by decide +kernel
theorem d_Symbols_clear_8 : decode b_Symbols_clear 8 = .ok (.aload_n 0, 1) := by decide +kernel
theorem d_Symbols_clear_9 : decode b_Symbols_clear 9 = .ok (.iconst 0, 1) := by decide +kernel
theorem d_Symbols_clear_10 : decode b_Symbols_clear 10 = .ok (.putfield 35, 3) := by decide +kernel
theorem d_Symbols_clear_13 : decode b_Symbols_clear 13 = .ok (.aload_n 0, 1) := by decide +kernel
theorem d_Symbols_clear_14 : decode b_Symbols_clear 14 = .ok (.getfield 16, 3) := by decide +kernel
theorem d_Symbols_clear_17 : decode b_Symbols_clear 17 = .ok (.iconst 0, 1) := by decide +kernel
theorem d_Symbols_clear_18 : decode b_Symbols_clear 18 = .ok (.iconst 0, 1) := by decide +kernel
theorem d_Symbols_clear_19 : decode b_Symbols_clear 19 = .ok (.iastore, 1) := by decide +kernel
theorem d_Symbols_clear_20 : decode b_Symbols_clear 20 = .ok (.iconst 0, 1) := by decide +kernel
theorem d_Symbols_clear_21 : decode b_Symbols_clear 21 = .ok (.istore_n 1, 1) := by decide +kernel
theorem d_Symbols_clear_22 : decode b_Symbols_clear 22 = .ok (.iconst 0, 1) := by decide +kernel
theorem d_Symbols_clear_23 : decode b_Symbols_clear 23 = .ok (.istore_n 2, 1) := by decide +kernel
theorem d_Symbols_clear_24 : decode b_Symbols_clear 24 = .ok (.iload_n 2, 1) := by decide +kernel
theorem d_Symbols_clear_25 : decode b_Symbols_clear 25 = .ok (.ldc 39, 2) := by decide +kernel
theorem d_Symbols_clear_27 : decode b_Symbols_clear 27 = .ok (.invokevirtual 41, 3) := by decide +kernel
theorem d_Symbols_clear_30 : decode b_Symbols_clear 30 = .ok (.if_icmp .ge (50), 3) := by decide +kernel
theorem d_Symbols_clear_33 : decode b_Symbols_clear 33 = .ok (.aload_n 0, 1) := by decide +kernel
theorem d_Symbols_clear_34 : decode b_Symbols_clear 34 = .ok (.getfield 26, 3) := by decide +kernel
theorem d_Symbols_clear_37 : decode b_Symbols_clear 37 = .ok (.iload_n 2, 1) := by decide +kernel
theorem d_Symbols_clear_38 : decode b_Symbols_clear 38 = .ok (.ldc 39, 2) := by decide +kernel
theorem d_Symbols_clear_40 : decode b_Symbols_clear 40 = .ok (.iload_n 2, 1) := by decide +kernel
theorem d_Symbols_clear_41 : decode b_Symbols_clear 41 = .ok (.invokevirtual 47, 3) := by decide +kernel
theorem d_Symbols_clear_44 : decode b_Symbols_clear 44 = .ok (.i2b, 1) := by decide +kernel
theorem d_Symbols_clear_45 : decode b_Symbols_clear 45 = .ok (.bastore, 1) := by decide +kernel
theorem d_Symbols_clear_46 : decode b_Symbols_clear 46 = .ok (.aload_n 0, 1) := by decide +kernel
theorem d_Symbols_clear_47 : decode b_Symbols_clear 47 = .ok (.getfield 26, 3) := by decide +kernel
theorem d_Symbols_clear_50 : decode b_Symbols_clear 50 = .ok (.iload_n 2, 1) := by decide +kernel
theorem d_Symbols_clear_51 : decode b_Symbols_clear 51 = .ok (.baload, 1) := by decide +kernel
theorem d_Symbols_clear_52 : decode b_Symbols_clear 52 = .ok (.bipush 32, 2) := by decide +kernel
theorem d_Symbols_clear_54 : decode b_Symbols_clear 54 = .ok (.if_icmp .ne (20), 3) := by decide +kernel
theorem d_Symbols_clear_57 : decode b_Symbols_clear 57 = .ok (.aload_n 0, 1) := by decide +kernel
theorem d_Symbols_clear_58 : decode b_Symbols_clear 58 = .ok (.aload_n 0, 1) := by decide +kernel
theorem d_Symbols_clear_59 : decode b_Symbols_clear 59 = .ok (.getfield 26, 3) := by decide +kernel
theorem d_Symbols_clear_62 : decode b_Symbols_clear 62 = .ok (.iload_n 1, 1) := by decide +kernel
theorem d_Symbols_clear_63 : decode b_Symbols_clear 63 = .ok (.iload_n 2, 1) := by decide +kernel
theorem d_Symbols_clear_64 : decode b_Symbols_clear 64 = .ok (.iload_n 1, 1) := by decide +kernel
theorem d_Symbols_clear_65 : decode b_Symbols_clear 65 = .ok (.isub, 1) := by decide +kernel
theorem d_Symbols_clear_66 : decode b_Symbols_clear 66 = .ok (.invokevirtual 51, 3) := by decide +kernel
theorem d_Symbols_clear_69 : decode b_Symbols_clear 69 = .ok (.pop, 1) := by decide +kernel
theorem d_Symbols_clear_70 : decode b_Symbols_clear 70 = .ok (.iload_n 2, 1) := by decide +kernel
theorem d_Symbols_clear_71 : decode b_Symbols_clear 71 = .ok (.iconst 1, 1) := by decide +kernel
theorem d_Symbols_clear_72 : decode b_Symbols_clear 72 = .ok (.iadd, 1) := by decide +kernel
theorem d_Symbols_clear_73 : decode b_Symbols_clear 73 = .ok (.istore_n 1, 1) := by decide +kernel
theorem d_Symbols_clear_74 : decode b_Symbols_clear 74 = .ok (.iinc 2 (1), 3) := by decide +kernel
theorem d_Symbols_clear_77 : decode b_Symbols_clear 77 = .ok (.goto (-53), 3) := by decide +kernel
theorem d_Symbols_clear_80 : decode b_Symbols_clear 80 = .ok (.return_, 1) := by decide +kernel
set_option maxHeartbeats 4000000 in
set_option maxRecDepth 100000 in
theorem c_Symbols_clear (l : Launch) {dA : FieldType → ClassId} {D : va_G} {al : Nat → Nat} {ext : mv_Sh} {sk sv : Nat → Nat} (hi : mv_inj (mg dA D al ext)) (σ : mv_H) (hsh : mh (mv_r σ)) : mv_C l y_Symbols_clear (Cond.code y_Symbols_clear b_Symbols_clear 3 (Option.none : Option Jvm.ClassFile.FieldType) :: ma) ({ frames := 4, cells := 0, slots := 0, locals := 91 }) (mg dA D al ext) (mK sk sv) [.ref (al 7)] σ (mv_Rv (fun σ1 => SyG σ σ1 ∧ ∃ n z : Nat, Sy σ1 n z ∧ n ≤ 17 ∧ z ≤ 74 ∧ 1 ≤ n)) := by
  refine mv_C.ofV (cc := b_Symbols_clear) (nL := 3) (ret := (Option.none : Option Jvm.ClassFile.FieldType)) (by decide +kernel) rfl hi (Nat.le_of_ble_eq_true rfl) ?_
  intro p e s m below meth c B hNs hr hnm hno
  have lp : ∀ (nn : Nat) (τ : mv_H) (i : Int32) (a : Int32) (n : Nat) (z : Nat) (q0 : 0 ≤ i.toInt) (qi : i.toInt ≤ 74) (qa : 0 ≤ a.toInt) (qb : a.toInt ≤ i.toInt) (hSy : Sy τ n z) (qn : n ≤ ws_n i.toNatClampNeg) (qz : z ≤ a.toInt) (qh : mh (mv_r τ)) (qf : SyG σ τ) (qw : ∀ j : Nat, a.toInt ≤ j → j < i.toInt → 48 ≤ (mv_a τ 12 j).toInt ∧ (mv_a τ 12 j).toInt ≤ 122) (qm : 1 ≤ ws_n i.toNatClampNeg → 1 ≤ n), (74 - i.toInt).toNat < nn → mv_V p l e ({ frames := 4, cells := 0, slots := 0, locals := 91 }) s m ([.ref (al 7)] : List Value).toArray below meth c (mg dA D al ext) 3 0 0 (mv_Q (mg dA D al ext) below s 0 0 (mv_Rv (fun σ1 => SyG σ σ1 ∧ ∃ n z : Nat, Sy σ1 n z ∧ n ≤ 17 ∧ z ≤ 74 ∧ 1 ≤ n))) τ 24 [(2, .int i), (1, .int a), (0, .ref (al 7))] [] := by
    intro nn
    induction nn with
    | zero => intro τ i a n z q0 qi qa qb hSy qn qz qh qf qw qm hm; exact absurd hm (Nat.not_lt_zero _)
    | succ nn ih =>
      intro τ i a n z q0 qi qa qb hSy qn qz qh qf qw qm hm
      refine mv_iload_n (pc := 24) B d_Symbols_clear_24 rfl 0 rfl ?_
      refine mv_ldcS (pc := 25) B (hNs.2.1 132 (by decide)).1 d_Symbols_clear_25 ?_
      refine mv_callVOi (pc := 27) (n := 0) B (mK_ok sk sv) hNs (hNs.2.1 132 (by decide)).2.1 (c_String_length l hi _ 132 (by decide)) rfl (ma_goodc kc_String_length) (B.2.2.2.1 _ k_801) (B.2.2.2.1 _ k_546) (B.2.2.2.1 _ k_547) (B.2.2.2.1 _ k_21) ⟨by decide +kernel, by decide +kernel, by decide +kernel⟩ rfl d_Symbols_clear_27 rfl (Nat.le_of_ble_eq_true rfl) ⟨by decide, by decide⟩ ⟨by decide, by decide⟩ ⟨by decide, by decide⟩ (mv_noH hno _) (fun v27 σ27 h27 => ?_)
      obtain ⟨e27, z27⟩ := h27
      have e27 := e27.symm
      subst e27
      rw [ws_len] at z27
      refine mv_icmp_ge (pc := 30) (tgt := 80) B d_Symbols_clear_30 rfl (fun h30 => ?_) (fun h30 => ?_)
      · skip
        rw [Int32.le_iff_toInt_le] at h30
        have hi74 : i.toNatClampNeg = 74 := by have := i32_cl q0; omega
        exact mv_vret (pc := 80) B hr d_Symbols_clear_80 (Nat.le_refl _) (Nat.le_refl _) ⟨rfl, qf, n, z, hSy, by have := ws_m 74 (by decide); rw [hi74] at qn; omega, by omega, qm (by rw [hi74]; decide +kernel)⟩
      · skip
        rw [Int32.le_iff_toInt_le] at h30
        have hi74 : i.toNatClampNeg < 74 := by have := i32_cl q0; omega
        have ei := i32_cl q0
        refine mv_aload_n (pc := 33) B d_Symbols_clear_33 rfl 2 rfl ?_
        refine mv_getR (pc := 34) (ci := 3) (C := R_Symbols) (T := F_Symbols) (N := 6) B 4 rfl rfl (by decide) i_Symbols (B.2.2.2.1 _ k_70) rfl (qh _ 4 _ rfl) d_Symbols_clear_34 ?_
        refine mv_iload_n (pc := 37) B d_Symbols_clear_37 rfl 0 rfl ?_
        refine mv_ldcS (pc := 38) B (hNs.2.1 132 (by decide)).1 d_Symbols_clear_38 ?_
        refine mv_iload_n (pc := 40) B d_Symbols_clear_40 rfl 0 rfl ?_
        refine mv_callVOi (pc := 41) (n := 1) B (mK_ok sk sv) hNs (hNs.2.1 132 (by decide)).2.1 (c_String_charAt l hi _ 132 (by decide) _ q0 (by rw [ws_len]; omega)) rfl (ma_goodc kc_String_charAt) (B.2.2.2.1 _ k_802) (B.2.2.2.1 _ k_556) (B.2.2.2.1 _ k_557) (B.2.2.2.1 _ k_21) ⟨by decide +kernel, by decide +kernel, by decide +kernel⟩ rfl d_Symbols_clear_41 rfl (Nat.le_of_ble_eq_true rfl) ⟨by decide, by decide⟩ ⟨by decide, by decide⟩ ⟨by decide, by decide⟩ (mv_noH hno _) (fun v41 σ41 h41 => ?_)
        obtain ⟨e41, z41⟩ := h41
        have e41 := e41.symm
        subst e41
        subst z41
        refine mv_i2b (pc := 44) B d_Symbols_clear_44 ?_
        refine mv_bast (pc := 45) B rfl (i32_in (by omega) (by omega)) d_Symbols_clear_45 ?_
        refine mv_aload_n (pc := 46) B d_Symbols_clear_46 rfl 2 rfl ?_
        refine mv_getR (pc := 47) (ci := 3) (C := R_Symbols) (T := F_Symbols) (N := 6) B 4 rfl rfl (by decide) i_Symbols (B.2.2.2.1 _ k_70) rfl (qh _ 4 _ rfl) d_Symbols_clear_47 ?_
        refine mv_iload_n (pc := 50) B d_Symbols_clear_50 rfl 0 rfl ?_
        refine mv_bald (pc := 51) B rfl (i32_in (by omega) (by omega)) d_Symbols_clear_51 ?_
        refine mv_bipush (pc := 52) (v := 32) B d_Symbols_clear_52 (by decide) ?_
        refine mv_icmp_ne (pc := 54) (tgt := 74) B d_Symbols_clear_54 rfl (fun h54 => ?_) (fun h54 => ?_)
        · skip
          have ew : mv_a (mv_sa τ 12 i.toNatClampNeg (vp_nar .byte ((((st_g 132).2.2.2.getD i.toNatClampNeg 0) &&& 255).toInt8.toInt32))) 12 i.toNatClampNeg = (st_g 132).2.2.2.getD i.toNatClampNeg 0 := (if_pos ⟨rfl, rfl⟩).trans (ws_b _ hi74)
          have n54 : ¬ (st_g 132).2.2.2.getD i.toNatClampNeg 0 = 32 := fun q => h54 (ew.trans q)
          have c54 := (ws_c _ hi74).resolve_left n54
          skip
          have s54 := ws_s _ hi74
          rw [if_neg n54] at s54
          have qw2 : ∀ j : Nat, a.toInt ≤ j → j < (i + 1).toInt → 48 ≤ (mv_a (mv_sa τ 12 i.toNatClampNeg (vp_nar .byte ((((st_g 132).2.2.2.getD i.toNatClampNeg 0) &&& 255).toInt8.toInt32))) 12 j).toInt ∧ (mv_a (mv_sa τ 12 i.toNatClampNeg (vp_nar .byte ((((st_g 132).2.2.2.getD i.toNatClampNeg 0) &&& 255).toInt8.toInt32))) 12 j).toInt ≤ 122 := rg_ext2 (fun j a1 a2 => by have := qw j a1 a2; rw [rd_a, if_neg (by omega)]; exact this) q0 (by omega) (by rw [ew]; exact c54)
          have j74 : n ≤ ws_n (i + 1).toNatClampNeg := by have e2 : (i + 1).toNatClampNeg = i.toNatClampNeg + 1 := (by have := i32_cl (x := i + 1) (by rw [i32_inc (by omega)]; omega); rw [i32_inc (by omega)] at this; omega); rw [e2]; omega
          have qm2 : 1 ≤ ws_n (i + 1).toNatClampNeg → 1 ≤ n := fun q => qm (by have e2 : (i + 1).toNatClampNeg = i.toNatClampNeg + 1 := (by have := i32_cl (x := i + 1) (by rw [i32_inc (by omega)]; omega); rw [i32_inc (by omega)] at this; omega); rw [e2] at q; omega)
          refine mv_iinc (pc := 74) (j := 0) (v := 1) B d_Symbols_clear_74 rfl (by decide) (by decide) rfl ?_
          refine mv_goto (pc := 77) (tgt := 24) B d_Symbols_clear_77 rfl ?_
          refine mv_lpick [0, 1, 2] rfl ?_
          first | exact ih _ _ _ n z (by rw [i32_inc (by omega)]; omega) (by rw [i32_inc (by omega)]; omega) qa (by rw [i32_inc (by omega)]; omega) (hSy.wd _ _) j74 qz qh (qf.sa (by decide)) qw2 qm2 (by rw [i32_inc (by omega)]; omega) | (rcases c66 with ⟨c0, c1, c2⟩ | ⟨c1, c2⟩; exact ih _ _ _ n z (by rw [i32_inc (by omega)]; omega) (by rw [i32_inc (by omega)]; omega) (by omega) (by rw [i32_inc (by omega)]; omega) c1 (by rw [e2]; omega) (by omega) (by rw [c2.2.2.2.2]; exact qh) ((qf.sa (by decide)).tr c2.G) (fun j a1 a2 => by rw [i32_inc (by omega)] at a2; omega) (fun _ => by omega) (by rw [i32_inc (by omega)]; omega); exact ih _ _ _ (n + 1) (z + y65.toNatClampNeg) (by rw [i32_inc (by omega)]; omega) (by rw [i32_inc (by omega)]; omega) (by omega) (by rw [i32_inc (by omega)]; omega) c1 (by rw [e2]; omega) (by omega) (by rw [c2.2.2.2.2]; exact qh) ((qf.sa (by decide)).tr c2.G) (fun j a1 a2 => by rw [i32_inc (by omega)] at a2; omega) (fun _ => by omega) (by rw [i32_inc (by omega)]; omega))
        · skip
          have ew : mv_a (mv_sa τ 12 i.toNatClampNeg (vp_nar .byte ((((st_g 132).2.2.2.getD i.toNatClampNeg 0) &&& 255).toInt8.toInt32))) 12 i.toNatClampNeg = (st_g 132).2.2.2.getD i.toNatClampNeg 0 := (if_pos ⟨rfl, rfl⟩).trans (ws_b _ hi74)
          have n54 : (st_g 132).2.2.2.getD i.toNatClampNeg 0 = 32 := ew.symm.trans h54
          have s54 := ws_s _ hi74
          rw [if_pos n54] at s54
          have w54 := ws_m (i.toNatClampNeg + 1) (by omega)
          have e2 : (i + 1).toNatClampNeg = i.toNatClampNeg + 1 := (by have := i32_cl (x := i + 1) (by rw [i32_inc (by omega)]; omega); rw [i32_inc (by omega)] at this; omega)
          refine mv_aload_n (pc := 57) B d_Symbols_clear_57 rfl 2 rfl ?_
          refine mv_aload_n (pc := 58) B d_Symbols_clear_58 rfl 2 rfl ?_
          refine mv_getR (pc := 59) (ci := 3) (C := R_Symbols) (T := F_Symbols) (N := 6) B 4 rfl rfl (by decide) i_Symbols (B.2.2.2.1 _ k_70) rfl (qh _ 4 _ rfl) d_Symbols_clear_59 ?_
          refine mv_iload_n (pc := 62) B d_Symbols_clear_62 rfl 1 rfl ?_
          refine mv_iload_n (pc := 63) B d_Symbols_clear_63 rfl 0 rfl ?_
          refine mv_iload_n (pc := 64) B d_Symbols_clear_64 rfl 1 rfl ?_
          refine mv_isub (pc := 65) B d_Symbols_clear_65 ?_
          refine mv_topi (fun y65 ey65 => ?_)
          have fy65 := i32_subE ey65 (by (try simp only [Int32.reduceToInt]); omega) (by (try simp only [Int32.reduceToInt]); omega)
          try simp only [Int32.reduceToInt] at fy65
          have ea := i32_cl qa
          have ed := i32_cl (x := y65) (by omega)
          have hb66 : ∀ j, j < y65.toNatClampNeg → 48 ≤ (mv_a (mv_sa τ 12 i.toNatClampNeg (vp_nar .byte ((((st_g 132).2.2.2.getD i.toNatClampNeg 0) &&& 255).toInt8.toInt32))) 12 (a.toNatClampNeg + j)).toInt ∧ (mv_a (mv_sa τ 12 i.toNatClampNeg (vp_nar .byte ((((st_g 132).2.2.2.getD i.toNatClampNeg 0) &&& 255).toInt8.toInt32))) 12 (a.toNatClampNeg + j)).toInt ≤ 122 := fun j hj => by have := qw (a.toNatClampNeg + j) (by omega) (by omega); rw [rd_a, if_neg (by omega)]; exact this
          refine mv_callVi (pc := 66) (n := 3) (ci := 3) (C := R_Symbols) B (mK_ok sk sv) hNs rfl rfl (c_Symbols_find l hi (mv_sa τ 12 i.toNatClampNeg (vp_nar .byte ((((st_g 132).2.2.2.getD i.toNatClampNeg 0) &&& 255).toInt8.toInt32))) a y65 n z qh (hSy.wd _ _) 12 128 rfl qa (by omega) (by omega) (by decide) (by omega) (by omega) hb66) rfl (ma_goodc kc_Symbols_find) (B.2.2.2.1 _ k_803) (B.2.2.2.1 _ k_804) (B.2.2.2.1 _ k_805) (B.2.2.2.1 _ k_4) ⟨by decide +kernel, by decide +kernel, by decide +kernel⟩ rfl d_Symbols_clear_66 rfl (Nat.le_of_ble_eq_true rfl) ⟨by decide, by decide⟩ ⟨by decide, by decide⟩ ⟨by decide, by decide⟩ (mv_noH hno _) (fun v66 σ66 h66 => ?_)
          obtain ⟨a66, b66, c66⟩ := h66
          refine mv_pop (pc := 69) B d_Symbols_clear_69 rfl ?_
          refine mv_iload_n (pc := 70) B d_Symbols_clear_70 rfl 0 rfl ?_
          refine mv_iconst (pc := 71) (v := 1) B d_Symbols_clear_71 (by decide) ?_
          refine mv_iadd (pc := 72) B d_Symbols_clear_72 ?_
          refine mv_topi (fun y72 ey72 => ?_)
          have fy72 := i32_addE ey72 (by (try simp only [Int32.reduceToInt]); omega) (by (try simp only [Int32.reduceToInt]); omega)
          try simp only [Int32.reduceToInt] at fy72
          refine mv_istore_n (pc := 73) B d_Symbols_clear_73 rfl (by decide) rfl ?_
          refine mv_iinc (pc := 74) (j := 1) (v := 1) B d_Symbols_clear_74 rfl (by decide) (by decide) rfl ?_
          refine mv_goto (pc := 77) (tgt := 24) B d_Symbols_clear_77 rfl ?_
          refine mv_lpick [0, 1, 2] rfl ?_
          first | exact ih _ _ _ n z (by rw [i32_inc (by omega)]; omega) (by rw [i32_inc (by omega)]; omega) qa (by rw [i32_inc (by omega)]; omega) (hSy.wd _ _) j74 qz qh (qf.sa (by decide)) qw2 qm2 (by rw [i32_inc (by omega)]; omega) | (rcases c66 with ⟨c0, c1, c2⟩ | ⟨c1, c2⟩; exact ih _ _ _ n z (by rw [i32_inc (by omega)]; omega) (by rw [i32_inc (by omega)]; omega) (by omega) (by rw [i32_inc (by omega)]; omega) c1 (by rw [e2]; omega) (by omega) (by rw [c2.2.2.2.2]; exact qh) ((qf.sa (by decide)).tr c2.G) (fun j a1 a2 => by rw [i32_inc (by omega)] at a2; omega) (fun _ => by omega) (by rw [i32_inc (by omega)]; omega); exact ih _ _ _ (n + 1) (z + y65.toNatClampNeg) (by rw [i32_inc (by omega)]; omega) (by rw [i32_inc (by omega)]; omega) (by omega) (by rw [i32_inc (by omega)]; omega) c1 (by rw [e2]; omega) (by omega) (by rw [c2.2.2.2.2]; exact qh) ((qf.sa (by decide)).tr c2.G) (fun j a1 a2 => by rw [i32_inc (by omega)] at a2; omega) (fun _ => by omega) (by rw [i32_inc (by omega)]; omega))
  refine mv_aload_n (pc := 0) B d_Symbols_clear_0 rfl 0 rfl ?_
  refine mv_getR (pc := 1) (ci := 3) (C := R_Symbols) (T := F_Symbols) (N := 6) B 2 rfl rfl (by decide) i_Symbols (B.2.2.2.1 _ k_68) rfl (hsh _ 2 _ rfl) d_Symbols_clear_1 ?_
  refine mv_iconst (pc := 4) (v := -1) B d_Symbols_clear_4 (by decide) ?_
  refine mv_callSv (pc := 5) (n := 2) B (mK_ok sk sv) hNs (c_Arrays_fill_0 l hi _ 10 1024 rfl (by decide) _) rfl (ma_goodc kc_Arrays_fill_0) (B.2.2.2.1 _ k_797) (B.2.2.2.1 _ k_798) (B.2.2.2.1 _ k_20) ⟨by decide +kernel, by decide +kernel, by decide +kernel⟩ rfl d_Symbols_clear_5 rfl (Nat.le_of_ble_eq_true rfl) ⟨by decide, by decide⟩ ⟨by decide, by decide⟩ ⟨by decide, by decide⟩ (mv_noH hno _) (fun σ5 h5 => ?_)
  subst h5
  refine mv_aload_n (pc := 8) B d_Symbols_clear_8 rfl 0 rfl ?_
  refine mv_iconst (pc := 9) (v := 0) B d_Symbols_clear_9 (by decide) ?_
  refine mv_putI (pc := 10) (ci := 3) (C := R_Symbols) (T := F_Symbols) (N := 6) B 5 rfl rfl (by decide) i_Symbols t_Symbols_ok n_Symbols (B.2.2.2.1 _ k_72) rfl rfl rfl rfl d_Symbols_clear_10 ?_
  refine mv_aload_n (pc := 13) B d_Symbols_clear_13 rfl 0 rfl ?_
  refine mv_getR (pc := 14) (ci := 3) (C := R_Symbols) (T := F_Symbols) (N := 6) B 1 rfl rfl (by decide) i_Symbols (B.2.2.2.1 _ k_67) rfl (hsh _ 1 _ rfl) d_Symbols_clear_14 ?_
  refine mv_iconst (pc := 17) (v := 0) B d_Symbols_clear_17 (by decide) ?_
  refine mv_iconst (pc := 18) (v := 0) B d_Symbols_clear_18 (by decide) ?_
  refine mv_iast (pc := 19) B rfl (i32_in (by decide) (by decide)) d_Symbols_clear_19 ?_
  refine mv_iconst (pc := 20) (v := 0) B d_Symbols_clear_20 (by decide) ?_
  refine mv_istore_n (pc := 21) B d_Symbols_clear_21 rfl (by decide) rfl ?_
  refine mv_iconst (pc := 22) (v := 0) B d_Symbols_clear_22 (by decide) ?_
  refine mv_istore_n (pc := 23) B d_Symbols_clear_23 rfl (by decide) rfl ?_
  refine mv_lpick [0, 1, 2] rfl ?_
  exact lp _ _ _ _ 0 0 (by decide) (by decide) (by decide) (by decide) (Sy.zero σ) (Nat.zero_le _) (by decide) hsh (((Fr.rf.ca (by decide)).si (by decide)).sa (by decide)) (fun j a1 a2 => absurd a2 (by have : (0 : Int32).toInt = 0 := rfl; omega)) (fun q => absurd q (by decide)) (Nat.lt_succ_self _)
