/-! Tokens: names, and one TOKEN -/
theorem and255 (b : Int32) : (b &&& 255).toInt = b.toInt % 256 := by
  have e := pk_and b (m := 255) 8 (by decide)
  rw [e, nI_toInt (by have := Nat.mod_lt b.toBitVec.toNat (show 0 < 2 ^ 8 by decide); omega)]
  have h1 : b.toInt = b.toBitVec.toInt := rfl
  rw [h1, BitVec.toInt_eq_toNat_cond]
  have h2 := b.toBitVec.isLt
  split <;> omega
theorem CutP.name {σ τ : mv_H} {t len sz n z F d : Nat} {k f j : Int32} {x : Int64} (hF : SyF σ τ) (hr : (Sy τ n z ∧ x.toInt < n) ∨ (Sy τ (n + 1) (z + d) ∧ x.toInt < n + 1)) (hx0 : 0 ≤ x.toInt) (hf0 : 0 ≤ f.toInt) (hk : k = 3 ∨ 200 ≤ k.toInt) (hT : Tk σ t len sz n) (hs : sz < 32770) (ht : t = 1 ∨ t = 144)
    (hJ : 2 * n ≤ F + 74) (hz : z ≤ F + 74) (hj0 : F < j.toInt) (hj1 : j.toInt ≤ len) (hd : (d : Int) ≤ j.toInt - F) (hend : j.toInt < len → ¬ ch_name (mv_a σ t j.toNatClampNeg).toInt) : CutP σ t len sz F j (tk_add τ k f x) := by
  have e := i32_cl (x := j) (by omega)
  have h5 : ¬ k = 5 := fun q => by rcases hk with hk | hk <;> (rw [q] at hk; exact absurd hk (by decide))
  have hT2 := hT.sy hF ht
  have etx : mv_a (tk_add τ k f x) t = mv_a σ t := (tk_txt ht k f x).trans (sy_txt hF ht)
  have hF2 : CutF σ (tk_add τ k f x) := (hF.up (fun o k h => Or.inr h) (fun o h => Or.inr (Or.inr h)) (fun o h => h.elim)).tr (CutF.tk _ _ _ _)
  have hend2 : ∀ n1 : Nat, j.toNatClampNeg < len → ch_name (mv_a (tk_add τ k f x) t j.toNatClampNeg).toInt → 2 * n1 ≤ j.toNatClampNeg + 74 := fun n1 q1 q2 => by
    rw [etx] at q2
    exact absurd q2 (hend (by omega))
  rcases hr with ⟨h1, h2⟩ | ⟨h1, h2⟩
  · obtain ⟨g1, g2⟩ := Tk.add (k := k) (q := f) (x := x) hT2 (Nat.le_refl _) hs ht hf0 (fun _ => ⟨hx0, h2⟩) (fun q => absurd q h5)
    exact ⟨hF2, ⟨fun i hi => (hT2.lo k f x i hi).trans (congrFun (hF.2.1 4 (by omega)) i), fun e9 => absurd (g2.symm.trans e9) h5⟩, n, z, h1.tk _ _ _, g1, Or.inr ⟨j.toNatClampNeg, e.symm, by omega, by omega, by omega, hend2 _, by omega⟩⟩
  · obtain ⟨g1, g2⟩ := Tk.add (k := k) (q := f) (x := x) (n1 := n + 1) hT2 (Nat.le_succ _) hs ht hf0 (fun _ => ⟨hx0, by omega⟩) (fun q => absurd q h5)
    exact ⟨hF2, ⟨fun i hi => (hT2.lo k f x i hi).trans (congrFun (hF.2.1 4 (by omega)) i), fun e9 => absurd (g2.symm.trans e9) h5⟩, n + 1, z + d, h1.tk _ _ _, g1, Or.inr ⟨j.toNatClampNeg, e.symm, by omega, by omega, by omega, hend2 _, by omega⟩⟩
theorem rg_ext2 {P : Nat → Prop} {a : Int} {j : Int32} (h : ∀ i : Nat, a ≤ i → i < j.toInt → P i) (h0 : 0 ≤ j.toInt) (h1 : j.toInt < 2147483647) (hj : P j.toNatClampNeg) : ∀ i : Nat, a ≤ i → i < (j + 1).toInt → P i := by
  intro i a1 a2
  rw [i32_inc h1] at a2
  by_cases e : (i : Int) < j.toInt
  · exact h i a1 e
  · have e2 : i = j.toNatClampNeg := by
      have := i32_cl h0
      omega
    rw [e2]
    exact hj
def y_Tokens_cutName : MethodName := ⟨"MachineLoom$Tokens", "cutName", "(I)I"⟩
abbrev b_Tokens_cutName : ByteArray := prog_10_method_8_code
theorem kc_Tokens_cutName : Cond.code y_Tokens_cutName b_Tokens_cutName 5 (Option.some Jvm.ClassFile.FieldType.int) ∈ ma := ma_of (tb_4 _ (List.mem_of_getElem? (i := 145) rfl)) rfl
theorem k_97 : (Jvm.Cond.fieldLink "MachineLoom$Tokens" (26 : Nat) "MachineLoom$Tokens" "symbols" "LMachineLoom$Symbols;") ∈ ma := ma_of (tb_1 _ (List.mem_of_getElem? (i := 97) rfl)) rfl
theorem k_869 : (Jvm.Cond.methodLink "MachineLoom$Tokens" (108 : Nat) ({ cls := "MachineLoom$Symbols", name := "find", desc := "([BII)I" } : Jvm.MethodName)) ∈ ma := ma_of (tb_4 _ (List.mem_of_getElem? (i := 149) rfl)) rfl
theorem k_804 : (Jvm.Cond.instanceMethod ({ cls := "MachineLoom$Symbols", name := "find", desc := "([BII)I" } : Jvm.MethodName)) ∈ ma := ma_of (tb_4 _ (List.mem_of_getElem? (i := 84) rfl)) rfl
theorem k_805 : (Jvm.Cond.selects "MachineLoom$Symbols" ({ cls := "MachineLoom$Symbols", name := "find", desc := "([BII)I" } : Jvm.MethodName) ({ cls := "MachineLoom$Symbols", name := "find", desc := "([BII)I" } : Jvm.MethodName)) ∈ ma := ma_of (tb_4 _ (List.mem_of_getElem? (i := 85) rfl)) rfl
theorem k_866 : (Jvm.Cond.methodLink "MachineLoom$Tokens" (105 : Nat) ({ cls := "MachineLoom$Tokens", name := "isOfName", desc := "(I)Z" } : Jvm.MethodName)) ∈ ma := ma_of (tb_4 _ (List.mem_of_getElem? (i := 146) rfl)) rfl
theorem k_867 : (Jvm.Cond.static ({ cls := "MachineLoom$Tokens", name := "isOfName", desc := "(I)Z" } : Jvm.MethodName)) ∈ ma := ma_of (tb_4 _ (List.mem_of_getElem? (i := 147) rfl)) rfl
theorem d_Tokens_cutName_0 : decode b_Tokens_cutName 0 = .ok (.iload_n 1, 1) := by decide +kernel
theorem d_Tokens_cutName_1 : decode b_Tokens_cutName 1 = .ok (.istore_n 2, 1) := by decide +kernel
theorem d_Tokens_cutName_2 : decode b_Tokens_cutName 2 = .ok (.iload_n 2, 1) := by decide +kernel
theorem d_Tokens_cutName_3 : decode b_Tokens_cutName 3 = .ok (.aload_n 0, 1) := by decide +kernel
theorem d_Tokens_cutName_4 : decode b_Tokens_cutName 4 = .ok (.getfield 34, 3) := by decide +kernel
theorem d_Tokens_cutName_7 : decode b_Tokens_cutName 7 = .ok (.if_icmp .ge (35), 3) := by decide +kernel
theorem d_Tokens_cutName_10 : decode b_Tokens_cutName 10 = .ok (.aload_n 0, 1) := by decide +kernel
theorem d_Tokens_cutName_11 : decode b_Tokens_cutName 11 = .ok (.getfield 30, 3) := by decide +kernel
theorem d_Tokens_cutName_14 : decode b_Tokens_cutName 14 = .ok (.iload_n 2, 1) := by decide +kernel
theorem d_Tokens_cutName_15 : decode b_Tokens_cutName 15 = .ok (.baload, 1) := by decide +kernel
theorem d_Tokens_cutName_16 : decode b_Tokens_cutName 16 = .ok (.invokestatic 105, 3) := by decide +kernel
theorem d_Tokens_cutName_19 : decode b_Tokens_cutName 19 = .ok (.ifCond .eq (23), 3) := by decide +kernel
theorem d_Tokens_cutName_22 : decode b_Tokens_cutName 22 = .ok (.iload_n 2, 1) := by decide +kernel
theorem d_Tokens_cutName_23 : decode b_Tokens_cutName 23 = .ok (.iload_n 1, 1) := by decide +kernel
theorem d_Tokens_cutName_24 : decode b_Tokens_cutName 24 = .ok (.bipush 32, 2) := by decide +kernel
theorem d_Tokens_cutName_26 : decode b_Tokens_cutName 26 = .ok (.iadd, 1) := by decide +kernel
theorem d_Tokens_cutName_27 : decode b_Tokens_cutName 27 = .ok (.if_icmp .ne (9), 3) := by decide +kernel
theorem d_Tokens_cutName_30 : decode b_Tokens_cutName 30 = .ok (.aload_n 0, 1) := by decide +kernel
theorem d_Tokens_cutName_31 : decode b_Tokens_cutName 31 = .ok (.iload_n 2, 1) := by decide +kernel
theorem d_Tokens_cutName_32 : decode b_Tokens_cutName 32 = .ok (.invokevirtual 93, 3) := by decide +kernel
theorem d_Tokens_cutName_35 : decode b_Tokens_cutName 35 = .ok (.ireturn, 1) := by decide +kernel
theorem d_Tokens_cutName_36 : decode b_Tokens_cutName 36 = .ok (.iinc 2 (1), 3) := by decide +kernel
theorem d_Tokens_cutName_39 : decode b_Tokens_cutName 39 = .ok (.goto (-37), 3) := by decide +kernel
theorem d_Tokens_cutName_42 : decode b_Tokens_cutName 42 = .ok (.aload_n 0, 1) := by decide +kernel
theorem d_Tokens_cutName_43 : decode b_Tokens_cutName 43 = .ok (.getfield 26, 3) := by decide +kernel
theorem d_Tokens_cutName_46 : decode b_Tokens_cutName 46 = .ok (.aload_n 0, 1) := by decide +kernel
theorem d_Tokens_cutName_47 : decode b_Tokens_cutName 47 = .ok (.getfield 30, 3) := by decide +kernel
theorem d_Tokens_cutName_50 : decode b_Tokens_cutName 50 = .ok (.iload_n 1, 1) := by decide +kernel
theorem d_Tokens_cutName_51 : decode b_Tokens_cutName 51 = .ok (.iload_n 2, 1) := by decide +kernel
theorem d_Tokens_cutName_52 : decode b_Tokens_cutName 52 = .ok (.iload_n 1, 1) := by decide +kernel
theorem d_Tokens_cutName_53 : decode b_Tokens_cutName 53 = .ok (.isub, 1) := by decide +kernel
theorem d_Tokens_cutName_54 : decode b_Tokens_cutName 54 = .ok (.invokevirtual 108, 3) := by decide +kernel
theorem d_Tokens_cutName_57 : decode b_Tokens_cutName 57 = .ok (.istore_n 3, 1) := by decide +kernel
theorem d_Tokens_cutName_58 : decode b_Tokens_cutName 58 = .ok (.iload_n 3, 1) := by decide +kernel
theorem d_Tokens_cutName_59 : decode b_Tokens_cutName 59 = .ok (.bipush 17, 2) := by decide +kernel
theorem d_Tokens_cutName_61 : decode b_Tokens_cutName 61 = .ok (.if_icmp .ge (11), 3) := by decide +kernel
theorem d_Tokens_cutName_64 : decode b_Tokens_cutName 64 = .ok (.sipush 200, 3) := by decide +kernel
theorem d_Tokens_cutName_67 : decode b_Tokens_cutName 67 = .ok (.iload_n 3, 1) := by decide +kernel
theorem d_Tokens_cutName_68 : decode b_Tokens_cutName 68 = .ok (.iadd, 1) := by decide +kernel
theorem d_Tokens_cutName_69 : decode b_Tokens_cutName 69 = .ok (.goto (4), 3) := by decide +kernel
theorem d_Tokens_cutName_72 : decode b_Tokens_cutName 72 = .ok (.iconst 3, 1) := by decide +kernel
theorem d_Tokens_cutName_73 : decode b_Tokens_cutName 73 = .ok (.istore 4, 2) := by decide +kernel
theorem d_Tokens_cutName_75 : decode b_Tokens_cutName 75 = .ok (.aload_n 0, 1) := by decide +kernel
theorem d_Tokens_cutName_76 : decode b_Tokens_cutName 76 = .ok (.iload 4, 2) := by decide +kernel
theorem d_Tokens_cutName_78 : decode b_Tokens_cutName 78 = .ok (.iload_n 1, 1) := by decide +kernel
theorem d_Tokens_cutName_79 : decode b_Tokens_cutName 79 = .ok (.iload_n 3, 1) := by decide +kernel
theorem d_Tokens_cutName_80 : decode b_Tokens_cutName 80 = .ok (.i2l, 1) := by decide +kernel
theorem d_Tokens_cutName_81 : decode b_Tokens_cutName 81 = .ok (.iload_n 2, 1) := by decide +kernel
theorem d_Tokens_cutName_82 : decode b_Tokens_cutName 82 = .ok (.invokevirtual 64, 3) := by decide +kernel
theorem d_Tokens_cutName_85 : decode b_Tokens_cutName 85 = .ok (.ireturn, 1) := by decide +kernel
set_option maxHeartbeats 4000000 in
set_option maxRecDepth 100000 in
theorem c_Tokens_cutName (l : Launch) {dA : FieldType → ClassId} {D : va_G} {al : Nat → Nat} {ext : mv_Sh} {sk sv : Nat → Nat} (hi : mv_inj (mg dA D al ext)) (σ : mv_H) (f : Int32) (t tn len : Nat) (hx : tx ext σ t tn len) (n z sz F : Nat) (hS : Sy σ n z) (hT : Tk σ t len sz n) (hsz9 : sz < 32770) (hJ : Ju σ t len n z F) (gF : f.toInt = F) (g0 : 0 ≤ f.toInt) (g1 : f.toInt < len) (gn : ch_name (mv_a σ t f.toNatClampNeg).toInt) : mv_C l y_Tokens_cutName (Cond.code y_Tokens_cutName b_Tokens_cutName 5 (Option.some Jvm.ClassFile.FieldType.int) :: ma) ({ frames := 3, cells := 0, slots := 0, locals := 91 }) (mg dA D al ext) (mK sk sv) [.ref (al 3), .int f] σ (mv_Ri (fun v σ1 => CutP σ t len sz F v σ1)) := by
  refine mv_C.ofV (cc := b_Tokens_cutName) (nL := 5) (ret := (Option.some Jvm.ClassFile.FieldType.int)) (by decide +kernel) rfl hi (Nat.le_of_ble_eq_true rfl) ?_
  intro p e s m below meth c B hNs hr hnm hno
  obtain ⟨hsh, ht, hts, hlen, hl1, hl2, ht2⟩ := hx
  have hsz : vp_in (mv_i σ 3 6) 32770 := i32_in (by have := hT.1; omega) (by have := hT.1; omega)
  have hJ2 : 2 * n ≤ F + 74 := hJ.2.1 (by omega) (by have e : f.toNatClampNeg = F := (by have := i32_cl g0; omega); rw [← e]; exact gn)
  have hJ3 := hJ.2.2
  have j42 : ∀ (j : Int32) (gf : f.toInt < j.toInt) (q1 : j.toInt ≤ len) (q2 : j.toInt ≤ f.toInt + 32) (qc : ∀ i : Nat, f.toInt ≤ i → i < j.toInt → 48 ≤ (mv_a σ t i).toInt ∧ (mv_a σ t i).toInt ≤ 122) (ge : j.toInt < len → ¬ ch_name (mv_a σ t j.toNatClampNeg).toInt), mv_V p l e ({ frames := 3, cells := 0, slots := 0, locals := 91 }) s m ([.ref (al 3), .int f] : List Value).toArray below meth c (mg dA D al ext) 5 0 0 (mv_Q (mg dA D al ext) below s 0 0 (mv_Ri (fun v σ1 => CutP σ t len sz F v σ1))) σ 42 [(2, .int j), (0, .ref (al 3)), (1, .int f)] [] := by
    intro j gf q1 q2 qc ge
    refine mv_aload_n (pc := 42) B d_Tokens_cutName_42 rfl 1 rfl ?_
    refine mv_getR (pc := 43) (ci := 2) (C := R_Tokens) (T := F_Tokens) (N := 10) B 3 rfl rfl (by decide) i_Tokens (B.2.2.2.1 _ k_97) rfl (hsh _ 3 _ rfl) d_Tokens_cutName_43 ?_
    refine mv_aload_n (pc := 46) B d_Tokens_cutName_46 rfl 1 rfl ?_
    refine mv_getR (pc := 47) (ci := 2) (C := R_Tokens) (T := F_Tokens) (N := 10) B 4 rfl rfl (by decide) i_Tokens (B.2.2.2.1 _ k_98) rfl ht d_Tokens_cutName_47 ?_
    refine mv_iload_n (pc := 50) B d_Tokens_cutName_50 rfl 2 rfl ?_
    refine mv_iload_n (pc := 51) B d_Tokens_cutName_51 rfl 0 rfl ?_
    refine mv_iload_n (pc := 52) B d_Tokens_cutName_52 rfl 2 rfl ?_
    refine mv_isub (pc := 53) B d_Tokens_cutName_53 ?_
    refine mv_topi (fun y53 ey53 => ?_)
    have fy53 := i32_subE ey53 (by (try simp only [Int32.reduceToInt]); omega) (by (try simp only [Int32.reduceToInt]); omega)
    try simp only [Int32.reduceToInt] at fy53
    refine mv_callVi (pc := 54) (n := 3) (ci := 3) (C := R_Symbols) B (mK_ok sk sv) hNs rfl rfl (c_Symbols_find l hi _ _ _ n z hsh hS t tn hts g0 (by omega) (by omega) (by omega) (by omega) (by omega) (fun i hi9 => by have := i32_cl g0; have := i32_cl (x := y53) (by omega); have := qc (f.toNatClampNeg + i) (by omega) (by omega); omega)) rfl (ma_goodc kc_Symbols_find) (B.2.2.2.1 _ k_869) (B.2.2.2.1 _ k_804) (B.2.2.2.1 _ k_805) (B.2.2.2.1 _ k_4) ⟨by decide +kernel, by decide +kernel, by decide +kernel⟩ rfl d_Tokens_cutName_54 rfl (Nat.le_of_ble_eq_true rfl) ⟨by decide, by decide⟩ ⟨by decide, by decide⟩ ⟨by decide, by decide⟩ (mv_noH hno _) (fun v54 σ54 h54 => ?_)
    obtain ⟨a54, b54, c54⟩ := h54
    have hF : SyF σ σ54 := c54.elim (fun q => q.2.2) (fun q => q.2)
    have hsh7 : mh (mv_r σ54) := by rw [hF.2.2.2.2]; exact hsh
    have hsz7 : vp_in (mv_i σ54 3 6) 32770 := by rw [hF.1 3 6 (by omega)]; exact hsz
    refine mv_istore_n (pc := 57) B d_Tokens_cutName_57 rfl (by decide) rfl ?_
    have j73 : ∀ (kk : Int32) (hk : kk = 3 ∨ 200 ≤ kk.toInt), mv_V p l e ({ frames := 3, cells := 0, slots := 0, locals := 91 }) s m ([.ref (al 3), .int f] : List Value).toArray below meth c (mg dA D al ext) 5 0 0 (mv_Q (mg dA D al ext) below s 0 0 (mv_Ri (fun v σ1 => CutP σ t len sz F v σ1))) σ54 73 [(3, .int v54), (2, .int j), (0, .ref (al 3)), (1, .int f)] [.int kk] := by
      intro kk hk
      refine mv_istore (pc := 73) B d_Tokens_cutName_73 (by decide) rfl ?_
      refine mv_aload_n (pc := 75) B d_Tokens_cutName_75 rfl 3 rfl ?_
      refine mv_iload (pc := 76) B d_Tokens_cutName_76 0 rfl ?_
      refine mv_iload_n (pc := 78) B d_Tokens_cutName_78 rfl 4 rfl ?_
      refine mv_iload_n (pc := 79) B d_Tokens_cutName_79 rfl 1 rfl ?_
      refine mv_i2l (pc := 80) B d_Tokens_cutName_80 ?_
      refine mv_iload_n (pc := 81) B d_Tokens_cutName_81 rfl 2 rfl ?_
      refine mv_callVi (pc := 82) (n := 4) (ci := 2) (C := R_Tokens) B (mK_ok sk sv) hNs rfl rfl (c_Tokens_add l hi _ _ _ _ _ hsh7 hsz7) rfl (ma_goodc kc_Tokens_add) (B.2.2.2.1 _ k_831) (B.2.2.2.1 _ k_833) (B.2.2.2.1 _ ks_22) (B.2.2.2.1 _ k_3) ⟨by decide +kernel, by decide +kernel, by decide +kernel⟩ rfl d_Tokens_cutName_82 rfl (Nat.le_of_ble_eq_true rfl) ⟨by decide, by decide⟩ ⟨by decide, by decide⟩ ⟨by decide, by decide⟩ (mv_noH hno _) (fun v82 σ82 h82 => ?_)
      obtain ⟨rfl, rfl⟩ := h82
      exact mv_iret (pc := 85) B hr rfl d_Tokens_cutName_85 (Nat.le_refl _) (Nat.le_refl _) ⟨_, rfl, CutP.name (d := y53.toNatClampNeg) hF (c54.elim (fun q => Or.inl ⟨q.2.1, by rw [lg_toInt]; exact q.1⟩) (fun q => Or.inr ⟨q.1, by rw [lg_toInt]; exact b54⟩)) (by rw [lg_toInt]; exact a54) g0 hk hT hsz9 ht2 (by omega) (by omega) (by omega) (by omega) (by have := i32_cl (x := y53) (by omega); omega) ge⟩
    refine mv_iload_n (pc := 58) B d_Tokens_cutName_58 rfl 0 rfl ?_
    refine mv_bipush (pc := 59) (v := 17) B d_Tokens_cutName_59 (by decide) ?_
    refine mv_icmp_ge (pc := 61) (tgt := 72) B d_Tokens_cutName_61 rfl (fun h61 => ?_) (fun h61 => ?_)
    · skip
      refine mv_iconst (pc := 72) (v := 3) B d_Tokens_cutName_72 (by decide) ?_
      refine mv_lpick [0, 1, 2, 3] rfl ?_
      exact j73 _ (by first | exact Or.inl rfl | exact Or.inr (by omega))
    · skip
      rw [Int32.le_iff_toInt_le] at h61
      simp only [Int32.reduceToInt] at h61
      refine mv_sipush (pc := 64) (v := 200) B d_Tokens_cutName_64 (by decide) ?_
      refine mv_iload_n (pc := 67) B d_Tokens_cutName_67 rfl 0 rfl ?_
      refine mv_iadd (pc := 68) B d_Tokens_cutName_68 ?_
      refine mv_topi (fun y68 ey68 => ?_)
      have fy68 := i32_addE ey68 (by (try simp only [Int32.reduceToInt]); omega) (by (try simp only [Int32.reduceToInt]); omega)
      try simp only [Int32.reduceToInt] at fy68
      refine mv_goto (pc := 69) (tgt := 73) B d_Tokens_cutName_69 rfl ?_
      refine mv_lpick [0, 1, 2, 3] rfl ?_
      exact j73 _ (by first | exact Or.inl rfl | exact Or.inr (by omega))
  have lp : ∀ (nn : Nat) (j : Int32) (q0 : f.toInt ≤ j.toInt) (q1 : j.toInt ≤ len) (q2 : j.toInt ≤ f.toInt + 32) (qc : ∀ i : Nat, f.toInt ≤ i → i < j.toInt → 48 ≤ (mv_a σ t i).toInt ∧ (mv_a σ t i).toInt ≤ 122), (len - j.toInt).toNat < nn → mv_V p l e ({ frames := 3, cells := 0, slots := 0, locals := 91 }) s m ([.ref (al 3), .int f] : List Value).toArray below meth c (mg dA D al ext) 5 0 0 (mv_Q (mg dA D al ext) below s 0 0 (mv_Ri (fun v σ1 => CutP σ t len sz F v σ1))) σ 2 [(2, .int j), (0, .ref (al 3)), (1, .int f)] [] := by
    intro nn
    induction nn with
    | zero => intro j q0 q1 q2 qc hm; exact absurd hm (Nat.not_lt_zero _)
    | succ nn ih =>
      intro j q0 q1 q2 qc hm
      refine mv_iload_n (pc := 2) B d_Tokens_cutName_2 rfl 0 rfl ?_
      refine mv_aload_n (pc := 3) B d_Tokens_cutName_3 rfl 1 rfl ?_
      refine mv_getI (pc := 4) (ci := 2) (C := R_Tokens) (T := F_Tokens) (N := 10) B 5 rfl rfl (by decide) i_Tokens (B.2.2.2.1 _ k_100) rfl d_Tokens_cutName_4 ?_
      refine mv_icmp_ge (pc := 7) (tgt := 42) B d_Tokens_cutName_7 rfl (fun h7 => ?_) (fun h7 => ?_)
      · skip
        rw [Int32.le_iff_toInt_le] at h7
        have gf : f.toInt < j.toInt := by omega
        have ge : j.toInt < len → ¬ ch_name (mv_a σ t j.toNatClampNeg).toInt := fun q => by omega
        refine mv_lpick [0, 1, 2] rfl ?_
        exact j42 _ gf q1 q2 qc ge
      · skip
        rw [Int32.le_iff_toInt_le] at h7
        refine mv_aload_n (pc := 10) B d_Tokens_cutName_10 rfl 1 rfl ?_
        refine mv_getR (pc := 11) (ci := 2) (C := R_Tokens) (T := F_Tokens) (N := 10) B 4 rfl rfl (by decide) i_Tokens (B.2.2.2.1 _ k_98) rfl ht d_Tokens_cutName_11 ?_
        refine mv_iload_n (pc := 14) B d_Tokens_cutName_14 rfl 0 rfl ?_
        refine mv_bald (pc := 15) B hts (i32_in (by omega) (by omega)) d_Tokens_cutName_15 ?_
        refine mv_callSi (pc := 16) (n := 1) B (mK_ok sk sv) hNs (c_Tokens_isOfName l hi _ _) rfl (ma_goodc kc_Tokens_isOfName) (B.2.2.2.1 _ k_866) (B.2.2.2.1 _ k_867) (B.2.2.2.1 _ k_3) ⟨by decide +kernel, by decide +kernel, by decide +kernel⟩ rfl d_Tokens_cutName_16 rfl (Nat.le_of_ble_eq_true rfl) ⟨by decide, by decide⟩ ⟨by decide, by decide⟩ ⟨by decide, by decide⟩ (mv_noH hno _) (fun v16 σ16 h16 => ?_)
        obtain ⟨e16, z16⟩ := h16
        have e16 := e16.symm
        subst e16
        refine mv_if_eq (pc := 19) (tgt := 42) B d_Tokens_cutName_19 rfl (fun h19 => ?_) (fun h19 => ?_)
        · skip
          have z19 := zb_f z16 h19
          have gf : f.toInt < j.toInt := Decidable.byContradiction fun q => z19 (by have e : f = j := Int32.toInt_inj.mp (by omega); rw [← e]; exact gn)
          have ge : j.toInt < len → ¬ ch_name (mv_a σ t j.toNatClampNeg).toInt := fun _ => z19
          refine mv_lpick [0, 1, 2] rfl ?_
          exact j42 _ gf q1 q2 qc ge
        · skip
          have z19 := zb_t z16 h19
          refine mv_iload_n (pc := 22) B d_Tokens_cutName_22 rfl 0 rfl ?_
          refine mv_iload_n (pc := 23) B d_Tokens_cutName_23 rfl 2 rfl ?_
          refine mv_bipush (pc := 24) (v := 32) B d_Tokens_cutName_24 (by decide) ?_
          refine mv_iadd (pc := 26) B d_Tokens_cutName_26 ?_
          refine mv_topi (fun y26 ey26 => ?_)
          have fy26 := i32_addE ey26 (by (try simp only [Int32.reduceToInt]); omega) (by (try simp only [Int32.reduceToInt]); omega)
          try simp only [Int32.reduceToInt] at fy26
          refine mv_icmp_ne (pc := 27) (tgt := 36) B d_Tokens_cutName_27 rfl (fun h27 => ?_) (fun h27 => ?_)
          · skip
            have n27 : j.toInt ≠ f.toInt + 32 := fun q => h27 (Int32.toInt_inj.mp (by rw [fy26]; exact q))
            refine mv_iinc (pc := 36) (j := 0) (v := 1) B d_Tokens_cutName_36 rfl (by decide) (by decide) rfl ?_
            refine mv_goto (pc := 39) (tgt := 2) B d_Tokens_cutName_39 rfl ?_
            refine mv_lpick [0, 1, 2] rfl ?_
            exact ih _ (by rw [i32_inc (by omega)]; omega) (by rw [i32_inc (by omega)]; omega) (by rw [i32_inc (by omega)]; omega) (rg_ext2 qc (by omega) (by omega) (by first | omega | (dsimp only; omega))) (by rw [i32_inc (by omega)]; omega)
          · skip
            refine mv_aload_n (pc := 30) B d_Tokens_cutName_30 rfl 1 rfl ?_
            refine mv_iload_n (pc := 31) B d_Tokens_cutName_31 rfl 0 rfl ?_
            refine mv_callVi (pc := 32) (n := 1) (ci := 2) (C := R_Tokens) B (mK_ok sk sv) hNs rfl rfl (c_Tokens_broken l hi _ _ hsh hsz) rfl (ma_goodc kc_Tokens_broken) (B.2.2.2.1 _ k_845) (B.2.2.2.1 _ k_847) (B.2.2.2.1 _ ks_24) (B.2.2.2.1 _ k_3) ⟨by decide +kernel, by decide +kernel, by decide +kernel⟩ rfl d_Tokens_cutName_32 rfl (Nat.le_of_ble_eq_true rfl) ⟨by decide, by decide⟩ ⟨by decide, by decide⟩ ⟨by decide, by decide⟩ (mv_noH hno _) (fun v32 σ32 h32 => ?_)
            obtain ⟨rfl, rfl⟩ := h32
            exact mv_iret (pc := 35) B hr rfl d_Tokens_cutName_35 (Nat.le_refl _) (Nat.le_refl _) ⟨_, rfl, CutP.of (f := F) ⟨2, _, 0, rfl, by omega, Or.inl ⟨rfl, Or.inr rfl⟩⟩ rfl hS hT hsz9 ht2 hJ⟩
  refine mv_iload_n (pc := 0) B d_Tokens_cutName_0 rfl 1 rfl ?_
  refine mv_istore_n (pc := 1) B d_Tokens_cutName_1 rfl (by decide) rfl ?_
  refine mv_lpick [0, 1, 2] rfl ?_
  exact lp _ _ (Int.le_refl _) (by omega) (by omega) (fun i a1 a2 => by omega) (Nat.lt_succ_self _)
