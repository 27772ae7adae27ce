/-! Tokens.cut -/
theorem mh_sr {σ : mv_H} {o k : Nat} {x : Option Nat} (h : mh (mv_r σ)) (hn : mr o k = none) : mh (mv_r (mv_sr σ o k x)) := fun o' k' v hv => by
  show mv_u (mv_r σ) o k x o' k' = some v
  rw [mv_u_ne _ _ (fun q => by rw [q.1, q.2, hn] at hv; cases hv)]
  exact h o' k' v hv
theorem tx.cut {ext : mv_Sh} {σ τ : mv_H} {t tn len : Nat} (h : tx ext σ t tn len) (g : CutF σ τ) : tx ext τ t tn len := by
  obtain ⟨h1, h2, h3, h4, h5⟩ := h
  exact ⟨by rw [g.2.2.2.2]; exact h1, by rw [g.2.2.2.2]; exact h2, h3, by rw [g.1 3 5 (by omega)]; exact h4, h5⟩
theorem CutF.txt {σ τ : mv_H} (g : CutF σ τ) {t : Nat} (ht : t = 1 ∨ t = 144) : mv_a τ t = mv_a σ t := g.2.1 t (by rcases ht with rfl | rfl <;> omega)
theorem Ju.skip {σ : mv_H} {t len n z p q : Nat} (h : Ju σ t len n z p) (hq : p ≤ q) : Ju σ t len n z q := by
  by_cases e : p = q
  · subst e; exact h
  · have := h.1; have := h.2.2
    exact ⟨by omega, fun _ _ => by omega, by omega⟩
/-- how many CODES stand before n -/
def nCd (f : Nat → Int32) : Nat → Nat
  | 0 => 0
  | n + 1 => nCd f n + (if f n = 5 then 1 else 0)
theorem nCd_con {f g : Nat → Int32} : ∀ n : Nat, (∀ i, i < n → f i = g i) → nCd f n = nCd g n := by
  intro n
  induction n with
  | zero => intro _; rfl
  | succ n ih =>
    intro h
    show nCd f n + _ = nCd g n + _
    rw [ih (fun i q => h i (by omega)), h n (by omega)]
/-- all TOKENS are cut: sz of them with row 0, the last is END or BROKEN -/
def TkE (σ : mv_H) (t len : Nat) : Prop := ∃ n z sz : Nat, Sy σ n z ∧ Tk σ t len sz n ∧ 2 ≤ sz ∧ sz ≤ 32770 ∧ (mv_a σ 4 (sz - 1) = 1 ∨ mv_a σ 4 (sz - 1) = 2) ∧ sz ≤ len + 2 ∧ 2 * nCd (mv_a σ 4) sz ≤ qc (mv_a σ t) len
abbrev CutG : mv_H → mv_H → Prop := Fr (fun o k => o = 3 ∨ (o = 7 ∧ k = 5)) (fun o => o = 4 ∨ o = 5 ∨ (8 ≤ o ∧ o ≤ 12)) (fun o => o = 6)
def y_Tokens_cut : MethodName := ⟨"MachineLoom$Tokens", "cut", "([BI)V"⟩
abbrev b_Tokens_cut : ByteArray := prog_10_method_2_code
theorem kc_Tokens_cut : Cond.code y_Tokens_cut b_Tokens_cut 5 (Option.none : Option Jvm.ClassFile.FieldType) ∈ ma := ma_of (tb_4 _ (List.mem_of_getElem? (i := 72) rfl)) rfl
theorem k_818 : (Jvm.Cond.constant "MachineLoom$Tokens" (53 : Nat) (32768 : Int32)) ∈ ma := ma_of (tb_4 _ (List.mem_of_getElem? (i := 98) rfl)) rfl
theorem k_819 : (Jvm.Cond.methodLink "MachineLoom$Tokens" (54 : Nat) ({ cls := "MachineLoom$Tokens", name := "behindSpaces", desc := "(I)I" } : Jvm.MethodName)) ∈ ma := ma_of (tb_4 _ (List.mem_of_getElem? (i := 99) rfl)) rfl
theorem k_821 : (Jvm.Cond.instanceMethod ({ cls := "MachineLoom$Tokens", name := "behindSpaces", desc := "(I)I" } : Jvm.MethodName)) ∈ ma := ma_of (tb_4 _ (List.mem_of_getElem? (i := 101) rfl)) rfl
theorem ks_19 : Cond.selects "MachineLoom$Tokens" ⟨"MachineLoom$Tokens", "behindSpaces", "(I)I"⟩ ⟨"MachineLoom$Tokens", "behindSpaces", "(I)I"⟩ ∈ ma := ma_sel 19 rfl rfl
theorem k_823 : (Jvm.Cond.methodLink "MachineLoom$Tokens" (58 : Nat) ({ cls := "MachineLoom$Tokens", name := "cutOne", desc := "(I)I" } : Jvm.MethodName)) ∈ ma := ma_of (tb_4 _ (List.mem_of_getElem? (i := 103) rfl)) rfl
theorem k_825 : (Jvm.Cond.instanceMethod ({ cls := "MachineLoom$Tokens", name := "cutOne", desc := "(I)I" } : Jvm.MethodName)) ∈ ma := ma_of (tb_4 _ (List.mem_of_getElem? (i := 105) rfl)) rfl
theorem ks_20 : Cond.selects "MachineLoom$Tokens" ⟨"MachineLoom$Tokens", "cutOne", "(I)I"⟩ ⟨"MachineLoom$Tokens", "cutOne", "(I)I"⟩ ∈ ma := ma_sel 20 rfl rfl
theorem k_793 : (Jvm.Cond.methodLink "MachineLoom$Tokens" (50 : Nat) ({ cls := "MachineLoom$Symbols", name := "clear", desc := "()V" } : Jvm.MethodName)) ∈ ma := ma_of (tb_4 _ (List.mem_of_getElem? (i := 73) rfl)) rfl
theorem k_794 : (Jvm.Cond.instanceMethod ({ cls := "MachineLoom$Symbols", name := "clear", desc := "()V" } : Jvm.MethodName)) ∈ ma := ma_of (tb_4 _ (List.mem_of_getElem? (i := 74) rfl)) rfl
theorem k_795 : (Jvm.Cond.selects "MachineLoom$Symbols" ({ cls := "MachineLoom$Symbols", name := "clear", desc := "()V" } : Jvm.MethodName) ({ cls := "MachineLoom$Symbols", name := "clear", desc := "()V" } : Jvm.MethodName)) ∈ ma := ma_of (tb_4 _ (List.mem_of_getElem? (i := 75) rfl)) rfl
theorem d_Tokens_cut_0 : decode b_Tokens_cut 0 = .ok (.aload_n 0, 1) := by decide +kernel
theorem d_Tokens_cut_1 : decode b_Tokens_cut 1 = .ok (.aload_n 1, 1) := by decide +kernel
theorem d_Tokens_cut_2 : decode b_Tokens_cut 2 = .ok (.putfield 30, 3) := by decide +kernel
theorem d_Tokens_cut_5 : decode b_Tokens_cut 5 = .ok (.aload_n 0, 1) := by decide +kernel
theorem d_Tokens_cut_6 : decode b_Tokens_cut 6 = .ok (.iload_n 2, 1) := by decide +kernel
theorem d_Tokens_cut_7 : decode b_Tokens_cut 7 = .ok (.putfield 34, 3) := by decide +kernel
theorem d_Tokens_cut_10 : decode b_Tokens_cut 10 = .ok (.aload_n 0, 1) := by decide +kernel
theorem d_Tokens_cut_11 : decode b_Tokens_cut 11 = .ok (.iconst 1, 1) := by decide +kernel
theorem d_Tokens_cut_12 : decode b_Tokens_cut 12 = .ok (.putfield 38, 3) := by decide +kernel
theorem d_Tokens_cut_15 : decode b_Tokens_cut 15 = .ok (.aload_n 0, 1) := by decide +kernel
theorem d_Tokens_cut_16 : decode b_Tokens_cut 16 = .ok (.iconst 1, 1) := by decide +kernel
theorem d_Tokens_cut_17 : decode b_Tokens_cut 17 = .ok (.putfield 41, 3) := by decide +kernel
theorem d_Tokens_cut_20 : decode b_Tokens_cut 20 = .ok (.aload_n 0, 1) := by decide +kernel
theorem d_Tokens_cut_21 : decode b_Tokens_cut 21 = .ok (.iconst 0, 1) := by decide +kernel
theorem d_Tokens_cut_22 : decode b_Tokens_cut 22 = .ok (.putfield 44, 3) := by decide +kernel
theorem d_Tokens_cut_25 : decode b_Tokens_cut 25 = .ok (.aload_n 0, 1) := by decide +kernel
theorem d_Tokens_cut_26 : decode b_Tokens_cut 26 = .ok (.iconst (-1), 1) := by decide +kernel
theorem d_Tokens_cut_27 : decode b_Tokens_cut 27 = .ok (.putfield 47, 3) := by decide +kernel
theorem d_Tokens_cut_30 : decode b_Tokens_cut 30 = .ok (.aload_n 0, 1) := by decide +kernel
theorem d_Tokens_cut_31 : decode b_Tokens_cut 31 = .ok (.getfield 26, 3) := by decide +kernel
theorem d_Tokens_cut_34 : decode b_Tokens_cut 34 = .ok (.invokevirtual 50, 3) := by decide +kernel
theorem d_Tokens_cut_37 : decode b_Tokens_cut 37 = .ok (.iconst 0, 1) := by decide +kernel
theorem d_Tokens_cut_38 : decode b_Tokens_cut 38 = .ok (.istore_n 3, 1) := by decide +kernel
theorem d_Tokens_cut_39 : decode b_Tokens_cut 39 = .ok (.iconst 0, 1) := by decide +kernel
theorem d_Tokens_cut_40 : decode b_Tokens_cut 40 = .ok (.istore 4, 2) := by decide +kernel
theorem d_Tokens_cut_42 : decode b_Tokens_cut 42 = .ok (.iload 4, 2) := by decide +kernel
theorem d_Tokens_cut_44 : decode b_Tokens_cut 44 = .ok (.ldc 53, 2) := by decide +kernel
theorem d_Tokens_cut_46 : decode b_Tokens_cut 46 = .ok (.if_icmp .gt (23), 3) := by decide +kernel
theorem d_Tokens_cut_49 : decode b_Tokens_cut 49 = .ok (.iload_n 3, 1) := by decide +kernel
theorem d_Tokens_cut_50 : decode b_Tokens_cut 50 = .ok (.ifCond .lt (19), 3) := by decide +kernel
theorem d_Tokens_cut_53 : decode b_Tokens_cut 53 = .ok (.aload_n 0, 1) := by decide +kernel
theorem d_Tokens_cut_54 : decode b_Tokens_cut 54 = .ok (.aload_n 0, 1) := by decide +kernel
theorem d_Tokens_cut_55 : decode b_Tokens_cut 55 = .ok (.iload_n 3, 1) := by decide +kernel
theorem d_Tokens_cut_56 : decode b_Tokens_cut 56 = .ok (.invokevirtual 54, 3) := by decide +kernel
theorem d_Tokens_cut_59 : decode b_Tokens_cut 59 = .ok (.invokevirtual 58, 3) := by decide +kernel
theorem d_Tokens_cut_62 : decode b_Tokens_cut 62 = .ok (.istore_n 3, 1) := by decide +kernel
theorem d_Tokens_cut_63 : decode b_Tokens_cut 63 = .ok (.iinc 4 (1), 3) := by decide +kernel
theorem d_Tokens_cut_66 : decode b_Tokens_cut 66 = .ok (.goto (-24), 3) := by decide +kernel
theorem d_Tokens_cut_69 : decode b_Tokens_cut 69 = .ok (.return_, 1) := by decide +kernel
set_option maxHeartbeats 4000000 in
set_option maxRecDepth 100000 in
theorem c_Tokens_cut (l : Launch) {dA : FieldType → ClassId} {D : va_G} {al : Nat → Nat} {ext : mv_Sh} {sk sv : Nat → Nat} (hi : mv_inj (mg dA D al ext)) (σ : mv_H) (t tn len : Nat) (w : Int32) (hsh : mh (mv_r σ)) (hts : (mb ++ ext)[t]? = some (.inr (.byte, tn))) (ht2 : t = 1 ∨ t = 144) (hw : w.toInt = len) (hl1 : len ≤ tn) (hl2 : tn ≤ 32768) (hby8 : ∀ i, i < tn → -128 ≤ (mv_a σ t i).toInt ∧ (mv_a σ t i).toInt ≤ 127) (hk0 : mv_a σ 4 0 = 0) (hp0 : 0 ≤ (mv_a σ 5 0).toInt) (hb0 : mv_b σ 6 0 = 0) : mv_C l y_Tokens_cut (Cond.code y_Tokens_cut b_Tokens_cut 5 (Option.none : Option Jvm.ClassFile.FieldType) :: ma) ({ frames := 6, cells := 0, slots := 0, locals := 152 }) (mg dA D al ext) (mK sk sv) [.ref (al 3), .ref (al t), .int w] σ (mv_Rv (fun σ1 => CutG (mv_sr σ 3 4 (some t)) σ1 ∧ tx ext σ1 t tn len ∧ mv_a σ1 t = mv_a σ t ∧ TkE σ1 t len ∧ mv_i σ1 3 7 = 1 ∧ mv_i σ1 3 8 = 0 ∧ mv_i σ1 3 9 = -1)) := by
  refine mv_C.ofV (cc := b_Tokens_cut) (nL := 5) (ret := (Option.none : Option Jvm.ClassFile.FieldType)) (by decide +kernel) rfl hi (Nat.le_of_ble_eq_true rfl) ?_
  intro p e s m below meth c B hNs hr hnm hno
  have lp : ∀ (nn : Nat) (τ : mv_H) (i : Int32) (j : Int32) (n : Nat) (z : Nat) (sz : Nat) (q0 : 0 ≤ i.toInt) (q1 : i.toInt ≤ 32769) (qs : (sz : Int) = i.toInt + 1) (hS : Sy τ n z) (hT : Tk τ t len sz n) (qx : tx ext τ t tn len) (qt : mv_a τ t = mv_a σ t) (qf : CutG (mv_sr σ 3 4 (some t)) τ) (qv : mv_i τ 3 7 = 1 ∧ mv_i τ 3 8 = 0 ∧ mv_i τ 3 9 = -1) (qj : (j = -1 ∧ 2 ≤ sz ∧ (mv_a τ 4 (sz - 1) = 1 ∨ mv_a τ 4 (sz - 1) = 2) ∧ sz ≤ len + 2 ∧ 2 * nCd (mv_a τ 4) sz ≤ qc (mv_a σ t) len) ∨ ∃ q : Nat, j.toInt = q ∧ q ≤ len ∧ i.toInt ≤ q ∧ Ju τ t len n z q ∧ 2 * nCd (mv_a τ 4) sz ≤ qc (mv_a σ t) q), (32769 - i.toInt).toNat < nn → mv_V p l e ({ frames := 6, cells := 0, slots := 0, locals := 152 }) s m ([.ref (al 3), .ref (al t), .int w] : List Value).toArray below meth c (mg dA D al ext) 5 0 0 (mv_Q (mg dA D al ext) below s 0 0 (mv_Rv (fun σ1 => CutG (mv_sr σ 3 4 (some t)) σ1 ∧ tx ext σ1 t tn len ∧ mv_a σ1 t = mv_a σ t ∧ TkE σ1 t len ∧ mv_i σ1 3 7 = 1 ∧ mv_i σ1 3 8 = 0 ∧ mv_i σ1 3 9 = -1))) τ 42 [(4, .int i), (3, .int j), (0, .ref (al 3)), (1, .ref (al t)), (2, .int w)] [] := by
    intro nn
    induction nn with
    | zero => intro τ i j n z sz q0 q1 qs hS hT qx qt qf qv qj hm; exact absurd hm (Nat.not_lt_zero _)
    | succ nn ih =>
      intro τ i j n z sz q0 q1 qs hS hT qx qt qf qv qj hm
      refine mv_iload (pc := 42) B d_Tokens_cut_42 0 rfl ?_
      refine mv_ldc (pc := 44) (v := 32768) B (B.2.2.2.1 _ k_818) d_Tokens_cut_44 ?_
      refine mv_icmp_gt (pc := 46) (tgt := 69) B d_Tokens_cut_46 rfl (fun h46 => ?_) (fun h46 => ?_)
      · skip
        rw [Int32.lt_iff_toInt_lt] at h46
        simp only [Int32.reduceToInt] at h46
        have ql : j = -1 ∧ 2 ≤ sz ∧ (mv_a τ 4 (sz - 1) = 1 ∨ mv_a τ 4 (sz - 1) = 2) ∧ sz ≤ len + 2 ∧ 2 * nCd (mv_a τ 4) sz ≤ qc (mv_a σ t) len := qj.resolve_right (fun q => by obtain ⟨q, h1, h2, h3, -⟩ := q; omega)
        exact mv_vret (pc := 69) B hr d_Tokens_cut_69 (Nat.le_refl _) (Nat.le_refl _) ⟨rfl, qf, qx, qt, ⟨n, z, sz, hS, hT, ql.2.1, by omega, ql.2.2.1, ql.2.2.2.1, by rw [qt]; exact ql.2.2.2.2⟩, qv⟩
      · skip
        rw [Int32.lt_iff_toInt_lt] at h46
        simp only [Int32.reduceToInt] at h46
        refine mv_iload_n (pc := 49) B d_Tokens_cut_49 rfl 1 rfl ?_
        refine mv_if_lt (pc := 50) (tgt := 69) B d_Tokens_cut_50 rfl (fun h50 => ?_) (fun h50 => ?_)
        · skip
          rw [Int32.lt_iff_toInt_lt] at h50
          simp only [Int32.reduceToInt] at h50
          have ql : j = -1 ∧ 2 ≤ sz ∧ (mv_a τ 4 (sz - 1) = 1 ∨ mv_a τ 4 (sz - 1) = 2) ∧ sz ≤ len + 2 ∧ 2 * nCd (mv_a τ 4) sz ≤ qc (mv_a σ t) len := qj.resolve_right (fun q => by obtain ⟨q, h1, h2, h3, -⟩ := q; omega)
          exact mv_vret (pc := 69) B hr d_Tokens_cut_69 (Nat.le_refl _) (Nat.le_refl _) ⟨rfl, qf, qx, qt, ⟨n, z, sz, hS, hT, ql.2.1, by omega, ql.2.2.1, ql.2.2.2.1, by rw [qt]; exact ql.2.2.2.2⟩, qv⟩
        · skip
          have k50 : 0 ≤ j.toInt := by rw [Int32.lt_iff_toInt_lt] at h50; simp only [Int32.reduceToInt] at h50; omega
          have kj : j.toInt ≤ len ∧ i.toInt ≤ j.toInt := qj.elim (fun q => by rw [q.1] at k50; exact absurd k50 (by decide)) (fun q => by obtain ⟨q, h1, h2, h3, -⟩ := q; omega)
          refine mv_aload_n (pc := 53) B d_Tokens_cut_53 rfl 2 rfl ?_
          refine mv_aload_n (pc := 54) B d_Tokens_cut_54 rfl 2 rfl ?_
          refine mv_iload_n (pc := 55) B d_Tokens_cut_55 rfl 1 rfl ?_
          refine mv_callVi (pc := 56) (n := 1) (ci := 2) (C := R_Tokens) B (mK_ok sk sv) hNs rfl rfl (c_Tokens_behindSpaces l hi _ _ t tn len qx (by omega) (by omega)) rfl (ma_goodc kc_Tokens_behindSpaces) (B.2.2.2.1 _ k_819) (B.2.2.2.1 _ k_821) (B.2.2.2.1 _ ks_19) (B.2.2.2.1 _ k_3) ⟨by decide +kernel, by decide +kernel, by decide +kernel⟩ rfl d_Tokens_cut_56 rfl (Nat.le_of_ble_eq_true rfl) ⟨by decide, by decide⟩ ⟨by decide, by decide⟩ ⟨by decide, by decide⟩ (mv_noH hno _) (fun v56 σ56 h56 => ?_)
          obtain ⟨e56, a56, b56⟩ := h56
          have e56 := e56.symm
          subst e56
          refine mv_callVi (pc := 59) (n := 1) (ci := 2) (C := R_Tokens) B (mK_ok sk sv) hNs rfl rfl (c_Tokens_cutOne l hi _ _ t tn len qx n z sz v56.toNatClampNeg hS hT (by omega) ((qj.resolve_left (fun q => absurd q.1 (by intro q2; rw [q2] at k50; exact absurd k50 (by decide)))).elim fun q hq => hq.2.2.2.1.skip (by have := i32_cl (x := v56) (by omega); omega)) (i32_cl (by omega)).symm (by omega) (by omega) (by rw [qt]; exact hby8)) rfl (ma_goodc kc_Tokens_cutOne) (B.2.2.2.1 _ k_823) (B.2.2.2.1 _ k_825) (B.2.2.2.1 _ ks_20) (B.2.2.2.1 _ k_3) ⟨by decide +kernel, by decide +kernel, by decide +kernel⟩ rfl d_Tokens_cut_59 rfl (Nat.le_of_ble_eq_true rfl) ⟨by decide, by decide⟩ ⟨by decide, by decide⟩ ⟨by decide, by decide⟩ (mv_noH hno _) (fun v59 σ59 h59 => ?_)
          have u1 : 0 ≤ (i + 1).toInt := by rw [i32_inc (by omega)]; omega
          have u2 : (i + 1).toInt ≤ 32769 := by rw [i32_inc (by omega)]; omega
          have u3 : ((sz + 1 : Nat) : Int) = (i + 1).toInt + 1 := by rw [i32_inc (by omega)]; omega
          have u4 : (32769 - (i + 1).toInt).toNat < nn := by rw [i32_inc (by omega)]; omega
          obtain ⟨c59, ⟨l59, p59⟩, n1, z1, s59, t59, d59⟩ := h59
          have kq : 2 * nCd (mv_a τ 4) sz ≤ qc (mv_a σ t) v56.toNatClampNeg := (qj.resolve_left (fun q => absurd q.1 (by intro q2; rw [q2] at k50; exact absurd k50 (by decide)))).elim fun q hq => Nat.le_trans hq.2.2.2.2 (qc_mono _ (by have := i32_cl (x := v56) (by omega); omega))
          have kn : nCd (mv_a σ59 4) (sz + 1) = nCd (mv_a τ 4) sz + (if mv_a σ59 4 sz = 5 then 1 else 0) := by show nCd (mv_a σ59 4) sz + _ = _; rw [nCd_con sz l59]
          rw [qt] at p59
          have v57 := i32_cl (x := v56) (by omega)
          have d60 : (v59 = -1 ∧ 2 ≤ sz + 1 ∧ (mv_a σ59 4 (sz + 1 - 1) = 1 ∨ mv_a σ59 4 (sz + 1 - 1) = 2) ∧ sz + 1 ≤ len + 2 ∧ 2 * nCd (mv_a σ59 4) (sz + 1) ≤ qc (mv_a σ t) len) ∨ ∃ q : Nat, v59.toInt = q ∧ q ≤ len ∧ (i + 1).toInt ≤ q ∧ Ju σ59 t len n1 z1 q ∧ 2 * nCd (mv_a σ59 4) (sz + 1) ≤ qc (mv_a σ t) q := by
            rw [i32_inc (by omega)]
            rcases d59 with ⟨h1, h2⟩ | ⟨q, h1, h2, h3, h4⟩
            · refine Or.inl ⟨h1, by omega, by rw [Nat.add_sub_cancel]; exact h2, by omega, ?_⟩
              rw [kn, if_neg (by rcases h2 with h2 | h2 <;> (rw [h2]; decide))]
              have := qc_mono (mv_a σ t) (show v56.toNatClampNeg ≤ len by omega)
              omega
            · refine Or.inr ⟨q, h1, h3, by omega, h4, ?_⟩
              rw [kn]
              by_cases e5 : mv_a σ59 4 sz = 5
              · rw [if_pos e5]
                have e6 : v59.toNatClampNeg = q := by have := i32_cl (x := v59) (by omega); omega
                have := p59 e5
                rw [e6] at this
                omega
              · rw [if_neg e5]
                have := qc_mono (mv_a σ t) (show v56.toNatClampNeg ≤ q by omega)
                omega
          refine mv_istore_n (pc := 62) B d_Tokens_cut_62 rfl (by decide) rfl ?_
          refine mv_iinc (pc := 63) (j := 1) (v := 1) B d_Tokens_cut_63 rfl (by decide) (by decide) rfl ?_
          refine mv_goto (pc := 66) (tgt := 42) B d_Tokens_cut_66 rfl ?_
          refine mv_lpick [0, 1, 2, 3, 4] rfl ?_
          exact ih _ _ _ n1 z1 (sz + 1) u1 u2 u3 s59 t59 (qx.cut c59) ((c59.txt ht2).trans qt) (qf.tr (c59.up (fun o k h => h.elim (fun h => Or.inl h.1) (fun h => Or.inr h)) (fun o h => h.elim Or.inl (fun h => Or.inr (h.elim Or.inl (fun h => Or.inr ⟨h.1, Nat.le_succ_of_le h.2⟩)))) (fun o h => h))) ⟨(c59.1 3 7 (by decide)).trans qv.1, (c59.1 3 8 (by decide)).trans qv.2.1, (c59.1 3 9 (by decide)).trans qv.2.2⟩ d60 u4
  refine mv_aload_n (pc := 0) B d_Tokens_cut_0 rfl 0 rfl ?_
  refine mv_aload_n (pc := 1) B d_Tokens_cut_1 rfl 1 rfl ?_
  refine mv_putR (pc := 2) (ci := 2) (C := R_Tokens) (T := F_Tokens) (N := 10) B 4 rfl rfl (by decide) i_Tokens t_Tokens_ok n_Tokens (B.2.2.2.1 _ k_98) rfl rfl d_Tokens_cut_2 ?_
  refine mv_aload_n (pc := 5) B d_Tokens_cut_5 rfl 0 rfl ?_
  refine mv_iload_n (pc := 6) B d_Tokens_cut_6 rfl 2 rfl ?_
  refine mv_putI (pc := 7) (ci := 2) (C := R_Tokens) (T := F_Tokens) (N := 10) B 5 rfl rfl (by decide) i_Tokens t_Tokens_ok n_Tokens (B.2.2.2.1 _ k_100) rfl rfl rfl rfl d_Tokens_cut_7 ?_
  refine mv_aload_n (pc := 10) B d_Tokens_cut_10 rfl 0 rfl ?_
  refine mv_iconst (pc := 11) (v := 1) B d_Tokens_cut_11 (by decide) ?_
  refine mv_putI (pc := 12) (ci := 2) (C := R_Tokens) (T := F_Tokens) (N := 10) B 6 rfl rfl (by decide) i_Tokens t_Tokens_ok n_Tokens (B.2.2.2.1 _ k_101) rfl rfl rfl rfl d_Tokens_cut_12 ?_
  refine mv_aload_n (pc := 15) B d_Tokens_cut_15 rfl 0 rfl ?_
  refine mv_iconst (pc := 16) (v := 1) B d_Tokens_cut_16 (by decide) ?_
  refine mv_putI (pc := 17) (ci := 2) (C := R_Tokens) (T := F_Tokens) (N := 10) B 7 rfl rfl (by decide) i_Tokens t_Tokens_ok n_Tokens (B.2.2.2.1 _ k_102) rfl rfl rfl rfl d_Tokens_cut_17 ?_
  refine mv_aload_n (pc := 20) B d_Tokens_cut_20 rfl 0 rfl ?_
  refine mv_iconst (pc := 21) (v := 0) B d_Tokens_cut_21 (by decide) ?_
  refine mv_putI (pc := 22) (ci := 2) (C := R_Tokens) (T := F_Tokens) (N := 10) B 8 rfl rfl (by decide) i_Tokens t_Tokens_ok n_Tokens (B.2.2.2.1 _ k_103) rfl rfl rfl rfl d_Tokens_cut_22 ?_
  refine mv_aload_n (pc := 25) B d_Tokens_cut_25 rfl 0 rfl ?_
  refine mv_iconst (pc := 26) (v := -1) B d_Tokens_cut_26 (by decide) ?_
  refine mv_putI (pc := 27) (ci := 2) (C := R_Tokens) (T := F_Tokens) (N := 10) B 9 rfl rfl (by decide) i_Tokens t_Tokens_ok n_Tokens (B.2.2.2.1 _ k_105) rfl rfl rfl rfl d_Tokens_cut_27 ?_
  have hsh0 : mh (mv_r (mv_si (mv_si (mv_si (mv_si (mv_si (mv_sr σ 3 4 (some t)) 3 5 w) 3 6 1) 3 7 1) 3 8 0) 3 9 (-1))) := mh_sr hsh rfl
  refine mv_aload_n (pc := 30) B d_Tokens_cut_30 rfl 0 rfl ?_
  refine mv_getR (pc := 31) (ci := 2) (C := R_Tokens) (T := F_Tokens) (N := 10) B 3 rfl rfl (by decide) i_Tokens (B.2.2.2.1 _ k_97) rfl (hsh0 _ 3 _ rfl) d_Tokens_cut_31 ?_
  refine mv_callVv (pc := 34) (n := 0) (ci := 3) (C := R_Symbols) B (mK_ok sk sv) hNs rfl rfl (c_Symbols_clear l hi _ hsh0) rfl (ma_goodc kc_Symbols_clear) (B.2.2.2.1 _ k_793) (B.2.2.2.1 _ k_794) (B.2.2.2.1 _ k_795) (B.2.2.2.1 _ k_4) ⟨by decide +kernel, by decide +kernel, by decide +kernel⟩ rfl d_Tokens_cut_34 rfl (Nat.le_of_ble_eq_true rfl) ⟨by decide, by decide⟩ ⟨by decide, by decide⟩ ⟨by decide, by decide⟩ (mv_noH hno _) (fun σ34 h34 => ?_)
  obtain ⟨g34, n0, z0, s34, n34, z34, m34⟩ := h34
  have x34 : tx ext σ34 t tn len := ⟨by rw [g34.2.2.2.2]; exact hsh0, by rw [g34.2.2.2.2]; exact mv_u_same (mv_r σ) 3 4 (some t), hts, by rw [g34.1 3 5 (by omega)]; exact hw, hl1, hl2, ht2⟩
  have a34 : mv_a σ34 t = mv_a σ t := g34.2.1 t (by rcases ht2 with rfl | rfl <;> omega)
  have k34 : Tk σ34 t len 1 n0 := ⟨by rw [g34.1 3 6 (by omega)]; rfl, ⟨Nat.le_refl _, m34⟩, by rw [g34.2.1 4 (by omega)]; exact hk0, by rw [g34.2.2.1 6 (by simp)]; exact hb0, fun i hi9 => by have e : i = 0 := (by omega); subst e; rw [g34.2.1 4 (by omega)]; exact ⟨fun q => absurd (hk0.symm.trans q) (by decide), fun q => absurd (hk0.symm.trans q) (by decide), by rw [g34.2.1 5 (by omega)]; exact hp0⟩⟩
  have f34 : CutG (mv_sr σ 3 4 (some t)) σ34 := (((((Fr.rf.si (Or.inl rfl)).si (Or.inl rfl)).si (Or.inl rfl)).si (Or.inl rfl)).si (Or.inl rfl)).tr (g34.up (fun o k h => Or.inr h) (fun o h => Or.inr (Or.inr h)) (fun o h => h.elim))
  refine mv_iconst (pc := 37) (v := 0) B d_Tokens_cut_37 (by decide) ?_
  refine mv_istore_n (pc := 38) B d_Tokens_cut_38 rfl (by decide) rfl ?_
  refine mv_iconst (pc := 39) (v := 0) B d_Tokens_cut_39 (by decide) ?_
  refine mv_istore (pc := 40) B d_Tokens_cut_40 (by decide) rfl ?_
  refine mv_lpick [0, 1, 2, 3, 4] rfl ?_
  exact lp _ _ _ _ n0 z0 1 (by decide) (by decide) (by decide) s34 k34 x34 a34 f34 ⟨by rw [g34.1 3 7 (by omega)]; rfl, by rw [g34.1 3 8 (by omega)]; rfl, by rw [g34.1 3 9 (by omega)]; rfl⟩ (Or.inr ⟨0, rfl, Nat.zero_le _, by decide, ⟨by omega, fun _ _ => by omega, by omega⟩, by show 2 * (0 + (if mv_a σ34 4 0 = 5 then 1 else 0)) ≤ 0; rw [if_neg (by rw [g34.2.1 4 (by omega)]; show ¬ mv_a σ 4 0 = 5; rw [hk0]; decide)]; exact Nat.le_refl _⟩) (Nat.lt_succ_self _)
