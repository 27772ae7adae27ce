/-! Tokens: cutting -/
def tx (ext : mv_Sh) (σ : mv_H) (t tn len : Nat) : Prop := mh (mv_r σ) ∧ mv_r σ 3 4 = some t ∧ (mb ++ ext)[t]? = some (.inr (.byte, tn)) ∧ (mv_i σ 3 5).toInt = len ∧ len ≤ tn ∧ tn ≤ 32768 ∧ (t = 1 ∨ t = 144)
def tk_code (σ : mv_H) (t len : Nat) (q : Int32) (x : Int64) : Prop := ∃ P Q : Nat, q.toInt = P ∧ x.toInt = Q ∧ P + 1 + Q ≤ len ∧ ∀ j, j < Q → 46 ≤ (mv_a σ t (P + 1 + j)).toInt ∧ (mv_a σ t (P + 1 + j)).toInt ≤ 122
/-- how many quotes stand before n -/
def qc (g : Nat → Int32) : Nat → Nat
  | 0 => 0
  | n + 1 => qc g n + (if g n = 34 then 1 else 0)
theorem qc_mono (g : Nat → Int32) {a b : Nat} (h : a ≤ b) : qc g a ≤ qc g b := by
  induction b with
  | zero => have e : a = 0 := by omega
            subst e; exact Nat.le_refl _
  | succ b ih =>
    by_cases e : a = b + 1
    · subst e; exact Nat.le_refl _
    · have := ih (by omega)
      show qc g a ≤ qc g b + _
      omega
theorem qc_two (g : Nat → Int32) {a b : Nat} (h : a < b) (ha : g a = 34) (hb : g b = 34) : qc g a + 2 ≤ qc g (b + 1) := by
  have h1 : qc g (a + 1) = qc g a + 1 := by show qc g a + _ = _; rw [if_pos ha]
  have h2 : qc g (b + 1) = qc g b + 1 := by show qc g b + _ = _; rw [if_pos hb]
  have h3 := qc_mono g (show a + 1 ≤ b by omega)
  omega
def tk_S (σ : mv_H) (t len : Nat) (f : Int) (v : Int32) (σ1 : mv_H) : Prop := ∃ (k q : Int32) (x : Int64), σ1 = tk_add σ k q x ∧ 0 ≤ q.toInt ∧ ((v = -1 ∧ (k = 1 ∨ k = 2)) ∨ (f < v.toInt ∧ v.toInt ≤ len ∧ ¬ k = 3 ∧ (k = 5 → tk_code σ t len q x ∧ qc (mv_a σ t) f.toNat + 2 ≤ qc (mv_a σ t) v.toNatClampNeg)))
theorem tx.len {ext : mv_Sh} {σ : mv_H} {t tn len : Nat} (h : tx ext σ t tn len) : (mv_i σ 3 5).toInt ≤ tn := by have := h.2.2.2.1; have := h.2.2.2.2.1; omega
def y_Tokens_number : MethodName := ⟨"MachineLoom$Tokens", "number", "(IIJ)I"⟩
abbrev b_Tokens_number : ByteArray := prog_10_method_7_code
theorem kc_Tokens_number : Cond.code y_Tokens_number b_Tokens_number 6 (Option.some Jvm.ClassFile.FieldType.int) ∈ ma := ma_of (tb_4 _ (List.mem_of_getElem? (i := 132) rfl)) rfl
theorem k_827 : (Jvm.Cond.methodLink "MachineLoom$Tokens" (61 : Nat) ({ cls := "MachineLoom$Tokens", name := "characterAt", desc := "(I)I" } : Jvm.MethodName)) ∈ ma := ma_of (tb_4 _ (List.mem_of_getElem? (i := 107) rfl)) rfl
theorem k_829 : (Jvm.Cond.instanceMethod ({ cls := "MachineLoom$Tokens", name := "characterAt", desc := "(I)I" } : Jvm.MethodName)) ∈ ma := ma_of (tb_4 _ (List.mem_of_getElem? (i := 109) rfl)) rfl
theorem ks_21 : Cond.selects "MachineLoom$Tokens" ⟨"MachineLoom$Tokens", "characterAt", "(I)I"⟩ ⟨"MachineLoom$Tokens", "characterAt", "(I)I"⟩ ∈ ma := ma_sel 21 rfl rfl
theorem k_845 : (Jvm.Cond.methodLink "MachineLoom$Tokens" (93 : Nat) ({ cls := "MachineLoom$Tokens", name := "broken", desc := "(I)I" } : Jvm.MethodName)) ∈ ma := ma_of (tb_4 _ (List.mem_of_getElem? (i := 125) rfl)) rfl
theorem k_847 : (Jvm.Cond.instanceMethod ({ cls := "MachineLoom$Tokens", name := "broken", desc := "(I)I" } : Jvm.MethodName)) ∈ ma := ma_of (tb_4 _ (List.mem_of_getElem? (i := 127) rfl)) rfl
theorem ks_24 : Cond.selects "MachineLoom$Tokens" ⟨"MachineLoom$Tokens", "broken", "(I)I"⟩ ⟨"MachineLoom$Tokens", "broken", "(I)I"⟩ ∈ ma := ma_sel 24 rfl rfl
theorem d_Tokens_number_0 : decode b_Tokens_number 0 = .ok (.aload_n 0, 1) := by decide +kernel
theorem d_Tokens_number_1 : decode b_Tokens_number 1 = .ok (.iload_n 2, 1) := by decide +kernel
theorem d_Tokens_number_2 : decode b_Tokens_number 2 = .ok (.invokevirtual 61, 3) := by decide +kernel
theorem d_Tokens_number_5 : decode b_Tokens_number 5 = .ok (.istore 5, 2) := by decide +kernel
theorem d_Tokens_number_7 : decode b_Tokens_number 7 = .ok (.iload 5, 2) := by decide +kernel
theorem d_Tokens_number_9 : decode b_Tokens_number 9 = .ok (.invokestatic 78, 3) := by decide +kernel
theorem d_Tokens_number_12 : decode b_Tokens_number 12 = .ok (.ifCond .ne (10), 3) := by decide +kernel
theorem d_Tokens_number_15 : decode b_Tokens_number 15 = .ok (.iload 5, 2) := by decide +kernel
theorem d_Tokens_number_17 : decode b_Tokens_number 17 = .ok (.bipush 95, 2) := by decide +kernel
theorem d_Tokens_number_19 : decode b_Tokens_number 19 = .ok (.if_icmp .ne (11), 3) := by decide +kernel
theorem d_Tokens_number_22 : decode b_Tokens_number 22 = .ok (.aload_n 0, 1) := by decide +kernel
theorem d_Tokens_number_23 : decode b_Tokens_number 23 = .ok (.iload_n 2, 1) := by decide +kernel
theorem d_Tokens_number_24 : decode b_Tokens_number 24 = .ok (.invokevirtual 93, 3) := by decide +kernel
theorem d_Tokens_number_27 : decode b_Tokens_number 27 = .ok (.goto (11), 3) := by decide +kernel
theorem d_Tokens_number_30 : decode b_Tokens_number 30 = .ok (.aload_n 0, 1) := by decide +kernel
theorem d_Tokens_number_31 : decode b_Tokens_number 31 = .ok (.iconst 4, 1) := by decide +kernel
theorem d_Tokens_number_32 : decode b_Tokens_number 32 = .ok (.iload_n 1, 1) := by decide +kernel
theorem d_Tokens_number_33 : decode b_Tokens_number 33 = .ok (.lload_n 3, 1) := by decide +kernel
theorem d_Tokens_number_34 : decode b_Tokens_number 34 = .ok (.iload_n 2, 1) := by decide +kernel
theorem d_Tokens_number_35 : decode b_Tokens_number 35 = .ok (.invokevirtual 64, 3) := by decide +kernel
theorem d_Tokens_number_38 : decode b_Tokens_number 38 = .ok (.ireturn, 1) := by decide +kernel
set_option maxHeartbeats 4000000 in
set_option maxRecDepth 100000 in
theorem c_Tokens_number (l : Launch) {dA : FieldType → ClassId} {D : va_G} {al : Nat → Nat} {ext : mv_Sh} {sk sv : Nat → Nat} (hi : mv_inj (mg dA D al ext)) (σ : mv_H) (f b : Int32) (x : Int64) (t tn len : Nat) (hx : tx ext σ t tn len) (hsz : vp_in (mv_i σ 3 6) 32770) (gb : 0 ≤ b.toInt) : mv_C l y_Tokens_number (Cond.code y_Tokens_number b_Tokens_number 6 (Option.some Jvm.ClassFile.FieldType.int) :: ma) ({ frames := 2, cells := 0, slots := 0, locals := 46 }) (mg dA D al ext) (mK sk sv) [.ref (al 3), .int f, .int b, .long x] σ (mv_Ri (fun v σ1 => (σ1 = tk_add σ 2 b 0 ∧ v = -1) ∨ (σ1 = tk_add σ 4 f x ∧ v = b))) := by
  refine mv_C.ofV (cc := b_Tokens_number) (nL := 6) (ret := (Option.some Jvm.ClassFile.FieldType.int)) (by decide +kernel) rfl hi (Nat.le_of_ble_eq_true rfl) ?_
  intro p e s m below meth c B hNs hr hnm hno
  obtain ⟨hsh, ht, hts, hlen, hl1, hl2, ht2⟩ := hx
  refine mv_aload_n (pc := 0) B d_Tokens_number_0 rfl 0 rfl ?_
  refine mv_iload_n (pc := 1) B d_Tokens_number_1 rfl 2 rfl ?_
  refine mv_callVi (pc := 2) (n := 1) (ci := 2) (C := R_Tokens) B (mK_ok sk sv) hNs rfl rfl (c_Tokens_characterAt l hi _ _ t tn hsh ht hts (by omega) (by omega)) rfl (ma_goodc kc_Tokens_characterAt) (B.2.2.2.1 _ k_827) (B.2.2.2.1 _ k_829) (B.2.2.2.1 _ ks_21) (B.2.2.2.1 _ k_3) ⟨by decide +kernel, by decide +kernel, by decide +kernel⟩ rfl d_Tokens_number_2 rfl (Nat.le_of_ble_eq_true rfl) ⟨by decide, by decide⟩ ⟨by decide, by decide⟩ ⟨by decide, by decide⟩ (mv_noH hno _) (fun v2 σ2 h2 => ?_)
  obtain ⟨rfl, h2⟩ := h2
  refine mv_istore (pc := 5) B d_Tokens_number_5 (by decide) rfl ?_
  refine mv_iload (pc := 7) B d_Tokens_number_7 0 rfl ?_
  refine mv_callSi (pc := 9) (n := 1) B (mK_ok sk sv) hNs (c_Tokens_isLetter l hi _ _) rfl (ma_goodc kc_Tokens_isLetter) (B.2.2.2.1 _ k_853) (B.2.2.2.1 _ k_854) (B.2.2.2.1 _ k_3) ⟨by decide +kernel, by decide +kernel, by decide +kernel⟩ rfl d_Tokens_number_9 rfl (Nat.le_of_ble_eq_true rfl) ⟨by decide, by decide⟩ ⟨by decide, by decide⟩ ⟨by decide, by decide⟩ (mv_noH hno _) (fun v9 σ9 h9 => ?_)
  obtain ⟨rfl, -⟩ := h9
  refine mv_if_ne (pc := 12) (tgt := 22) B d_Tokens_number_12 rfl (fun h12 => ?_) (fun h12 => ?_)
  · skip
    refine mv_aload_n (pc := 22) B d_Tokens_number_22 rfl 1 rfl ?_
    refine mv_iload_n (pc := 23) B d_Tokens_number_23 rfl 3 rfl ?_
    refine mv_callVi (pc := 24) (n := 1) (ci := 2) (C := R_Tokens) B (mK_ok sk sv) hNs rfl rfl (c_Tokens_broken l hi _ _ hsh hsz) rfl (ma_goodc kc_Tokens_broken) (B.2.2.2.1 _ k_845) (B.2.2.2.1 _ k_847) (B.2.2.2.1 _ ks_24) (B.2.2.2.1 _ k_3) ⟨by decide +kernel, by decide +kernel, by decide +kernel⟩ rfl d_Tokens_number_24 rfl (Nat.le_of_ble_eq_true rfl) ⟨by decide, by decide⟩ ⟨by decide, by decide⟩ ⟨by decide, by decide⟩ (mv_noH hno _) (fun v24 σ24 h24 => ?_)
    refine mv_goto (pc := 27) (tgt := 38) B d_Tokens_number_27 rfl ?_
    exact mv_iret (pc := 38) B hr rfl d_Tokens_number_38 (Nat.le_refl _) (Nat.le_refl _) ⟨_, rfl, by first | exact Or.inl h24 | exact Or.inr h35⟩
  · skip
    refine mv_iload (pc := 15) B d_Tokens_number_15 0 rfl ?_
    refine mv_bipush (pc := 17) (v := 95) B d_Tokens_number_17 (by decide) ?_
    refine mv_icmp_ne (pc := 19) (tgt := 30) B d_Tokens_number_19 rfl (fun h19 => ?_) (fun h19 => ?_)
    · skip
      refine mv_aload_n (pc := 30) B d_Tokens_number_30 rfl 1 rfl ?_
      refine mv_iconst (pc := 31) (v := 4) B d_Tokens_number_31 (by decide) ?_
      refine mv_iload_n (pc := 32) B d_Tokens_number_32 rfl 2 rfl ?_
      refine mv_lload_n (pc := 33) B d_Tokens_number_33 rfl 4 rfl ?_
      refine mv_iload_n (pc := 34) B d_Tokens_number_34 rfl 3 rfl ?_
      refine mv_callVi (pc := 35) (n := 4) (ci := 2) (C := R_Tokens) B (mK_ok sk sv) hNs rfl rfl (c_Tokens_add l hi _ _ _ _ _ hsh hsz) rfl (ma_goodc kc_Tokens_add) (B.2.2.2.1 _ k_831) (B.2.2.2.1 _ k_833) (B.2.2.2.1 _ ks_22) (B.2.2.2.1 _ k_3) ⟨by decide +kernel, by decide +kernel, by decide +kernel⟩ rfl d_Tokens_number_35 rfl (Nat.le_of_ble_eq_true rfl) ⟨by decide, by decide⟩ ⟨by decide, by decide⟩ ⟨by decide, by decide⟩ (mv_noH hno _) (fun v35 σ35 h35 => ?_)
      exact mv_iret (pc := 38) B hr rfl d_Tokens_number_38 (Nat.le_refl _) (Nat.le_refl _) ⟨_, rfl, by first | exact Or.inl h24 | exact Or.inr h35⟩
    · skip
      refine mv_aload_n (pc := 22) B d_Tokens_number_22 rfl 1 rfl ?_
      refine mv_iload_n (pc := 23) B d_Tokens_number_23 rfl 3 rfl ?_
      refine mv_callVi (pc := 24) (n := 1) (ci := 2) (C := R_Tokens) B (mK_ok sk sv) hNs rfl rfl (c_Tokens_broken l hi _ _ hsh hsz) rfl (ma_goodc kc_Tokens_broken) (B.2.2.2.1 _ k_845) (B.2.2.2.1 _ k_847) (B.2.2.2.1 _ ks_24) (B.2.2.2.1 _ k_3) ⟨by decide +kernel, by decide +kernel, by decide +kernel⟩ rfl d_Tokens_number_24 rfl (Nat.le_of_ble_eq_true rfl) ⟨by decide, by decide⟩ ⟨by decide, by decide⟩ ⟨by decide, by decide⟩ (mv_noH hno _) (fun v24 σ24 h24 => ?_)
      refine mv_goto (pc := 27) (tgt := 38) B d_Tokens_number_27 rfl ?_
      exact mv_iret (pc := 38) B hr rfl d_Tokens_number_38 (Nat.le_refl _) (Nat.le_refl _) ⟨_, rfl, by first | exact Or.inl h24 | exact Or.inr h35⟩
def y_Tokens_behindSpaces : MethodName := ⟨"MachineLoom$Tokens", "behindSpaces", "(I)I"⟩
abbrev b_Tokens_behindSpaces : ByteArray := prog_10_method_3_code
theorem kc_Tokens_behindSpaces : Cond.code y_Tokens_behindSpaces b_Tokens_behindSpaces 5 (Option.some Jvm.ClassFile.FieldType.int) ∈ ma := ma_of (tb_4 _ (List.mem_of_getElem? (i := 102) rfl)) rfl
theorem d_Tokens_behindSpaces_0 : decode b_Tokens_behindSpaces 0 = .ok (.iconst 0, 1) := by decide +kernel
theorem d_Tokens_behindSpaces_1 : decode b_Tokens_behindSpaces 1 = .ok (.istore_n 2, 1) := by decide +kernel
theorem d_Tokens_behindSpaces_2 : decode b_Tokens_behindSpaces 2 = .ok (.iload_n 1, 1) := by decide +kernel
theorem d_Tokens_behindSpaces_3 : decode b_Tokens_behindSpaces 3 = .ok (.istore_n 3, 1) := by decide +kernel
theorem d_Tokens_behindSpaces_4 : decode b_Tokens_behindSpaces 4 = .ok (.iload_n 3, 1) := by decide +kernel
theorem d_Tokens_behindSpaces_5 : decode b_Tokens_behindSpaces 5 = .ok (.aload_n 0, 1) := by decide +kernel
theorem d_Tokens_behindSpaces_6 : decode b_Tokens_behindSpaces 6 = .ok (.getfield 34, 3) := by decide +kernel
theorem d_Tokens_behindSpaces_9 : decode b_Tokens_behindSpaces 9 = .ok (.if_icmp .ge (68), 3) := by decide +kernel
theorem d_Tokens_behindSpaces_12 : decode b_Tokens_behindSpaces 12 = .ok (.aload_n 0, 1) := by decide +kernel
theorem d_Tokens_behindSpaces_13 : decode b_Tokens_behindSpaces 13 = .ok (.getfield 30, 3) := by decide +kernel
theorem d_Tokens_behindSpaces_16 : decode b_Tokens_behindSpaces 16 = .ok (.iload_n 3, 1) := by decide +kernel
theorem d_Tokens_behindSpaces_17 : decode b_Tokens_behindSpaces 17 = .ok (.baload, 1) := by decide +kernel
theorem d_Tokens_behindSpaces_18 : decode b_Tokens_behindSpaces 18 = .ok (.istore 4, 2) := by decide +kernel
theorem d_Tokens_behindSpaces_20 : decode b_Tokens_behindSpaces 20 = .ok (.iload 4, 2) := by decide +kernel
theorem d_Tokens_behindSpaces_22 : decode b_Tokens_behindSpaces 22 = .ok (.bipush 35, 2) := by decide +kernel
theorem d_Tokens_behindSpaces_24 : decode b_Tokens_behindSpaces 24 = .ok (.if_icmp .ne (8), 3) := by decide +kernel
theorem d_Tokens_behindSpaces_27 : decode b_Tokens_behindSpaces 27 = .ok (.iconst 1, 1) := by decide +kernel
theorem d_Tokens_behindSpaces_28 : decode b_Tokens_behindSpaces 28 = .ok (.istore_n 2, 1) := by decide +kernel
theorem d_Tokens_behindSpaces_29 : decode b_Tokens_behindSpaces 29 = .ok (.goto (42), 3) := by decide +kernel
theorem d_Tokens_behindSpaces_32 : decode b_Tokens_behindSpaces 32 = .ok (.iload 4, 2) := by decide +kernel
theorem d_Tokens_behindSpaces_34 : decode b_Tokens_behindSpaces 34 = .ok (.bipush 10, 2) := by decide +kernel
theorem d_Tokens_behindSpaces_36 : decode b_Tokens_behindSpaces 36 = .ok (.if_icmp .ne (8), 3) := by decide +kernel
theorem d_Tokens_behindSpaces_39 : decode b_Tokens_behindSpaces 39 = .ok (.iconst 0, 1) := by decide +kernel
theorem d_Tokens_behindSpaces_40 : decode b_Tokens_behindSpaces 40 = .ok (.istore_n 2, 1) := by decide +kernel
theorem d_Tokens_behindSpaces_41 : decode b_Tokens_behindSpaces 41 = .ok (.goto (30), 3) := by decide +kernel
theorem d_Tokens_behindSpaces_44 : decode b_Tokens_behindSpaces 44 = .ok (.iload_n 2, 1) := by decide +kernel
theorem d_Tokens_behindSpaces_45 : decode b_Tokens_behindSpaces 45 = .ok (.ifCond .ne (26), 3) := by decide +kernel
theorem d_Tokens_behindSpaces_48 : decode b_Tokens_behindSpaces 48 = .ok (.iload 4, 2) := by decide +kernel
theorem d_Tokens_behindSpaces_50 : decode b_Tokens_behindSpaces 50 = .ok (.bipush 32, 2) := by decide +kernel
theorem d_Tokens_behindSpaces_52 : decode b_Tokens_behindSpaces 52 = .ok (.if_icmp .eq (19), 3) := by decide +kernel
theorem d_Tokens_behindSpaces_55 : decode b_Tokens_behindSpaces 55 = .ok (.iload 4, 2) := by decide +kernel
theorem d_Tokens_behindSpaces_57 : decode b_Tokens_behindSpaces 57 = .ok (.bipush 9, 2) := by decide +kernel
theorem d_Tokens_behindSpaces_59 : decode b_Tokens_behindSpaces 59 = .ok (.if_icmp .eq (12), 3) := by decide +kernel
theorem d_Tokens_behindSpaces_62 : decode b_Tokens_behindSpaces 62 = .ok (.iload 4, 2) := by decide +kernel
theorem d_Tokens_behindSpaces_64 : decode b_Tokens_behindSpaces 64 = .ok (.bipush 13, 2) := by decide +kernel
theorem d_Tokens_behindSpaces_66 : decode b_Tokens_behindSpaces 66 = .ok (.if_icmp .eq (5), 3) := by decide +kernel
theorem d_Tokens_behindSpaces_69 : decode b_Tokens_behindSpaces 69 = .ok (.iload_n 3, 1) := by decide +kernel
theorem d_Tokens_behindSpaces_70 : decode b_Tokens_behindSpaces 70 = .ok (.ireturn, 1) := by decide +kernel
theorem d_Tokens_behindSpaces_71 : decode b_Tokens_behindSpaces 71 = .ok (.iinc 3 (1), 3) := by decide +kernel
theorem d_Tokens_behindSpaces_74 : decode b_Tokens_behindSpaces 74 = .ok (.goto (-70), 3) := by decide +kernel
theorem d_Tokens_behindSpaces_77 : decode b_Tokens_behindSpaces 77 = .ok (.aload_n 0, 1) := by decide +kernel
theorem d_Tokens_behindSpaces_78 : decode b_Tokens_behindSpaces 78 = .ok (.getfield 34, 3) := by decide +kernel
theorem d_Tokens_behindSpaces_81 : decode b_Tokens_behindSpaces 81 = .ok (.ireturn, 1) := by decide +kernel
set_option maxHeartbeats 4000000 in
set_option maxRecDepth 100000 in
theorem c_Tokens_behindSpaces (l : Launch) {dA : FieldType → ClassId} {D : va_G} {al : Nat → Nat} {ext : mv_Sh} {sk sv : Nat → Nat} (hi : mv_inj (mg dA D al ext)) (σ : mv_H) (f : Int32) (t tn len : Nat) (hx : tx ext σ t tn len) (g0 : 0 ≤ f.toInt) (g1 : f.toInt ≤ len) : mv_C l y_Tokens_behindSpaces (Cond.code y_Tokens_behindSpaces b_Tokens_behindSpaces 5 (Option.some Jvm.ClassFile.FieldType.int) :: ma) ({ frames := 0, cells := 0, slots := 0, locals := 0 }) (mg dA D al ext) (mK sk sv) [.ref (al 3), .int f] σ (mv_Ri (fun v σ1 => σ1 = σ ∧ f.toInt ≤ v.toInt ∧ v.toInt ≤ len)) := by
  refine mv_C.ofV (cc := b_Tokens_behindSpaces) (nL := 5) (ret := (Option.some Jvm.ClassFile.FieldType.int)) (by decide +kernel) rfl hi (Nat.le_of_ble_eq_true rfl) ?_
  intro p e s m below meth c B hNs hr hnm hno
  obtain ⟨hsh, ht, hts, hlen, hl1, hl2, ht2⟩ := hx
  have lp : ∀ (nn : Nat) (j : Int32) (b : Int32) (q0 : f.toInt ≤ j.toInt) (q1 : j.toInt ≤ len), (len - j.toInt).toNat < nn → mv_V p l e ({ frames := 0, cells := 0, slots := 0, locals := 0 }) s m ([.ref (al 3), .int f] : List Value).toArray below meth c (mg dA D al ext) 5 0 0 (mv_Q (mg dA D al ext) below s 0 0 (mv_Ri (fun v σ1 => σ1 = σ ∧ f.toInt ≤ v.toInt ∧ v.toInt ≤ len))) σ 4 [(3, .int j), (2, .int b), (0, .ref (al 3)), (1, .int f)] [] := by
    intro nn
    induction nn with
    | zero => intro j b q0 q1 hm; exact absurd hm (Nat.not_lt_zero _)
    | succ nn ih =>
      intro j b q0 q1 hm
      refine mv_iload_n (pc := 4) B d_Tokens_behindSpaces_4 rfl 0 rfl ?_
      refine mv_aload_n (pc := 5) B d_Tokens_behindSpaces_5 rfl 2 rfl ?_
      refine mv_getI (pc := 6) (ci := 2) (C := R_Tokens) (T := F_Tokens) (N := 10) B 5 rfl rfl (by decide) i_Tokens (B.2.2.2.1 _ k_100) rfl d_Tokens_behindSpaces_6 ?_
      refine mv_icmp_ge (pc := 9) (tgt := 77) B d_Tokens_behindSpaces_9 rfl (fun h9 => ?_) (fun h9 => ?_)
      · skip
        refine mv_aload_n (pc := 77) B d_Tokens_behindSpaces_77 rfl 2 rfl ?_
        refine mv_getI (pc := 78) (ci := 2) (C := R_Tokens) (T := F_Tokens) (N := 10) B 5 rfl rfl (by decide) i_Tokens (B.2.2.2.1 _ k_100) rfl d_Tokens_behindSpaces_78 ?_
        exact mv_iret (pc := 81) B hr rfl d_Tokens_behindSpaces_81 (Nat.le_refl _) (Nat.le_refl _) ⟨_, rfl, rfl, by omega, by omega⟩
      · skip
        rw [Int32.le_iff_toInt_le] at h9
        refine mv_aload_n (pc := 12) B d_Tokens_behindSpaces_12 rfl 2 rfl ?_
        refine mv_getR (pc := 13) (ci := 2) (C := R_Tokens) (T := F_Tokens) (N := 10) B 4 rfl rfl (by decide) i_Tokens (B.2.2.2.1 _ k_98) rfl ht d_Tokens_behindSpaces_13 ?_
        refine mv_iload_n (pc := 16) B d_Tokens_behindSpaces_16 rfl 0 rfl ?_
        refine mv_bald (pc := 17) B hts (i32_in (by omega) (by omega)) d_Tokens_behindSpaces_17 ?_
        refine mv_istore (pc := 18) B d_Tokens_behindSpaces_18 (by decide) rfl ?_
        refine mv_iload (pc := 20) B d_Tokens_behindSpaces_20 0 rfl ?_
        refine mv_bipush (pc := 22) (v := 35) B d_Tokens_behindSpaces_22 (by decide) ?_
        refine mv_icmp_ne (pc := 24) (tgt := 32) B d_Tokens_behindSpaces_24 rfl (fun h24 => ?_) (fun h24 => ?_)
        · skip
          refine mv_iload (pc := 32) B d_Tokens_behindSpaces_32 0 rfl ?_
          refine mv_bipush (pc := 34) (v := 10) B d_Tokens_behindSpaces_34 (by decide) ?_
          refine mv_icmp_ne (pc := 36) (tgt := 44) B d_Tokens_behindSpaces_36 rfl (fun h36 => ?_) (fun h36 => ?_)
          · skip
            refine mv_iload_n (pc := 44) B d_Tokens_behindSpaces_44 rfl 2 rfl ?_
            refine mv_if_ne (pc := 45) (tgt := 71) B d_Tokens_behindSpaces_45 rfl (fun h45 => ?_) (fun h45 => ?_)
            · skip
              refine mv_iinc (pc := 71) (j := 1) (v := 1) B d_Tokens_behindSpaces_71 rfl (by decide) (by decide) rfl ?_
              refine mv_goto (pc := 74) (tgt := 4) B d_Tokens_behindSpaces_74 rfl ?_
              refine mv_lpick [0, 2, 3, 4] rfl ?_
              exact ih _ _ (by rw [i32_inc (by omega)]; omega) (by rw [i32_inc (by omega)]; omega) (by rw [i32_inc (by omega)]; omega)
            · skip
              refine mv_iload (pc := 48) B d_Tokens_behindSpaces_48 0 rfl ?_
              refine mv_bipush (pc := 50) (v := 32) B d_Tokens_behindSpaces_50 (by decide) ?_
              refine mv_icmp_eq (pc := 52) (tgt := 71) B d_Tokens_behindSpaces_52 rfl (fun h52 => ?_) (fun h52 => ?_)
              · skip
                refine mv_iinc (pc := 71) (j := 1) (v := 1) B d_Tokens_behindSpaces_71 rfl (by decide) (by decide) rfl ?_
                refine mv_goto (pc := 74) (tgt := 4) B d_Tokens_behindSpaces_74 rfl ?_
                refine mv_lpick [0, 2, 3, 4] rfl ?_
                exact ih _ _ (by rw [i32_inc (by omega)]; omega) (by rw [i32_inc (by omega)]; omega) (by rw [i32_inc (by omega)]; omega)
              · skip
                refine mv_iload (pc := 55) B d_Tokens_behindSpaces_55 0 rfl ?_
                refine mv_bipush (pc := 57) (v := 9) B d_Tokens_behindSpaces_57 (by decide) ?_
                refine mv_icmp_eq (pc := 59) (tgt := 71) B d_Tokens_behindSpaces_59 rfl (fun h59 => ?_) (fun h59 => ?_)
                · skip
                  refine mv_iinc (pc := 71) (j := 1) (v := 1) B d_Tokens_behindSpaces_71 rfl (by decide) (by decide) rfl ?_
                  refine mv_goto (pc := 74) (tgt := 4) B d_Tokens_behindSpaces_74 rfl ?_
                  refine mv_lpick [0, 2, 3, 4] rfl ?_
                  exact ih _ _ (by rw [i32_inc (by omega)]; omega) (by rw [i32_inc (by omega)]; omega) (by rw [i32_inc (by omega)]; omega)
                · skip
                  refine mv_iload (pc := 62) B d_Tokens_behindSpaces_62 0 rfl ?_
                  refine mv_bipush (pc := 64) (v := 13) B d_Tokens_behindSpaces_64 (by decide) ?_
                  refine mv_icmp_eq (pc := 66) (tgt := 71) B d_Tokens_behindSpaces_66 rfl (fun h66 => ?_) (fun h66 => ?_)
                  · skip
                    refine mv_iinc (pc := 71) (j := 1) (v := 1) B d_Tokens_behindSpaces_71 rfl (by decide) (by decide) rfl ?_
                    refine mv_goto (pc := 74) (tgt := 4) B d_Tokens_behindSpaces_74 rfl ?_
                    refine mv_lpick [0, 2, 3, 4] rfl ?_
                    exact ih _ _ (by rw [i32_inc (by omega)]; omega) (by rw [i32_inc (by omega)]; omega) (by rw [i32_inc (by omega)]; omega)
                  · skip
                    refine mv_iload_n (pc := 69) B d_Tokens_behindSpaces_69 rfl 1 rfl ?_
                    exact mv_iret (pc := 70) B hr rfl d_Tokens_behindSpaces_70 (Nat.le_refl _) (Nat.le_refl _) ⟨_, rfl, rfl, by omega, by omega⟩
          · skip
            refine mv_iconst (pc := 39) (v := 0) B d_Tokens_behindSpaces_39 (by decide) ?_
            refine mv_istore_n (pc := 40) B d_Tokens_behindSpaces_40 rfl (by decide) rfl ?_
            refine mv_goto (pc := 41) (tgt := 71) B d_Tokens_behindSpaces_41 rfl ?_
            refine mv_iinc (pc := 71) (j := 2) (v := 1) B d_Tokens_behindSpaces_71 rfl (by decide) (by decide) rfl ?_
            refine mv_goto (pc := 74) (tgt := 4) B d_Tokens_behindSpaces_74 rfl ?_
            refine mv_lpick [0, 1, 3, 4] rfl ?_
            exact ih _ _ (by rw [i32_inc (by omega)]; omega) (by rw [i32_inc (by omega)]; omega) (by rw [i32_inc (by omega)]; omega)
        · skip
          refine mv_iconst (pc := 27) (v := 1) B d_Tokens_behindSpaces_27 (by decide) ?_
          refine mv_istore_n (pc := 28) B d_Tokens_behindSpaces_28 rfl (by decide) rfl ?_
          refine mv_goto (pc := 29) (tgt := 71) B d_Tokens_behindSpaces_29 rfl ?_
          refine mv_iinc (pc := 71) (j := 2) (v := 1) B d_Tokens_behindSpaces_71 rfl (by decide) (by decide) rfl ?_
          refine mv_goto (pc := 74) (tgt := 4) B d_Tokens_behindSpaces_74 rfl ?_
          refine mv_lpick [0, 1, 3, 4] rfl ?_
          exact ih _ _ (by rw [i32_inc (by omega)]; omega) (by rw [i32_inc (by omega)]; omega) (by rw [i32_inc (by omega)]; omega)
  refine mv_iconst (pc := 0) (v := 0) B d_Tokens_behindSpaces_0 (by decide) ?_
  refine mv_istore_n (pc := 1) B d_Tokens_behindSpaces_1 rfl (by decide) rfl ?_
  refine mv_iload_n (pc := 2) B d_Tokens_behindSpaces_2 rfl 2 rfl ?_
  refine mv_istore_n (pc := 3) B d_Tokens_behindSpaces_3 rfl (by decide) rfl ?_
  refine mv_lpick [0, 1, 2, 3] rfl ?_
  exact lp _ _ _ (Int.le_refl _) g1 (Nat.lt_succ_self _)
def y_Tokens_cutDecimal : MethodName := ⟨"MachineLoom$Tokens", "cutDecimal", "(I)I"⟩
abbrev b_Tokens_cutDecimal : ByteArray := prog_10_method_5_code
theorem kc_Tokens_cutDecimal : Cond.code y_Tokens_cutDecimal b_Tokens_cutDecimal 7 (Option.some Jvm.ClassFile.FieldType.int) ∈ ma := ma_of (tb_4 _ (List.mem_of_getElem? (i := 139) rfl)) rfl
theorem k_849 : (Jvm.Cond.methodLink "MachineLoom$Tokens" (98 : Nat) ({ cls := "MachineLoom$Tokens", name := "number", desc := "(IIJ)I" } : Jvm.MethodName)) ∈ ma := ma_of (tb_4 _ (List.mem_of_getElem? (i := 129) rfl)) rfl
theorem k_851 : (Jvm.Cond.instanceMethod ({ cls := "MachineLoom$Tokens", name := "number", desc := "(IIJ)I" } : Jvm.MethodName)) ∈ ma := ma_of (tb_4 _ (List.mem_of_getElem? (i := 131) rfl)) rfl
theorem ks_25 : Cond.selects "MachineLoom$Tokens" ⟨"MachineLoom$Tokens", "number", "(IIJ)I"⟩ ⟨"MachineLoom$Tokens", "number", "(IIJ)I"⟩ ∈ ma := ma_sel 25 rfl rfl
theorem k_860 : (Jvm.Cond.constantLong "MachineLoom$Tokens" (91 : Nat) (1844674407370955161 : Int64)) ∈ ma := ma_of (tb_4 _ (List.mem_of_getElem? (i := 140) rfl)) rfl
theorem k_861 : (Jvm.Cond.constantLong "MachineLoom$Tokens" (96 : Nat) (10 : Int64)) ∈ ma := ma_of (tb_4 _ (List.mem_of_getElem? (i := 141) rfl)) rfl
theorem d_Tokens_cutDecimal_0 : decode b_Tokens_cutDecimal 0 = .ok (.lconst 0, 1) := by decide +kernel
theorem d_Tokens_cutDecimal_1 : decode b_Tokens_cutDecimal 1 = .ok (.lstore_n 2, 1) := by decide +kernel
theorem d_Tokens_cutDecimal_2 : decode b_Tokens_cutDecimal 2 = .ok (.iload_n 1, 1) := by decide +kernel
theorem d_Tokens_cutDecimal_3 : decode b_Tokens_cutDecimal 3 = .ok (.istore 4, 2) := by decide +kernel
theorem d_Tokens_cutDecimal_5 : decode b_Tokens_cutDecimal 5 = .ok (.iload 4, 2) := by decide +kernel
theorem d_Tokens_cutDecimal_7 : decode b_Tokens_cutDecimal 7 = .ok (.aload_n 0, 1) := by decide +kernel
theorem d_Tokens_cutDecimal_8 : decode b_Tokens_cutDecimal 8 = .ok (.getfield 34, 3) := by decide +kernel
theorem d_Tokens_cutDecimal_11 : decode b_Tokens_cutDecimal 11 = .ok (.if_icmp .ge (91), 3) := by decide +kernel
theorem d_Tokens_cutDecimal_14 : decode b_Tokens_cutDecimal 14 = .ok (.aload_n 0, 1) := by decide +kernel
theorem d_Tokens_cutDecimal_15 : decode b_Tokens_cutDecimal 15 = .ok (.getfield 30, 3) := by decide +kernel
theorem d_Tokens_cutDecimal_18 : decode b_Tokens_cutDecimal 18 = .ok (.iload 4, 2) := by decide +kernel
theorem d_Tokens_cutDecimal_20 : decode b_Tokens_cutDecimal 20 = .ok (.baload, 1) := by decide +kernel
theorem d_Tokens_cutDecimal_21 : decode b_Tokens_cutDecimal 21 = .ok (.invokestatic 68, 3) := by decide +kernel
theorem d_Tokens_cutDecimal_24 : decode b_Tokens_cutDecimal 24 = .ok (.ifCond .eq (78), 3) := by decide +kernel
theorem d_Tokens_cutDecimal_27 : decode b_Tokens_cutDecimal 27 = .ok (.aload_n 0, 1) := by decide +kernel
theorem d_Tokens_cutDecimal_28 : decode b_Tokens_cutDecimal 28 = .ok (.getfield 30, 3) := by decide +kernel
theorem d_Tokens_cutDecimal_31 : decode b_Tokens_cutDecimal 31 = .ok (.iload 4, 2) := by decide +kernel
theorem d_Tokens_cutDecimal_33 : decode b_Tokens_cutDecimal 33 = .ok (.baload, 1) := by decide +kernel
theorem d_Tokens_cutDecimal_34 : decode b_Tokens_cutDecimal 34 = .ok (.bipush 48, 2) := by decide +kernel
theorem d_Tokens_cutDecimal_36 : decode b_Tokens_cutDecimal 36 = .ok (.isub, 1) := by decide +kernel
theorem d_Tokens_cutDecimal_37 : decode b_Tokens_cutDecimal 37 = .ok (.istore 5, 2) := by decide +kernel
theorem d_Tokens_cutDecimal_39 : decode b_Tokens_cutDecimal 39 = .ok (.lload_n 2, 1) := by decide +kernel
theorem d_Tokens_cutDecimal_40 : decode b_Tokens_cutDecimal 40 = .ok (.lconst 0, 1) := by decide +kernel
theorem d_Tokens_cutDecimal_41 : decode b_Tokens_cutDecimal 41 = .ok (.lcmp, 1) := by decide +kernel
theorem d_Tokens_cutDecimal_42 : decode b_Tokens_cutDecimal 42 = .ok (.ifCond .lt (11), 3) := by decide +kernel
theorem d_Tokens_cutDecimal_45 : decode b_Tokens_cutDecimal 45 = .ok (.lload_n 2, 1) := by decide +kernel
theorem d_Tokens_cutDecimal_46 : decode b_Tokens_cutDecimal 46 = .ok (.ldc2_w 91, 3) := by decide +kernel
theorem d_Tokens_cutDecimal_49 : decode b_Tokens_cutDecimal 49 = .ok (.lcmp, 1) := by decide +kernel
theorem d_Tokens_cutDecimal_50 : decode b_Tokens_cutDecimal 50 = .ok (.ifCond .le (7), 3) := by decide +kernel
theorem d_Tokens_cutDecimal_53 : decode b_Tokens_cutDecimal 53 = .ok (.iconst 1, 1) := by decide +kernel
theorem d_Tokens_cutDecimal_54 : decode b_Tokens_cutDecimal 54 = .ok (.goto (4), 3) := by decide +kernel
theorem d_Tokens_cutDecimal_57 : decode b_Tokens_cutDecimal 57 = .ok (.iconst 0, 1) := by decide +kernel
theorem d_Tokens_cutDecimal_58 : decode b_Tokens_cutDecimal 58 = .ok (.istore 6, 2) := by decide +kernel
theorem d_Tokens_cutDecimal_60 : decode b_Tokens_cutDecimal 60 = .ok (.iload 6, 2) := by decide +kernel
theorem d_Tokens_cutDecimal_62 : decode b_Tokens_cutDecimal 62 = .ok (.ifCond .ne (17), 3) := by decide +kernel
theorem d_Tokens_cutDecimal_65 : decode b_Tokens_cutDecimal 65 = .ok (.lload_n 2, 1) := by decide +kernel
theorem d_Tokens_cutDecimal_66 : decode b_Tokens_cutDecimal 66 = .ok (.ldc2_w 91, 3) := by decide +kernel
theorem d_Tokens_cutDecimal_69 : decode b_Tokens_cutDecimal 69 = .ok (.lcmp, 1) := by decide +kernel
theorem d_Tokens_cutDecimal_70 : decode b_Tokens_cutDecimal 70 = .ok (.ifCond .ne (16), 3) := by decide +kernel
theorem d_Tokens_cutDecimal_73 : decode b_Tokens_cutDecimal 73 = .ok (.iload 5, 2) := by decide +kernel
theorem d_Tokens_cutDecimal_75 : decode b_Tokens_cutDecimal 75 = .ok (.iconst 5, 1) := by decide +kernel
theorem d_Tokens_cutDecimal_76 : decode b_Tokens_cutDecimal 76 = .ok (.if_icmp .le (10), 3) := by decide +kernel
theorem d_Tokens_cutDecimal_79 : decode b_Tokens_cutDecimal 79 = .ok (.aload_n 0, 1) := by decide +kernel
theorem d_Tokens_cutDecimal_80 : decode b_Tokens_cutDecimal 80 = .ok (.iload 4, 2) := by decide +kernel
theorem d_Tokens_cutDecimal_82 : decode b_Tokens_cutDecimal 82 = .ok (.invokevirtual 93, 3) := by decide +kernel
theorem d_Tokens_cutDecimal_85 : decode b_Tokens_cutDecimal 85 = .ok (.ireturn, 1) := by decide +kernel
theorem d_Tokens_cutDecimal_86 : decode b_Tokens_cutDecimal 86 = .ok (.lload_n 2, 1) := by decide +kernel
theorem d_Tokens_cutDecimal_87 : decode b_Tokens_cutDecimal 87 = .ok (.ldc2_w 96, 3) := by decide +kernel
theorem d_Tokens_cutDecimal_90 : decode b_Tokens_cutDecimal 90 = .ok (.lmul, 1) := by decide +kernel
theorem d_Tokens_cutDecimal_91 : decode b_Tokens_cutDecimal 91 = .ok (.iload 5, 2) := by decide +kernel
theorem d_Tokens_cutDecimal_93 : decode b_Tokens_cutDecimal 93 = .ok (.i2l, 1) := by decide +kernel
theorem d_Tokens_cutDecimal_94 : decode b_Tokens_cutDecimal 94 = .ok (.ladd, 1) := by decide +kernel
theorem d_Tokens_cutDecimal_95 : decode b_Tokens_cutDecimal 95 = .ok (.lstore_n 2, 1) := by decide +kernel
theorem d_Tokens_cutDecimal_96 : decode b_Tokens_cutDecimal 96 = .ok (.iinc 4 (1), 3) := by decide +kernel
theorem d_Tokens_cutDecimal_99 : decode b_Tokens_cutDecimal 99 = .ok (.goto (-94), 3) := by decide +kernel
theorem d_Tokens_cutDecimal_102 : decode b_Tokens_cutDecimal 102 = .ok (.aload_n 0, 1) := by decide +kernel
theorem d_Tokens_cutDecimal_103 : decode b_Tokens_cutDecimal 103 = .ok (.iload_n 1, 1) := by decide +kernel
theorem d_Tokens_cutDecimal_104 : decode b_Tokens_cutDecimal 104 = .ok (.iload 4, 2) := by decide +kernel
theorem d_Tokens_cutDecimal_106 : decode b_Tokens_cutDecimal 106 = .ok (.lload_n 2, 1) := by decide +kernel
theorem d_Tokens_cutDecimal_107 : decode b_Tokens_cutDecimal 107 = .ok (.invokevirtual 98, 3) := by decide +kernel
theorem d_Tokens_cutDecimal_110 : decode b_Tokens_cutDecimal 110 = .ok (.ireturn, 1) := by decide +kernel
set_option maxHeartbeats 4000000 in
set_option maxRecDepth 100000 in
theorem c_Tokens_cutDecimal (l : Launch) {dA : FieldType → ClassId} {D : va_G} {al : Nat → Nat} {ext : mv_Sh} {sk sv : Nat → Nat} (hi : mv_inj (mg dA D al ext)) (σ : mv_H) (f : Int32) (t tn len : Nat) (hx : tx ext σ t tn len) (hsz : vp_in (mv_i σ 3 6) 32770) (g0 : 0 ≤ f.toInt) (g1 : f.toInt < len) (gd : ch_digit (mv_a σ t f.toNatClampNeg).toInt) : mv_C l y_Tokens_cutDecimal (Cond.code y_Tokens_cutDecimal b_Tokens_cutDecimal 7 (Option.some Jvm.ClassFile.FieldType.int) :: ma) ({ frames := 3, cells := 0, slots := 0, locals := 71 }) (mg dA D al ext) (mK sk sv) [.ref (al 3), .int f] σ (mv_Ri (fun v σ1 => tk_S σ t len f.toInt v σ1)) := by
  refine mv_C.ofV (cc := b_Tokens_cutDecimal) (nL := 7) (ret := (Option.some Jvm.ClassFile.FieldType.int)) (by decide +kernel) rfl hi (Nat.le_of_ble_eq_true rfl) ?_
  intro p e s m below meth c B hNs hr hnm hno
  obtain ⟨hsh, ht, hts, hlen, hl1, hl2, ht2⟩ := hx
  have lp : ∀ (nn : Nat) (j : Int32) (x : Int64) (q0 : f.toInt ≤ j.toInt) (q1 : j.toInt ≤ len), (len - j.toInt).toNat < nn → mv_V p l e ({ frames := 3, cells := 0, slots := 0, locals := 71 }) s m ([.ref (al 3), .int f] : List Value).toArray below meth c (mg dA D al ext) 7 0 0 (mv_Q (mg dA D al ext) below s 0 0 (mv_Ri (fun v σ1 => tk_S σ t len f.toInt v σ1))) σ 5 [(4, .int j), (2, .long x), (0, .ref (al 3)), (1, .int f)] [] := by
    intro nn
    induction nn with
    | zero => intro j x q0 q1 hm; exact absurd hm (Nat.not_lt_zero _)
    | succ nn ih =>
      intro j x q0 q1 hm
      refine mv_iload (pc := 5) B d_Tokens_cutDecimal_5 0 rfl ?_
      refine mv_aload_n (pc := 7) B d_Tokens_cutDecimal_7 rfl 2 rfl ?_
      refine mv_getI (pc := 8) (ci := 2) (C := R_Tokens) (T := F_Tokens) (N := 10) B 5 rfl rfl (by decide) i_Tokens (B.2.2.2.1 _ k_100) rfl d_Tokens_cutDecimal_8 ?_
      refine mv_icmp_ge (pc := 11) (tgt := 102) B d_Tokens_cutDecimal_11 rfl (fun h11 => ?_) (fun h11 => ?_)
      · skip
        rw [Int32.le_iff_toInt_le] at h11
        have gf : f.toInt < j.toInt := by omega
        refine mv_aload_n (pc := 102) B d_Tokens_cutDecimal_102 rfl 2 rfl ?_
        refine mv_iload_n (pc := 103) B d_Tokens_cutDecimal_103 rfl 3 rfl ?_
        refine mv_iload (pc := 104) B d_Tokens_cutDecimal_104 0 rfl ?_
        refine mv_lload_n (pc := 106) B d_Tokens_cutDecimal_106 rfl 1 rfl ?_
        refine mv_callVi (pc := 107) (n := 3) (ci := 2) (C := R_Tokens) B (mK_ok sk sv) hNs rfl rfl (c_Tokens_number l hi _ _ _ _ t tn len ⟨hsh, ht, hts, hlen, hl1, hl2, ht2⟩ hsz (by omega)) rfl (ma_goodc kc_Tokens_number) (B.2.2.2.1 _ k_849) (B.2.2.2.1 _ k_851) (B.2.2.2.1 _ ks_25) (B.2.2.2.1 _ k_3) ⟨by decide +kernel, by decide +kernel, by decide +kernel⟩ rfl d_Tokens_cutDecimal_107 rfl (Nat.le_of_ble_eq_true rfl) ⟨by decide, by decide⟩ ⟨by decide, by decide⟩ ⟨by decide, by decide⟩ (mv_noH hno _) (fun v107 σ107 h107 => ?_)
        exact mv_iret (pc := 110) B hr rfl d_Tokens_cutDecimal_110 (Nat.le_refl _) (Nat.le_refl _) ⟨_, rfl, by rcases h107 with ⟨q1, q2⟩ | ⟨q1, q2⟩; exact ⟨2, _, 0, q1, by omega, Or.inl ⟨q2, Or.inr rfl⟩⟩; exact ⟨4, _, _, q1, by omega, Or.inr ⟨by rw [q2]; omega, by rw [q2]; omega, by decide, fun q => absurd q (by decide)⟩⟩⟩
      · skip
        rw [Int32.le_iff_toInt_le] at h11
        refine mv_aload_n (pc := 14) B d_Tokens_cutDecimal_14 rfl 2 rfl ?_
        refine mv_getR (pc := 15) (ci := 2) (C := R_Tokens) (T := F_Tokens) (N := 10) B 4 rfl rfl (by decide) i_Tokens (B.2.2.2.1 _ k_98) rfl ht d_Tokens_cutDecimal_15 ?_
        refine mv_iload (pc := 18) B d_Tokens_cutDecimal_18 0 rfl ?_
        refine mv_bald (pc := 20) B hts (i32_in (by omega) (by omega)) d_Tokens_cutDecimal_20 ?_
        refine mv_callSi (pc := 21) (n := 1) B (mK_ok sk sv) hNs (c_Tokens_isDigit l hi _ _) rfl (ma_goodc kc_Tokens_isDigit) (B.2.2.2.1 _ k_835) (B.2.2.2.1 _ k_836) (B.2.2.2.1 _ k_3) ⟨by decide +kernel, by decide +kernel, by decide +kernel⟩ rfl d_Tokens_cutDecimal_21 rfl (Nat.le_of_ble_eq_true rfl) ⟨by decide, by decide⟩ ⟨by decide, by decide⟩ ⟨by decide, by decide⟩ (mv_noH hno _) (fun v21 σ21 h21 => ?_)
        obtain ⟨rfl, z21⟩ := h21
        refine mv_if_eq (pc := 24) (tgt := 102) B d_Tokens_cutDecimal_24 rfl (fun h24 => ?_) (fun h24 => ?_)
        · skip
          have z24 := zb_f z21 h24
          have gf : f.toInt < j.toInt := Decidable.byContradiction fun q => z24 (by have e : f = j := Int32.toInt_inj.mp (by omega); rw [← e]; exact gd)
          refine mv_aload_n (pc := 102) B d_Tokens_cutDecimal_102 rfl 2 rfl ?_
          refine mv_iload_n (pc := 103) B d_Tokens_cutDecimal_103 rfl 3 rfl ?_
          refine mv_iload (pc := 104) B d_Tokens_cutDecimal_104 0 rfl ?_
          refine mv_lload_n (pc := 106) B d_Tokens_cutDecimal_106 rfl 1 rfl ?_
          refine mv_callVi (pc := 107) (n := 3) (ci := 2) (C := R_Tokens) B (mK_ok sk sv) hNs rfl rfl (c_Tokens_number l hi _ _ _ _ t tn len ⟨hsh, ht, hts, hlen, hl1, hl2, ht2⟩ hsz (by omega)) rfl (ma_goodc kc_Tokens_number) (B.2.2.2.1 _ k_849) (B.2.2.2.1 _ k_851) (B.2.2.2.1 _ ks_25) (B.2.2.2.1 _ k_3) ⟨by decide +kernel, by decide +kernel, by decide +kernel⟩ rfl d_Tokens_cutDecimal_107 rfl (Nat.le_of_ble_eq_true rfl) ⟨by decide, by decide⟩ ⟨by decide, by decide⟩ ⟨by decide, by decide⟩ (mv_noH hno _) (fun v107 σ107 h107 => ?_)
          exact mv_iret (pc := 110) B hr rfl d_Tokens_cutDecimal_110 (Nat.le_refl _) (Nat.le_refl _) ⟨_, rfl, by rcases h107 with ⟨q1, q2⟩ | ⟨q1, q2⟩; exact ⟨2, _, 0, q1, by omega, Or.inl ⟨q2, Or.inr rfl⟩⟩; exact ⟨4, _, _, q1, by omega, Or.inr ⟨by rw [q2]; omega, by rw [q2]; omega, by decide, fun q => absurd q (by decide)⟩⟩⟩
        · skip
          refine mv_aload_n (pc := 27) B d_Tokens_cutDecimal_27 rfl 2 rfl ?_
          refine mv_getR (pc := 28) (ci := 2) (C := R_Tokens) (T := F_Tokens) (N := 10) B 4 rfl rfl (by decide) i_Tokens (B.2.2.2.1 _ k_98) rfl ht d_Tokens_cutDecimal_28 ?_
          refine mv_iload (pc := 31) B d_Tokens_cutDecimal_31 0 rfl ?_
          refine mv_bald (pc := 33) B hts (i32_in (by omega) (by omega)) d_Tokens_cutDecimal_33 ?_
          refine mv_bipush (pc := 34) (v := 48) B d_Tokens_cutDecimal_34 (by decide) ?_
          refine mv_isub (pc := 36) B d_Tokens_cutDecimal_36 ?_
          refine mv_istore (pc := 37) B d_Tokens_cutDecimal_37 (by decide) rfl ?_
          refine mv_lload_n (pc := 39) B d_Tokens_cutDecimal_39 rfl 2 rfl ?_
          refine mv_lconst (pc := 40) (v := 0) B d_Tokens_cutDecimal_40 (by decide) ?_
          refine mv_lcmp (pc := 41) B d_Tokens_cutDecimal_41 ?_
          refine mv_if_lt (pc := 42) (tgt := 53) B d_Tokens_cutDecimal_42 rfl (fun h42 => ?_) (fun h42 => ?_)
          · skip
            refine mv_iconst (pc := 53) (v := 1) B d_Tokens_cutDecimal_53 (by decide) ?_
            refine mv_goto (pc := 54) (tgt := 58) B d_Tokens_cutDecimal_54 rfl ?_
            refine mv_istore (pc := 58) B d_Tokens_cutDecimal_58 (by decide) rfl ?_
            refine mv_iload (pc := 60) B d_Tokens_cutDecimal_60 0 rfl ?_
            refine mv_if_ne (pc := 62) (tgt := 79) B d_Tokens_cutDecimal_62 rfl (fun h62 => ?_) (fun h62 => ?_)
            · skip
              refine mv_aload_n (pc := 79) B d_Tokens_cutDecimal_79 rfl 4 rfl ?_
              refine mv_iload (pc := 80) B d_Tokens_cutDecimal_80 2 rfl ?_
              refine mv_callVi (pc := 82) (n := 1) (ci := 2) (C := R_Tokens) B (mK_ok sk sv) hNs rfl rfl (c_Tokens_broken l hi _ _ hsh hsz) rfl (ma_goodc kc_Tokens_broken) (B.2.2.2.1 _ k_845) (B.2.2.2.1 _ k_847) (B.2.2.2.1 _ ks_24) (B.2.2.2.1 _ k_3) ⟨by decide +kernel, by decide +kernel, by decide +kernel⟩ rfl d_Tokens_cutDecimal_82 rfl (Nat.le_of_ble_eq_true rfl) ⟨by decide, by decide⟩ ⟨by decide, by decide⟩ ⟨by decide, by decide⟩ (mv_noH hno _) (fun v82 σ82 h82 => ?_)
              obtain ⟨rfl, rfl⟩ := h82
              exact mv_iret (pc := 85) B hr rfl d_Tokens_cutDecimal_85 (Nat.le_refl _) (Nat.le_refl _) ⟨_, rfl, 2, _, 0, rfl, by omega, Or.inl ⟨rfl, Or.inr rfl⟩⟩
            · skip
              refine mv_lload_n (pc := 65) B d_Tokens_cutDecimal_65 rfl 3 rfl ?_
              refine mv_ldc2 (pc := 66) (v := 1844674407370955161) B (B.2.2.2.1 _ k_860) d_Tokens_cutDecimal_66 ?_
              refine mv_lcmp (pc := 69) B d_Tokens_cutDecimal_69 ?_
              refine mv_if_ne (pc := 70) (tgt := 86) B d_Tokens_cutDecimal_70 rfl (fun h70 => ?_) (fun h70 => ?_)
              · skip
                refine mv_lload_n (pc := 86) B d_Tokens_cutDecimal_86 rfl 3 rfl ?_
                refine mv_ldc2 (pc := 87) (v := 10) B (B.2.2.2.1 _ k_861) d_Tokens_cutDecimal_87 ?_
                refine mv_lmul (pc := 90) B d_Tokens_cutDecimal_90 ?_
                refine mv_iload (pc := 91) B d_Tokens_cutDecimal_91 1 rfl ?_
                refine mv_i2l (pc := 93) B d_Tokens_cutDecimal_93 ?_
                refine mv_ladd (pc := 94) B d_Tokens_cutDecimal_94 ?_
                refine mv_lstore_n (pc := 95) B d_Tokens_cutDecimal_95 rfl (by decide) rfl ?_
                refine mv_iinc (pc := 96) (j := 3) (v := 1) B d_Tokens_cutDecimal_96 rfl (by decide) (by decide) rfl ?_
                refine mv_goto (pc := 99) (tgt := 5) B d_Tokens_cutDecimal_99 rfl ?_
                refine mv_lpick [0, 1, 4, 5] rfl ?_
                exact ih _ _ (by rw [i32_inc (by omega)]; omega) (by rw [i32_inc (by omega)]; omega) (by rw [i32_inc (by omega)]; omega)
              · skip
                refine mv_iload (pc := 73) B d_Tokens_cutDecimal_73 1 rfl ?_
                refine mv_iconst (pc := 75) (v := 5) B d_Tokens_cutDecimal_75 (by decide) ?_
                refine mv_icmp_le (pc := 76) (tgt := 86) B d_Tokens_cutDecimal_76 rfl (fun h76 => ?_) (fun h76 => ?_)
                · skip
                  refine mv_lload_n (pc := 86) B d_Tokens_cutDecimal_86 rfl 3 rfl ?_
                  refine mv_ldc2 (pc := 87) (v := 10) B (B.2.2.2.1 _ k_861) d_Tokens_cutDecimal_87 ?_
                  refine mv_lmul (pc := 90) B d_Tokens_cutDecimal_90 ?_
                  refine mv_iload (pc := 91) B d_Tokens_cutDecimal_91 1 rfl ?_
                  refine mv_i2l (pc := 93) B d_Tokens_cutDecimal_93 ?_
                  refine mv_ladd (pc := 94) B d_Tokens_cutDecimal_94 ?_
                  refine mv_lstore_n (pc := 95) B d_Tokens_cutDecimal_95 rfl (by decide) rfl ?_
                  refine mv_iinc (pc := 96) (j := 3) (v := 1) B d_Tokens_cutDecimal_96 rfl (by decide) (by decide) rfl ?_
                  refine mv_goto (pc := 99) (tgt := 5) B d_Tokens_cutDecimal_99 rfl ?_
                  refine mv_lpick [0, 1, 4, 5] rfl ?_
                  exact ih _ _ (by rw [i32_inc (by omega)]; omega) (by rw [i32_inc (by omega)]; omega) (by rw [i32_inc (by omega)]; omega)
                · skip
                  refine mv_aload_n (pc := 79) B d_Tokens_cutDecimal_79 rfl 4 rfl ?_
                  refine mv_iload (pc := 80) B d_Tokens_cutDecimal_80 2 rfl ?_
                  refine mv_callVi (pc := 82) (n := 1) (ci := 2) (C := R_Tokens) B (mK_ok sk sv) hNs rfl rfl (c_Tokens_broken l hi _ _ hsh hsz) rfl (ma_goodc kc_Tokens_broken) (B.2.2.2.1 _ k_845) (B.2.2.2.1 _ k_847) (B.2.2.2.1 _ ks_24) (B.2.2.2.1 _ k_3) ⟨by decide +kernel, by decide +kernel, by decide +kernel⟩ rfl d_Tokens_cutDecimal_82 rfl (Nat.le_of_ble_eq_true rfl) ⟨by decide, by decide⟩ ⟨by decide, by decide⟩ ⟨by decide, by decide⟩ (mv_noH hno _) (fun v82 σ82 h82 => ?_)
                  obtain ⟨rfl, rfl⟩ := h82
                  exact mv_iret (pc := 85) B hr rfl d_Tokens_cutDecimal_85 (Nat.le_refl _) (Nat.le_refl _) ⟨_, rfl, 2, _, 0, rfl, by omega, Or.inl ⟨rfl, Or.inr rfl⟩⟩
          · skip
            refine mv_lload_n (pc := 45) B d_Tokens_cutDecimal_45 rfl 2 rfl ?_
            refine mv_ldc2 (pc := 46) (v := 1844674407370955161) B (B.2.2.2.1 _ k_860) d_Tokens_cutDecimal_46 ?_
            refine mv_lcmp (pc := 49) B d_Tokens_cutDecimal_49 ?_
            refine mv_if_le (pc := 50) (tgt := 57) B d_Tokens_cutDecimal_50 rfl (fun h50 => ?_) (fun h50 => ?_)
            · skip
              refine mv_iconst (pc := 57) (v := 0) B d_Tokens_cutDecimal_57 (by decide) ?_
              refine mv_istore (pc := 58) B d_Tokens_cutDecimal_58 (by decide) rfl ?_
              refine mv_iload (pc := 60) B d_Tokens_cutDecimal_60 0 rfl ?_
              refine mv_if_ne (pc := 62) (tgt := 79) B d_Tokens_cutDecimal_62 rfl (fun h62 => ?_) (fun h62 => ?_)
              · skip
                refine mv_aload_n (pc := 79) B d_Tokens_cutDecimal_79 rfl 4 rfl ?_
                refine mv_iload (pc := 80) B d_Tokens_cutDecimal_80 2 rfl ?_
                refine mv_callVi (pc := 82) (n := 1) (ci := 2) (C := R_Tokens) B (mK_ok sk sv) hNs rfl rfl (c_Tokens_broken l hi _ _ hsh hsz) rfl (ma_goodc kc_Tokens_broken) (B.2.2.2.1 _ k_845) (B.2.2.2.1 _ k_847) (B.2.2.2.1 _ ks_24) (B.2.2.2.1 _ k_3) ⟨by decide +kernel, by decide +kernel, by decide +kernel⟩ rfl d_Tokens_cutDecimal_82 rfl (Nat.le_of_ble_eq_true rfl) ⟨by decide, by decide⟩ ⟨by decide, by decide⟩ ⟨by decide, by decide⟩ (mv_noH hno _) (fun v82 σ82 h82 => ?_)
                obtain ⟨rfl, rfl⟩ := h82
                exact mv_iret (pc := 85) B hr rfl d_Tokens_cutDecimal_85 (Nat.le_refl _) (Nat.le_refl _) ⟨_, rfl, 2, _, 0, rfl, by omega, Or.inl ⟨rfl, Or.inr rfl⟩⟩
              · skip
                refine mv_lload_n (pc := 65) B d_Tokens_cutDecimal_65 rfl 3 rfl ?_
                refine mv_ldc2 (pc := 66) (v := 1844674407370955161) B (B.2.2.2.1 _ k_860) d_Tokens_cutDecimal_66 ?_
                refine mv_lcmp (pc := 69) B d_Tokens_cutDecimal_69 ?_
                refine mv_if_ne (pc := 70) (tgt := 86) B d_Tokens_cutDecimal_70 rfl (fun h70 => ?_) (fun h70 => ?_)
                · skip
                  refine mv_lload_n (pc := 86) B d_Tokens_cutDecimal_86 rfl 3 rfl ?_
                  refine mv_ldc2 (pc := 87) (v := 10) B (B.2.2.2.1 _ k_861) d_Tokens_cutDecimal_87 ?_
                  refine mv_lmul (pc := 90) B d_Tokens_cutDecimal_90 ?_
                  refine mv_iload (pc := 91) B d_Tokens_cutDecimal_91 1 rfl ?_
                  refine mv_i2l (pc := 93) B d_Tokens_cutDecimal_93 ?_
                  refine mv_ladd (pc := 94) B d_Tokens_cutDecimal_94 ?_
                  refine mv_lstore_n (pc := 95) B d_Tokens_cutDecimal_95 rfl (by decide) rfl ?_
                  refine mv_iinc (pc := 96) (j := 3) (v := 1) B d_Tokens_cutDecimal_96 rfl (by decide) (by decide) rfl ?_
                  refine mv_goto (pc := 99) (tgt := 5) B d_Tokens_cutDecimal_99 rfl ?_
                  refine mv_lpick [0, 1, 4, 5] rfl ?_
                  exact ih _ _ (by rw [i32_inc (by omega)]; omega) (by rw [i32_inc (by omega)]; omega) (by rw [i32_inc (by omega)]; omega)
                · skip
                  refine mv_iload (pc := 73) B d_Tokens_cutDecimal_73 1 rfl ?_
                  refine mv_iconst (pc := 75) (v := 5) B d_Tokens_cutDecimal_75 (by decide) ?_
                  refine mv_icmp_le (pc := 76) (tgt := 86) B d_Tokens_cutDecimal_76 rfl (fun h76 => ?_) (fun h76 => ?_)
                  · skip
                    refine mv_lload_n (pc := 86) B d_Tokens_cutDecimal_86 rfl 3 rfl ?_
                    refine mv_ldc2 (pc := 87) (v := 10) B (B.2.2.2.1 _ k_861) d_Tokens_cutDecimal_87 ?_
                    refine mv_lmul (pc := 90) B d_Tokens_cutDecimal_90 ?_
                    refine mv_iload (pc := 91) B d_Tokens_cutDecimal_91 1 rfl ?_
                    refine mv_i2l (pc := 93) B d_Tokens_cutDecimal_93 ?_
                    refine mv_ladd (pc := 94) B d_Tokens_cutDecimal_94 ?_
                    refine mv_lstore_n (pc := 95) B d_Tokens_cutDecimal_95 rfl (by decide) rfl ?_
                    refine mv_iinc (pc := 96) (j := 3) (v := 1) B d_Tokens_cutDecimal_96 rfl (by decide) (by decide) rfl ?_
                    refine mv_goto (pc := 99) (tgt := 5) B d_Tokens_cutDecimal_99 rfl ?_
                    refine mv_lpick [0, 1, 4, 5] rfl ?_
                    exact ih _ _ (by rw [i32_inc (by omega)]; omega) (by rw [i32_inc (by omega)]; omega) (by rw [i32_inc (by omega)]; omega)
                  · skip
                    refine mv_aload_n (pc := 79) B d_Tokens_cutDecimal_79 rfl 4 rfl ?_
                    refine mv_iload (pc := 80) B d_Tokens_cutDecimal_80 2 rfl ?_
                    refine mv_callVi (pc := 82) (n := 1) (ci := 2) (C := R_Tokens) B (mK_ok sk sv) hNs rfl rfl (c_Tokens_broken l hi _ _ hsh hsz) rfl (ma_goodc kc_Tokens_broken) (B.2.2.2.1 _ k_845) (B.2.2.2.1 _ k_847) (B.2.2.2.1 _ ks_24) (B.2.2.2.1 _ k_3) ⟨by decide +kernel, by decide +kernel, by decide +kernel⟩ rfl d_Tokens_cutDecimal_82 rfl (Nat.le_of_ble_eq_true rfl) ⟨by decide, by decide⟩ ⟨by decide, by decide⟩ ⟨by decide, by decide⟩ (mv_noH hno _) (fun v82 σ82 h82 => ?_)
                    obtain ⟨rfl, rfl⟩ := h82
                    exact mv_iret (pc := 85) B hr rfl d_Tokens_cutDecimal_85 (Nat.le_refl _) (Nat.le_refl _) ⟨_, rfl, 2, _, 0, rfl, by omega, Or.inl ⟨rfl, Or.inr rfl⟩⟩
            · skip
              refine mv_iconst (pc := 53) (v := 1) B d_Tokens_cutDecimal_53 (by decide) ?_
              refine mv_goto (pc := 54) (tgt := 58) B d_Tokens_cutDecimal_54 rfl ?_
              refine mv_istore (pc := 58) B d_Tokens_cutDecimal_58 (by decide) rfl ?_
              refine mv_iload (pc := 60) B d_Tokens_cutDecimal_60 0 rfl ?_
              refine mv_if_ne (pc := 62) (tgt := 79) B d_Tokens_cutDecimal_62 rfl (fun h62 => ?_) (fun h62 => ?_)
              · skip
                refine mv_aload_n (pc := 79) B d_Tokens_cutDecimal_79 rfl 4 rfl ?_
                refine mv_iload (pc := 80) B d_Tokens_cutDecimal_80 2 rfl ?_
                refine mv_callVi (pc := 82) (n := 1) (ci := 2) (C := R_Tokens) B (mK_ok sk sv) hNs rfl rfl (c_Tokens_broken l hi _ _ hsh hsz) rfl (ma_goodc kc_Tokens_broken) (B.2.2.2.1 _ k_845) (B.2.2.2.1 _ k_847) (B.2.2.2.1 _ ks_24) (B.2.2.2.1 _ k_3) ⟨by decide +kernel, by decide +kernel, by decide +kernel⟩ rfl d_Tokens_cutDecimal_82 rfl (Nat.le_of_ble_eq_true rfl) ⟨by decide, by decide⟩ ⟨by decide, by decide⟩ ⟨by decide, by decide⟩ (mv_noH hno _) (fun v82 σ82 h82 => ?_)
                obtain ⟨rfl, rfl⟩ := h82
                exact mv_iret (pc := 85) B hr rfl d_Tokens_cutDecimal_85 (Nat.le_refl _) (Nat.le_refl _) ⟨_, rfl, 2, _, 0, rfl, by omega, Or.inl ⟨rfl, Or.inr rfl⟩⟩
              · skip
                refine mv_lload_n (pc := 65) B d_Tokens_cutDecimal_65 rfl 3 rfl ?_
                refine mv_ldc2 (pc := 66) (v := 1844674407370955161) B (B.2.2.2.1 _ k_860) d_Tokens_cutDecimal_66 ?_
                refine mv_lcmp (pc := 69) B d_Tokens_cutDecimal_69 ?_
                refine mv_if_ne (pc := 70) (tgt := 86) B d_Tokens_cutDecimal_70 rfl (fun h70 => ?_) (fun h70 => ?_)
                · skip
                  refine mv_lload_n (pc := 86) B d_Tokens_cutDecimal_86 rfl 3 rfl ?_
                  refine mv_ldc2 (pc := 87) (v := 10) B (B.2.2.2.1 _ k_861) d_Tokens_cutDecimal_87 ?_
                  refine mv_lmul (pc := 90) B d_Tokens_cutDecimal_90 ?_
                  refine mv_iload (pc := 91) B d_Tokens_cutDecimal_91 1 rfl ?_
                  refine mv_i2l (pc := 93) B d_Tokens_cutDecimal_93 ?_
                  refine mv_ladd (pc := 94) B d_Tokens_cutDecimal_94 ?_
                  refine mv_lstore_n (pc := 95) B d_Tokens_cutDecimal_95 rfl (by decide) rfl ?_
                  refine mv_iinc (pc := 96) (j := 3) (v := 1) B d_Tokens_cutDecimal_96 rfl (by decide) (by decide) rfl ?_
                  refine mv_goto (pc := 99) (tgt := 5) B d_Tokens_cutDecimal_99 rfl ?_
                  refine mv_lpick [0, 1, 4, 5] rfl ?_
                  exact ih _ _ (by rw [i32_inc (by omega)]; omega) (by rw [i32_inc (by omega)]; omega) (by rw [i32_inc (by omega)]; omega)
                · skip
                  refine mv_iload (pc := 73) B d_Tokens_cutDecimal_73 1 rfl ?_
                  refine mv_iconst (pc := 75) (v := 5) B d_Tokens_cutDecimal_75 (by decide) ?_
                  refine mv_icmp_le (pc := 76) (tgt := 86) B d_Tokens_cutDecimal_76 rfl (fun h76 => ?_) (fun h76 => ?_)
                  · skip
                    refine mv_lload_n (pc := 86) B d_Tokens_cutDecimal_86 rfl 3 rfl ?_
                    refine mv_ldc2 (pc := 87) (v := 10) B (B.2.2.2.1 _ k_861) d_Tokens_cutDecimal_87 ?_
                    refine mv_lmul (pc := 90) B d_Tokens_cutDecimal_90 ?_
                    refine mv_iload (pc := 91) B d_Tokens_cutDecimal_91 1 rfl ?_
                    refine mv_i2l (pc := 93) B d_Tokens_cutDecimal_93 ?_
                    refine mv_ladd (pc := 94) B d_Tokens_cutDecimal_94 ?_
                    refine mv_lstore_n (pc := 95) B d_Tokens_cutDecimal_95 rfl (by decide) rfl ?_
                    refine mv_iinc (pc := 96) (j := 3) (v := 1) B d_Tokens_cutDecimal_96 rfl (by decide) (by decide) rfl ?_
                    refine mv_goto (pc := 99) (tgt := 5) B d_Tokens_cutDecimal_99 rfl ?_
                    refine mv_lpick [0, 1, 4, 5] rfl ?_
                    exact ih _ _ (by rw [i32_inc (by omega)]; omega) (by rw [i32_inc (by omega)]; omega) (by rw [i32_inc (by omega)]; omega)
                  · skip
                    refine mv_aload_n (pc := 79) B d_Tokens_cutDecimal_79 rfl 4 rfl ?_
                    refine mv_iload (pc := 80) B d_Tokens_cutDecimal_80 2 rfl ?_
                    refine mv_callVi (pc := 82) (n := 1) (ci := 2) (C := R_Tokens) B (mK_ok sk sv) hNs rfl rfl (c_Tokens_broken l hi _ _ hsh hsz) rfl (ma_goodc kc_Tokens_broken) (B.2.2.2.1 _ k_845) (B.2.2.2.1 _ k_847) (B.2.2.2.1 _ ks_24) (B.2.2.2.1 _ k_3) ⟨by decide +kernel, by decide +kernel, by decide +kernel⟩ rfl d_Tokens_cutDecimal_82 rfl (Nat.le_of_ble_eq_true rfl) ⟨by decide, by decide⟩ ⟨by decide, by decide⟩ ⟨by decide, by decide⟩ (mv_noH hno _) (fun v82 σ82 h82 => ?_)
                    obtain ⟨rfl, rfl⟩ := h82
                    exact mv_iret (pc := 85) B hr rfl d_Tokens_cutDecimal_85 (Nat.le_refl _) (Nat.le_refl _) ⟨_, rfl, 2, _, 0, rfl, by omega, Or.inl ⟨rfl, Or.inr rfl⟩⟩
  refine mv_lconst (pc := 0) (v := 0) B d_Tokens_cutDecimal_0 (by decide) ?_
  refine mv_lstore_n (pc := 1) B d_Tokens_cutDecimal_1 rfl (by decide) rfl ?_
  refine mv_iload_n (pc := 2) B d_Tokens_cutDecimal_2 rfl 2 rfl ?_
  refine mv_istore (pc := 3) B d_Tokens_cutDecimal_3 (by decide) rfl ?_
  refine mv_lpick [0, 1, 2, 3] rfl ?_
  exact lp _ _ _ (Int.le_refl _) (by omega) (Nat.lt_succ_self _)
def y_Tokens_cutHex : MethodName := ⟨"MachineLoom$Tokens", "cutHex", "(I)I"⟩
abbrev b_Tokens_cutHex : ByteArray := prog_10_method_6_code
theorem kc_Tokens_cutHex : Cond.code y_Tokens_cutHex b_Tokens_cutHex 5 (Option.some Jvm.ClassFile.FieldType.int) ∈ ma := ma_of (tb_4 _ (List.mem_of_getElem? (i := 121) rfl)) rfl
theorem k_842 : (Jvm.Cond.methodLink "MachineLoom$Tokens" (102 : Nat) ({ cls := "MachineLoom$Tokens", name := "hexDigit", desc := "(I)I" } : Jvm.MethodName)) ∈ ma := ma_of (tb_4 _ (List.mem_of_getElem? (i := 122) rfl)) rfl
theorem k_843 : (Jvm.Cond.static ({ cls := "MachineLoom$Tokens", name := "hexDigit", desc := "(I)I" } : Jvm.MethodName)) ∈ ma := ma_of (tb_4 _ (List.mem_of_getElem? (i := 123) rfl)) rfl
theorem d_Tokens_cutHex_0 : decode b_Tokens_cutHex 0 = .ok (.lconst 0, 1) := by decide +kernel
theorem d_Tokens_cutHex_1 : decode b_Tokens_cutHex 1 = .ok (.lstore_n 2, 1) := by decide +kernel
theorem d_Tokens_cutHex_2 : decode b_Tokens_cutHex 2 = .ok (.iload_n 1, 1) := by decide +kernel
theorem d_Tokens_cutHex_3 : decode b_Tokens_cutHex 3 = .ok (.iconst 2, 1) := by decide +kernel
theorem d_Tokens_cutHex_4 : decode b_Tokens_cutHex 4 = .ok (.iadd, 1) := by decide +kernel
theorem d_Tokens_cutHex_5 : decode b_Tokens_cutHex 5 = .ok (.istore 4, 2) := by decide +kernel
theorem d_Tokens_cutHex_7 : decode b_Tokens_cutHex 7 = .ok (.iload 4, 2) := by decide +kernel
theorem d_Tokens_cutHex_9 : decode b_Tokens_cutHex 9 = .ok (.aload_n 0, 1) := by decide +kernel
theorem d_Tokens_cutHex_10 : decode b_Tokens_cutHex 10 = .ok (.getfield 34, 3) := by decide +kernel
theorem d_Tokens_cutHex_13 : decode b_Tokens_cutHex 13 = .ok (.if_icmp .ge (54), 3) := by decide +kernel
theorem d_Tokens_cutHex_16 : decode b_Tokens_cutHex 16 = .ok (.aload_n 0, 1) := by decide +kernel
theorem d_Tokens_cutHex_17 : decode b_Tokens_cutHex 17 = .ok (.getfield 30, 3) := by decide +kernel
theorem d_Tokens_cutHex_20 : decode b_Tokens_cutHex 20 = .ok (.iload 4, 2) := by decide +kernel
theorem d_Tokens_cutHex_22 : decode b_Tokens_cutHex 22 = .ok (.baload, 1) := by decide +kernel
theorem d_Tokens_cutHex_23 : decode b_Tokens_cutHex 23 = .ok (.invokestatic 102, 3) := by decide +kernel
theorem d_Tokens_cutHex_26 : decode b_Tokens_cutHex 26 = .ok (.ifCond .lt (41), 3) := by decide +kernel
theorem d_Tokens_cutHex_29 : decode b_Tokens_cutHex 29 = .ok (.iload 4, 2) := by decide +kernel
theorem d_Tokens_cutHex_31 : decode b_Tokens_cutHex 31 = .ok (.iload_n 1, 1) := by decide +kernel
theorem d_Tokens_cutHex_32 : decode b_Tokens_cutHex 32 = .ok (.bipush 18, 2) := by decide +kernel
theorem d_Tokens_cutHex_34 : decode b_Tokens_cutHex 34 = .ok (.iadd, 1) := by decide +kernel
theorem d_Tokens_cutHex_35 : decode b_Tokens_cutHex 35 = .ok (.if_icmp .ne (10), 3) := by decide +kernel
theorem d_Tokens_cutHex_38 : decode b_Tokens_cutHex 38 = .ok (.aload_n 0, 1) := by decide +kernel
theorem d_Tokens_cutHex_39 : decode b_Tokens_cutHex 39 = .ok (.iload 4, 2) := by decide +kernel
theorem d_Tokens_cutHex_41 : decode b_Tokens_cutHex 41 = .ok (.invokevirtual 93, 3) := by decide +kernel
theorem d_Tokens_cutHex_44 : decode b_Tokens_cutHex 44 = .ok (.ireturn, 1) := by decide +kernel
theorem d_Tokens_cutHex_45 : decode b_Tokens_cutHex 45 = .ok (.lload_n 2, 1) := by decide +kernel
theorem d_Tokens_cutHex_46 : decode b_Tokens_cutHex 46 = .ok (.iconst 4, 1) := by decide +kernel
theorem d_Tokens_cutHex_47 : decode b_Tokens_cutHex 47 = .ok (.lshl, 1) := by decide +kernel
theorem d_Tokens_cutHex_48 : decode b_Tokens_cutHex 48 = .ok (.aload_n 0, 1) := by decide +kernel
theorem d_Tokens_cutHex_49 : decode b_Tokens_cutHex 49 = .ok (.getfield 30, 3) := by decide +kernel
theorem d_Tokens_cutHex_52 : decode b_Tokens_cutHex 52 = .ok (.iload 4, 2) := by decide +kernel
theorem d_Tokens_cutHex_54 : decode b_Tokens_cutHex 54 = .ok (.baload, 1) := by decide +kernel
theorem d_Tokens_cutHex_55 : decode b_Tokens_cutHex 55 = .ok (.invokestatic 102, 3) := by decide +kernel
theorem d_Tokens_cutHex_58 : decode b_Tokens_cutHex 58 = .ok (.i2l, 1) := by decide +kernel
theorem d_Tokens_cutHex_59 : decode b_Tokens_cutHex 59 = .ok (.lor, 1) := by decide +kernel
theorem d_Tokens_cutHex_60 : decode b_Tokens_cutHex 60 = .ok (.lstore_n 2, 1) := by decide +kernel
theorem d_Tokens_cutHex_61 : decode b_Tokens_cutHex 61 = .ok (.iinc 4 (1), 3) := by decide +kernel
theorem d_Tokens_cutHex_64 : decode b_Tokens_cutHex 64 = .ok (.goto (-57), 3) := by decide +kernel
theorem d_Tokens_cutHex_67 : decode b_Tokens_cutHex 67 = .ok (.iload 4, 2) := by decide +kernel
theorem d_Tokens_cutHex_69 : decode b_Tokens_cutHex 69 = .ok (.iload_n 1, 1) := by decide +kernel
theorem d_Tokens_cutHex_70 : decode b_Tokens_cutHex 70 = .ok (.iconst 2, 1) := by decide +kernel
theorem d_Tokens_cutHex_71 : decode b_Tokens_cutHex 71 = .ok (.iadd, 1) := by decide +kernel
theorem d_Tokens_cutHex_72 : decode b_Tokens_cutHex 72 = .ok (.if_icmp .ne (12), 3) := by decide +kernel
theorem d_Tokens_cutHex_75 : decode b_Tokens_cutHex 75 = .ok (.aload_n 0, 1) := by decide +kernel
theorem d_Tokens_cutHex_76 : decode b_Tokens_cutHex 76 = .ok (.iload 4, 2) := by decide +kernel
theorem d_Tokens_cutHex_78 : decode b_Tokens_cutHex 78 = .ok (.invokevirtual 93, 3) := by decide +kernel
theorem d_Tokens_cutHex_81 : decode b_Tokens_cutHex 81 = .ok (.goto (11), 3) := by decide +kernel
theorem d_Tokens_cutHex_84 : decode b_Tokens_cutHex 84 = .ok (.aload_n 0, 1) := by decide +kernel
theorem d_Tokens_cutHex_85 : decode b_Tokens_cutHex 85 = .ok (.iload_n 1, 1) := by decide +kernel
theorem d_Tokens_cutHex_86 : decode b_Tokens_cutHex 86 = .ok (.iload 4, 2) := by decide +kernel
theorem d_Tokens_cutHex_88 : decode b_Tokens_cutHex 88 = .ok (.lload_n 2, 1) := by decide +kernel
theorem d_Tokens_cutHex_89 : decode b_Tokens_cutHex 89 = .ok (.invokevirtual 98, 3) := by decide +kernel
theorem d_Tokens_cutHex_92 : decode b_Tokens_cutHex 92 = .ok (.ireturn, 1) := by decide +kernel
set_option maxHeartbeats 4000000 in
set_option maxRecDepth 100000 in
theorem c_Tokens_cutHex (l : Launch) {dA : FieldType → ClassId} {D : va_G} {al : Nat → Nat} {ext : mv_Sh} {sk sv : Nat → Nat} (hi : mv_inj (mg dA D al ext)) (σ : mv_H) (f : Int32) (t tn len : Nat) (hx : tx ext σ t tn len) (hsz : vp_in (mv_i σ 3 6) 32770) (g0 : 0 ≤ f.toInt) (g1 : f.toInt + 1 < len) : mv_C l y_Tokens_cutHex (Cond.code y_Tokens_cutHex b_Tokens_cutHex 5 (Option.some Jvm.ClassFile.FieldType.int) :: ma) ({ frames := 3, cells := 0, slots := 0, locals := 71 }) (mg dA D al ext) (mK sk sv) [.ref (al 3), .int f] σ (mv_Ri (fun v σ1 => tk_S σ t len f.toInt v σ1)) := by
  refine mv_C.ofV (cc := b_Tokens_cutHex) (nL := 5) (ret := (Option.some Jvm.ClassFile.FieldType.int)) (by decide +kernel) rfl hi (Nat.le_of_ble_eq_true rfl) ?_
  intro p e s m below meth c B hNs hr hnm hno
  obtain ⟨hsh, ht, hts, hlen, hl1, hl2, ht2⟩ := hx
  have lp : ∀ (nn : Nat) (j : Int32) (x : Int64) (q0 : f.toInt < j.toInt) (q1 : j.toInt ≤ len), (len - j.toInt).toNat < nn → mv_V p l e ({ frames := 3, cells := 0, slots := 0, locals := 71 }) s m ([.ref (al 3), .int f] : List Value).toArray below meth c (mg dA D al ext) 5 0 0 (mv_Q (mg dA D al ext) below s 0 0 (mv_Ri (fun v σ1 => tk_S σ t len f.toInt v σ1))) σ 7 [(4, .int j), (2, .long x), (0, .ref (al 3)), (1, .int f)] [] := by
    intro nn
    induction nn with
    | zero => intro j x q0 q1 hm; exact absurd hm (Nat.not_lt_zero _)
    | succ nn ih =>
      intro j x q0 q1 hm
      refine mv_iload (pc := 7) B d_Tokens_cutHex_7 0 rfl ?_
      refine mv_aload_n (pc := 9) B d_Tokens_cutHex_9 rfl 2 rfl ?_
      refine mv_getI (pc := 10) (ci := 2) (C := R_Tokens) (T := F_Tokens) (N := 10) B 5 rfl rfl (by decide) i_Tokens (B.2.2.2.1 _ k_100) rfl d_Tokens_cutHex_10 ?_
      refine mv_icmp_ge (pc := 13) (tgt := 67) B d_Tokens_cutHex_13 rfl (fun h13 => ?_) (fun h13 => ?_)
      · skip
        refine mv_iload (pc := 67) B d_Tokens_cutHex_67 0 rfl ?_
        refine mv_iload_n (pc := 69) B d_Tokens_cutHex_69 rfl 3 rfl ?_
        refine mv_iconst (pc := 70) (v := 2) B d_Tokens_cutHex_70 (by decide) ?_
        refine mv_iadd (pc := 71) B d_Tokens_cutHex_71 ?_
        refine mv_icmp_ne (pc := 72) (tgt := 84) B d_Tokens_cutHex_72 rfl (fun h72 => ?_) (fun h72 => ?_)
        · skip
          refine mv_aload_n (pc := 84) B d_Tokens_cutHex_84 rfl 2 rfl ?_
          refine mv_iload_n (pc := 85) B d_Tokens_cutHex_85 rfl 3 rfl ?_
          refine mv_iload (pc := 86) B d_Tokens_cutHex_86 0 rfl ?_
          refine mv_lload_n (pc := 88) B d_Tokens_cutHex_88 rfl 1 rfl ?_
          refine mv_callVi (pc := 89) (n := 3) (ci := 2) (C := R_Tokens) B (mK_ok sk sv) hNs rfl rfl (c_Tokens_number l hi _ _ _ _ t tn len ⟨hsh, ht, hts, hlen, hl1, hl2, ht2⟩ hsz (by omega)) rfl (ma_goodc kc_Tokens_number) (B.2.2.2.1 _ k_849) (B.2.2.2.1 _ k_851) (B.2.2.2.1 _ ks_25) (B.2.2.2.1 _ k_3) ⟨by decide +kernel, by decide +kernel, by decide +kernel⟩ rfl d_Tokens_cutHex_89 rfl (Nat.le_of_ble_eq_true rfl) ⟨by decide, by decide⟩ ⟨by decide, by decide⟩ ⟨by decide, by decide⟩ (mv_noH hno _) (fun v89 σ89 h89 => ?_)
          exact mv_iret (pc := 92) B hr rfl d_Tokens_cutHex_92 (Nat.le_refl _) (Nat.le_refl _) ⟨_, rfl, by first | exact ⟨2, _, 0, rfl, by omega, Or.inl ⟨rfl, Or.inr rfl⟩⟩ | (rcases h89 with ⟨q1, q2⟩ | ⟨q1, q2⟩; exact ⟨2, _, 0, q1, by omega, Or.inl ⟨q2, Or.inr rfl⟩⟩; exact ⟨4, _, _, q1, by omega, Or.inr ⟨by rw [q2]; omega, by rw [q2]; omega, by decide, fun q => absurd q (by decide)⟩⟩)⟩
        · skip
          refine mv_aload_n (pc := 75) B d_Tokens_cutHex_75 rfl 2 rfl ?_
          refine mv_iload (pc := 76) B d_Tokens_cutHex_76 0 rfl ?_
          refine mv_callVi (pc := 78) (n := 1) (ci := 2) (C := R_Tokens) B (mK_ok sk sv) hNs rfl rfl (c_Tokens_broken l hi _ _ hsh hsz) rfl (ma_goodc kc_Tokens_broken) (B.2.2.2.1 _ k_845) (B.2.2.2.1 _ k_847) (B.2.2.2.1 _ ks_24) (B.2.2.2.1 _ k_3) ⟨by decide +kernel, by decide +kernel, by decide +kernel⟩ rfl d_Tokens_cutHex_78 rfl (Nat.le_of_ble_eq_true rfl) ⟨by decide, by decide⟩ ⟨by decide, by decide⟩ ⟨by decide, by decide⟩ (mv_noH hno _) (fun v78 σ78 h78 => ?_)
          obtain ⟨rfl, rfl⟩ := h78
          refine mv_goto (pc := 81) (tgt := 92) B d_Tokens_cutHex_81 rfl ?_
          exact mv_iret (pc := 92) B hr rfl d_Tokens_cutHex_92 (Nat.le_refl _) (Nat.le_refl _) ⟨_, rfl, by first | exact ⟨2, _, 0, rfl, by omega, Or.inl ⟨rfl, Or.inr rfl⟩⟩ | (rcases h89 with ⟨q1, q2⟩ | ⟨q1, q2⟩; exact ⟨2, _, 0, q1, by omega, Or.inl ⟨q2, Or.inr rfl⟩⟩; exact ⟨4, _, _, q1, by omega, Or.inr ⟨by rw [q2]; omega, by rw [q2]; omega, by decide, fun q => absurd q (by decide)⟩⟩)⟩
      · skip
        rw [Int32.le_iff_toInt_le] at h13
        refine mv_aload_n (pc := 16) B d_Tokens_cutHex_16 rfl 2 rfl ?_
        refine mv_getR (pc := 17) (ci := 2) (C := R_Tokens) (T := F_Tokens) (N := 10) B 4 rfl rfl (by decide) i_Tokens (B.2.2.2.1 _ k_98) rfl ht d_Tokens_cutHex_17 ?_
        refine mv_iload (pc := 20) B d_Tokens_cutHex_20 0 rfl ?_
        refine mv_bald (pc := 22) B hts (i32_in (by omega) (by omega)) d_Tokens_cutHex_22 ?_
        refine mv_callSi (pc := 23) (n := 1) B (mK_ok sk sv) hNs (c_Tokens_hexDigit l hi _ _) rfl (ma_goodc kc_Tokens_hexDigit) (B.2.2.2.1 _ k_842) (B.2.2.2.1 _ k_843) (B.2.2.2.1 _ k_3) ⟨by decide +kernel, by decide +kernel, by decide +kernel⟩ rfl d_Tokens_cutHex_23 rfl (Nat.le_of_ble_eq_true rfl) ⟨by decide, by decide⟩ ⟨by decide, by decide⟩ ⟨by decide, by decide⟩ (mv_noH hno _) (fun v23 σ23 h23 => ?_)
        subst h23
        refine mv_if_lt (pc := 26) (tgt := 67) B d_Tokens_cutHex_26 rfl (fun h26 => ?_) (fun h26 => ?_)
        · skip
          refine mv_iload (pc := 67) B d_Tokens_cutHex_67 0 rfl ?_
          refine mv_iload_n (pc := 69) B d_Tokens_cutHex_69 rfl 3 rfl ?_
          refine mv_iconst (pc := 70) (v := 2) B d_Tokens_cutHex_70 (by decide) ?_
          refine mv_iadd (pc := 71) B d_Tokens_cutHex_71 ?_
          refine mv_icmp_ne (pc := 72) (tgt := 84) B d_Tokens_cutHex_72 rfl (fun h72 => ?_) (fun h72 => ?_)
          · skip
            refine mv_aload_n (pc := 84) B d_Tokens_cutHex_84 rfl 2 rfl ?_
            refine mv_iload_n (pc := 85) B d_Tokens_cutHex_85 rfl 3 rfl ?_
            refine mv_iload (pc := 86) B d_Tokens_cutHex_86 0 rfl ?_
            refine mv_lload_n (pc := 88) B d_Tokens_cutHex_88 rfl 1 rfl ?_
            refine mv_callVi (pc := 89) (n := 3) (ci := 2) (C := R_Tokens) B (mK_ok sk sv) hNs rfl rfl (c_Tokens_number l hi _ _ _ _ t tn len ⟨hsh, ht, hts, hlen, hl1, hl2, ht2⟩ hsz (by omega)) rfl (ma_goodc kc_Tokens_number) (B.2.2.2.1 _ k_849) (B.2.2.2.1 _ k_851) (B.2.2.2.1 _ ks_25) (B.2.2.2.1 _ k_3) ⟨by decide +kernel, by decide +kernel, by decide +kernel⟩ rfl d_Tokens_cutHex_89 rfl (Nat.le_of_ble_eq_true rfl) ⟨by decide, by decide⟩ ⟨by decide, by decide⟩ ⟨by decide, by decide⟩ (mv_noH hno _) (fun v89 σ89 h89 => ?_)
            exact mv_iret (pc := 92) B hr rfl d_Tokens_cutHex_92 (Nat.le_refl _) (Nat.le_refl _) ⟨_, rfl, by first | exact ⟨2, _, 0, rfl, by omega, Or.inl ⟨rfl, Or.inr rfl⟩⟩ | (rcases h89 with ⟨q1, q2⟩ | ⟨q1, q2⟩; exact ⟨2, _, 0, q1, by omega, Or.inl ⟨q2, Or.inr rfl⟩⟩; exact ⟨4, _, _, q1, by omega, Or.inr ⟨by rw [q2]; omega, by rw [q2]; omega, by decide, fun q => absurd q (by decide)⟩⟩)⟩
          · skip
            refine mv_aload_n (pc := 75) B d_Tokens_cutHex_75 rfl 2 rfl ?_
            refine mv_iload (pc := 76) B d_Tokens_cutHex_76 0 rfl ?_
            refine mv_callVi (pc := 78) (n := 1) (ci := 2) (C := R_Tokens) B (mK_ok sk sv) hNs rfl rfl (c_Tokens_broken l hi _ _ hsh hsz) rfl (ma_goodc kc_Tokens_broken) (B.2.2.2.1 _ k_845) (B.2.2.2.1 _ k_847) (B.2.2.2.1 _ ks_24) (B.2.2.2.1 _ k_3) ⟨by decide +kernel, by decide +kernel, by decide +kernel⟩ rfl d_Tokens_cutHex_78 rfl (Nat.le_of_ble_eq_true rfl) ⟨by decide, by decide⟩ ⟨by decide, by decide⟩ ⟨by decide, by decide⟩ (mv_noH hno _) (fun v78 σ78 h78 => ?_)
            obtain ⟨rfl, rfl⟩ := h78
            refine mv_goto (pc := 81) (tgt := 92) B d_Tokens_cutHex_81 rfl ?_
            exact mv_iret (pc := 92) B hr rfl d_Tokens_cutHex_92 (Nat.le_refl _) (Nat.le_refl _) ⟨_, rfl, by first | exact ⟨2, _, 0, rfl, by omega, Or.inl ⟨rfl, Or.inr rfl⟩⟩ | (rcases h89 with ⟨q1, q2⟩ | ⟨q1, q2⟩; exact ⟨2, _, 0, q1, by omega, Or.inl ⟨q2, Or.inr rfl⟩⟩; exact ⟨4, _, _, q1, by omega, Or.inr ⟨by rw [q2]; omega, by rw [q2]; omega, by decide, fun q => absurd q (by decide)⟩⟩)⟩
        · skip
          refine mv_iload (pc := 29) B d_Tokens_cutHex_29 0 rfl ?_
          refine mv_iload_n (pc := 31) B d_Tokens_cutHex_31 rfl 3 rfl ?_
          refine mv_bipush (pc := 32) (v := 18) B d_Tokens_cutHex_32 (by decide) ?_
          refine mv_iadd (pc := 34) B d_Tokens_cutHex_34 ?_
          refine mv_icmp_ne (pc := 35) (tgt := 45) B d_Tokens_cutHex_35 rfl (fun h35 => ?_) (fun h35 => ?_)
          · skip
            refine mv_lload_n (pc := 45) B d_Tokens_cutHex_45 rfl 1 rfl ?_
            refine mv_iconst (pc := 46) (v := 4) B d_Tokens_cutHex_46 (by decide) ?_
            refine mv_lshl (pc := 47) B d_Tokens_cutHex_47 ?_
            refine mv_aload_n (pc := 48) B d_Tokens_cutHex_48 rfl 2 rfl ?_
            refine mv_getR (pc := 49) (ci := 2) (C := R_Tokens) (T := F_Tokens) (N := 10) B 4 rfl rfl (by decide) i_Tokens (B.2.2.2.1 _ k_98) rfl ht d_Tokens_cutHex_49 ?_
            refine mv_iload (pc := 52) B d_Tokens_cutHex_52 0 rfl ?_
            refine mv_bald (pc := 54) B hts (i32_in (by omega) (by omega)) d_Tokens_cutHex_54 ?_
            refine mv_callSi (pc := 55) (n := 1) B (mK_ok sk sv) hNs (c_Tokens_hexDigit l hi _ _) rfl (ma_goodc kc_Tokens_hexDigit) (B.2.2.2.1 _ k_842) (B.2.2.2.1 _ k_843) (B.2.2.2.1 _ k_3) ⟨by decide +kernel, by decide +kernel, by decide +kernel⟩ rfl d_Tokens_cutHex_55 rfl (Nat.le_of_ble_eq_true rfl) ⟨by decide, by decide⟩ ⟨by decide, by decide⟩ ⟨by decide, by decide⟩ (mv_noH hno _) (fun v55 σ55 h55 => ?_)
            subst h55
            refine mv_i2l (pc := 58) B d_Tokens_cutHex_58 ?_
            refine mv_lor (pc := 59) B d_Tokens_cutHex_59 ?_
            refine mv_lstore_n (pc := 60) B d_Tokens_cutHex_60 rfl (by decide) rfl ?_
            refine mv_iinc (pc := 61) (j := 1) (v := 1) B d_Tokens_cutHex_61 rfl (by decide) (by decide) rfl ?_
            refine mv_goto (pc := 64) (tgt := 7) B d_Tokens_cutHex_64 rfl ?_
            refine mv_lpick [0, 1, 2, 3] rfl ?_
            exact ih _ _ (by rw [i32_inc (by omega)]; omega) (by rw [i32_inc (by omega)]; omega) (by rw [i32_inc (by omega)]; omega)
          · skip
            refine mv_aload_n (pc := 38) B d_Tokens_cutHex_38 rfl 2 rfl ?_
            refine mv_iload (pc := 39) B d_Tokens_cutHex_39 0 rfl ?_
            refine mv_callVi (pc := 41) (n := 1) (ci := 2) (C := R_Tokens) B (mK_ok sk sv) hNs rfl rfl (c_Tokens_broken l hi _ _ hsh hsz) rfl (ma_goodc kc_Tokens_broken) (B.2.2.2.1 _ k_845) (B.2.2.2.1 _ k_847) (B.2.2.2.1 _ ks_24) (B.2.2.2.1 _ k_3) ⟨by decide +kernel, by decide +kernel, by decide +kernel⟩ rfl d_Tokens_cutHex_41 rfl (Nat.le_of_ble_eq_true rfl) ⟨by decide, by decide⟩ ⟨by decide, by decide⟩ ⟨by decide, by decide⟩ (mv_noH hno _) (fun v41 σ41 h41 => ?_)
            obtain ⟨rfl, rfl⟩ := h41
            exact mv_iret (pc := 44) B hr rfl d_Tokens_cutHex_44 (Nat.le_refl _) (Nat.le_refl _) ⟨_, rfl, 2, _, 0, rfl, by omega, Or.inl ⟨rfl, Or.inr rfl⟩⟩
  refine mv_lconst (pc := 0) (v := 0) B d_Tokens_cutHex_0 (by decide) ?_
  refine mv_lstore_n (pc := 1) B d_Tokens_cutHex_1 rfl (by decide) rfl ?_
  refine mv_iload_n (pc := 2) B d_Tokens_cutHex_2 rfl 2 rfl ?_
  refine mv_iconst (pc := 3) (v := 2) B d_Tokens_cutHex_3 (by decide) ?_
  refine mv_iadd (pc := 4) B d_Tokens_cutHex_4 ?_
  refine mv_topi (fun y4 ey4 => ?_)
  have fy4 := i32_addE ey4 (by (try simp only [Int32.reduceToInt]); omega) (by (try simp only [Int32.reduceToInt]); omega)
  try simp only [Int32.reduceToInt] at fy4
  refine mv_istore (pc := 5) B d_Tokens_cutHex_5 (by decide) rfl ?_
  refine mv_lpick [0, 1, 2, 3] rfl ?_
  exact lp _ _ _ (by omega) (by omega) (Nat.lt_succ_self _)
