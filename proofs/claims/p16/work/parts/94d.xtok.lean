/-! exact runs: Tokens and Symbols -/
def g_Tokens_isDigit_16 (h : xE) : Option (Nat × xE) := bif Nat.blt 0 2 then some (0, h) else none
def g_Tokens_isDigit (h : xE) (a0 : Nat) : Option (Nat × xE) := bif xlt a0 48 then (g_Tokens_isDigit_16  h) else (bif xlt 57 a0 then (g_Tokens_isDigit_16  h) else (bif Nat.blt 1 2 then some (1, h) else none))
set_option maxHeartbeats 4000000 in
set_option maxRecDepth 100000 in
theorem cx_Tokens_isDigit (l : Launch) {dA : FieldType → ClassId} {D : va_G} {al : Nat → Nat} {sk sv : Nat → Nat} (hi : mv_inj (mg dA D al me)) (b : mv_H) (h : xE) (a0 : Nat) {rv : Nat} {rg : xE} (hf : g_Tokens_isDigit h a0 = some (rv, rg)) : mv_C l y_Tokens_isDigit (Cond.code y_Tokens_isDigit b_Tokens_isDigit 1 (Option.some Jvm.ClassFile.FieldType.boolean) :: ma) ({ frames := 0, cells := 0, slots := 0, locals := 0 }) (mg dA D al me) (mK sk sv) [.int (nI a0)] (ab b h) (mv_Ri (fun v σ1 => v = nI rv ∧ σ1 = ab b rg)) := by
  refine mv_C.ofV (cc := b_Tokens_isDigit) (nL := 1) (ret := (Option.some Jvm.ClassFile.FieldType.boolean)) (by decide +kernel) rfl hi (Nat.le_of_ble_eq_true rfl) ?_
  intro p e s m below meth c B hNs hr hnm hno
  have jn16 : ∀ (h : xE), g_Tokens_isDigit_16  h = some (rv, rg) → mv_V p l e ({ frames := 0, cells := 0, slots := 0, locals := 0 }) s m ([.int (nI a0)] : List Value).toArray below meth c (mg dA D al me) 1 0 0 (mv_Q (mg dA D al me) below s 0 0 (mv_Ri (fun v σ1 => v = nI rv ∧ σ1 = ab b rg))) (ab b h) 16 [] [] := by
    intro  h hf
    unfold g_Tokens_isDigit_16 at hf
    refine mv_iconst (pc := 16) (v := nI 0) B d_Tokens_isDigit_16 (by decide) ?_
    obtain ⟨q1, hf⟩ := xix_e hf
    exact mv_iret (pc := 17) B hr (xz1 q1) d_Tokens_isDigit_17 (Nat.le_refl _) (Nat.le_refl _) ⟨_, rfl, xret_i hf⟩
  unfold g_Tokens_isDigit at hf
  refine mv_iload_n (pc := 0) B d_Tokens_isDigit_0 rfl 0 rfl ?_
  refine mv_bipush (pc := 1) (v := nI 48) B d_Tokens_isDigit_1 (by decide) ?_
  refine mv_icmp_lt (pc := 3) (tgt := 16) B d_Tokens_isDigit_3 rfl (fun h3 => ?_) (fun h3 => ?_)
  · skip
    have hf := x_lt_t h3 hf
    refine mv_lpick [] rfl ?_
    exact jn16  _ hf
  · skip
    have hf := x_lt_f h3 hf
    refine mv_iload_n (pc := 6) B d_Tokens_isDigit_6 rfl 0 rfl ?_
    refine mv_bipush (pc := 7) (v := nI 57) B d_Tokens_isDigit_7 (by decide) ?_
    refine mv_icmp_gt (pc := 9) (tgt := 16) B d_Tokens_isDigit_9 rfl (fun h9 => ?_) (fun h9 => ?_)
    · skip
      have hf := x_lt_t h9 hf
      refine mv_lpick [] rfl ?_
      exact jn16  _ hf
    · skip
      have hf := x_lt_f h9 hf
      refine mv_iconst (pc := 12) (v := nI 1) B d_Tokens_isDigit_12 (by decide) ?_
      refine mv_goto (pc := 13) (tgt := 17) B d_Tokens_isDigit_13 rfl ?_
      obtain ⟨q2, hf⟩ := xix_e hf
      exact mv_iret (pc := 17) B hr (xz1 q2) d_Tokens_isDigit_17 (Nat.le_refl _) (Nat.le_refl _) ⟨_, rfl, xret_i hf⟩
def g_Tokens_isLetter_28 (h : xE) : Option (Nat × xE) := bif Nat.blt 0 2 then some (0, h) else none
def g_Tokens_isLetter_24 (h : xE) : Option (Nat × xE) := bif Nat.blt 1 2 then some (1, h) else none
def g_Tokens_isLetter_12 (x0 : Nat) (h : xE) : Option (Nat × xE) := bif xlt x0 65 then (g_Tokens_isLetter_28  h) else (bif xlt 90 x0 then (g_Tokens_isLetter_28  h) else (g_Tokens_isLetter_24  h))
def g_Tokens_isLetter (h : xE) (a0 : Nat) : Option (Nat × xE) := bif xlt a0 97 then (g_Tokens_isLetter_12 a0 h) else (bif xlt 122 a0 then (g_Tokens_isLetter_12 a0 h) else (g_Tokens_isLetter_24  h))
set_option maxHeartbeats 4000000 in
set_option maxRecDepth 100000 in
theorem cx_Tokens_isLetter (l : Launch) {dA : FieldType → ClassId} {D : va_G} {al : Nat → Nat} {sk sv : Nat → Nat} (hi : mv_inj (mg dA D al me)) (b : mv_H) (h : xE) (a0 : Nat) {rv : Nat} {rg : xE} (hf : g_Tokens_isLetter h a0 = some (rv, rg)) : mv_C l y_Tokens_isLetter (Cond.code y_Tokens_isLetter b_Tokens_isLetter 1 (Option.some Jvm.ClassFile.FieldType.boolean) :: ma) ({ frames := 0, cells := 0, slots := 0, locals := 0 }) (mg dA D al me) (mK sk sv) [.int (nI a0)] (ab b h) (mv_Ri (fun v σ1 => v = nI rv ∧ σ1 = ab b rg)) := by
  refine mv_C.ofV (cc := b_Tokens_isLetter) (nL := 1) (ret := (Option.some Jvm.ClassFile.FieldType.boolean)) (by decide +kernel) rfl hi (Nat.le_of_ble_eq_true rfl) ?_
  intro p e s m below meth c B hNs hr hnm hno
  have jn28 : ∀ (h : xE), g_Tokens_isLetter_28  h = some (rv, rg) → mv_V p l e ({ frames := 0, cells := 0, slots := 0, locals := 0 }) s m ([.int (nI a0)] : List Value).toArray below meth c (mg dA D al me) 1 0 0 (mv_Q (mg dA D al me) below s 0 0 (mv_Ri (fun v σ1 => v = nI rv ∧ σ1 = ab b rg))) (ab b h) 28 [] [] := by
    intro  h hf
    unfold g_Tokens_isLetter_28 at hf
    refine mv_iconst (pc := 28) (v := nI 0) B d_Tokens_isLetter_28 (by decide) ?_
    obtain ⟨q1, hf⟩ := xix_e hf
    exact mv_iret (pc := 29) B hr (xz1 q1) d_Tokens_isLetter_29 (Nat.le_refl _) (Nat.le_refl _) ⟨_, rfl, xret_i hf⟩
  have jn24 : ∀ (h : xE), g_Tokens_isLetter_24  h = some (rv, rg) → mv_V p l e ({ frames := 0, cells := 0, slots := 0, locals := 0 }) s m ([.int (nI a0)] : List Value).toArray below meth c (mg dA D al me) 1 0 0 (mv_Q (mg dA D al me) below s 0 0 (mv_Ri (fun v σ1 => v = nI rv ∧ σ1 = ab b rg))) (ab b h) 24 [] [] := by
    intro  h hf
    unfold g_Tokens_isLetter_24 at hf
    refine mv_iconst (pc := 24) (v := nI 1) B d_Tokens_isLetter_24 (by decide) ?_
    refine mv_goto (pc := 25) (tgt := 29) B d_Tokens_isLetter_25 rfl ?_
    obtain ⟨q2, hf⟩ := xix_e hf
    exact mv_iret (pc := 29) B hr (xz1 q2) d_Tokens_isLetter_29 (Nat.le_refl _) (Nat.le_refl _) ⟨_, rfl, xret_i hf⟩
  have jn12 : ∀ (x0 : Nat) (h : xE), g_Tokens_isLetter_12 x0 h = some (rv, rg) → mv_V p l e ({ frames := 0, cells := 0, slots := 0, locals := 0 }) s m ([.int (nI a0)] : List Value).toArray below meth c (mg dA D al me) 1 0 0 (mv_Q (mg dA D al me) below s 0 0 (mv_Ri (fun v σ1 => v = nI rv ∧ σ1 = ab b rg))) (ab b h) 12 [(0, .int (nI x0))] [] := by
    intro x0 h hf
    unfold g_Tokens_isLetter_12 at hf
    refine mv_iload_n (pc := 12) B d_Tokens_isLetter_12 rfl 0 rfl ?_
    refine mv_bipush (pc := 13) (v := nI 65) B d_Tokens_isLetter_13 (by decide) ?_
    refine mv_icmp_lt (pc := 15) (tgt := 28) B d_Tokens_isLetter_15 rfl (fun h15 => ?_) (fun h15 => ?_)
    · skip
      have hf := x_lt_t h15 hf
      refine mv_lpick [] rfl ?_
      exact jn28  _ hf
    · skip
      have hf := x_lt_f h15 hf
      refine mv_iload_n (pc := 18) B d_Tokens_isLetter_18 rfl 0 rfl ?_
      refine mv_bipush (pc := 19) (v := nI 90) B d_Tokens_isLetter_19 (by decide) ?_
      refine mv_icmp_gt (pc := 21) (tgt := 28) B d_Tokens_isLetter_21 rfl (fun h21 => ?_) (fun h21 => ?_)
      · skip
        have hf := x_lt_t h21 hf
        refine mv_lpick [] rfl ?_
        exact jn28  _ hf
      · skip
        have hf := x_lt_f h21 hf
        refine mv_lpick [] rfl ?_
        exact jn24  _ hf
  unfold g_Tokens_isLetter at hf
  refine mv_iload_n (pc := 0) B d_Tokens_isLetter_0 rfl 0 rfl ?_
  refine mv_bipush (pc := 1) (v := nI 97) B d_Tokens_isLetter_1 (by decide) ?_
  refine mv_icmp_lt (pc := 3) (tgt := 12) B d_Tokens_isLetter_3 rfl (fun h3 => ?_) (fun h3 => ?_)
  · skip
    have hf := x_lt_t h3 hf
    refine mv_lpick [0] rfl ?_
    exact jn12 _ _ hf
  · skip
    have hf := x_lt_f h3 hf
    refine mv_iload_n (pc := 6) B d_Tokens_isLetter_6 rfl 0 rfl ?_
    refine mv_bipush (pc := 7) (v := nI 122) B d_Tokens_isLetter_7 (by decide) ?_
    refine mv_icmp_le (pc := 9) (tgt := 24) B d_Tokens_isLetter_9 rfl (fun h9 => ?_) (fun h9 => ?_)
    · skip
      have hf := x_le_t h9 hf
      refine mv_lpick [] rfl ?_
      exact jn24  _ hf
    · skip
      have hf := x_le_f h9 hf
      refine mv_lpick [0] rfl ?_
      exact jn12 _ _ hf
def g_Tokens_isOfName_20 (h : xE) : Option (Nat × xE) := bif Nat.blt 1 2 then some (1, h) else none
def g_Tokens_isOfName (h : xE) (a0 : Nat) : Option (Nat × xE) := xeb (g_Tokens_isLetter h a0) fun v3 h2 => bif xeq v3 0 then (xeb (g_Tokens_isDigit h2 a0) fun v5 h4 => bif xeq v5 0 then (bif xeq a0 95 then (g_Tokens_isOfName_20  h4) else (bif Nat.blt 0 2 then some (0, h4) else none)) else (g_Tokens_isOfName_20  h4)) else (g_Tokens_isOfName_20  h2)
set_option maxHeartbeats 4000000 in
set_option maxRecDepth 100000 in
theorem cx_Tokens_isOfName (l : Launch) {dA : FieldType → ClassId} {D : va_G} {al : Nat → Nat} {sk sv : Nat → Nat} (hi : mv_inj (mg dA D al me)) (b : mv_H) (h : xE) (a0 : Nat) {rv : Nat} {rg : xE} (hf : g_Tokens_isOfName h a0 = some (rv, rg)) : mv_C l y_Tokens_isOfName (Cond.code y_Tokens_isOfName b_Tokens_isOfName 1 (Option.some Jvm.ClassFile.FieldType.boolean) :: ma) ({ frames := 1, cells := 0, slots := 0, locals := 20 }) (mg dA D al me) (mK sk sv) [.int (nI a0)] (ab b h) (mv_Ri (fun v σ1 => v = nI rv ∧ σ1 = ab b rg)) := by
  refine mv_C.ofV (cc := b_Tokens_isOfName) (nL := 1) (ret := (Option.some Jvm.ClassFile.FieldType.boolean)) (by decide +kernel) rfl hi (Nat.le_of_ble_eq_true rfl) ?_
  intro p e s m below meth c B hNs hr hnm hno
  have jn20 : ∀ (h : xE), g_Tokens_isOfName_20  h = some (rv, rg) → mv_V p l e ({ frames := 1, cells := 0, slots := 0, locals := 20 }) s m ([.int (nI a0)] : List Value).toArray below meth c (mg dA D al me) 1 0 0 (mv_Q (mg dA D al me) below s 0 0 (mv_Ri (fun v σ1 => v = nI rv ∧ σ1 = ab b rg))) (ab b h) 20 [] [] := by
    intro  h hf
    unfold g_Tokens_isOfName_20 at hf
    refine mv_iconst (pc := 20) (v := nI 1) B d_Tokens_isOfName_20 (by decide) ?_
    refine mv_goto (pc := 21) (tgt := 25) B d_Tokens_isOfName_21 rfl ?_
    obtain ⟨q1, hf⟩ := xix_e hf
    exact mv_iret (pc := 25) B hr (xz1 q1) d_Tokens_isOfName_25 (Nat.le_refl _) (Nat.le_refl _) ⟨_, rfl, xret_i hf⟩
  unfold g_Tokens_isOfName at hf
  refine mv_iload_n (pc := 0) B d_Tokens_isOfName_0 rfl 0 rfl ?_
  obtain ⟨v3, h2, eh2, hf⟩ := xeb_e hf
  refine mv_callSi (pc := 1) (n := 1) B (mK_ok sk sv) hNs (cx_Tokens_isLetter l hi _ _ _ eh2) rfl (ma_goodc kc_Tokens_isLetter) (B.2.2.2.1 _ k_853) (B.2.2.2.1 _ k_854) (B.2.2.2.1 _ k_3) ⟨by decide +kernel, by decide +kernel, by decide +kernel⟩ rfl d_Tokens_isOfName_1 rfl (Nat.le_of_ble_eq_true rfl) ⟨by decide, by decide⟩ ⟨by decide, by decide⟩ ⟨by decide, by decide⟩ (mv_noH hno _) (fun w1 σ1 h1 => ?_)
  obtain ⟨rfl, rfl⟩ := h1
  refine mv_if_ne (pc := 4) (tgt := 20) B d_Tokens_isOfName_4 rfl (fun h4 => ?_) (fun h4 => ?_)
  · skip
    have hf := x_eq_f (y := 0) h4 hf
    refine mv_lpick [] rfl ?_
    exact jn20  _ hf
  · skip
    have hf := x_eq_t (y := 0) h4 hf
    refine mv_iload_n (pc := 7) B d_Tokens_isOfName_7 rfl 0 rfl ?_
    obtain ⟨v5, h4, eh4, hf⟩ := xeb_e hf
    refine mv_callSi (pc := 8) (n := 1) B (mK_ok sk sv) hNs (cx_Tokens_isDigit l hi _ _ _ eh4) rfl (ma_goodc kc_Tokens_isDigit) (B.2.2.2.1 _ k_835) (B.2.2.2.1 _ k_836) (B.2.2.2.1 _ k_3) ⟨by decide +kernel, by decide +kernel, by decide +kernel⟩ rfl d_Tokens_isOfName_8 rfl (Nat.le_of_ble_eq_true rfl) ⟨by decide, by decide⟩ ⟨by decide, by decide⟩ ⟨by decide, by decide⟩ (mv_noH hno _) (fun w8 σ8 h8 => ?_)
    obtain ⟨rfl, rfl⟩ := h8
    refine mv_if_ne (pc := 11) (tgt := 20) B d_Tokens_isOfName_11 rfl (fun h11 => ?_) (fun h11 => ?_)
    · skip
      have hf := x_eq_f (y := 0) h11 hf
      refine mv_lpick [] rfl ?_
      exact jn20  _ hf
    · skip
      have hf := x_eq_t (y := 0) h11 hf
      refine mv_iload_n (pc := 14) B d_Tokens_isOfName_14 rfl 0 rfl ?_
      refine mv_bipush (pc := 15) (v := nI 95) B d_Tokens_isOfName_15 (by decide) ?_
      refine mv_icmp_ne (pc := 17) (tgt := 24) B d_Tokens_isOfName_17 rfl (fun h17 => ?_) (fun h17 => ?_)
      · skip
        have hf := x_eq_f h17 hf
        refine mv_iconst (pc := 24) (v := nI 0) B d_Tokens_isOfName_24 (by decide) ?_
        obtain ⟨q6, hf⟩ := xix_e hf
        exact mv_iret (pc := 25) B hr (xz1 q6) d_Tokens_isOfName_25 (Nat.le_refl _) (Nat.le_refl _) ⟨_, rfl, xret_i hf⟩
      · skip
        have hf := x_eq_t h17 hf
        refine mv_lpick [] rfl ?_
        exact jn20  _ hf
def g_Tokens_isOfCode_25 (h : xE) : Option (Nat × xE) := bif Nat.blt 1 2 then some (1, h) else none
def g_Tokens_isOfCode (h : xE) (a0 : Nat) : Option (Nat × xE) := xeb (g_Tokens_isLetter h a0) fun v3 h2 => bif xeq v3 0 then (bif xeq a0 48 then (g_Tokens_isOfCode_25  h2) else (bif xeq a0 49 then (g_Tokens_isOfCode_25  h2) else (bif xeq a0 46 then (g_Tokens_isOfCode_25  h2) else (bif Nat.blt 0 2 then some (0, h2) else none)))) else (g_Tokens_isOfCode_25  h2)
set_option maxHeartbeats 4000000 in
set_option maxRecDepth 100000 in
theorem cx_Tokens_isOfCode (l : Launch) {dA : FieldType → ClassId} {D : va_G} {al : Nat → Nat} {sk sv : Nat → Nat} (hi : mv_inj (mg dA D al me)) (b : mv_H) (h : xE) (a0 : Nat) {rv : Nat} {rg : xE} (hf : g_Tokens_isOfCode h a0 = some (rv, rg)) : mv_C l y_Tokens_isOfCode (Cond.code y_Tokens_isOfCode b_Tokens_isOfCode 1 (Option.some Jvm.ClassFile.FieldType.boolean) :: ma) ({ frames := 1, cells := 0, slots := 0, locals := 20 }) (mg dA D al me) (mK sk sv) [.int (nI a0)] (ab b h) (mv_Ri (fun v σ1 => v = nI rv ∧ σ1 = ab b rg)) := by
  refine mv_C.ofV (cc := b_Tokens_isOfCode) (nL := 1) (ret := (Option.some Jvm.ClassFile.FieldType.boolean)) (by decide +kernel) rfl hi (Nat.le_of_ble_eq_true rfl) ?_
  intro p e s m below meth c B hNs hr hnm hno
  have jn25 : ∀ (h : xE), g_Tokens_isOfCode_25  h = some (rv, rg) → mv_V p l e ({ frames := 1, cells := 0, slots := 0, locals := 20 }) s m ([.int (nI a0)] : List Value).toArray below meth c (mg dA D al me) 1 0 0 (mv_Q (mg dA D al me) below s 0 0 (mv_Ri (fun v σ1 => v = nI rv ∧ σ1 = ab b rg))) (ab b h) 25 [] [] := by
    intro  h hf
    unfold g_Tokens_isOfCode_25 at hf
    refine mv_iconst (pc := 25) (v := nI 1) B d_Tokens_isOfCode_25 (by decide) ?_
    refine mv_goto (pc := 26) (tgt := 30) B d_Tokens_isOfCode_26 rfl ?_
    obtain ⟨q1, hf⟩ := xix_e hf
    exact mv_iret (pc := 30) B hr (xz1 q1) d_Tokens_isOfCode_30 (Nat.le_refl _) (Nat.le_refl _) ⟨_, rfl, xret_i hf⟩
  unfold g_Tokens_isOfCode at hf
  refine mv_iload_n (pc := 0) B d_Tokens_isOfCode_0 rfl 0 rfl ?_
  obtain ⟨v3, h2, eh2, hf⟩ := xeb_e hf
  refine mv_callSi (pc := 1) (n := 1) B (mK_ok sk sv) hNs (cx_Tokens_isLetter l hi _ _ _ eh2) rfl (ma_goodc kc_Tokens_isLetter) (B.2.2.2.1 _ k_853) (B.2.2.2.1 _ k_854) (B.2.2.2.1 _ k_3) ⟨by decide +kernel, by decide +kernel, by decide +kernel⟩ rfl d_Tokens_isOfCode_1 rfl (Nat.le_of_ble_eq_true rfl) ⟨by decide, by decide⟩ ⟨by decide, by decide⟩ ⟨by decide, by decide⟩ (mv_noH hno _) (fun w1 σ1 h1 => ?_)
  obtain ⟨rfl, rfl⟩ := h1
  refine mv_if_ne (pc := 4) (tgt := 25) B d_Tokens_isOfCode_4 rfl (fun h4 => ?_) (fun h4 => ?_)
  · skip
    have hf := x_eq_f (y := 0) h4 hf
    refine mv_lpick [] rfl ?_
    exact jn25  _ hf
  · skip
    have hf := x_eq_t (y := 0) h4 hf
    refine mv_iload_n (pc := 7) B d_Tokens_isOfCode_7 rfl 0 rfl ?_
    refine mv_bipush (pc := 8) (v := nI 48) B d_Tokens_isOfCode_8 (by decide) ?_
    refine mv_icmp_eq (pc := 10) (tgt := 25) B d_Tokens_isOfCode_10 rfl (fun h10 => ?_) (fun h10 => ?_)
    · skip
      have hf := x_eq_t h10 hf
      refine mv_lpick [] rfl ?_
      exact jn25  _ hf
    · skip
      have hf := x_eq_f h10 hf
      refine mv_iload_n (pc := 13) B d_Tokens_isOfCode_13 rfl 0 rfl ?_
      refine mv_bipush (pc := 14) (v := nI 49) B d_Tokens_isOfCode_14 (by decide) ?_
      refine mv_icmp_eq (pc := 16) (tgt := 25) B d_Tokens_isOfCode_16 rfl (fun h16 => ?_) (fun h16 => ?_)
      · skip
        have hf := x_eq_t h16 hf
        refine mv_lpick [] rfl ?_
        exact jn25  _ hf
      · skip
        have hf := x_eq_f h16 hf
        refine mv_iload_n (pc := 19) B d_Tokens_isOfCode_19 rfl 0 rfl ?_
        refine mv_bipush (pc := 20) (v := nI 46) B d_Tokens_isOfCode_20 (by decide) ?_
        refine mv_icmp_ne (pc := 22) (tgt := 29) B d_Tokens_isOfCode_22 rfl (fun h22 => ?_) (fun h22 => ?_)
        · skip
          have hf := x_eq_f h22 hf
          refine mv_iconst (pc := 29) (v := nI 0) B d_Tokens_isOfCode_29 (by decide) ?_
          obtain ⟨q4, hf⟩ := xix_e hf
          exact mv_iret (pc := 30) B hr (xz1 q4) d_Tokens_isOfCode_30 (Nat.le_refl _) (Nat.le_refl _) ⟨_, rfl, xret_i hf⟩
        · skip
          have hf := x_eq_t h22 hf
          refine mv_lpick [] rfl ?_
          exact jn25  _ hf
def g_Tokens_hexDigit_54 (h : xE) : Option (Nat × xE) := some (4294967295, h)
def g_Tokens_hexDigit_32 (x0 : Nat) (h : xE) : Option (Nat × xE) := bif xlt x0 65 then (g_Tokens_hexDigit_54  h) else (bif xlt 70 x0 then (g_Tokens_hexDigit_54  h) else (some ((xadd (xsub x0 65) 10), h)))
def g_Tokens_hexDigit (h : xE) (a0 : Nat) : Option (Nat × xE) := xeb (g_Tokens_isDigit h a0) fun v2 h1 => bif xeq v2 0 then (bif xlt a0 97 then (g_Tokens_hexDigit_32 a0 h1) else (bif xlt 102 a0 then (g_Tokens_hexDigit_32 a0 h1) else (some ((xadd (xsub a0 97) 10), h1)))) else (some ((xsub a0 48), h1))
set_option maxHeartbeats 4000000 in
set_option maxRecDepth 100000 in
theorem cx_Tokens_hexDigit (l : Launch) {dA : FieldType → ClassId} {D : va_G} {al : Nat → Nat} {sk sv : Nat → Nat} (hi : mv_inj (mg dA D al me)) (b : mv_H) (h : xE) (a0 : Nat) {rv : Nat} {rg : xE} (hf : g_Tokens_hexDigit h a0 = some (rv, rg)) : mv_C l y_Tokens_hexDigit (Cond.code y_Tokens_hexDigit b_Tokens_hexDigit 1 (Option.some Jvm.ClassFile.FieldType.int) :: ma) ({ frames := 1, cells := 0, slots := 0, locals := 20 }) (mg dA D al me) (mK sk sv) [.int (nI a0)] (ab b h) (mv_Ri (fun v σ1 => v = nI rv ∧ σ1 = ab b rg)) := by
  refine mv_C.ofV (cc := b_Tokens_hexDigit) (nL := 1) (ret := (Option.some Jvm.ClassFile.FieldType.int)) (by decide +kernel) rfl hi (Nat.le_of_ble_eq_true rfl) ?_
  intro p e s m below meth c B hNs hr hnm hno
  have jn54 : ∀ (h : xE), g_Tokens_hexDigit_54  h = some (rv, rg) → mv_V p l e ({ frames := 1, cells := 0, slots := 0, locals := 20 }) s m ([.int (nI a0)] : List Value).toArray below meth c (mg dA D al me) 1 0 0 (mv_Q (mg dA D al me) below s 0 0 (mv_Ri (fun v σ1 => v = nI rv ∧ σ1 = ab b rg))) (ab b h) 54 [] [] := by
    intro  h hf
    unfold g_Tokens_hexDigit_54 at hf
    refine mv_iconst (pc := 54) (v := nI 4294967295) B d_Tokens_hexDigit_54 (by decide) ?_
    exact mv_iret (pc := 55) B hr rfl d_Tokens_hexDigit_55 (Nat.le_refl _) (Nat.le_refl _) ⟨_, rfl, xret_i hf⟩
  have jn32 : ∀ (x0 : Nat) (h : xE), g_Tokens_hexDigit_32 x0 h = some (rv, rg) → mv_V p l e ({ frames := 1, cells := 0, slots := 0, locals := 20 }) s m ([.int (nI a0)] : List Value).toArray below meth c (mg dA D al me) 1 0 0 (mv_Q (mg dA D al me) below s 0 0 (mv_Ri (fun v σ1 => v = nI rv ∧ σ1 = ab b rg))) (ab b h) 32 [(0, .int (nI x0))] [] := by
    intro x0 h hf
    unfold g_Tokens_hexDigit_32 at hf
    refine mv_iload_n (pc := 32) B d_Tokens_hexDigit_32 rfl 0 rfl ?_
    refine mv_bipush (pc := 33) (v := nI 65) B d_Tokens_hexDigit_33 (by decide) ?_
    refine mv_icmp_lt (pc := 35) (tgt := 54) B d_Tokens_hexDigit_35 rfl (fun h35 => ?_) (fun h35 => ?_)
    · skip
      have hf := x_lt_t h35 hf
      refine mv_lpick [] rfl ?_
      exact jn54  _ hf
    · skip
      have hf := x_lt_f h35 hf
      refine mv_iload_n (pc := 38) B d_Tokens_hexDigit_38 rfl 0 rfl ?_
      refine mv_bipush (pc := 39) (v := nI 70) B d_Tokens_hexDigit_39 (by decide) ?_
      refine mv_icmp_gt (pc := 41) (tgt := 54) B d_Tokens_hexDigit_41 rfl (fun h41 => ?_) (fun h41 => ?_)
      · skip
        have hf := x_lt_t h41 hf
        refine mv_lpick [] rfl ?_
        exact jn54  _ hf
      · skip
        have hf := x_lt_f h41 hf
        refine mv_iload_n (pc := 44) B d_Tokens_hexDigit_44 rfl 0 rfl ?_
        refine mv_bipush (pc := 45) (v := nI 65) B d_Tokens_hexDigit_45 (by decide) ?_
        refine mvn_isub (pc := 47) B d_Tokens_hexDigit_47 ?_
        refine mv_bipush (pc := 48) (v := nI 10) B d_Tokens_hexDigit_48 (by decide) ?_
        refine mvn_iadd (pc := 50) B d_Tokens_hexDigit_50 ?_
        refine mv_goto (pc := 51) (tgt := 55) B d_Tokens_hexDigit_51 rfl ?_
        exact mv_iret (pc := 55) B hr rfl d_Tokens_hexDigit_55 (Nat.le_refl _) (Nat.le_refl _) ⟨_, rfl, xret_i hf⟩
  unfold g_Tokens_hexDigit at hf
  refine mv_iload_n (pc := 0) B d_Tokens_hexDigit_0 rfl 0 rfl ?_
  obtain ⟨v2, h1, eh1, hf⟩ := xeb_e hf
  refine mv_callSi (pc := 1) (n := 1) B (mK_ok sk sv) hNs (cx_Tokens_isDigit l hi _ _ _ eh1) rfl (ma_goodc kc_Tokens_isDigit) (B.2.2.2.1 _ k_835) (B.2.2.2.1 _ k_836) (B.2.2.2.1 _ k_3) ⟨by decide +kernel, by decide +kernel, by decide +kernel⟩ rfl d_Tokens_hexDigit_1 rfl (Nat.le_of_ble_eq_true rfl) ⟨by decide, by decide⟩ ⟨by decide, by decide⟩ ⟨by decide, by decide⟩ (mv_noH hno _) (fun w1 σ1 h1 => ?_)
  obtain ⟨rfl, rfl⟩ := h1
  refine mv_if_eq (pc := 4) (tgt := 12) B d_Tokens_hexDigit_4 rfl (fun h4 => ?_) (fun h4 => ?_)
  · skip
    have hf := x_eq_t (y := 0) h4 hf
    refine mv_iload_n (pc := 12) B d_Tokens_hexDigit_12 rfl 0 rfl ?_
    refine mv_bipush (pc := 13) (v := nI 97) B d_Tokens_hexDigit_13 (by decide) ?_
    refine mv_icmp_lt (pc := 15) (tgt := 32) B d_Tokens_hexDigit_15 rfl (fun h15 => ?_) (fun h15 => ?_)
    · skip
      have hf := x_lt_t h15 hf
      refine mv_lpick [0] rfl ?_
      exact jn32 _ _ hf
    · skip
      have hf := x_lt_f h15 hf
      refine mv_iload_n (pc := 18) B d_Tokens_hexDigit_18 rfl 0 rfl ?_
      refine mv_bipush (pc := 19) (v := nI 102) B d_Tokens_hexDigit_19 (by decide) ?_
      refine mv_icmp_gt (pc := 21) (tgt := 32) B d_Tokens_hexDigit_21 rfl (fun h21 => ?_) (fun h21 => ?_)
      · skip
        have hf := x_lt_t h21 hf
        refine mv_lpick [0] rfl ?_
        exact jn32 _ _ hf
      · skip
        have hf := x_lt_f h21 hf
        refine mv_iload_n (pc := 24) B d_Tokens_hexDigit_24 rfl 0 rfl ?_
        refine mv_bipush (pc := 25) (v := nI 97) B d_Tokens_hexDigit_25 (by decide) ?_
        refine mvn_isub (pc := 27) B d_Tokens_hexDigit_27 ?_
        refine mv_bipush (pc := 28) (v := nI 10) B d_Tokens_hexDigit_28 (by decide) ?_
        refine mvn_iadd (pc := 30) B d_Tokens_hexDigit_30 ?_
        exact mv_iret (pc := 31) B hr rfl d_Tokens_hexDigit_31 (Nat.le_refl _) (Nat.le_refl _) ⟨_, rfl, xret_i hf⟩
  · skip
    have hf := x_eq_f (y := 0) h4 hf
    refine mv_iload_n (pc := 7) B d_Tokens_hexDigit_7 rfl 0 rfl ?_
    refine mv_bipush (pc := 8) (v := nI 48) B d_Tokens_hexDigit_8 (by decide) ?_
    refine mvn_isub (pc := 10) B d_Tokens_hexDigit_10 ?_
    exact mv_iret (pc := 11) B hr rfl d_Tokens_hexDigit_11 (Nat.le_refl _) (Nat.le_refl _) ⟨_, rfl, xret_i hf⟩
def g_Tokens_pairOf (h : xE) (a0 : Nat) (a1 : Nat) : Option (Nat × xE) := bif xeq a1 61 then (bif xeq a0 61 then (some (128, h)) else (bif xeq a0 33 then (some (129, h)) else (bif xeq a0 60 then (some (130, h)) else (some (0, h))))) else (bif xeq a0 a1 then (bif xeq a0 60 then (some (131, h)) else (bif xeq a0 62 then (some (132, h)) else (some (0, h)))) else (some (0, h)))
set_option maxHeartbeats 4000000 in
set_option maxRecDepth 100000 in
theorem cx_Tokens_pairOf (l : Launch) {dA : FieldType → ClassId} {D : va_G} {al : Nat → Nat} {sk sv : Nat → Nat} (hi : mv_inj (mg dA D al me)) (b : mv_H) (h : xE) (a0 : Nat) (a1 : Nat) {rv : Nat} {rg : xE} (hf : g_Tokens_pairOf h a0 a1 = some (rv, rg)) : mv_C l y_Tokens_pairOf (Cond.code y_Tokens_pairOf b_Tokens_pairOf 2 (Option.some Jvm.ClassFile.FieldType.int) :: ma) ({ frames := 0, cells := 0, slots := 0, locals := 0 }) (mg dA D al me) (mK sk sv) [.int (nI a0), .int (nI a1)] (ab b h) (mv_Ri (fun v σ1 => v = nI rv ∧ σ1 = ab b rg)) := by
  refine mv_C.ofV (cc := b_Tokens_pairOf) (nL := 2) (ret := (Option.some Jvm.ClassFile.FieldType.int)) (by decide +kernel) rfl hi (Nat.le_of_ble_eq_true rfl) ?_
  intro p e s m below meth c B hNs hr hnm hno
  unfold g_Tokens_pairOf at hf
  refine mv_iload_n (pc := 0) B d_Tokens_pairOf_0 rfl 1 rfl ?_
  refine mv_bipush (pc := 1) (v := nI 61) B d_Tokens_pairOf_1 (by decide) ?_
  refine mv_icmp_ne (pc := 3) (tgt := 44) B d_Tokens_pairOf_3 rfl (fun h3 => ?_) (fun h3 => ?_)
  · skip
    have hf := x_eq_f h3 hf
    refine mv_iload_n (pc := 44) B d_Tokens_pairOf_44 rfl 0 rfl ?_
    refine mv_iload_n (pc := 45) B d_Tokens_pairOf_45 rfl 1 rfl ?_
    refine mv_icmp_eq (pc := 46) (tgt := 51) B d_Tokens_pairOf_46 rfl (fun h46 => ?_) (fun h46 => ?_)
    · skip
      have hf := x_eq_t h46 hf
      refine mv_iload_n (pc := 51) B d_Tokens_pairOf_51 rfl 0 rfl ?_
      refine mv_bipush (pc := 52) (v := nI 60) B d_Tokens_pairOf_52 (by decide) ?_
      refine mv_icmp_ne (pc := 54) (tgt := 63) B d_Tokens_pairOf_54 rfl (fun h54 => ?_) (fun h54 => ?_)
      · skip
        have hf := x_eq_f h54 hf
        refine mv_iload_n (pc := 63) B d_Tokens_pairOf_63 rfl 0 rfl ?_
        refine mv_bipush (pc := 64) (v := nI 62) B d_Tokens_pairOf_64 (by decide) ?_
        refine mv_icmp_ne (pc := 66) (tgt := 75) B d_Tokens_pairOf_66 rfl (fun h66 => ?_) (fun h66 => ?_)
        · skip
          have hf := x_eq_f h66 hf
          refine mv_iconst (pc := 75) (v := nI 0) B d_Tokens_pairOf_75 (by decide) ?_
          exact mv_iret (pc := 76) B hr rfl d_Tokens_pairOf_76 (Nat.le_refl _) (Nat.le_refl _) ⟨_, rfl, xret_i hf⟩
        · skip
          have hf := x_eq_t h66 hf
          refine mv_sipush (pc := 69) (v := nI 132) B d_Tokens_pairOf_69 (by decide) ?_
          refine mv_goto (pc := 72) (tgt := 76) B d_Tokens_pairOf_72 rfl ?_
          exact mv_iret (pc := 76) B hr rfl d_Tokens_pairOf_76 (Nat.le_refl _) (Nat.le_refl _) ⟨_, rfl, xret_i hf⟩
      · skip
        have hf := x_eq_t h54 hf
        refine mv_sipush (pc := 57) (v := nI 131) B d_Tokens_pairOf_57 (by decide) ?_
        refine mv_goto (pc := 60) (tgt := 76) B d_Tokens_pairOf_60 rfl ?_
        exact mv_iret (pc := 76) B hr rfl d_Tokens_pairOf_76 (Nat.le_refl _) (Nat.le_refl _) ⟨_, rfl, xret_i hf⟩
    · skip
      have hf := x_eq_f h46 hf
      refine mv_iconst (pc := 49) (v := nI 0) B d_Tokens_pairOf_49 (by decide) ?_
      exact mv_iret (pc := 50) B hr rfl d_Tokens_pairOf_50 (Nat.le_refl _) (Nat.le_refl _) ⟨_, rfl, xret_i hf⟩
  · skip
    have hf := x_eq_t h3 hf
    refine mv_iload_n (pc := 6) B d_Tokens_pairOf_6 rfl 0 rfl ?_
    refine mv_bipush (pc := 7) (v := nI 61) B d_Tokens_pairOf_7 (by decide) ?_
    refine mv_icmp_ne (pc := 9) (tgt := 18) B d_Tokens_pairOf_9 rfl (fun h9 => ?_) (fun h9 => ?_)
    · skip
      have hf := x_eq_f h9 hf
      refine mv_iload_n (pc := 18) B d_Tokens_pairOf_18 rfl 0 rfl ?_
      refine mv_bipush (pc := 19) (v := nI 33) B d_Tokens_pairOf_19 (by decide) ?_
      refine mv_icmp_ne (pc := 21) (tgt := 30) B d_Tokens_pairOf_21 rfl (fun h21 => ?_) (fun h21 => ?_)
      · skip
        have hf := x_eq_f h21 hf
        refine mv_iload_n (pc := 30) B d_Tokens_pairOf_30 rfl 0 rfl ?_
        refine mv_bipush (pc := 31) (v := nI 60) B d_Tokens_pairOf_31 (by decide) ?_
        refine mv_icmp_ne (pc := 33) (tgt := 42) B d_Tokens_pairOf_33 rfl (fun h33 => ?_) (fun h33 => ?_)
        · skip
          have hf := x_eq_f h33 hf
          refine mv_iconst (pc := 42) (v := nI 0) B d_Tokens_pairOf_42 (by decide) ?_
          exact mv_iret (pc := 43) B hr rfl d_Tokens_pairOf_43 (Nat.le_refl _) (Nat.le_refl _) ⟨_, rfl, xret_i hf⟩
        · skip
          have hf := x_eq_t h33 hf
          refine mv_sipush (pc := 36) (v := nI 130) B d_Tokens_pairOf_36 (by decide) ?_
          refine mv_goto (pc := 39) (tgt := 43) B d_Tokens_pairOf_39 rfl ?_
          exact mv_iret (pc := 43) B hr rfl d_Tokens_pairOf_43 (Nat.le_refl _) (Nat.le_refl _) ⟨_, rfl, xret_i hf⟩
      · skip
        have hf := x_eq_t h21 hf
        refine mv_sipush (pc := 24) (v := nI 129) B d_Tokens_pairOf_24 (by decide) ?_
        refine mv_goto (pc := 27) (tgt := 43) B d_Tokens_pairOf_27 rfl ?_
        exact mv_iret (pc := 43) B hr rfl d_Tokens_pairOf_43 (Nat.le_refl _) (Nat.le_refl _) ⟨_, rfl, xret_i hf⟩
    · skip
      have hf := x_eq_t h9 hf
      refine mv_sipush (pc := 12) (v := nI 128) B d_Tokens_pairOf_12 (by decide) ?_
      refine mv_goto (pc := 15) (tgt := 43) B d_Tokens_pairOf_15 rfl ?_
      exact mv_iret (pc := 43) B hr rfl d_Tokens_pairOf_43 (Nat.le_refl _) (Nat.le_refl _) ⟨_, rfl, xret_i hf⟩
def g_Tokens_right (h : xE) : Option (Nat × xE) := xer (ep_g h.1 11) fun v1 => bif xlt v1 0 then (bif Nat.blt 1 2 then some (1, h) else none) else (bif Nat.blt 0 2 then some (0, h) else none)
set_option maxHeartbeats 4000000 in
set_option maxRecDepth 100000 in
theorem cx_Tokens_right (l : Launch) {dA : FieldType → ClassId} {D : va_G} {al : Nat → Nat} {sk sv : Nat → Nat} (hi : mv_inj (mg dA D al me)) (b : mv_H) (h : xE) {rv : Nat} {rg : xE} (hf : g_Tokens_right h = some (rv, rg)) : mv_C l y_Tokens_right (Cond.code y_Tokens_right b_Tokens_right 1 (Option.some Jvm.ClassFile.FieldType.boolean) :: ma) ({ frames := 0, cells := 0, slots := 0, locals := 0 }) (mg dA D al me) (mK sk sv) [.ref (al 3)] (ab b h) (mv_Ri (fun v σ1 => v = nI rv ∧ σ1 = ab b rg)) := by
  refine mv_C.ofV (cc := b_Tokens_right) (nL := 1) (ret := (Option.some Jvm.ClassFile.FieldType.boolean)) (by decide +kernel) rfl hi (Nat.le_of_ble_eq_true rfl) ?_
  intro p e s m below meth c B hNs hr hnm hno
  unfold g_Tokens_right at hf
  refine mv_aload_n (pc := 0) B d_Tokens_right_0 rfl 0 rfl ?_
  refine mv_getI (pc := 1) (ci := 2) (C := R_Tokens) (T := F_Tokens) (N := 10) B 9 rfl rfl (by decide) i_Tokens (B.2.2.2.1 _ k_105) rfl d_Tokens_right_1 ?_
  obtain ⟨v1, ev1, hf⟩ := xer_e hf
  refine mvn_top (xfi_3_9 ev1) ?_
  refine mv_if_ge (pc := 4) (tgt := 11) B d_Tokens_right_4 rfl (fun h4 => ?_) (fun h4 => ?_)
  · skip
    have hf := x_le_t (x := 0) h4 hf
    refine mv_iconst (pc := 11) (v := nI 0) B d_Tokens_right_11 (by decide) ?_
    obtain ⟨q2, hf⟩ := xix_e hf
    exact mv_iret (pc := 12) B hr (xz1 q2) d_Tokens_right_12 (Nat.le_refl _) (Nat.le_refl _) ⟨_, rfl, xret_i hf⟩
  · skip
    have hf := x_le_f (x := 0) h4 hf
    refine mv_iconst (pc := 7) (v := nI 1) B d_Tokens_right_7 (by decide) ?_
    refine mv_goto (pc := 8) (tgt := 12) B d_Tokens_right_8 rfl ?_
    obtain ⟨q3, hf⟩ := xix_e hf
    exact mv_iret (pc := 12) B hr (xz1 q3) d_Tokens_right_12 (Nat.le_refl _) (Nat.le_refl _) ⟨_, rfl, xret_i hf⟩
def g_Tokens_wrong (h : xE) : Option xE := xer (ep_g h.1 11) fun v1 => bif xlt v1 0 then (xer (ep_g h.1 9) fun v2 => bif Nat.blt v2 32770 then xer (ep_g (xL_5 h.2) v2) fun v4 => xwi h 11 v4 fun h5 => some h5 else none) else (some h)
set_option maxHeartbeats 4000000 in
set_option maxRecDepth 100000 in
theorem cx_Tokens_wrong (l : Launch) {dA : FieldType → ClassId} {D : va_G} {al : Nat → Nat} {sk sv : Nat → Nat} (hi : mv_inj (mg dA D al me)) (b : mv_H) (hb : xR (mv_r b)) (h : xE) {rg : xE} (hf : g_Tokens_wrong h = some rg) : mv_C l y_Tokens_wrong (Cond.code y_Tokens_wrong b_Tokens_wrong 1 (Option.none : Option Jvm.ClassFile.FieldType) :: ma) ({ frames := 0, cells := 0, slots := 0, locals := 0 }) (mg dA D al me) (mK sk sv) [.ref (al 3)] (ab b h) (mv_Rv (fun σ1 => σ1 = ab b rg)) := by
  refine mv_C.ofV (cc := b_Tokens_wrong) (nL := 1) (ret := (Option.none : Option Jvm.ClassFile.FieldType)) (by decide +kernel) rfl hi (Nat.le_of_ble_eq_true rfl) ?_
  intro p e s m below meth c B hNs hr hnm hno
  unfold g_Tokens_wrong at hf
  refine mv_aload_n (pc := 0) B d_Tokens_wrong_0 rfl 0 rfl ?_
  refine mv_getI (pc := 1) (ci := 2) (C := R_Tokens) (T := F_Tokens) (N := 10) B 9 rfl rfl (by decide) i_Tokens (B.2.2.2.1 _ k_105) rfl d_Tokens_wrong_1 ?_
  obtain ⟨v1, ev1, hf⟩ := xer_e hf
  refine mvn_top (xfi_3_9 ev1) ?_
  refine mv_if_ge (pc := 4) (tgt := 20) B d_Tokens_wrong_4 rfl (fun h4 => ?_) (fun h4 => ?_)
  · skip
    have hf := x_le_t (x := 0) h4 hf
    exact mv_vret (pc := 20) B hr d_Tokens_wrong_20 (Nat.le_refl _) (Nat.le_refl _) ⟨rfl, xret_v hf⟩
  · skip
    have hf := x_le_f (x := 0) h4 hf
    refine mv_aload_n (pc := 7) B d_Tokens_wrong_7 rfl 0 rfl ?_
    refine mv_aload_n (pc := 8) B d_Tokens_wrong_8 rfl 0 rfl ?_
    refine mv_getR (pc := 9) (ci := 2) (C := R_Tokens) (T := F_Tokens) (N := 10) B 1 rfl rfl (by decide) i_Tokens (B.2.2.2.1 _ k_90) rfl (hb.1.1 3 1 _ rfl) d_Tokens_wrong_9 ?_
    refine mv_aload_n (pc := 12) B d_Tokens_wrong_12 rfl 0 rfl ?_
    refine mv_getI (pc := 13) (ci := 2) (C := R_Tokens) (T := F_Tokens) (N := 10) B 7 rfl rfl (by decide) i_Tokens (B.2.2.2.1 _ k_102) rfl d_Tokens_wrong_13 ?_
    obtain ⟨v2, ev2, hf⟩ := xer_e hf
    refine mvn_top (xfi_3_7 ev2) ?_
    obtain ⟨q3, hf⟩ := xix_e hf
    refine mv_iald (pc := 16) B rfl (xin q3 (by decide)) d_Tokens_wrong_16 ?_
    obtain ⟨v4, ev4, hf⟩ := xer_e hf
    refine mvn_top (xfa_5 q3 ev4) ?_
    refine mv_putI (pc := 17) (ci := 2) (C := R_Tokens) (T := F_Tokens) (N := 10) B 9 rfl rfl (by decide) i_Tokens t_Tokens_ok n_Tokens (B.2.2.2.1 _ k_105) rfl rfl rfl rfl d_Tokens_wrong_17 ?_
    refine mvn_hp (xwi_3_9 _ _ _) (xwi_f hf) (fun h5 hf => ?_)
    exact mv_vret (pc := 20) B hr d_Tokens_wrong_20 (Nat.le_refl _) (Nat.le_refl _) ⟨rfl, xret_v hf⟩
def g_Tokens_kind (h : xE) : Option (Nat × xE) := xer (ep_g h.1 11) fun v1 => bif xlt v1 0 then (xer (ep_g h.1 9) fun v2 => bif Nat.blt v2 32770 then xer (ep_g (xL_4 h.2) v2) fun v4 => some (v4, h) else none) else (some (0, h))
set_option maxHeartbeats 4000000 in
set_option maxRecDepth 100000 in
theorem cx_Tokens_kind (l : Launch) {dA : FieldType → ClassId} {D : va_G} {al : Nat → Nat} {sk sv : Nat → Nat} (hi : mv_inj (mg dA D al me)) (b : mv_H) (hb : xR (mv_r b)) (h : xE) {rv : Nat} {rg : xE} (hf : g_Tokens_kind h = some (rv, rg)) : mv_C l y_Tokens_kind (Cond.code y_Tokens_kind b_Tokens_kind 1 (Option.some Jvm.ClassFile.FieldType.int) :: ma) ({ frames := 0, cells := 0, slots := 0, locals := 0 }) (mg dA D al me) (mK sk sv) [.ref (al 3)] (ab b h) (mv_Ri (fun v σ1 => v = nI rv ∧ σ1 = ab b rg)) := by
  refine mv_C.ofV (cc := b_Tokens_kind) (nL := 1) (ret := (Option.some Jvm.ClassFile.FieldType.int)) (by decide +kernel) rfl hi (Nat.le_of_ble_eq_true rfl) ?_
  intro p e s m below meth c B hNs hr hnm hno
  unfold g_Tokens_kind at hf
  refine mv_aload_n (pc := 0) B d_Tokens_kind_0 rfl 0 rfl ?_
  refine mv_getI (pc := 1) (ci := 2) (C := R_Tokens) (T := F_Tokens) (N := 10) B 9 rfl rfl (by decide) i_Tokens (B.2.2.2.1 _ k_105) rfl d_Tokens_kind_1 ?_
  obtain ⟨v1, ev1, hf⟩ := xer_e hf
  refine mvn_top (xfi_3_9 ev1) ?_
  refine mv_if_ge (pc := 4) (tgt := 19) B d_Tokens_kind_4 rfl (fun h4 => ?_) (fun h4 => ?_)
  · skip
    have hf := x_le_t (x := 0) h4 hf
    refine mv_iconst (pc := 19) (v := nI 0) B d_Tokens_kind_19 (by decide) ?_
    exact mv_iret (pc := 20) B hr rfl d_Tokens_kind_20 (Nat.le_refl _) (Nat.le_refl _) ⟨_, rfl, xret_i hf⟩
  · skip
    have hf := x_le_f (x := 0) h4 hf
    refine mv_aload_n (pc := 7) B d_Tokens_kind_7 rfl 0 rfl ?_
    refine mv_getR (pc := 8) (ci := 2) (C := R_Tokens) (T := F_Tokens) (N := 10) B 0 rfl rfl (by decide) i_Tokens (B.2.2.2.1 _ k_89) rfl (hb.1.1 3 0 _ rfl) d_Tokens_kind_8 ?_
    refine mv_aload_n (pc := 11) B d_Tokens_kind_11 rfl 0 rfl ?_
    refine mv_getI (pc := 12) (ci := 2) (C := R_Tokens) (T := F_Tokens) (N := 10) B 7 rfl rfl (by decide) i_Tokens (B.2.2.2.1 _ k_102) rfl d_Tokens_kind_12 ?_
    obtain ⟨v2, ev2, hf⟩ := xer_e hf
    refine mvn_top (xfi_3_7 ev2) ?_
    obtain ⟨q3, hf⟩ := xix_e hf
    refine mv_iald (pc := 15) B rfl (xin q3 (by decide)) d_Tokens_kind_15 ?_
    obtain ⟨v4, ev4, hf⟩ := xer_e hf
    refine mvn_top (xfa_4 q3 ev4) ?_
    refine mv_goto (pc := 16) (tgt := 20) B d_Tokens_kind_16 rfl ?_
    exact mv_iret (pc := 20) B hr rfl d_Tokens_kind_20 (Nat.le_refl _) (Nat.le_refl _) ⟨_, rfl, xret_i hf⟩
def g_Tokens_kindBehind (h : xE) : Option (Nat × xE) := xer (ep_g h.1 9) fun v1 => xer (ep_g h.1 8) fun v2 => bif xlt (xadd v1 1) v2 then (xer (ep_g h.1 9) fun v3 => bif Nat.blt (xadd v3 1) 32770 then xer (ep_g (xL_4 h.2) (xadd v3 1)) fun v5 => some (v5, h) else none) else (some (0, h))
set_option maxHeartbeats 4000000 in
set_option maxRecDepth 100000 in
theorem cx_Tokens_kindBehind (l : Launch) {dA : FieldType → ClassId} {D : va_G} {al : Nat → Nat} {sk sv : Nat → Nat} (hi : mv_inj (mg dA D al me)) (b : mv_H) (hb : xR (mv_r b)) (h : xE) {rv : Nat} {rg : xE} (hf : g_Tokens_kindBehind h = some (rv, rg)) : mv_C l y_Tokens_kindBehind (Cond.code y_Tokens_kindBehind b_Tokens_kindBehind 1 (Option.some Jvm.ClassFile.FieldType.int) :: ma) ({ frames := 0, cells := 0, slots := 0, locals := 0 }) (mg dA D al me) (mK sk sv) [.ref (al 3)] (ab b h) (mv_Ri (fun v σ1 => v = nI rv ∧ σ1 = ab b rg)) := by
  refine mv_C.ofV (cc := b_Tokens_kindBehind) (nL := 1) (ret := (Option.some Jvm.ClassFile.FieldType.int)) (by decide +kernel) rfl hi (Nat.le_of_ble_eq_true rfl) ?_
  intro p e s m below meth c B hNs hr hnm hno
  unfold g_Tokens_kindBehind at hf
  refine mv_aload_n (pc := 0) B d_Tokens_kindBehind_0 rfl 0 rfl ?_
  refine mv_getI (pc := 1) (ci := 2) (C := R_Tokens) (T := F_Tokens) (N := 10) B 7 rfl rfl (by decide) i_Tokens (B.2.2.2.1 _ k_102) rfl d_Tokens_kindBehind_1 ?_
  obtain ⟨v1, ev1, hf⟩ := xer_e hf
  refine mvn_top (xfi_3_7 ev1) ?_
  refine mv_iconst (pc := 4) (v := nI 1) B d_Tokens_kindBehind_4 (by decide) ?_
  refine mvn_iadd (pc := 5) B d_Tokens_kindBehind_5 ?_
  refine mv_aload_n (pc := 6) B d_Tokens_kindBehind_6 rfl 0 rfl ?_
  refine mv_getI (pc := 7) (ci := 2) (C := R_Tokens) (T := F_Tokens) (N := 10) B 6 rfl rfl (by decide) i_Tokens (B.2.2.2.1 _ k_101) rfl d_Tokens_kindBehind_7 ?_
  obtain ⟨v2, ev2, hf⟩ := xer_e hf
  refine mvn_top (xfi_3_6 ev2) ?_
  refine mv_icmp_ge (pc := 10) (tgt := 27) B d_Tokens_kindBehind_10 rfl (fun h10 => ?_) (fun h10 => ?_)
  · skip
    have hf := x_le_t h10 hf
    refine mv_iconst (pc := 27) (v := nI 0) B d_Tokens_kindBehind_27 (by decide) ?_
    exact mv_iret (pc := 28) B hr rfl d_Tokens_kindBehind_28 (Nat.le_refl _) (Nat.le_refl _) ⟨_, rfl, xret_i hf⟩
  · skip
    have hf := x_le_f h10 hf
    refine mv_aload_n (pc := 13) B d_Tokens_kindBehind_13 rfl 0 rfl ?_
    refine mv_getR (pc := 14) (ci := 2) (C := R_Tokens) (T := F_Tokens) (N := 10) B 0 rfl rfl (by decide) i_Tokens (B.2.2.2.1 _ k_89) rfl (hb.1.1 3 0 _ rfl) d_Tokens_kindBehind_14 ?_
    refine mv_aload_n (pc := 17) B d_Tokens_kindBehind_17 rfl 0 rfl ?_
    refine mv_getI (pc := 18) (ci := 2) (C := R_Tokens) (T := F_Tokens) (N := 10) B 7 rfl rfl (by decide) i_Tokens (B.2.2.2.1 _ k_102) rfl d_Tokens_kindBehind_18 ?_
    obtain ⟨v3, ev3, hf⟩ := xer_e hf
    refine mvn_top (xfi_3_7 ev3) ?_
    refine mv_iconst (pc := 21) (v := nI 1) B d_Tokens_kindBehind_21 (by decide) ?_
    refine mvn_iadd (pc := 22) B d_Tokens_kindBehind_22 ?_
    obtain ⟨q4, hf⟩ := xix_e hf
    refine mv_iald (pc := 23) B rfl (xin q4 (by decide)) d_Tokens_kindBehind_23 ?_
    obtain ⟨v5, ev5, hf⟩ := xer_e hf
    refine mvn_top (xfa_4 q4 ev5) ?_
    refine mv_goto (pc := 24) (tgt := 28) B d_Tokens_kindBehind_24 rfl ?_
    exact mv_iret (pc := 28) B hr rfl d_Tokens_kindBehind_28 (Nat.le_refl _) (Nat.le_refl _) ⟨_, rfl, xret_i hf⟩
def g_Tokens_take (h : xE) (a0 : Nat) : Option (Nat × xE) := xeb (g_Tokens_kind h) fun v2 h1 => bif xeq v2 a0 then (xer (ep_g h1.1 9) fun v3 => xer (ep_g h1.1 9) fun v4 => xwi h1 9 (xadd v4 1) fun h5 => some (v3, h5)) else (xev (g_Tokens_wrong h1) fun h6 => some (0, h6))
set_option maxHeartbeats 4000000 in
set_option maxRecDepth 100000 in
theorem cx_Tokens_take (l : Launch) {dA : FieldType → ClassId} {D : va_G} {al : Nat → Nat} {sk sv : Nat → Nat} (hi : mv_inj (mg dA D al me)) (b : mv_H) (hb : xR (mv_r b)) (h : xE) (a0 : Nat) {rv : Nat} {rg : xE} (hf : g_Tokens_take h a0 = some (rv, rg)) : mv_C l y_Tokens_take (Cond.code y_Tokens_take b_Tokens_take 3 (Option.some Jvm.ClassFile.FieldType.int) :: ma) ({ frames := 1, cells := 0, slots := 0, locals := 20 }) (mg dA D al me) (mK sk sv) [.ref (al 3), .int (nI a0)] (ab b h) (mv_Ri (fun v σ1 => v = nI rv ∧ σ1 = ab b rg)) := by
  refine mv_C.ofV (cc := b_Tokens_take) (nL := 3) (ret := (Option.some Jvm.ClassFile.FieldType.int)) (by decide +kernel) rfl hi (Nat.le_of_ble_eq_true rfl) ?_
  intro p e s m below meth c B hNs hr hnm hno
  unfold g_Tokens_take at hf
  refine mv_aload_n (pc := 0) B d_Tokens_take_0 rfl 0 rfl ?_
  obtain ⟨v2, h1, eh1, hf⟩ := xeb_e hf
  refine mv_callVi (pc := 1) (n := 0) (ci := 2) (C := R_Tokens) B (mK_ok sk sv) hNs rfl rfl (cx_Tokens_kind l hi _ hb _ eh1) rfl (ma_goodc kc_Tokens_kind) (B.2.2.2.1 _ k_1270) (B.2.2.2.1 _ k_1271) (B.2.2.2.1 _ k_1272) (B.2.2.2.1 _ k_3) ⟨by decide +kernel, by decide +kernel, by decide +kernel⟩ rfl d_Tokens_take_1 rfl (Nat.le_of_ble_eq_true rfl) ⟨by decide, by decide⟩ ⟨by decide, by decide⟩ ⟨by decide, by decide⟩ (mv_noH hno _) (fun w1 σ1 h1 => ?_)
  obtain ⟨rfl, rfl⟩ := h1
  refine mv_iload_n (pc := 4) B d_Tokens_take_4 rfl 1 rfl ?_
  refine mv_icmp_eq (pc := 5) (tgt := 14) B d_Tokens_take_5 rfl (fun h5 => ?_) (fun h5 => ?_)
  · skip
    have hf := x_eq_t h5 hf
    refine mv_aload_n (pc := 14) B d_Tokens_take_14 rfl 0 rfl ?_
    refine mv_getI (pc := 15) (ci := 2) (C := R_Tokens) (T := F_Tokens) (N := 10) B 7 rfl rfl (by decide) i_Tokens (B.2.2.2.1 _ k_102) rfl d_Tokens_take_15 ?_
    obtain ⟨v3, ev3, hf⟩ := xer_e hf
    refine mvn_top (xfi_3_7 ev3) ?_
    refine mv_istore_n (pc := 18) B d_Tokens_take_18 rfl (by decide) rfl ?_
    refine mv_aload_n (pc := 19) B d_Tokens_take_19 rfl 1 rfl ?_
    refine mv_dup (pc := 20) B d_Tokens_take_20 rfl ?_
    refine mv_getI (pc := 21) (ci := 2) (C := R_Tokens) (T := F_Tokens) (N := 10) B 7 rfl rfl (by decide) i_Tokens (B.2.2.2.1 _ k_102) rfl d_Tokens_take_21 ?_
    obtain ⟨v4, ev4, hf⟩ := xer_e hf
    refine mvn_top (xfi_3_7 ev4) ?_
    refine mv_iconst (pc := 24) (v := nI 1) B d_Tokens_take_24 (by decide) ?_
    refine mvn_iadd (pc := 25) B d_Tokens_take_25 ?_
    refine mv_putI (pc := 26) (ci := 2) (C := R_Tokens) (T := F_Tokens) (N := 10) B 7 rfl rfl (by decide) i_Tokens t_Tokens_ok n_Tokens (B.2.2.2.1 _ k_102) rfl rfl rfl rfl d_Tokens_take_26 ?_
    refine mvn_hp (xwi_3_7 _ _ _) (xwi_f hf) (fun h5 hf => ?_)
    refine mv_iload_n (pc := 29) B d_Tokens_take_29 rfl 0 rfl ?_
    exact mv_iret (pc := 30) B hr rfl d_Tokens_take_30 (Nat.le_refl _) (Nat.le_refl _) ⟨_, rfl, xret_i hf⟩
  · skip
    have hf := x_eq_f h5 hf
    refine mv_aload_n (pc := 8) B d_Tokens_take_8 rfl 0 rfl ?_
    obtain ⟨h6, eh6, hf⟩ := xev_e hf
    refine mv_callVv (pc := 9) (n := 0) (ci := 2) (C := R_Tokens) B (mK_ok sk sv) hNs rfl rfl (cx_Tokens_wrong l hi _ hb _ eh6) rfl (ma_goodc kc_Tokens_wrong) (B.2.2.2.1 _ k_1274) (B.2.2.2.1 _ k_1275) (B.2.2.2.1 _ k_1276) (B.2.2.2.1 _ k_3) ⟨by decide +kernel, by decide +kernel, by decide +kernel⟩ rfl d_Tokens_take_9 rfl (Nat.le_of_ble_eq_true rfl) ⟨by decide, by decide⟩ ⟨by decide, by decide⟩ ⟨by decide, by decide⟩ (mv_noH hno _) (fun σ9 h9 => ?_)
    subst h9
    refine mv_iconst (pc := 12) (v := nI 0) B d_Tokens_take_12 (by decide) ?_
    exact mv_iret (pc := 13) B hr rfl d_Tokens_take_13 (Nat.le_refl _) (Nat.le_refl _) ⟨_, rfl, xret_i hf⟩
def g_Tokens_open_13 (x1 : Nat) (h : xE) : Option (Nat × xE) := xer (ep_g h.1 10) fun v1 => xwi h 10 (xadd v1 1) fun h2 => xeb (g_Tokens_take h2 x1) fun v4 h3 => some (v4, h3)
def g_Tokens_open (h : xE) (a0 : Nat) : Option (Nat × xE) := xer (ep_g h.1 10) fun v5 => bif xeq v5 60 then (xev (g_Tokens_wrong h) fun h6 => g_Tokens_open_13 a0 h6) else (g_Tokens_open_13 a0 h)
set_option maxHeartbeats 4000000 in
set_option maxRecDepth 100000 in
theorem cx_Tokens_open (l : Launch) {dA : FieldType → ClassId} {D : va_G} {al : Nat → Nat} {sk sv : Nat → Nat} (hi : mv_inj (mg dA D al me)) (b : mv_H) (hb : xR (mv_r b)) (h : xE) (a0 : Nat) {rv : Nat} {rg : xE} (hf : g_Tokens_open h a0 = some (rv, rg)) : mv_C l y_Tokens_open (Cond.code y_Tokens_open b_Tokens_open 2 (Option.some Jvm.ClassFile.FieldType.int) :: ma) ({ frames := 2, cells := 0, slots := 0, locals := 42 }) (mg dA D al me) (mK sk sv) [.ref (al 3), .int (nI a0)] (ab b h) (mv_Ri (fun v σ1 => v = nI rv ∧ σ1 = ab b rg)) := by
  refine mv_C.ofV (cc := b_Tokens_open) (nL := 2) (ret := (Option.some Jvm.ClassFile.FieldType.int)) (by decide +kernel) rfl hi (Nat.le_of_ble_eq_true rfl) ?_
  intro p e s m below meth c B hNs hr hnm hno
  have jn13 : ∀ (x1 : Nat) (h : xE), g_Tokens_open_13 x1 h = some (rv, rg) → mv_V p l e ({ frames := 2, cells := 0, slots := 0, locals := 42 }) s m ([.ref (al 3), .int (nI a0)] : List Value).toArray below meth c (mg dA D al me) 2 0 0 (mv_Q (mg dA D al me) below s 0 0 (mv_Ri (fun v σ1 => v = nI rv ∧ σ1 = ab b rg))) (ab b h) 13 [(0, .ref (al 3)), (1, .int (nI x1))] [] := by
    intro x1 h hf
    unfold g_Tokens_open_13 at hf
    refine mv_aload_n (pc := 13) B d_Tokens_open_13 rfl 0 rfl ?_
    refine mv_dup (pc := 14) B d_Tokens_open_14 rfl ?_
    refine mv_getI (pc := 15) (ci := 2) (C := R_Tokens) (T := F_Tokens) (N := 10) B 8 rfl rfl (by decide) i_Tokens (B.2.2.2.1 _ k_103) rfl d_Tokens_open_15 ?_
    obtain ⟨v1, ev1, hf⟩ := xer_e hf
    refine mvn_top (xfi_3_8 ev1) ?_
    refine mv_iconst (pc := 18) (v := nI 1) B d_Tokens_open_18 (by decide) ?_
    refine mvn_iadd (pc := 19) B d_Tokens_open_19 ?_
    refine mv_putI (pc := 20) (ci := 2) (C := R_Tokens) (T := F_Tokens) (N := 10) B 8 rfl rfl (by decide) i_Tokens t_Tokens_ok n_Tokens (B.2.2.2.1 _ k_103) rfl rfl rfl rfl d_Tokens_open_20 ?_
    refine mvn_hp (xwi_3_8 _ _ _) (xwi_f hf) (fun h2 hf => ?_)
    refine mv_aload_n (pc := 23) B d_Tokens_open_23 rfl 0 rfl ?_
    refine mv_iload_n (pc := 24) B d_Tokens_open_24 rfl 1 rfl ?_
    obtain ⟨v4, h3, eh3, hf⟩ := xeb_e hf
    refine mv_callVi (pc := 25) (n := 1) (ci := 2) (C := R_Tokens) B (mK_ok sk sv) hNs rfl rfl (cx_Tokens_take l hi _ hb _ _ eh3) rfl (ma_goodc kc_Tokens_take) (B.2.2.2.1 _ k_1353) (B.2.2.2.1 _ k_1267) (B.2.2.2.1 _ k_1268) (B.2.2.2.1 _ k_3) ⟨by decide +kernel, by decide +kernel, by decide +kernel⟩ rfl d_Tokens_open_25 rfl (Nat.le_of_ble_eq_true rfl) ⟨by decide, by decide⟩ ⟨by decide, by decide⟩ ⟨by decide, by decide⟩ (mv_noH hno _) (fun w25 σ25 h25 => ?_)
    obtain ⟨rfl, rfl⟩ := h25
    exact mv_iret (pc := 28) B hr rfl d_Tokens_open_28 (Nat.le_refl _) (Nat.le_refl _) ⟨_, rfl, xret_i hf⟩
  unfold g_Tokens_open at hf
  refine mv_aload_n (pc := 0) B d_Tokens_open_0 rfl 0 rfl ?_
  refine mv_getI (pc := 1) (ci := 2) (C := R_Tokens) (T := F_Tokens) (N := 10) B 8 rfl rfl (by decide) i_Tokens (B.2.2.2.1 _ k_103) rfl d_Tokens_open_1 ?_
  obtain ⟨v5, ev5, hf⟩ := xer_e hf
  refine mvn_top (xfi_3_8 ev5) ?_
  refine mv_bipush (pc := 4) (v := nI 60) B d_Tokens_open_4 (by decide) ?_
  refine mv_icmp_ne (pc := 6) (tgt := 13) B d_Tokens_open_6 rfl (fun h6 => ?_) (fun h6 => ?_)
  · skip
    have hf := x_eq_f h6 hf
    refine mv_lpick [0, 1] rfl ?_
    exact jn13 _ _ hf
  · skip
    have hf := x_eq_t h6 hf
    refine mv_aload_n (pc := 9) B d_Tokens_open_9 rfl 0 rfl ?_
    obtain ⟨h6, eh6, hf⟩ := xev_e hf
    refine mv_callVv (pc := 10) (n := 0) (ci := 2) (C := R_Tokens) B (mK_ok sk sv) hNs rfl rfl (cx_Tokens_wrong l hi _ hb _ eh6) rfl (ma_goodc kc_Tokens_wrong) (B.2.2.2.1 _ k_1274) (B.2.2.2.1 _ k_1275) (B.2.2.2.1 _ k_1276) (B.2.2.2.1 _ k_3) ⟨by decide +kernel, by decide +kernel, by decide +kernel⟩ rfl d_Tokens_open_10 rfl (Nat.le_of_ble_eq_true rfl) ⟨by decide, by decide⟩ ⟨by decide, by decide⟩ ⟨by decide, by decide⟩ (mv_noH hno _) (fun σ10 h10 => ?_)
    subst h10
    refine mv_lpick [0, 1] rfl ?_
    exact jn13 _ _ hf
def g_Tokens_close (h : xE) (a0 : Nat) : Option (Nat × xE) := xer (ep_g h.1 10) fun v1 => xwi h 10 (xsub v1 1) fun h2 => xeb (g_Tokens_take h2 a0) fun v4 h3 => some (v4, h3)
set_option maxHeartbeats 4000000 in
set_option maxRecDepth 100000 in
theorem cx_Tokens_close (l : Launch) {dA : FieldType → ClassId} {D : va_G} {al : Nat → Nat} {sk sv : Nat → Nat} (hi : mv_inj (mg dA D al me)) (b : mv_H) (hb : xR (mv_r b)) (h : xE) (a0 : Nat) {rv : Nat} {rg : xE} (hf : g_Tokens_close h a0 = some (rv, rg)) : mv_C l y_Tokens_close (Cond.code y_Tokens_close b_Tokens_close 2 (Option.some Jvm.ClassFile.FieldType.int) :: ma) ({ frames := 2, cells := 0, slots := 0, locals := 42 }) (mg dA D al me) (mK sk sv) [.ref (al 3), .int (nI a0)] (ab b h) (mv_Ri (fun v σ1 => v = nI rv ∧ σ1 = ab b rg)) := by
  refine mv_C.ofV (cc := b_Tokens_close) (nL := 2) (ret := (Option.some Jvm.ClassFile.FieldType.int)) (by decide +kernel) rfl hi (Nat.le_of_ble_eq_true rfl) ?_
  intro p e s m below meth c B hNs hr hnm hno
  unfold g_Tokens_close at hf
  refine mv_aload_n (pc := 0) B d_Tokens_close_0 rfl 0 rfl ?_
  refine mv_dup (pc := 1) B d_Tokens_close_1 rfl ?_
  refine mv_getI (pc := 2) (ci := 2) (C := R_Tokens) (T := F_Tokens) (N := 10) B 8 rfl rfl (by decide) i_Tokens (B.2.2.2.1 _ k_103) rfl d_Tokens_close_2 ?_
  obtain ⟨v1, ev1, hf⟩ := xer_e hf
  refine mvn_top (xfi_3_8 ev1) ?_
  refine mv_iconst (pc := 5) (v := nI 1) B d_Tokens_close_5 (by decide) ?_
  refine mvn_isub (pc := 6) B d_Tokens_close_6 ?_
  refine mv_putI (pc := 7) (ci := 2) (C := R_Tokens) (T := F_Tokens) (N := 10) B 8 rfl rfl (by decide) i_Tokens t_Tokens_ok n_Tokens (B.2.2.2.1 _ k_103) rfl rfl rfl rfl d_Tokens_close_7 ?_
  refine mvn_hp (xwi_3_8 _ _ _) (xwi_f hf) (fun h2 hf => ?_)
  refine mv_aload_n (pc := 10) B d_Tokens_close_10 rfl 0 rfl ?_
  refine mv_iload_n (pc := 11) B d_Tokens_close_11 rfl 1 rfl ?_
  obtain ⟨v4, h3, eh3, hf⟩ := xeb_e hf
  refine mv_callVi (pc := 12) (n := 1) (ci := 2) (C := R_Tokens) B (mK_ok sk sv) hNs rfl rfl (cx_Tokens_take l hi _ hb _ _ eh3) rfl (ma_goodc kc_Tokens_take) (B.2.2.2.1 _ k_1353) (B.2.2.2.1 _ k_1267) (B.2.2.2.1 _ k_1268) (B.2.2.2.1 _ k_3) ⟨by decide +kernel, by decide +kernel, by decide +kernel⟩ rfl d_Tokens_close_12 rfl (Nat.le_of_ble_eq_true rfl) ⟨by decide, by decide⟩ ⟨by decide, by decide⟩ ⟨by decide, by decide⟩ (mv_noH hno _) (fun w12 σ12 h12 => ?_)
  obtain ⟨rfl, rfl⟩ := h12
  exact mv_iret (pc := 15) B hr rfl d_Tokens_close_15 (Nat.le_refl _) (Nat.le_refl _) ⟨_, rfl, xret_i hf⟩
def g_Tokens_characterAt (h : xE) (a0 : Nat) : Option (Nat × xE) := xer (ep_g h.1 7) fun v1 => bif xlt a0 v1 then (bif Nat.blt a0 8192 then xer (ep_g (xL_144 h.2) a0) fun v3 => some ((Nat.land v3 255), h) else none) else (some (4294967295, h))
set_option maxHeartbeats 4000000 in
set_option maxRecDepth 100000 in
theorem cx_Tokens_characterAt (l : Launch) {dA : FieldType → ClassId} {D : va_G} {al : Nat → Nat} {sk sv : Nat → Nat} (hi : mv_inj (mg dA D al me)) (b : mv_H) (hb : xR (mv_r b)) (h : xE) (a0 : Nat) {rv : Nat} {rg : xE} (hf : g_Tokens_characterAt h a0 = some (rv, rg)) : mv_C l y_Tokens_characterAt (Cond.code y_Tokens_characterAt b_Tokens_characterAt 2 (Option.some Jvm.ClassFile.FieldType.int) :: ma) ({ frames := 0, cells := 0, slots := 0, locals := 0 }) (mg dA D al me) (mK sk sv) [.ref (al 3), .int (nI a0)] (ab b h) (mv_Ri (fun v σ1 => v = nI rv ∧ σ1 = ab b rg)) := by
  refine mv_C.ofV (cc := b_Tokens_characterAt) (nL := 2) (ret := (Option.some Jvm.ClassFile.FieldType.int)) (by decide +kernel) rfl hi (Nat.le_of_ble_eq_true rfl) ?_
  intro p e s m below meth c B hNs hr hnm hno
  unfold g_Tokens_characterAt at hf
  refine mv_iload_n (pc := 0) B d_Tokens_characterAt_0 rfl 1 rfl ?_
  refine mv_aload_n (pc := 1) B d_Tokens_characterAt_1 rfl 0 rfl ?_
  refine mv_getI (pc := 2) (ci := 2) (C := R_Tokens) (T := F_Tokens) (N := 10) B 5 rfl rfl (by decide) i_Tokens (B.2.2.2.1 _ k_100) rfl d_Tokens_characterAt_2 ?_
  obtain ⟨v1, ev1, hf⟩ := xer_e hf
  refine mvn_top (xfi_3_5 ev1) ?_
  refine mv_icmp_ge (pc := 5) (tgt := 21) B d_Tokens_characterAt_5 rfl (fun h5 => ?_) (fun h5 => ?_)
  · skip
    have hf := x_le_t h5 hf
    refine mv_iconst (pc := 21) (v := nI 4294967295) B d_Tokens_characterAt_21 (by decide) ?_
    exact mv_iret (pc := 22) B hr rfl d_Tokens_characterAt_22 (Nat.le_refl _) (Nat.le_refl _) ⟨_, rfl, xret_i hf⟩
  · skip
    have hf := x_le_f h5 hf
    refine mv_aload_n (pc := 8) B d_Tokens_characterAt_8 rfl 0 rfl ?_
    refine mv_getR (pc := 9) (ci := 2) (C := R_Tokens) (T := F_Tokens) (N := 10) B 4 rfl rfl (by decide) i_Tokens (B.2.2.2.1 _ k_98) rfl hb.2 d_Tokens_characterAt_9 ?_
    refine mv_iload_n (pc := 12) B d_Tokens_characterAt_12 rfl 1 rfl ?_
    obtain ⟨q2, hf⟩ := xix_e hf
    refine mv_bald (pc := 13) B rfl (xin q2 (by decide)) d_Tokens_characterAt_13 ?_
    obtain ⟨v3, ev3, hf⟩ := xer_e hf
    refine mvn_top (xfa_144 q2 ev3) ?_
    refine mv_sipush (pc := 14) (v := nI 255) B d_Tokens_characterAt_14 (by decide) ?_
    refine mvn_iand (pc := 17) B d_Tokens_characterAt_17 ?_
    refine mv_goto (pc := 18) (tgt := 22) B d_Tokens_characterAt_18 rfl ?_
    exact mv_iret (pc := 22) B hr rfl d_Tokens_characterAt_22 (Nat.le_refl _) (Nat.le_refl _) ⟨_, rfl, xret_i hf⟩
def g_Tokens_add (h : xE) (a0 : Nat) (a1 : Nat) (a2 : Nat) (a3 : Nat) : Option (Nat × xE) := xer (ep_g h.1 8) fun v1 => bif Nat.blt v1 32770 then xw xL_4 xS_4 h v1 a0 fun h3 => xer (ep_g h3.1 8) fun v4 => bif Nat.blt v4 32770 then xw xL_5 xS_5 h3 v4 a1 fun h6 => xer (ep_g h6.1 8) fun v7 => bif Nat.blt v7 32770 then xw xL_6 xS_6 h6 v7 a2 fun h9 => xer (ep_g h9.1 8) fun v10 => xwi h9 8 (xadd v10 1) fun h11 => some (a3, h11) else none else none else none
set_option maxHeartbeats 4000000 in
set_option maxRecDepth 100000 in
theorem cx_Tokens_add (l : Launch) {dA : FieldType → ClassId} {D : va_G} {al : Nat → Nat} {sk sv : Nat → Nat} (hi : mv_inj (mg dA D al me)) (b : mv_H) (hb : xR (mv_r b)) (h : xE) (a0 : Nat) (a1 : Nat) (a2 : Nat) (a3 : Nat) {rv : Nat} {rg : xE} (hf : g_Tokens_add h a0 a1 a2 a3 = some (rv, rg)) : mv_C l y_Tokens_add (Cond.code y_Tokens_add b_Tokens_add 6 (Option.some Jvm.ClassFile.FieldType.int) :: ma) ({ frames := 0, cells := 0, slots := 0, locals := 0 }) (mg dA D al me) (mK sk sv) [.ref (al 3), .int (nI a0), .int (nI a1), .long (nJ a2), .int (nI a3)] (ab b h) (mv_Ri (fun v σ1 => v = nI rv ∧ σ1 = ab b rg)) := by
  refine mv_C.ofV (cc := b_Tokens_add) (nL := 6) (ret := (Option.some Jvm.ClassFile.FieldType.int)) (by decide +kernel) rfl hi (Nat.le_of_ble_eq_true rfl) ?_
  intro p e s m below meth c B hNs hr hnm hno
  unfold g_Tokens_add at hf
  refine mv_aload_n (pc := 0) B d_Tokens_add_0 rfl 0 rfl ?_
  refine mv_getR (pc := 1) (ci := 2) (C := R_Tokens) (T := F_Tokens) (N := 10) B 0 rfl rfl (by decide) i_Tokens (B.2.2.2.1 _ k_89) rfl (hb.1.1 3 0 _ rfl) d_Tokens_add_1 ?_
  refine mv_aload_n (pc := 4) B d_Tokens_add_4 rfl 0 rfl ?_
  refine mv_getI (pc := 5) (ci := 2) (C := R_Tokens) (T := F_Tokens) (N := 10) B 6 rfl rfl (by decide) i_Tokens (B.2.2.2.1 _ k_101) rfl d_Tokens_add_5 ?_
  obtain ⟨v1, ev1, hf⟩ := xer_e hf
  refine mvn_top (xfi_3_6 ev1) ?_
  refine mv_iload_n (pc := 8) B d_Tokens_add_8 rfl 1 rfl ?_
  obtain ⟨q2, hf⟩ := xix_e hf
  refine mv_iast (pc := 9) B rfl (xin q2 (by decide)) d_Tokens_add_9 ?_
  refine mvn_hp (xwa_4 _ _ _ q2) (xw_f xLe_4 xSe_4 hf) (fun h3 hf => ?_)
  refine mv_aload_n (pc := 10) B d_Tokens_add_10 rfl 0 rfl ?_
  refine mv_getR (pc := 11) (ci := 2) (C := R_Tokens) (T := F_Tokens) (N := 10) B 1 rfl rfl (by decide) i_Tokens (B.2.2.2.1 _ k_90) rfl (hb.1.1 3 1 _ rfl) d_Tokens_add_11 ?_
  refine mv_aload_n (pc := 14) B d_Tokens_add_14 rfl 0 rfl ?_
  refine mv_getI (pc := 15) (ci := 2) (C := R_Tokens) (T := F_Tokens) (N := 10) B 6 rfl rfl (by decide) i_Tokens (B.2.2.2.1 _ k_101) rfl d_Tokens_add_15 ?_
  obtain ⟨v4, ev4, hf⟩ := xer_e hf
  refine mvn_top (xfi_3_6 ev4) ?_
  refine mv_iload_n (pc := 18) B d_Tokens_add_18 rfl 2 rfl ?_
  obtain ⟨q5, hf⟩ := xix_e hf
  refine mv_iast (pc := 19) B rfl (xin q5 (by decide)) d_Tokens_add_19 ?_
  refine mvn_hp (xwa_5 _ _ _ q5) (xw_f xLe_5 xSe_5 hf) (fun h6 hf => ?_)
  refine mv_aload_n (pc := 20) B d_Tokens_add_20 rfl 0 rfl ?_
  refine mv_getR (pc := 21) (ci := 2) (C := R_Tokens) (T := F_Tokens) (N := 10) B 2 rfl rfl (by decide) i_Tokens (B.2.2.2.1 _ k_93) rfl (hb.1.1 3 2 _ rfl) d_Tokens_add_21 ?_
  refine mv_aload_n (pc := 24) B d_Tokens_add_24 rfl 0 rfl ?_
  refine mv_getI (pc := 25) (ci := 2) (C := R_Tokens) (T := F_Tokens) (N := 10) B 6 rfl rfl (by decide) i_Tokens (B.2.2.2.1 _ k_101) rfl d_Tokens_add_25 ?_
  obtain ⟨v7, ev7, hf⟩ := xer_e hf
  refine mvn_top (xfi_3_6 ev7) ?_
  refine mv_lload_n (pc := 28) B d_Tokens_add_28 rfl 3 rfl ?_
  obtain ⟨q8, hf⟩ := xix_e hf
  refine mv_last (pc := 29) B rfl (xin q8 (by decide)) d_Tokens_add_29 ?_
  refine mvn_hp (xwb_6 _ _ _ q8) (xw_f xLe_6 xSe_6 hf) (fun h9 hf => ?_)
  refine mv_aload_n (pc := 30) B d_Tokens_add_30 rfl 0 rfl ?_
  refine mv_dup (pc := 31) B d_Tokens_add_31 rfl ?_
  refine mv_getI (pc := 32) (ci := 2) (C := R_Tokens) (T := F_Tokens) (N := 10) B 6 rfl rfl (by decide) i_Tokens (B.2.2.2.1 _ k_101) rfl d_Tokens_add_32 ?_
  obtain ⟨v10, ev10, hf⟩ := xer_e hf
  refine mvn_top (xfi_3_6 ev10) ?_
  refine mv_iconst (pc := 35) (v := nI 1) B d_Tokens_add_35 (by decide) ?_
  refine mvn_iadd (pc := 36) B d_Tokens_add_36 ?_
  refine mv_putI (pc := 37) (ci := 2) (C := R_Tokens) (T := F_Tokens) (N := 10) B 6 rfl rfl (by decide) i_Tokens t_Tokens_ok n_Tokens (B.2.2.2.1 _ k_101) rfl rfl rfl rfl d_Tokens_add_37 ?_
  refine mvn_hp (xwi_3_6 _ _ _) (xwi_f hf) (fun h11 hf => ?_)
  refine mv_iload (pc := 40) B d_Tokens_add_40 4 rfl ?_
  exact mv_iret (pc := 42) B hr rfl d_Tokens_add_42 (Nat.le_refl _) (Nat.le_refl _) ⟨_, rfl, xret_i hf⟩
def g_Tokens_broken (h : xE) (a0 : Nat) : Option (Nat × xE) := xeb (g_Tokens_add h 2 a0 0 4294967295) fun v2 h1 => some (v2, h1)
set_option maxHeartbeats 4000000 in
set_option maxRecDepth 100000 in
theorem cx_Tokens_broken (l : Launch) {dA : FieldType → ClassId} {D : va_G} {al : Nat → Nat} {sk sv : Nat → Nat} (hi : mv_inj (mg dA D al me)) (b : mv_H) (hb : xR (mv_r b)) (h : xE) (a0 : Nat) {rv : Nat} {rg : xE} (hf : g_Tokens_broken h a0 = some (rv, rg)) : mv_C l y_Tokens_broken (Cond.code y_Tokens_broken b_Tokens_broken 2 (Option.some Jvm.ClassFile.FieldType.int) :: ma) ({ frames := 1, cells := 0, slots := 0, locals := 25 }) (mg dA D al me) (mK sk sv) [.ref (al 3), .int (nI a0)] (ab b h) (mv_Ri (fun v σ1 => v = nI rv ∧ σ1 = ab b rg)) := by
  refine mv_C.ofV (cc := b_Tokens_broken) (nL := 2) (ret := (Option.some Jvm.ClassFile.FieldType.int)) (by decide +kernel) rfl hi (Nat.le_of_ble_eq_true rfl) ?_
  intro p e s m below meth c B hNs hr hnm hno
  unfold g_Tokens_broken at hf
  refine mv_aload_n (pc := 0) B d_Tokens_broken_0 rfl 0 rfl ?_
  refine mv_iconst (pc := 1) (v := nI 2) B d_Tokens_broken_1 (by decide) ?_
  refine mv_iload_n (pc := 2) B d_Tokens_broken_2 rfl 1 rfl ?_
  refine mv_lconst (pc := 3) (v := nJ 0) B d_Tokens_broken_3 (by decide) ?_
  refine mv_iconst (pc := 4) (v := nI 4294967295) B d_Tokens_broken_4 (by decide) ?_
  obtain ⟨v2, h1, eh1, hf⟩ := xeb_e hf
  refine mv_callVi (pc := 5) (n := 4) (ci := 2) (C := R_Tokens) B (mK_ok sk sv) hNs rfl rfl (cx_Tokens_add l hi _ hb _ _ _ _ _ eh1) rfl (ma_goodc kc_Tokens_add) (B.2.2.2.1 _ k_831) (B.2.2.2.1 _ k_833) (B.2.2.2.1 _ ks_22) (B.2.2.2.1 _ k_3) ⟨by decide +kernel, by decide +kernel, by decide +kernel⟩ rfl d_Tokens_broken_5 rfl (Nat.le_of_ble_eq_true rfl) ⟨by decide, by decide⟩ ⟨by decide, by decide⟩ ⟨by decide, by decide⟩ (mv_noH hno _) (fun w5 σ5 h5 => ?_)
  obtain ⟨rfl, rfl⟩ := h5
  exact mv_iret (pc := 8) B hr rfl d_Tokens_broken_8 (Nat.le_refl _) (Nat.le_refl _) ⟨_, rfl, xret_i hf⟩
def g_Tokens_number_22 (x2 : Nat) (h : xE) : Option (Nat × xE) := xeb (g_Tokens_broken h x2) fun v2 h1 => some (v2, h1)
def g_Tokens_number (h : xE) (a0 : Nat) (a1 : Nat) (a2 : Nat) : Option (Nat × xE) := xeb (g_Tokens_characterAt h a1) fun v4 h3 => xeb (g_Tokens_isLetter h3 v4) fun v6 h5 => bif xeq v6 0 then (bif xeq v4 95 then (g_Tokens_number_22 a1 h5) else (xeb (g_Tokens_add h5 4 a0 a2 a1) fun v8 h7 => some (v8, h7))) else (g_Tokens_number_22 a1 h5)
set_option maxHeartbeats 4000000 in
set_option maxRecDepth 100000 in
theorem cx_Tokens_number (l : Launch) {dA : FieldType → ClassId} {D : va_G} {al : Nat → Nat} {sk sv : Nat → Nat} (hi : mv_inj (mg dA D al me)) (b : mv_H) (hb : xR (mv_r b)) (h : xE) (a0 : Nat) (a1 : Nat) (a2 : Nat) {rv : Nat} {rg : xE} (hf : g_Tokens_number h a0 a1 a2 = some (rv, rg)) : mv_C l y_Tokens_number (Cond.code y_Tokens_number b_Tokens_number 6 (Option.some Jvm.ClassFile.FieldType.int) :: ma) ({ frames := 2, cells := 0, slots := 0, locals := 46 }) (mg dA D al me) (mK sk sv) [.ref (al 3), .int (nI a0), .int (nI a1), .long (nJ a2)] (ab b h) (mv_Ri (fun v σ1 => v = nI rv ∧ σ1 = ab b rg)) := by
  refine mv_C.ofV (cc := b_Tokens_number) (nL := 6) (ret := (Option.some Jvm.ClassFile.FieldType.int)) (by decide +kernel) rfl hi (Nat.le_of_ble_eq_true rfl) ?_
  intro p e s m below meth c B hNs hr hnm hno
  have jn22 : ∀ (x2 : Nat) (h : xE), g_Tokens_number_22 x2 h = some (rv, rg) → mv_V p l e ({ frames := 2, cells := 0, slots := 0, locals := 46 }) s m ([.ref (al 3), .int (nI a0), .int (nI a1), .long (nJ a2)] : List Value).toArray below meth c (mg dA D al me) 6 0 0 (mv_Q (mg dA D al me) below s 0 0 (mv_Ri (fun v σ1 => v = nI rv ∧ σ1 = ab b rg))) (ab b h) 22 [(0, .ref (al 3)), (2, .int (nI x2))] [] := by
    intro x2 h hf
    unfold g_Tokens_number_22 at hf
    refine mv_aload_n (pc := 22) B d_Tokens_number_22 rfl 0 rfl ?_
    refine mv_iload_n (pc := 23) B d_Tokens_number_23 rfl 1 rfl ?_
    obtain ⟨v2, h1, eh1, hf⟩ := xeb_e hf
    refine mv_callVi (pc := 24) (n := 1) (ci := 2) (C := R_Tokens) B (mK_ok sk sv) hNs rfl rfl (cx_Tokens_broken l hi _ hb _ _ eh1) rfl (ma_goodc kc_Tokens_broken) (B.2.2.2.1 _ k_845) (B.2.2.2.1 _ k_847) (B.2.2.2.1 _ ks_24) (B.2.2.2.1 _ k_3) ⟨by decide +kernel, by decide +kernel, by decide +kernel⟩ rfl d_Tokens_number_24 rfl (Nat.le_of_ble_eq_true rfl) ⟨by decide, by decide⟩ ⟨by decide, by decide⟩ ⟨by decide, by decide⟩ (mv_noH hno _) (fun w24 σ24 h24 => ?_)
    obtain ⟨rfl, rfl⟩ := h24
    refine mv_goto (pc := 27) (tgt := 38) B d_Tokens_number_27 rfl ?_
    exact mv_iret (pc := 38) B hr rfl d_Tokens_number_38 (Nat.le_refl _) (Nat.le_refl _) ⟨_, rfl, xret_i hf⟩
  unfold g_Tokens_number at hf
  refine mv_aload_n (pc := 0) B d_Tokens_number_0 rfl 0 rfl ?_
  refine mv_iload_n (pc := 1) B d_Tokens_number_1 rfl 2 rfl ?_
  obtain ⟨v4, h3, eh3, hf⟩ := xeb_e hf
  refine mv_callVi (pc := 2) (n := 1) (ci := 2) (C := R_Tokens) B (mK_ok sk sv) hNs rfl rfl (cx_Tokens_characterAt l hi _ hb _ _ eh3) rfl (ma_goodc kc_Tokens_characterAt) (B.2.2.2.1 _ k_827) (B.2.2.2.1 _ k_829) (B.2.2.2.1 _ ks_21) (B.2.2.2.1 _ k_3) ⟨by decide +kernel, by decide +kernel, by decide +kernel⟩ rfl d_Tokens_number_2 rfl (Nat.le_of_ble_eq_true rfl) ⟨by decide, by decide⟩ ⟨by decide, by decide⟩ ⟨by decide, by decide⟩ (mv_noH hno _) (fun w2 σ2 h2 => ?_)
  obtain ⟨rfl, rfl⟩ := h2
  refine mv_istore (pc := 5) B d_Tokens_number_5 (by decide) rfl ?_
  refine mv_iload (pc := 7) B d_Tokens_number_7 0 rfl ?_
  obtain ⟨v6, h5, eh5, hf⟩ := xeb_e hf
  refine mv_callSi (pc := 9) (n := 1) B (mK_ok sk sv) hNs (cx_Tokens_isLetter l hi _ _ _ eh5) rfl (ma_goodc kc_Tokens_isLetter) (B.2.2.2.1 _ k_853) (B.2.2.2.1 _ k_854) (B.2.2.2.1 _ k_3) ⟨by decide +kernel, by decide +kernel, by decide +kernel⟩ rfl d_Tokens_number_9 rfl (Nat.le_of_ble_eq_true rfl) ⟨by decide, by decide⟩ ⟨by decide, by decide⟩ ⟨by decide, by decide⟩ (mv_noH hno _) (fun w9 σ9 h9 => ?_)
  obtain ⟨rfl, rfl⟩ := h9
  refine mv_if_ne (pc := 12) (tgt := 22) B d_Tokens_number_12 rfl (fun h12 => ?_) (fun h12 => ?_)
  · skip
    have hf := x_eq_f (y := 0) h12 hf
    refine mv_lpick [1, 3] rfl ?_
    exact jn22 _ _ hf
  · skip
    have hf := x_eq_t (y := 0) h12 hf
    refine mv_iload (pc := 15) B d_Tokens_number_15 0 rfl ?_
    refine mv_bipush (pc := 17) (v := nI 95) B d_Tokens_number_17 (by decide) ?_
    refine mv_icmp_ne (pc := 19) (tgt := 30) B d_Tokens_number_19 rfl (fun h19 => ?_) (fun h19 => ?_)
    · skip
      have hf := x_eq_f h19 hf
      refine mv_aload_n (pc := 30) B d_Tokens_number_30 rfl 1 rfl ?_
      refine mv_iconst (pc := 31) (v := nI 4) B d_Tokens_number_31 (by decide) ?_
      refine mv_iload_n (pc := 32) B d_Tokens_number_32 rfl 2 rfl ?_
      refine mv_lload_n (pc := 33) B d_Tokens_number_33 rfl 4 rfl ?_
      refine mv_iload_n (pc := 34) B d_Tokens_number_34 rfl 3 rfl ?_
      obtain ⟨v8, h7, eh7, hf⟩ := xeb_e hf
      refine mv_callVi (pc := 35) (n := 4) (ci := 2) (C := R_Tokens) B (mK_ok sk sv) hNs rfl rfl (cx_Tokens_add l hi _ hb _ _ _ _ _ eh7) rfl (ma_goodc kc_Tokens_add) (B.2.2.2.1 _ k_831) (B.2.2.2.1 _ k_833) (B.2.2.2.1 _ ks_22) (B.2.2.2.1 _ k_3) ⟨by decide +kernel, by decide +kernel, by decide +kernel⟩ rfl d_Tokens_number_35 rfl (Nat.le_of_ble_eq_true rfl) ⟨by decide, by decide⟩ ⟨by decide, by decide⟩ ⟨by decide, by decide⟩ (mv_noH hno _) (fun w35 σ35 h35 => ?_)
      obtain ⟨rfl, rfl⟩ := h35
      exact mv_iret (pc := 38) B hr rfl d_Tokens_number_38 (Nat.le_refl _) (Nat.le_refl _) ⟨_, rfl, xret_i hf⟩
    · skip
      have hf := x_eq_t h19 hf
      refine mv_lpick [1, 3] rfl ?_
      exact jn22 _ _ hf
def g_Tokens_behindSpaces_71 (k4 : Nat → Nat → xE → Option (Nat × xE)) (x2 : Nat) (x3 : Nat) (h : xE) : Option (Nat × xE) := k4 x2 (xadd x3 1) h
def gF_Tokens_behindSpaces_4 (k4 : Nat → Nat → xE → Option (Nat × xE)) (x2 : Nat) (x3 : Nat) (h : xE) : Option (Nat × xE) := xfz x2 fun x2 => xfz x3 fun x3 => xer (ep_g h.1 7) fun v1 => bif xlt x3 v1 then (bif Nat.blt x3 8192 then xer (ep_g (xL_144 h.2) x3) fun v4 => bif xeq v4 35 then (g_Tokens_behindSpaces_71 k4 1 x3 h) else (bif xeq v4 10 then (g_Tokens_behindSpaces_71 k4 0 x3 h) else (bif xeq x2 0 then (bif xeq v4 32 then (g_Tokens_behindSpaces_71 k4 x2 x3 h) else (bif xeq v4 9 then (g_Tokens_behindSpaces_71 k4 x2 x3 h) else (bif xeq v4 13 then (g_Tokens_behindSpaces_71 k4 x2 x3 h) else (some (x3, h))))) else (g_Tokens_behindSpaces_71 k4 x2 x3 h))) else none) else (xer (ep_g h.1 7) fun v2 => some (v2, h))
def g_Tokens_behindSpaces_4 : Nat → Nat → Nat → xE → Option (Nat × xE)
  | 0 => fun _ _ _ => none
  | nn + 1 => gF_Tokens_behindSpaces_4 (g_Tokens_behindSpaces_4 nn)
def g_Tokens_behindSpaces (h : xE) (a0 : Nat) : Option (Nat × xE) := g_Tokens_behindSpaces_4 200000 0 a0 h
set_option maxHeartbeats 4000000 in
set_option maxRecDepth 100000 in
theorem cx_Tokens_behindSpaces (l : Launch) {dA : FieldType → ClassId} {D : va_G} {al : Nat → Nat} {sk sv : Nat → Nat} (hi : mv_inj (mg dA D al me)) (b : mv_H) (hb : xR (mv_r b)) (h : xE) (a0 : Nat) {rv : Nat} {rg : xE} (hf : g_Tokens_behindSpaces h a0 = some (rv, rg)) : mv_C l y_Tokens_behindSpaces (Cond.code y_Tokens_behindSpaces b_Tokens_behindSpaces 5 (Option.some Jvm.ClassFile.FieldType.int) :: ma) ({ frames := 0, cells := 0, slots := 0, locals := 0 }) (mg dA D al me) (mK sk sv) [.ref (al 3), .int (nI a0)] (ab b h) (mv_Ri (fun v σ1 => v = nI rv ∧ σ1 = ab b rg)) := by
  refine mv_C.ofV (cc := b_Tokens_behindSpaces) (nL := 5) (ret := (Option.some Jvm.ClassFile.FieldType.int)) (by decide +kernel) rfl hi (Nat.le_of_ble_eq_true rfl) ?_
  intro p e s m below meth c B hNs hr hnm hno
  have lp4 : ∀ (nn4 : Nat) (x2 : Nat) (x3 : Nat) (h : xE), g_Tokens_behindSpaces_4 nn4 x2 x3 h = some (rv, rg) → mv_V p l e ({ frames := 0, cells := 0, slots := 0, locals := 0 }) s m ([.ref (al 3), .int (nI a0)] : List Value).toArray below meth c (mg dA D al me) 5 0 0 (mv_Q (mg dA D al me) below s 0 0 (mv_Ri (fun v σ1 => v = nI rv ∧ σ1 = ab b rg))) (ab b h) 4 [(0, .ref (al 3)), (2, .int (nI x2)), (3, .int (nI x3))] [] := by
    intro nn4
    induction nn4 with
    | zero => intro x2 x3 h hf; cases hf
    | succ nn4 ih4 =>
      intro x2 x3 h hf
      have jn71 : ∀ (x2 : Nat) (x3 : Nat) (h : xE), g_Tokens_behindSpaces_71 (g_Tokens_behindSpaces_4 nn4) x2 x3 h = some (rv, rg) → mv_V p l e ({ frames := 0, cells := 0, slots := 0, locals := 0 }) s m ([.ref (al 3), .int (nI a0)] : List Value).toArray below meth c (mg dA D al me) 5 0 0 (mv_Q (mg dA D al me) below s 0 0 (mv_Ri (fun v σ1 => v = nI rv ∧ σ1 = ab b rg))) (ab b h) 71 [(0, .ref (al 3)), (2, .int (nI x2)), (3, .int (nI x3))] [] := by
        intro x2 x3 h hf
        unfold g_Tokens_behindSpaces_71 at hf
        refine mvn_iinc (pc := 71) (j := 2) (v := 1) B d_Tokens_behindSpaces_71 rfl (by decide) (by decide) rfl ?_
        refine mv_goto (pc := 74) (tgt := 4) B d_Tokens_behindSpaces_74 rfl ?_
        refine mv_lpick [1, 2, 0] rfl ?_
        exact ih4 _ _ _ hf
      have hf : gF_Tokens_behindSpaces_4 (g_Tokens_behindSpaces_4 nn4) x2 x3 h = some (rv, rg) := hf
      unfold gF_Tokens_behindSpaces_4 at hf
      have hf := (xfz_e _ _).symm.trans hf
      have hf := (xfz_e _ _).symm.trans hf
      refine mv_iload_n (pc := 4) B d_Tokens_behindSpaces_4 rfl 2 rfl ?_
      refine mv_aload_n (pc := 5) B d_Tokens_behindSpaces_5 rfl 0 rfl ?_
      refine mv_getI (pc := 6) (ci := 2) (C := R_Tokens) (T := F_Tokens) (N := 10) B 5 rfl rfl (by decide) i_Tokens (B.2.2.2.1 _ k_100) rfl d_Tokens_behindSpaces_6 ?_
      obtain ⟨v1, ev1, hf⟩ := xer_e hf
      refine mvn_top (xfi_3_5 ev1) ?_
      refine mv_icmp_ge (pc := 9) (tgt := 77) B d_Tokens_behindSpaces_9 rfl (fun h9 => ?_) (fun h9 => ?_)
      · skip
        have hf := x_le_t h9 hf
        refine mv_aload_n (pc := 77) B d_Tokens_behindSpaces_77 rfl 0 rfl ?_
        refine mv_getI (pc := 78) (ci := 2) (C := R_Tokens) (T := F_Tokens) (N := 10) B 5 rfl rfl (by decide) i_Tokens (B.2.2.2.1 _ k_100) rfl d_Tokens_behindSpaces_78 ?_
        obtain ⟨v2, ev2, hf⟩ := xer_e hf
        refine mvn_top (xfi_3_5 ev2) ?_
        exact mv_iret (pc := 81) B hr rfl d_Tokens_behindSpaces_81 (Nat.le_refl _) (Nat.le_refl _) ⟨_, rfl, xret_i hf⟩
      · skip
        have hf := x_le_f h9 hf
        refine mv_aload_n (pc := 12) B d_Tokens_behindSpaces_12 rfl 0 rfl ?_
        refine mv_getR (pc := 13) (ci := 2) (C := R_Tokens) (T := F_Tokens) (N := 10) B 4 rfl rfl (by decide) i_Tokens (B.2.2.2.1 _ k_98) rfl hb.2 d_Tokens_behindSpaces_13 ?_
        refine mv_iload_n (pc := 16) B d_Tokens_behindSpaces_16 rfl 2 rfl ?_
        obtain ⟨q3, hf⟩ := xix_e hf
        refine mv_bald (pc := 17) B rfl (xin q3 (by decide)) d_Tokens_behindSpaces_17 ?_
        obtain ⟨v4, ev4, hf⟩ := xer_e hf
        refine mvn_top (xfa_144 q3 ev4) ?_
        refine mv_istore (pc := 18) B d_Tokens_behindSpaces_18 (by decide) rfl ?_
        refine mv_iload (pc := 20) B d_Tokens_behindSpaces_20 0 rfl ?_
        refine mv_bipush (pc := 22) (v := nI 35) B d_Tokens_behindSpaces_22 (by decide) ?_
        refine mv_icmp_ne (pc := 24) (tgt := 32) B d_Tokens_behindSpaces_24 rfl (fun h24 => ?_) (fun h24 => ?_)
        · skip
          have hf := x_eq_f h24 hf
          refine mv_iload (pc := 32) B d_Tokens_behindSpaces_32 0 rfl ?_
          refine mv_bipush (pc := 34) (v := nI 10) B d_Tokens_behindSpaces_34 (by decide) ?_
          refine mv_icmp_ne (pc := 36) (tgt := 44) B d_Tokens_behindSpaces_36 rfl (fun h36 => ?_) (fun h36 => ?_)
          · skip
            have hf := x_eq_f h36 hf
            refine mv_iload_n (pc := 44) B d_Tokens_behindSpaces_44 rfl 2 rfl ?_
            refine mv_if_ne (pc := 45) (tgt := 71) B d_Tokens_behindSpaces_45 rfl (fun h45 => ?_) (fun h45 => ?_)
            · skip
              have hf := x_eq_f (y := 0) h45 hf
              refine mv_lpick [1, 2, 3] rfl ?_
              exact jn71 _ _ _ hf
            · skip
              have hf := x_eq_t (y := 0) h45 hf
              refine mv_iload (pc := 48) B d_Tokens_behindSpaces_48 0 rfl ?_
              refine mv_bipush (pc := 50) (v := nI 32) B d_Tokens_behindSpaces_50 (by decide) ?_
              refine mv_icmp_eq (pc := 52) (tgt := 71) B d_Tokens_behindSpaces_52 rfl (fun h52 => ?_) (fun h52 => ?_)
              · skip
                have hf := x_eq_t h52 hf
                refine mv_lpick [1, 2, 3] rfl ?_
                exact jn71 _ _ _ hf
              · skip
                have hf := x_eq_f h52 hf
                refine mv_iload (pc := 55) B d_Tokens_behindSpaces_55 0 rfl ?_
                refine mv_bipush (pc := 57) (v := nI 9) B d_Tokens_behindSpaces_57 (by decide) ?_
                refine mv_icmp_eq (pc := 59) (tgt := 71) B d_Tokens_behindSpaces_59 rfl (fun h59 => ?_) (fun h59 => ?_)
                · skip
                  have hf := x_eq_t h59 hf
                  refine mv_lpick [1, 2, 3] rfl ?_
                  exact jn71 _ _ _ hf
                · skip
                  have hf := x_eq_f h59 hf
                  refine mv_iload (pc := 62) B d_Tokens_behindSpaces_62 0 rfl ?_
                  refine mv_bipush (pc := 64) (v := nI 13) B d_Tokens_behindSpaces_64 (by decide) ?_
                  refine mv_icmp_eq (pc := 66) (tgt := 71) B d_Tokens_behindSpaces_66 rfl (fun h66 => ?_) (fun h66 => ?_)
                  · skip
                    have hf := x_eq_t h66 hf
                    refine mv_lpick [1, 2, 3] rfl ?_
                    exact jn71 _ _ _ hf
                  · skip
                    have hf := x_eq_f h66 hf
                    refine mv_iload_n (pc := 69) B d_Tokens_behindSpaces_69 rfl 3 rfl ?_
                    exact mv_iret (pc := 70) B hr rfl d_Tokens_behindSpaces_70 (Nat.le_refl _) (Nat.le_refl _) ⟨_, rfl, xret_i hf⟩
          · skip
            have hf := x_eq_t h36 hf
            refine mv_iconst (pc := 39) (v := nI 0) B d_Tokens_behindSpaces_39 (by decide) ?_
            refine mv_istore_n (pc := 40) B d_Tokens_behindSpaces_40 rfl (by decide) rfl ?_
            refine mv_goto (pc := 41) (tgt := 71) B d_Tokens_behindSpaces_41 rfl ?_
            refine mv_lpick [2, 0, 3] rfl ?_
            exact jn71 _ _ _ hf
        · skip
          have hf := x_eq_t h24 hf
          refine mv_iconst (pc := 27) (v := nI 1) B d_Tokens_behindSpaces_27 (by decide) ?_
          refine mv_istore_n (pc := 28) B d_Tokens_behindSpaces_28 rfl (by decide) rfl ?_
          refine mv_goto (pc := 29) (tgt := 71) B d_Tokens_behindSpaces_29 rfl ?_
          refine mv_lpick [2, 0, 3] rfl ?_
          exact jn71 _ _ _ hf
  unfold g_Tokens_behindSpaces at hf
  refine mv_iconst (pc := 0) (v := nI 0) B d_Tokens_behindSpaces_0 (by decide) ?_
  refine mv_istore_n (pc := 1) B d_Tokens_behindSpaces_1 rfl (by decide) rfl ?_
  refine mv_iload_n (pc := 2) B d_Tokens_behindSpaces_2 rfl 2 rfl ?_
  refine mv_istore_n (pc := 3) B d_Tokens_behindSpaces_3 rfl (by decide) rfl ?_
  refine mv_lpick [2, 1, 0] rfl ?_
  exact lp4 _ _ _ _ hf
def g_Tokens_cutDecimal_102 (x1 : Nat) (x2 : Nat) (x4 : Nat) (h : xE) : Option (Nat × xE) := xeb (g_Tokens_number h x1 x4 x2) fun v2 h1 => some (v2, h1)
def g_Tokens_cutDecimal_86 (k5 : Nat → Nat → Nat → xE → Option (Nat × xE)) (x1 : Nat) (x2 : Nat) (x4 : Nat) (x5 : Nat) (h : xE) : Option (Nat × xE) := k5 x1 (yadd (ymul x2 10) (xi2l x5)) (xadd x4 1) h
def g_Tokens_cutDecimal_79 (x4 : Nat) (h : xE) : Option (Nat × xE) := xeb (g_Tokens_broken h x4) fun v4 h3 => some (v4, h3)
def g_Tokens_cutDecimal_58 (k5 : Nat → Nat → Nat → xE → Option (Nat × xE)) (x1 : Nat) (x2 : Nat) (x4 : Nat) (x5 : Nat) (y0 : Nat) (h : xE) : Option (Nat × xE) := bif xeq y0 0 then (bif xeq (ycmp x2 1844674407370955161) 0 then (bif xlt 5 x5 then (g_Tokens_cutDecimal_79 x4 h) else (g_Tokens_cutDecimal_86 k5 x1 x2 x4 x5 h)) else (g_Tokens_cutDecimal_86 k5 x1 x2 x4 x5 h)) else (g_Tokens_cutDecimal_79 x4 h)
def g_Tokens_cutDecimal_53 (k5 : Nat → Nat → Nat → xE → Option (Nat × xE)) (x1 : Nat) (x2 : Nat) (x4 : Nat) (x5 : Nat) (h : xE) : Option (Nat × xE) := g_Tokens_cutDecimal_58 k5 x1 x2 x4 x5 1 h
def gF_Tokens_cutDecimal_5 (k5 : Nat → Nat → Nat → xE → Option (Nat × xE)) (x1 : Nat) (x2 : Nat) (x4 : Nat) (h : xE) : Option (Nat × xE) := xfz x1 fun x1 => xfz x2 fun x2 => xfz x4 fun x4 => xer (ep_g h.1 7) fun v5 => bif xlt x4 v5 then (bif Nat.blt x4 8192 then xer (ep_g (xL_144 h.2) x4) fun v7 => xeb (g_Tokens_isDigit h v7) fun v9 h8 => bif xeq v9 0 then (g_Tokens_cutDecimal_102 x1 x2 x4 h8) else (bif Nat.blt x4 8192 then xer (ep_g (xL_144 h8.2) x4) fun v11 => bif xlt (ycmp x2 0) 0 then (g_Tokens_cutDecimal_53 k5 x1 x2 x4 (xsub v11 48) h8) else (bif xlt 0 (ycmp x2 1844674407370955161) then (g_Tokens_cutDecimal_53 k5 x1 x2 x4 (xsub v11 48) h8) else (g_Tokens_cutDecimal_58 k5 x1 x2 x4 (xsub v11 48) 0 h8)) else none) else none) else (g_Tokens_cutDecimal_102 x1 x2 x4 h)
def g_Tokens_cutDecimal_5 : Nat → Nat → Nat → Nat → xE → Option (Nat × xE)
  | 0 => fun _ _ _ _ => none
  | nn + 1 => gF_Tokens_cutDecimal_5 (g_Tokens_cutDecimal_5 nn)
def g_Tokens_cutDecimal (h : xE) (a0 : Nat) : Option (Nat × xE) := g_Tokens_cutDecimal_5 200000 a0 0 a0 h
set_option maxHeartbeats 4000000 in
set_option maxRecDepth 100000 in
theorem cx_Tokens_cutDecimal (l : Launch) {dA : FieldType → ClassId} {D : va_G} {al : Nat → Nat} {sk sv : Nat → Nat} (hi : mv_inj (mg dA D al me)) (b : mv_H) (hb : xR (mv_r b)) (h : xE) (a0 : Nat) {rv : Nat} {rg : xE} (hf : g_Tokens_cutDecimal h a0 = some (rv, rg)) : mv_C l y_Tokens_cutDecimal (Cond.code y_Tokens_cutDecimal b_Tokens_cutDecimal 7 (Option.some Jvm.ClassFile.FieldType.int) :: ma) ({ frames := 3, cells := 0, slots := 0, locals := 71 }) (mg dA D al me) (mK sk sv) [.ref (al 3), .int (nI a0)] (ab b h) (mv_Ri (fun v σ1 => v = nI rv ∧ σ1 = ab b rg)) := by
  refine mv_C.ofV (cc := b_Tokens_cutDecimal) (nL := 7) (ret := (Option.some Jvm.ClassFile.FieldType.int)) (by decide +kernel) rfl hi (Nat.le_of_ble_eq_true rfl) ?_
  intro p e s m below meth c B hNs hr hnm hno
  have jn102 : ∀ (x1 : Nat) (x2 : Nat) (x4 : Nat) (h : xE), g_Tokens_cutDecimal_102 x1 x2 x4 h = some (rv, rg) → mv_V p l e ({ frames := 3, cells := 0, slots := 0, locals := 71 }) s m ([.ref (al 3), .int (nI a0)] : List Value).toArray below meth c (mg dA D al me) 7 0 0 (mv_Q (mg dA D al me) below s 0 0 (mv_Ri (fun v σ1 => v = nI rv ∧ σ1 = ab b rg))) (ab b h) 102 [(0, .ref (al 3)), (1, .int (nI x1)), (2, .long (nJ x2)), (4, .int (nI x4))] [] := by
    intro x1 x2 x4 h hf
    unfold g_Tokens_cutDecimal_102 at hf
    refine mv_aload_n (pc := 102) B d_Tokens_cutDecimal_102 rfl 0 rfl ?_
    refine mv_iload_n (pc := 103) B d_Tokens_cutDecimal_103 rfl 1 rfl ?_
    refine mv_iload (pc := 104) B d_Tokens_cutDecimal_104 3 rfl ?_
    refine mv_lload_n (pc := 106) B d_Tokens_cutDecimal_106 rfl 2 rfl ?_
    obtain ⟨v2, h1, eh1, hf⟩ := xeb_e hf
    refine mv_callVi (pc := 107) (n := 3) (ci := 2) (C := R_Tokens) B (mK_ok sk sv) hNs rfl rfl (cx_Tokens_number l hi _ hb _ _ _ _ eh1) rfl (ma_goodc kc_Tokens_number) (B.2.2.2.1 _ k_849) (B.2.2.2.1 _ k_851) (B.2.2.2.1 _ ks_25) (B.2.2.2.1 _ k_3) ⟨by decide +kernel, by decide +kernel, by decide +kernel⟩ rfl d_Tokens_cutDecimal_107 rfl (Nat.le_of_ble_eq_true rfl) ⟨by decide, by decide⟩ ⟨by decide, by decide⟩ ⟨by decide, by decide⟩ (mv_noH hno _) (fun w107 σ107 h107 => ?_)
    obtain ⟨rfl, rfl⟩ := h107
    exact mv_iret (pc := 110) B hr rfl d_Tokens_cutDecimal_110 (Nat.le_refl _) (Nat.le_refl _) ⟨_, rfl, xret_i hf⟩
  have jn79 : ∀ (x4 : Nat) (h : xE), g_Tokens_cutDecimal_79 x4 h = some (rv, rg) → mv_V p l e ({ frames := 3, cells := 0, slots := 0, locals := 71 }) s m ([.ref (al 3), .int (nI a0)] : List Value).toArray below meth c (mg dA D al me) 7 0 0 (mv_Q (mg dA D al me) below s 0 0 (mv_Ri (fun v σ1 => v = nI rv ∧ σ1 = ab b rg))) (ab b h) 79 [(0, .ref (al 3)), (4, .int (nI x4))] [] := by
    intro x4 h hf
    unfold g_Tokens_cutDecimal_79 at hf
    refine mv_aload_n (pc := 79) B d_Tokens_cutDecimal_79 rfl 0 rfl ?_
    refine mv_iload (pc := 80) B d_Tokens_cutDecimal_80 1 rfl ?_
    obtain ⟨v4, h3, eh3, hf⟩ := xeb_e hf
    refine mv_callVi (pc := 82) (n := 1) (ci := 2) (C := R_Tokens) B (mK_ok sk sv) hNs rfl rfl (cx_Tokens_broken l hi _ hb _ _ eh3) rfl (ma_goodc kc_Tokens_broken) (B.2.2.2.1 _ k_845) (B.2.2.2.1 _ k_847) (B.2.2.2.1 _ ks_24) (B.2.2.2.1 _ k_3) ⟨by decide +kernel, by decide +kernel, by decide +kernel⟩ rfl d_Tokens_cutDecimal_82 rfl (Nat.le_of_ble_eq_true rfl) ⟨by decide, by decide⟩ ⟨by decide, by decide⟩ ⟨by decide, by decide⟩ (mv_noH hno _) (fun w82 σ82 h82 => ?_)
    obtain ⟨rfl, rfl⟩ := h82
    exact mv_iret (pc := 85) B hr rfl d_Tokens_cutDecimal_85 (Nat.le_refl _) (Nat.le_refl _) ⟨_, rfl, xret_i hf⟩
  have lp5 : ∀ (nn5 : Nat) (x1 : Nat) (x2 : Nat) (x4 : Nat) (h : xE), g_Tokens_cutDecimal_5 nn5 x1 x2 x4 h = some (rv, rg) → mv_V p l e ({ frames := 3, cells := 0, slots := 0, locals := 71 }) s m ([.ref (al 3), .int (nI a0)] : List Value).toArray below meth c (mg dA D al me) 7 0 0 (mv_Q (mg dA D al me) below s 0 0 (mv_Ri (fun v σ1 => v = nI rv ∧ σ1 = ab b rg))) (ab b h) 5 [(0, .ref (al 3)), (1, .int (nI x1)), (2, .long (nJ x2)), (4, .int (nI x4))] [] := by
    intro nn5
    induction nn5 with
    | zero => intro x1 x2 x4 h hf; cases hf
    | succ nn5 ih5 =>
      intro x1 x2 x4 h hf
      have jn86 : ∀ (x1 : Nat) (x2 : Nat) (x4 : Nat) (x5 : Nat) (h : xE), g_Tokens_cutDecimal_86 (g_Tokens_cutDecimal_5 nn5) x1 x2 x4 x5 h = some (rv, rg) → mv_V p l e ({ frames := 3, cells := 0, slots := 0, locals := 71 }) s m ([.ref (al 3), .int (nI a0)] : List Value).toArray below meth c (mg dA D al me) 7 0 0 (mv_Q (mg dA D al me) below s 0 0 (mv_Ri (fun v σ1 => v = nI rv ∧ σ1 = ab b rg))) (ab b h) 86 [(0, .ref (al 3)), (1, .int (nI x1)), (2, .long (nJ x2)), (4, .int (nI x4)), (5, .int (nI x5))] [] := by
        intro x1 x2 x4 x5 h hf
        unfold g_Tokens_cutDecimal_86 at hf
        refine mv_lload_n (pc := 86) B d_Tokens_cutDecimal_86 rfl 2 rfl ?_
        refine mv_ldc2 (pc := 87) (v := 10) B (B.2.2.2.1 _ k_861) d_Tokens_cutDecimal_87 ?_
        refine mvn_topl (n := 10) (by decide) ?_
        refine mvn_lmul (pc := 90) B d_Tokens_cutDecimal_90 ?_
        refine mv_iload (pc := 91) B d_Tokens_cutDecimal_91 4 rfl ?_
        refine mvn_i2l (pc := 93) B d_Tokens_cutDecimal_93 ?_
        refine mvn_ladd (pc := 94) B d_Tokens_cutDecimal_94 ?_
        refine mv_lstore_n (pc := 95) B d_Tokens_cutDecimal_95 rfl (by decide) rfl ?_
        refine mvn_iinc (pc := 96) (j := 3) (v := 1) B d_Tokens_cutDecimal_96 rfl (by decide) (by decide) rfl ?_
        refine mv_goto (pc := 99) (tgt := 5) B d_Tokens_cutDecimal_99 rfl ?_
        refine mv_lpick [2, 3, 1, 0] rfl ?_
        exact ih5 _ _ _ _ hf
      have jn58 : ∀ (x1 : Nat) (x2 : Nat) (x4 : Nat) (x5 : Nat) (y0 : Nat) (h : xE), g_Tokens_cutDecimal_58 (g_Tokens_cutDecimal_5 nn5) x1 x2 x4 x5 y0 h = some (rv, rg) → mv_V p l e ({ frames := 3, cells := 0, slots := 0, locals := 71 }) s m ([.ref (al 3), .int (nI a0)] : List Value).toArray below meth c (mg dA D al me) 7 0 0 (mv_Q (mg dA D al me) below s 0 0 (mv_Ri (fun v σ1 => v = nI rv ∧ σ1 = ab b rg))) (ab b h) 58 [(0, .ref (al 3)), (1, .int (nI x1)), (2, .long (nJ x2)), (4, .int (nI x4)), (5, .int (nI x5))] [.int (nI y0)] := by
        intro x1 x2 x4 x5 y0 h hf
        unfold g_Tokens_cutDecimal_58 at hf
        refine mv_istore (pc := 58) B d_Tokens_cutDecimal_58 (by decide) rfl ?_
        refine mv_iload (pc := 60) B d_Tokens_cutDecimal_60 0 rfl ?_
        refine mv_if_ne (pc := 62) (tgt := 79) B d_Tokens_cutDecimal_62 rfl (fun h62 => ?_) (fun h62 => ?_)
        · skip
          have hf := x_eq_f (y := 0) h62 hf
          refine mv_lpick [1, 4] rfl ?_
          exact jn79 _ _ hf
        · skip
          have hf := x_eq_t (y := 0) h62 hf
          refine mv_lload_n (pc := 65) B d_Tokens_cutDecimal_65 rfl 3 rfl ?_
          refine mv_ldc2 (pc := 66) (v := 1844674407370955161) B (B.2.2.2.1 _ k_860) d_Tokens_cutDecimal_66 ?_
          refine mvn_topl (n := 1844674407370955161) (by decide) ?_
          refine mvn_lcmp (pc := 69) B d_Tokens_cutDecimal_69 ?_
          refine mv_if_ne (pc := 70) (tgt := 86) B d_Tokens_cutDecimal_70 rfl (fun h70 => ?_) (fun h70 => ?_)
          · skip
            have hf := x_eq_f (y := 0) h70 hf
            refine mv_lpick [1, 2, 3, 4, 5] rfl ?_
            exact jn86 _ _ _ _ _ hf
          · skip
            have hf := x_eq_t (y := 0) h70 hf
            refine mv_iload (pc := 73) B d_Tokens_cutDecimal_73 5 rfl ?_
            refine mv_iconst (pc := 75) (v := nI 5) B d_Tokens_cutDecimal_75 (by decide) ?_
            refine mv_icmp_le (pc := 76) (tgt := 86) B d_Tokens_cutDecimal_76 rfl (fun h76 => ?_) (fun h76 => ?_)
            · skip
              have hf := x_le_t h76 hf
              refine mv_lpick [1, 2, 3, 4, 5] rfl ?_
              exact jn86 _ _ _ _ _ hf
            · skip
              have hf := x_le_f h76 hf
              refine mv_lpick [1, 4] rfl ?_
              exact jn79 _ _ hf
      have jn53 : ∀ (x1 : Nat) (x2 : Nat) (x4 : Nat) (x5 : Nat) (h : xE), g_Tokens_cutDecimal_53 (g_Tokens_cutDecimal_5 nn5) x1 x2 x4 x5 h = some (rv, rg) → mv_V p l e ({ frames := 3, cells := 0, slots := 0, locals := 71 }) s m ([.ref (al 3), .int (nI a0)] : List Value).toArray below meth c (mg dA D al me) 7 0 0 (mv_Q (mg dA D al me) below s 0 0 (mv_Ri (fun v σ1 => v = nI rv ∧ σ1 = ab b rg))) (ab b h) 53 [(0, .ref (al 3)), (1, .int (nI x1)), (2, .long (nJ x2)), (4, .int (nI x4)), (5, .int (nI x5))] [] := by
        intro x1 x2 x4 x5 h hf
        unfold g_Tokens_cutDecimal_53 at hf
        refine mv_iconst (pc := 53) (v := nI 1) B d_Tokens_cutDecimal_53 (by decide) ?_
        refine mv_goto (pc := 54) (tgt := 58) B d_Tokens_cutDecimal_54 rfl ?_
        refine mv_lpick [0, 1, 2, 3, 4] rfl ?_
        exact jn58 _ _ _ _ _ _ hf
      have hf : gF_Tokens_cutDecimal_5 (g_Tokens_cutDecimal_5 nn5) x1 x2 x4 h = some (rv, rg) := hf
      unfold gF_Tokens_cutDecimal_5 at hf
      have hf := (xfz_e _ _).symm.trans hf
      have hf := (xfz_e _ _).symm.trans hf
      have hf := (xfz_e _ _).symm.trans hf
      refine mv_iload (pc := 5) B d_Tokens_cutDecimal_5 3 rfl ?_
      refine mv_aload_n (pc := 7) B d_Tokens_cutDecimal_7 rfl 0 rfl ?_
      refine mv_getI (pc := 8) (ci := 2) (C := R_Tokens) (T := F_Tokens) (N := 10) B 5 rfl rfl (by decide) i_Tokens (B.2.2.2.1 _ k_100) rfl d_Tokens_cutDecimal_8 ?_
      obtain ⟨v5, ev5, hf⟩ := xer_e hf
      refine mvn_top (xfi_3_5 ev5) ?_
      refine mv_icmp_ge (pc := 11) (tgt := 102) B d_Tokens_cutDecimal_11 rfl (fun h11 => ?_) (fun h11 => ?_)
      · skip
        have hf := x_le_t h11 hf
        refine mv_lpick [0, 1, 2, 3] rfl ?_
        exact jn102 _ _ _ _ hf
      · skip
        have hf := x_le_f h11 hf
        refine mv_aload_n (pc := 14) B d_Tokens_cutDecimal_14 rfl 0 rfl ?_
        refine mv_getR (pc := 15) (ci := 2) (C := R_Tokens) (T := F_Tokens) (N := 10) B 4 rfl rfl (by decide) i_Tokens (B.2.2.2.1 _ k_98) rfl hb.2 d_Tokens_cutDecimal_15 ?_
        refine mv_iload (pc := 18) B d_Tokens_cutDecimal_18 3 rfl ?_
        obtain ⟨q6, hf⟩ := xix_e hf
        refine mv_bald (pc := 20) B rfl (xin q6 (by decide)) d_Tokens_cutDecimal_20 ?_
        obtain ⟨v7, ev7, hf⟩ := xer_e hf
        refine mvn_top (xfa_144 q6 ev7) ?_
        obtain ⟨v9, h8, eh8, hf⟩ := xeb_e hf
        refine mv_callSi (pc := 21) (n := 1) B (mK_ok sk sv) hNs (cx_Tokens_isDigit l hi _ _ _ eh8) rfl (ma_goodc kc_Tokens_isDigit) (B.2.2.2.1 _ k_835) (B.2.2.2.1 _ k_836) (B.2.2.2.1 _ k_3) ⟨by decide +kernel, by decide +kernel, by decide +kernel⟩ rfl d_Tokens_cutDecimal_21 rfl (Nat.le_of_ble_eq_true rfl) ⟨by decide, by decide⟩ ⟨by decide, by decide⟩ ⟨by decide, by decide⟩ (mv_noH hno _) (fun w21 σ21 h21 => ?_)
        obtain ⟨rfl, rfl⟩ := h21
        refine mv_if_eq (pc := 24) (tgt := 102) B d_Tokens_cutDecimal_24 rfl (fun h24 => ?_) (fun h24 => ?_)
        · skip
          have hf := x_eq_t (y := 0) h24 hf
          refine mv_lpick [0, 1, 2, 3] rfl ?_
          exact jn102 _ _ _ _ hf
        · skip
          have hf := x_eq_f (y := 0) h24 hf
          refine mv_aload_n (pc := 27) B d_Tokens_cutDecimal_27 rfl 0 rfl ?_
          refine mv_getR (pc := 28) (ci := 2) (C := R_Tokens) (T := F_Tokens) (N := 10) B 4 rfl rfl (by decide) i_Tokens (B.2.2.2.1 _ k_98) rfl hb.2 d_Tokens_cutDecimal_28 ?_
          refine mv_iload (pc := 31) B d_Tokens_cutDecimal_31 3 rfl ?_
          obtain ⟨q10, hf⟩ := xix_e hf
          refine mv_bald (pc := 33) B rfl (xin q10 (by decide)) d_Tokens_cutDecimal_33 ?_
          obtain ⟨v11, ev11, hf⟩ := xer_e hf
          refine mvn_top (xfa_144 q10 ev11) ?_
          refine mv_bipush (pc := 34) (v := nI 48) B d_Tokens_cutDecimal_34 (by decide) ?_
          refine mvn_isub (pc := 36) B d_Tokens_cutDecimal_36 ?_
          refine mv_istore (pc := 37) B d_Tokens_cutDecimal_37 (by decide) rfl ?_
          refine mv_lload_n (pc := 39) B d_Tokens_cutDecimal_39 rfl 3 rfl ?_
          refine mv_lconst (pc := 40) (v := nJ 0) B d_Tokens_cutDecimal_40 (by decide) ?_
          refine mvn_lcmp (pc := 41) B d_Tokens_cutDecimal_41 ?_
          refine mv_if_lt (pc := 42) (tgt := 53) B d_Tokens_cutDecimal_42 rfl (fun h42 => ?_) (fun h42 => ?_)
          · skip
            have hf := x_lt_t (y := 0) h42 hf
            refine mv_lpick [1, 2, 3, 4, 0] rfl ?_
            exact jn53 _ _ _ _ _ hf
          · skip
            have hf := x_lt_f (y := 0) h42 hf
            refine mv_lload_n (pc := 45) B d_Tokens_cutDecimal_45 rfl 3 rfl ?_
            refine mv_ldc2 (pc := 46) (v := 1844674407370955161) B (B.2.2.2.1 _ k_860) d_Tokens_cutDecimal_46 ?_
            refine mvn_topl (n := 1844674407370955161) (by decide) ?_
            refine mvn_lcmp (pc := 49) B d_Tokens_cutDecimal_49 ?_
            refine mv_if_le (pc := 50) (tgt := 57) B d_Tokens_cutDecimal_50 rfl (fun h50 => ?_) (fun h50 => ?_)
            · skip
              have hf := x_le_t (y := 0) h50 hf
              refine mv_iconst (pc := 57) (v := nI 0) B d_Tokens_cutDecimal_57 (by decide) ?_
              refine mv_lpick [1, 2, 3, 4, 0] rfl ?_
              exact jn58 _ _ _ _ _ _ hf
            · skip
              have hf := x_le_f (y := 0) h50 hf
              refine mv_lpick [1, 2, 3, 4, 0] rfl ?_
              exact jn53 _ _ _ _ _ hf
  unfold g_Tokens_cutDecimal at hf
  refine mv_lconst (pc := 0) (v := nJ 0) B d_Tokens_cutDecimal_0 (by decide) ?_
  refine mv_lstore_n (pc := 1) B d_Tokens_cutDecimal_1 rfl (by decide) rfl ?_
  refine mv_iload_n (pc := 2) B d_Tokens_cutDecimal_2 rfl 2 rfl ?_
  refine mv_istore (pc := 3) B d_Tokens_cutDecimal_3 (by decide) rfl ?_
  refine mv_lpick [2, 3, 1, 0] rfl ?_
  exact lp5 _ _ _ _ _ hf
def g_Tokens_cutHex_67 (x1 : Nat) (x2 : Nat) (x4 : Nat) (h : xE) : Option (Nat × xE) := bif xeq x4 (xadd x1 2) then (xeb (g_Tokens_broken h x4) fun v4 h3 => some (v4, h3)) else (xeb (g_Tokens_number h x1 x4 x2) fun v2 h1 => some (v2, h1))
def gF_Tokens_cutHex_7 (k7 : Nat → Nat → Nat → xE → Option (Nat × xE)) (x1 : Nat) (x2 : Nat) (x4 : Nat) (h : xE) : Option (Nat × xE) := xfz x1 fun x1 => xfz x2 fun x2 => xfz x4 fun x4 => xer (ep_g h.1 7) fun v5 => bif xlt x4 v5 then (bif Nat.blt x4 8192 then xer (ep_g (xL_144 h.2) x4) fun v7 => xeb (g_Tokens_hexDigit h v7) fun v9 h8 => bif xlt v9 0 then (g_Tokens_cutHex_67 x1 x2 x4 h8) else (bif xeq x4 (xadd x1 18) then (xeb (g_Tokens_broken h8 x4) fun v15 h14 => some (v15, h14)) else (bif Nat.blt x4 8192 then xer (ep_g (xL_144 h8.2) x4) fun v11 => xeb (g_Tokens_hexDigit h8 v11) fun v13 h12 => k7 x1 (Nat.lor (yshl x2 4) (xi2l v13)) (xadd x4 1) h12 else none)) else none) else (g_Tokens_cutHex_67 x1 x2 x4 h)
def g_Tokens_cutHex_7 : Nat → Nat → Nat → Nat → xE → Option (Nat × xE)
  | 0 => fun _ _ _ _ => none
  | nn + 1 => gF_Tokens_cutHex_7 (g_Tokens_cutHex_7 nn)
def g_Tokens_cutHex (h : xE) (a0 : Nat) : Option (Nat × xE) := g_Tokens_cutHex_7 200000 a0 0 (xadd a0 2) h
set_option maxHeartbeats 4000000 in
set_option maxRecDepth 100000 in
theorem cx_Tokens_cutHex (l : Launch) {dA : FieldType → ClassId} {D : va_G} {al : Nat → Nat} {sk sv : Nat → Nat} (hi : mv_inj (mg dA D al me)) (b : mv_H) (hb : xR (mv_r b)) (h : xE) (a0 : Nat) {rv : Nat} {rg : xE} (hf : g_Tokens_cutHex h a0 = some (rv, rg)) : mv_C l y_Tokens_cutHex (Cond.code y_Tokens_cutHex b_Tokens_cutHex 5 (Option.some Jvm.ClassFile.FieldType.int) :: ma) ({ frames := 3, cells := 0, slots := 0, locals := 71 }) (mg dA D al me) (mK sk sv) [.ref (al 3), .int (nI a0)] (ab b h) (mv_Ri (fun v σ1 => v = nI rv ∧ σ1 = ab b rg)) := by
  refine mv_C.ofV (cc := b_Tokens_cutHex) (nL := 5) (ret := (Option.some Jvm.ClassFile.FieldType.int)) (by decide +kernel) rfl hi (Nat.le_of_ble_eq_true rfl) ?_
  intro p e s m below meth c B hNs hr hnm hno
  have jn67 : ∀ (x1 : Nat) (x2 : Nat) (x4 : Nat) (h : xE), g_Tokens_cutHex_67 x1 x2 x4 h = some (rv, rg) → mv_V p l e ({ frames := 3, cells := 0, slots := 0, locals := 71 }) s m ([.ref (al 3), .int (nI a0)] : List Value).toArray below meth c (mg dA D al me) 5 0 0 (mv_Q (mg dA D al me) below s 0 0 (mv_Ri (fun v σ1 => v = nI rv ∧ σ1 = ab b rg))) (ab b h) 67 [(0, .ref (al 3)), (1, .int (nI x1)), (2, .long (nJ x2)), (4, .int (nI x4))] [] := by
    intro x1 x2 x4 h hf
    unfold g_Tokens_cutHex_67 at hf
    refine mv_iload (pc := 67) B d_Tokens_cutHex_67 3 rfl ?_
    refine mv_iload_n (pc := 69) B d_Tokens_cutHex_69 rfl 1 rfl ?_
    refine mv_iconst (pc := 70) (v := nI 2) B d_Tokens_cutHex_70 (by decide) ?_
    refine mvn_iadd (pc := 71) B d_Tokens_cutHex_71 ?_
    refine mv_icmp_ne (pc := 72) (tgt := 84) B d_Tokens_cutHex_72 rfl (fun h72 => ?_) (fun h72 => ?_)
    · skip
      have hf := x_eq_f h72 hf
      refine mv_aload_n (pc := 84) B d_Tokens_cutHex_84 rfl 0 rfl ?_
      refine mv_iload_n (pc := 85) B d_Tokens_cutHex_85 rfl 1 rfl ?_
      refine mv_iload (pc := 86) B d_Tokens_cutHex_86 3 rfl ?_
      refine mv_lload_n (pc := 88) B d_Tokens_cutHex_88 rfl 2 rfl ?_
      obtain ⟨v2, h1, eh1, hf⟩ := xeb_e hf
      refine mv_callVi (pc := 89) (n := 3) (ci := 2) (C := R_Tokens) B (mK_ok sk sv) hNs rfl rfl (cx_Tokens_number l hi _ hb _ _ _ _ eh1) rfl (ma_goodc kc_Tokens_number) (B.2.2.2.1 _ k_849) (B.2.2.2.1 _ k_851) (B.2.2.2.1 _ ks_25) (B.2.2.2.1 _ k_3) ⟨by decide +kernel, by decide +kernel, by decide +kernel⟩ rfl d_Tokens_cutHex_89 rfl (Nat.le_of_ble_eq_true rfl) ⟨by decide, by decide⟩ ⟨by decide, by decide⟩ ⟨by decide, by decide⟩ (mv_noH hno _) (fun w89 σ89 h89 => ?_)
      obtain ⟨rfl, rfl⟩ := h89
      exact mv_iret (pc := 92) B hr rfl d_Tokens_cutHex_92 (Nat.le_refl _) (Nat.le_refl _) ⟨_, rfl, xret_i hf⟩
    · skip
      have hf := x_eq_t h72 hf
      refine mv_aload_n (pc := 75) B d_Tokens_cutHex_75 rfl 0 rfl ?_
      refine mv_iload (pc := 76) B d_Tokens_cutHex_76 3 rfl ?_
      obtain ⟨v4, h3, eh3, hf⟩ := xeb_e hf
      refine mv_callVi (pc := 78) (n := 1) (ci := 2) (C := R_Tokens) B (mK_ok sk sv) hNs rfl rfl (cx_Tokens_broken l hi _ hb _ _ eh3) rfl (ma_goodc kc_Tokens_broken) (B.2.2.2.1 _ k_845) (B.2.2.2.1 _ k_847) (B.2.2.2.1 _ ks_24) (B.2.2.2.1 _ k_3) ⟨by decide +kernel, by decide +kernel, by decide +kernel⟩ rfl d_Tokens_cutHex_78 rfl (Nat.le_of_ble_eq_true rfl) ⟨by decide, by decide⟩ ⟨by decide, by decide⟩ ⟨by decide, by decide⟩ (mv_noH hno _) (fun w78 σ78 h78 => ?_)
      obtain ⟨rfl, rfl⟩ := h78
      refine mv_goto (pc := 81) (tgt := 92) B d_Tokens_cutHex_81 rfl ?_
      exact mv_iret (pc := 92) B hr rfl d_Tokens_cutHex_92 (Nat.le_refl _) (Nat.le_refl _) ⟨_, rfl, xret_i hf⟩
  have lp7 : ∀ (nn7 : Nat) (x1 : Nat) (x2 : Nat) (x4 : Nat) (h : xE), g_Tokens_cutHex_7 nn7 x1 x2 x4 h = some (rv, rg) → mv_V p l e ({ frames := 3, cells := 0, slots := 0, locals := 71 }) s m ([.ref (al 3), .int (nI a0)] : List Value).toArray below meth c (mg dA D al me) 5 0 0 (mv_Q (mg dA D al me) below s 0 0 (mv_Ri (fun v σ1 => v = nI rv ∧ σ1 = ab b rg))) (ab b h) 7 [(0, .ref (al 3)), (1, .int (nI x1)), (2, .long (nJ x2)), (4, .int (nI x4))] [] := by
    intro nn7
    induction nn7 with
    | zero => intro x1 x2 x4 h hf; cases hf
    | succ nn7 ih7 =>
      intro x1 x2 x4 h hf
      have hf : gF_Tokens_cutHex_7 (g_Tokens_cutHex_7 nn7) x1 x2 x4 h = some (rv, rg) := hf
      unfold gF_Tokens_cutHex_7 at hf
      have hf := (xfz_e _ _).symm.trans hf
      have hf := (xfz_e _ _).symm.trans hf
      have hf := (xfz_e _ _).symm.trans hf
      refine mv_iload (pc := 7) B d_Tokens_cutHex_7 3 rfl ?_
      refine mv_aload_n (pc := 9) B d_Tokens_cutHex_9 rfl 0 rfl ?_
      refine mv_getI (pc := 10) (ci := 2) (C := R_Tokens) (T := F_Tokens) (N := 10) B 5 rfl rfl (by decide) i_Tokens (B.2.2.2.1 _ k_100) rfl d_Tokens_cutHex_10 ?_
      obtain ⟨v5, ev5, hf⟩ := xer_e hf
      refine mvn_top (xfi_3_5 ev5) ?_
      refine mv_icmp_ge (pc := 13) (tgt := 67) B d_Tokens_cutHex_13 rfl (fun h13 => ?_) (fun h13 => ?_)
      · skip
        have hf := x_le_t h13 hf
        refine mv_lpick [0, 1, 2, 3] rfl ?_
        exact jn67 _ _ _ _ hf
      · skip
        have hf := x_le_f h13 hf
        refine mv_aload_n (pc := 16) B d_Tokens_cutHex_16 rfl 0 rfl ?_
        refine mv_getR (pc := 17) (ci := 2) (C := R_Tokens) (T := F_Tokens) (N := 10) B 4 rfl rfl (by decide) i_Tokens (B.2.2.2.1 _ k_98) rfl hb.2 d_Tokens_cutHex_17 ?_
        refine mv_iload (pc := 20) B d_Tokens_cutHex_20 3 rfl ?_
        obtain ⟨q6, hf⟩ := xix_e hf
        refine mv_bald (pc := 22) B rfl (xin q6 (by decide)) d_Tokens_cutHex_22 ?_
        obtain ⟨v7, ev7, hf⟩ := xer_e hf
        refine mvn_top (xfa_144 q6 ev7) ?_
        obtain ⟨v9, h8, eh8, hf⟩ := xeb_e hf
        refine mv_callSi (pc := 23) (n := 1) B (mK_ok sk sv) hNs (cx_Tokens_hexDigit l hi _ _ _ eh8) rfl (ma_goodc kc_Tokens_hexDigit) (B.2.2.2.1 _ k_842) (B.2.2.2.1 _ k_843) (B.2.2.2.1 _ k_3) ⟨by decide +kernel, by decide +kernel, by decide +kernel⟩ rfl d_Tokens_cutHex_23 rfl (Nat.le_of_ble_eq_true rfl) ⟨by decide, by decide⟩ ⟨by decide, by decide⟩ ⟨by decide, by decide⟩ (mv_noH hno _) (fun w23 σ23 h23 => ?_)
        obtain ⟨rfl, rfl⟩ := h23
        refine mv_if_lt (pc := 26) (tgt := 67) B d_Tokens_cutHex_26 rfl (fun h26 => ?_) (fun h26 => ?_)
        · skip
          have hf := x_lt_t (y := 0) h26 hf
          refine mv_lpick [0, 1, 2, 3] rfl ?_
          exact jn67 _ _ _ _ hf
        · skip
          have hf := x_lt_f (y := 0) h26 hf
          refine mv_iload (pc := 29) B d_Tokens_cutHex_29 3 rfl ?_
          refine mv_iload_n (pc := 31) B d_Tokens_cutHex_31 rfl 1 rfl ?_
          refine mv_bipush (pc := 32) (v := nI 18) B d_Tokens_cutHex_32 (by decide) ?_
          refine mvn_iadd (pc := 34) B d_Tokens_cutHex_34 ?_
          refine mv_icmp_ne (pc := 35) (tgt := 45) B d_Tokens_cutHex_35 rfl (fun h35 => ?_) (fun h35 => ?_)
          · skip
            have hf := x_eq_f h35 hf
            refine mv_lload_n (pc := 45) B d_Tokens_cutHex_45 rfl 2 rfl ?_
            refine mv_iconst (pc := 46) (v := nI 4) B d_Tokens_cutHex_46 (by decide) ?_
            refine mvn_lshl (pc := 47) B d_Tokens_cutHex_47 ?_
            refine mv_aload_n (pc := 48) B d_Tokens_cutHex_48 rfl 0 rfl ?_
            refine mv_getR (pc := 49) (ci := 2) (C := R_Tokens) (T := F_Tokens) (N := 10) B 4 rfl rfl (by decide) i_Tokens (B.2.2.2.1 _ k_98) rfl hb.2 d_Tokens_cutHex_49 ?_
            refine mv_iload (pc := 52) B d_Tokens_cutHex_52 3 rfl ?_
            obtain ⟨q10, hf⟩ := xix_e hf
            refine mv_bald (pc := 54) B rfl (xin q10 (by decide)) d_Tokens_cutHex_54 ?_
            obtain ⟨v11, ev11, hf⟩ := xer_e hf
            refine mvn_top (xfa_144 q10 ev11) ?_
            obtain ⟨v13, h12, eh12, hf⟩ := xeb_e hf
            refine mv_callSi (pc := 55) (n := 1) B (mK_ok sk sv) hNs (cx_Tokens_hexDigit l hi _ _ _ eh12) rfl (ma_goodc kc_Tokens_hexDigit) (B.2.2.2.1 _ k_842) (B.2.2.2.1 _ k_843) (B.2.2.2.1 _ k_3) ⟨by decide +kernel, by decide +kernel, by decide +kernel⟩ rfl d_Tokens_cutHex_55 rfl (Nat.le_of_ble_eq_true rfl) ⟨by decide, by decide⟩ ⟨by decide, by decide⟩ ⟨by decide, by decide⟩ (mv_noH hno _) (fun w55 σ55 h55 => ?_)
            obtain ⟨rfl, rfl⟩ := h55
            refine mvn_i2l (pc := 58) B d_Tokens_cutHex_58 ?_
            refine mvn_lor (pc := 59) B d_Tokens_cutHex_59 ?_
            refine mv_lstore_n (pc := 60) B d_Tokens_cutHex_60 rfl (by decide) rfl ?_
            refine mvn_iinc (pc := 61) (j := 3) (v := 1) B d_Tokens_cutHex_61 rfl (by decide) (by decide) rfl ?_
            refine mv_goto (pc := 64) (tgt := 7) B d_Tokens_cutHex_64 rfl ?_
            refine mv_lpick [2, 3, 1, 0] rfl ?_
            exact ih7 _ _ _ _ hf
          · skip
            have hf := x_eq_t h35 hf
            refine mv_aload_n (pc := 38) B d_Tokens_cutHex_38 rfl 0 rfl ?_
            refine mv_iload (pc := 39) B d_Tokens_cutHex_39 3 rfl ?_
            obtain ⟨v15, h14, eh14, hf⟩ := xeb_e hf
            refine mv_callVi (pc := 41) (n := 1) (ci := 2) (C := R_Tokens) B (mK_ok sk sv) hNs rfl rfl (cx_Tokens_broken l hi _ hb _ _ eh14) rfl (ma_goodc kc_Tokens_broken) (B.2.2.2.1 _ k_845) (B.2.2.2.1 _ k_847) (B.2.2.2.1 _ ks_24) (B.2.2.2.1 _ k_3) ⟨by decide +kernel, by decide +kernel, by decide +kernel⟩ rfl d_Tokens_cutHex_41 rfl (Nat.le_of_ble_eq_true rfl) ⟨by decide, by decide⟩ ⟨by decide, by decide⟩ ⟨by decide, by decide⟩ (mv_noH hno _) (fun w41 σ41 h41 => ?_)
            obtain ⟨rfl, rfl⟩ := h41
            exact mv_iret (pc := 44) B hr rfl d_Tokens_cutHex_44 (Nat.le_refl _) (Nat.le_refl _) ⟨_, rfl, xret_i hf⟩
  unfold g_Tokens_cutHex at hf
  refine mv_lconst (pc := 0) (v := nJ 0) B d_Tokens_cutHex_0 (by decide) ?_
  refine mv_lstore_n (pc := 1) B d_Tokens_cutHex_1 rfl (by decide) rfl ?_
  refine mv_iload_n (pc := 2) B d_Tokens_cutHex_2 rfl 2 rfl ?_
  refine mv_iconst (pc := 3) (v := nI 2) B d_Tokens_cutHex_3 (by decide) ?_
  refine mvn_iadd (pc := 4) B d_Tokens_cutHex_4 ?_
  refine mv_istore (pc := 5) B d_Tokens_cutHex_5 (by decide) rfl ?_
  refine mv_lpick [2, 3, 1, 0] rfl ?_
  exact lp7 _ _ _ _ _ hf
def g_Tokens_cutCode_30 (x1 : Nat) (x2 : Nat) (h : xE) : Option (Nat × xE) := xeb (g_Tokens_characterAt h x2) fun v2 h1 => bif xeq v2 34 then (xeb (g_Tokens_add h1 5 x1 (xi2l (xsub (xsub x2 x1) 1)) (xadd x2 1)) fun v4 h3 => some (v4, h3)) else (xeb (g_Tokens_broken h1 x2) fun v6 h5 => some (v6, h5))
def gF_Tokens_cutCode_4 (k4 : Nat → Nat → xE → Option (Nat × xE)) (x1 : Nat) (x2 : Nat) (h : xE) : Option (Nat × xE) := xfz x1 fun x1 => xfz x2 fun x2 => xer (ep_g h.1 7) fun v7 => bif xlt x2 v7 then (bif Nat.blt x2 8192 then xer (ep_g (xL_144 h.2) x2) fun v9 => xeb (g_Tokens_isOfCode h v9) fun v11 h10 => bif xeq v11 0 then (g_Tokens_cutCode_30 x1 x2 h10) else (k4 x1 (xadd x2 1) h10) else none) else (g_Tokens_cutCode_30 x1 x2 h)
def g_Tokens_cutCode_4 : Nat → Nat → Nat → xE → Option (Nat × xE)
  | 0 => fun _ _ _ => none
  | nn + 1 => gF_Tokens_cutCode_4 (g_Tokens_cutCode_4 nn)
def g_Tokens_cutCode (h : xE) (a0 : Nat) : Option (Nat × xE) := g_Tokens_cutCode_4 200000 a0 (xadd a0 1) h
set_option maxHeartbeats 4000000 in
set_option maxRecDepth 100000 in
theorem cx_Tokens_cutCode (l : Launch) {dA : FieldType → ClassId} {D : va_G} {al : Nat → Nat} {sk sv : Nat → Nat} (hi : mv_inj (mg dA D al me)) (b : mv_H) (hb : xR (mv_r b)) (h : xE) (a0 : Nat) {rv : Nat} {rg : xE} (hf : g_Tokens_cutCode h a0 = some (rv, rg)) : mv_C l y_Tokens_cutCode (Cond.code y_Tokens_cutCode b_Tokens_cutCode 3 (Option.some Jvm.ClassFile.FieldType.int) :: ma) ({ frames := 2, cells := 0, slots := 0, locals := 46 }) (mg dA D al me) (mK sk sv) [.ref (al 3), .int (nI a0)] (ab b h) (mv_Ri (fun v σ1 => v = nI rv ∧ σ1 = ab b rg)) := by
  refine mv_C.ofV (cc := b_Tokens_cutCode) (nL := 3) (ret := (Option.some Jvm.ClassFile.FieldType.int)) (by decide +kernel) rfl hi (Nat.le_of_ble_eq_true rfl) ?_
  intro p e s m below meth c B hNs hr hnm hno
  have jn30 : ∀ (x1 : Nat) (x2 : Nat) (h : xE), g_Tokens_cutCode_30 x1 x2 h = some (rv, rg) → mv_V p l e ({ frames := 2, cells := 0, slots := 0, locals := 46 }) s m ([.ref (al 3), .int (nI a0)] : List Value).toArray below meth c (mg dA D al me) 3 0 0 (mv_Q (mg dA D al me) below s 0 0 (mv_Ri (fun v σ1 => v = nI rv ∧ σ1 = ab b rg))) (ab b h) 30 [(0, .ref (al 3)), (1, .int (nI x1)), (2, .int (nI x2))] [] := by
    intro x1 x2 h hf
    unfold g_Tokens_cutCode_30 at hf
    refine mv_aload_n (pc := 30) B d_Tokens_cutCode_30 rfl 0 rfl ?_
    refine mv_iload_n (pc := 31) B d_Tokens_cutCode_31 rfl 2 rfl ?_
    obtain ⟨v2, h1, eh1, hf⟩ := xeb_e hf
    refine mv_callVi (pc := 32) (n := 1) (ci := 2) (C := R_Tokens) B (mK_ok sk sv) hNs rfl rfl (cx_Tokens_characterAt l hi _ hb _ _ eh1) rfl (ma_goodc kc_Tokens_characterAt) (B.2.2.2.1 _ k_827) (B.2.2.2.1 _ k_829) (B.2.2.2.1 _ ks_21) (B.2.2.2.1 _ k_3) ⟨by decide +kernel, by decide +kernel, by decide +kernel⟩ rfl d_Tokens_cutCode_32 rfl (Nat.le_of_ble_eq_true rfl) ⟨by decide, by decide⟩ ⟨by decide, by decide⟩ ⟨by decide, by decide⟩ (mv_noH hno _) (fun w32 σ32 h32 => ?_)
    obtain ⟨rfl, rfl⟩ := h32
    refine mv_bipush (pc := 35) (v := nI 34) B d_Tokens_cutCode_35 (by decide) ?_
    refine mv_icmp_eq (pc := 37) (tgt := 46) B d_Tokens_cutCode_37 rfl (fun h37 => ?_) (fun h37 => ?_)
    · skip
      have hf := x_eq_t h37 hf
      refine mv_aload_n (pc := 46) B d_Tokens_cutCode_46 rfl 0 rfl ?_
      refine mv_iconst (pc := 47) (v := nI 5) B d_Tokens_cutCode_47 (by decide) ?_
      refine mv_iload_n (pc := 48) B d_Tokens_cutCode_48 rfl 1 rfl ?_
      refine mv_iload_n (pc := 49) B d_Tokens_cutCode_49 rfl 2 rfl ?_
      refine mv_iload_n (pc := 50) B d_Tokens_cutCode_50 rfl 1 rfl ?_
      refine mvn_isub (pc := 51) B d_Tokens_cutCode_51 ?_
      refine mv_iconst (pc := 52) (v := nI 1) B d_Tokens_cutCode_52 (by decide) ?_
      refine mvn_isub (pc := 53) B d_Tokens_cutCode_53 ?_
      refine mvn_i2l (pc := 54) B d_Tokens_cutCode_54 ?_
      refine mv_iload_n (pc := 55) B d_Tokens_cutCode_55 rfl 2 rfl ?_
      refine mv_iconst (pc := 56) (v := nI 1) B d_Tokens_cutCode_56 (by decide) ?_
      refine mvn_iadd (pc := 57) B d_Tokens_cutCode_57 ?_
      obtain ⟨v4, h3, eh3, hf⟩ := xeb_e hf
      refine mv_callVi (pc := 58) (n := 4) (ci := 2) (C := R_Tokens) B (mK_ok sk sv) hNs rfl rfl (cx_Tokens_add l hi _ hb _ _ _ _ _ eh3) rfl (ma_goodc kc_Tokens_add) (B.2.2.2.1 _ k_831) (B.2.2.2.1 _ k_833) (B.2.2.2.1 _ ks_22) (B.2.2.2.1 _ k_3) ⟨by decide +kernel, by decide +kernel, by decide +kernel⟩ rfl d_Tokens_cutCode_58 rfl (Nat.le_of_ble_eq_true rfl) ⟨by decide, by decide⟩ ⟨by decide, by decide⟩ ⟨by decide, by decide⟩ (mv_noH hno _) (fun w58 σ58 h58 => ?_)
      obtain ⟨rfl, rfl⟩ := h58
      exact mv_iret (pc := 61) B hr rfl d_Tokens_cutCode_61 (Nat.le_refl _) (Nat.le_refl _) ⟨_, rfl, xret_i hf⟩
    · skip
      have hf := x_eq_f h37 hf
      refine mv_aload_n (pc := 40) B d_Tokens_cutCode_40 rfl 0 rfl ?_
      refine mv_iload_n (pc := 41) B d_Tokens_cutCode_41 rfl 2 rfl ?_
      obtain ⟨v6, h5, eh5, hf⟩ := xeb_e hf
      refine mv_callVi (pc := 42) (n := 1) (ci := 2) (C := R_Tokens) B (mK_ok sk sv) hNs rfl rfl (cx_Tokens_broken l hi _ hb _ _ eh5) rfl (ma_goodc kc_Tokens_broken) (B.2.2.2.1 _ k_845) (B.2.2.2.1 _ k_847) (B.2.2.2.1 _ ks_24) (B.2.2.2.1 _ k_3) ⟨by decide +kernel, by decide +kernel, by decide +kernel⟩ rfl d_Tokens_cutCode_42 rfl (Nat.le_of_ble_eq_true rfl) ⟨by decide, by decide⟩ ⟨by decide, by decide⟩ ⟨by decide, by decide⟩ (mv_noH hno _) (fun w42 σ42 h42 => ?_)
      obtain ⟨rfl, rfl⟩ := h42
      exact mv_iret (pc := 45) B hr rfl d_Tokens_cutCode_45 (Nat.le_refl _) (Nat.le_refl _) ⟨_, rfl, xret_i hf⟩
  have lp4 : ∀ (nn4 : Nat) (x1 : Nat) (x2 : Nat) (h : xE), g_Tokens_cutCode_4 nn4 x1 x2 h = some (rv, rg) → mv_V p l e ({ frames := 2, cells := 0, slots := 0, locals := 46 }) s m ([.ref (al 3), .int (nI a0)] : List Value).toArray below meth c (mg dA D al me) 3 0 0 (mv_Q (mg dA D al me) below s 0 0 (mv_Ri (fun v σ1 => v = nI rv ∧ σ1 = ab b rg))) (ab b h) 4 [(0, .ref (al 3)), (1, .int (nI x1)), (2, .int (nI x2))] [] := by
    intro nn4
    induction nn4 with
    | zero => intro x1 x2 h hf; cases hf
    | succ nn4 ih4 =>
      intro x1 x2 h hf
      have hf : gF_Tokens_cutCode_4 (g_Tokens_cutCode_4 nn4) x1 x2 h = some (rv, rg) := hf
      unfold gF_Tokens_cutCode_4 at hf
      have hf := (xfz_e _ _).symm.trans hf
      have hf := (xfz_e _ _).symm.trans hf
      refine mv_iload_n (pc := 4) B d_Tokens_cutCode_4 rfl 2 rfl ?_
      refine mv_aload_n (pc := 5) B d_Tokens_cutCode_5 rfl 0 rfl ?_
      refine mv_getI (pc := 6) (ci := 2) (C := R_Tokens) (T := F_Tokens) (N := 10) B 5 rfl rfl (by decide) i_Tokens (B.2.2.2.1 _ k_100) rfl d_Tokens_cutCode_6 ?_
      obtain ⟨v7, ev7, hf⟩ := xer_e hf
      refine mvn_top (xfi_3_5 ev7) ?_
      refine mv_icmp_ge (pc := 9) (tgt := 30) B d_Tokens_cutCode_9 rfl (fun h9 => ?_) (fun h9 => ?_)
      · skip
        have hf := x_le_t h9 hf
        refine mv_lpick [0, 1, 2] rfl ?_
        exact jn30 _ _ _ hf
      · skip
        have hf := x_le_f h9 hf
        refine mv_aload_n (pc := 12) B d_Tokens_cutCode_12 rfl 0 rfl ?_
        refine mv_getR (pc := 13) (ci := 2) (C := R_Tokens) (T := F_Tokens) (N := 10) B 4 rfl rfl (by decide) i_Tokens (B.2.2.2.1 _ k_98) rfl hb.2 d_Tokens_cutCode_13 ?_
        refine mv_iload_n (pc := 16) B d_Tokens_cutCode_16 rfl 2 rfl ?_
        obtain ⟨q8, hf⟩ := xix_e hf
        refine mv_bald (pc := 17) B rfl (xin q8 (by decide)) d_Tokens_cutCode_17 ?_
        obtain ⟨v9, ev9, hf⟩ := xer_e hf
        refine mvn_top (xfa_144 q8 ev9) ?_
        obtain ⟨v11, h10, eh10, hf⟩ := xeb_e hf
        refine mv_callSi (pc := 18) (n := 1) B (mK_ok sk sv) hNs (cx_Tokens_isOfCode l hi _ _ _ eh10) rfl (ma_goodc kc_Tokens_isOfCode) (B.2.2.2.1 _ k_874) (B.2.2.2.1 _ k_875) (B.2.2.2.1 _ k_3) ⟨by decide +kernel, by decide +kernel, by decide +kernel⟩ rfl d_Tokens_cutCode_18 rfl (Nat.le_of_ble_eq_true rfl) ⟨by decide, by decide⟩ ⟨by decide, by decide⟩ ⟨by decide, by decide⟩ (mv_noH hno _) (fun w18 σ18 h18 => ?_)
        obtain ⟨rfl, rfl⟩ := h18
        refine mv_if_eq (pc := 21) (tgt := 30) B d_Tokens_cutCode_21 rfl (fun h21 => ?_) (fun h21 => ?_)
        · skip
          have hf := x_eq_t (y := 0) h21 hf
          refine mv_lpick [0, 1, 2] rfl ?_
          exact jn30 _ _ _ hf
        · skip
          have hf := x_eq_f (y := 0) h21 hf
          refine mvn_iinc (pc := 24) (j := 2) (v := 1) B d_Tokens_cutCode_24 rfl (by decide) (by decide) rfl ?_
          refine mv_goto (pc := 27) (tgt := 4) B d_Tokens_cutCode_27 rfl ?_
          refine mv_lpick [1, 2, 0] rfl ?_
          exact ih4 _ _ _ hf
  unfold g_Tokens_cutCode at hf
  refine mv_iload_n (pc := 0) B d_Tokens_cutCode_0 rfl 1 rfl ?_
  refine mv_iconst (pc := 1) (v := nI 1) B d_Tokens_cutCode_1 (by decide) ?_
  refine mvn_iadd (pc := 2) B d_Tokens_cutCode_2 ?_
  refine mv_istore_n (pc := 3) B d_Tokens_cutCode_3 rfl (by decide) rfl ?_
  refine mv_lpick [1, 2, 0] rfl ?_
  exact lp4 _ _ _ _ hf
def g_Tokens_cutSign (h : xE) (a0 : Nat) (a1 : Nat) : Option (Nat × xE) := xeb (g_Tokens_characterAt h (xadd a0 1)) fun v2 h1 => xeb (g_Tokens_pairOf h1 a1 v2) fun v4 h3 => bif xeq v4 0 then (bif xeq a1 62 then (xeb (g_Tokens_broken h3 (xadd a0 1)) fun v11 h10 => some (v11, h10)) else (bif Nat.blt (a1 % 65536) 256 then bif xlt (xix (a1 % 65536)) 0 then (xeb (g_Tokens_broken h3 a0) fun v9 h8 => some (v9, h8)) else (xeb (g_Tokens_add h3 a1 a0 0 (xadd a0 1)) fun v7 h6 => some (v7, h6)) else none)) else (xeb (g_Tokens_add h3 v4 a0 0 (xadd a0 2)) fun v13 h12 => some (v13, h12))
set_option maxHeartbeats 4000000 in
set_option maxRecDepth 100000 in
theorem cx_Tokens_cutSign (l : Launch) {dA : FieldType → ClassId} {D : va_G} {al : Nat → Nat} {sk sv : Nat → Nat} (hi : mv_inj (mg dA D al me)) (b : mv_H) (hb : xR (mv_r b)) (h : xE) (a0 : Nat) (a1 : Nat) {rv : Nat} {rg : xE} (hf : g_Tokens_cutSign h a0 a1 = some (rv, rg)) : mv_C l y_Tokens_cutSign (Cond.code y_Tokens_cutSign b_Tokens_cutSign 4 (Option.some Jvm.ClassFile.FieldType.int) :: ma) ({ frames := 4, cells := 0, slots := 0, locals := 106 }) (mg dA D al me) (mK sk sv) [.ref (al 3), .int (nI a0), .int (nI a1)] (ab b h) (mv_Ri (fun v σ1 => v = nI rv ∧ σ1 = ab b rg)) := by
  refine mv_C.ofV (cc := b_Tokens_cutSign) (nL := 4) (ret := (Option.some Jvm.ClassFile.FieldType.int)) (by decide +kernel) rfl hi (Nat.le_of_ble_eq_true rfl) ?_
  intro p e s m below meth c B hNs hr hnm hno
  unfold g_Tokens_cutSign at hf
  refine mv_iload_n (pc := 0) B d_Tokens_cutSign_0 rfl 2 rfl ?_
  refine mv_aload_n (pc := 1) B d_Tokens_cutSign_1 rfl 0 rfl ?_
  refine mv_iload_n (pc := 2) B d_Tokens_cutSign_2 rfl 1 rfl ?_
  refine mv_iconst (pc := 3) (v := nI 1) B d_Tokens_cutSign_3 (by decide) ?_
  refine mvn_iadd (pc := 4) B d_Tokens_cutSign_4 ?_
  obtain ⟨v2, h1, eh1, hf⟩ := xeb_e hf
  refine mv_callVi (pc := 5) (n := 1) (ci := 2) (C := R_Tokens) B (mK_ok sk sv) hNs rfl rfl (cx_Tokens_characterAt l hi _ hb _ _ eh1) rfl (ma_goodc kc_Tokens_characterAt) (B.2.2.2.1 _ k_827) (B.2.2.2.1 _ k_829) (B.2.2.2.1 _ ks_21) (B.2.2.2.1 _ k_3) ⟨by decide +kernel, by decide +kernel, by decide +kernel⟩ rfl d_Tokens_cutSign_5 rfl (Nat.le_of_ble_eq_true rfl) ⟨by decide, by decide⟩ ⟨by decide, by decide⟩ ⟨by decide, by decide⟩ (mv_noH hno _) (fun w5 σ5 h5 => ?_)
  obtain ⟨rfl, rfl⟩ := h5
  obtain ⟨v4, h3, eh3, hf⟩ := xeb_e hf
  refine mv_callSi (pc := 8) (n := 2) B (mK_ok sk sv) hNs (cx_Tokens_pairOf l hi _ _ _ _ eh3) rfl (ma_goodc kc_Tokens_pairOf) (B.2.2.2.1 _ k_881) (B.2.2.2.1 _ k_882) (B.2.2.2.1 _ k_3) ⟨by decide +kernel, by decide +kernel, by decide +kernel⟩ rfl d_Tokens_cutSign_8 rfl (Nat.le_of_ble_eq_true rfl) ⟨by decide, by decide⟩ ⟨by decide, by decide⟩ ⟨by decide, by decide⟩ (mv_noH hno _) (fun w8 σ8 h8 => ?_)
  obtain ⟨rfl, rfl⟩ := h8
  refine mv_istore_n (pc := 11) B d_Tokens_cutSign_11 rfl (by decide) rfl ?_
  refine mv_iload_n (pc := 12) B d_Tokens_cutSign_12 rfl 0 rfl ?_
  refine mv_if_eq (pc := 13) (tgt := 27) B d_Tokens_cutSign_13 rfl (fun h13 => ?_) (fun h13 => ?_)
  · skip
    have hf := x_eq_t (y := 0) h13 hf
    refine mv_iload_n (pc := 27) B d_Tokens_cutSign_27 rfl 3 rfl ?_
    refine mv_bipush (pc := 28) (v := nI 62) B d_Tokens_cutSign_28 (by decide) ?_
    refine mv_icmp_ne (pc := 30) (tgt := 41) B d_Tokens_cutSign_30 rfl (fun h30 => ?_) (fun h30 => ?_)
    · skip
      have hf := x_eq_f h30 hf
      refine mv_ldcS (pc := 41) B (hNs.2.1 133 (by decide)).1 d_Tokens_cutSign_41 ?_
      refine mv_iload_n (pc := 43) B d_Tokens_cutSign_43 rfl 3 rfl ?_
      refine mvn_i2c (pc := 44) B d_Tokens_cutSign_44 ?_
      obtain ⟨q5, hf⟩ := xix_e hf
      refine mv_callVOi (pc := 45) (n := 1) B (mK_ok sk sv) hNs (hNs.2.1 133 (by decide)).2.1 (cx_String_indexOf l hi _ q5) rfl (ma_goodc kc_String_indexOf_0) (B.2.2.2.1 _ k_885) (B.2.2.2.1 _ k_886) (B.2.2.2.1 _ k_887) (B.2.2.2.1 _ k_21) ⟨by decide +kernel, by decide +kernel, by decide +kernel⟩ rfl d_Tokens_cutSign_45 rfl (Nat.le_of_ble_eq_true rfl) ⟨by decide, by decide⟩ ⟨by decide, by decide⟩ ⟨by decide, by decide⟩ (mv_noH hno _) (fun v45_ σ45 h45 => ?_)
      obtain ⟨rfl, rfl⟩ := h45
      refine mv_if_ge (pc := 48) (tgt := 59) B d_Tokens_cutSign_48 rfl (fun h48 => ?_) (fun h48 => ?_)
      · skip
        have hf := x_le_t (x := 0) h48 hf
        refine mv_aload_n (pc := 59) B d_Tokens_cutSign_59 rfl 1 rfl ?_
        refine mv_iload_n (pc := 60) B d_Tokens_cutSign_60 rfl 3 rfl ?_
        refine mv_iload_n (pc := 61) B d_Tokens_cutSign_61 rfl 2 rfl ?_
        refine mv_lconst (pc := 62) (v := nJ 0) B d_Tokens_cutSign_62 (by decide) ?_
        refine mv_iload_n (pc := 63) B d_Tokens_cutSign_63 rfl 2 rfl ?_
        refine mv_iconst (pc := 64) (v := nI 1) B d_Tokens_cutSign_64 (by decide) ?_
        refine mvn_iadd (pc := 65) B d_Tokens_cutSign_65 ?_
        obtain ⟨v7, h6, eh6, hf⟩ := xeb_e hf
        refine mv_callVi (pc := 66) (n := 4) (ci := 2) (C := R_Tokens) B (mK_ok sk sv) hNs rfl rfl (cx_Tokens_add l hi _ hb _ _ _ _ _ eh6) rfl (ma_goodc kc_Tokens_add) (B.2.2.2.1 _ k_831) (B.2.2.2.1 _ k_833) (B.2.2.2.1 _ ks_22) (B.2.2.2.1 _ k_3) ⟨by decide +kernel, by decide +kernel, by decide +kernel⟩ rfl d_Tokens_cutSign_66 rfl (Nat.le_of_ble_eq_true rfl) ⟨by decide, by decide⟩ ⟨by decide, by decide⟩ ⟨by decide, by decide⟩ (mv_noH hno _) (fun w66 σ66 h66 => ?_)
        obtain ⟨rfl, rfl⟩ := h66
        exact mv_iret (pc := 69) B hr rfl d_Tokens_cutSign_69 (Nat.le_refl _) (Nat.le_refl _) ⟨_, rfl, xret_i hf⟩
      · skip
        have hf := x_le_f (x := 0) h48 hf
        refine mv_aload_n (pc := 51) B d_Tokens_cutSign_51 rfl 1 rfl ?_
        refine mv_iload_n (pc := 52) B d_Tokens_cutSign_52 rfl 2 rfl ?_
        obtain ⟨v9, h8, eh8, hf⟩ := xeb_e hf
        refine mv_callVi (pc := 53) (n := 1) (ci := 2) (C := R_Tokens) B (mK_ok sk sv) hNs rfl rfl (cx_Tokens_broken l hi _ hb _ _ eh8) rfl (ma_goodc kc_Tokens_broken) (B.2.2.2.1 _ k_845) (B.2.2.2.1 _ k_847) (B.2.2.2.1 _ ks_24) (B.2.2.2.1 _ k_3) ⟨by decide +kernel, by decide +kernel, by decide +kernel⟩ rfl d_Tokens_cutSign_53 rfl (Nat.le_of_ble_eq_true rfl) ⟨by decide, by decide⟩ ⟨by decide, by decide⟩ ⟨by decide, by decide⟩ (mv_noH hno _) (fun w53 σ53 h53 => ?_)
        obtain ⟨rfl, rfl⟩ := h53
        refine mv_goto (pc := 56) (tgt := 69) B d_Tokens_cutSign_56 rfl ?_
        exact mv_iret (pc := 69) B hr rfl d_Tokens_cutSign_69 (Nat.le_refl _) (Nat.le_refl _) ⟨_, rfl, xret_i hf⟩
    · skip
      have hf := x_eq_t h30 hf
      refine mv_aload_n (pc := 33) B d_Tokens_cutSign_33 rfl 1 rfl ?_
      refine mv_iload_n (pc := 34) B d_Tokens_cutSign_34 rfl 2 rfl ?_
      refine mv_iconst (pc := 35) (v := nI 1) B d_Tokens_cutSign_35 (by decide) ?_
      refine mvn_iadd (pc := 36) B d_Tokens_cutSign_36 ?_
      obtain ⟨v11, h10, eh10, hf⟩ := xeb_e hf
      refine mv_callVi (pc := 37) (n := 1) (ci := 2) (C := R_Tokens) B (mK_ok sk sv) hNs rfl rfl (cx_Tokens_broken l hi _ hb _ _ eh10) rfl (ma_goodc kc_Tokens_broken) (B.2.2.2.1 _ k_845) (B.2.2.2.1 _ k_847) (B.2.2.2.1 _ ks_24) (B.2.2.2.1 _ k_3) ⟨by decide +kernel, by decide +kernel, by decide +kernel⟩ rfl d_Tokens_cutSign_37 rfl (Nat.le_of_ble_eq_true rfl) ⟨by decide, by decide⟩ ⟨by decide, by decide⟩ ⟨by decide, by decide⟩ (mv_noH hno _) (fun w37 σ37 h37 => ?_)
      obtain ⟨rfl, rfl⟩ := h37
      exact mv_iret (pc := 40) B hr rfl d_Tokens_cutSign_40 (Nat.le_refl _) (Nat.le_refl _) ⟨_, rfl, xret_i hf⟩
  · skip
    have hf := x_eq_f (y := 0) h13 hf
    refine mv_aload_n (pc := 16) B d_Tokens_cutSign_16 rfl 1 rfl ?_
    refine mv_iload_n (pc := 17) B d_Tokens_cutSign_17 rfl 0 rfl ?_
    refine mv_iload_n (pc := 18) B d_Tokens_cutSign_18 rfl 2 rfl ?_
    refine mv_lconst (pc := 19) (v := nJ 0) B d_Tokens_cutSign_19 (by decide) ?_
    refine mv_iload_n (pc := 20) B d_Tokens_cutSign_20 rfl 2 rfl ?_
    refine mv_iconst (pc := 21) (v := nI 2) B d_Tokens_cutSign_21 (by decide) ?_
    refine mvn_iadd (pc := 22) B d_Tokens_cutSign_22 ?_
    obtain ⟨v13, h12, eh12, hf⟩ := xeb_e hf
    refine mv_callVi (pc := 23) (n := 4) (ci := 2) (C := R_Tokens) B (mK_ok sk sv) hNs rfl rfl (cx_Tokens_add l hi _ hb _ _ _ _ _ eh12) rfl (ma_goodc kc_Tokens_add) (B.2.2.2.1 _ k_831) (B.2.2.2.1 _ k_833) (B.2.2.2.1 _ ks_22) (B.2.2.2.1 _ k_3) ⟨by decide +kernel, by decide +kernel, by decide +kernel⟩ rfl d_Tokens_cutSign_23 rfl (Nat.le_of_ble_eq_true rfl) ⟨by decide, by decide⟩ ⟨by decide, by decide⟩ ⟨by decide, by decide⟩ (mv_noH hno _) (fun w23 σ23 h23 => ?_)
    obtain ⟨rfl, rfl⟩ := h23
    exact mv_iret (pc := 26) B hr rfl d_Tokens_cutSign_26 (Nat.le_refl _) (Nat.le_refl _) ⟨_, rfl, xret_i hf⟩
def gF_Symbols_isSpelt_12_29 (k29 : Nat → Nat → Nat → Nat → xE → Option (Nat × xE)) (x3 : Nat) (x4 : Nat) (x5 : Nat) (x6 : Nat) (h : xE) : Option (Nat × xE) := xfz x3 fun x3 => xfz x4 fun x4 => xfz x5 fun x5 => xfz x6 fun x6 => bif xlt x6 x4 then (bif Nat.blt (xadd x5 x6) 32896 then xer (ep_g (xL_8 h.2) (xadd x5 x6)) fun v3 => bif Nat.blt (xadd x3 x6) 128 then xer (ep_g (xL_12 h.2) (xadd x3 x6)) fun v5 => bif xeq v3 v5 then (k29 x3 x4 x5 (xadd x6 1) h) else (bif Nat.blt 0 2 then some (0, h) else none) else none else none) else (bif Nat.blt 1 2 then some (1, h) else none)
def g_Symbols_isSpelt_12_29 : Nat → Nat → Nat → Nat → Nat → xE → Option (Nat × xE)
  | 0 => fun _ _ _ _ _ => none
  | nn + 1 => gF_Symbols_isSpelt_12_29 (g_Symbols_isSpelt_12_29 nn)
def g_Symbols_isSpelt_12 (h : xE) (a0 : Nat) (a2 : Nat) (a3 : Nat) : Option (Nat × xE) := bif Nat.blt a0 16449 then xer (ep_g (xL_9 h.2) a0) fun v8 => bif Nat.blt (xadd a0 1) 16449 then xer (ep_g (xL_9 h.2) (xadd a0 1)) fun v10 => bif xeq (xsub v10 v8) a3 then (g_Symbols_isSpelt_12_29 200000 a2 a3 v8 0 h) else (bif Nat.blt 0 2 then some (0, h) else none) else none else none
set_option maxHeartbeats 4000000 in
set_option maxRecDepth 100000 in
theorem cx_Symbols_isSpelt_12 (l : Launch) {dA : FieldType → ClassId} {D : va_G} {al : Nat → Nat} {sk sv : Nat → Nat} (hi : mv_inj (mg dA D al me)) (b : mv_H) (hb : xR (mv_r b)) (h : xE) (a0 : Nat) (a2 : Nat) (a3 : Nat) {rv : Nat} {rg : xE} (hf : g_Symbols_isSpelt_12 h a0 a2 a3 = some (rv, rg)) : mv_C l y_Symbols_isSpelt (Cond.code y_Symbols_isSpelt b_Symbols_isSpelt 7 (Option.some Jvm.ClassFile.FieldType.boolean) :: ma) ({ frames := 0, cells := 0, slots := 0, locals := 0 }) (mg dA D al me) (mK sk sv) [.ref (al 7), .int (nI a0), .ref (al 12), .int (nI a2), .int (nI a3)] (ab b h) (mv_Ri (fun v σ1 => v = nI rv ∧ σ1 = ab b rg)) := by
  refine mv_C.ofV (cc := b_Symbols_isSpelt) (nL := 7) (ret := (Option.some Jvm.ClassFile.FieldType.boolean)) (by decide +kernel) rfl hi (Nat.le_of_ble_eq_true rfl) ?_
  intro p e s m below meth c B hNs hr hnm hno
  have lp29 : ∀ (nn29 : Nat) (x3 : Nat) (x4 : Nat) (x5 : Nat) (x6 : Nat) (h : xE), g_Symbols_isSpelt_12_29 nn29 x3 x4 x5 x6 h = some (rv, rg) → mv_V p l e ({ frames := 0, cells := 0, slots := 0, locals := 0 }) s m ([.ref (al 7), .int (nI a0), .ref (al 12), .int (nI a2), .int (nI a3)] : List Value).toArray below meth c (mg dA D al me) 7 0 0 (mv_Q (mg dA D al me) below s 0 0 (mv_Ri (fun v σ1 => v = nI rv ∧ σ1 = ab b rg))) (ab b h) 29 [(0, .ref (al 7)), (2, .ref (al 12)), (3, .int (nI x3)), (4, .int (nI x4)), (5, .int (nI x5)), (6, .int (nI x6))] [] := by
    intro nn29
    induction nn29 with
    | zero => intro x3 x4 x5 x6 h hf; cases hf
    | succ nn29 ih29 =>
      intro x3 x4 x5 x6 h hf
      have hf : gF_Symbols_isSpelt_12_29 (g_Symbols_isSpelt_12_29 nn29) x3 x4 x5 x6 h = some (rv, rg) := hf
      unfold gF_Symbols_isSpelt_12_29 at hf
      have hf := (xfz_e _ _).symm.trans hf
      have hf := (xfz_e _ _).symm.trans hf
      have hf := (xfz_e _ _).symm.trans hf
      have hf := (xfz_e _ _).symm.trans hf
      refine mv_iload (pc := 29) B d_Symbols_isSpelt_29 5 rfl ?_
      refine mv_iload (pc := 31) B d_Symbols_isSpelt_31 3 rfl ?_
      refine mv_icmp_ge (pc := 33) (tgt := 63) B d_Symbols_isSpelt_33 rfl (fun h33 => ?_) (fun h33 => ?_)
      · skip
        have hf := x_le_t h33 hf
        refine mv_iconst (pc := 63) (v := nI 1) B d_Symbols_isSpelt_63 (by decide) ?_
        obtain ⟨q1, hf⟩ := xix_e hf
        exact mv_iret (pc := 64) B hr (xz1 q1) d_Symbols_isSpelt_64 (Nat.le_refl _) (Nat.le_refl _) ⟨_, rfl, xret_i hf⟩
      · skip
        have hf := x_le_f h33 hf
        refine mv_aload_n (pc := 36) B d_Symbols_isSpelt_36 rfl 0 rfl ?_
        refine mv_getR (pc := 37) (ci := 3) (C := R_Symbols) (T := F_Symbols) (N := 6) B 0 rfl rfl (by decide) i_Symbols (B.2.2.2.1 _ k_66) rfl (hb.1.1 7 0 _ rfl) d_Symbols_isSpelt_37 ?_
        refine mv_iload (pc := 40) B d_Symbols_isSpelt_40 4 rfl ?_
        refine mv_iload (pc := 42) B d_Symbols_isSpelt_42 5 rfl ?_
        refine mvn_iadd (pc := 44) B d_Symbols_isSpelt_44 ?_
        obtain ⟨q2, hf⟩ := xix_e hf
        refine mv_bald (pc := 45) B rfl (xin q2 (by decide)) d_Symbols_isSpelt_45 ?_
        obtain ⟨v3, ev3, hf⟩ := xer_e hf
        refine mvn_top (xfa_8 q2 ev3) ?_
        refine mv_aload_n (pc := 46) B d_Symbols_isSpelt_46 rfl 1 rfl ?_
        refine mv_iload_n (pc := 47) B d_Symbols_isSpelt_47 rfl 2 rfl ?_
        refine mv_iload (pc := 48) B d_Symbols_isSpelt_48 5 rfl ?_
        refine mvn_iadd (pc := 50) B d_Symbols_isSpelt_50 ?_
        obtain ⟨q4, hf⟩ := xix_e hf
        refine mv_bald (pc := 51) B rfl (xin q4 (by decide)) d_Symbols_isSpelt_51 ?_
        obtain ⟨v5, ev5, hf⟩ := xer_e hf
        refine mvn_top (xfa_12 q4 ev5) ?_
        refine mv_icmp_eq (pc := 52) (tgt := 57) B d_Symbols_isSpelt_52 rfl (fun h52 => ?_) (fun h52 => ?_)
        · skip
          have hf := x_eq_t h52 hf
          refine mvn_iinc (pc := 57) (j := 5) (v := 1) B d_Symbols_isSpelt_57 rfl (by decide) (by decide) rfl ?_
          refine mv_goto (pc := 60) (tgt := 29) B d_Symbols_isSpelt_60 rfl ?_
          refine mv_lpick [1, 2, 3, 4, 5, 0] rfl ?_
          exact ih29 _ _ _ _ _ hf
        · skip
          have hf := x_eq_f h52 hf
          refine mv_iconst (pc := 55) (v := nI 0) B d_Symbols_isSpelt_55 (by decide) ?_
          obtain ⟨q6, hf⟩ := xix_e hf
          exact mv_iret (pc := 56) B hr (xz1 q6) d_Symbols_isSpelt_56 (Nat.le_refl _) (Nat.le_refl _) ⟨_, rfl, xret_i hf⟩
  unfold g_Symbols_isSpelt_12 at hf
  refine mv_aload_n (pc := 0) B d_Symbols_isSpelt_0 rfl 0 rfl ?_
  refine mv_getR (pc := 1) (ci := 3) (C := R_Symbols) (T := F_Symbols) (N := 6) B 1 rfl rfl (by decide) i_Symbols (B.2.2.2.1 _ k_67) rfl (hb.1.1 7 1 _ rfl) d_Symbols_isSpelt_1 ?_
  refine mv_iload_n (pc := 4) B d_Symbols_isSpelt_4 rfl 1 rfl ?_
  obtain ⟨q7, hf⟩ := xix_e hf
  refine mv_iald (pc := 5) B rfl (xin q7 (by decide)) d_Symbols_isSpelt_5 ?_
  obtain ⟨v8, ev8, hf⟩ := xer_e hf
  refine mvn_top (xfa_9 q7 ev8) ?_
  refine mv_istore (pc := 6) B d_Symbols_isSpelt_6 (by decide) rfl ?_
  refine mv_aload_n (pc := 8) B d_Symbols_isSpelt_8 rfl 1 rfl ?_
  refine mv_getR (pc := 9) (ci := 3) (C := R_Symbols) (T := F_Symbols) (N := 6) B 1 rfl rfl (by decide) i_Symbols (B.2.2.2.1 _ k_67) rfl (hb.1.1 7 1 _ rfl) d_Symbols_isSpelt_9 ?_
  refine mv_iload_n (pc := 12) B d_Symbols_isSpelt_12 rfl 2 rfl ?_
  refine mv_iconst (pc := 13) (v := nI 1) B d_Symbols_isSpelt_13 (by decide) ?_
  refine mvn_iadd (pc := 14) B d_Symbols_isSpelt_14 ?_
  obtain ⟨q9, hf⟩ := xix_e hf
  refine mv_iald (pc := 15) B rfl (xin q9 (by decide)) d_Symbols_isSpelt_15 ?_
  obtain ⟨v10, ev10, hf⟩ := xer_e hf
  refine mvn_top (xfa_9 q9 ev10) ?_
  refine mv_iload (pc := 16) B d_Symbols_isSpelt_16 0 rfl ?_
  refine mvn_isub (pc := 18) B d_Symbols_isSpelt_18 ?_
  refine mv_iload (pc := 19) B d_Symbols_isSpelt_19 5 rfl ?_
  refine mv_icmp_eq (pc := 21) (tgt := 26) B d_Symbols_isSpelt_21 rfl (fun h21 => ?_) (fun h21 => ?_)
  · skip
    have hf := x_eq_t h21 hf
    refine mv_iconst (pc := 26) (v := nI 0) B d_Symbols_isSpelt_26 (by decide) ?_
    refine mv_istore (pc := 27) B d_Symbols_isSpelt_27 (by decide) rfl ?_
    refine mv_lpick [2, 4, 5, 6, 1, 0] rfl ?_
    exact lp29 _ _ _ _ _ _ hf
  · skip
    have hf := x_eq_f h21 hf
    refine mv_iconst (pc := 24) (v := nI 0) B d_Symbols_isSpelt_24 (by decide) ?_
    obtain ⟨q11, hf⟩ := xix_e hf
    exact mv_iret (pc := 25) B hr (xz1 q11) d_Symbols_isSpelt_25 (Nat.le_refl _) (Nat.le_refl _) ⟨_, rfl, xret_i hf⟩
def g_Symbols_add_12 (h : xE) (a0 : Nat) (a2 : Nat) (a3 : Nat) : Option (Nat × xE) := xer (ep_g h.1 12) fun v1 => bif Nat.blt v1 16449 then xer (ep_g (xL_9 h.2) v1) fun v3 => bif Nat.blt (a2 + a3) 129 then bif Nat.blt (v3 + a3) 32897 then xop (xcpy a3 (xL_12 h.2) (xL_8 h.2) a2 v3) fun N6 => xwN xS_8 h N6 fun h7 => bif Nat.blt v1 16449 then xer (ep_g (xL_9 h7.2) v1) fun v9 => bif Nat.blt (xadd v1 1) 16449 then xw xL_9 xS_9 h7 (xadd v1 1) (xadd v9 a3) fun h11 => bif Nat.blt a0 1024 then xer (ep_g (xL_10 h11.2) a0) fun v13 => bif Nat.blt v1 16448 then xw xL_11 xS_11 h11 v1 v13 fun h15 => bif Nat.blt a0 1024 then xw xL_10 xS_10 h15 a0 v1 fun h17 => xer (ep_g h17.1 12) fun v18 => xwi h17 12 (xadd v18 1) fun h19 => some (v1, h19) else none else none else none else none else none else none else none else none
set_option maxHeartbeats 4000000 in
set_option maxRecDepth 100000 in
theorem cx_Symbols_add_12 (l : Launch) {dA : FieldType → ClassId} {D : va_G} {al : Nat → Nat} {sk sv : Nat → Nat} (hi : mv_inj (mg dA D al me)) (b : mv_H) (hb : xR (mv_r b)) (h : xE) (a0 : Nat) (a2 : Nat) (a3 : Nat) {rv : Nat} {rg : xE} (hf : g_Symbols_add_12 h a0 a2 a3 = some (rv, rg)) : mv_C l y_Symbols_add (Cond.code y_Symbols_add b_Symbols_add 6 (Option.some Jvm.ClassFile.FieldType.int) :: ma) ({ frames := 1, cells := 0, slots := 0, locals := 40 }) (mg dA D al me) (mK sk sv) [.ref (al 7), .int (nI a0), .ref (al 12), .int (nI a2), .int (nI a3)] (ab b h) (mv_Ri (fun v σ1 => v = nI rv ∧ σ1 = ab b rg)) := by
  refine mv_C.ofV (cc := b_Symbols_add) (nL := 6) (ret := (Option.some Jvm.ClassFile.FieldType.int)) (by decide +kernel) rfl hi (Nat.le_of_ble_eq_true rfl) ?_
  intro p e s m below meth c B hNs hr hnm hno
  unfold g_Symbols_add_12 at hf
  refine mv_aload_n (pc := 0) B d_Symbols_add_0 rfl 0 rfl ?_
  refine mv_getI (pc := 1) (ci := 3) (C := R_Symbols) (T := F_Symbols) (N := 6) B 5 rfl rfl (by decide) i_Symbols (B.2.2.2.1 _ k_72) rfl d_Symbols_add_1 ?_
  obtain ⟨v1, ev1, hf⟩ := xer_e hf
  refine mvn_top (xfi_7_5 ev1) ?_
  refine mv_istore (pc := 4) B d_Symbols_add_4 (by decide) rfl ?_
  refine mv_aload_n (pc := 6) B d_Symbols_add_6 rfl 3 rfl ?_
  refine mv_iload_n (pc := 7) B d_Symbols_add_7 rfl 4 rfl ?_
  refine mv_aload_n (pc := 8) B d_Symbols_add_8 rfl 1 rfl ?_
  refine mv_getR (pc := 9) (ci := 3) (C := R_Symbols) (T := F_Symbols) (N := 6) B 0 rfl rfl (by decide) i_Symbols (B.2.2.2.1 _ k_66) rfl (hb.1.1 7 0 _ rfl) d_Symbols_add_9 ?_
  refine mv_aload_n (pc := 12) B d_Symbols_add_12 rfl 1 rfl ?_
  refine mv_getR (pc := 13) (ci := 3) (C := R_Symbols) (T := F_Symbols) (N := 6) B 1 rfl rfl (by decide) i_Symbols (B.2.2.2.1 _ k_67) rfl (hb.1.1 7 1 _ rfl) d_Symbols_add_13 ?_
  refine mv_iload (pc := 16) B d_Symbols_add_16 0 rfl ?_
  obtain ⟨q2, hf⟩ := xix_e hf
  refine mv_iald (pc := 18) B rfl (xin q2 (by decide)) d_Symbols_add_18 ?_
  obtain ⟨v3, ev3, hf⟩ := xer_e hf
  refine mvn_top (xfa_9 q2 ev3) ?_
  refine mv_iload (pc := 19) B d_Symbols_add_19 5 rfl ?_
  obtain ⟨q4, hf⟩ := xix_e hf
  obtain ⟨q5, hf⟩ := xix_e hf
  obtain ⟨N6, eN6, hf⟩ := xop_e hf
  refine mvn_copy (pc := 21) B (B.2.2.2.1 _ k_815) (B.2.2.2.1 _ k_817) (B.2.2.2.1 _ k_816) (B.2.2.2.1 _ k_25) rfl rfl (by decide) (by decide) q4 q5 xLe_12 xLe_8 (by decide) rfl (by decide) rfl eN6 (by decide) (by decide) d_Symbols_add_21 ?_
  refine mvn_hp rfl (xwN_f xSe_8 hf) (fun h7 hf => ?_)
  refine mv_aload_n (pc := 24) B d_Symbols_add_24 rfl 1 rfl ?_
  refine mv_getR (pc := 25) (ci := 3) (C := R_Symbols) (T := F_Symbols) (N := 6) B 1 rfl rfl (by decide) i_Symbols (B.2.2.2.1 _ k_67) rfl (hb.1.1 7 1 _ rfl) d_Symbols_add_25 ?_
  refine mv_iload (pc := 28) B d_Symbols_add_28 0 rfl ?_
  refine mv_iconst (pc := 30) (v := nI 1) B d_Symbols_add_30 (by decide) ?_
  refine mvn_iadd (pc := 31) B d_Symbols_add_31 ?_
  refine mv_aload_n (pc := 32) B d_Symbols_add_32 rfl 1 rfl ?_
  refine mv_getR (pc := 33) (ci := 3) (C := R_Symbols) (T := F_Symbols) (N := 6) B 1 rfl rfl (by decide) i_Symbols (B.2.2.2.1 _ k_67) rfl (hb.1.1 7 1 _ rfl) d_Symbols_add_33 ?_
  refine mv_iload (pc := 36) B d_Symbols_add_36 0 rfl ?_
  obtain ⟨q8, hf⟩ := xix_e hf
  refine mv_iald (pc := 38) B rfl (xin q8 (by decide)) d_Symbols_add_38 ?_
  obtain ⟨v9, ev9, hf⟩ := xer_e hf
  refine mvn_top (xfa_9 q8 ev9) ?_
  refine mv_iload (pc := 39) B d_Symbols_add_39 5 rfl ?_
  refine mvn_iadd (pc := 41) B d_Symbols_add_41 ?_
  obtain ⟨q10, hf⟩ := xix_e hf
  refine mv_iast (pc := 42) B rfl (xin q10 (by decide)) d_Symbols_add_42 ?_
  refine mvn_hp (xwa_9 _ _ _ q10) (xw_f xLe_9 xSe_9 hf) (fun h11 hf => ?_)
  refine mv_aload_n (pc := 43) B d_Symbols_add_43 rfl 1 rfl ?_
  refine mv_getR (pc := 44) (ci := 3) (C := R_Symbols) (T := F_Symbols) (N := 6) B 3 rfl rfl (by decide) i_Symbols (B.2.2.2.1 _ k_69) rfl (hb.1.1 7 3 _ rfl) d_Symbols_add_44 ?_
  refine mv_iload (pc := 47) B d_Symbols_add_47 0 rfl ?_
  refine mv_aload_n (pc := 49) B d_Symbols_add_49 rfl 1 rfl ?_
  refine mv_getR (pc := 50) (ci := 3) (C := R_Symbols) (T := F_Symbols) (N := 6) B 2 rfl rfl (by decide) i_Symbols (B.2.2.2.1 _ k_68) rfl (hb.1.1 7 2 _ rfl) d_Symbols_add_50 ?_
  refine mv_iload_n (pc := 53) B d_Symbols_add_53 rfl 2 rfl ?_
  obtain ⟨q12, hf⟩ := xix_e hf
  refine mv_iald (pc := 54) B rfl (xin q12 (by decide)) d_Symbols_add_54 ?_
  obtain ⟨v13, ev13, hf⟩ := xer_e hf
  refine mvn_top (xfa_10 q12 ev13) ?_
  obtain ⟨q14, hf⟩ := xix_e hf
  refine mv_iast (pc := 55) B rfl (xin q14 (by decide)) d_Symbols_add_55 ?_
  refine mvn_hp (xwa_11 _ _ _ q14) (xw_f xLe_11 xSe_11 hf) (fun h15 hf => ?_)
  refine mv_aload_n (pc := 56) B d_Symbols_add_56 rfl 1 rfl ?_
  refine mv_getR (pc := 57) (ci := 3) (C := R_Symbols) (T := F_Symbols) (N := 6) B 2 rfl rfl (by decide) i_Symbols (B.2.2.2.1 _ k_68) rfl (hb.1.1 7 2 _ rfl) d_Symbols_add_57 ?_
  refine mv_iload_n (pc := 60) B d_Symbols_add_60 rfl 2 rfl ?_
  refine mv_iload (pc := 61) B d_Symbols_add_61 0 rfl ?_
  obtain ⟨q16, hf⟩ := xix_e hf
  refine mv_iast (pc := 63) B rfl (xin q16 (by decide)) d_Symbols_add_63 ?_
  refine mvn_hp (xwa_10 _ _ _ q16) (xw_f xLe_10 xSe_10 hf) (fun h17 hf => ?_)
  refine mv_aload_n (pc := 64) B d_Symbols_add_64 rfl 1 rfl ?_
  refine mv_dup (pc := 65) B d_Symbols_add_65 rfl ?_
  refine mv_getI (pc := 66) (ci := 3) (C := R_Symbols) (T := F_Symbols) (N := 6) B 5 rfl rfl (by decide) i_Symbols (B.2.2.2.1 _ k_72) rfl d_Symbols_add_66 ?_
  obtain ⟨v18, ev18, hf⟩ := xer_e hf
  refine mvn_top (xfi_7_5 ev18) ?_
  refine mv_iconst (pc := 69) (v := nI 1) B d_Symbols_add_69 (by decide) ?_
  refine mvn_iadd (pc := 70) B d_Symbols_add_70 ?_
  refine mv_putI (pc := 71) (ci := 3) (C := R_Symbols) (T := F_Symbols) (N := 6) B 5 rfl rfl (by decide) i_Symbols t_Symbols_ok n_Symbols (B.2.2.2.1 _ k_72) rfl rfl rfl rfl d_Symbols_add_71 ?_
  refine mvn_hp (xwi_7_5 _ _ _) (xwi_f hf) (fun h19 hf => ?_)
  refine mv_iload (pc := 74) B d_Symbols_add_74 0 rfl ?_
  exact mv_iret (pc := 76) B hr rfl d_Symbols_add_76 (Nat.le_refl _) (Nat.le_refl _) ⟨_, rfl, xret_i hf⟩
def g_Symbols_find_12_91 (x2 : Nat) (x3 : Nat) (x4 : Nat) (h : xE) : Option (Nat × xE) := xeb (g_Symbols_add_12 h x4 x2 x3) fun v2 h1 => some (v2, h1)
def gF_Symbols_find_12_48 (k48 : Nat → Nat → Nat → Nat → Nat → xE → Option (Nat × xE)) (x2 : Nat) (x3 : Nat) (x4 : Nat) (x5 : Nat) (x6 : Nat) (h : xE) : Option (Nat × xE) := xfz x2 fun x2 => xfz x3 fun x3 => xfz x4 fun x4 => xfz x5 fun x5 => xfz x6 fun x6 => bif xlt x6 16448 then (bif xlt x5 0 then (g_Symbols_find_12_91 x2 x3 x4 h) else (xeb (g_Symbols_isSpelt_12 h x5 x2 x3) fun v4 h3 => bif xeq v4 0 then (bif Nat.blt x5 16448 then xer (ep_g (xL_11 h3.2) x5) fun v6 => k48 x2 x3 x4 v6 (xadd x6 1) h3 else none) else (some (x5, h3)))) else (g_Symbols_find_12_91 x2 x3 x4 h)
def g_Symbols_find_12_48 : Nat → Nat → Nat → Nat → Nat → Nat → xE → Option (Nat × xE)
  | 0 => fun _ _ _ _ _ _ => none
  | nn + 1 => gF_Symbols_find_12_48 (g_Symbols_find_12_48 nn)
def gF_Symbols_find_12_6 (k6 : Nat → Nat → Nat → Nat → xE → Option (Nat × xE)) (x2 : Nat) (x3 : Nat) (x4 : Nat) (x5 : Nat) (h : xE) : Option (Nat × xE) := xfz x2 fun x2 => xfz x3 fun x3 => xfz x4 fun x4 => xfz x5 fun x5 => bif xlt x5 x3 then (bif Nat.blt (xadd x2 x5) 128 then xer (ep_g (xL_12 h.2) (xadd x2 x5)) fun v10 => k6 x2 x3 (Nat.land (xadd (xmul x4 31) v10) 1023) (xadd x5 1) h else none) else (bif Nat.blt x4 1024 then xer (ep_g (xL_10 h.2) x4) fun v8 => g_Symbols_find_12_48 200000 x2 x3 x4 v8 0 h else none)
def g_Symbols_find_12_6 : Nat → Nat → Nat → Nat → Nat → xE → Option (Nat × xE)
  | 0 => fun _ _ _ _ _ => none
  | nn + 1 => gF_Symbols_find_12_6 (g_Symbols_find_12_6 nn)
def g_Symbols_find_12 (h : xE) (a1 : Nat) (a2 : Nat) : Option (Nat × xE) := g_Symbols_find_12_6 200000 a1 a2 0 0 h
set_option maxHeartbeats 4000000 in
set_option maxRecDepth 100000 in
theorem cx_Symbols_find_12 (l : Launch) {dA : FieldType → ClassId} {D : va_G} {al : Nat → Nat} {sk sv : Nat → Nat} (hi : mv_inj (mg dA D al me)) (b : mv_H) (hb : xR (mv_r b)) (h : xE) (a1 : Nat) (a2 : Nat) {rv : Nat} {rg : xE} (hf : g_Symbols_find_12 h a1 a2 = some (rv, rg)) : mv_C l y_Symbols_find (Cond.code y_Symbols_find b_Symbols_find 7 (Option.some Jvm.ClassFile.FieldType.int) :: ma) ({ frames := 2, cells := 0, slots := 0, locals := 65 }) (mg dA D al me) (mK sk sv) [.ref (al 7), .ref (al 12), .int (nI a1), .int (nI a2)] (ab b h) (mv_Ri (fun v σ1 => v = nI rv ∧ σ1 = ab b rg)) := by
  refine mv_C.ofV (cc := b_Symbols_find) (nL := 7) (ret := (Option.some Jvm.ClassFile.FieldType.int)) (by decide +kernel) rfl hi (Nat.le_of_ble_eq_true rfl) ?_
  intro p e s m below meth c B hNs hr hnm hno
  have jn91 : ∀ (x2 : Nat) (x3 : Nat) (x4 : Nat) (h : xE), g_Symbols_find_12_91 x2 x3 x4 h = some (rv, rg) → mv_V p l e ({ frames := 2, cells := 0, slots := 0, locals := 65 }) s m ([.ref (al 7), .ref (al 12), .int (nI a1), .int (nI a2)] : List Value).toArray below meth c (mg dA D al me) 7 0 0 (mv_Q (mg dA D al me) below s 0 0 (mv_Ri (fun v σ1 => v = nI rv ∧ σ1 = ab b rg))) (ab b h) 91 [(0, .ref (al 7)), (1, .ref (al 12)), (2, .int (nI x2)), (3, .int (nI x3)), (4, .int (nI x4))] [] := by
    intro x2 x3 x4 h hf
    unfold g_Symbols_find_12_91 at hf
    refine mv_aload_n (pc := 91) B d_Symbols_find_91 rfl 0 rfl ?_
    refine mv_iload (pc := 92) B d_Symbols_find_92 4 rfl ?_
    refine mv_aload_n (pc := 94) B d_Symbols_find_94 rfl 1 rfl ?_
    refine mv_iload_n (pc := 95) B d_Symbols_find_95 rfl 2 rfl ?_
    refine mv_iload_n (pc := 96) B d_Symbols_find_96 rfl 3 rfl ?_
    obtain ⟨v2, h1, eh1, hf⟩ := xeb_e hf
    refine mv_callVi (pc := 97) (n := 4) (ci := 3) (C := R_Symbols) B (mK_ok sk sv) hNs rfl rfl (cx_Symbols_add_12 l hi _ hb _ _ _ _ eh1) rfl (ma_goodc kc_Symbols_add) (B.2.2.2.1 _ k_811) (B.2.2.2.1 _ k_813) (B.2.2.2.1 _ ks_18) (B.2.2.2.1 _ k_4) ⟨by decide +kernel, by decide +kernel, by decide +kernel⟩ rfl d_Symbols_find_97 rfl (Nat.le_of_ble_eq_true rfl) ⟨by decide, by decide⟩ ⟨by decide, by decide⟩ ⟨by decide, by decide⟩ (mv_noH hno _) (fun w97 σ97 h97 => ?_)
    obtain ⟨rfl, rfl⟩ := h97
    exact mv_iret (pc := 100) B hr rfl d_Symbols_find_100 (Nat.le_refl _) (Nat.le_refl _) ⟨_, rfl, xret_i hf⟩
  have lp48 : ∀ (nn48 : Nat) (x2 : Nat) (x3 : Nat) (x4 : Nat) (x5 : Nat) (x6 : Nat) (h : xE), g_Symbols_find_12_48 nn48 x2 x3 x4 x5 x6 h = some (rv, rg) → mv_V p l e ({ frames := 2, cells := 0, slots := 0, locals := 65 }) s m ([.ref (al 7), .ref (al 12), .int (nI a1), .int (nI a2)] : List Value).toArray below meth c (mg dA D al me) 7 0 0 (mv_Q (mg dA D al me) below s 0 0 (mv_Ri (fun v σ1 => v = nI rv ∧ σ1 = ab b rg))) (ab b h) 48 [(0, .ref (al 7)), (1, .ref (al 12)), (2, .int (nI x2)), (3, .int (nI x3)), (4, .int (nI x4)), (5, .int (nI x5)), (6, .int (nI x6))] [] := by
    intro nn48
    induction nn48 with
    | zero => intro x2 x3 x4 x5 x6 h hf; cases hf
    | succ nn48 ih48 =>
      intro x2 x3 x4 x5 x6 h hf
      have hf : gF_Symbols_find_12_48 (g_Symbols_find_12_48 nn48) x2 x3 x4 x5 x6 h = some (rv, rg) := hf
      unfold gF_Symbols_find_12_48 at hf
      have hf := (xfz_e _ _).symm.trans hf
      have hf := (xfz_e _ _).symm.trans hf
      have hf := (xfz_e _ _).symm.trans hf
      have hf := (xfz_e _ _).symm.trans hf
      have hf := (xfz_e _ _).symm.trans hf
      refine mv_iload (pc := 48) B d_Symbols_find_48 6 rfl ?_
      refine mv_sipush (pc := 50) (v := nI 16448) B d_Symbols_find_50 (by decide) ?_
      refine mv_icmp_ge (pc := 53) (tgt := 91) B d_Symbols_find_53 rfl (fun h53 => ?_) (fun h53 => ?_)
      · skip
        have hf := x_le_t h53 hf
        refine mv_lpick [0, 1, 2, 3, 4] rfl ?_
        exact jn91 _ _ _ _ hf
      · skip
        have hf := x_le_f h53 hf
        refine mv_iload (pc := 56) B d_Symbols_find_56 5 rfl ?_
        refine mv_if_lt (pc := 58) (tgt := 91) B d_Symbols_find_58 rfl (fun h58 => ?_) (fun h58 => ?_)
        · skip
          have hf := x_lt_t (y := 0) h58 hf
          refine mv_lpick [0, 1, 2, 3, 4] rfl ?_
          exact jn91 _ _ _ _ hf
        · skip
          have hf := x_lt_f (y := 0) h58 hf
          refine mv_aload_n (pc := 61) B d_Symbols_find_61 rfl 0 rfl ?_
          refine mv_iload (pc := 62) B d_Symbols_find_62 5 rfl ?_
          refine mv_aload_n (pc := 64) B d_Symbols_find_64 rfl 1 rfl ?_
          refine mv_iload_n (pc := 65) B d_Symbols_find_65 rfl 2 rfl ?_
          refine mv_iload_n (pc := 66) B d_Symbols_find_66 rfl 3 rfl ?_
          obtain ⟨v4, h3, eh3, hf⟩ := xeb_e hf
          refine mv_callVi (pc := 67) (n := 4) (ci := 3) (C := R_Symbols) B (mK_ok sk sv) hNs rfl rfl (cx_Symbols_isSpelt_12 l hi _ hb _ _ _ _ eh3) rfl (ma_goodc kc_Symbols_isSpelt) (B.2.2.2.1 _ k_807) (B.2.2.2.1 _ k_809) (B.2.2.2.1 _ ks_17) (B.2.2.2.1 _ k_4) ⟨by decide +kernel, by decide +kernel, by decide +kernel⟩ rfl d_Symbols_find_67 rfl (Nat.le_of_ble_eq_true rfl) ⟨by decide, by decide⟩ ⟨by decide, by decide⟩ ⟨by decide, by decide⟩ (mv_noH hno _) (fun w67 σ67 h67 => ?_)
          obtain ⟨rfl, rfl⟩ := h67
          refine mv_if_eq (pc := 70) (tgt := 76) B d_Symbols_find_70 rfl (fun h70 => ?_) (fun h70 => ?_)
          · skip
            have hf := x_eq_t (y := 0) h70 hf
            refine mv_aload_n (pc := 76) B d_Symbols_find_76 rfl 0 rfl ?_
            refine mv_getR (pc := 77) (ci := 3) (C := R_Symbols) (T := F_Symbols) (N := 6) B 3 rfl rfl (by decide) i_Symbols (B.2.2.2.1 _ k_69) rfl (hb.1.1 7 3 _ rfl) d_Symbols_find_77 ?_
            refine mv_iload (pc := 80) B d_Symbols_find_80 5 rfl ?_
            obtain ⟨q5, hf⟩ := xix_e hf
            refine mv_iald (pc := 82) B rfl (xin q5 (by decide)) d_Symbols_find_82 ?_
            obtain ⟨v6, ev6, hf⟩ := xer_e hf
            refine mvn_top (xfa_11 q5 ev6) ?_
            refine mv_istore (pc := 83) B d_Symbols_find_83 (by decide) rfl ?_
            refine mvn_iinc (pc := 85) (j := 6) (v := 1) B d_Symbols_find_85 rfl (by decide) (by decide) rfl ?_
            refine mv_goto (pc := 88) (tgt := 48) B d_Symbols_find_88 rfl ?_
            refine mv_lpick [2, 3, 4, 5, 6, 1, 0] rfl ?_
            exact ih48 _ _ _ _ _ _ hf
          · skip
            have hf := x_eq_f (y := 0) h70 hf
            refine mv_iload (pc := 73) B d_Symbols_find_73 5 rfl ?_
            exact mv_iret (pc := 75) B hr rfl d_Symbols_find_75 (Nat.le_refl _) (Nat.le_refl _) ⟨_, rfl, xret_i hf⟩
  have lp6 : ∀ (nn6 : Nat) (x2 : Nat) (x3 : Nat) (x4 : Nat) (x5 : Nat) (h : xE), g_Symbols_find_12_6 nn6 x2 x3 x4 x5 h = some (rv, rg) → mv_V p l e ({ frames := 2, cells := 0, slots := 0, locals := 65 }) s m ([.ref (al 7), .ref (al 12), .int (nI a1), .int (nI a2)] : List Value).toArray below meth c (mg dA D al me) 7 0 0 (mv_Q (mg dA D al me) below s 0 0 (mv_Ri (fun v σ1 => v = nI rv ∧ σ1 = ab b rg))) (ab b h) 6 [(0, .ref (al 7)), (1, .ref (al 12)), (2, .int (nI x2)), (3, .int (nI x3)), (4, .int (nI x4)), (5, .int (nI x5))] [] := by
    intro nn6
    induction nn6 with
    | zero => intro x2 x3 x4 x5 h hf; cases hf
    | succ nn6 ih6 =>
      intro x2 x3 x4 x5 h hf
      have hf : gF_Symbols_find_12_6 (g_Symbols_find_12_6 nn6) x2 x3 x4 x5 h = some (rv, rg) := hf
      unfold gF_Symbols_find_12_6 at hf
      have hf := (xfz_e _ _).symm.trans hf
      have hf := (xfz_e _ _).symm.trans hf
      have hf := (xfz_e _ _).symm.trans hf
      have hf := (xfz_e _ _).symm.trans hf
      refine mv_iload (pc := 6) B d_Symbols_find_6 5 rfl ?_
      refine mv_iload_n (pc := 8) B d_Symbols_find_8 rfl 3 rfl ?_
      refine mv_icmp_ge (pc := 9) (tgt := 36) B d_Symbols_find_9 rfl (fun h9 => ?_) (fun h9 => ?_)
      · skip
        have hf := x_le_t h9 hf
        refine mv_aload_n (pc := 36) B d_Symbols_find_36 rfl 0 rfl ?_
        refine mv_getR (pc := 37) (ci := 3) (C := R_Symbols) (T := F_Symbols) (N := 6) B 2 rfl rfl (by decide) i_Symbols (B.2.2.2.1 _ k_68) rfl (hb.1.1 7 2 _ rfl) d_Symbols_find_37 ?_
        refine mv_iload (pc := 40) B d_Symbols_find_40 4 rfl ?_
        obtain ⟨q7, hf⟩ := xix_e hf
        refine mv_iald (pc := 42) B rfl (xin q7 (by decide)) d_Symbols_find_42 ?_
        obtain ⟨v8, ev8, hf⟩ := xer_e hf
        refine mvn_top (xfa_10 q7 ev8) ?_
        refine mv_istore (pc := 43) B d_Symbols_find_43 (by decide) rfl ?_
        refine mv_iconst (pc := 45) (v := nI 0) B d_Symbols_find_45 (by decide) ?_
        refine mv_istore (pc := 46) B d_Symbols_find_46 (by decide) rfl ?_
        refine mv_lpick [2, 3, 4, 5, 6, 1, 0] rfl ?_
        exact lp48 _ _ _ _ _ _ _ hf
      · skip
        have hf := x_le_f h9 hf
        refine mv_iload (pc := 12) B d_Symbols_find_12 4 rfl ?_
        refine mv_bipush (pc := 14) (v := nI 31) B d_Symbols_find_14 (by decide) ?_
        refine mvn_imul (pc := 16) B d_Symbols_find_16 ?_
        refine mv_aload_n (pc := 17) B d_Symbols_find_17 rfl 1 rfl ?_
        refine mv_iload_n (pc := 18) B d_Symbols_find_18 rfl 2 rfl ?_
        refine mv_iload (pc := 19) B d_Symbols_find_19 5 rfl ?_
        refine mvn_iadd (pc := 21) B d_Symbols_find_21 ?_
        obtain ⟨q9, hf⟩ := xix_e hf
        refine mv_bald (pc := 22) B rfl (xin q9 (by decide)) d_Symbols_find_22 ?_
        obtain ⟨v10, ev10, hf⟩ := xer_e hf
        refine mvn_top (xfa_12 q9 ev10) ?_
        refine mvn_iadd (pc := 23) B d_Symbols_find_23 ?_
        refine mv_sipush (pc := 24) (v := nI 1023) B d_Symbols_find_24 (by decide) ?_
        refine mvn_iand (pc := 27) B d_Symbols_find_27 ?_
        refine mv_istore (pc := 28) B d_Symbols_find_28 (by decide) rfl ?_
        refine mvn_iinc (pc := 30) (j := 5) (v := 1) B d_Symbols_find_30 rfl (by decide) (by decide) rfl ?_
        refine mv_goto (pc := 33) (tgt := 6) B d_Symbols_find_33 rfl ?_
        refine mv_lpick [2, 3, 4, 5, 1, 0] rfl ?_
        exact ih6 _ _ _ _ _ hf
  unfold g_Symbols_find_12 at hf
  refine mv_iconst (pc := 0) (v := nI 0) B d_Symbols_find_0 (by decide) ?_
  refine mv_istore (pc := 1) B d_Symbols_find_1 (by decide) rfl ?_
  refine mv_iconst (pc := 3) (v := nI 0) B d_Symbols_find_3 (by decide) ?_
  refine mv_istore (pc := 4) B d_Symbols_find_4 (by decide) rfl ?_
  refine mv_lpick [2, 3, 4, 5, 1, 0] rfl ?_
  exact lp6 _ _ _ _ _ _ hf
def gF_Symbols_isSpelt_144_29 (k29 : Nat → Nat → Nat → Nat → xE → Option (Nat × xE)) (x3 : Nat) (x4 : Nat) (x5 : Nat) (x6 : Nat) (h : xE) : Option (Nat × xE) := xfz x3 fun x3 => xfz x4 fun x4 => xfz x5 fun x5 => xfz x6 fun x6 => bif xlt x6 x4 then (bif Nat.blt (xadd x5 x6) 32896 then xer (ep_g (xL_8 h.2) (xadd x5 x6)) fun v3 => bif Nat.blt (xadd x3 x6) 8192 then xer (ep_g (xL_144 h.2) (xadd x3 x6)) fun v5 => bif xeq v3 v5 then (k29 x3 x4 x5 (xadd x6 1) h) else (bif Nat.blt 0 2 then some (0, h) else none) else none else none) else (bif Nat.blt 1 2 then some (1, h) else none)
def g_Symbols_isSpelt_144_29 : Nat → Nat → Nat → Nat → Nat → xE → Option (Nat × xE)
  | 0 => fun _ _ _ _ _ => none
  | nn + 1 => gF_Symbols_isSpelt_144_29 (g_Symbols_isSpelt_144_29 nn)
def g_Symbols_isSpelt_144 (h : xE) (a0 : Nat) (a2 : Nat) (a3 : Nat) : Option (Nat × xE) := bif Nat.blt a0 16449 then xer (ep_g (xL_9 h.2) a0) fun v8 => bif Nat.blt (xadd a0 1) 16449 then xer (ep_g (xL_9 h.2) (xadd a0 1)) fun v10 => bif xeq (xsub v10 v8) a3 then (g_Symbols_isSpelt_144_29 200000 a2 a3 v8 0 h) else (bif Nat.blt 0 2 then some (0, h) else none) else none else none
set_option maxHeartbeats 4000000 in
set_option maxRecDepth 100000 in
theorem cx_Symbols_isSpelt_144 (l : Launch) {dA : FieldType → ClassId} {D : va_G} {al : Nat → Nat} {sk sv : Nat → Nat} (hi : mv_inj (mg dA D al me)) (b : mv_H) (hb : xR (mv_r b)) (h : xE) (a0 : Nat) (a2 : Nat) (a3 : Nat) {rv : Nat} {rg : xE} (hf : g_Symbols_isSpelt_144 h a0 a2 a3 = some (rv, rg)) : mv_C l y_Symbols_isSpelt (Cond.code y_Symbols_isSpelt b_Symbols_isSpelt 7 (Option.some Jvm.ClassFile.FieldType.boolean) :: ma) ({ frames := 0, cells := 0, slots := 0, locals := 0 }) (mg dA D al me) (mK sk sv) [.ref (al 7), .int (nI a0), .ref (al 144), .int (nI a2), .int (nI a3)] (ab b h) (mv_Ri (fun v σ1 => v = nI rv ∧ σ1 = ab b rg)) := by
  refine mv_C.ofV (cc := b_Symbols_isSpelt) (nL := 7) (ret := (Option.some Jvm.ClassFile.FieldType.boolean)) (by decide +kernel) rfl hi (Nat.le_of_ble_eq_true rfl) ?_
  intro p e s m below meth c B hNs hr hnm hno
  have lp29 : ∀ (nn29 : Nat) (x3 : Nat) (x4 : Nat) (x5 : Nat) (x6 : Nat) (h : xE), g_Symbols_isSpelt_144_29 nn29 x3 x4 x5 x6 h = some (rv, rg) → mv_V p l e ({ frames := 0, cells := 0, slots := 0, locals := 0 }) s m ([.ref (al 7), .int (nI a0), .ref (al 144), .int (nI a2), .int (nI a3)] : List Value).toArray below meth c (mg dA D al me) 7 0 0 (mv_Q (mg dA D al me) below s 0 0 (mv_Ri (fun v σ1 => v = nI rv ∧ σ1 = ab b rg))) (ab b h) 29 [(0, .ref (al 7)), (2, .ref (al 144)), (3, .int (nI x3)), (4, .int (nI x4)), (5, .int (nI x5)), (6, .int (nI x6))] [] := by
    intro nn29
    induction nn29 with
    | zero => intro x3 x4 x5 x6 h hf; cases hf
    | succ nn29 ih29 =>
      intro x3 x4 x5 x6 h hf
      have hf : gF_Symbols_isSpelt_144_29 (g_Symbols_isSpelt_144_29 nn29) x3 x4 x5 x6 h = some (rv, rg) := hf
      unfold gF_Symbols_isSpelt_144_29 at hf
      have hf := (xfz_e _ _).symm.trans hf
      have hf := (xfz_e _ _).symm.trans hf
      have hf := (xfz_e _ _).symm.trans hf
      have hf := (xfz_e _ _).symm.trans hf
      refine mv_iload (pc := 29) B d_Symbols_isSpelt_29 5 rfl ?_
      refine mv_iload (pc := 31) B d_Symbols_isSpelt_31 3 rfl ?_
      refine mv_icmp_ge (pc := 33) (tgt := 63) B d_Symbols_isSpelt_33 rfl (fun h33 => ?_) (fun h33 => ?_)
      · skip
        have hf := x_le_t h33 hf
        refine mv_iconst (pc := 63) (v := nI 1) B d_Symbols_isSpelt_63 (by decide) ?_
        obtain ⟨q1, hf⟩ := xix_e hf
        exact mv_iret (pc := 64) B hr (xz1 q1) d_Symbols_isSpelt_64 (Nat.le_refl _) (Nat.le_refl _) ⟨_, rfl, xret_i hf⟩
      · skip
        have hf := x_le_f h33 hf
        refine mv_aload_n (pc := 36) B d_Symbols_isSpelt_36 rfl 0 rfl ?_
        refine mv_getR (pc := 37) (ci := 3) (C := R_Symbols) (T := F_Symbols) (N := 6) B 0 rfl rfl (by decide) i_Symbols (B.2.2.2.1 _ k_66) rfl (hb.1.1 7 0 _ rfl) d_Symbols_isSpelt_37 ?_
        refine mv_iload (pc := 40) B d_Symbols_isSpelt_40 4 rfl ?_
        refine mv_iload (pc := 42) B d_Symbols_isSpelt_42 5 rfl ?_
        refine mvn_iadd (pc := 44) B d_Symbols_isSpelt_44 ?_
        obtain ⟨q2, hf⟩ := xix_e hf
        refine mv_bald (pc := 45) B rfl (xin q2 (by decide)) d_Symbols_isSpelt_45 ?_
        obtain ⟨v3, ev3, hf⟩ := xer_e hf
        refine mvn_top (xfa_8 q2 ev3) ?_
        refine mv_aload_n (pc := 46) B d_Symbols_isSpelt_46 rfl 1 rfl ?_
        refine mv_iload_n (pc := 47) B d_Symbols_isSpelt_47 rfl 2 rfl ?_
        refine mv_iload (pc := 48) B d_Symbols_isSpelt_48 5 rfl ?_
        refine mvn_iadd (pc := 50) B d_Symbols_isSpelt_50 ?_
        obtain ⟨q4, hf⟩ := xix_e hf
        refine mv_bald (pc := 51) B rfl (xin q4 (by decide)) d_Symbols_isSpelt_51 ?_
        obtain ⟨v5, ev5, hf⟩ := xer_e hf
        refine mvn_top (xfa_144 q4 ev5) ?_
        refine mv_icmp_eq (pc := 52) (tgt := 57) B d_Symbols_isSpelt_52 rfl (fun h52 => ?_) (fun h52 => ?_)
        · skip
          have hf := x_eq_t h52 hf
          refine mvn_iinc (pc := 57) (j := 5) (v := 1) B d_Symbols_isSpelt_57 rfl (by decide) (by decide) rfl ?_
          refine mv_goto (pc := 60) (tgt := 29) B d_Symbols_isSpelt_60 rfl ?_
          refine mv_lpick [1, 2, 3, 4, 5, 0] rfl ?_
          exact ih29 _ _ _ _ _ hf
        · skip
          have hf := x_eq_f h52 hf
          refine mv_iconst (pc := 55) (v := nI 0) B d_Symbols_isSpelt_55 (by decide) ?_
          obtain ⟨q6, hf⟩ := xix_e hf
          exact mv_iret (pc := 56) B hr (xz1 q6) d_Symbols_isSpelt_56 (Nat.le_refl _) (Nat.le_refl _) ⟨_, rfl, xret_i hf⟩
  unfold g_Symbols_isSpelt_144 at hf
  refine mv_aload_n (pc := 0) B d_Symbols_isSpelt_0 rfl 0 rfl ?_
  refine mv_getR (pc := 1) (ci := 3) (C := R_Symbols) (T := F_Symbols) (N := 6) B 1 rfl rfl (by decide) i_Symbols (B.2.2.2.1 _ k_67) rfl (hb.1.1 7 1 _ rfl) d_Symbols_isSpelt_1 ?_
  refine mv_iload_n (pc := 4) B d_Symbols_isSpelt_4 rfl 1 rfl ?_
  obtain ⟨q7, hf⟩ := xix_e hf
  refine mv_iald (pc := 5) B rfl (xin q7 (by decide)) d_Symbols_isSpelt_5 ?_
  obtain ⟨v8, ev8, hf⟩ := xer_e hf
  refine mvn_top (xfa_9 q7 ev8) ?_
  refine mv_istore (pc := 6) B d_Symbols_isSpelt_6 (by decide) rfl ?_
  refine mv_aload_n (pc := 8) B d_Symbols_isSpelt_8 rfl 1 rfl ?_
  refine mv_getR (pc := 9) (ci := 3) (C := R_Symbols) (T := F_Symbols) (N := 6) B 1 rfl rfl (by decide) i_Symbols (B.2.2.2.1 _ k_67) rfl (hb.1.1 7 1 _ rfl) d_Symbols_isSpelt_9 ?_
  refine mv_iload_n (pc := 12) B d_Symbols_isSpelt_12 rfl 2 rfl ?_
  refine mv_iconst (pc := 13) (v := nI 1) B d_Symbols_isSpelt_13 (by decide) ?_
  refine mvn_iadd (pc := 14) B d_Symbols_isSpelt_14 ?_
  obtain ⟨q9, hf⟩ := xix_e hf
  refine mv_iald (pc := 15) B rfl (xin q9 (by decide)) d_Symbols_isSpelt_15 ?_
  obtain ⟨v10, ev10, hf⟩ := xer_e hf
  refine mvn_top (xfa_9 q9 ev10) ?_
  refine mv_iload (pc := 16) B d_Symbols_isSpelt_16 0 rfl ?_
  refine mvn_isub (pc := 18) B d_Symbols_isSpelt_18 ?_
  refine mv_iload (pc := 19) B d_Symbols_isSpelt_19 5 rfl ?_
  refine mv_icmp_eq (pc := 21) (tgt := 26) B d_Symbols_isSpelt_21 rfl (fun h21 => ?_) (fun h21 => ?_)
  · skip
    have hf := x_eq_t h21 hf
    refine mv_iconst (pc := 26) (v := nI 0) B d_Symbols_isSpelt_26 (by decide) ?_
    refine mv_istore (pc := 27) B d_Symbols_isSpelt_27 (by decide) rfl ?_
    refine mv_lpick [2, 4, 5, 6, 1, 0] rfl ?_
    exact lp29 _ _ _ _ _ _ hf
  · skip
    have hf := x_eq_f h21 hf
    refine mv_iconst (pc := 24) (v := nI 0) B d_Symbols_isSpelt_24 (by decide) ?_
    obtain ⟨q11, hf⟩ := xix_e hf
    exact mv_iret (pc := 25) B hr (xz1 q11) d_Symbols_isSpelt_25 (Nat.le_refl _) (Nat.le_refl _) ⟨_, rfl, xret_i hf⟩
def g_Symbols_add_144 (h : xE) (a0 : Nat) (a2 : Nat) (a3 : Nat) : Option (Nat × xE) := xer (ep_g h.1 12) fun v1 => bif Nat.blt v1 16449 then xer (ep_g (xL_9 h.2) v1) fun v3 => bif Nat.blt (a2 + a3) 8193 then bif Nat.blt (v3 + a3) 32897 then xop (xcpy a3 (xL_144 h.2) (xL_8 h.2) a2 v3) fun N6 => xwN xS_8 h N6 fun h7 => bif Nat.blt v1 16449 then xer (ep_g (xL_9 h7.2) v1) fun v9 => bif Nat.blt (xadd v1 1) 16449 then xw xL_9 xS_9 h7 (xadd v1 1) (xadd v9 a3) fun h11 => bif Nat.blt a0 1024 then xer (ep_g (xL_10 h11.2) a0) fun v13 => bif Nat.blt v1 16448 then xw xL_11 xS_11 h11 v1 v13 fun h15 => bif Nat.blt a0 1024 then xw xL_10 xS_10 h15 a0 v1 fun h17 => xer (ep_g h17.1 12) fun v18 => xwi h17 12 (xadd v18 1) fun h19 => some (v1, h19) else none else none else none else none else none else none else none else none
set_option maxHeartbeats 4000000 in
set_option maxRecDepth 100000 in
theorem cx_Symbols_add_144 (l : Launch) {dA : FieldType → ClassId} {D : va_G} {al : Nat → Nat} {sk sv : Nat → Nat} (hi : mv_inj (mg dA D al me)) (b : mv_H) (hb : xR (mv_r b)) (h : xE) (a0 : Nat) (a2 : Nat) (a3 : Nat) {rv : Nat} {rg : xE} (hf : g_Symbols_add_144 h a0 a2 a3 = some (rv, rg)) : mv_C l y_Symbols_add (Cond.code y_Symbols_add b_Symbols_add 6 (Option.some Jvm.ClassFile.FieldType.int) :: ma) ({ frames := 1, cells := 0, slots := 0, locals := 40 }) (mg dA D al me) (mK sk sv) [.ref (al 7), .int (nI a0), .ref (al 144), .int (nI a2), .int (nI a3)] (ab b h) (mv_Ri (fun v σ1 => v = nI rv ∧ σ1 = ab b rg)) := by
  refine mv_C.ofV (cc := b_Symbols_add) (nL := 6) (ret := (Option.some Jvm.ClassFile.FieldType.int)) (by decide +kernel) rfl hi (Nat.le_of_ble_eq_true rfl) ?_
  intro p e s m below meth c B hNs hr hnm hno
  unfold g_Symbols_add_144 at hf
  refine mv_aload_n (pc := 0) B d_Symbols_add_0 rfl 0 rfl ?_
  refine mv_getI (pc := 1) (ci := 3) (C := R_Symbols) (T := F_Symbols) (N := 6) B 5 rfl rfl (by decide) i_Symbols (B.2.2.2.1 _ k_72) rfl d_Symbols_add_1 ?_
  obtain ⟨v1, ev1, hf⟩ := xer_e hf
  refine mvn_top (xfi_7_5 ev1) ?_
  refine mv_istore (pc := 4) B d_Symbols_add_4 (by decide) rfl ?_
  refine mv_aload_n (pc := 6) B d_Symbols_add_6 rfl 3 rfl ?_
  refine mv_iload_n (pc := 7) B d_Symbols_add_7 rfl 4 rfl ?_
  refine mv_aload_n (pc := 8) B d_Symbols_add_8 rfl 1 rfl ?_
  refine mv_getR (pc := 9) (ci := 3) (C := R_Symbols) (T := F_Symbols) (N := 6) B 0 rfl rfl (by decide) i_Symbols (B.2.2.2.1 _ k_66) rfl (hb.1.1 7 0 _ rfl) d_Symbols_add_9 ?_
  refine mv_aload_n (pc := 12) B d_Symbols_add_12 rfl 1 rfl ?_
  refine mv_getR (pc := 13) (ci := 3) (C := R_Symbols) (T := F_Symbols) (N := 6) B 1 rfl rfl (by decide) i_Symbols (B.2.2.2.1 _ k_67) rfl (hb.1.1 7 1 _ rfl) d_Symbols_add_13 ?_
  refine mv_iload (pc := 16) B d_Symbols_add_16 0 rfl ?_
  obtain ⟨q2, hf⟩ := xix_e hf
  refine mv_iald (pc := 18) B rfl (xin q2 (by decide)) d_Symbols_add_18 ?_
  obtain ⟨v3, ev3, hf⟩ := xer_e hf
  refine mvn_top (xfa_9 q2 ev3) ?_
  refine mv_iload (pc := 19) B d_Symbols_add_19 5 rfl ?_
  obtain ⟨q4, hf⟩ := xix_e hf
  obtain ⟨q5, hf⟩ := xix_e hf
  obtain ⟨N6, eN6, hf⟩ := xop_e hf
  refine mvn_copy (pc := 21) B (B.2.2.2.1 _ k_815) (B.2.2.2.1 _ k_817) (B.2.2.2.1 _ k_816) (B.2.2.2.1 _ k_25) rfl rfl (by decide) (by decide) q4 q5 xLe_144 xLe_8 (by decide) rfl (by decide) rfl eN6 (by decide) (by decide) d_Symbols_add_21 ?_
  refine mvn_hp rfl (xwN_f xSe_8 hf) (fun h7 hf => ?_)
  refine mv_aload_n (pc := 24) B d_Symbols_add_24 rfl 1 rfl ?_
  refine mv_getR (pc := 25) (ci := 3) (C := R_Symbols) (T := F_Symbols) (N := 6) B 1 rfl rfl (by decide) i_Symbols (B.2.2.2.1 _ k_67) rfl (hb.1.1 7 1 _ rfl) d_Symbols_add_25 ?_
  refine mv_iload (pc := 28) B d_Symbols_add_28 0 rfl ?_
  refine mv_iconst (pc := 30) (v := nI 1) B d_Symbols_add_30 (by decide) ?_
  refine mvn_iadd (pc := 31) B d_Symbols_add_31 ?_
  refine mv_aload_n (pc := 32) B d_Symbols_add_32 rfl 1 rfl ?_
  refine mv_getR (pc := 33) (ci := 3) (C := R_Symbols) (T := F_Symbols) (N := 6) B 1 rfl rfl (by decide) i_Symbols (B.2.2.2.1 _ k_67) rfl (hb.1.1 7 1 _ rfl) d_Symbols_add_33 ?_
  refine mv_iload (pc := 36) B d_Symbols_add_36 0 rfl ?_
  obtain ⟨q8, hf⟩ := xix_e hf
  refine mv_iald (pc := 38) B rfl (xin q8 (by decide)) d_Symbols_add_38 ?_
  obtain ⟨v9, ev9, hf⟩ := xer_e hf
  refine mvn_top (xfa_9 q8 ev9) ?_
  refine mv_iload (pc := 39) B d_Symbols_add_39 5 rfl ?_
  refine mvn_iadd (pc := 41) B d_Symbols_add_41 ?_
  obtain ⟨q10, hf⟩ := xix_e hf
  refine mv_iast (pc := 42) B rfl (xin q10 (by decide)) d_Symbols_add_42 ?_
  refine mvn_hp (xwa_9 _ _ _ q10) (xw_f xLe_9 xSe_9 hf) (fun h11 hf => ?_)
  refine mv_aload_n (pc := 43) B d_Symbols_add_43 rfl 1 rfl ?_
  refine mv_getR (pc := 44) (ci := 3) (C := R_Symbols) (T := F_Symbols) (N := 6) B 3 rfl rfl (by decide) i_Symbols (B.2.2.2.1 _ k_69) rfl (hb.1.1 7 3 _ rfl) d_Symbols_add_44 ?_
  refine mv_iload (pc := 47) B d_Symbols_add_47 0 rfl ?_
  refine mv_aload_n (pc := 49) B d_Symbols_add_49 rfl 1 rfl ?_
  refine mv_getR (pc := 50) (ci := 3) (C := R_Symbols) (T := F_Symbols) (N := 6) B 2 rfl rfl (by decide) i_Symbols (B.2.2.2.1 _ k_68) rfl (hb.1.1 7 2 _ rfl) d_Symbols_add_50 ?_
  refine mv_iload_n (pc := 53) B d_Symbols_add_53 rfl 2 rfl ?_
  obtain ⟨q12, hf⟩ := xix_e hf
  refine mv_iald (pc := 54) B rfl (xin q12 (by decide)) d_Symbols_add_54 ?_
  obtain ⟨v13, ev13, hf⟩ := xer_e hf
  refine mvn_top (xfa_10 q12 ev13) ?_
  obtain ⟨q14, hf⟩ := xix_e hf
  refine mv_iast (pc := 55) B rfl (xin q14 (by decide)) d_Symbols_add_55 ?_
  refine mvn_hp (xwa_11 _ _ _ q14) (xw_f xLe_11 xSe_11 hf) (fun h15 hf => ?_)
  refine mv_aload_n (pc := 56) B d_Symbols_add_56 rfl 1 rfl ?_
  refine mv_getR (pc := 57) (ci := 3) (C := R_Symbols) (T := F_Symbols) (N := 6) B 2 rfl rfl (by decide) i_Symbols (B.2.2.2.1 _ k_68) rfl (hb.1.1 7 2 _ rfl) d_Symbols_add_57 ?_
  refine mv_iload_n (pc := 60) B d_Symbols_add_60 rfl 2 rfl ?_
  refine mv_iload (pc := 61) B d_Symbols_add_61 0 rfl ?_
  obtain ⟨q16, hf⟩ := xix_e hf
  refine mv_iast (pc := 63) B rfl (xin q16 (by decide)) d_Symbols_add_63 ?_
  refine mvn_hp (xwa_10 _ _ _ q16) (xw_f xLe_10 xSe_10 hf) (fun h17 hf => ?_)
  refine mv_aload_n (pc := 64) B d_Symbols_add_64 rfl 1 rfl ?_
  refine mv_dup (pc := 65) B d_Symbols_add_65 rfl ?_
  refine mv_getI (pc := 66) (ci := 3) (C := R_Symbols) (T := F_Symbols) (N := 6) B 5 rfl rfl (by decide) i_Symbols (B.2.2.2.1 _ k_72) rfl d_Symbols_add_66 ?_
  obtain ⟨v18, ev18, hf⟩ := xer_e hf
  refine mvn_top (xfi_7_5 ev18) ?_
  refine mv_iconst (pc := 69) (v := nI 1) B d_Symbols_add_69 (by decide) ?_
  refine mvn_iadd (pc := 70) B d_Symbols_add_70 ?_
  refine mv_putI (pc := 71) (ci := 3) (C := R_Symbols) (T := F_Symbols) (N := 6) B 5 rfl rfl (by decide) i_Symbols t_Symbols_ok n_Symbols (B.2.2.2.1 _ k_72) rfl rfl rfl rfl d_Symbols_add_71 ?_
  refine mvn_hp (xwi_7_5 _ _ _) (xwi_f hf) (fun h19 hf => ?_)
  refine mv_iload (pc := 74) B d_Symbols_add_74 0 rfl ?_
  exact mv_iret (pc := 76) B hr rfl d_Symbols_add_76 (Nat.le_refl _) (Nat.le_refl _) ⟨_, rfl, xret_i hf⟩
def g_Symbols_find_144_91 (x2 : Nat) (x3 : Nat) (x4 : Nat) (h : xE) : Option (Nat × xE) := xeb (g_Symbols_add_144 h x4 x2 x3) fun v2 h1 => some (v2, h1)
def gF_Symbols_find_144_48 (k48 : Nat → Nat → Nat → Nat → Nat → xE → Option (Nat × xE)) (x2 : Nat) (x3 : Nat) (x4 : Nat) (x5 : Nat) (x6 : Nat) (h : xE) : Option (Nat × xE) := xfz x2 fun x2 => xfz x3 fun x3 => xfz x4 fun x4 => xfz x5 fun x5 => xfz x6 fun x6 => bif xlt x6 16448 then (bif xlt x5 0 then (g_Symbols_find_144_91 x2 x3 x4 h) else (xeb (g_Symbols_isSpelt_144 h x5 x2 x3) fun v4 h3 => bif xeq v4 0 then (bif Nat.blt x5 16448 then xer (ep_g (xL_11 h3.2) x5) fun v6 => k48 x2 x3 x4 v6 (xadd x6 1) h3 else none) else (some (x5, h3)))) else (g_Symbols_find_144_91 x2 x3 x4 h)
def g_Symbols_find_144_48 : Nat → Nat → Nat → Nat → Nat → Nat → xE → Option (Nat × xE)
  | 0 => fun _ _ _ _ _ _ => none
  | nn + 1 => gF_Symbols_find_144_48 (g_Symbols_find_144_48 nn)
def gF_Symbols_find_144_6 (k6 : Nat → Nat → Nat → Nat → xE → Option (Nat × xE)) (x2 : Nat) (x3 : Nat) (x4 : Nat) (x5 : Nat) (h : xE) : Option (Nat × xE) := xfz x2 fun x2 => xfz x3 fun x3 => xfz x4 fun x4 => xfz x5 fun x5 => bif xlt x5 x3 then (bif Nat.blt (xadd x2 x5) 8192 then xer (ep_g (xL_144 h.2) (xadd x2 x5)) fun v10 => k6 x2 x3 (Nat.land (xadd (xmul x4 31) v10) 1023) (xadd x5 1) h else none) else (bif Nat.blt x4 1024 then xer (ep_g (xL_10 h.2) x4) fun v8 => g_Symbols_find_144_48 200000 x2 x3 x4 v8 0 h else none)
def g_Symbols_find_144_6 : Nat → Nat → Nat → Nat → Nat → xE → Option (Nat × xE)
  | 0 => fun _ _ _ _ _ => none
  | nn + 1 => gF_Symbols_find_144_6 (g_Symbols_find_144_6 nn)
def g_Symbols_find_144 (h : xE) (a1 : Nat) (a2 : Nat) : Option (Nat × xE) := g_Symbols_find_144_6 200000 a1 a2 0 0 h
set_option maxHeartbeats 4000000 in
set_option maxRecDepth 100000 in
theorem cx_Symbols_find_144 (l : Launch) {dA : FieldType → ClassId} {D : va_G} {al : Nat → Nat} {sk sv : Nat → Nat} (hi : mv_inj (mg dA D al me)) (b : mv_H) (hb : xR (mv_r b)) (h : xE) (a1 : Nat) (a2 : Nat) {rv : Nat} {rg : xE} (hf : g_Symbols_find_144 h a1 a2 = some (rv, rg)) : mv_C l y_Symbols_find (Cond.code y_Symbols_find b_Symbols_find 7 (Option.some Jvm.ClassFile.FieldType.int) :: ma) ({ frames := 2, cells := 0, slots := 0, locals := 65 }) (mg dA D al me) (mK sk sv) [.ref (al 7), .ref (al 144), .int (nI a1), .int (nI a2)] (ab b h) (mv_Ri (fun v σ1 => v = nI rv ∧ σ1 = ab b rg)) := by
  refine mv_C.ofV (cc := b_Symbols_find) (nL := 7) (ret := (Option.some Jvm.ClassFile.FieldType.int)) (by decide +kernel) rfl hi (Nat.le_of_ble_eq_true rfl) ?_
  intro p e s m below meth c B hNs hr hnm hno
  have jn91 : ∀ (x2 : Nat) (x3 : Nat) (x4 : Nat) (h : xE), g_Symbols_find_144_91 x2 x3 x4 h = some (rv, rg) → mv_V p l e ({ frames := 2, cells := 0, slots := 0, locals := 65 }) s m ([.ref (al 7), .ref (al 144), .int (nI a1), .int (nI a2)] : List Value).toArray below meth c (mg dA D al me) 7 0 0 (mv_Q (mg dA D al me) below s 0 0 (mv_Ri (fun v σ1 => v = nI rv ∧ σ1 = ab b rg))) (ab b h) 91 [(0, .ref (al 7)), (1, .ref (al 144)), (2, .int (nI x2)), (3, .int (nI x3)), (4, .int (nI x4))] [] := by
    intro x2 x3 x4 h hf
    unfold g_Symbols_find_144_91 at hf
    refine mv_aload_n (pc := 91) B d_Symbols_find_91 rfl 0 rfl ?_
    refine mv_iload (pc := 92) B d_Symbols_find_92 4 rfl ?_
    refine mv_aload_n (pc := 94) B d_Symbols_find_94 rfl 1 rfl ?_
    refine mv_iload_n (pc := 95) B d_Symbols_find_95 rfl 2 rfl ?_
    refine mv_iload_n (pc := 96) B d_Symbols_find_96 rfl 3 rfl ?_
    obtain ⟨v2, h1, eh1, hf⟩ := xeb_e hf
    refine mv_callVi (pc := 97) (n := 4) (ci := 3) (C := R_Symbols) B (mK_ok sk sv) hNs rfl rfl (cx_Symbols_add_144 l hi _ hb _ _ _ _ eh1) rfl (ma_goodc kc_Symbols_add) (B.2.2.2.1 _ k_811) (B.2.2.2.1 _ k_813) (B.2.2.2.1 _ ks_18) (B.2.2.2.1 _ k_4) ⟨by decide +kernel, by decide +kernel, by decide +kernel⟩ rfl d_Symbols_find_97 rfl (Nat.le_of_ble_eq_true rfl) ⟨by decide, by decide⟩ ⟨by decide, by decide⟩ ⟨by decide, by decide⟩ (mv_noH hno _) (fun w97 σ97 h97 => ?_)
    obtain ⟨rfl, rfl⟩ := h97
    exact mv_iret (pc := 100) B hr rfl d_Symbols_find_100 (Nat.le_refl _) (Nat.le_refl _) ⟨_, rfl, xret_i hf⟩
  have lp48 : ∀ (nn48 : Nat) (x2 : Nat) (x3 : Nat) (x4 : Nat) (x5 : Nat) (x6 : Nat) (h : xE), g_Symbols_find_144_48 nn48 x2 x3 x4 x5 x6 h = some (rv, rg) → mv_V p l e ({ frames := 2, cells := 0, slots := 0, locals := 65 }) s m ([.ref (al 7), .ref (al 144), .int (nI a1), .int (nI a2)] : List Value).toArray below meth c (mg dA D al me) 7 0 0 (mv_Q (mg dA D al me) below s 0 0 (mv_Ri (fun v σ1 => v = nI rv ∧ σ1 = ab b rg))) (ab b h) 48 [(0, .ref (al 7)), (1, .ref (al 144)), (2, .int (nI x2)), (3, .int (nI x3)), (4, .int (nI x4)), (5, .int (nI x5)), (6, .int (nI x6))] [] := by
    intro nn48
    induction nn48 with
    | zero => intro x2 x3 x4 x5 x6 h hf; cases hf
    | succ nn48 ih48 =>
      intro x2 x3 x4 x5 x6 h hf
      have hf : gF_Symbols_find_144_48 (g_Symbols_find_144_48 nn48) x2 x3 x4 x5 x6 h = some (rv, rg) := hf
      unfold gF_Symbols_find_144_48 at hf
      have hf := (xfz_e _ _).symm.trans hf
      have hf := (xfz_e _ _).symm.trans hf
      have hf := (xfz_e _ _).symm.trans hf
      have hf := (xfz_e _ _).symm.trans hf
      have hf := (xfz_e _ _).symm.trans hf
      refine mv_iload (pc := 48) B d_Symbols_find_48 6 rfl ?_
      refine mv_sipush (pc := 50) (v := nI 16448) B d_Symbols_find_50 (by decide) ?_
      refine mv_icmp_ge (pc := 53) (tgt := 91) B d_Symbols_find_53 rfl (fun h53 => ?_) (fun h53 => ?_)
      · skip
        have hf := x_le_t h53 hf
        refine mv_lpick [0, 1, 2, 3, 4] rfl ?_
        exact jn91 _ _ _ _ hf
      · skip
        have hf := x_le_f h53 hf
        refine mv_iload (pc := 56) B d_Symbols_find_56 5 rfl ?_
        refine mv_if_lt (pc := 58) (tgt := 91) B d_Symbols_find_58 rfl (fun h58 => ?_) (fun h58 => ?_)
        · skip
          have hf := x_lt_t (y := 0) h58 hf
          refine mv_lpick [0, 1, 2, 3, 4] rfl ?_
          exact jn91 _ _ _ _ hf
        · skip
          have hf := x_lt_f (y := 0) h58 hf
          refine mv_aload_n (pc := 61) B d_Symbols_find_61 rfl 0 rfl ?_
          refine mv_iload (pc := 62) B d_Symbols_find_62 5 rfl ?_
          refine mv_aload_n (pc := 64) B d_Symbols_find_64 rfl 1 rfl ?_
          refine mv_iload_n (pc := 65) B d_Symbols_find_65 rfl 2 rfl ?_
          refine mv_iload_n (pc := 66) B d_Symbols_find_66 rfl 3 rfl ?_
          obtain ⟨v4, h3, eh3, hf⟩ := xeb_e hf
          refine mv_callVi (pc := 67) (n := 4) (ci := 3) (C := R_Symbols) B (mK_ok sk sv) hNs rfl rfl (cx_Symbols_isSpelt_144 l hi _ hb _ _ _ _ eh3) rfl (ma_goodc kc_Symbols_isSpelt) (B.2.2.2.1 _ k_807) (B.2.2.2.1 _ k_809) (B.2.2.2.1 _ ks_17) (B.2.2.2.1 _ k_4) ⟨by decide +kernel, by decide +kernel, by decide +kernel⟩ rfl d_Symbols_find_67 rfl (Nat.le_of_ble_eq_true rfl) ⟨by decide, by decide⟩ ⟨by decide, by decide⟩ ⟨by decide, by decide⟩ (mv_noH hno _) (fun w67 σ67 h67 => ?_)
          obtain ⟨rfl, rfl⟩ := h67
          refine mv_if_eq (pc := 70) (tgt := 76) B d_Symbols_find_70 rfl (fun h70 => ?_) (fun h70 => ?_)
          · skip
            have hf := x_eq_t (y := 0) h70 hf
            refine mv_aload_n (pc := 76) B d_Symbols_find_76 rfl 0 rfl ?_
            refine mv_getR (pc := 77) (ci := 3) (C := R_Symbols) (T := F_Symbols) (N := 6) B 3 rfl rfl (by decide) i_Symbols (B.2.2.2.1 _ k_69) rfl (hb.1.1 7 3 _ rfl) d_Symbols_find_77 ?_
            refine mv_iload (pc := 80) B d_Symbols_find_80 5 rfl ?_
            obtain ⟨q5, hf⟩ := xix_e hf
            refine mv_iald (pc := 82) B rfl (xin q5 (by decide)) d_Symbols_find_82 ?_
            obtain ⟨v6, ev6, hf⟩ := xer_e hf
            refine mvn_top (xfa_11 q5 ev6) ?_
            refine mv_istore (pc := 83) B d_Symbols_find_83 (by decide) rfl ?_
            refine mvn_iinc (pc := 85) (j := 6) (v := 1) B d_Symbols_find_85 rfl (by decide) (by decide) rfl ?_
            refine mv_goto (pc := 88) (tgt := 48) B d_Symbols_find_88 rfl ?_
            refine mv_lpick [2, 3, 4, 5, 6, 1, 0] rfl ?_
            exact ih48 _ _ _ _ _ _ hf
          · skip
            have hf := x_eq_f (y := 0) h70 hf
            refine mv_iload (pc := 73) B d_Symbols_find_73 5 rfl ?_
            exact mv_iret (pc := 75) B hr rfl d_Symbols_find_75 (Nat.le_refl _) (Nat.le_refl _) ⟨_, rfl, xret_i hf⟩
  have lp6 : ∀ (nn6 : Nat) (x2 : Nat) (x3 : Nat) (x4 : Nat) (x5 : Nat) (h : xE), g_Symbols_find_144_6 nn6 x2 x3 x4 x5 h = some (rv, rg) → mv_V p l e ({ frames := 2, cells := 0, slots := 0, locals := 65 }) s m ([.ref (al 7), .ref (al 144), .int (nI a1), .int (nI a2)] : List Value).toArray below meth c (mg dA D al me) 7 0 0 (mv_Q (mg dA D al me) below s 0 0 (mv_Ri (fun v σ1 => v = nI rv ∧ σ1 = ab b rg))) (ab b h) 6 [(0, .ref (al 7)), (1, .ref (al 144)), (2, .int (nI x2)), (3, .int (nI x3)), (4, .int (nI x4)), (5, .int (nI x5))] [] := by
    intro nn6
    induction nn6 with
    | zero => intro x2 x3 x4 x5 h hf; cases hf
    | succ nn6 ih6 =>
      intro x2 x3 x4 x5 h hf
      have hf : gF_Symbols_find_144_6 (g_Symbols_find_144_6 nn6) x2 x3 x4 x5 h = some (rv, rg) := hf
      unfold gF_Symbols_find_144_6 at hf
      have hf := (xfz_e _ _).symm.trans hf
      have hf := (xfz_e _ _).symm.trans hf
      have hf := (xfz_e _ _).symm.trans hf
      have hf := (xfz_e _ _).symm.trans hf
      refine mv_iload (pc := 6) B d_Symbols_find_6 5 rfl ?_
      refine mv_iload_n (pc := 8) B d_Symbols_find_8 rfl 3 rfl ?_
      refine mv_icmp_ge (pc := 9) (tgt := 36) B d_Symbols_find_9 rfl (fun h9 => ?_) (fun h9 => ?_)
      · skip
        have hf := x_le_t h9 hf
        refine mv_aload_n (pc := 36) B d_Symbols_find_36 rfl 0 rfl ?_
        refine mv_getR (pc := 37) (ci := 3) (C := R_Symbols) (T := F_Symbols) (N := 6) B 2 rfl rfl (by decide) i_Symbols (B.2.2.2.1 _ k_68) rfl (hb.1.1 7 2 _ rfl) d_Symbols_find_37 ?_
        refine mv_iload (pc := 40) B d_Symbols_find_40 4 rfl ?_
        obtain ⟨q7, hf⟩ := xix_e hf
        refine mv_iald (pc := 42) B rfl (xin q7 (by decide)) d_Symbols_find_42 ?_
        obtain ⟨v8, ev8, hf⟩ := xer_e hf
        refine mvn_top (xfa_10 q7 ev8) ?_
        refine mv_istore (pc := 43) B d_Symbols_find_43 (by decide) rfl ?_
        refine mv_iconst (pc := 45) (v := nI 0) B d_Symbols_find_45 (by decide) ?_
        refine mv_istore (pc := 46) B d_Symbols_find_46 (by decide) rfl ?_
        refine mv_lpick [2, 3, 4, 5, 6, 1, 0] rfl ?_
        exact lp48 _ _ _ _ _ _ _ hf
      · skip
        have hf := x_le_f h9 hf
        refine mv_iload (pc := 12) B d_Symbols_find_12 4 rfl ?_
        refine mv_bipush (pc := 14) (v := nI 31) B d_Symbols_find_14 (by decide) ?_
        refine mvn_imul (pc := 16) B d_Symbols_find_16 ?_
        refine mv_aload_n (pc := 17) B d_Symbols_find_17 rfl 1 rfl ?_
        refine mv_iload_n (pc := 18) B d_Symbols_find_18 rfl 2 rfl ?_
        refine mv_iload (pc := 19) B d_Symbols_find_19 5 rfl ?_
        refine mvn_iadd (pc := 21) B d_Symbols_find_21 ?_
        obtain ⟨q9, hf⟩ := xix_e hf
        refine mv_bald (pc := 22) B rfl (xin q9 (by decide)) d_Symbols_find_22 ?_
        obtain ⟨v10, ev10, hf⟩ := xer_e hf
        refine mvn_top (xfa_144 q9 ev10) ?_
        refine mvn_iadd (pc := 23) B d_Symbols_find_23 ?_
        refine mv_sipush (pc := 24) (v := nI 1023) B d_Symbols_find_24 (by decide) ?_
        refine mvn_iand (pc := 27) B d_Symbols_find_27 ?_
        refine mv_istore (pc := 28) B d_Symbols_find_28 (by decide) rfl ?_
        refine mvn_iinc (pc := 30) (j := 5) (v := 1) B d_Symbols_find_30 rfl (by decide) (by decide) rfl ?_
        refine mv_goto (pc := 33) (tgt := 6) B d_Symbols_find_33 rfl ?_
        refine mv_lpick [2, 3, 4, 5, 1, 0] rfl ?_
        exact ih6 _ _ _ _ _ hf
  unfold g_Symbols_find_144 at hf
  refine mv_iconst (pc := 0) (v := nI 0) B d_Symbols_find_0 (by decide) ?_
  refine mv_istore (pc := 1) B d_Symbols_find_1 (by decide) rfl ?_
  refine mv_iconst (pc := 3) (v := nI 0) B d_Symbols_find_3 (by decide) ?_
  refine mv_istore (pc := 4) B d_Symbols_find_4 (by decide) rfl ?_
  refine mv_lpick [2, 3, 4, 5, 1, 0] rfl ?_
  exact lp6 _ _ _ _ _ _ hf
def g_Symbols_letter_32 (h : xE) : Option (Nat × xE) := some (0, h)
def g_Symbols_letter (h : xE) (a0 : Nat) : Option (Nat × xE) := bif Nat.blt a0 16449 then xer (ep_g (xL_9 h.2) a0) fun v2 => bif Nat.blt (xadd a0 1) 16449 then xer (ep_g (xL_9 h.2) (xadd a0 1)) fun v4 => bif xeq (xsub v4 v2) 1 then (bif Nat.blt v2 32896 then xer (ep_g (xL_8 h.2) v2) fun v6 => bif xeq v6 95 then (g_Symbols_letter_32  h) else (bif Nat.blt v2 32896 then xer (ep_g (xL_8 h.2) v2) fun v8 => some (v8, h) else none) else none) else (g_Symbols_letter_32  h) else none else none
set_option maxHeartbeats 4000000 in
set_option maxRecDepth 100000 in
theorem cx_Symbols_letter (l : Launch) {dA : FieldType → ClassId} {D : va_G} {al : Nat → Nat} {sk sv : Nat → Nat} (hi : mv_inj (mg dA D al me)) (b : mv_H) (hb : xR (mv_r b)) (h : xE) (a0 : Nat) {rv : Nat} {rg : xE} (hf : g_Symbols_letter h a0 = some (rv, rg)) : mv_C l y_Symbols_letter (Cond.code y_Symbols_letter b_Symbols_letter 3 (Option.some Jvm.ClassFile.FieldType.int) :: ma) ({ frames := 0, cells := 0, slots := 0, locals := 0 }) (mg dA D al me) (mK sk sv) [.ref (al 7), .int (nI a0)] (ab b h) (mv_Ri (fun v σ1 => v = nI rv ∧ σ1 = ab b rg)) := by
  refine mv_C.ofV (cc := b_Symbols_letter) (nL := 3) (ret := (Option.some Jvm.ClassFile.FieldType.int)) (by decide +kernel) rfl hi (Nat.le_of_ble_eq_true rfl) ?_
  intro p e s m below meth c B hNs hr hnm hno
  have jn32 : ∀ (h : xE), g_Symbols_letter_32  h = some (rv, rg) → mv_V p l e ({ frames := 0, cells := 0, slots := 0, locals := 0 }) s m ([.ref (al 7), .int (nI a0)] : List Value).toArray below meth c (mg dA D al me) 3 0 0 (mv_Q (mg dA D al me) below s 0 0 (mv_Ri (fun v σ1 => v = nI rv ∧ σ1 = ab b rg))) (ab b h) 32 [] [] := by
    intro  h hf
    unfold g_Symbols_letter_32 at hf
    refine mv_iconst (pc := 32) (v := nI 0) B d_Symbols_letter_32 (by decide) ?_
    exact mv_iret (pc := 33) B hr rfl d_Symbols_letter_33 (Nat.le_refl _) (Nat.le_refl _) ⟨_, rfl, xret_i hf⟩
  unfold g_Symbols_letter at hf
  refine mv_aload_n (pc := 0) B d_Symbols_letter_0 rfl 0 rfl ?_
  refine mv_getR (pc := 1) (ci := 3) (C := R_Symbols) (T := F_Symbols) (N := 6) B 1 rfl rfl (by decide) i_Symbols (B.2.2.2.1 _ k_67) rfl (hb.1.1 7 1 _ rfl) d_Symbols_letter_1 ?_
  refine mv_iload_n (pc := 4) B d_Symbols_letter_4 rfl 1 rfl ?_
  obtain ⟨q1, hf⟩ := xix_e hf
  refine mv_iald (pc := 5) B rfl (xin q1 (by decide)) d_Symbols_letter_5 ?_
  obtain ⟨v2, ev2, hf⟩ := xer_e hf
  refine mvn_top (xfa_9 q1 ev2) ?_
  refine mv_istore_n (pc := 6) B d_Symbols_letter_6 rfl (by decide) rfl ?_
  refine mv_aload_n (pc := 7) B d_Symbols_letter_7 rfl 1 rfl ?_
  refine mv_getR (pc := 8) (ci := 3) (C := R_Symbols) (T := F_Symbols) (N := 6) B 1 rfl rfl (by decide) i_Symbols (B.2.2.2.1 _ k_67) rfl (hb.1.1 7 1 _ rfl) d_Symbols_letter_8 ?_
  refine mv_iload_n (pc := 11) B d_Symbols_letter_11 rfl 2 rfl ?_
  refine mv_iconst (pc := 12) (v := nI 1) B d_Symbols_letter_12 (by decide) ?_
  refine mvn_iadd (pc := 13) B d_Symbols_letter_13 ?_
  obtain ⟨q3, hf⟩ := xix_e hf
  refine mv_iald (pc := 14) B rfl (xin q3 (by decide)) d_Symbols_letter_14 ?_
  obtain ⟨v4, ev4, hf⟩ := xer_e hf
  refine mvn_top (xfa_9 q3 ev4) ?_
  refine mv_iload_n (pc := 15) B d_Symbols_letter_15 rfl 0 rfl ?_
  refine mvn_isub (pc := 16) B d_Symbols_letter_16 ?_
  refine mv_iconst (pc := 17) (v := nI 1) B d_Symbols_letter_17 (by decide) ?_
  refine mv_icmp_ne (pc := 18) (tgt := 32) B d_Symbols_letter_18 rfl (fun h18 => ?_) (fun h18 => ?_)
  · skip
    have hf := x_eq_f h18 hf
    refine mv_lpick [] rfl ?_
    exact jn32  _ hf
  · skip
    have hf := x_eq_t h18 hf
    refine mv_aload_n (pc := 21) B d_Symbols_letter_21 rfl 1 rfl ?_
    refine mv_getR (pc := 22) (ci := 3) (C := R_Symbols) (T := F_Symbols) (N := 6) B 0 rfl rfl (by decide) i_Symbols (B.2.2.2.1 _ k_66) rfl (hb.1.1 7 0 _ rfl) d_Symbols_letter_22 ?_
    refine mv_iload_n (pc := 25) B d_Symbols_letter_25 rfl 0 rfl ?_
    obtain ⟨q5, hf⟩ := xix_e hf
    refine mv_bald (pc := 26) B rfl (xin q5 (by decide)) d_Symbols_letter_26 ?_
    obtain ⟨v6, ev6, hf⟩ := xer_e hf
    refine mvn_top (xfa_8 q5 ev6) ?_
    refine mv_bipush (pc := 27) (v := nI 95) B d_Symbols_letter_27 (by decide) ?_
    refine mv_icmp_ne (pc := 29) (tgt := 34) B d_Symbols_letter_29 rfl (fun h29 => ?_) (fun h29 => ?_)
    · skip
      have hf := x_eq_f h29 hf
      refine mv_aload_n (pc := 34) B d_Symbols_letter_34 rfl 1 rfl ?_
      refine mv_getR (pc := 35) (ci := 3) (C := R_Symbols) (T := F_Symbols) (N := 6) B 0 rfl rfl (by decide) i_Symbols (B.2.2.2.1 _ k_66) rfl (hb.1.1 7 0 _ rfl) d_Symbols_letter_35 ?_
      refine mv_iload_n (pc := 38) B d_Symbols_letter_38 rfl 0 rfl ?_
      obtain ⟨q7, hf⟩ := xix_e hf
      refine mv_bald (pc := 39) B rfl (xin q7 (by decide)) d_Symbols_letter_39 ?_
      obtain ⟨v8, ev8, hf⟩ := xer_e hf
      refine mvn_top (xfa_8 q7 ev8) ?_
      exact mv_iret (pc := 40) B hr rfl d_Symbols_letter_40 (Nat.le_refl _) (Nat.le_refl _) ⟨_, rfl, xret_i hf⟩
    · skip
      have hf := x_eq_t h29 hf
      refine mv_lpick [] rfl ?_
      exact jn32  _ hf
def g_Symbols_clear_74 (k24 : Nat → Nat → xE → Option xE) (x1 : Nat) (x2 : Nat) (h : xE) : Option xE := k24 x1 (xadd x2 1) h
def gF_Symbols_clear_24 (k24 : Nat → Nat → xE → Option xE) (x1 : Nat) (x2 : Nat) (h : xE) : Option xE := xfz x1 fun x1 => xfz x2 fun x2 => bif xlt x2 (xsl 132) then (bif Nat.blt x2 (xsl 132) then bif Nat.blt x2 128 then xw xL_12 xS_12 h x2 (xi2b (xi2b (xsc 132 x2))) fun h3 => bif Nat.blt x2 128 then xer (ep_g (xL_12 h3.2) x2) fun v5 => bif xeq v5 32 then (xeb (g_Symbols_find_12 h3 x1 (xsub x2 x1)) fun v7 h6 => g_Symbols_clear_74 k24 (xadd x2 1) x2 h6) else (g_Symbols_clear_74 k24 x1 x2 h3) else none else none else none) else (some h)
def g_Symbols_clear_24 : Nat → Nat → Nat → xE → Option xE
  | 0 => fun _ _ _ => none
  | nn + 1 => gF_Symbols_clear_24 (g_Symbols_clear_24 nn)
def g_Symbols_clear (h : xE) : Option xE := xwN xS_10 h (xfill 1024 (xL_10 h.2) 0 4294967295) fun h8 => xwi h8 12 0 fun h9 => bif Nat.blt 0 16449 then xw xL_9 xS_9 h9 0 0 fun h11 => g_Symbols_clear_24 200000 0 0 h11 else none
set_option maxHeartbeats 4000000 in
set_option maxRecDepth 100000 in
theorem cx_Symbols_clear (l : Launch) {dA : FieldType → ClassId} {D : va_G} {al : Nat → Nat} {sk sv : Nat → Nat} (hi : mv_inj (mg dA D al me)) (b : mv_H) (hb : xR (mv_r b)) (h : xE) {rg : xE} (hf : g_Symbols_clear h = some rg) : mv_C l y_Symbols_clear (Cond.code y_Symbols_clear b_Symbols_clear 3 (Option.none : Option Jvm.ClassFile.FieldType) :: ma) ({ frames := 4, cells := 0, slots := 0, locals := 91 }) (mg dA D al me) (mK sk sv) [.ref (al 7)] (ab b h) (mv_Rv (fun σ1 => σ1 = ab b rg)) := by
  refine mv_C.ofV (cc := b_Symbols_clear) (nL := 3) (ret := (Option.none : Option Jvm.ClassFile.FieldType)) (by decide +kernel) rfl hi (Nat.le_of_ble_eq_true rfl) ?_
  intro p e s m below meth c B hNs hr hnm hno
  have lp24 : ∀ (nn24 : Nat) (x1 : Nat) (x2 : Nat) (h : xE), g_Symbols_clear_24 nn24 x1 x2 h = some rg → mv_V p l e ({ frames := 4, cells := 0, slots := 0, locals := 91 }) s m ([.ref (al 7)] : List Value).toArray below meth c (mg dA D al me) 3 0 0 (mv_Q (mg dA D al me) below s 0 0 (mv_Rv (fun σ1 => σ1 = ab b rg))) (ab b h) 24 [(0, .ref (al 7)), (1, .int (nI x1)), (2, .int (nI x2))] [] := by
    intro nn24
    induction nn24 with
    | zero => intro x1 x2 h hf; cases hf
    | succ nn24 ih24 =>
      intro x1 x2 h hf
      have jn74 : ∀ (x1 : Nat) (x2 : Nat) (h : xE), g_Symbols_clear_74 (g_Symbols_clear_24 nn24) x1 x2 h = some rg → mv_V p l e ({ frames := 4, cells := 0, slots := 0, locals := 91 }) s m ([.ref (al 7)] : List Value).toArray below meth c (mg dA D al me) 3 0 0 (mv_Q (mg dA D al me) below s 0 0 (mv_Rv (fun σ1 => σ1 = ab b rg))) (ab b h) 74 [(0, .ref (al 7)), (1, .int (nI x1)), (2, .int (nI x2))] [] := by
        intro x1 x2 h hf
        unfold g_Symbols_clear_74 at hf
        refine mvn_iinc (pc := 74) (j := 2) (v := 1) B d_Symbols_clear_74 rfl (by decide) (by decide) rfl ?_
        refine mv_goto (pc := 77) (tgt := 24) B d_Symbols_clear_77 rfl ?_
        refine mv_lpick [1, 2, 0] rfl ?_
        exact ih24 _ _ _ hf
      have hf : gF_Symbols_clear_24 (g_Symbols_clear_24 nn24) x1 x2 h = some rg := hf
      unfold gF_Symbols_clear_24 at hf
      have hf := (xfz_e _ _).symm.trans hf
      have hf := (xfz_e _ _).symm.trans hf
      refine mv_iload_n (pc := 24) B d_Symbols_clear_24 rfl 2 rfl ?_
      refine mv_ldcS (pc := 25) B (hNs.2.1 132 (by decide)).1 d_Symbols_clear_25 ?_
      refine mv_callVOi (pc := 27) (n := 0) B (mK_ok sk sv) hNs (hNs.2.1 132 (by decide)).2.1 (cx_String_length l hi _ 132 (by decide)) rfl (ma_goodc kc_String_length) (B.2.2.2.1 _ k_801) (B.2.2.2.1 _ k_546) (B.2.2.2.1 _ k_547) (B.2.2.2.1 _ k_21) ⟨by decide +kernel, by decide +kernel, by decide +kernel⟩ rfl d_Symbols_clear_27 rfl (Nat.le_of_ble_eq_true rfl) ⟨by decide, by decide⟩ ⟨by decide, by decide⟩ ⟨by decide, by decide⟩ (mv_noH hno _) (fun v27_ σ27 h27 => ?_)
      obtain ⟨rfl, rfl⟩ := h27
      refine mv_icmp_ge (pc := 30) (tgt := 80) B d_Symbols_clear_30 rfl (fun h30 => ?_) (fun h30 => ?_)
      · skip
        have hf := x_le_t h30 hf
        exact mv_vret (pc := 80) B hr d_Symbols_clear_80 (Nat.le_refl _) (Nat.le_refl _) ⟨rfl, xret_v hf⟩
      · skip
        have hf := x_le_f h30 hf
        refine mv_aload_n (pc := 33) B d_Symbols_clear_33 rfl 0 rfl ?_
        refine mv_getR (pc := 34) (ci := 3) (C := R_Symbols) (T := F_Symbols) (N := 6) B 4 rfl rfl (by decide) i_Symbols (B.2.2.2.1 _ k_70) rfl (hb.1.1 7 4 _ rfl) d_Symbols_clear_34 ?_
        refine mv_iload_n (pc := 37) B d_Symbols_clear_37 rfl 2 rfl ?_
        refine mv_ldcS (pc := 38) B (hNs.2.1 132 (by decide)).1 d_Symbols_clear_38 ?_
        refine mv_iload_n (pc := 40) B d_Symbols_clear_40 rfl 2 rfl ?_
        obtain ⟨q1, hf⟩ := xix_e hf
        refine mv_callVOi (pc := 41) (n := 1) B (mK_ok sk sv) hNs (hNs.2.1 132 (by decide)).2.1 (cx_String_charAt l hi _ 132 (by decide) q1) rfl (ma_goodc kc_String_charAt) (B.2.2.2.1 _ k_802) (B.2.2.2.1 _ k_556) (B.2.2.2.1 _ k_557) (B.2.2.2.1 _ k_21) ⟨by decide +kernel, by decide +kernel, by decide +kernel⟩ rfl d_Symbols_clear_41 rfl (Nat.le_of_ble_eq_true rfl) ⟨by decide, by decide⟩ ⟨by decide, by decide⟩ ⟨by decide, by decide⟩ (mv_noH hno _) (fun v41_ σ41 h41 => ?_)
        obtain ⟨rfl, rfl⟩ := h41
        refine mvn_i2b (pc := 44) B d_Symbols_clear_44 ?_
        obtain ⟨q2, hf⟩ := xix_e hf
        refine mv_bast (pc := 45) B rfl (xin q2 (by decide)) d_Symbols_clear_45 ?_
        rw [xnb]
        refine mvn_hp (xwa_12 _ _ _ q2) (xw_f xLe_12 xSe_12 hf) (fun h3 hf => ?_)
        refine mv_aload_n (pc := 46) B d_Symbols_clear_46 rfl 0 rfl ?_
        refine mv_getR (pc := 47) (ci := 3) (C := R_Symbols) (T := F_Symbols) (N := 6) B 4 rfl rfl (by decide) i_Symbols (B.2.2.2.1 _ k_70) rfl (hb.1.1 7 4 _ rfl) d_Symbols_clear_47 ?_
        refine mv_iload_n (pc := 50) B d_Symbols_clear_50 rfl 2 rfl ?_
        obtain ⟨q4, hf⟩ := xix_e hf
        refine mv_bald (pc := 51) B rfl (xin q4 (by decide)) d_Symbols_clear_51 ?_
        obtain ⟨v5, ev5, hf⟩ := xer_e hf
        refine mvn_top (xfa_12 q4 ev5) ?_
        refine mv_bipush (pc := 52) (v := nI 32) B d_Symbols_clear_52 (by decide) ?_
        refine mv_icmp_ne (pc := 54) (tgt := 74) B d_Symbols_clear_54 rfl (fun h54 => ?_) (fun h54 => ?_)
        · skip
          have hf := x_eq_f h54 hf
          refine mv_lpick [0, 1, 2] rfl ?_
          exact jn74 _ _ _ hf
        · skip
          have hf := x_eq_t h54 hf
          refine mv_aload_n (pc := 57) B d_Symbols_clear_57 rfl 0 rfl ?_
          refine mv_aload_n (pc := 58) B d_Symbols_clear_58 rfl 0 rfl ?_
          refine mv_getR (pc := 59) (ci := 3) (C := R_Symbols) (T := F_Symbols) (N := 6) B 4 rfl rfl (by decide) i_Symbols (B.2.2.2.1 _ k_70) rfl (hb.1.1 7 4 _ rfl) d_Symbols_clear_59 ?_
          refine mv_iload_n (pc := 62) B d_Symbols_clear_62 rfl 1 rfl ?_
          refine mv_iload_n (pc := 63) B d_Symbols_clear_63 rfl 2 rfl ?_
          refine mv_iload_n (pc := 64) B d_Symbols_clear_64 rfl 1 rfl ?_
          refine mvn_isub (pc := 65) B d_Symbols_clear_65 ?_
          obtain ⟨v7, h6, eh6, hf⟩ := xeb_e hf
          refine mv_callVi (pc := 66) (n := 3) (ci := 3) (C := R_Symbols) B (mK_ok sk sv) hNs rfl rfl (cx_Symbols_find_12 l hi _ hb _ _ _ eh6) rfl (ma_goodc kc_Symbols_find) (B.2.2.2.1 _ k_803) (B.2.2.2.1 _ k_804) (B.2.2.2.1 _ k_805) (B.2.2.2.1 _ k_4) ⟨by decide +kernel, by decide +kernel, by decide +kernel⟩ rfl d_Symbols_clear_66 rfl (Nat.le_of_ble_eq_true rfl) ⟨by decide, by decide⟩ ⟨by decide, by decide⟩ ⟨by decide, by decide⟩ (mv_noH hno _) (fun w66 σ66 h66 => ?_)
          obtain ⟨rfl, rfl⟩ := h66
          refine mv_pop (pc := 69) B d_Symbols_clear_69 rfl ?_
          refine mv_iload_n (pc := 70) B d_Symbols_clear_70 rfl 2 rfl ?_
          refine mv_iconst (pc := 71) (v := nI 1) B d_Symbols_clear_71 (by decide) ?_
          refine mvn_iadd (pc := 72) B d_Symbols_clear_72 ?_
          refine mv_istore_n (pc := 73) B d_Symbols_clear_73 rfl (by decide) rfl ?_
          refine mv_lpick [1, 0, 2] rfl ?_
          exact jn74 _ _ _ hf
  unfold g_Symbols_clear at hf
  refine mv_aload_n (pc := 0) B d_Symbols_clear_0 rfl 0 rfl ?_
  refine mv_getR (pc := 1) (ci := 3) (C := R_Symbols) (T := F_Symbols) (N := 6) B 2 rfl rfl (by decide) i_Symbols (B.2.2.2.1 _ k_68) rfl (hb.1.1 7 2 _ rfl) d_Symbols_clear_1 ?_
  refine mv_iconst (pc := 4) (v := nI 4294967295) B d_Symbols_clear_4 (by decide) ?_
  refine mv_callSv (pc := 5) (n := 2) B (mK_ok sk sv) hNs (c_Arrays_fill_0 l hi _ 10 1024 rfl (by decide) _) rfl (ma_goodc kc_Arrays_fill_0) (B.2.2.2.1 _ k_797) (B.2.2.2.1 _ k_798) (B.2.2.2.1 _ k_20) ⟨by decide +kernel, by decide +kernel, by decide +kernel⟩ rfl d_Symbols_clear_5 rfl (Nat.le_of_ble_eq_true rfl) ⟨by decide, by decide⟩ ⟨by decide, by decide⟩ ⟨by decide, by decide⟩ (mv_noH hno _) (fun σ5 h5 => ?_)
  subst h5
  refine mvn_hp (xff_10 _ _ _) (xwN_f xSe_10 hf) (fun h8 hf => ?_)
  refine mv_aload_n (pc := 8) B d_Symbols_clear_8 rfl 0 rfl ?_
  refine mv_iconst (pc := 9) (v := nI 0) B d_Symbols_clear_9 (by decide) ?_
  refine mv_putI (pc := 10) (ci := 3) (C := R_Symbols) (T := F_Symbols) (N := 6) B 5 rfl rfl (by decide) i_Symbols t_Symbols_ok n_Symbols (B.2.2.2.1 _ k_72) rfl rfl rfl rfl d_Symbols_clear_10 ?_
  refine mvn_hp (xwi_7_5 _ _ _) (xwi_f hf) (fun h9 hf => ?_)
  refine mv_aload_n (pc := 13) B d_Symbols_clear_13 rfl 0 rfl ?_
  refine mv_getR (pc := 14) (ci := 3) (C := R_Symbols) (T := F_Symbols) (N := 6) B 1 rfl rfl (by decide) i_Symbols (B.2.2.2.1 _ k_67) rfl (hb.1.1 7 1 _ rfl) d_Symbols_clear_14 ?_
  refine mv_iconst (pc := 17) (v := nI 0) B d_Symbols_clear_17 (by decide) ?_
  refine mv_iconst (pc := 18) (v := nI 0) B d_Symbols_clear_18 (by decide) ?_
  obtain ⟨q10, hf⟩ := xix_e hf
  refine mv_iast (pc := 19) B rfl (xin q10 (by decide)) d_Symbols_clear_19 ?_
  refine mvn_hp (xwa_9 _ _ _ q10) (xw_f xLe_9 xSe_9 hf) (fun h11 hf => ?_)
  refine mv_iconst (pc := 20) (v := nI 0) B d_Symbols_clear_20 (by decide) ?_
  refine mv_istore_n (pc := 21) B d_Symbols_clear_21 rfl (by decide) rfl ?_
  refine mv_iconst (pc := 22) (v := nI 0) B d_Symbols_clear_22 (by decide) ?_
  refine mv_istore_n (pc := 23) B d_Symbols_clear_23 rfl (by decide) rfl ?_
  refine mv_lpick [2, 1, 0] rfl ?_
  exact lp24 _ _ _ _ hf
def g_Tokens_cutName_73 (x1 : Nat) (x2 : Nat) (x3 : Nat) (y0 : Nat) (h : xE) : Option (Nat × xE) := xeb (g_Tokens_add h y0 x1 (xi2l x3) x2) fun v2 h1 => some (v2, h1)
def g_Tokens_cutName_42 (x1 : Nat) (x2 : Nat) (h : xE) : Option (Nat × xE) := xeb (g_Symbols_find_144 h x1 (xsub x2 x1)) fun v4 h3 => bif xlt v4 17 then (g_Tokens_cutName_73 x1 x2 v4 (xadd 200 v4) h3) else (g_Tokens_cutName_73 x1 x2 v4 3 h3)
def gF_Tokens_cutName_2 (k2 : Nat → Nat → xE → Option (Nat × xE)) (x1 : Nat) (x2 : Nat) (h : xE) : Option (Nat × xE) := xfz x1 fun x1 => xfz x2 fun x2 => xer (ep_g h.1 7) fun v5 => bif xlt x2 v5 then (bif Nat.blt x2 8192 then xer (ep_g (xL_144 h.2) x2) fun v7 => xeb (g_Tokens_isOfName h v7) fun v9 h8 => bif xeq v9 0 then (g_Tokens_cutName_42 x1 x2 h8) else (bif xeq x2 (xadd x1 32) then (xeb (g_Tokens_broken h8 x2) fun v11 h10 => some (v11, h10)) else (k2 x1 (xadd x2 1) h8)) else none) else (g_Tokens_cutName_42 x1 x2 h)
def g_Tokens_cutName_2 : Nat → Nat → Nat → xE → Option (Nat × xE)
  | 0 => fun _ _ _ => none
  | nn + 1 => gF_Tokens_cutName_2 (g_Tokens_cutName_2 nn)
def g_Tokens_cutName (h : xE) (a0 : Nat) : Option (Nat × xE) := g_Tokens_cutName_2 200000 a0 a0 h
set_option maxHeartbeats 4000000 in
set_option maxRecDepth 100000 in
theorem cx_Tokens_cutName (l : Launch) {dA : FieldType → ClassId} {D : va_G} {al : Nat → Nat} {sk sv : Nat → Nat} (hi : mv_inj (mg dA D al me)) (b : mv_H) (hb : xR (mv_r b)) (h : xE) (a0 : Nat) {rv : Nat} {rg : xE} (hf : g_Tokens_cutName h a0 = some (rv, rg)) : mv_C l y_Tokens_cutName (Cond.code y_Tokens_cutName b_Tokens_cutName 5 (Option.some Jvm.ClassFile.FieldType.int) :: ma) ({ frames := 3, cells := 0, slots := 0, locals := 91 }) (mg dA D al me) (mK sk sv) [.ref (al 3), .int (nI a0)] (ab b h) (mv_Ri (fun v σ1 => v = nI rv ∧ σ1 = ab b rg)) := by
  refine mv_C.ofV (cc := b_Tokens_cutName) (nL := 5) (ret := (Option.some Jvm.ClassFile.FieldType.int)) (by decide +kernel) rfl hi (Nat.le_of_ble_eq_true rfl) ?_
  intro p e s m below meth c B hNs hr hnm hno
  have jn73 : ∀ (x1 : Nat) (x2 : Nat) (x3 : Nat) (y0 : Nat) (h : xE), g_Tokens_cutName_73 x1 x2 x3 y0 h = some (rv, rg) → mv_V p l e ({ frames := 3, cells := 0, slots := 0, locals := 91 }) s m ([.ref (al 3), .int (nI a0)] : List Value).toArray below meth c (mg dA D al me) 5 0 0 (mv_Q (mg dA D al me) below s 0 0 (mv_Ri (fun v σ1 => v = nI rv ∧ σ1 = ab b rg))) (ab b h) 73 [(0, .ref (al 3)), (1, .int (nI x1)), (2, .int (nI x2)), (3, .int (nI x3))] [.int (nI y0)] := by
    intro x1 x2 x3 y0 h hf
    unfold g_Tokens_cutName_73 at hf
    refine mv_istore (pc := 73) B d_Tokens_cutName_73 (by decide) rfl ?_
    refine mv_aload_n (pc := 75) B d_Tokens_cutName_75 rfl 1 rfl ?_
    refine mv_iload (pc := 76) B d_Tokens_cutName_76 0 rfl ?_
    refine mv_iload_n (pc := 78) B d_Tokens_cutName_78 rfl 2 rfl ?_
    refine mv_iload_n (pc := 79) B d_Tokens_cutName_79 rfl 4 rfl ?_
    refine mvn_i2l (pc := 80) B d_Tokens_cutName_80 ?_
    refine mv_iload_n (pc := 81) B d_Tokens_cutName_81 rfl 3 rfl ?_
    obtain ⟨v2, h1, eh1, hf⟩ := xeb_e hf
    refine mv_callVi (pc := 82) (n := 4) (ci := 2) (C := R_Tokens) B (mK_ok sk sv) hNs rfl rfl (cx_Tokens_add l hi _ hb _ _ _ _ _ eh1) rfl (ma_goodc kc_Tokens_add) (B.2.2.2.1 _ k_831) (B.2.2.2.1 _ k_833) (B.2.2.2.1 _ ks_22) (B.2.2.2.1 _ k_3) ⟨by decide +kernel, by decide +kernel, by decide +kernel⟩ rfl d_Tokens_cutName_82 rfl (Nat.le_of_ble_eq_true rfl) ⟨by decide, by decide⟩ ⟨by decide, by decide⟩ ⟨by decide, by decide⟩ (mv_noH hno _) (fun w82 σ82 h82 => ?_)
    obtain ⟨rfl, rfl⟩ := h82
    exact mv_iret (pc := 85) B hr rfl d_Tokens_cutName_85 (Nat.le_refl _) (Nat.le_refl _) ⟨_, rfl, xret_i hf⟩
  have jn42 : ∀ (x1 : Nat) (x2 : Nat) (h : xE), g_Tokens_cutName_42 x1 x2 h = some (rv, rg) → mv_V p l e ({ frames := 3, cells := 0, slots := 0, locals := 91 }) s m ([.ref (al 3), .int (nI a0)] : List Value).toArray below meth c (mg dA D al me) 5 0 0 (mv_Q (mg dA D al me) below s 0 0 (mv_Ri (fun v σ1 => v = nI rv ∧ σ1 = ab b rg))) (ab b h) 42 [(0, .ref (al 3)), (1, .int (nI x1)), (2, .int (nI x2))] [] := by
    intro x1 x2 h hf
    unfold g_Tokens_cutName_42 at hf
    refine mv_aload_n (pc := 42) B d_Tokens_cutName_42 rfl 0 rfl ?_
    refine mv_getR (pc := 43) (ci := 2) (C := R_Tokens) (T := F_Tokens) (N := 10) B 3 rfl rfl (by decide) i_Tokens (B.2.2.2.1 _ k_97) rfl (hb.1.1 3 3 _ rfl) d_Tokens_cutName_43 ?_
    refine mv_aload_n (pc := 46) B d_Tokens_cutName_46 rfl 0 rfl ?_
    refine mv_getR (pc := 47) (ci := 2) (C := R_Tokens) (T := F_Tokens) (N := 10) B 4 rfl rfl (by decide) i_Tokens (B.2.2.2.1 _ k_98) rfl hb.2 d_Tokens_cutName_47 ?_
    refine mv_iload_n (pc := 50) B d_Tokens_cutName_50 rfl 1 rfl ?_
    refine mv_iload_n (pc := 51) B d_Tokens_cutName_51 rfl 2 rfl ?_
    refine mv_iload_n (pc := 52) B d_Tokens_cutName_52 rfl 1 rfl ?_
    refine mvn_isub (pc := 53) B d_Tokens_cutName_53 ?_
    obtain ⟨v4, h3, eh3, hf⟩ := xeb_e hf
    refine mv_callVi (pc := 54) (n := 3) (ci := 3) (C := R_Symbols) B (mK_ok sk sv) hNs rfl rfl (cx_Symbols_find_144 l hi _ hb _ _ _ eh3) rfl (ma_goodc kc_Symbols_find) (B.2.2.2.1 _ k_869) (B.2.2.2.1 _ k_804) (B.2.2.2.1 _ k_805) (B.2.2.2.1 _ k_4) ⟨by decide +kernel, by decide +kernel, by decide +kernel⟩ rfl d_Tokens_cutName_54 rfl (Nat.le_of_ble_eq_true rfl) ⟨by decide, by decide⟩ ⟨by decide, by decide⟩ ⟨by decide, by decide⟩ (mv_noH hno _) (fun w54 σ54 h54 => ?_)
    obtain ⟨rfl, rfl⟩ := h54
    refine mv_istore_n (pc := 57) B d_Tokens_cutName_57 rfl (by decide) rfl ?_
    refine mv_iload_n (pc := 58) B d_Tokens_cutName_58 rfl 0 rfl ?_
    refine mv_bipush (pc := 59) (v := nI 17) B d_Tokens_cutName_59 (by decide) ?_
    refine mv_icmp_ge (pc := 61) (tgt := 72) B d_Tokens_cutName_61 rfl (fun h61 => ?_) (fun h61 => ?_)
    · skip
      have hf := x_le_t h61 hf
      refine mv_iconst (pc := 72) (v := nI 3) B d_Tokens_cutName_72 (by decide) ?_
      refine mv_lpick [1, 2, 3, 0] rfl ?_
      exact jn73 _ _ _ _ _ hf
    · skip
      have hf := x_le_f h61 hf
      refine mv_sipush (pc := 64) (v := nI 200) B d_Tokens_cutName_64 (by decide) ?_
      refine mv_iload_n (pc := 67) B d_Tokens_cutName_67 rfl 0 rfl ?_
      refine mvn_iadd (pc := 68) B d_Tokens_cutName_68 ?_
      refine mv_goto (pc := 69) (tgt := 73) B d_Tokens_cutName_69 rfl ?_
      refine mv_lpick [1, 2, 3, 0] rfl ?_
      exact jn73 _ _ _ _ _ hf
  have lp2 : ∀ (nn2 : Nat) (x1 : Nat) (x2 : Nat) (h : xE), g_Tokens_cutName_2 nn2 x1 x2 h = some (rv, rg) → mv_V p l e ({ frames := 3, cells := 0, slots := 0, locals := 91 }) s m ([.ref (al 3), .int (nI a0)] : List Value).toArray below meth c (mg dA D al me) 5 0 0 (mv_Q (mg dA D al me) below s 0 0 (mv_Ri (fun v σ1 => v = nI rv ∧ σ1 = ab b rg))) (ab b h) 2 [(0, .ref (al 3)), (1, .int (nI x1)), (2, .int (nI x2))] [] := by
    intro nn2
    induction nn2 with
    | zero => intro x1 x2 h hf; cases hf
    | succ nn2 ih2 =>
      intro x1 x2 h hf
      have hf : gF_Tokens_cutName_2 (g_Tokens_cutName_2 nn2) x1 x2 h = some (rv, rg) := hf
      unfold gF_Tokens_cutName_2 at hf
      have hf := (xfz_e _ _).symm.trans hf
      have hf := (xfz_e _ _).symm.trans hf
      refine mv_iload_n (pc := 2) B d_Tokens_cutName_2 rfl 2 rfl ?_
      refine mv_aload_n (pc := 3) B d_Tokens_cutName_3 rfl 0 rfl ?_
      refine mv_getI (pc := 4) (ci := 2) (C := R_Tokens) (T := F_Tokens) (N := 10) B 5 rfl rfl (by decide) i_Tokens (B.2.2.2.1 _ k_100) rfl d_Tokens_cutName_4 ?_
      obtain ⟨v5, ev5, hf⟩ := xer_e hf
      refine mvn_top (xfi_3_5 ev5) ?_
      refine mv_icmp_ge (pc := 7) (tgt := 42) B d_Tokens_cutName_7 rfl (fun h7 => ?_) (fun h7 => ?_)
      · skip
        have hf := x_le_t h7 hf
        refine mv_lpick [0, 1, 2] rfl ?_
        exact jn42 _ _ _ hf
      · skip
        have hf := x_le_f h7 hf
        refine mv_aload_n (pc := 10) B d_Tokens_cutName_10 rfl 0 rfl ?_
        refine mv_getR (pc := 11) (ci := 2) (C := R_Tokens) (T := F_Tokens) (N := 10) B 4 rfl rfl (by decide) i_Tokens (B.2.2.2.1 _ k_98) rfl hb.2 d_Tokens_cutName_11 ?_
        refine mv_iload_n (pc := 14) B d_Tokens_cutName_14 rfl 2 rfl ?_
        obtain ⟨q6, hf⟩ := xix_e hf
        refine mv_bald (pc := 15) B rfl (xin q6 (by decide)) d_Tokens_cutName_15 ?_
        obtain ⟨v7, ev7, hf⟩ := xer_e hf
        refine mvn_top (xfa_144 q6 ev7) ?_
        obtain ⟨v9, h8, eh8, hf⟩ := xeb_e hf
        refine mv_callSi (pc := 16) (n := 1) B (mK_ok sk sv) hNs (cx_Tokens_isOfName l hi _ _ _ eh8) rfl (ma_goodc kc_Tokens_isOfName) (B.2.2.2.1 _ k_866) (B.2.2.2.1 _ k_867) (B.2.2.2.1 _ k_3) ⟨by decide +kernel, by decide +kernel, by decide +kernel⟩ rfl d_Tokens_cutName_16 rfl (Nat.le_of_ble_eq_true rfl) ⟨by decide, by decide⟩ ⟨by decide, by decide⟩ ⟨by decide, by decide⟩ (mv_noH hno _) (fun w16 σ16 h16 => ?_)
        obtain ⟨rfl, rfl⟩ := h16
        refine mv_if_eq (pc := 19) (tgt := 42) B d_Tokens_cutName_19 rfl (fun h19 => ?_) (fun h19 => ?_)
        · skip
          have hf := x_eq_t (y := 0) h19 hf
          refine mv_lpick [0, 1, 2] rfl ?_
          exact jn42 _ _ _ hf
        · skip
          have hf := x_eq_f (y := 0) h19 hf
          refine mv_iload_n (pc := 22) B d_Tokens_cutName_22 rfl 2 rfl ?_
          refine mv_iload_n (pc := 23) B d_Tokens_cutName_23 rfl 1 rfl ?_
          refine mv_bipush (pc := 24) (v := nI 32) B d_Tokens_cutName_24 (by decide) ?_
          refine mvn_iadd (pc := 26) B d_Tokens_cutName_26 ?_
          refine mv_icmp_ne (pc := 27) (tgt := 36) B d_Tokens_cutName_27 rfl (fun h27 => ?_) (fun h27 => ?_)
          · skip
            have hf := x_eq_f h27 hf
            refine mvn_iinc (pc := 36) (j := 2) (v := 1) B d_Tokens_cutName_36 rfl (by decide) (by decide) rfl ?_
            refine mv_goto (pc := 39) (tgt := 2) B d_Tokens_cutName_39 rfl ?_
            refine mv_lpick [1, 2, 0] rfl ?_
            exact ih2 _ _ _ hf
          · skip
            have hf := x_eq_t h27 hf
            refine mv_aload_n (pc := 30) B d_Tokens_cutName_30 rfl 0 rfl ?_
            refine mv_iload_n (pc := 31) B d_Tokens_cutName_31 rfl 2 rfl ?_
            obtain ⟨v11, h10, eh10, hf⟩ := xeb_e hf
            refine mv_callVi (pc := 32) (n := 1) (ci := 2) (C := R_Tokens) B (mK_ok sk sv) hNs rfl rfl (cx_Tokens_broken l hi _ hb _ _ eh10) rfl (ma_goodc kc_Tokens_broken) (B.2.2.2.1 _ k_845) (B.2.2.2.1 _ k_847) (B.2.2.2.1 _ ks_24) (B.2.2.2.1 _ k_3) ⟨by decide +kernel, by decide +kernel, by decide +kernel⟩ rfl d_Tokens_cutName_32 rfl (Nat.le_of_ble_eq_true rfl) ⟨by decide, by decide⟩ ⟨by decide, by decide⟩ ⟨by decide, by decide⟩ (mv_noH hno _) (fun w32 σ32 h32 => ?_)
            obtain ⟨rfl, rfl⟩ := h32
            exact mv_iret (pc := 35) B hr rfl d_Tokens_cutName_35 (Nat.le_refl _) (Nat.le_refl _) ⟨_, rfl, xret_i hf⟩
  unfold g_Tokens_cutName at hf
  refine mv_iload_n (pc := 0) B d_Tokens_cutName_0 rfl 1 rfl ?_
  refine mv_istore_n (pc := 1) B d_Tokens_cutName_1 rfl (by decide) rfl ?_
  refine mv_lpick [1, 2, 0] rfl ?_
  exact lp2 _ _ _ _ hf
def g_Tokens_cutOne_84 (x1 : Nat) (h : xE) : Option (Nat × xE) := xeb (g_Tokens_cutName h x1) fun v2 h1 => some (v2, h1)
def g_Tokens_cutOne_52 (x1 : Nat) (y0 : Nat) (h : xE) : Option (Nat × xE) := bif xeq y0 0 then (xeb (g_Tokens_cutDecimal h x1) fun v4 h3 => some (v4, h3)) else (xeb (g_Tokens_cutHex h x1) fun v6 h5 => some (v6, h5))
def g_Tokens_cutOne_51 (x1 : Nat) (h : xE) : Option (Nat × xE) := g_Tokens_cutOne_52 x1 0 h
def g_Tokens_cutOne (h : xE) (a0 : Nat) : Option (Nat × xE) := xeb (g_Tokens_characterAt h a0) fun v8 h7 => bif xlt v8 0 then (xer (ep_g h7.1 7) fun v19 => xeb (g_Tokens_add h7 1 v19 0 4294967295) fun v21 h20 => some (v21, h20)) else (xeb (g_Tokens_isDigit h7 v8) fun v10 h9 => bif xeq v10 0 then (xeb (g_Tokens_isLetter h9 v8) fun v12 h11 => bif xeq v12 0 then (bif xeq v8 95 then (g_Tokens_cutOne_84 a0 h11) else (bif xeq v8 34 then (xeb (g_Tokens_cutCode h11 a0) fun v16 h15 => some (v16, h15)) else (xeb (g_Tokens_cutSign h11 a0 v8) fun v14 h13 => some (v14, h13)))) else (g_Tokens_cutOne_84 a0 h11)) else (bif xeq v8 48 then (xeb (g_Tokens_characterAt h9 (xadd a0 1)) fun v18 h17 => bif xeq v18 120 then (g_Tokens_cutOne_52 a0 1 h17) else (g_Tokens_cutOne_51 a0 h17)) else (g_Tokens_cutOne_51 a0 h9)))
set_option maxHeartbeats 4000000 in
set_option maxRecDepth 100000 in
theorem cx_Tokens_cutOne (l : Launch) {dA : FieldType → ClassId} {D : va_G} {al : Nat → Nat} {sk sv : Nat → Nat} (hi : mv_inj (mg dA D al me)) (b : mv_H) (hb : xR (mv_r b)) (h : xE) (a0 : Nat) {rv : Nat} {rg : xE} (hf : g_Tokens_cutOne h a0 = some (rv, rg)) : mv_C l y_Tokens_cutOne (Cond.code y_Tokens_cutOne b_Tokens_cutOne 4 (Option.some Jvm.ClassFile.FieldType.int) :: ma) ({ frames := 5, cells := 0, slots := 0, locals := 129 }) (mg dA D al me) (mK sk sv) [.ref (al 3), .int (nI a0)] (ab b h) (mv_Ri (fun v σ1 => v = nI rv ∧ σ1 = ab b rg)) := by
  refine mv_C.ofV (cc := b_Tokens_cutOne) (nL := 4) (ret := (Option.some Jvm.ClassFile.FieldType.int)) (by decide +kernel) rfl hi (Nat.le_of_ble_eq_true rfl) ?_
  intro p e s m below meth c B hNs hr hnm hno
  have jn84 : ∀ (x1 : Nat) (h : xE), g_Tokens_cutOne_84 x1 h = some (rv, rg) → mv_V p l e ({ frames := 5, cells := 0, slots := 0, locals := 129 }) s m ([.ref (al 3), .int (nI a0)] : List Value).toArray below meth c (mg dA D al me) 4 0 0 (mv_Q (mg dA D al me) below s 0 0 (mv_Ri (fun v σ1 => v = nI rv ∧ σ1 = ab b rg))) (ab b h) 84 [(0, .ref (al 3)), (1, .int (nI x1))] [] := by
    intro x1 h hf
    unfold g_Tokens_cutOne_84 at hf
    refine mv_aload_n (pc := 84) B d_Tokens_cutOne_84 rfl 0 rfl ?_
    refine mv_iload_n (pc := 85) B d_Tokens_cutOne_85 rfl 1 rfl ?_
    obtain ⟨v2, h1, eh1, hf⟩ := xeb_e hf
    refine mv_callVi (pc := 86) (n := 1) (ci := 2) (C := R_Tokens) B (mK_ok sk sv) hNs rfl rfl (cx_Tokens_cutName l hi _ hb _ _ eh1) rfl (ma_goodc kc_Tokens_cutName) (B.2.2.2.1 _ k_862) (B.2.2.2.1 _ k_864) (B.2.2.2.1 _ ks_27) (B.2.2.2.1 _ k_3) ⟨by decide +kernel, by decide +kernel, by decide +kernel⟩ rfl d_Tokens_cutOne_86 rfl (Nat.le_of_ble_eq_true rfl) ⟨by decide, by decide⟩ ⟨by decide, by decide⟩ ⟨by decide, by decide⟩ (mv_noH hno _) (fun w86 σ86 h86 => ?_)
    obtain ⟨rfl, rfl⟩ := h86
    exact mv_iret (pc := 89) B hr rfl d_Tokens_cutOne_89 (Nat.le_refl _) (Nat.le_refl _) ⟨_, rfl, xret_i hf⟩
  have jn52 : ∀ (x1 : Nat) (y0 : Nat) (h : xE), g_Tokens_cutOne_52 x1 y0 h = some (rv, rg) → mv_V p l e ({ frames := 5, cells := 0, slots := 0, locals := 129 }) s m ([.ref (al 3), .int (nI a0)] : List Value).toArray below meth c (mg dA D al me) 4 0 0 (mv_Q (mg dA D al me) below s 0 0 (mv_Ri (fun v σ1 => v = nI rv ∧ σ1 = ab b rg))) (ab b h) 52 [(0, .ref (al 3)), (1, .int (nI x1))] [.int (nI y0)] := by
    intro x1 y0 h hf
    unfold g_Tokens_cutOne_52 at hf
    refine mv_istore_n (pc := 52) B d_Tokens_cutOne_52 rfl (by decide) rfl ?_
    refine mv_iload_n (pc := 53) B d_Tokens_cutOne_53 rfl 0 rfl ?_
    refine mv_if_eq (pc := 54) (tgt := 65) B d_Tokens_cutOne_54 rfl (fun h54 => ?_) (fun h54 => ?_)
    · skip
      have hf := x_eq_t (y := 0) h54 hf
      refine mv_aload_n (pc := 65) B d_Tokens_cutOne_65 rfl 1 rfl ?_
      refine mv_iload_n (pc := 66) B d_Tokens_cutOne_66 rfl 2 rfl ?_
      obtain ⟨v4, h3, eh3, hf⟩ := xeb_e hf
      refine mv_callVi (pc := 67) (n := 1) (ci := 2) (C := R_Tokens) B (mK_ok sk sv) hNs rfl rfl (cx_Tokens_cutDecimal l hi _ hb _ _ eh3) rfl (ma_goodc kc_Tokens_cutDecimal) (B.2.2.2.1 _ k_856) (B.2.2.2.1 _ k_858) (B.2.2.2.1 _ ks_26) (B.2.2.2.1 _ k_3) ⟨by decide +kernel, by decide +kernel, by decide +kernel⟩ rfl d_Tokens_cutOne_67 rfl (Nat.le_of_ble_eq_true rfl) ⟨by decide, by decide⟩ ⟨by decide, by decide⟩ ⟨by decide, by decide⟩ (mv_noH hno _) (fun w67 σ67 h67 => ?_)
      obtain ⟨rfl, rfl⟩ := h67
      exact mv_iret (pc := 70) B hr rfl d_Tokens_cutOne_70 (Nat.le_refl _) (Nat.le_refl _) ⟨_, rfl, xret_i hf⟩
    · skip
      have hf := x_eq_f (y := 0) h54 hf
      refine mv_aload_n (pc := 57) B d_Tokens_cutOne_57 rfl 1 rfl ?_
      refine mv_iload_n (pc := 58) B d_Tokens_cutOne_58 rfl 2 rfl ?_
      obtain ⟨v6, h5, eh5, hf⟩ := xeb_e hf
      refine mv_callVi (pc := 59) (n := 1) (ci := 2) (C := R_Tokens) B (mK_ok sk sv) hNs rfl rfl (cx_Tokens_cutHex l hi _ hb _ _ eh5) rfl (ma_goodc kc_Tokens_cutHex) (B.2.2.2.1 _ k_838) (B.2.2.2.1 _ k_840) (B.2.2.2.1 _ ks_23) (B.2.2.2.1 _ k_3) ⟨by decide +kernel, by decide +kernel, by decide +kernel⟩ rfl d_Tokens_cutOne_59 rfl (Nat.le_of_ble_eq_true rfl) ⟨by decide, by decide⟩ ⟨by decide, by decide⟩ ⟨by decide, by decide⟩ (mv_noH hno _) (fun w59 σ59 h59 => ?_)
      obtain ⟨rfl, rfl⟩ := h59
      refine mv_goto (pc := 62) (tgt := 70) B d_Tokens_cutOne_62 rfl ?_
      exact mv_iret (pc := 70) B hr rfl d_Tokens_cutOne_70 (Nat.le_refl _) (Nat.le_refl _) ⟨_, rfl, xret_i hf⟩
  have jn51 : ∀ (x1 : Nat) (h : xE), g_Tokens_cutOne_51 x1 h = some (rv, rg) → mv_V p l e ({ frames := 5, cells := 0, slots := 0, locals := 129 }) s m ([.ref (al 3), .int (nI a0)] : List Value).toArray below meth c (mg dA D al me) 4 0 0 (mv_Q (mg dA D al me) below s 0 0 (mv_Ri (fun v σ1 => v = nI rv ∧ σ1 = ab b rg))) (ab b h) 51 [(0, .ref (al 3)), (1, .int (nI x1))] [] := by
    intro x1 h hf
    unfold g_Tokens_cutOne_51 at hf
    refine mv_iconst (pc := 51) (v := nI 0) B d_Tokens_cutOne_51 (by decide) ?_
    refine mv_lpick [0, 1] rfl ?_
    exact jn52 _ _ _ hf
  unfold g_Tokens_cutOne at hf
  refine mv_aload_n (pc := 0) B d_Tokens_cutOne_0 rfl 0 rfl ?_
  refine mv_iload_n (pc := 1) B d_Tokens_cutOne_1 rfl 1 rfl ?_
  obtain ⟨v8, h7, eh7, hf⟩ := xeb_e hf
  refine mv_callVi (pc := 2) (n := 1) (ci := 2) (C := R_Tokens) B (mK_ok sk sv) hNs rfl rfl (cx_Tokens_characterAt l hi _ hb _ _ eh7) rfl (ma_goodc kc_Tokens_characterAt) (B.2.2.2.1 _ k_827) (B.2.2.2.1 _ k_829) (B.2.2.2.1 _ ks_21) (B.2.2.2.1 _ k_3) ⟨by decide +kernel, by decide +kernel, by decide +kernel⟩ rfl d_Tokens_cutOne_2 rfl (Nat.le_of_ble_eq_true rfl) ⟨by decide, by decide⟩ ⟨by decide, by decide⟩ ⟨by decide, by decide⟩ (mv_noH hno _) (fun w2 σ2 h2 => ?_)
  obtain ⟨rfl, rfl⟩ := h2
  refine mv_istore_n (pc := 5) B d_Tokens_cutOne_5 rfl (by decide) rfl ?_
  refine mv_iload_n (pc := 6) B d_Tokens_cutOne_6 rfl 0 rfl ?_
  refine mv_if_ge (pc := 7) (tgt := 22) B d_Tokens_cutOne_7 rfl (fun h7 => ?_) (fun h7 => ?_)
  · skip
    have hf := x_le_t (x := 0) h7 hf
    refine mv_iload_n (pc := 22) B d_Tokens_cutOne_22 rfl 0 rfl ?_
    obtain ⟨v10, h9, eh9, hf⟩ := xeb_e hf
    refine mv_callSi (pc := 23) (n := 1) B (mK_ok sk sv) hNs (cx_Tokens_isDigit l hi _ _ _ eh9) rfl (ma_goodc kc_Tokens_isDigit) (B.2.2.2.1 _ k_835) (B.2.2.2.1 _ k_836) (B.2.2.2.1 _ k_3) ⟨by decide +kernel, by decide +kernel, by decide +kernel⟩ rfl d_Tokens_cutOne_23 rfl (Nat.le_of_ble_eq_true rfl) ⟨by decide, by decide⟩ ⟨by decide, by decide⟩ ⟨by decide, by decide⟩ (mv_noH hno _) (fun w23 σ23 h23 => ?_)
    obtain ⟨rfl, rfl⟩ := h23
    refine mv_if_eq (pc := 26) (tgt := 71) B d_Tokens_cutOne_26 rfl (fun h26 => ?_) (fun h26 => ?_)
    · skip
      have hf := x_eq_t (y := 0) h26 hf
      refine mv_iload_n (pc := 71) B d_Tokens_cutOne_71 rfl 0 rfl ?_
      obtain ⟨v12, h11, eh11, hf⟩ := xeb_e hf
      refine mv_callSi (pc := 72) (n := 1) B (mK_ok sk sv) hNs (cx_Tokens_isLetter l hi _ _ _ eh11) rfl (ma_goodc kc_Tokens_isLetter) (B.2.2.2.1 _ k_853) (B.2.2.2.1 _ k_854) (B.2.2.2.1 _ k_3) ⟨by decide +kernel, by decide +kernel, by decide +kernel⟩ rfl d_Tokens_cutOne_72 rfl (Nat.le_of_ble_eq_true rfl) ⟨by decide, by decide⟩ ⟨by decide, by decide⟩ ⟨by decide, by decide⟩ (mv_noH hno _) (fun w72 σ72 h72 => ?_)
      obtain ⟨rfl, rfl⟩ := h72
      refine mv_if_ne (pc := 75) (tgt := 84) B d_Tokens_cutOne_75 rfl (fun h75 => ?_) (fun h75 => ?_)
      · skip
        have hf := x_eq_f (y := 0) h75 hf
        refine mv_lpick [1, 2] rfl ?_
        exact jn84 _ _ hf
      · skip
        have hf := x_eq_t (y := 0) h75 hf
        refine mv_iload_n (pc := 78) B d_Tokens_cutOne_78 rfl 0 rfl ?_
        refine mv_bipush (pc := 79) (v := nI 95) B d_Tokens_cutOne_79 (by decide) ?_
        refine mv_icmp_ne (pc := 81) (tgt := 90) B d_Tokens_cutOne_81 rfl (fun h81 => ?_) (fun h81 => ?_)
        · skip
          have hf := x_eq_f h81 hf
          refine mv_iload_n (pc := 90) B d_Tokens_cutOne_90 rfl 0 rfl ?_
          refine mv_bipush (pc := 91) (v := nI 34) B d_Tokens_cutOne_91 (by decide) ?_
          refine mv_icmp_ne (pc := 93) (tgt := 104) B d_Tokens_cutOne_93 rfl (fun h93 => ?_) (fun h93 => ?_)
          · skip
            have hf := x_eq_f h93 hf
            refine mv_aload_n (pc := 104) B d_Tokens_cutOne_104 rfl 1 rfl ?_
            refine mv_iload_n (pc := 105) B d_Tokens_cutOne_105 rfl 2 rfl ?_
            refine mv_iload_n (pc := 106) B d_Tokens_cutOne_106 rfl 0 rfl ?_
            obtain ⟨v14, h13, eh13, hf⟩ := xeb_e hf
            refine mv_callVi (pc := 107) (n := 2) (ci := 2) (C := R_Tokens) B (mK_ok sk sv) hNs rfl rfl (cx_Tokens_cutSign l hi _ hb _ _ _ eh13) rfl (ma_goodc kc_Tokens_cutSign) (B.2.2.2.1 _ k_877) (B.2.2.2.1 _ k_879) (B.2.2.2.1 _ ks_29) (B.2.2.2.1 _ k_3) ⟨by decide +kernel, by decide +kernel, by decide +kernel⟩ rfl d_Tokens_cutOne_107 rfl (Nat.le_of_ble_eq_true rfl) ⟨by decide, by decide⟩ ⟨by decide, by decide⟩ ⟨by decide, by decide⟩ (mv_noH hno _) (fun w107 σ107 h107 => ?_)
            obtain ⟨rfl, rfl⟩ := h107
            exact mv_iret (pc := 110) B hr rfl d_Tokens_cutOne_110 (Nat.le_refl _) (Nat.le_refl _) ⟨_, rfl, xret_i hf⟩
          · skip
            have hf := x_eq_t h93 hf
            refine mv_aload_n (pc := 96) B d_Tokens_cutOne_96 rfl 1 rfl ?_
            refine mv_iload_n (pc := 97) B d_Tokens_cutOne_97 rfl 2 rfl ?_
            obtain ⟨v16, h15, eh15, hf⟩ := xeb_e hf
            refine mv_callVi (pc := 98) (n := 1) (ci := 2) (C := R_Tokens) B (mK_ok sk sv) hNs rfl rfl (cx_Tokens_cutCode l hi _ hb _ _ eh15) rfl (ma_goodc kc_Tokens_cutCode) (B.2.2.2.1 _ k_870) (B.2.2.2.1 _ k_872) (B.2.2.2.1 _ ks_28) (B.2.2.2.1 _ k_3) ⟨by decide +kernel, by decide +kernel, by decide +kernel⟩ rfl d_Tokens_cutOne_98 rfl (Nat.le_of_ble_eq_true rfl) ⟨by decide, by decide⟩ ⟨by decide, by decide⟩ ⟨by decide, by decide⟩ (mv_noH hno _) (fun w98 σ98 h98 => ?_)
            obtain ⟨rfl, rfl⟩ := h98
            refine mv_goto (pc := 101) (tgt := 110) B d_Tokens_cutOne_101 rfl ?_
            exact mv_iret (pc := 110) B hr rfl d_Tokens_cutOne_110 (Nat.le_refl _) (Nat.le_refl _) ⟨_, rfl, xret_i hf⟩
        · skip
          have hf := x_eq_t h81 hf
          refine mv_lpick [1, 2] rfl ?_
          exact jn84 _ _ hf
    · skip
      have hf := x_eq_f (y := 0) h26 hf
      refine mv_iload_n (pc := 29) B d_Tokens_cutOne_29 rfl 0 rfl ?_
      refine mv_bipush (pc := 30) (v := nI 48) B d_Tokens_cutOne_30 (by decide) ?_
      refine mv_icmp_ne (pc := 32) (tgt := 51) B d_Tokens_cutOne_32 rfl (fun h32 => ?_) (fun h32 => ?_)
      · skip
        have hf := x_eq_f h32 hf
        refine mv_lpick [1, 2] rfl ?_
        exact jn51 _ _ hf
      · skip
        have hf := x_eq_t h32 hf
        refine mv_aload_n (pc := 35) B d_Tokens_cutOne_35 rfl 1 rfl ?_
        refine mv_iload_n (pc := 36) B d_Tokens_cutOne_36 rfl 2 rfl ?_
        refine mv_iconst (pc := 37) (v := nI 1) B d_Tokens_cutOne_37 (by decide) ?_
        refine mvn_iadd (pc := 38) B d_Tokens_cutOne_38 ?_
        obtain ⟨v18, h17, eh17, hf⟩ := xeb_e hf
        refine mv_callVi (pc := 39) (n := 1) (ci := 2) (C := R_Tokens) B (mK_ok sk sv) hNs rfl rfl (cx_Tokens_characterAt l hi _ hb _ _ eh17) rfl (ma_goodc kc_Tokens_characterAt) (B.2.2.2.1 _ k_827) (B.2.2.2.1 _ k_829) (B.2.2.2.1 _ ks_21) (B.2.2.2.1 _ k_3) ⟨by decide +kernel, by decide +kernel, by decide +kernel⟩ rfl d_Tokens_cutOne_39 rfl (Nat.le_of_ble_eq_true rfl) ⟨by decide, by decide⟩ ⟨by decide, by decide⟩ ⟨by decide, by decide⟩ (mv_noH hno _) (fun w39 σ39 h39 => ?_)
        obtain ⟨rfl, rfl⟩ := h39
        refine mv_bipush (pc := 42) (v := nI 120) B d_Tokens_cutOne_42 (by decide) ?_
        refine mv_icmp_ne (pc := 44) (tgt := 51) B d_Tokens_cutOne_44 rfl (fun h44 => ?_) (fun h44 => ?_)
        · skip
          have hf := x_eq_f h44 hf
          refine mv_lpick [1, 2] rfl ?_
          exact jn51 _ _ hf
        · skip
          have hf := x_eq_t h44 hf
          refine mv_iconst (pc := 47) (v := nI 1) B d_Tokens_cutOne_47 (by decide) ?_
          refine mv_goto (pc := 48) (tgt := 52) B d_Tokens_cutOne_48 rfl ?_
          refine mv_lpick [1, 2] rfl ?_
          exact jn52 _ _ _ hf
  · skip
    have hf := x_le_f (x := 0) h7 hf
    refine mv_aload_n (pc := 10) B d_Tokens_cutOne_10 rfl 1 rfl ?_
    refine mv_iconst (pc := 11) (v := nI 1) B d_Tokens_cutOne_11 (by decide) ?_
    refine mv_aload_n (pc := 12) B d_Tokens_cutOne_12 rfl 1 rfl ?_
    refine mv_getI (pc := 13) (ci := 2) (C := R_Tokens) (T := F_Tokens) (N := 10) B 5 rfl rfl (by decide) i_Tokens (B.2.2.2.1 _ k_100) rfl d_Tokens_cutOne_13 ?_
    obtain ⟨v19, ev19, hf⟩ := xer_e hf
    refine mvn_top (xfi_3_5 ev19) ?_
    refine mv_lconst (pc := 16) (v := nJ 0) B d_Tokens_cutOne_16 (by decide) ?_
    refine mv_iconst (pc := 17) (v := nI 4294967295) B d_Tokens_cutOne_17 (by decide) ?_
    obtain ⟨v21, h20, eh20, hf⟩ := xeb_e hf
    refine mv_callVi (pc := 18) (n := 4) (ci := 2) (C := R_Tokens) B (mK_ok sk sv) hNs rfl rfl (cx_Tokens_add l hi _ hb _ _ _ _ _ eh20) rfl (ma_goodc kc_Tokens_add) (B.2.2.2.1 _ k_831) (B.2.2.2.1 _ k_833) (B.2.2.2.1 _ ks_22) (B.2.2.2.1 _ k_3) ⟨by decide +kernel, by decide +kernel, by decide +kernel⟩ rfl d_Tokens_cutOne_18 rfl (Nat.le_of_ble_eq_true rfl) ⟨by decide, by decide⟩ ⟨by decide, by decide⟩ ⟨by decide, by decide⟩ (mv_noH hno _) (fun w18 σ18 h18 => ?_)
    obtain ⟨rfl, rfl⟩ := h18
    exact mv_iret (pc := 21) B hr rfl d_Tokens_cutOne_21 (Nat.le_refl _) (Nat.le_refl _) ⟨_, rfl, xret_i hf⟩
theorem xR_cut {b : mv_H} (h : Rw 145 (mv_r b)) : xR (mv_r (mv_sr b 3 4 (some 144))) := by
  obtain ⟨h1, h2, h3, h4⟩ := h
  exact ⟨⟨mh_sr h1 rfl, Ph_sr (by unfold PQ; omega) h2 (by omega), h3, h4⟩, rfl⟩
def gF_Tokens_cut_42 (k42 : Nat → Nat → xE → Option xE) (x3 : Nat) (x4 : Nat) (h : xE) : Option xE := xfz x3 fun x3 => xfz x4 fun x4 => bif xlt 32768 x4 then (some h) else (bif xlt x3 0 then (some h) else (xeb (g_Tokens_behindSpaces h x3) fun v2 h1 => xeb (g_Tokens_cutOne h1 v2) fun v4 h3 => k42 v4 (xadd x4 1) h3))
def g_Tokens_cut_42 : Nat → Nat → Nat → xE → Option xE
  | 0 => fun _ _ _ => none
  | nn + 1 => gF_Tokens_cut_42 (g_Tokens_cut_42 nn)
def g_Tokens_cut (h : xE) (a1 : Nat) : Option xE := xwi h 7 a1 fun h5 => xwi h5 8 1 fun h6 => xwi h6 9 1 fun h7 => xwi h7 10 0 fun h8 => xwi h8 11 4294967295 fun h9 => xev (g_Symbols_clear h9) fun h10 => g_Tokens_cut_42 200000 0 0 h10
set_option maxHeartbeats 4000000 in
set_option maxRecDepth 100000 in
theorem cx_Tokens_cut (l : Launch) {dA : FieldType → ClassId} {D : va_G} {al : Nat → Nat} {sk sv : Nat → Nat} (hi : mv_inj (mg dA D al me)) (b : mv_H) (hb : Rw 145 (mv_r b)) (h : xE) (a1 : Nat) {rg : xE} (hf : g_Tokens_cut h a1 = some rg) : mv_C l y_Tokens_cut (Cond.code y_Tokens_cut b_Tokens_cut 5 (Option.none : Option Jvm.ClassFile.FieldType) :: ma) ({ frames := 6, cells := 0, slots := 0, locals := 152 }) (mg dA D al me) (mK sk sv) [.ref (al 3), .ref (al 144), .int (nI a1)] (ab b h) (mv_Rv (fun σ1 => σ1 = ab (mv_sr b 3 4 (some 144)) rg)) := by
  refine mv_C.ofV (cc := b_Tokens_cut) (nL := 5) (ret := (Option.none : Option Jvm.ClassFile.FieldType)) (by decide +kernel) rfl hi (Nat.le_of_ble_eq_true rfl) ?_
  intro p e s m below meth c B hNs hr hnm hno
  have hb1 : xR (mv_r (mv_sr b 3 4 (some 144))) := xR_cut hb
  have lp42 : ∀ (nn42 : Nat) (x3 : Nat) (x4 : Nat) (h : xE), g_Tokens_cut_42 nn42 x3 x4 h = some rg → mv_V p l e ({ frames := 6, cells := 0, slots := 0, locals := 152 }) s m ([.ref (al 3), .ref (al 144), .int (nI a1)] : List Value).toArray below meth c (mg dA D al me) 5 0 0 (mv_Q (mg dA D al me) below s 0 0 (mv_Rv (fun σ1 => σ1 = ab (mv_sr b 3 4 (some 144)) rg))) (ab (mv_sr b 3 4 (some 144)) h) 42 [(0, .ref (al 3)), (3, .int (nI x3)), (4, .int (nI x4))] [] := by
    intro nn42
    induction nn42 with
    | zero => intro x3 x4 h hf; cases hf
    | succ nn42 ih42 =>
      intro x3 x4 h hf
      have hf : gF_Tokens_cut_42 (g_Tokens_cut_42 nn42) x3 x4 h = some rg := hf
      unfold gF_Tokens_cut_42 at hf
      have hf := (xfz_e _ _).symm.trans hf
      have hf := (xfz_e _ _).symm.trans hf
      refine mv_iload (pc := 42) B d_Tokens_cut_42 2 rfl ?_
      refine mv_ldc (pc := 44) (v := 32768) B (B.2.2.2.1 _ k_818) d_Tokens_cut_44 ?_
      refine mvn_top (n := 32768) (by decide) ?_
      refine mv_icmp_gt (pc := 46) (tgt := 69) B d_Tokens_cut_46 rfl (fun h46 => ?_) (fun h46 => ?_)
      · skip
        have hf := x_lt_t h46 hf
        exact mv_vret (pc := 69) B hr d_Tokens_cut_69 (Nat.le_refl _) (Nat.le_refl _) ⟨rfl, xret_v hf⟩
      · skip
        have hf := x_lt_f h46 hf
        refine mv_iload_n (pc := 49) B d_Tokens_cut_49 rfl 1 rfl ?_
        refine mv_if_lt (pc := 50) (tgt := 69) B d_Tokens_cut_50 rfl (fun h50 => ?_) (fun h50 => ?_)
        · skip
          have hf := x_lt_t (y := 0) h50 hf
          exact mv_vret (pc := 69) B hr d_Tokens_cut_69 (Nat.le_refl _) (Nat.le_refl _) ⟨rfl, xret_v hf⟩
        · skip
          have hf := x_lt_f (y := 0) h50 hf
          refine mv_aload_n (pc := 53) B d_Tokens_cut_53 rfl 0 rfl ?_
          refine mv_aload_n (pc := 54) B d_Tokens_cut_54 rfl 0 rfl ?_
          refine mv_iload_n (pc := 55) B d_Tokens_cut_55 rfl 1 rfl ?_
          obtain ⟨v2, h1, eh1, hf⟩ := xeb_e hf
          refine mv_callVi (pc := 56) (n := 1) (ci := 2) (C := R_Tokens) B (mK_ok sk sv) hNs rfl rfl (cx_Tokens_behindSpaces l hi _ hb1 _ _ eh1) rfl (ma_goodc kc_Tokens_behindSpaces) (B.2.2.2.1 _ k_819) (B.2.2.2.1 _ k_821) (B.2.2.2.1 _ ks_19) (B.2.2.2.1 _ k_3) ⟨by decide +kernel, by decide +kernel, by decide +kernel⟩ rfl d_Tokens_cut_56 rfl (Nat.le_of_ble_eq_true rfl) ⟨by decide, by decide⟩ ⟨by decide, by decide⟩ ⟨by decide, by decide⟩ (mv_noH hno _) (fun w56 σ56 h56 => ?_)
          obtain ⟨rfl, rfl⟩ := h56
          obtain ⟨v4, h3, eh3, hf⟩ := xeb_e hf
          refine mv_callVi (pc := 59) (n := 1) (ci := 2) (C := R_Tokens) B (mK_ok sk sv) hNs rfl rfl (cx_Tokens_cutOne l hi _ hb1 _ _ eh3) rfl (ma_goodc kc_Tokens_cutOne) (B.2.2.2.1 _ k_823) (B.2.2.2.1 _ k_825) (B.2.2.2.1 _ ks_20) (B.2.2.2.1 _ k_3) ⟨by decide +kernel, by decide +kernel, by decide +kernel⟩ rfl d_Tokens_cut_59 rfl (Nat.le_of_ble_eq_true rfl) ⟨by decide, by decide⟩ ⟨by decide, by decide⟩ ⟨by decide, by decide⟩ (mv_noH hno _) (fun w59 σ59 h59 => ?_)
          obtain ⟨rfl, rfl⟩ := h59
          refine mv_istore_n (pc := 62) B d_Tokens_cut_62 rfl (by decide) rfl ?_
          refine mvn_iinc (pc := 63) (j := 2) (v := 1) B d_Tokens_cut_63 rfl (by decide) (by decide) rfl ?_
          refine mv_goto (pc := 66) (tgt := 42) B d_Tokens_cut_66 rfl ?_
          refine mv_lpick [2, 1, 0] rfl ?_
          exact ih42 _ _ _ hf
  unfold g_Tokens_cut at hf
  refine mv_aload_n (pc := 0) B d_Tokens_cut_0 rfl 0 rfl ?_
  refine mv_aload_n (pc := 1) B d_Tokens_cut_1 rfl 1 rfl ?_
  refine mv_putR (pc := 2) (ci := 2) (C := R_Tokens) (T := F_Tokens) (N := 10) B 4 rfl rfl (by decide) i_Tokens t_Tokens_ok n_Tokens (B.2.2.2.1 _ k_98) rfl rfl d_Tokens_cut_2 ?_
  show mv_V _ _ _ _ _ _ _ _ _ _ _ _ _ _ _ (ab (mv_sr b 3 4 (some 144)) h) _ _ _
  refine mv_aload_n (pc := 5) B d_Tokens_cut_5 rfl 0 rfl ?_
  refine mv_iload_n (pc := 6) B d_Tokens_cut_6 rfl 2 rfl ?_
  refine mv_putI (pc := 7) (ci := 2) (C := R_Tokens) (T := F_Tokens) (N := 10) B 5 rfl rfl (by decide) i_Tokens t_Tokens_ok n_Tokens (B.2.2.2.1 _ k_100) rfl rfl rfl rfl d_Tokens_cut_7 ?_
  refine mvn_hp (xwi_3_5 _ _ _) (xwi_f hf) (fun h5 hf => ?_)
  refine mv_aload_n (pc := 10) B d_Tokens_cut_10 rfl 0 rfl ?_
  refine mv_iconst (pc := 11) (v := nI 1) B d_Tokens_cut_11 (by decide) ?_
  refine mv_putI (pc := 12) (ci := 2) (C := R_Tokens) (T := F_Tokens) (N := 10) B 6 rfl rfl (by decide) i_Tokens t_Tokens_ok n_Tokens (B.2.2.2.1 _ k_101) rfl rfl rfl rfl d_Tokens_cut_12 ?_
  refine mvn_hp (xwi_3_6 _ _ _) (xwi_f hf) (fun h6 hf => ?_)
  refine mv_aload_n (pc := 15) B d_Tokens_cut_15 rfl 0 rfl ?_
  refine mv_iconst (pc := 16) (v := nI 1) B d_Tokens_cut_16 (by decide) ?_
  refine mv_putI (pc := 17) (ci := 2) (C := R_Tokens) (T := F_Tokens) (N := 10) B 7 rfl rfl (by decide) i_Tokens t_Tokens_ok n_Tokens (B.2.2.2.1 _ k_102) rfl rfl rfl rfl d_Tokens_cut_17 ?_
  refine mvn_hp (xwi_3_7 _ _ _) (xwi_f hf) (fun h7 hf => ?_)
  refine mv_aload_n (pc := 20) B d_Tokens_cut_20 rfl 0 rfl ?_
  refine mv_iconst (pc := 21) (v := nI 0) B d_Tokens_cut_21 (by decide) ?_
  refine mv_putI (pc := 22) (ci := 2) (C := R_Tokens) (T := F_Tokens) (N := 10) B 8 rfl rfl (by decide) i_Tokens t_Tokens_ok n_Tokens (B.2.2.2.1 _ k_103) rfl rfl rfl rfl d_Tokens_cut_22 ?_
  refine mvn_hp (xwi_3_8 _ _ _) (xwi_f hf) (fun h8 hf => ?_)
  refine mv_aload_n (pc := 25) B d_Tokens_cut_25 rfl 0 rfl ?_
  refine mv_iconst (pc := 26) (v := nI 4294967295) B d_Tokens_cut_26 (by decide) ?_
  refine mv_putI (pc := 27) (ci := 2) (C := R_Tokens) (T := F_Tokens) (N := 10) B 9 rfl rfl (by decide) i_Tokens t_Tokens_ok n_Tokens (B.2.2.2.1 _ k_105) rfl rfl rfl rfl d_Tokens_cut_27 ?_
  refine mvn_hp (xwi_3_9 _ _ _) (xwi_f hf) (fun h9 hf => ?_)
  refine mv_aload_n (pc := 30) B d_Tokens_cut_30 rfl 0 rfl ?_
  refine mv_getR (pc := 31) (ci := 2) (C := R_Tokens) (T := F_Tokens) (N := 10) B 3 rfl rfl (by decide) i_Tokens (B.2.2.2.1 _ k_97) rfl (hb1.1.1 3 3 _ rfl) d_Tokens_cut_31 ?_
  obtain ⟨h10, eh10, hf⟩ := xev_e hf
  refine mv_callVv (pc := 34) (n := 0) (ci := 3) (C := R_Symbols) B (mK_ok sk sv) hNs rfl rfl (cx_Symbols_clear l hi _ hb1 _ eh10) rfl (ma_goodc kc_Symbols_clear) (B.2.2.2.1 _ k_793) (B.2.2.2.1 _ k_794) (B.2.2.2.1 _ k_795) (B.2.2.2.1 _ k_4) ⟨by decide +kernel, by decide +kernel, by decide +kernel⟩ rfl d_Tokens_cut_34 rfl (Nat.le_of_ble_eq_true rfl) ⟨by decide, by decide⟩ ⟨by decide, by decide⟩ ⟨by decide, by decide⟩ (mv_noH hno _) (fun σ34 h34 => ?_)
  subst h34
  refine mv_iconst (pc := 37) (v := nI 0) B d_Tokens_cut_37 (by decide) ?_
  refine mv_istore_n (pc := 38) B d_Tokens_cut_38 rfl (by decide) rfl ?_
  refine mv_iconst (pc := 39) (v := nI 0) B d_Tokens_cut_39 (by decide) ?_
  refine mv_istore (pc := 40) B d_Tokens_cut_40 (by decide) rfl ?_
  refine mv_lpick [2, 1, 0] rfl ?_
  exact lp42 _ _ _ _ hf
