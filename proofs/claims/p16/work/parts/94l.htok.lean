/-! exact runs over abstract heaps: Tokens, Symbols, Names, Program, Exprs, Weaver -/
def f_Tokens_isDigit_16 (hz : mv_H) : Option (Int32 × mv_H) := bif xzb (0 : Int32) then some ((0 : Int32), hz) else none
def f_Tokens_isDigit (h : mv_H) (a0 : Int32) : Option (Int32 × mv_H) := if a0 < (48 : Int32) then (f_Tokens_isDigit_16  h) else (if (57 : Int32) < a0 then (f_Tokens_isDigit_16  h) else (bif xzb (1 : Int32) then some ((1 : Int32), h) else none))
set_option maxHeartbeats 4000000 in
set_option maxRecDepth 100000 in
theorem ch_Tokens_isDigit (l : Launch) {dA : FieldType → ClassId} {D : va_G} {al : Nat → Nat} {ext : mv_Sh} {sk sv : Nat → Nat} (hi : mv_inj (mg dA D al ext)) (h : mv_H)  (a0 : Int32) {rv : Int32} {rg : mv_H} (hf : f_Tokens_isDigit h a0 = some (rv, rg)) : mv_C l y_Tokens_isDigit (Cond.code y_Tokens_isDigit b_Tokens_isDigit 1 (Option.some Jvm.ClassFile.FieldType.boolean) :: ma) ({ frames := 0, cells := 0, slots := 0, locals := 0 }) (mg dA D al ext) (mK sk sv) [.int a0] h (mv_Ri (fun v σ1 => rv = v ∧ rg = σ1 ∧ mv_r σ1 = mv_r h)) := by
  refine mv_C.ofV (cc := b_Tokens_isDigit) (nL := 1) (ret := (Option.some Jvm.ClassFile.FieldType.boolean)) (by decide +kernel) rfl hi (Nat.le_of_ble_eq_true rfl) ?_
  intro p e s m below meth c B hNs hr hnm hno
  have jn16 : ∀ (hz : mv_H), mv_r hz = mv_r h → f_Tokens_isDigit_16  hz = some (rv, rg) → mv_V p l e ({ frames := 0, cells := 0, slots := 0, locals := 0 }) s m ([.int a0] : List Value).toArray below meth c (mg dA D al ext) 1 0 0 (mv_Q (mg dA D al ext) below s 0 0 (mv_Ri (fun v σ1 => rv = v ∧ rg = σ1 ∧ mv_r σ1 = mv_r h))) hz 16 [] [] := by
    intro  hz r_hz hf
    unfold f_Tokens_isDigit_16 at hf
    refine mv_iconst (pc := 16) (v := 0) B d_Tokens_isDigit_16 (by decide) ?_
    obtain ⟨q1, hf⟩ := xzb_e hf
    exact mv_iret (pc := 17) B hr (xzb_n q1) d_Tokens_isDigit_17 (Nat.le_refl _) (Nat.le_refl _) ⟨_, rfl, xrh_i hf r_hz⟩
  unfold f_Tokens_isDigit at hf
  refine mv_iload_n (pc := 0) B d_Tokens_isDigit_0 rfl 0 rfl ?_
  refine mv_bipush (pc := 1) (v := 48) B d_Tokens_isDigit_1 (by decide) ?_
  refine mv_icmp_lt (pc := 3) (tgt := 16) B d_Tokens_isDigit_3 rfl (fun h3 => ?_) (fun h3 => ?_)
  · skip
    have hf := xif_t h3 hf
    refine mv_lpick [] rfl ?_
    exact jn16  _ rfl hf
  · skip
    have hf := xif_f h3 hf
    refine mv_iload_n (pc := 6) B d_Tokens_isDigit_6 rfl 0 rfl ?_
    refine mv_bipush (pc := 7) (v := 57) B d_Tokens_isDigit_7 (by decide) ?_
    refine mv_icmp_gt (pc := 9) (tgt := 16) B d_Tokens_isDigit_9 rfl (fun h9 => ?_) (fun h9 => ?_)
    · skip
      have hf := xif_t h9 hf
      refine mv_lpick [] rfl ?_
      exact jn16  _ rfl hf
    · skip
      have hf := xif_f h9 hf
      refine mv_iconst (pc := 12) (v := 1) B d_Tokens_isDigit_12 (by decide) ?_
      refine mv_goto (pc := 13) (tgt := 17) B d_Tokens_isDigit_13 rfl ?_
      obtain ⟨q2, hf⟩ := xzb_e hf
      exact mv_iret (pc := 17) B hr (xzb_n q2) d_Tokens_isDigit_17 (Nat.le_refl _) (Nat.le_refl _) ⟨_, rfl, xrh_i hf rfl⟩
def f_Tokens_isLetter_28 (hz : mv_H) : Option (Int32 × mv_H) := bif xzb (0 : Int32) then some ((0 : Int32), hz) else none
def f_Tokens_isLetter_24 (hz : mv_H) : Option (Int32 × mv_H) := bif xzb (1 : Int32) then some ((1 : Int32), hz) else none
def f_Tokens_isLetter_12 (x0 : Int32) (hz : mv_H) : Option (Int32 × mv_H) := if x0 < (65 : Int32) then (f_Tokens_isLetter_28  hz) else (if (90 : Int32) < x0 then (f_Tokens_isLetter_28  hz) else (f_Tokens_isLetter_24  hz))
def f_Tokens_isLetter (h : mv_H) (a0 : Int32) : Option (Int32 × mv_H) := if a0 < (97 : Int32) then (f_Tokens_isLetter_12 a0 h) else (if a0 ≤ (122 : Int32) then (f_Tokens_isLetter_24  h) else (f_Tokens_isLetter_12 a0 h))
set_option maxHeartbeats 4000000 in
set_option maxRecDepth 100000 in
theorem ch_Tokens_isLetter (l : Launch) {dA : FieldType → ClassId} {D : va_G} {al : Nat → Nat} {ext : mv_Sh} {sk sv : Nat → Nat} (hi : mv_inj (mg dA D al ext)) (h : mv_H)  (a0 : Int32) {rv : Int32} {rg : mv_H} (hf : f_Tokens_isLetter h a0 = some (rv, rg)) : mv_C l y_Tokens_isLetter (Cond.code y_Tokens_isLetter b_Tokens_isLetter 1 (Option.some Jvm.ClassFile.FieldType.boolean) :: ma) ({ frames := 0, cells := 0, slots := 0, locals := 0 }) (mg dA D al ext) (mK sk sv) [.int a0] h (mv_Ri (fun v σ1 => rv = v ∧ rg = σ1 ∧ mv_r σ1 = mv_r h)) := by
  refine mv_C.ofV (cc := b_Tokens_isLetter) (nL := 1) (ret := (Option.some Jvm.ClassFile.FieldType.boolean)) (by decide +kernel) rfl hi (Nat.le_of_ble_eq_true rfl) ?_
  intro p e s m below meth c B hNs hr hnm hno
  have jn28 : ∀ (hz : mv_H), mv_r hz = mv_r h → f_Tokens_isLetter_28  hz = some (rv, rg) → mv_V p l e ({ frames := 0, cells := 0, slots := 0, locals := 0 }) s m ([.int a0] : List Value).toArray below meth c (mg dA D al ext) 1 0 0 (mv_Q (mg dA D al ext) below s 0 0 (mv_Ri (fun v σ1 => rv = v ∧ rg = σ1 ∧ mv_r σ1 = mv_r h))) hz 28 [] [] := by
    intro  hz r_hz hf
    unfold f_Tokens_isLetter_28 at hf
    refine mv_iconst (pc := 28) (v := 0) B d_Tokens_isLetter_28 (by decide) ?_
    obtain ⟨q1, hf⟩ := xzb_e hf
    exact mv_iret (pc := 29) B hr (xzb_n q1) d_Tokens_isLetter_29 (Nat.le_refl _) (Nat.le_refl _) ⟨_, rfl, xrh_i hf r_hz⟩
  have jn24 : ∀ (hz : mv_H), mv_r hz = mv_r h → f_Tokens_isLetter_24  hz = some (rv, rg) → mv_V p l e ({ frames := 0, cells := 0, slots := 0, locals := 0 }) s m ([.int a0] : List Value).toArray below meth c (mg dA D al ext) 1 0 0 (mv_Q (mg dA D al ext) below s 0 0 (mv_Ri (fun v σ1 => rv = v ∧ rg = σ1 ∧ mv_r σ1 = mv_r h))) hz 24 [] [] := by
    intro  hz r_hz hf
    unfold f_Tokens_isLetter_24 at hf
    refine mv_iconst (pc := 24) (v := 1) B d_Tokens_isLetter_24 (by decide) ?_
    refine mv_goto (pc := 25) (tgt := 29) B d_Tokens_isLetter_25 rfl ?_
    obtain ⟨q2, hf⟩ := xzb_e hf
    exact mv_iret (pc := 29) B hr (xzb_n q2) d_Tokens_isLetter_29 (Nat.le_refl _) (Nat.le_refl _) ⟨_, rfl, xrh_i hf r_hz⟩
  have jn12 : ∀ (x0 : Int32) (hz : mv_H), mv_r hz = mv_r h → f_Tokens_isLetter_12 x0 hz = some (rv, rg) → mv_V p l e ({ frames := 0, cells := 0, slots := 0, locals := 0 }) s m ([.int a0] : List Value).toArray below meth c (mg dA D al ext) 1 0 0 (mv_Q (mg dA D al ext) below s 0 0 (mv_Ri (fun v σ1 => rv = v ∧ rg = σ1 ∧ mv_r σ1 = mv_r h))) hz 12 [(0, .int x0)] [] := by
    intro x0 hz r_hz hf
    unfold f_Tokens_isLetter_12 at hf
    refine mv_iload_n (pc := 12) B d_Tokens_isLetter_12 rfl 0 rfl ?_
    refine mv_bipush (pc := 13) (v := 65) B d_Tokens_isLetter_13 (by decide) ?_
    refine mv_icmp_lt (pc := 15) (tgt := 28) B d_Tokens_isLetter_15 rfl (fun h15 => ?_) (fun h15 => ?_)
    · skip
      have hf := xif_t h15 hf
      refine mv_lpick [] rfl ?_
      exact jn28  _ r_hz hf
    · skip
      have hf := xif_f h15 hf
      refine mv_iload_n (pc := 18) B d_Tokens_isLetter_18 rfl 0 rfl ?_
      refine mv_bipush (pc := 19) (v := 90) B d_Tokens_isLetter_19 (by decide) ?_
      refine mv_icmp_gt (pc := 21) (tgt := 28) B d_Tokens_isLetter_21 rfl (fun h21 => ?_) (fun h21 => ?_)
      · skip
        have hf := xif_t h21 hf
        refine mv_lpick [] rfl ?_
        exact jn28  _ r_hz hf
      · skip
        have hf := xif_f h21 hf
        refine mv_lpick [] rfl ?_
        exact jn24  _ r_hz hf
  unfold f_Tokens_isLetter at hf
  refine mv_iload_n (pc := 0) B d_Tokens_isLetter_0 rfl 0 rfl ?_
  refine mv_bipush (pc := 1) (v := 97) B d_Tokens_isLetter_1 (by decide) ?_
  refine mv_icmp_lt (pc := 3) (tgt := 12) B d_Tokens_isLetter_3 rfl (fun h3 => ?_) (fun h3 => ?_)
  · skip
    have hf := xif_t h3 hf
    refine mv_lpick [0] rfl ?_
    exact jn12 _ _ rfl hf
  · skip
    have hf := xif_f h3 hf
    refine mv_iload_n (pc := 6) B d_Tokens_isLetter_6 rfl 0 rfl ?_
    refine mv_bipush (pc := 7) (v := 122) B d_Tokens_isLetter_7 (by decide) ?_
    refine mv_icmp_le (pc := 9) (tgt := 24) B d_Tokens_isLetter_9 rfl (fun h9 => ?_) (fun h9 => ?_)
    · skip
      have hf := xif_t h9 hf
      refine mv_lpick [] rfl ?_
      exact jn24  _ rfl hf
    · skip
      have hf := xif_f h9 hf
      refine mv_lpick [0] rfl ?_
      exact jn12 _ _ rfl hf
def f_Tokens_isOfName_20 (hz : mv_H) : Option (Int32 × mv_H) := bif xzb (1 : Int32) then some ((1 : Int32), hz) else none
def f_Tokens_isOfName (h : mv_H) (a0 : Int32) : Option (Int32 × mv_H) := xhb (f_Tokens_isLetter h a0) fun v3 g2 => if v3 = (0 : Int32) then (xhb (f_Tokens_isDigit g2 a0) fun v5 g4 => if v5 = (0 : Int32) then (if a0 = (95 : Int32) then (f_Tokens_isOfName_20  g4) else (bif xzb (0 : Int32) then some ((0 : Int32), g4) else none)) else (f_Tokens_isOfName_20  g4)) else (f_Tokens_isOfName_20  g2)
set_option maxHeartbeats 4000000 in
set_option maxRecDepth 100000 in
theorem ch_Tokens_isOfName (l : Launch) {dA : FieldType → ClassId} {D : va_G} {al : Nat → Nat} {ext : mv_Sh} {sk sv : Nat → Nat} (hi : mv_inj (mg dA D al ext)) (h : mv_H)  (a0 : Int32) {rv : Int32} {rg : mv_H} (hf : f_Tokens_isOfName h a0 = some (rv, rg)) : mv_C l y_Tokens_isOfName (Cond.code y_Tokens_isOfName b_Tokens_isOfName 1 (Option.some Jvm.ClassFile.FieldType.boolean) :: ma) ({ frames := 1, cells := 0, slots := 0, locals := 20 }) (mg dA D al ext) (mK sk sv) [.int a0] h (mv_Ri (fun v σ1 => rv = v ∧ rg = σ1 ∧ mv_r σ1 = mv_r h)) := by
  refine mv_C.ofV (cc := b_Tokens_isOfName) (nL := 1) (ret := (Option.some Jvm.ClassFile.FieldType.boolean)) (by decide +kernel) rfl hi (Nat.le_of_ble_eq_true rfl) ?_
  intro p e s m below meth c B hNs hr hnm hno
  have jn20 : ∀ (hz : mv_H), mv_r hz = mv_r h → f_Tokens_isOfName_20  hz = some (rv, rg) → mv_V p l e ({ frames := 1, cells := 0, slots := 0, locals := 20 }) s m ([.int a0] : List Value).toArray below meth c (mg dA D al ext) 1 0 0 (mv_Q (mg dA D al ext) below s 0 0 (mv_Ri (fun v σ1 => rv = v ∧ rg = σ1 ∧ mv_r σ1 = mv_r h))) hz 20 [] [] := by
    intro  hz r_hz hf
    unfold f_Tokens_isOfName_20 at hf
    refine mv_iconst (pc := 20) (v := 1) B d_Tokens_isOfName_20 (by decide) ?_
    refine mv_goto (pc := 21) (tgt := 25) B d_Tokens_isOfName_21 rfl ?_
    obtain ⟨q1, hf⟩ := xzb_e hf
    exact mv_iret (pc := 25) B hr (xzb_n q1) d_Tokens_isOfName_25 (Nat.le_refl _) (Nat.le_refl _) ⟨_, rfl, xrh_i hf r_hz⟩
  unfold f_Tokens_isOfName at hf
  refine mv_iload_n (pc := 0) B d_Tokens_isOfName_0 rfl 0 rfl ?_
  obtain ⟨v3, g2, eg2, hf⟩ := xhb_e hf
  refine mv_callSi (pc := 1) (n := 1) B (mK_ok sk sv) hNs (ch_Tokens_isLetter l hi _ _ eg2) rfl (ma_goodc kc_Tokens_isLetter) (B.2.2.2.1 _ k_853) (B.2.2.2.1 _ k_854) (B.2.2.2.1 _ k_3) ⟨by decide +kernel, by decide +kernel, by decide +kernel⟩ rfl d_Tokens_isOfName_1 rfl (Nat.le_of_ble_eq_true rfl) ⟨by decide, by decide⟩ ⟨by decide, by decide⟩ ⟨by decide, by decide⟩ (mv_noH hno _) (fun w1 σ1 h1 => ?_)
  obtain ⟨rfl, rfl, s_g2⟩ := h1
  have r_g2 : mv_r g2 = mv_r h := s_g2.trans rfl
  refine mv_if_ne (pc := 4) (tgt := 20) B d_Tokens_isOfName_4 rfl (fun h4 => ?_) (fun h4 => ?_)
  · skip
    have hf := xif_f h4 hf
    refine mv_lpick [] rfl ?_
    exact jn20  _ r_g2 hf
  · skip
    have hf := xif_t h4 hf
    refine mv_iload_n (pc := 7) B d_Tokens_isOfName_7 rfl 0 rfl ?_
    obtain ⟨v5, g4, eg4, hf⟩ := xhb_e hf
    refine mv_callSi (pc := 8) (n := 1) B (mK_ok sk sv) hNs (ch_Tokens_isDigit l hi _ _ eg4) rfl (ma_goodc kc_Tokens_isDigit) (B.2.2.2.1 _ k_835) (B.2.2.2.1 _ k_836) (B.2.2.2.1 _ k_3) ⟨by decide +kernel, by decide +kernel, by decide +kernel⟩ rfl d_Tokens_isOfName_8 rfl (Nat.le_of_ble_eq_true rfl) ⟨by decide, by decide⟩ ⟨by decide, by decide⟩ ⟨by decide, by decide⟩ (mv_noH hno _) (fun w8 σ8 h8 => ?_)
    obtain ⟨rfl, rfl, s_g4⟩ := h8
    have r_g4 : mv_r g4 = mv_r h := s_g4.trans r_g2
    refine mv_if_ne (pc := 11) (tgt := 20) B d_Tokens_isOfName_11 rfl (fun h11 => ?_) (fun h11 => ?_)
    · skip
      have hf := xif_f h11 hf
      refine mv_lpick [] rfl ?_
      exact jn20  _ r_g4 hf
    · skip
      have hf := xif_t h11 hf
      refine mv_iload_n (pc := 14) B d_Tokens_isOfName_14 rfl 0 rfl ?_
      refine mv_bipush (pc := 15) (v := 95) B d_Tokens_isOfName_15 (by decide) ?_
      refine mv_icmp_ne (pc := 17) (tgt := 24) B d_Tokens_isOfName_17 rfl (fun h17 => ?_) (fun h17 => ?_)
      · skip
        have hf := xif_f h17 hf
        refine mv_iconst (pc := 24) (v := 0) B d_Tokens_isOfName_24 (by decide) ?_
        obtain ⟨q6, hf⟩ := xzb_e hf
        exact mv_iret (pc := 25) B hr (xzb_n q6) d_Tokens_isOfName_25 (Nat.le_refl _) (Nat.le_refl _) ⟨_, rfl, xrh_i hf r_g4⟩
      · skip
        have hf := xif_t h17 hf
        refine mv_lpick [] rfl ?_
        exact jn20  _ r_g4 hf
def f_Tokens_isOfCode_25 (hz : mv_H) : Option (Int32 × mv_H) := bif xzb (1 : Int32) then some ((1 : Int32), hz) else none
def f_Tokens_isOfCode (h : mv_H) (a0 : Int32) : Option (Int32 × mv_H) := xhb (f_Tokens_isLetter h a0) fun v3 g2 => if v3 = (0 : Int32) then (if a0 = (48 : Int32) then (f_Tokens_isOfCode_25  g2) else (if a0 = (49 : Int32) then (f_Tokens_isOfCode_25  g2) else (if a0 = (46 : Int32) then (f_Tokens_isOfCode_25  g2) else (bif xzb (0 : Int32) then some ((0 : Int32), g2) else none)))) else (f_Tokens_isOfCode_25  g2)
set_option maxHeartbeats 4000000 in
set_option maxRecDepth 100000 in
theorem ch_Tokens_isOfCode (l : Launch) {dA : FieldType → ClassId} {D : va_G} {al : Nat → Nat} {ext : mv_Sh} {sk sv : Nat → Nat} (hi : mv_inj (mg dA D al ext)) (h : mv_H)  (a0 : Int32) {rv : Int32} {rg : mv_H} (hf : f_Tokens_isOfCode h a0 = some (rv, rg)) : mv_C l y_Tokens_isOfCode (Cond.code y_Tokens_isOfCode b_Tokens_isOfCode 1 (Option.some Jvm.ClassFile.FieldType.boolean) :: ma) ({ frames := 1, cells := 0, slots := 0, locals := 20 }) (mg dA D al ext) (mK sk sv) [.int a0] h (mv_Ri (fun v σ1 => rv = v ∧ rg = σ1 ∧ mv_r σ1 = mv_r h)) := by
  refine mv_C.ofV (cc := b_Tokens_isOfCode) (nL := 1) (ret := (Option.some Jvm.ClassFile.FieldType.boolean)) (by decide +kernel) rfl hi (Nat.le_of_ble_eq_true rfl) ?_
  intro p e s m below meth c B hNs hr hnm hno
  have jn25 : ∀ (hz : mv_H), mv_r hz = mv_r h → f_Tokens_isOfCode_25  hz = some (rv, rg) → mv_V p l e ({ frames := 1, cells := 0, slots := 0, locals := 20 }) s m ([.int a0] : List Value).toArray below meth c (mg dA D al ext) 1 0 0 (mv_Q (mg dA D al ext) below s 0 0 (mv_Ri (fun v σ1 => rv = v ∧ rg = σ1 ∧ mv_r σ1 = mv_r h))) hz 25 [] [] := by
    intro  hz r_hz hf
    unfold f_Tokens_isOfCode_25 at hf
    refine mv_iconst (pc := 25) (v := 1) B d_Tokens_isOfCode_25 (by decide) ?_
    refine mv_goto (pc := 26) (tgt := 30) B d_Tokens_isOfCode_26 rfl ?_
    obtain ⟨q1, hf⟩ := xzb_e hf
    exact mv_iret (pc := 30) B hr (xzb_n q1) d_Tokens_isOfCode_30 (Nat.le_refl _) (Nat.le_refl _) ⟨_, rfl, xrh_i hf r_hz⟩
  unfold f_Tokens_isOfCode at hf
  refine mv_iload_n (pc := 0) B d_Tokens_isOfCode_0 rfl 0 rfl ?_
  obtain ⟨v3, g2, eg2, hf⟩ := xhb_e hf
  refine mv_callSi (pc := 1) (n := 1) B (mK_ok sk sv) hNs (ch_Tokens_isLetter l hi _ _ eg2) rfl (ma_goodc kc_Tokens_isLetter) (B.2.2.2.1 _ k_853) (B.2.2.2.1 _ k_854) (B.2.2.2.1 _ k_3) ⟨by decide +kernel, by decide +kernel, by decide +kernel⟩ rfl d_Tokens_isOfCode_1 rfl (Nat.le_of_ble_eq_true rfl) ⟨by decide, by decide⟩ ⟨by decide, by decide⟩ ⟨by decide, by decide⟩ (mv_noH hno _) (fun w1 σ1 h1 => ?_)
  obtain ⟨rfl, rfl, s_g2⟩ := h1
  have r_g2 : mv_r g2 = mv_r h := s_g2.trans rfl
  refine mv_if_ne (pc := 4) (tgt := 25) B d_Tokens_isOfCode_4 rfl (fun h4 => ?_) (fun h4 => ?_)
  · skip
    have hf := xif_f h4 hf
    refine mv_lpick [] rfl ?_
    exact jn25  _ r_g2 hf
  · skip
    have hf := xif_t h4 hf
    refine mv_iload_n (pc := 7) B d_Tokens_isOfCode_7 rfl 0 rfl ?_
    refine mv_bipush (pc := 8) (v := 48) B d_Tokens_isOfCode_8 (by decide) ?_
    refine mv_icmp_eq (pc := 10) (tgt := 25) B d_Tokens_isOfCode_10 rfl (fun h10 => ?_) (fun h10 => ?_)
    · skip
      have hf := xif_t h10 hf
      refine mv_lpick [] rfl ?_
      exact jn25  _ r_g2 hf
    · skip
      have hf := xif_f h10 hf
      refine mv_iload_n (pc := 13) B d_Tokens_isOfCode_13 rfl 0 rfl ?_
      refine mv_bipush (pc := 14) (v := 49) B d_Tokens_isOfCode_14 (by decide) ?_
      refine mv_icmp_eq (pc := 16) (tgt := 25) B d_Tokens_isOfCode_16 rfl (fun h16 => ?_) (fun h16 => ?_)
      · skip
        have hf := xif_t h16 hf
        refine mv_lpick [] rfl ?_
        exact jn25  _ r_g2 hf
      · skip
        have hf := xif_f h16 hf
        refine mv_iload_n (pc := 19) B d_Tokens_isOfCode_19 rfl 0 rfl ?_
        refine mv_bipush (pc := 20) (v := 46) B d_Tokens_isOfCode_20 (by decide) ?_
        refine mv_icmp_ne (pc := 22) (tgt := 29) B d_Tokens_isOfCode_22 rfl (fun h22 => ?_) (fun h22 => ?_)
        · skip
          have hf := xif_f h22 hf
          refine mv_iconst (pc := 29) (v := 0) B d_Tokens_isOfCode_29 (by decide) ?_
          obtain ⟨q4, hf⟩ := xzb_e hf
          exact mv_iret (pc := 30) B hr (xzb_n q4) d_Tokens_isOfCode_30 (Nat.le_refl _) (Nat.le_refl _) ⟨_, rfl, xrh_i hf r_g2⟩
        · skip
          have hf := xif_t h22 hf
          refine mv_lpick [] rfl ?_
          exact jn25  _ r_g2 hf
def f_Tokens_hexDigit_54 (hz : mv_H) : Option (Int32 × mv_H) := some ((-1 : Int32), hz)
def f_Tokens_hexDigit_32 (x0 : Int32) (hz : mv_H) : Option (Int32 × mv_H) := if x0 < (65 : Int32) then (f_Tokens_hexDigit_54  hz) else (if (70 : Int32) < x0 then (f_Tokens_hexDigit_54  hz) else (some (((x0 - (65 : Int32)) + (10 : Int32)), hz)))
def f_Tokens_hexDigit (h : mv_H) (a0 : Int32) : Option (Int32 × mv_H) := xhb (f_Tokens_isDigit h a0) fun v2 g1 => if v2 = (0 : Int32) then (if a0 < (97 : Int32) then (f_Tokens_hexDigit_32 a0 g1) else (if (102 : Int32) < a0 then (f_Tokens_hexDigit_32 a0 g1) else (some (((a0 - (97 : Int32)) + (10 : Int32)), g1)))) else (some ((a0 - (48 : Int32)), g1))
set_option maxHeartbeats 4000000 in
set_option maxRecDepth 100000 in
theorem ch_Tokens_hexDigit (l : Launch) {dA : FieldType → ClassId} {D : va_G} {al : Nat → Nat} {ext : mv_Sh} {sk sv : Nat → Nat} (hi : mv_inj (mg dA D al ext)) (h : mv_H)  (a0 : Int32) {rv : Int32} {rg : mv_H} (hf : f_Tokens_hexDigit h a0 = some (rv, rg)) : mv_C l y_Tokens_hexDigit (Cond.code y_Tokens_hexDigit b_Tokens_hexDigit 1 (Option.some Jvm.ClassFile.FieldType.int) :: ma) ({ frames := 1, cells := 0, slots := 0, locals := 20 }) (mg dA D al ext) (mK sk sv) [.int a0] h (mv_Ri (fun v σ1 => rv = v ∧ rg = σ1 ∧ mv_r σ1 = mv_r h)) := by
  refine mv_C.ofV (cc := b_Tokens_hexDigit) (nL := 1) (ret := (Option.some Jvm.ClassFile.FieldType.int)) (by decide +kernel) rfl hi (Nat.le_of_ble_eq_true rfl) ?_
  intro p e s m below meth c B hNs hr hnm hno
  have jn54 : ∀ (hz : mv_H), mv_r hz = mv_r h → f_Tokens_hexDigit_54  hz = some (rv, rg) → mv_V p l e ({ frames := 1, cells := 0, slots := 0, locals := 20 }) s m ([.int a0] : List Value).toArray below meth c (mg dA D al ext) 1 0 0 (mv_Q (mg dA D al ext) below s 0 0 (mv_Ri (fun v σ1 => rv = v ∧ rg = σ1 ∧ mv_r σ1 = mv_r h))) hz 54 [] [] := by
    intro  hz r_hz hf
    unfold f_Tokens_hexDigit_54 at hf
    refine mv_iconst (pc := 54) (v := -1) B d_Tokens_hexDigit_54 (by decide) ?_
    exact mv_iret (pc := 55) B hr rfl d_Tokens_hexDigit_55 (Nat.le_refl _) (Nat.le_refl _) ⟨_, rfl, xrh_i hf r_hz⟩
  have jn32 : ∀ (x0 : Int32) (hz : mv_H), mv_r hz = mv_r h → f_Tokens_hexDigit_32 x0 hz = some (rv, rg) → mv_V p l e ({ frames := 1, cells := 0, slots := 0, locals := 20 }) s m ([.int a0] : List Value).toArray below meth c (mg dA D al ext) 1 0 0 (mv_Q (mg dA D al ext) below s 0 0 (mv_Ri (fun v σ1 => rv = v ∧ rg = σ1 ∧ mv_r σ1 = mv_r h))) hz 32 [(0, .int x0)] [] := by
    intro x0 hz r_hz hf
    unfold f_Tokens_hexDigit_32 at hf
    refine mv_iload_n (pc := 32) B d_Tokens_hexDigit_32 rfl 0 rfl ?_
    refine mv_bipush (pc := 33) (v := 65) B d_Tokens_hexDigit_33 (by decide) ?_
    refine mv_icmp_lt (pc := 35) (tgt := 54) B d_Tokens_hexDigit_35 rfl (fun h35 => ?_) (fun h35 => ?_)
    · skip
      have hf := xif_t h35 hf
      refine mv_lpick [] rfl ?_
      exact jn54  _ r_hz hf
    · skip
      have hf := xif_f h35 hf
      refine mv_iload_n (pc := 38) B d_Tokens_hexDigit_38 rfl 0 rfl ?_
      refine mv_bipush (pc := 39) (v := 70) B d_Tokens_hexDigit_39 (by decide) ?_
      refine mv_icmp_gt (pc := 41) (tgt := 54) B d_Tokens_hexDigit_41 rfl (fun h41 => ?_) (fun h41 => ?_)
      · skip
        have hf := xif_t h41 hf
        refine mv_lpick [] rfl ?_
        exact jn54  _ r_hz hf
      · skip
        have hf := xif_f h41 hf
        refine mv_iload_n (pc := 44) B d_Tokens_hexDigit_44 rfl 0 rfl ?_
        refine mv_bipush (pc := 45) (v := 65) B d_Tokens_hexDigit_45 (by decide) ?_
        refine mv_isub (pc := 47) B d_Tokens_hexDigit_47 ?_
        refine mv_bipush (pc := 48) (v := 10) B d_Tokens_hexDigit_48 (by decide) ?_
        refine mv_iadd (pc := 50) B d_Tokens_hexDigit_50 ?_
        refine mv_goto (pc := 51) (tgt := 55) B d_Tokens_hexDigit_51 rfl ?_
        exact mv_iret (pc := 55) B hr rfl d_Tokens_hexDigit_55 (Nat.le_refl _) (Nat.le_refl _) ⟨_, rfl, xrh_i hf r_hz⟩
  unfold f_Tokens_hexDigit at hf
  refine mv_iload_n (pc := 0) B d_Tokens_hexDigit_0 rfl 0 rfl ?_
  obtain ⟨v2, g1, eg1, hf⟩ := xhb_e hf
  refine mv_callSi (pc := 1) (n := 1) B (mK_ok sk sv) hNs (ch_Tokens_isDigit l hi _ _ eg1) rfl (ma_goodc kc_Tokens_isDigit) (B.2.2.2.1 _ k_835) (B.2.2.2.1 _ k_836) (B.2.2.2.1 _ k_3) ⟨by decide +kernel, by decide +kernel, by decide +kernel⟩ rfl d_Tokens_hexDigit_1 rfl (Nat.le_of_ble_eq_true rfl) ⟨by decide, by decide⟩ ⟨by decide, by decide⟩ ⟨by decide, by decide⟩ (mv_noH hno _) (fun w1 σ1 h1 => ?_)
  obtain ⟨rfl, rfl, s_g1⟩ := h1
  have r_g1 : mv_r g1 = mv_r h := s_g1.trans rfl
  refine mv_if_eq (pc := 4) (tgt := 12) B d_Tokens_hexDigit_4 rfl (fun h4 => ?_) (fun h4 => ?_)
  · skip
    have hf := xif_t h4 hf
    refine mv_iload_n (pc := 12) B d_Tokens_hexDigit_12 rfl 0 rfl ?_
    refine mv_bipush (pc := 13) (v := 97) B d_Tokens_hexDigit_13 (by decide) ?_
    refine mv_icmp_lt (pc := 15) (tgt := 32) B d_Tokens_hexDigit_15 rfl (fun h15 => ?_) (fun h15 => ?_)
    · skip
      have hf := xif_t h15 hf
      refine mv_lpick [0] rfl ?_
      exact jn32 _ _ r_g1 hf
    · skip
      have hf := xif_f h15 hf
      refine mv_iload_n (pc := 18) B d_Tokens_hexDigit_18 rfl 0 rfl ?_
      refine mv_bipush (pc := 19) (v := 102) B d_Tokens_hexDigit_19 (by decide) ?_
      refine mv_icmp_gt (pc := 21) (tgt := 32) B d_Tokens_hexDigit_21 rfl (fun h21 => ?_) (fun h21 => ?_)
      · skip
        have hf := xif_t h21 hf
        refine mv_lpick [0] rfl ?_
        exact jn32 _ _ r_g1 hf
      · skip
        have hf := xif_f h21 hf
        refine mv_iload_n (pc := 24) B d_Tokens_hexDigit_24 rfl 0 rfl ?_
        refine mv_bipush (pc := 25) (v := 97) B d_Tokens_hexDigit_25 (by decide) ?_
        refine mv_isub (pc := 27) B d_Tokens_hexDigit_27 ?_
        refine mv_bipush (pc := 28) (v := 10) B d_Tokens_hexDigit_28 (by decide) ?_
        refine mv_iadd (pc := 30) B d_Tokens_hexDigit_30 ?_
        exact mv_iret (pc := 31) B hr rfl d_Tokens_hexDigit_31 (Nat.le_refl _) (Nat.le_refl _) ⟨_, rfl, xrh_i hf r_g1⟩
  · skip
    have hf := xif_f h4 hf
    refine mv_iload_n (pc := 7) B d_Tokens_hexDigit_7 rfl 0 rfl ?_
    refine mv_bipush (pc := 8) (v := 48) B d_Tokens_hexDigit_8 (by decide) ?_
    refine mv_isub (pc := 10) B d_Tokens_hexDigit_10 ?_
    exact mv_iret (pc := 11) B hr rfl d_Tokens_hexDigit_11 (Nat.le_refl _) (Nat.le_refl _) ⟨_, rfl, xrh_i hf r_g1⟩
def f_Tokens_pairOf (h : mv_H) (a0 : Int32) (a1 : Int32) : Option (Int32 × mv_H) := if a1 = (61 : Int32) then (if a0 = (61 : Int32) then (some ((128 : Int32), h)) else (if a0 = (33 : Int32) then (some ((129 : Int32), h)) else (if a0 = (60 : Int32) then (some ((130 : Int32), h)) else (some ((0 : Int32), h))))) else (if a0 = a1 then (if a0 = (60 : Int32) then (some ((131 : Int32), h)) else (if a0 = (62 : Int32) then (some ((132 : Int32), h)) else (some ((0 : Int32), h)))) else (some ((0 : Int32), h)))
set_option maxHeartbeats 4000000 in
set_option maxRecDepth 100000 in
theorem ch_Tokens_pairOf (l : Launch) {dA : FieldType → ClassId} {D : va_G} {al : Nat → Nat} {ext : mv_Sh} {sk sv : Nat → Nat} (hi : mv_inj (mg dA D al ext)) (h : mv_H)  (a0 : Int32) (a1 : Int32) {rv : Int32} {rg : mv_H} (hf : f_Tokens_pairOf h a0 a1 = some (rv, rg)) : mv_C l y_Tokens_pairOf (Cond.code y_Tokens_pairOf b_Tokens_pairOf 2 (Option.some Jvm.ClassFile.FieldType.int) :: ma) ({ frames := 0, cells := 0, slots := 0, locals := 0 }) (mg dA D al ext) (mK sk sv) [.int a0, .int a1] h (mv_Ri (fun v σ1 => rv = v ∧ rg = σ1 ∧ mv_r σ1 = mv_r h)) := by
  refine mv_C.ofV (cc := b_Tokens_pairOf) (nL := 2) (ret := (Option.some Jvm.ClassFile.FieldType.int)) (by decide +kernel) rfl hi (Nat.le_of_ble_eq_true rfl) ?_
  intro p e s m below meth c B hNs hr hnm hno
  unfold f_Tokens_pairOf at hf
  refine mv_iload_n (pc := 0) B d_Tokens_pairOf_0 rfl 1 rfl ?_
  refine mv_bipush (pc := 1) (v := 61) B d_Tokens_pairOf_1 (by decide) ?_
  refine mv_icmp_ne (pc := 3) (tgt := 44) B d_Tokens_pairOf_3 rfl (fun h3 => ?_) (fun h3 => ?_)
  · skip
    have hf := xif_f h3 hf
    refine mv_iload_n (pc := 44) B d_Tokens_pairOf_44 rfl 0 rfl ?_
    refine mv_iload_n (pc := 45) B d_Tokens_pairOf_45 rfl 1 rfl ?_
    refine mv_icmp_eq (pc := 46) (tgt := 51) B d_Tokens_pairOf_46 rfl (fun h46 => ?_) (fun h46 => ?_)
    · skip
      have hf := xif_t h46 hf
      refine mv_iload_n (pc := 51) B d_Tokens_pairOf_51 rfl 0 rfl ?_
      refine mv_bipush (pc := 52) (v := 60) B d_Tokens_pairOf_52 (by decide) ?_
      refine mv_icmp_ne (pc := 54) (tgt := 63) B d_Tokens_pairOf_54 rfl (fun h54 => ?_) (fun h54 => ?_)
      · skip
        have hf := xif_f h54 hf
        refine mv_iload_n (pc := 63) B d_Tokens_pairOf_63 rfl 0 rfl ?_
        refine mv_bipush (pc := 64) (v := 62) B d_Tokens_pairOf_64 (by decide) ?_
        refine mv_icmp_ne (pc := 66) (tgt := 75) B d_Tokens_pairOf_66 rfl (fun h66 => ?_) (fun h66 => ?_)
        · skip
          have hf := xif_f h66 hf
          refine mv_iconst (pc := 75) (v := 0) B d_Tokens_pairOf_75 (by decide) ?_
          exact mv_iret (pc := 76) B hr rfl d_Tokens_pairOf_76 (Nat.le_refl _) (Nat.le_refl _) ⟨_, rfl, xrh_i hf rfl⟩
        · skip
          have hf := xif_t h66 hf
          refine mv_sipush (pc := 69) (v := 132) B d_Tokens_pairOf_69 (by decide) ?_
          refine mv_goto (pc := 72) (tgt := 76) B d_Tokens_pairOf_72 rfl ?_
          exact mv_iret (pc := 76) B hr rfl d_Tokens_pairOf_76 (Nat.le_refl _) (Nat.le_refl _) ⟨_, rfl, xrh_i hf rfl⟩
      · skip
        have hf := xif_t h54 hf
        refine mv_sipush (pc := 57) (v := 131) B d_Tokens_pairOf_57 (by decide) ?_
        refine mv_goto (pc := 60) (tgt := 76) B d_Tokens_pairOf_60 rfl ?_
        exact mv_iret (pc := 76) B hr rfl d_Tokens_pairOf_76 (Nat.le_refl _) (Nat.le_refl _) ⟨_, rfl, xrh_i hf rfl⟩
    · skip
      have hf := xif_f h46 hf
      refine mv_iconst (pc := 49) (v := 0) B d_Tokens_pairOf_49 (by decide) ?_
      exact mv_iret (pc := 50) B hr rfl d_Tokens_pairOf_50 (Nat.le_refl _) (Nat.le_refl _) ⟨_, rfl, xrh_i hf rfl⟩
  · skip
    have hf := xif_t h3 hf
    refine mv_iload_n (pc := 6) B d_Tokens_pairOf_6 rfl 0 rfl ?_
    refine mv_bipush (pc := 7) (v := 61) B d_Tokens_pairOf_7 (by decide) ?_
    refine mv_icmp_ne (pc := 9) (tgt := 18) B d_Tokens_pairOf_9 rfl (fun h9 => ?_) (fun h9 => ?_)
    · skip
      have hf := xif_f h9 hf
      refine mv_iload_n (pc := 18) B d_Tokens_pairOf_18 rfl 0 rfl ?_
      refine mv_bipush (pc := 19) (v := 33) B d_Tokens_pairOf_19 (by decide) ?_
      refine mv_icmp_ne (pc := 21) (tgt := 30) B d_Tokens_pairOf_21 rfl (fun h21 => ?_) (fun h21 => ?_)
      · skip
        have hf := xif_f h21 hf
        refine mv_iload_n (pc := 30) B d_Tokens_pairOf_30 rfl 0 rfl ?_
        refine mv_bipush (pc := 31) (v := 60) B d_Tokens_pairOf_31 (by decide) ?_
        refine mv_icmp_ne (pc := 33) (tgt := 42) B d_Tokens_pairOf_33 rfl (fun h33 => ?_) (fun h33 => ?_)
        · skip
          have hf := xif_f h33 hf
          refine mv_iconst (pc := 42) (v := 0) B d_Tokens_pairOf_42 (by decide) ?_
          exact mv_iret (pc := 43) B hr rfl d_Tokens_pairOf_43 (Nat.le_refl _) (Nat.le_refl _) ⟨_, rfl, xrh_i hf rfl⟩
        · skip
          have hf := xif_t h33 hf
          refine mv_sipush (pc := 36) (v := 130) B d_Tokens_pairOf_36 (by decide) ?_
          refine mv_goto (pc := 39) (tgt := 43) B d_Tokens_pairOf_39 rfl ?_
          exact mv_iret (pc := 43) B hr rfl d_Tokens_pairOf_43 (Nat.le_refl _) (Nat.le_refl _) ⟨_, rfl, xrh_i hf rfl⟩
      · skip
        have hf := xif_t h21 hf
        refine mv_sipush (pc := 24) (v := 129) B d_Tokens_pairOf_24 (by decide) ?_
        refine mv_goto (pc := 27) (tgt := 43) B d_Tokens_pairOf_27 rfl ?_
        exact mv_iret (pc := 43) B hr rfl d_Tokens_pairOf_43 (Nat.le_refl _) (Nat.le_refl _) ⟨_, rfl, xrh_i hf rfl⟩
    · skip
      have hf := xif_t h9 hf
      refine mv_sipush (pc := 12) (v := 128) B d_Tokens_pairOf_12 (by decide) ?_
      refine mv_goto (pc := 15) (tgt := 43) B d_Tokens_pairOf_15 rfl ?_
      exact mv_iret (pc := 43) B hr rfl d_Tokens_pairOf_43 (Nat.le_refl _) (Nat.le_refl _) ⟨_, rfl, xrh_i hf rfl⟩
def f_Tokens_right (h : mv_H) : Option (Int32 × mv_H) := if (0 : Int32) ≤ (mv_i h 3 9) then (bif xzb (0 : Int32) then some ((0 : Int32), h) else none) else (bif xzb (1 : Int32) then some ((1 : Int32), h) else none)
set_option maxHeartbeats 4000000 in
set_option maxRecDepth 100000 in
theorem ch_Tokens_right (l : Launch) {dA : FieldType → ClassId} {D : va_G} {al : Nat → Nat} {ext : mv_Sh} {sk sv : Nat → Nat} (hi : mv_inj (mg dA D al ext)) (h : mv_H)  {rv : Int32} {rg : mv_H} (hf : f_Tokens_right h = some (rv, rg)) : mv_C l y_Tokens_right (Cond.code y_Tokens_right b_Tokens_right 1 (Option.some Jvm.ClassFile.FieldType.boolean) :: ma) ({ frames := 0, cells := 0, slots := 0, locals := 0 }) (mg dA D al ext) (mK sk sv) [.ref (al 3)] h (mv_Ri (fun v σ1 => rv = v ∧ rg = σ1 ∧ mv_r σ1 = mv_r h)) := by
  refine mv_C.ofV (cc := b_Tokens_right) (nL := 1) (ret := (Option.some Jvm.ClassFile.FieldType.boolean)) (by decide +kernel) rfl hi (Nat.le_of_ble_eq_true rfl) ?_
  intro p e s m below meth c B hNs hr hnm hno
  unfold f_Tokens_right at hf
  refine mv_aload_n (pc := 0) B d_Tokens_right_0 rfl 0 rfl ?_
  refine mv_getI (pc := 1) (ci := 2) (C := R_Tokens) (T := F_Tokens) (N := 10) B 9 rfl rfl (by decide) i_Tokens (B.2.2.2.1 _ k_105) rfl d_Tokens_right_1 ?_
  refine mv_if_ge (pc := 4) (tgt := 11) B d_Tokens_right_4 rfl (fun h4 => ?_) (fun h4 => ?_)
  · skip
    have hf := xif_t h4 hf
    refine mv_iconst (pc := 11) (v := 0) B d_Tokens_right_11 (by decide) ?_
    obtain ⟨q1, hf⟩ := xzb_e hf
    exact mv_iret (pc := 12) B hr (xzb_n q1) d_Tokens_right_12 (Nat.le_refl _) (Nat.le_refl _) ⟨_, rfl, xrh_i hf rfl⟩
  · skip
    have hf := xif_f h4 hf
    refine mv_iconst (pc := 7) (v := 1) B d_Tokens_right_7 (by decide) ?_
    refine mv_goto (pc := 8) (tgt := 12) B d_Tokens_right_8 rfl ?_
    obtain ⟨q2, hf⟩ := xzb_e hf
    exact mv_iret (pc := 12) B hr (xzb_n q2) d_Tokens_right_12 (Nat.le_refl _) (Nat.le_refl _) ⟨_, rfl, xrh_i hf rfl⟩
def f_Tokens_wrong (h : mv_H) : Option mv_H := if (0 : Int32) ≤ (mv_i h 3 9) then (some h) else (bif xvi (mv_i h 3 7) 32770 then xk (mv_si h 3 9 (mv_a h 5 ((mv_i h 3 7)).toNatClampNeg)) fun g2 => some g2 else none)
set_option maxHeartbeats 4000000 in
set_option maxRecDepth 100000 in
theorem ch_Tokens_wrong (l : Launch) {dA : FieldType → ClassId} {D : va_G} {al : Nat → Nat} {ext : mv_Sh} {sk sv : Nat → Nat} (hi : mv_inj (mg dA D al ext)) (h : mv_H) (hb : xRT (mv_r h))  {rg : mv_H} (hf : f_Tokens_wrong h = some rg) : mv_C l y_Tokens_wrong (Cond.code y_Tokens_wrong b_Tokens_wrong 1 (Option.none : Option Jvm.ClassFile.FieldType) :: ma) ({ frames := 0, cells := 0, slots := 0, locals := 0 }) (mg dA D al ext) (mK sk sv) [.ref (al 3)] h (mv_Rv (fun σ1 => rg = σ1 ∧ mv_r σ1 = mv_r h)) := by
  refine mv_C.ofV (cc := b_Tokens_wrong) (nL := 1) (ret := (Option.none : Option Jvm.ClassFile.FieldType)) (by decide +kernel) rfl hi (Nat.le_of_ble_eq_true rfl) ?_
  intro p e s m below meth c B hNs hr hnm hno
  unfold f_Tokens_wrong at hf
  refine mv_aload_n (pc := 0) B d_Tokens_wrong_0 rfl 0 rfl ?_
  refine mv_getI (pc := 1) (ci := 2) (C := R_Tokens) (T := F_Tokens) (N := 10) B 9 rfl rfl (by decide) i_Tokens (B.2.2.2.1 _ k_105) rfl d_Tokens_wrong_1 ?_
  refine mv_if_ge (pc := 4) (tgt := 20) B d_Tokens_wrong_4 rfl (fun h4 => ?_) (fun h4 => ?_)
  · skip
    have hf := xif_t h4 hf
    exact mv_vret (pc := 20) B hr d_Tokens_wrong_20 (Nat.le_refl _) (Nat.le_refl _) ⟨rfl, xrh_v hf rfl⟩
  · skip
    have hf := xif_f h4 hf
    refine mv_aload_n (pc := 7) B d_Tokens_wrong_7 rfl 0 rfl ?_
    refine mv_aload_n (pc := 8) B d_Tokens_wrong_8 rfl 0 rfl ?_
    refine mv_getR (pc := 9) (ci := 2) (C := R_Tokens) (T := F_Tokens) (N := 10) B 1 rfl rfl (by decide) i_Tokens (B.2.2.2.1 _ k_90) rfl (hb.1 3 1 _ rfl) d_Tokens_wrong_9 ?_
    refine mv_aload_n (pc := 12) B d_Tokens_wrong_12 rfl 0 rfl ?_
    refine mv_getI (pc := 13) (ci := 2) (C := R_Tokens) (T := F_Tokens) (N := 10) B 7 rfl rfl (by decide) i_Tokens (B.2.2.2.1 _ k_102) rfl d_Tokens_wrong_13 ?_
    obtain ⟨q1, hf⟩ := xvi_e hf
    refine mv_iald (pc := 16) B rfl q1 d_Tokens_wrong_16 ?_
    refine mv_putI (pc := 17) (ci := 2) (C := R_Tokens) (T := F_Tokens) (N := 10) B 9 rfl rfl (by decide) i_Tokens t_Tokens_ok n_Tokens (B.2.2.2.1 _ k_105) rfl rfl rfl rfl d_Tokens_wrong_17 ?_
    refine mvh_hp (R9 := mv_r h) hf rfl (fun g2 hf r_g2 => ?_)
    exact mv_vret (pc := 20) B hr d_Tokens_wrong_20 (Nat.le_refl _) (Nat.le_refl _) ⟨rfl, xrh_v hf r_g2⟩
def f_Tokens_kind (h : mv_H) : Option (Int32 × mv_H) := if (0 : Int32) ≤ (mv_i h 3 9) then (some ((0 : Int32), h)) else (bif xvi (mv_i h 3 7) 32770 then some ((mv_a h 4 ((mv_i h 3 7)).toNatClampNeg), h) else none)
set_option maxHeartbeats 4000000 in
set_option maxRecDepth 100000 in
theorem ch_Tokens_kind (l : Launch) {dA : FieldType → ClassId} {D : va_G} {al : Nat → Nat} {ext : mv_Sh} {sk sv : Nat → Nat} (hi : mv_inj (mg dA D al ext)) (h : mv_H) (hb : xRT (mv_r h))  {rv : Int32} {rg : mv_H} (hf : f_Tokens_kind h = some (rv, rg)) : mv_C l y_Tokens_kind (Cond.code y_Tokens_kind b_Tokens_kind 1 (Option.some Jvm.ClassFile.FieldType.int) :: ma) ({ frames := 0, cells := 0, slots := 0, locals := 0 }) (mg dA D al ext) (mK sk sv) [.ref (al 3)] h (mv_Ri (fun v σ1 => rv = v ∧ rg = σ1 ∧ mv_r σ1 = mv_r h)) := by
  refine mv_C.ofV (cc := b_Tokens_kind) (nL := 1) (ret := (Option.some Jvm.ClassFile.FieldType.int)) (by decide +kernel) rfl hi (Nat.le_of_ble_eq_true rfl) ?_
  intro p e s m below meth c B hNs hr hnm hno
  unfold f_Tokens_kind at hf
  refine mv_aload_n (pc := 0) B d_Tokens_kind_0 rfl 0 rfl ?_
  refine mv_getI (pc := 1) (ci := 2) (C := R_Tokens) (T := F_Tokens) (N := 10) B 9 rfl rfl (by decide) i_Tokens (B.2.2.2.1 _ k_105) rfl d_Tokens_kind_1 ?_
  refine mv_if_ge (pc := 4) (tgt := 19) B d_Tokens_kind_4 rfl (fun h4 => ?_) (fun h4 => ?_)
  · skip
    have hf := xif_t h4 hf
    refine mv_iconst (pc := 19) (v := 0) B d_Tokens_kind_19 (by decide) ?_
    exact mv_iret (pc := 20) B hr rfl d_Tokens_kind_20 (Nat.le_refl _) (Nat.le_refl _) ⟨_, rfl, xrh_i hf rfl⟩
  · skip
    have hf := xif_f h4 hf
    refine mv_aload_n (pc := 7) B d_Tokens_kind_7 rfl 0 rfl ?_
    refine mv_getR (pc := 8) (ci := 2) (C := R_Tokens) (T := F_Tokens) (N := 10) B 0 rfl rfl (by decide) i_Tokens (B.2.2.2.1 _ k_89) rfl (hb.1 3 0 _ rfl) d_Tokens_kind_8 ?_
    refine mv_aload_n (pc := 11) B d_Tokens_kind_11 rfl 0 rfl ?_
    refine mv_getI (pc := 12) (ci := 2) (C := R_Tokens) (T := F_Tokens) (N := 10) B 7 rfl rfl (by decide) i_Tokens (B.2.2.2.1 _ k_102) rfl d_Tokens_kind_12 ?_
    obtain ⟨q1, hf⟩ := xvi_e hf
    refine mv_iald (pc := 15) B rfl q1 d_Tokens_kind_15 ?_
    refine mv_goto (pc := 16) (tgt := 20) B d_Tokens_kind_16 rfl ?_
    exact mv_iret (pc := 20) B hr rfl d_Tokens_kind_20 (Nat.le_refl _) (Nat.le_refl _) ⟨_, rfl, xrh_i hf rfl⟩
def f_Tokens_kindBehind (h : mv_H) : Option (Int32 × mv_H) := if (mv_i h 3 6) ≤ ((mv_i h 3 7) + (1 : Int32)) then (some ((0 : Int32), h)) else (bif xvi ((mv_i h 3 7) + (1 : Int32)) 32770 then some ((mv_a h 4 (((mv_i h 3 7) + (1 : Int32))).toNatClampNeg), h) else none)
set_option maxHeartbeats 4000000 in
set_option maxRecDepth 100000 in
theorem ch_Tokens_kindBehind (l : Launch) {dA : FieldType → ClassId} {D : va_G} {al : Nat → Nat} {ext : mv_Sh} {sk sv : Nat → Nat} (hi : mv_inj (mg dA D al ext)) (h : mv_H) (hb : xRT (mv_r h))  {rv : Int32} {rg : mv_H} (hf : f_Tokens_kindBehind h = some (rv, rg)) : mv_C l y_Tokens_kindBehind (Cond.code y_Tokens_kindBehind b_Tokens_kindBehind 1 (Option.some Jvm.ClassFile.FieldType.int) :: ma) ({ frames := 0, cells := 0, slots := 0, locals := 0 }) (mg dA D al ext) (mK sk sv) [.ref (al 3)] h (mv_Ri (fun v σ1 => rv = v ∧ rg = σ1 ∧ mv_r σ1 = mv_r h)) := by
  refine mv_C.ofV (cc := b_Tokens_kindBehind) (nL := 1) (ret := (Option.some Jvm.ClassFile.FieldType.int)) (by decide +kernel) rfl hi (Nat.le_of_ble_eq_true rfl) ?_
  intro p e s m below meth c B hNs hr hnm hno
  unfold f_Tokens_kindBehind at hf
  refine mv_aload_n (pc := 0) B d_Tokens_kindBehind_0 rfl 0 rfl ?_
  refine mv_getI (pc := 1) (ci := 2) (C := R_Tokens) (T := F_Tokens) (N := 10) B 7 rfl rfl (by decide) i_Tokens (B.2.2.2.1 _ k_102) rfl d_Tokens_kindBehind_1 ?_
  refine mv_iconst (pc := 4) (v := 1) B d_Tokens_kindBehind_4 (by decide) ?_
  refine mv_iadd (pc := 5) B d_Tokens_kindBehind_5 ?_
  refine mv_aload_n (pc := 6) B d_Tokens_kindBehind_6 rfl 0 rfl ?_
  refine mv_getI (pc := 7) (ci := 2) (C := R_Tokens) (T := F_Tokens) (N := 10) B 6 rfl rfl (by decide) i_Tokens (B.2.2.2.1 _ k_101) rfl d_Tokens_kindBehind_7 ?_
  refine mv_icmp_ge (pc := 10) (tgt := 27) B d_Tokens_kindBehind_10 rfl (fun h10 => ?_) (fun h10 => ?_)
  · skip
    have hf := xif_t h10 hf
    refine mv_iconst (pc := 27) (v := 0) B d_Tokens_kindBehind_27 (by decide) ?_
    exact mv_iret (pc := 28) B hr rfl d_Tokens_kindBehind_28 (Nat.le_refl _) (Nat.le_refl _) ⟨_, rfl, xrh_i hf rfl⟩
  · skip
    have hf := xif_f h10 hf
    refine mv_aload_n (pc := 13) B d_Tokens_kindBehind_13 rfl 0 rfl ?_
    refine mv_getR (pc := 14) (ci := 2) (C := R_Tokens) (T := F_Tokens) (N := 10) B 0 rfl rfl (by decide) i_Tokens (B.2.2.2.1 _ k_89) rfl (hb.1 3 0 _ rfl) d_Tokens_kindBehind_14 ?_
    refine mv_aload_n (pc := 17) B d_Tokens_kindBehind_17 rfl 0 rfl ?_
    refine mv_getI (pc := 18) (ci := 2) (C := R_Tokens) (T := F_Tokens) (N := 10) B 7 rfl rfl (by decide) i_Tokens (B.2.2.2.1 _ k_102) rfl d_Tokens_kindBehind_18 ?_
    refine mv_iconst (pc := 21) (v := 1) B d_Tokens_kindBehind_21 (by decide) ?_
    refine mv_iadd (pc := 22) B d_Tokens_kindBehind_22 ?_
    obtain ⟨q1, hf⟩ := xvi_e hf
    refine mv_iald (pc := 23) B rfl q1 d_Tokens_kindBehind_23 ?_
    refine mv_goto (pc := 24) (tgt := 28) B d_Tokens_kindBehind_24 rfl ?_
    exact mv_iret (pc := 28) B hr rfl d_Tokens_kindBehind_28 (Nat.le_refl _) (Nat.le_refl _) ⟨_, rfl, xrh_i hf rfl⟩
def f_Tokens_take (h : mv_H) (a0 : Int32) : Option (Int32 × mv_H) := xhb (f_Tokens_kind h) fun v2 g1 => if v2 = a0 then (xk (mv_si g1 3 7 ((mv_i g1 3 7) + (1 : Int32))) fun g3 => some ((mv_i g1 3 7), g3)) else (xhv (f_Tokens_wrong g1) fun g4 => some ((0 : Int32), g4))
set_option maxHeartbeats 4000000 in
set_option maxRecDepth 100000 in
theorem ch_Tokens_take (l : Launch) {dA : FieldType → ClassId} {D : va_G} {al : Nat → Nat} {ext : mv_Sh} {sk sv : Nat → Nat} (hi : mv_inj (mg dA D al ext)) (h : mv_H) (hb : xRT (mv_r h))  (a0 : Int32) {rv : Int32} {rg : mv_H} (hf : f_Tokens_take h a0 = some (rv, rg)) : mv_C l y_Tokens_take (Cond.code y_Tokens_take b_Tokens_take 3 (Option.some Jvm.ClassFile.FieldType.int) :: ma) ({ frames := 1, cells := 0, slots := 0, locals := 20 }) (mg dA D al ext) (mK sk sv) [.ref (al 3), .int a0] h (mv_Ri (fun v σ1 => rv = v ∧ rg = σ1 ∧ mv_r σ1 = mv_r h)) := by
  refine mv_C.ofV (cc := b_Tokens_take) (nL := 3) (ret := (Option.some Jvm.ClassFile.FieldType.int)) (by decide +kernel) rfl hi (Nat.le_of_ble_eq_true rfl) ?_
  intro p e s m below meth c B hNs hr hnm hno
  unfold f_Tokens_take at hf
  refine mv_aload_n (pc := 0) B d_Tokens_take_0 rfl 0 rfl ?_
  obtain ⟨v2, g1, eg1, hf⟩ := xhb_e hf
  refine mv_callVi (pc := 1) (n := 0) (ci := 2) (C := R_Tokens) B (mK_ok sk sv) hNs rfl rfl (ch_Tokens_kind l hi _ (hb) eg1) rfl (ma_goodc kc_Tokens_kind) (B.2.2.2.1 _ k_1270) (B.2.2.2.1 _ k_1271) (B.2.2.2.1 _ k_1272) (B.2.2.2.1 _ k_3) ⟨by decide +kernel, by decide +kernel, by decide +kernel⟩ rfl d_Tokens_take_1 rfl (Nat.le_of_ble_eq_true rfl) ⟨by decide, by decide⟩ ⟨by decide, by decide⟩ ⟨by decide, by decide⟩ (mv_noH hno _) (fun w1 σ1 h1 => ?_)
  obtain ⟨rfl, rfl, s_g1⟩ := h1
  have r_g1 : mv_r g1 = mv_r h := s_g1.trans rfl
  refine mv_iload_n (pc := 4) B d_Tokens_take_4 rfl 1 rfl ?_
  refine mv_icmp_eq (pc := 5) (tgt := 14) B d_Tokens_take_5 rfl (fun h5 => ?_) (fun h5 => ?_)
  · skip
    have hf := xif_t h5 hf
    refine mv_aload_n (pc := 14) B d_Tokens_take_14 rfl 0 rfl ?_
    refine mv_getI (pc := 15) (ci := 2) (C := R_Tokens) (T := F_Tokens) (N := 10) B 7 rfl rfl (by decide) i_Tokens (B.2.2.2.1 _ k_102) rfl d_Tokens_take_15 ?_
    refine mv_istore_n (pc := 18) B d_Tokens_take_18 rfl (by decide) rfl ?_
    refine mv_aload_n (pc := 19) B d_Tokens_take_19 rfl 1 rfl ?_
    refine mv_dup (pc := 20) B d_Tokens_take_20 rfl ?_
    refine mv_getI (pc := 21) (ci := 2) (C := R_Tokens) (T := F_Tokens) (N := 10) B 7 rfl rfl (by decide) i_Tokens (B.2.2.2.1 _ k_102) rfl d_Tokens_take_21 ?_
    refine mv_iconst (pc := 24) (v := 1) B d_Tokens_take_24 (by decide) ?_
    refine mv_iadd (pc := 25) B d_Tokens_take_25 ?_
    refine mv_putI (pc := 26) (ci := 2) (C := R_Tokens) (T := F_Tokens) (N := 10) B 7 rfl rfl (by decide) i_Tokens t_Tokens_ok n_Tokens (B.2.2.2.1 _ k_102) rfl rfl rfl rfl d_Tokens_take_26 ?_
    refine mvh_hp (R9 := mv_r h) hf r_g1 (fun g3 hf r_g3 => ?_)
    refine mv_iload_n (pc := 29) B d_Tokens_take_29 rfl 0 rfl ?_
    exact mv_iret (pc := 30) B hr rfl d_Tokens_take_30 (Nat.le_refl _) (Nat.le_refl _) ⟨_, rfl, xrh_i hf r_g3⟩
  · skip
    have hf := xif_f h5 hf
    refine mv_aload_n (pc := 8) B d_Tokens_take_8 rfl 0 rfl ?_
    obtain ⟨g4, eg4, hf⟩ := xhv_e hf
    refine mv_callVv (pc := 9) (n := 0) (ci := 2) (C := R_Tokens) B (mK_ok sk sv) hNs rfl rfl (ch_Tokens_wrong l hi _ (xrw r_g1 hb) eg4) rfl (ma_goodc kc_Tokens_wrong) (B.2.2.2.1 _ k_1274) (B.2.2.2.1 _ k_1275) (B.2.2.2.1 _ k_1276) (B.2.2.2.1 _ k_3) ⟨by decide +kernel, by decide +kernel, by decide +kernel⟩ rfl d_Tokens_take_9 rfl (Nat.le_of_ble_eq_true rfl) ⟨by decide, by decide⟩ ⟨by decide, by decide⟩ ⟨by decide, by decide⟩ (mv_noH hno _) (fun σ9 h9 => ?_)
    obtain ⟨rfl, s_g4⟩ := h9
    have r_g4 : mv_r g4 = mv_r h := s_g4.trans r_g1
    refine mv_iconst (pc := 12) (v := 0) B d_Tokens_take_12 (by decide) ?_
    exact mv_iret (pc := 13) B hr rfl d_Tokens_take_13 (Nat.le_refl _) (Nat.le_refl _) ⟨_, rfl, xrh_i hf r_g4⟩
def f_Tokens_open_13 (x1 : Int32) (hz : mv_H) : Option (Int32 × mv_H) := xk (mv_si hz 3 8 ((mv_i hz 3 8) + (1 : Int32))) fun g1 => xhb (f_Tokens_take g1 x1) fun v3 g2 => some (v3, g2)
def f_Tokens_open (h : mv_H) (a0 : Int32) : Option (Int32 × mv_H) := if (mv_i h 3 8) = (60 : Int32) then (xhv (f_Tokens_wrong h) fun g4 => f_Tokens_open_13 a0 g4) else (f_Tokens_open_13 a0 h)
set_option maxHeartbeats 4000000 in
set_option maxRecDepth 100000 in
theorem ch_Tokens_open (l : Launch) {dA : FieldType → ClassId} {D : va_G} {al : Nat → Nat} {ext : mv_Sh} {sk sv : Nat → Nat} (hi : mv_inj (mg dA D al ext)) (h : mv_H) (hb : xRT (mv_r h))  (a0 : Int32) {rv : Int32} {rg : mv_H} (hf : f_Tokens_open h a0 = some (rv, rg)) : mv_C l y_Tokens_open (Cond.code y_Tokens_open b_Tokens_open 2 (Option.some Jvm.ClassFile.FieldType.int) :: ma) ({ frames := 2, cells := 0, slots := 0, locals := 42 }) (mg dA D al ext) (mK sk sv) [.ref (al 3), .int a0] h (mv_Ri (fun v σ1 => rv = v ∧ rg = σ1 ∧ mv_r σ1 = mv_r h)) := by
  refine mv_C.ofV (cc := b_Tokens_open) (nL := 2) (ret := (Option.some Jvm.ClassFile.FieldType.int)) (by decide +kernel) rfl hi (Nat.le_of_ble_eq_true rfl) ?_
  intro p e s m below meth c B hNs hr hnm hno
  have jn13 : ∀ (x1 : Int32) (hz : mv_H), mv_r hz = mv_r h → f_Tokens_open_13 x1 hz = some (rv, rg) → mv_V p l e ({ frames := 2, cells := 0, slots := 0, locals := 42 }) s m ([.ref (al 3), .int a0] : List Value).toArray below meth c (mg dA D al ext) 2 0 0 (mv_Q (mg dA D al ext) below s 0 0 (mv_Ri (fun v σ1 => rv = v ∧ rg = σ1 ∧ mv_r σ1 = mv_r h))) hz 13 [(0, .ref (al 3)), (1, .int x1)] [] := by
    intro x1 hz r_hz hf
    unfold f_Tokens_open_13 at hf
    refine mv_aload_n (pc := 13) B d_Tokens_open_13 rfl 0 rfl ?_
    refine mv_dup (pc := 14) B d_Tokens_open_14 rfl ?_
    refine mv_getI (pc := 15) (ci := 2) (C := R_Tokens) (T := F_Tokens) (N := 10) B 8 rfl rfl (by decide) i_Tokens (B.2.2.2.1 _ k_103) rfl d_Tokens_open_15 ?_
    refine mv_iconst (pc := 18) (v := 1) B d_Tokens_open_18 (by decide) ?_
    refine mv_iadd (pc := 19) B d_Tokens_open_19 ?_
    refine mv_putI (pc := 20) (ci := 2) (C := R_Tokens) (T := F_Tokens) (N := 10) B 8 rfl rfl (by decide) i_Tokens t_Tokens_ok n_Tokens (B.2.2.2.1 _ k_103) rfl rfl rfl rfl d_Tokens_open_20 ?_
    refine mvh_hp (R9 := mv_r h) hf r_hz (fun g1 hf r_g1 => ?_)
    refine mv_aload_n (pc := 23) B d_Tokens_open_23 rfl 0 rfl ?_
    refine mv_iload_n (pc := 24) B d_Tokens_open_24 rfl 1 rfl ?_
    obtain ⟨v3, g2, eg2, hf⟩ := xhb_e hf
    refine mv_callVi (pc := 25) (n := 1) (ci := 2) (C := R_Tokens) B (mK_ok sk sv) hNs rfl rfl (ch_Tokens_take l hi _ (xrw r_g1 hb) _ eg2) rfl (ma_goodc kc_Tokens_take) (B.2.2.2.1 _ k_1353) (B.2.2.2.1 _ k_1267) (B.2.2.2.1 _ k_1268) (B.2.2.2.1 _ k_3) ⟨by decide +kernel, by decide +kernel, by decide +kernel⟩ rfl d_Tokens_open_25 rfl (Nat.le_of_ble_eq_true rfl) ⟨by decide, by decide⟩ ⟨by decide, by decide⟩ ⟨by decide, by decide⟩ (mv_noH hno _) (fun w25 σ25 h25 => ?_)
    obtain ⟨rfl, rfl, s_g2⟩ := h25
    have r_g2 : mv_r g2 = mv_r h := s_g2.trans r_g1
    exact mv_iret (pc := 28) B hr rfl d_Tokens_open_28 (Nat.le_refl _) (Nat.le_refl _) ⟨_, rfl, xrh_i hf r_g2⟩
  unfold f_Tokens_open at hf
  refine mv_aload_n (pc := 0) B d_Tokens_open_0 rfl 0 rfl ?_
  refine mv_getI (pc := 1) (ci := 2) (C := R_Tokens) (T := F_Tokens) (N := 10) B 8 rfl rfl (by decide) i_Tokens (B.2.2.2.1 _ k_103) rfl d_Tokens_open_1 ?_
  refine mv_bipush (pc := 4) (v := 60) B d_Tokens_open_4 (by decide) ?_
  refine mv_icmp_ne (pc := 6) (tgt := 13) B d_Tokens_open_6 rfl (fun h6 => ?_) (fun h6 => ?_)
  · skip
    have hf := xif_f h6 hf
    refine mv_lpick [0, 1] rfl ?_
    exact jn13 _ _ rfl hf
  · skip
    have hf := xif_t h6 hf
    refine mv_aload_n (pc := 9) B d_Tokens_open_9 rfl 0 rfl ?_
    obtain ⟨g4, eg4, hf⟩ := xhv_e hf
    refine mv_callVv (pc := 10) (n := 0) (ci := 2) (C := R_Tokens) B (mK_ok sk sv) hNs rfl rfl (ch_Tokens_wrong l hi _ (hb) eg4) rfl (ma_goodc kc_Tokens_wrong) (B.2.2.2.1 _ k_1274) (B.2.2.2.1 _ k_1275) (B.2.2.2.1 _ k_1276) (B.2.2.2.1 _ k_3) ⟨by decide +kernel, by decide +kernel, by decide +kernel⟩ rfl d_Tokens_open_10 rfl (Nat.le_of_ble_eq_true rfl) ⟨by decide, by decide⟩ ⟨by decide, by decide⟩ ⟨by decide, by decide⟩ (mv_noH hno _) (fun σ10 h10 => ?_)
    obtain ⟨rfl, s_g4⟩ := h10
    have r_g4 : mv_r g4 = mv_r h := s_g4.trans rfl
    refine mv_lpick [0, 1] rfl ?_
    exact jn13 _ _ r_g4 hf
def f_Tokens_close (h : mv_H) (a0 : Int32) : Option (Int32 × mv_H) := xk (mv_si h 3 8 ((mv_i h 3 8) - (1 : Int32))) fun g1 => xhb (f_Tokens_take g1 a0) fun v3 g2 => some (v3, g2)
set_option maxHeartbeats 4000000 in
set_option maxRecDepth 100000 in
theorem ch_Tokens_close (l : Launch) {dA : FieldType → ClassId} {D : va_G} {al : Nat → Nat} {ext : mv_Sh} {sk sv : Nat → Nat} (hi : mv_inj (mg dA D al ext)) (h : mv_H) (hb : xRT (mv_r h))  (a0 : Int32) {rv : Int32} {rg : mv_H} (hf : f_Tokens_close h a0 = some (rv, rg)) : mv_C l y_Tokens_close (Cond.code y_Tokens_close b_Tokens_close 2 (Option.some Jvm.ClassFile.FieldType.int) :: ma) ({ frames := 2, cells := 0, slots := 0, locals := 42 }) (mg dA D al ext) (mK sk sv) [.ref (al 3), .int a0] h (mv_Ri (fun v σ1 => rv = v ∧ rg = σ1 ∧ mv_r σ1 = mv_r h)) := by
  refine mv_C.ofV (cc := b_Tokens_close) (nL := 2) (ret := (Option.some Jvm.ClassFile.FieldType.int)) (by decide +kernel) rfl hi (Nat.le_of_ble_eq_true rfl) ?_
  intro p e s m below meth c B hNs hr hnm hno
  unfold f_Tokens_close at hf
  refine mv_aload_n (pc := 0) B d_Tokens_close_0 rfl 0 rfl ?_
  refine mv_dup (pc := 1) B d_Tokens_close_1 rfl ?_
  refine mv_getI (pc := 2) (ci := 2) (C := R_Tokens) (T := F_Tokens) (N := 10) B 8 rfl rfl (by decide) i_Tokens (B.2.2.2.1 _ k_103) rfl d_Tokens_close_2 ?_
  refine mv_iconst (pc := 5) (v := 1) B d_Tokens_close_5 (by decide) ?_
  refine mv_isub (pc := 6) B d_Tokens_close_6 ?_
  refine mv_putI (pc := 7) (ci := 2) (C := R_Tokens) (T := F_Tokens) (N := 10) B 8 rfl rfl (by decide) i_Tokens t_Tokens_ok n_Tokens (B.2.2.2.1 _ k_103) rfl rfl rfl rfl d_Tokens_close_7 ?_
  refine mvh_hp (R9 := mv_r h) hf rfl (fun g1 hf r_g1 => ?_)
  refine mv_aload_n (pc := 10) B d_Tokens_close_10 rfl 0 rfl ?_
  refine mv_iload_n (pc := 11) B d_Tokens_close_11 rfl 1 rfl ?_
  obtain ⟨v3, g2, eg2, hf⟩ := xhb_e hf
  refine mv_callVi (pc := 12) (n := 1) (ci := 2) (C := R_Tokens) B (mK_ok sk sv) hNs rfl rfl (ch_Tokens_take l hi _ (xrw r_g1 hb) _ eg2) rfl (ma_goodc kc_Tokens_take) (B.2.2.2.1 _ k_1353) (B.2.2.2.1 _ k_1267) (B.2.2.2.1 _ k_1268) (B.2.2.2.1 _ k_3) ⟨by decide +kernel, by decide +kernel, by decide +kernel⟩ rfl d_Tokens_close_12 rfl (Nat.le_of_ble_eq_true rfl) ⟨by decide, by decide⟩ ⟨by decide, by decide⟩ ⟨by decide, by decide⟩ (mv_noH hno _) (fun w12 σ12 h12 => ?_)
  obtain ⟨rfl, rfl, s_g2⟩ := h12
  have r_g2 : mv_r g2 = mv_r h := s_g2.trans r_g1
  exact mv_iret (pc := 15) B hr rfl d_Tokens_close_15 (Nat.le_refl _) (Nat.le_refl _) ⟨_, rfl, xrh_i hf r_g2⟩
def f_Tokens_characterAt (h : mv_H) (a0 : Int32) : Option (Int32 × mv_H) := if (mv_i h 3 5) ≤ a0 then (some ((-1 : Int32), h)) else (bif xvi a0 32768 then some (((mv_a h 1 (a0).toNatClampNeg) &&& (255 : Int32)), h) else none)
set_option maxHeartbeats 4000000 in
set_option maxRecDepth 100000 in
theorem ch_Tokens_characterAt (l : Launch) {dA : FieldType → ClassId} {D : va_G} {al : Nat → Nat} {ext : mv_Sh} {sk sv : Nat → Nat} (hi : mv_inj (mg dA D al ext)) (h : mv_H) (hb : xRT (mv_r h))  (a0 : Int32) {rv : Int32} {rg : mv_H} (hf : f_Tokens_characterAt h a0 = some (rv, rg)) : mv_C l y_Tokens_characterAt (Cond.code y_Tokens_characterAt b_Tokens_characterAt 2 (Option.some Jvm.ClassFile.FieldType.int) :: ma) ({ frames := 0, cells := 0, slots := 0, locals := 0 }) (mg dA D al ext) (mK sk sv) [.ref (al 3), .int a0] h (mv_Ri (fun v σ1 => rv = v ∧ rg = σ1 ∧ mv_r σ1 = mv_r h)) := by
  refine mv_C.ofV (cc := b_Tokens_characterAt) (nL := 2) (ret := (Option.some Jvm.ClassFile.FieldType.int)) (by decide +kernel) rfl hi (Nat.le_of_ble_eq_true rfl) ?_
  intro p e s m below meth c B hNs hr hnm hno
  unfold f_Tokens_characterAt at hf
  refine mv_iload_n (pc := 0) B d_Tokens_characterAt_0 rfl 1 rfl ?_
  refine mv_aload_n (pc := 1) B d_Tokens_characterAt_1 rfl 0 rfl ?_
  refine mv_getI (pc := 2) (ci := 2) (C := R_Tokens) (T := F_Tokens) (N := 10) B 5 rfl rfl (by decide) i_Tokens (B.2.2.2.1 _ k_100) rfl d_Tokens_characterAt_2 ?_
  refine mv_icmp_ge (pc := 5) (tgt := 21) B d_Tokens_characterAt_5 rfl (fun h5 => ?_) (fun h5 => ?_)
  · skip
    have hf := xif_t h5 hf
    refine mv_iconst (pc := 21) (v := -1) B d_Tokens_characterAt_21 (by decide) ?_
    exact mv_iret (pc := 22) B hr rfl d_Tokens_characterAt_22 (Nat.le_refl _) (Nat.le_refl _) ⟨_, rfl, xrh_i hf rfl⟩
  · skip
    have hf := xif_f h5 hf
    refine mv_aload_n (pc := 8) B d_Tokens_characterAt_8 rfl 0 rfl ?_
    refine mv_getR (pc := 9) (ci := 2) (C := R_Tokens) (T := F_Tokens) (N := 10) B 4 rfl rfl (by decide) i_Tokens (B.2.2.2.1 _ k_98) rfl hb.2 d_Tokens_characterAt_9 ?_
    refine mv_iload_n (pc := 12) B d_Tokens_characterAt_12 rfl 1 rfl ?_
    obtain ⟨q1, hf⟩ := xvi_e hf
    refine mv_bald (pc := 13) B rfl q1 d_Tokens_characterAt_13 ?_
    refine mv_sipush (pc := 14) (v := 255) B d_Tokens_characterAt_14 (by decide) ?_
    refine mv_iand (pc := 17) B d_Tokens_characterAt_17 ?_
    refine mv_goto (pc := 18) (tgt := 22) B d_Tokens_characterAt_18 rfl ?_
    exact mv_iret (pc := 22) B hr rfl d_Tokens_characterAt_22 (Nat.le_refl _) (Nat.le_refl _) ⟨_, rfl, xrh_i hf rfl⟩
def f_Tokens_add (h : mv_H) (a0 : Int32) (a1 : Int32) (a2 : Int64) (a3 : Int32) : Option (Int32 × mv_H) := bif xvi (mv_i h 3 6) 32770 then xk (mv_sa h 4 ((mv_i h 3 6)).toNatClampNeg a0) fun g2 => bif xvi (mv_i g2 3 6) 32770 then xk (mv_sa g2 5 ((mv_i g2 3 6)).toNatClampNeg a1) fun g4 => bif xvi (mv_i g4 3 6) 32770 then xk (mv_sb g4 6 ((mv_i g4 3 6)).toNatClampNeg a2) fun g6 => xk (mv_si g6 3 6 ((mv_i g6 3 6) + (1 : Int32))) fun g7 => some (a3, g7) else none else none else none
set_option maxHeartbeats 4000000 in
set_option maxRecDepth 100000 in
theorem ch_Tokens_add (l : Launch) {dA : FieldType → ClassId} {D : va_G} {al : Nat → Nat} {ext : mv_Sh} {sk sv : Nat → Nat} (hi : mv_inj (mg dA D al ext)) (h : mv_H) (hb : xRT (mv_r h))  (a0 : Int32) (a1 : Int32) (a2 : Int64) (a3 : Int32) {rv : Int32} {rg : mv_H} (hf : f_Tokens_add h a0 a1 a2 a3 = some (rv, rg)) : mv_C l y_Tokens_add (Cond.code y_Tokens_add b_Tokens_add 6 (Option.some Jvm.ClassFile.FieldType.int) :: ma) ({ frames := 0, cells := 0, slots := 0, locals := 0 }) (mg dA D al ext) (mK sk sv) [.ref (al 3), .int a0, .int a1, .long a2, .int a3] h (mv_Ri (fun v σ1 => rv = v ∧ rg = σ1 ∧ mv_r σ1 = mv_r h)) := by
  refine mv_C.ofV (cc := b_Tokens_add) (nL := 6) (ret := (Option.some Jvm.ClassFile.FieldType.int)) (by decide +kernel) rfl hi (Nat.le_of_ble_eq_true rfl) ?_
  intro p e s m below meth c B hNs hr hnm hno
  unfold f_Tokens_add at hf
  refine mv_aload_n (pc := 0) B d_Tokens_add_0 rfl 0 rfl ?_
  refine mv_getR (pc := 1) (ci := 2) (C := R_Tokens) (T := F_Tokens) (N := 10) B 0 rfl rfl (by decide) i_Tokens (B.2.2.2.1 _ k_89) rfl (hb.1 3 0 _ rfl) d_Tokens_add_1 ?_
  refine mv_aload_n (pc := 4) B d_Tokens_add_4 rfl 0 rfl ?_
  refine mv_getI (pc := 5) (ci := 2) (C := R_Tokens) (T := F_Tokens) (N := 10) B 6 rfl rfl (by decide) i_Tokens (B.2.2.2.1 _ k_101) rfl d_Tokens_add_5 ?_
  refine mv_iload_n (pc := 8) B d_Tokens_add_8 rfl 1 rfl ?_
  obtain ⟨q1, hf⟩ := xvi_e hf
  refine mv_iast (pc := 9) B rfl q1 d_Tokens_add_9 ?_
  refine mvh_hp (R9 := mv_r h) hf rfl (fun g2 hf r_g2 => ?_)
  refine mv_aload_n (pc := 10) B d_Tokens_add_10 rfl 0 rfl ?_
  refine mv_getR (pc := 11) (ci := 2) (C := R_Tokens) (T := F_Tokens) (N := 10) B 1 rfl rfl (by decide) i_Tokens (B.2.2.2.1 _ k_90) rfl ((congrFun (congrFun r_g2 3) 1).trans (hb.1 3 1 _ rfl)) d_Tokens_add_11 ?_
  refine mv_aload_n (pc := 14) B d_Tokens_add_14 rfl 0 rfl ?_
  refine mv_getI (pc := 15) (ci := 2) (C := R_Tokens) (T := F_Tokens) (N := 10) B 6 rfl rfl (by decide) i_Tokens (B.2.2.2.1 _ k_101) rfl d_Tokens_add_15 ?_
  refine mv_iload_n (pc := 18) B d_Tokens_add_18 rfl 2 rfl ?_
  obtain ⟨q3, hf⟩ := xvi_e hf
  refine mv_iast (pc := 19) B rfl q3 d_Tokens_add_19 ?_
  refine mvh_hp (R9 := mv_r h) hf r_g2 (fun g4 hf r_g4 => ?_)
  refine mv_aload_n (pc := 20) B d_Tokens_add_20 rfl 0 rfl ?_
  refine mv_getR (pc := 21) (ci := 2) (C := R_Tokens) (T := F_Tokens) (N := 10) B 2 rfl rfl (by decide) i_Tokens (B.2.2.2.1 _ k_93) rfl ((congrFun (congrFun r_g4 3) 2).trans (hb.1 3 2 _ rfl)) d_Tokens_add_21 ?_
  refine mv_aload_n (pc := 24) B d_Tokens_add_24 rfl 0 rfl ?_
  refine mv_getI (pc := 25) (ci := 2) (C := R_Tokens) (T := F_Tokens) (N := 10) B 6 rfl rfl (by decide) i_Tokens (B.2.2.2.1 _ k_101) rfl d_Tokens_add_25 ?_
  refine mv_lload_n (pc := 28) B d_Tokens_add_28 rfl 3 rfl ?_
  obtain ⟨q5, hf⟩ := xvi_e hf
  refine mv_last (pc := 29) B rfl q5 d_Tokens_add_29 ?_
  refine mvh_hp (R9 := mv_r h) hf r_g4 (fun g6 hf r_g6 => ?_)
  refine mv_aload_n (pc := 30) B d_Tokens_add_30 rfl 0 rfl ?_
  refine mv_dup (pc := 31) B d_Tokens_add_31 rfl ?_
  refine mv_getI (pc := 32) (ci := 2) (C := R_Tokens) (T := F_Tokens) (N := 10) B 6 rfl rfl (by decide) i_Tokens (B.2.2.2.1 _ k_101) rfl d_Tokens_add_32 ?_
  refine mv_iconst (pc := 35) (v := 1) B d_Tokens_add_35 (by decide) ?_
  refine mv_iadd (pc := 36) B d_Tokens_add_36 ?_
  refine mv_putI (pc := 37) (ci := 2) (C := R_Tokens) (T := F_Tokens) (N := 10) B 6 rfl rfl (by decide) i_Tokens t_Tokens_ok n_Tokens (B.2.2.2.1 _ k_101) rfl rfl rfl rfl d_Tokens_add_37 ?_
  refine mvh_hp (R9 := mv_r h) hf r_g6 (fun g7 hf r_g7 => ?_)
  refine mv_iload (pc := 40) B d_Tokens_add_40 4 rfl ?_
  exact mv_iret (pc := 42) B hr rfl d_Tokens_add_42 (Nat.le_refl _) (Nat.le_refl _) ⟨_, rfl, xrh_i hf r_g7⟩
def f_Tokens_broken (h : mv_H) (a0 : Int32) : Option (Int32 × mv_H) := xhb (f_Tokens_add h (2 : Int32) a0 (0 : Int64) (-1 : Int32)) fun v2 g1 => some (v2, g1)
set_option maxHeartbeats 4000000 in
set_option maxRecDepth 100000 in
theorem ch_Tokens_broken (l : Launch) {dA : FieldType → ClassId} {D : va_G} {al : Nat → Nat} {ext : mv_Sh} {sk sv : Nat → Nat} (hi : mv_inj (mg dA D al ext)) (h : mv_H) (hb : xRT (mv_r h))  (a0 : Int32) {rv : Int32} {rg : mv_H} (hf : f_Tokens_broken h a0 = some (rv, rg)) : mv_C l y_Tokens_broken (Cond.code y_Tokens_broken b_Tokens_broken 2 (Option.some Jvm.ClassFile.FieldType.int) :: ma) ({ frames := 1, cells := 0, slots := 0, locals := 25 }) (mg dA D al ext) (mK sk sv) [.ref (al 3), .int a0] h (mv_Ri (fun v σ1 => rv = v ∧ rg = σ1 ∧ mv_r σ1 = mv_r h)) := by
  refine mv_C.ofV (cc := b_Tokens_broken) (nL := 2) (ret := (Option.some Jvm.ClassFile.FieldType.int)) (by decide +kernel) rfl hi (Nat.le_of_ble_eq_true rfl) ?_
  intro p e s m below meth c B hNs hr hnm hno
  unfold f_Tokens_broken at hf
  refine mv_aload_n (pc := 0) B d_Tokens_broken_0 rfl 0 rfl ?_
  refine mv_iconst (pc := 1) (v := 2) B d_Tokens_broken_1 (by decide) ?_
  refine mv_iload_n (pc := 2) B d_Tokens_broken_2 rfl 1 rfl ?_
  refine mv_lconst (pc := 3) (v := 0) B d_Tokens_broken_3 (by decide) ?_
  refine mv_iconst (pc := 4) (v := -1) B d_Tokens_broken_4 (by decide) ?_
  obtain ⟨v2, g1, eg1, hf⟩ := xhb_e hf
  refine mv_callVi (pc := 5) (n := 4) (ci := 2) (C := R_Tokens) B (mK_ok sk sv) hNs rfl rfl (ch_Tokens_add l hi _ (hb) _ _ _ _ eg1) rfl (ma_goodc kc_Tokens_add) (B.2.2.2.1 _ k_831) (B.2.2.2.1 _ k_833) (B.2.2.2.1 _ ks_22) (B.2.2.2.1 _ k_3) ⟨by decide +kernel, by decide +kernel, by decide +kernel⟩ rfl d_Tokens_broken_5 rfl (Nat.le_of_ble_eq_true rfl) ⟨by decide, by decide⟩ ⟨by decide, by decide⟩ ⟨by decide, by decide⟩ (mv_noH hno _) (fun w5 σ5 h5 => ?_)
  obtain ⟨rfl, rfl, s_g1⟩ := h5
  have r_g1 : mv_r g1 = mv_r h := s_g1.trans rfl
  exact mv_iret (pc := 8) B hr rfl d_Tokens_broken_8 (Nat.le_refl _) (Nat.le_refl _) ⟨_, rfl, xrh_i hf r_g1⟩
def f_Tokens_number_22 (x2 : Int32) (hz : mv_H) : Option (Int32 × mv_H) := xhb (f_Tokens_broken hz x2) fun v2 g1 => some (v2, g1)
def f_Tokens_number (h : mv_H) (a0 : Int32) (a1 : Int32) (a2 : Int64) : Option (Int32 × mv_H) := xhb (f_Tokens_characterAt h a1) fun v4 g3 => xhb (f_Tokens_isLetter g3 v4) fun v6 g5 => if v6 = (0 : Int32) then (if v4 = (95 : Int32) then (f_Tokens_number_22 a1 g5) else (xhb (f_Tokens_add g5 (4 : Int32) a0 a2 a1) fun v8 g7 => some (v8, g7))) else (f_Tokens_number_22 a1 g5)
set_option maxHeartbeats 4000000 in
set_option maxRecDepth 100000 in
theorem ch_Tokens_number (l : Launch) {dA : FieldType → ClassId} {D : va_G} {al : Nat → Nat} {ext : mv_Sh} {sk sv : Nat → Nat} (hi : mv_inj (mg dA D al ext)) (h : mv_H) (hb : xRT (mv_r h))  (a0 : Int32) (a1 : Int32) (a2 : Int64) {rv : Int32} {rg : mv_H} (hf : f_Tokens_number h a0 a1 a2 = some (rv, rg)) : mv_C l y_Tokens_number (Cond.code y_Tokens_number b_Tokens_number 6 (Option.some Jvm.ClassFile.FieldType.int) :: ma) ({ frames := 2, cells := 0, slots := 0, locals := 46 }) (mg dA D al ext) (mK sk sv) [.ref (al 3), .int a0, .int a1, .long a2] h (mv_Ri (fun v σ1 => rv = v ∧ rg = σ1 ∧ mv_r σ1 = mv_r h)) := by
  refine mv_C.ofV (cc := b_Tokens_number) (nL := 6) (ret := (Option.some Jvm.ClassFile.FieldType.int)) (by decide +kernel) rfl hi (Nat.le_of_ble_eq_true rfl) ?_
  intro p e s m below meth c B hNs hr hnm hno
  have jn22 : ∀ (x2 : Int32) (hz : mv_H), mv_r hz = mv_r h → f_Tokens_number_22 x2 hz = some (rv, rg) → mv_V p l e ({ frames := 2, cells := 0, slots := 0, locals := 46 }) s m ([.ref (al 3), .int a0, .int a1, .long a2] : List Value).toArray below meth c (mg dA D al ext) 6 0 0 (mv_Q (mg dA D al ext) below s 0 0 (mv_Ri (fun v σ1 => rv = v ∧ rg = σ1 ∧ mv_r σ1 = mv_r h))) hz 22 [(0, .ref (al 3)), (2, .int x2)] [] := by
    intro x2 hz r_hz hf
    unfold f_Tokens_number_22 at hf
    refine mv_aload_n (pc := 22) B d_Tokens_number_22 rfl 0 rfl ?_
    refine mv_iload_n (pc := 23) B d_Tokens_number_23 rfl 1 rfl ?_
    obtain ⟨v2, g1, eg1, hf⟩ := xhb_e hf
    refine mv_callVi (pc := 24) (n := 1) (ci := 2) (C := R_Tokens) B (mK_ok sk sv) hNs rfl rfl (ch_Tokens_broken l hi _ (xrw r_hz hb) _ eg1) rfl (ma_goodc kc_Tokens_broken) (B.2.2.2.1 _ k_845) (B.2.2.2.1 _ k_847) (B.2.2.2.1 _ ks_24) (B.2.2.2.1 _ k_3) ⟨by decide +kernel, by decide +kernel, by decide +kernel⟩ rfl d_Tokens_number_24 rfl (Nat.le_of_ble_eq_true rfl) ⟨by decide, by decide⟩ ⟨by decide, by decide⟩ ⟨by decide, by decide⟩ (mv_noH hno _) (fun w24 σ24 h24 => ?_)
    obtain ⟨rfl, rfl, s_g1⟩ := h24
    have r_g1 : mv_r g1 = mv_r h := s_g1.trans r_hz
    refine mv_goto (pc := 27) (tgt := 38) B d_Tokens_number_27 rfl ?_
    exact mv_iret (pc := 38) B hr rfl d_Tokens_number_38 (Nat.le_refl _) (Nat.le_refl _) ⟨_, rfl, xrh_i hf r_g1⟩
  unfold f_Tokens_number at hf
  refine mv_aload_n (pc := 0) B d_Tokens_number_0 rfl 0 rfl ?_
  refine mv_iload_n (pc := 1) B d_Tokens_number_1 rfl 2 rfl ?_
  obtain ⟨v4, g3, eg3, hf⟩ := xhb_e hf
  refine mv_callVi (pc := 2) (n := 1) (ci := 2) (C := R_Tokens) B (mK_ok sk sv) hNs rfl rfl (ch_Tokens_characterAt l hi _ (hb) _ eg3) rfl (ma_goodc kc_Tokens_characterAt) (B.2.2.2.1 _ k_827) (B.2.2.2.1 _ k_829) (B.2.2.2.1 _ ks_21) (B.2.2.2.1 _ k_3) ⟨by decide +kernel, by decide +kernel, by decide +kernel⟩ rfl d_Tokens_number_2 rfl (Nat.le_of_ble_eq_true rfl) ⟨by decide, by decide⟩ ⟨by decide, by decide⟩ ⟨by decide, by decide⟩ (mv_noH hno _) (fun w2 σ2 h2 => ?_)
  obtain ⟨rfl, rfl, s_g3⟩ := h2
  have r_g3 : mv_r g3 = mv_r h := s_g3.trans rfl
  refine mv_istore (pc := 5) B d_Tokens_number_5 (by decide) rfl ?_
  refine mv_iload (pc := 7) B d_Tokens_number_7 0 rfl ?_
  obtain ⟨v6, g5, eg5, hf⟩ := xhb_e hf
  refine mv_callSi (pc := 9) (n := 1) B (mK_ok sk sv) hNs (ch_Tokens_isLetter l hi _ _ eg5) rfl (ma_goodc kc_Tokens_isLetter) (B.2.2.2.1 _ k_853) (B.2.2.2.1 _ k_854) (B.2.2.2.1 _ k_3) ⟨by decide +kernel, by decide +kernel, by decide +kernel⟩ rfl d_Tokens_number_9 rfl (Nat.le_of_ble_eq_true rfl) ⟨by decide, by decide⟩ ⟨by decide, by decide⟩ ⟨by decide, by decide⟩ (mv_noH hno _) (fun w9 σ9 h9 => ?_)
  obtain ⟨rfl, rfl, s_g5⟩ := h9
  have r_g5 : mv_r g5 = mv_r h := s_g5.trans r_g3
  refine mv_if_ne (pc := 12) (tgt := 22) B d_Tokens_number_12 rfl (fun h12 => ?_) (fun h12 => ?_)
  · skip
    have hf := xif_f h12 hf
    refine mv_lpick [1, 3] rfl ?_
    exact jn22 _ _ r_g5 hf
  · skip
    have hf := xif_t h12 hf
    refine mv_iload (pc := 15) B d_Tokens_number_15 0 rfl ?_
    refine mv_bipush (pc := 17) (v := 95) B d_Tokens_number_17 (by decide) ?_
    refine mv_icmp_ne (pc := 19) (tgt := 30) B d_Tokens_number_19 rfl (fun h19 => ?_) (fun h19 => ?_)
    · skip
      have hf := xif_f h19 hf
      refine mv_aload_n (pc := 30) B d_Tokens_number_30 rfl 1 rfl ?_
      refine mv_iconst (pc := 31) (v := 4) B d_Tokens_number_31 (by decide) ?_
      refine mv_iload_n (pc := 32) B d_Tokens_number_32 rfl 2 rfl ?_
      refine mv_lload_n (pc := 33) B d_Tokens_number_33 rfl 4 rfl ?_
      refine mv_iload_n (pc := 34) B d_Tokens_number_34 rfl 3 rfl ?_
      obtain ⟨v8, g7, eg7, hf⟩ := xhb_e hf
      refine mv_callVi (pc := 35) (n := 4) (ci := 2) (C := R_Tokens) B (mK_ok sk sv) hNs rfl rfl (ch_Tokens_add l hi _ (xrw r_g5 hb) _ _ _ _ eg7) rfl (ma_goodc kc_Tokens_add) (B.2.2.2.1 _ k_831) (B.2.2.2.1 _ k_833) (B.2.2.2.1 _ ks_22) (B.2.2.2.1 _ k_3) ⟨by decide +kernel, by decide +kernel, by decide +kernel⟩ rfl d_Tokens_number_35 rfl (Nat.le_of_ble_eq_true rfl) ⟨by decide, by decide⟩ ⟨by decide, by decide⟩ ⟨by decide, by decide⟩ (mv_noH hno _) (fun w35 σ35 h35 => ?_)
      obtain ⟨rfl, rfl, s_g7⟩ := h35
      have r_g7 : mv_r g7 = mv_r h := s_g7.trans r_g5
      exact mv_iret (pc := 38) B hr rfl d_Tokens_number_38 (Nat.le_refl _) (Nat.le_refl _) ⟨_, rfl, xrh_i hf r_g7⟩
    · skip
      have hf := xif_t h19 hf
      refine mv_lpick [1, 3] rfl ?_
      exact jn22 _ _ r_g5 hf
def f_Tokens_behindSpaces_71 (k4 : Int32 → Int32 → mv_H → Option (Int32 × mv_H)) (x2 : Int32) (x3 : Int32) (hz : mv_H) : Option (Int32 × mv_H) := k4 x2 (x3 + 1) hz
def fF_Tokens_behindSpaces_4 (k4 : Int32 → Int32 → mv_H → Option (Int32 × mv_H)) (x2 : Int32) (x3 : Int32) (hz : mv_H) : Option (Int32 × mv_H) := if (mv_i hz 3 5) ≤ x3 then (some ((mv_i hz 3 5), hz)) else (bif xvi x3 32768 then if (mv_a hz 1 (x3).toNatClampNeg) = (35 : Int32) then (f_Tokens_behindSpaces_71 k4 (1 : Int32) x3 hz) else (if (mv_a hz 1 (x3).toNatClampNeg) = (10 : Int32) then (f_Tokens_behindSpaces_71 k4 (0 : Int32) x3 hz) else (if x2 = (0 : Int32) then (if (mv_a hz 1 (x3).toNatClampNeg) = (32 : Int32) then (f_Tokens_behindSpaces_71 k4 x2 x3 hz) else (if (mv_a hz 1 (x3).toNatClampNeg) = (9 : Int32) then (f_Tokens_behindSpaces_71 k4 x2 x3 hz) else (if (mv_a hz 1 (x3).toNatClampNeg) = (13 : Int32) then (f_Tokens_behindSpaces_71 k4 x2 x3 hz) else (some (x3, hz))))) else (f_Tokens_behindSpaces_71 k4 x2 x3 hz))) else none)
def f_Tokens_behindSpaces_4 : Nat → Int32 → Int32 → mv_H → Option (Int32 × mv_H)
  | 0 => fun _ _ _ => none
  | nn + 1 => fF_Tokens_behindSpaces_4 (f_Tokens_behindSpaces_4 nn)
def f_Tokens_behindSpaces (h : mv_H) (a0 : Int32) : Option (Int32 × mv_H) := f_Tokens_behindSpaces_4 200000 (0 : Int32) a0 h
set_option maxHeartbeats 4000000 in
set_option maxRecDepth 100000 in
theorem ch_Tokens_behindSpaces (l : Launch) {dA : FieldType → ClassId} {D : va_G} {al : Nat → Nat} {ext : mv_Sh} {sk sv : Nat → Nat} (hi : mv_inj (mg dA D al ext)) (h : mv_H) (hb : xRT (mv_r h))  (a0 : Int32) {rv : Int32} {rg : mv_H} (hf : f_Tokens_behindSpaces h a0 = some (rv, rg)) : mv_C l y_Tokens_behindSpaces (Cond.code y_Tokens_behindSpaces b_Tokens_behindSpaces 5 (Option.some Jvm.ClassFile.FieldType.int) :: ma) ({ frames := 0, cells := 0, slots := 0, locals := 0 }) (mg dA D al ext) (mK sk sv) [.ref (al 3), .int a0] h (mv_Ri (fun v σ1 => rv = v ∧ rg = σ1 ∧ mv_r σ1 = mv_r h)) := by
  refine mv_C.ofV (cc := b_Tokens_behindSpaces) (nL := 5) (ret := (Option.some Jvm.ClassFile.FieldType.int)) (by decide +kernel) rfl hi (Nat.le_of_ble_eq_true rfl) ?_
  intro p e s m below meth c B hNs hr hnm hno
  have lp4 : ∀ (nn4 : Nat) (x2 : Int32) (x3 : Int32) (hz : mv_H), mv_r hz = mv_r h → f_Tokens_behindSpaces_4 nn4 x2 x3 hz = some (rv, rg) → mv_V p l e ({ frames := 0, cells := 0, slots := 0, locals := 0 }) s m ([.ref (al 3), .int a0] : List Value).toArray below meth c (mg dA D al ext) 5 0 0 (mv_Q (mg dA D al ext) below s 0 0 (mv_Ri (fun v σ1 => rv = v ∧ rg = σ1 ∧ mv_r σ1 = mv_r h))) hz 4 [(0, .ref (al 3)), (2, .int x2), (3, .int x3)] [] := by
    intro nn4
    induction nn4 with
    | zero => intro x2 x3 hz r_hz hf; cases hf
    | succ nn4 ih4 =>
      intro x2 x3 hz r_hz hf
      have jn71 : ∀ (x2 : Int32) (x3 : Int32) (hz : mv_H), mv_r hz = mv_r h → f_Tokens_behindSpaces_71 (f_Tokens_behindSpaces_4 nn4) x2 x3 hz = some (rv, rg) → mv_V p l e ({ frames := 0, cells := 0, slots := 0, locals := 0 }) s m ([.ref (al 3), .int a0] : List Value).toArray below meth c (mg dA D al ext) 5 0 0 (mv_Q (mg dA D al ext) below s 0 0 (mv_Ri (fun v σ1 => rv = v ∧ rg = σ1 ∧ mv_r σ1 = mv_r h))) hz 71 [(0, .ref (al 3)), (2, .int x2), (3, .int x3)] [] := by
        intro x2 x3 hz r_hz hf
        unfold f_Tokens_behindSpaces_71 at hf
        refine mv_iinc (pc := 71) (j := 2) (v := 1) B d_Tokens_behindSpaces_71 rfl (by decide) (by decide) rfl ?_
        refine mv_goto (pc := 74) (tgt := 4) B d_Tokens_behindSpaces_74 rfl ?_
        refine mv_lpick [1, 2, 0] rfl ?_
        exact ih4 _ _ _ r_hz hf
      have hf : fF_Tokens_behindSpaces_4 (f_Tokens_behindSpaces_4 nn4) x2 x3 hz = some (rv, rg) := hf
      unfold fF_Tokens_behindSpaces_4 at hf
      refine mv_iload_n (pc := 4) B d_Tokens_behindSpaces_4 rfl 2 rfl ?_
      refine mv_aload_n (pc := 5) B d_Tokens_behindSpaces_5 rfl 0 rfl ?_
      refine mv_getI (pc := 6) (ci := 2) (C := R_Tokens) (T := F_Tokens) (N := 10) B 5 rfl rfl (by decide) i_Tokens (B.2.2.2.1 _ k_100) rfl d_Tokens_behindSpaces_6 ?_
      refine mv_icmp_ge (pc := 9) (tgt := 77) B d_Tokens_behindSpaces_9 rfl (fun h9 => ?_) (fun h9 => ?_)
      · skip
        have hf := xif_t h9 hf
        refine mv_aload_n (pc := 77) B d_Tokens_behindSpaces_77 rfl 0 rfl ?_
        refine mv_getI (pc := 78) (ci := 2) (C := R_Tokens) (T := F_Tokens) (N := 10) B 5 rfl rfl (by decide) i_Tokens (B.2.2.2.1 _ k_100) rfl d_Tokens_behindSpaces_78 ?_
        exact mv_iret (pc := 81) B hr rfl d_Tokens_behindSpaces_81 (Nat.le_refl _) (Nat.le_refl _) ⟨_, rfl, xrh_i hf r_hz⟩
      · skip
        have hf := xif_f h9 hf
        refine mv_aload_n (pc := 12) B d_Tokens_behindSpaces_12 rfl 0 rfl ?_
        refine mv_getR (pc := 13) (ci := 2) (C := R_Tokens) (T := F_Tokens) (N := 10) B 4 rfl rfl (by decide) i_Tokens (B.2.2.2.1 _ k_98) rfl ((congrFun (congrFun r_hz 3) 4).trans hb.2) d_Tokens_behindSpaces_13 ?_
        refine mv_iload_n (pc := 16) B d_Tokens_behindSpaces_16 rfl 2 rfl ?_
        obtain ⟨q1, hf⟩ := xvi_e hf
        refine mv_bald (pc := 17) B rfl q1 d_Tokens_behindSpaces_17 ?_
        refine mv_istore (pc := 18) B d_Tokens_behindSpaces_18 (by decide) rfl ?_
        refine mv_iload (pc := 20) B d_Tokens_behindSpaces_20 0 rfl ?_
        refine mv_bipush (pc := 22) (v := 35) B d_Tokens_behindSpaces_22 (by decide) ?_
        refine mv_icmp_ne (pc := 24) (tgt := 32) B d_Tokens_behindSpaces_24 rfl (fun h24 => ?_) (fun h24 => ?_)
        · skip
          have hf := xif_f h24 hf
          refine mv_iload (pc := 32) B d_Tokens_behindSpaces_32 0 rfl ?_
          refine mv_bipush (pc := 34) (v := 10) B d_Tokens_behindSpaces_34 (by decide) ?_
          refine mv_icmp_ne (pc := 36) (tgt := 44) B d_Tokens_behindSpaces_36 rfl (fun h36 => ?_) (fun h36 => ?_)
          · skip
            have hf := xif_f h36 hf
            refine mv_iload_n (pc := 44) B d_Tokens_behindSpaces_44 rfl 2 rfl ?_
            refine mv_if_ne (pc := 45) (tgt := 71) B d_Tokens_behindSpaces_45 rfl (fun h45 => ?_) (fun h45 => ?_)
            · skip
              have hf := xif_f h45 hf
              refine mv_lpick [1, 2, 3] rfl ?_
              exact jn71 _ _ _ r_hz hf
            · skip
              have hf := xif_t h45 hf
              refine mv_iload (pc := 48) B d_Tokens_behindSpaces_48 0 rfl ?_
              refine mv_bipush (pc := 50) (v := 32) B d_Tokens_behindSpaces_50 (by decide) ?_
              refine mv_icmp_eq (pc := 52) (tgt := 71) B d_Tokens_behindSpaces_52 rfl (fun h52 => ?_) (fun h52 => ?_)
              · skip
                have hf := xif_t h52 hf
                refine mv_lpick [1, 2, 3] rfl ?_
                exact jn71 _ _ _ r_hz hf
              · skip
                have hf := xif_f h52 hf
                refine mv_iload (pc := 55) B d_Tokens_behindSpaces_55 0 rfl ?_
                refine mv_bipush (pc := 57) (v := 9) B d_Tokens_behindSpaces_57 (by decide) ?_
                refine mv_icmp_eq (pc := 59) (tgt := 71) B d_Tokens_behindSpaces_59 rfl (fun h59 => ?_) (fun h59 => ?_)
                · skip
                  have hf := xif_t h59 hf
                  refine mv_lpick [1, 2, 3] rfl ?_
                  exact jn71 _ _ _ r_hz hf
                · skip
                  have hf := xif_f h59 hf
                  refine mv_iload (pc := 62) B d_Tokens_behindSpaces_62 0 rfl ?_
                  refine mv_bipush (pc := 64) (v := 13) B d_Tokens_behindSpaces_64 (by decide) ?_
                  refine mv_icmp_eq (pc := 66) (tgt := 71) B d_Tokens_behindSpaces_66 rfl (fun h66 => ?_) (fun h66 => ?_)
                  · skip
                    have hf := xif_t h66 hf
                    refine mv_lpick [1, 2, 3] rfl ?_
                    exact jn71 _ _ _ r_hz hf
                  · skip
                    have hf := xif_f h66 hf
                    refine mv_iload_n (pc := 69) B d_Tokens_behindSpaces_69 rfl 3 rfl ?_
                    exact mv_iret (pc := 70) B hr rfl d_Tokens_behindSpaces_70 (Nat.le_refl _) (Nat.le_refl _) ⟨_, rfl, xrh_i hf r_hz⟩
          · skip
            have hf := xif_t h36 hf
            refine mv_iconst (pc := 39) (v := 0) B d_Tokens_behindSpaces_39 (by decide) ?_
            refine mv_istore_n (pc := 40) B d_Tokens_behindSpaces_40 rfl (by decide) rfl ?_
            refine mv_goto (pc := 41) (tgt := 71) B d_Tokens_behindSpaces_41 rfl ?_
            refine mv_lpick [2, 0, 3] rfl ?_
            exact jn71 _ _ _ r_hz hf
        · skip
          have hf := xif_t h24 hf
          refine mv_iconst (pc := 27) (v := 1) B d_Tokens_behindSpaces_27 (by decide) ?_
          refine mv_istore_n (pc := 28) B d_Tokens_behindSpaces_28 rfl (by decide) rfl ?_
          refine mv_goto (pc := 29) (tgt := 71) B d_Tokens_behindSpaces_29 rfl ?_
          refine mv_lpick [2, 0, 3] rfl ?_
          exact jn71 _ _ _ r_hz hf
  unfold f_Tokens_behindSpaces at hf
  refine mv_iconst (pc := 0) (v := 0) B d_Tokens_behindSpaces_0 (by decide) ?_
  refine mv_istore_n (pc := 1) B d_Tokens_behindSpaces_1 rfl (by decide) rfl ?_
  refine mv_iload_n (pc := 2) B d_Tokens_behindSpaces_2 rfl 2 rfl ?_
  refine mv_istore_n (pc := 3) B d_Tokens_behindSpaces_3 rfl (by decide) rfl ?_
  refine mv_lpick [2, 1, 0] rfl ?_
  exact lp4 _ _ _ _ rfl hf
def f_Tokens_cutDecimal_102 (x1 : Int32) (x2 : Int64) (x4 : Int32) (hz : mv_H) : Option (Int32 × mv_H) := xhb (f_Tokens_number hz x1 x4 x2) fun v2 g1 => some (v2, g1)
def f_Tokens_cutDecimal_86 (k5 : Int32 → Int64 → Int32 → mv_H → Option (Int32 × mv_H)) (x1 : Int32) (x2 : Int64) (x4 : Int32) (x5 : Int32) (hz : mv_H) : Option (Int32 × mv_H) := k5 x1 ((x2 * (10 : Int64)) + ((x5).toInt64)) (x4 + 1) hz
def f_Tokens_cutDecimal_79 (x4 : Int32) (hz : mv_H) : Option (Int32 × mv_H) := xhb (f_Tokens_broken hz x4) fun v4 g3 => some (v4, g3)
def f_Tokens_cutDecimal_58 (k5 : Int32 → Int64 → Int32 → mv_H → Option (Int32 × mv_H)) (x1 : Int32) (x2 : Int64) (x4 : Int32) (x5 : Int32) (y0 : Int32) (hz : mv_H) : Option (Int32 × mv_H) := if y0 = (0 : Int32) then (if (lg_cmp x2 (1844674407370955161 : Int64)) = (0 : Int32) then (if x5 ≤ (5 : Int32) then (f_Tokens_cutDecimal_86 k5 x1 x2 x4 x5 hz) else (f_Tokens_cutDecimal_79 x4 hz)) else (f_Tokens_cutDecimal_86 k5 x1 x2 x4 x5 hz)) else (f_Tokens_cutDecimal_79 x4 hz)
def f_Tokens_cutDecimal_53 (k5 : Int32 → Int64 → Int32 → mv_H → Option (Int32 × mv_H)) (x1 : Int32) (x2 : Int64) (x4 : Int32) (x5 : Int32) (hz : mv_H) : Option (Int32 × mv_H) := f_Tokens_cutDecimal_58 k5 x1 x2 x4 x5 (1 : Int32) hz
def fF_Tokens_cutDecimal_5 (k5 : Int32 → Int64 → Int32 → mv_H → Option (Int32 × mv_H)) (x1 : Int32) (x2 : Int64) (x4 : Int32) (hz : mv_H) : Option (Int32 × mv_H) := if (mv_i hz 3 5) ≤ x4 then (f_Tokens_cutDecimal_102 x1 x2 x4 hz) else (bif xvi x4 32768 then xhb (f_Tokens_isDigit hz (mv_a hz 1 (x4).toNatClampNeg)) fun v7 g6 => if v7 = (0 : Int32) then (f_Tokens_cutDecimal_102 x1 x2 x4 g6) else (bif xvi x4 32768 then if (lg_cmp x2 (0 : Int64)) < (0 : Int32) then (f_Tokens_cutDecimal_53 k5 x1 x2 x4 ((mv_a g6 1 (x4).toNatClampNeg) - (48 : Int32)) g6) else (if (lg_cmp x2 (1844674407370955161 : Int64)) ≤ (0 : Int32) then (f_Tokens_cutDecimal_58 k5 x1 x2 x4 ((mv_a g6 1 (x4).toNatClampNeg) - (48 : Int32)) (0 : Int32) g6) else (f_Tokens_cutDecimal_53 k5 x1 x2 x4 ((mv_a g6 1 (x4).toNatClampNeg) - (48 : Int32)) g6)) else none) else none)
def f_Tokens_cutDecimal_5 : Nat → Int32 → Int64 → Int32 → mv_H → Option (Int32 × mv_H)
  | 0 => fun _ _ _ _ => none
  | nn + 1 => fF_Tokens_cutDecimal_5 (f_Tokens_cutDecimal_5 nn)
def f_Tokens_cutDecimal (h : mv_H) (a0 : Int32) : Option (Int32 × mv_H) := f_Tokens_cutDecimal_5 200000 a0 (0 : Int64) a0 h
set_option maxHeartbeats 4000000 in
set_option maxRecDepth 100000 in
theorem ch_Tokens_cutDecimal (l : Launch) {dA : FieldType → ClassId} {D : va_G} {al : Nat → Nat} {ext : mv_Sh} {sk sv : Nat → Nat} (hi : mv_inj (mg dA D al ext)) (h : mv_H) (hb : xRT (mv_r h))  (a0 : Int32) {rv : Int32} {rg : mv_H} (hf : f_Tokens_cutDecimal h a0 = some (rv, rg)) : mv_C l y_Tokens_cutDecimal (Cond.code y_Tokens_cutDecimal b_Tokens_cutDecimal 7 (Option.some Jvm.ClassFile.FieldType.int) :: ma) ({ frames := 3, cells := 0, slots := 0, locals := 71 }) (mg dA D al ext) (mK sk sv) [.ref (al 3), .int a0] h (mv_Ri (fun v σ1 => rv = v ∧ rg = σ1 ∧ mv_r σ1 = mv_r h)) := by
  refine mv_C.ofV (cc := b_Tokens_cutDecimal) (nL := 7) (ret := (Option.some Jvm.ClassFile.FieldType.int)) (by decide +kernel) rfl hi (Nat.le_of_ble_eq_true rfl) ?_
  intro p e s m below meth c B hNs hr hnm hno
  have jn102 : ∀ (x1 : Int32) (x2 : Int64) (x4 : Int32) (hz : mv_H), mv_r hz = mv_r h → f_Tokens_cutDecimal_102 x1 x2 x4 hz = some (rv, rg) → mv_V p l e ({ frames := 3, cells := 0, slots := 0, locals := 71 }) s m ([.ref (al 3), .int a0] : List Value).toArray below meth c (mg dA D al ext) 7 0 0 (mv_Q (mg dA D al ext) below s 0 0 (mv_Ri (fun v σ1 => rv = v ∧ rg = σ1 ∧ mv_r σ1 = mv_r h))) hz 102 [(0, .ref (al 3)), (1, .int x1), (2, .long x2), (4, .int x4)] [] := by
    intro x1 x2 x4 hz r_hz hf
    unfold f_Tokens_cutDecimal_102 at hf
    refine mv_aload_n (pc := 102) B d_Tokens_cutDecimal_102 rfl 0 rfl ?_
    refine mv_iload_n (pc := 103) B d_Tokens_cutDecimal_103 rfl 1 rfl ?_
    refine mv_iload (pc := 104) B d_Tokens_cutDecimal_104 3 rfl ?_
    refine mv_lload_n (pc := 106) B d_Tokens_cutDecimal_106 rfl 2 rfl ?_
    obtain ⟨v2, g1, eg1, hf⟩ := xhb_e hf
    refine mv_callVi (pc := 107) (n := 3) (ci := 2) (C := R_Tokens) B (mK_ok sk sv) hNs rfl rfl (ch_Tokens_number l hi _ (xrw r_hz hb) _ _ _ eg1) rfl (ma_goodc kc_Tokens_number) (B.2.2.2.1 _ k_849) (B.2.2.2.1 _ k_851) (B.2.2.2.1 _ ks_25) (B.2.2.2.1 _ k_3) ⟨by decide +kernel, by decide +kernel, by decide +kernel⟩ rfl d_Tokens_cutDecimal_107 rfl (Nat.le_of_ble_eq_true rfl) ⟨by decide, by decide⟩ ⟨by decide, by decide⟩ ⟨by decide, by decide⟩ (mv_noH hno _) (fun w107 σ107 h107 => ?_)
    obtain ⟨rfl, rfl, s_g1⟩ := h107
    have r_g1 : mv_r g1 = mv_r h := s_g1.trans r_hz
    exact mv_iret (pc := 110) B hr rfl d_Tokens_cutDecimal_110 (Nat.le_refl _) (Nat.le_refl _) ⟨_, rfl, xrh_i hf r_g1⟩
  have jn79 : ∀ (x4 : Int32) (hz : mv_H), mv_r hz = mv_r h → f_Tokens_cutDecimal_79 x4 hz = some (rv, rg) → mv_V p l e ({ frames := 3, cells := 0, slots := 0, locals := 71 }) s m ([.ref (al 3), .int a0] : List Value).toArray below meth c (mg dA D al ext) 7 0 0 (mv_Q (mg dA D al ext) below s 0 0 (mv_Ri (fun v σ1 => rv = v ∧ rg = σ1 ∧ mv_r σ1 = mv_r h))) hz 79 [(0, .ref (al 3)), (4, .int x4)] [] := by
    intro x4 hz r_hz hf
    unfold f_Tokens_cutDecimal_79 at hf
    refine mv_aload_n (pc := 79) B d_Tokens_cutDecimal_79 rfl 0 rfl ?_
    refine mv_iload (pc := 80) B d_Tokens_cutDecimal_80 1 rfl ?_
    obtain ⟨v4, g3, eg3, hf⟩ := xhb_e hf
    refine mv_callVi (pc := 82) (n := 1) (ci := 2) (C := R_Tokens) B (mK_ok sk sv) hNs rfl rfl (ch_Tokens_broken l hi _ (xrw r_hz hb) _ eg3) rfl (ma_goodc kc_Tokens_broken) (B.2.2.2.1 _ k_845) (B.2.2.2.1 _ k_847) (B.2.2.2.1 _ ks_24) (B.2.2.2.1 _ k_3) ⟨by decide +kernel, by decide +kernel, by decide +kernel⟩ rfl d_Tokens_cutDecimal_82 rfl (Nat.le_of_ble_eq_true rfl) ⟨by decide, by decide⟩ ⟨by decide, by decide⟩ ⟨by decide, by decide⟩ (mv_noH hno _) (fun w82 σ82 h82 => ?_)
    obtain ⟨rfl, rfl, s_g3⟩ := h82
    have r_g3 : mv_r g3 = mv_r h := s_g3.trans r_hz
    exact mv_iret (pc := 85) B hr rfl d_Tokens_cutDecimal_85 (Nat.le_refl _) (Nat.le_refl _) ⟨_, rfl, xrh_i hf r_g3⟩
  have lp5 : ∀ (nn5 : Nat) (x1 : Int32) (x2 : Int64) (x4 : Int32) (hz : mv_H), mv_r hz = mv_r h → f_Tokens_cutDecimal_5 nn5 x1 x2 x4 hz = some (rv, rg) → mv_V p l e ({ frames := 3, cells := 0, slots := 0, locals := 71 }) s m ([.ref (al 3), .int a0] : List Value).toArray below meth c (mg dA D al ext) 7 0 0 (mv_Q (mg dA D al ext) below s 0 0 (mv_Ri (fun v σ1 => rv = v ∧ rg = σ1 ∧ mv_r σ1 = mv_r h))) hz 5 [(0, .ref (al 3)), (1, .int x1), (2, .long x2), (4, .int x4)] [] := by
    intro nn5
    induction nn5 with
    | zero => intro x1 x2 x4 hz r_hz hf; cases hf
    | succ nn5 ih5 =>
      intro x1 x2 x4 hz r_hz hf
      have jn86 : ∀ (x1 : Int32) (x2 : Int64) (x4 : Int32) (x5 : Int32) (hz : mv_H), mv_r hz = mv_r h → f_Tokens_cutDecimal_86 (f_Tokens_cutDecimal_5 nn5) x1 x2 x4 x5 hz = some (rv, rg) → mv_V p l e ({ frames := 3, cells := 0, slots := 0, locals := 71 }) s m ([.ref (al 3), .int a0] : List Value).toArray below meth c (mg dA D al ext) 7 0 0 (mv_Q (mg dA D al ext) below s 0 0 (mv_Ri (fun v σ1 => rv = v ∧ rg = σ1 ∧ mv_r σ1 = mv_r h))) hz 86 [(0, .ref (al 3)), (1, .int x1), (2, .long x2), (4, .int x4), (5, .int x5)] [] := by
        intro x1 x2 x4 x5 hz r_hz hf
        unfold f_Tokens_cutDecimal_86 at hf
        refine mv_lload_n (pc := 86) B d_Tokens_cutDecimal_86 rfl 2 rfl ?_
        refine mv_ldc2 (pc := 87) (v := 10) B (B.2.2.2.1 _ k_861) d_Tokens_cutDecimal_87 ?_
        refine mv_lmul (pc := 90) B d_Tokens_cutDecimal_90 ?_
        refine mv_iload (pc := 91) B d_Tokens_cutDecimal_91 4 rfl ?_
        refine mv_i2l (pc := 93) B d_Tokens_cutDecimal_93 ?_
        refine mv_ladd (pc := 94) B d_Tokens_cutDecimal_94 ?_
        refine mv_lstore_n (pc := 95) B d_Tokens_cutDecimal_95 rfl (by decide) rfl ?_
        refine mv_iinc (pc := 96) (j := 3) (v := 1) B d_Tokens_cutDecimal_96 rfl (by decide) (by decide) rfl ?_
        refine mv_goto (pc := 99) (tgt := 5) B d_Tokens_cutDecimal_99 rfl ?_
        refine mv_lpick [2, 3, 1, 0] rfl ?_
        exact ih5 _ _ _ _ r_hz hf
      have jn58 : ∀ (x1 : Int32) (x2 : Int64) (x4 : Int32) (x5 : Int32) (y0 : Int32) (hz : mv_H), mv_r hz = mv_r h → f_Tokens_cutDecimal_58 (f_Tokens_cutDecimal_5 nn5) x1 x2 x4 x5 y0 hz = some (rv, rg) → mv_V p l e ({ frames := 3, cells := 0, slots := 0, locals := 71 }) s m ([.ref (al 3), .int a0] : List Value).toArray below meth c (mg dA D al ext) 7 0 0 (mv_Q (mg dA D al ext) below s 0 0 (mv_Ri (fun v σ1 => rv = v ∧ rg = σ1 ∧ mv_r σ1 = mv_r h))) hz 58 [(0, .ref (al 3)), (1, .int x1), (2, .long x2), (4, .int x4), (5, .int x5)] [.int y0] := by
        intro x1 x2 x4 x5 y0 hz r_hz hf
        unfold f_Tokens_cutDecimal_58 at hf
        refine mv_istore (pc := 58) B d_Tokens_cutDecimal_58 (by decide) rfl ?_
        refine mv_iload (pc := 60) B d_Tokens_cutDecimal_60 0 rfl ?_
        refine mv_if_ne (pc := 62) (tgt := 79) B d_Tokens_cutDecimal_62 rfl (fun h62 => ?_) (fun h62 => ?_)
        · skip
          have hf := xif_f h62 hf
          refine mv_lpick [1, 4] rfl ?_
          exact jn79 _ _ r_hz hf
        · skip
          have hf := xif_t h62 hf
          refine mv_lload_n (pc := 65) B d_Tokens_cutDecimal_65 rfl 3 rfl ?_
          refine mv_ldc2 (pc := 66) (v := 1844674407370955161) B (B.2.2.2.1 _ k_860) d_Tokens_cutDecimal_66 ?_
          refine mv_lcmp (pc := 69) B d_Tokens_cutDecimal_69 ?_
          refine mv_if_ne (pc := 70) (tgt := 86) B d_Tokens_cutDecimal_70 rfl (fun h70 => ?_) (fun h70 => ?_)
          · skip
            have hf := xif_f h70 hf
            refine mv_lpick [1, 2, 3, 4, 5] rfl ?_
            exact jn86 _ _ _ _ _ r_hz hf
          · skip
            have hf := xif_t h70 hf
            refine mv_iload (pc := 73) B d_Tokens_cutDecimal_73 5 rfl ?_
            refine mv_iconst (pc := 75) (v := 5) B d_Tokens_cutDecimal_75 (by decide) ?_
            refine mv_icmp_le (pc := 76) (tgt := 86) B d_Tokens_cutDecimal_76 rfl (fun h76 => ?_) (fun h76 => ?_)
            · skip
              have hf := xif_t h76 hf
              refine mv_lpick [1, 2, 3, 4, 5] rfl ?_
              exact jn86 _ _ _ _ _ r_hz hf
            · skip
              have hf := xif_f h76 hf
              refine mv_lpick [1, 4] rfl ?_
              exact jn79 _ _ r_hz hf
      have jn53 : ∀ (x1 : Int32) (x2 : Int64) (x4 : Int32) (x5 : Int32) (hz : mv_H), mv_r hz = mv_r h → f_Tokens_cutDecimal_53 (f_Tokens_cutDecimal_5 nn5) x1 x2 x4 x5 hz = some (rv, rg) → mv_V p l e ({ frames := 3, cells := 0, slots := 0, locals := 71 }) s m ([.ref (al 3), .int a0] : List Value).toArray below meth c (mg dA D al ext) 7 0 0 (mv_Q (mg dA D al ext) below s 0 0 (mv_Ri (fun v σ1 => rv = v ∧ rg = σ1 ∧ mv_r σ1 = mv_r h))) hz 53 [(0, .ref (al 3)), (1, .int x1), (2, .long x2), (4, .int x4), (5, .int x5)] [] := by
        intro x1 x2 x4 x5 hz r_hz hf
        unfold f_Tokens_cutDecimal_53 at hf
        refine mv_iconst (pc := 53) (v := 1) B d_Tokens_cutDecimal_53 (by decide) ?_
        refine mv_goto (pc := 54) (tgt := 58) B d_Tokens_cutDecimal_54 rfl ?_
        refine mv_lpick [0, 1, 2, 3, 4] rfl ?_
        exact jn58 _ _ _ _ _ _ r_hz hf
      have hf : fF_Tokens_cutDecimal_5 (f_Tokens_cutDecimal_5 nn5) x1 x2 x4 hz = some (rv, rg) := hf
      unfold fF_Tokens_cutDecimal_5 at hf
      refine mv_iload (pc := 5) B d_Tokens_cutDecimal_5 3 rfl ?_
      refine mv_aload_n (pc := 7) B d_Tokens_cutDecimal_7 rfl 0 rfl ?_
      refine mv_getI (pc := 8) (ci := 2) (C := R_Tokens) (T := F_Tokens) (N := 10) B 5 rfl rfl (by decide) i_Tokens (B.2.2.2.1 _ k_100) rfl d_Tokens_cutDecimal_8 ?_
      refine mv_icmp_ge (pc := 11) (tgt := 102) B d_Tokens_cutDecimal_11 rfl (fun h11 => ?_) (fun h11 => ?_)
      · skip
        have hf := xif_t h11 hf
        refine mv_lpick [0, 1, 2, 3] rfl ?_
        exact jn102 _ _ _ _ r_hz hf
      · skip
        have hf := xif_f h11 hf
        refine mv_aload_n (pc := 14) B d_Tokens_cutDecimal_14 rfl 0 rfl ?_
        refine mv_getR (pc := 15) (ci := 2) (C := R_Tokens) (T := F_Tokens) (N := 10) B 4 rfl rfl (by decide) i_Tokens (B.2.2.2.1 _ k_98) rfl ((congrFun (congrFun r_hz 3) 4).trans hb.2) d_Tokens_cutDecimal_15 ?_
        refine mv_iload (pc := 18) B d_Tokens_cutDecimal_18 3 rfl ?_
        obtain ⟨q5, hf⟩ := xvi_e hf
        refine mv_bald (pc := 20) B rfl q5 d_Tokens_cutDecimal_20 ?_
        obtain ⟨v7, g6, eg6, hf⟩ := xhb_e hf
        refine mv_callSi (pc := 21) (n := 1) B (mK_ok sk sv) hNs (ch_Tokens_isDigit l hi _ _ eg6) rfl (ma_goodc kc_Tokens_isDigit) (B.2.2.2.1 _ k_835) (B.2.2.2.1 _ k_836) (B.2.2.2.1 _ k_3) ⟨by decide +kernel, by decide +kernel, by decide +kernel⟩ rfl d_Tokens_cutDecimal_21 rfl (Nat.le_of_ble_eq_true rfl) ⟨by decide, by decide⟩ ⟨by decide, by decide⟩ ⟨by decide, by decide⟩ (mv_noH hno _) (fun w21 σ21 h21 => ?_)
        obtain ⟨rfl, rfl, s_g6⟩ := h21
        have r_g6 : mv_r g6 = mv_r h := s_g6.trans r_hz
        refine mv_if_eq (pc := 24) (tgt := 102) B d_Tokens_cutDecimal_24 rfl (fun h24 => ?_) (fun h24 => ?_)
        · skip
          have hf := xif_t h24 hf
          refine mv_lpick [0, 1, 2, 3] rfl ?_
          exact jn102 _ _ _ _ r_g6 hf
        · skip
          have hf := xif_f h24 hf
          refine mv_aload_n (pc := 27) B d_Tokens_cutDecimal_27 rfl 0 rfl ?_
          refine mv_getR (pc := 28) (ci := 2) (C := R_Tokens) (T := F_Tokens) (N := 10) B 4 rfl rfl (by decide) i_Tokens (B.2.2.2.1 _ k_98) rfl ((congrFun (congrFun r_g6 3) 4).trans hb.2) d_Tokens_cutDecimal_28 ?_
          refine mv_iload (pc := 31) B d_Tokens_cutDecimal_31 3 rfl ?_
          obtain ⟨q8, hf⟩ := xvi_e hf
          refine mv_bald (pc := 33) B rfl q8 d_Tokens_cutDecimal_33 ?_
          refine mv_bipush (pc := 34) (v := 48) B d_Tokens_cutDecimal_34 (by decide) ?_
          refine mv_isub (pc := 36) B d_Tokens_cutDecimal_36 ?_
          refine mv_istore (pc := 37) B d_Tokens_cutDecimal_37 (by decide) rfl ?_
          refine mv_lload_n (pc := 39) B d_Tokens_cutDecimal_39 rfl 3 rfl ?_
          refine mv_lconst (pc := 40) (v := 0) B d_Tokens_cutDecimal_40 (by decide) ?_
          refine mv_lcmp (pc := 41) B d_Tokens_cutDecimal_41 ?_
          refine mv_if_lt (pc := 42) (tgt := 53) B d_Tokens_cutDecimal_42 rfl (fun h42 => ?_) (fun h42 => ?_)
          · skip
            have hf := xif_t h42 hf
            refine mv_lpick [1, 2, 3, 4, 0] rfl ?_
            exact jn53 _ _ _ _ _ r_g6 hf
          · skip
            have hf := xif_f h42 hf
            refine mv_lload_n (pc := 45) B d_Tokens_cutDecimal_45 rfl 3 rfl ?_
            refine mv_ldc2 (pc := 46) (v := 1844674407370955161) B (B.2.2.2.1 _ k_860) d_Tokens_cutDecimal_46 ?_
            refine mv_lcmp (pc := 49) B d_Tokens_cutDecimal_49 ?_
            refine mv_if_le (pc := 50) (tgt := 57) B d_Tokens_cutDecimal_50 rfl (fun h50 => ?_) (fun h50 => ?_)
            · skip
              have hf := xif_t h50 hf
              refine mv_iconst (pc := 57) (v := 0) B d_Tokens_cutDecimal_57 (by decide) ?_
              refine mv_lpick [1, 2, 3, 4, 0] rfl ?_
              exact jn58 _ _ _ _ _ _ r_g6 hf
            · skip
              have hf := xif_f h50 hf
              refine mv_lpick [1, 2, 3, 4, 0] rfl ?_
              exact jn53 _ _ _ _ _ r_g6 hf
  unfold f_Tokens_cutDecimal at hf
  refine mv_lconst (pc := 0) (v := 0) B d_Tokens_cutDecimal_0 (by decide) ?_
  refine mv_lstore_n (pc := 1) B d_Tokens_cutDecimal_1 rfl (by decide) rfl ?_
  refine mv_iload_n (pc := 2) B d_Tokens_cutDecimal_2 rfl 2 rfl ?_
  refine mv_istore (pc := 3) B d_Tokens_cutDecimal_3 (by decide) rfl ?_
  refine mv_lpick [2, 3, 1, 0] rfl ?_
  exact lp5 _ _ _ _ _ rfl hf
def f_Tokens_cutHex_67 (x1 : Int32) (x2 : Int64) (x4 : Int32) (hz : mv_H) : Option (Int32 × mv_H) := if x4 = (x1 + (2 : Int32)) then (xhb (f_Tokens_broken hz x4) fun v4 g3 => some (v4, g3)) else (xhb (f_Tokens_number hz x1 x4 x2) fun v2 g1 => some (v2, g1))
def fF_Tokens_cutHex_7 (k7 : Int32 → Int64 → Int32 → mv_H → Option (Int32 × mv_H)) (x1 : Int32) (x2 : Int64) (x4 : Int32) (hz : mv_H) : Option (Int32 × mv_H) := if (mv_i hz 3 5) ≤ x4 then (f_Tokens_cutHex_67 x1 x2 x4 hz) else (bif xvi x4 32768 then xhb (f_Tokens_hexDigit hz (mv_a hz 1 (x4).toNatClampNeg)) fun v7 g6 => if v7 < (0 : Int32) then (f_Tokens_cutHex_67 x1 x2 x4 g6) else (if x4 = (x1 + (18 : Int32)) then (xhb (f_Tokens_broken g6 x4) fun v12 g11 => some (v12, g11)) else (bif xvi x4 32768 then xhb (f_Tokens_hexDigit g6 (mv_a g6 1 (x4).toNatClampNeg)) fun v10 g9 => k7 x1 ((x2 <<< (((4 : Int32)).toInt64 &&& 63)) ||| ((v10).toInt64)) (x4 + 1) g9 else none)) else none)
def f_Tokens_cutHex_7 : Nat → Int32 → Int64 → Int32 → mv_H → Option (Int32 × mv_H)
  | 0 => fun _ _ _ _ => none
  | nn + 1 => fF_Tokens_cutHex_7 (f_Tokens_cutHex_7 nn)
def f_Tokens_cutHex (h : mv_H) (a0 : Int32) : Option (Int32 × mv_H) := f_Tokens_cutHex_7 200000 a0 (0 : Int64) (a0 + (2 : Int32)) h
set_option maxHeartbeats 4000000 in
set_option maxRecDepth 100000 in
theorem ch_Tokens_cutHex (l : Launch) {dA : FieldType → ClassId} {D : va_G} {al : Nat → Nat} {ext : mv_Sh} {sk sv : Nat → Nat} (hi : mv_inj (mg dA D al ext)) (h : mv_H) (hb : xRT (mv_r h))  (a0 : Int32) {rv : Int32} {rg : mv_H} (hf : f_Tokens_cutHex h a0 = some (rv, rg)) : mv_C l y_Tokens_cutHex (Cond.code y_Tokens_cutHex b_Tokens_cutHex 5 (Option.some Jvm.ClassFile.FieldType.int) :: ma) ({ frames := 3, cells := 0, slots := 0, locals := 71 }) (mg dA D al ext) (mK sk sv) [.ref (al 3), .int a0] h (mv_Ri (fun v σ1 => rv = v ∧ rg = σ1 ∧ mv_r σ1 = mv_r h)) := by
  refine mv_C.ofV (cc := b_Tokens_cutHex) (nL := 5) (ret := (Option.some Jvm.ClassFile.FieldType.int)) (by decide +kernel) rfl hi (Nat.le_of_ble_eq_true rfl) ?_
  intro p e s m below meth c B hNs hr hnm hno
  have jn67 : ∀ (x1 : Int32) (x2 : Int64) (x4 : Int32) (hz : mv_H), mv_r hz = mv_r h → f_Tokens_cutHex_67 x1 x2 x4 hz = some (rv, rg) → mv_V p l e ({ frames := 3, cells := 0, slots := 0, locals := 71 }) s m ([.ref (al 3), .int a0] : List Value).toArray below meth c (mg dA D al ext) 5 0 0 (mv_Q (mg dA D al ext) below s 0 0 (mv_Ri (fun v σ1 => rv = v ∧ rg = σ1 ∧ mv_r σ1 = mv_r h))) hz 67 [(0, .ref (al 3)), (1, .int x1), (2, .long x2), (4, .int x4)] [] := by
    intro x1 x2 x4 hz r_hz hf
    unfold f_Tokens_cutHex_67 at hf
    refine mv_iload (pc := 67) B d_Tokens_cutHex_67 3 rfl ?_
    refine mv_iload_n (pc := 69) B d_Tokens_cutHex_69 rfl 1 rfl ?_
    refine mv_iconst (pc := 70) (v := 2) B d_Tokens_cutHex_70 (by decide) ?_
    refine mv_iadd (pc := 71) B d_Tokens_cutHex_71 ?_
    refine mv_icmp_ne (pc := 72) (tgt := 84) B d_Tokens_cutHex_72 rfl (fun h72 => ?_) (fun h72 => ?_)
    · skip
      have hf := xif_f h72 hf
      refine mv_aload_n (pc := 84) B d_Tokens_cutHex_84 rfl 0 rfl ?_
      refine mv_iload_n (pc := 85) B d_Tokens_cutHex_85 rfl 1 rfl ?_
      refine mv_iload (pc := 86) B d_Tokens_cutHex_86 3 rfl ?_
      refine mv_lload_n (pc := 88) B d_Tokens_cutHex_88 rfl 2 rfl ?_
      obtain ⟨v2, g1, eg1, hf⟩ := xhb_e hf
      refine mv_callVi (pc := 89) (n := 3) (ci := 2) (C := R_Tokens) B (mK_ok sk sv) hNs rfl rfl (ch_Tokens_number l hi _ (xrw r_hz hb) _ _ _ eg1) rfl (ma_goodc kc_Tokens_number) (B.2.2.2.1 _ k_849) (B.2.2.2.1 _ k_851) (B.2.2.2.1 _ ks_25) (B.2.2.2.1 _ k_3) ⟨by decide +kernel, by decide +kernel, by decide +kernel⟩ rfl d_Tokens_cutHex_89 rfl (Nat.le_of_ble_eq_true rfl) ⟨by decide, by decide⟩ ⟨by decide, by decide⟩ ⟨by decide, by decide⟩ (mv_noH hno _) (fun w89 σ89 h89 => ?_)
      obtain ⟨rfl, rfl, s_g1⟩ := h89
      have r_g1 : mv_r g1 = mv_r h := s_g1.trans r_hz
      exact mv_iret (pc := 92) B hr rfl d_Tokens_cutHex_92 (Nat.le_refl _) (Nat.le_refl _) ⟨_, rfl, xrh_i hf r_g1⟩
    · skip
      have hf := xif_t h72 hf
      refine mv_aload_n (pc := 75) B d_Tokens_cutHex_75 rfl 0 rfl ?_
      refine mv_iload (pc := 76) B d_Tokens_cutHex_76 3 rfl ?_
      obtain ⟨v4, g3, eg3, hf⟩ := xhb_e hf
      refine mv_callVi (pc := 78) (n := 1) (ci := 2) (C := R_Tokens) B (mK_ok sk sv) hNs rfl rfl (ch_Tokens_broken l hi _ (xrw r_hz hb) _ eg3) rfl (ma_goodc kc_Tokens_broken) (B.2.2.2.1 _ k_845) (B.2.2.2.1 _ k_847) (B.2.2.2.1 _ ks_24) (B.2.2.2.1 _ k_3) ⟨by decide +kernel, by decide +kernel, by decide +kernel⟩ rfl d_Tokens_cutHex_78 rfl (Nat.le_of_ble_eq_true rfl) ⟨by decide, by decide⟩ ⟨by decide, by decide⟩ ⟨by decide, by decide⟩ (mv_noH hno _) (fun w78 σ78 h78 => ?_)
      obtain ⟨rfl, rfl, s_g3⟩ := h78
      have r_g3 : mv_r g3 = mv_r h := s_g3.trans r_hz
      refine mv_goto (pc := 81) (tgt := 92) B d_Tokens_cutHex_81 rfl ?_
      exact mv_iret (pc := 92) B hr rfl d_Tokens_cutHex_92 (Nat.le_refl _) (Nat.le_refl _) ⟨_, rfl, xrh_i hf r_g3⟩
  have lp7 : ∀ (nn7 : Nat) (x1 : Int32) (x2 : Int64) (x4 : Int32) (hz : mv_H), mv_r hz = mv_r h → f_Tokens_cutHex_7 nn7 x1 x2 x4 hz = some (rv, rg) → mv_V p l e ({ frames := 3, cells := 0, slots := 0, locals := 71 }) s m ([.ref (al 3), .int a0] : List Value).toArray below meth c (mg dA D al ext) 5 0 0 (mv_Q (mg dA D al ext) below s 0 0 (mv_Ri (fun v σ1 => rv = v ∧ rg = σ1 ∧ mv_r σ1 = mv_r h))) hz 7 [(0, .ref (al 3)), (1, .int x1), (2, .long x2), (4, .int x4)] [] := by
    intro nn7
    induction nn7 with
    | zero => intro x1 x2 x4 hz r_hz hf; cases hf
    | succ nn7 ih7 =>
      intro x1 x2 x4 hz r_hz hf
      have hf : fF_Tokens_cutHex_7 (f_Tokens_cutHex_7 nn7) x1 x2 x4 hz = some (rv, rg) := hf
      unfold fF_Tokens_cutHex_7 at hf
      refine mv_iload (pc := 7) B d_Tokens_cutHex_7 3 rfl ?_
      refine mv_aload_n (pc := 9) B d_Tokens_cutHex_9 rfl 0 rfl ?_
      refine mv_getI (pc := 10) (ci := 2) (C := R_Tokens) (T := F_Tokens) (N := 10) B 5 rfl rfl (by decide) i_Tokens (B.2.2.2.1 _ k_100) rfl d_Tokens_cutHex_10 ?_
      refine mv_icmp_ge (pc := 13) (tgt := 67) B d_Tokens_cutHex_13 rfl (fun h13 => ?_) (fun h13 => ?_)
      · skip
        have hf := xif_t h13 hf
        refine mv_lpick [0, 1, 2, 3] rfl ?_
        exact jn67 _ _ _ _ r_hz hf
      · skip
        have hf := xif_f h13 hf
        refine mv_aload_n (pc := 16) B d_Tokens_cutHex_16 rfl 0 rfl ?_
        refine mv_getR (pc := 17) (ci := 2) (C := R_Tokens) (T := F_Tokens) (N := 10) B 4 rfl rfl (by decide) i_Tokens (B.2.2.2.1 _ k_98) rfl ((congrFun (congrFun r_hz 3) 4).trans hb.2) d_Tokens_cutHex_17 ?_
        refine mv_iload (pc := 20) B d_Tokens_cutHex_20 3 rfl ?_
        obtain ⟨q5, hf⟩ := xvi_e hf
        refine mv_bald (pc := 22) B rfl q5 d_Tokens_cutHex_22 ?_
        obtain ⟨v7, g6, eg6, hf⟩ := xhb_e hf
        refine mv_callSi (pc := 23) (n := 1) B (mK_ok sk sv) hNs (ch_Tokens_hexDigit l hi _ _ eg6) rfl (ma_goodc kc_Tokens_hexDigit) (B.2.2.2.1 _ k_842) (B.2.2.2.1 _ k_843) (B.2.2.2.1 _ k_3) ⟨by decide +kernel, by decide +kernel, by decide +kernel⟩ rfl d_Tokens_cutHex_23 rfl (Nat.le_of_ble_eq_true rfl) ⟨by decide, by decide⟩ ⟨by decide, by decide⟩ ⟨by decide, by decide⟩ (mv_noH hno _) (fun w23 σ23 h23 => ?_)
        obtain ⟨rfl, rfl, s_g6⟩ := h23
        have r_g6 : mv_r g6 = mv_r h := s_g6.trans r_hz
        refine mv_if_lt (pc := 26) (tgt := 67) B d_Tokens_cutHex_26 rfl (fun h26 => ?_) (fun h26 => ?_)
        · skip
          have hf := xif_t h26 hf
          refine mv_lpick [0, 1, 2, 3] rfl ?_
          exact jn67 _ _ _ _ r_g6 hf
        · skip
          have hf := xif_f h26 hf
          refine mv_iload (pc := 29) B d_Tokens_cutHex_29 3 rfl ?_
          refine mv_iload_n (pc := 31) B d_Tokens_cutHex_31 rfl 1 rfl ?_
          refine mv_bipush (pc := 32) (v := 18) B d_Tokens_cutHex_32 (by decide) ?_
          refine mv_iadd (pc := 34) B d_Tokens_cutHex_34 ?_
          refine mv_icmp_ne (pc := 35) (tgt := 45) B d_Tokens_cutHex_35 rfl (fun h35 => ?_) (fun h35 => ?_)
          · skip
            have hf := xif_f h35 hf
            refine mv_lload_n (pc := 45) B d_Tokens_cutHex_45 rfl 2 rfl ?_
            refine mv_iconst (pc := 46) (v := 4) B d_Tokens_cutHex_46 (by decide) ?_
            refine mv_lshl (pc := 47) B d_Tokens_cutHex_47 ?_
            refine mv_aload_n (pc := 48) B d_Tokens_cutHex_48 rfl 0 rfl ?_
            refine mv_getR (pc := 49) (ci := 2) (C := R_Tokens) (T := F_Tokens) (N := 10) B 4 rfl rfl (by decide) i_Tokens (B.2.2.2.1 _ k_98) rfl ((congrFun (congrFun r_g6 3) 4).trans hb.2) d_Tokens_cutHex_49 ?_
            refine mv_iload (pc := 52) B d_Tokens_cutHex_52 3 rfl ?_
            obtain ⟨q8, hf⟩ := xvi_e hf
            refine mv_bald (pc := 54) B rfl q8 d_Tokens_cutHex_54 ?_
            obtain ⟨v10, g9, eg9, hf⟩ := xhb_e hf
            refine mv_callSi (pc := 55) (n := 1) B (mK_ok sk sv) hNs (ch_Tokens_hexDigit l hi _ _ eg9) rfl (ma_goodc kc_Tokens_hexDigit) (B.2.2.2.1 _ k_842) (B.2.2.2.1 _ k_843) (B.2.2.2.1 _ k_3) ⟨by decide +kernel, by decide +kernel, by decide +kernel⟩ rfl d_Tokens_cutHex_55 rfl (Nat.le_of_ble_eq_true rfl) ⟨by decide, by decide⟩ ⟨by decide, by decide⟩ ⟨by decide, by decide⟩ (mv_noH hno _) (fun w55 σ55 h55 => ?_)
            obtain ⟨rfl, rfl, s_g9⟩ := h55
            have r_g9 : mv_r g9 = mv_r h := s_g9.trans r_g6
            refine mv_i2l (pc := 58) B d_Tokens_cutHex_58 ?_
            refine mv_lor (pc := 59) B d_Tokens_cutHex_59 ?_
            refine mv_lstore_n (pc := 60) B d_Tokens_cutHex_60 rfl (by decide) rfl ?_
            refine mv_iinc (pc := 61) (j := 3) (v := 1) B d_Tokens_cutHex_61 rfl (by decide) (by decide) rfl ?_
            refine mv_goto (pc := 64) (tgt := 7) B d_Tokens_cutHex_64 rfl ?_
            refine mv_lpick [2, 3, 1, 0] rfl ?_
            exact ih7 _ _ _ _ r_g9 hf
          · skip
            have hf := xif_t h35 hf
            refine mv_aload_n (pc := 38) B d_Tokens_cutHex_38 rfl 0 rfl ?_
            refine mv_iload (pc := 39) B d_Tokens_cutHex_39 3 rfl ?_
            obtain ⟨v12, g11, eg11, hf⟩ := xhb_e hf
            refine mv_callVi (pc := 41) (n := 1) (ci := 2) (C := R_Tokens) B (mK_ok sk sv) hNs rfl rfl (ch_Tokens_broken l hi _ (xrw r_g6 hb) _ eg11) rfl (ma_goodc kc_Tokens_broken) (B.2.2.2.1 _ k_845) (B.2.2.2.1 _ k_847) (B.2.2.2.1 _ ks_24) (B.2.2.2.1 _ k_3) ⟨by decide +kernel, by decide +kernel, by decide +kernel⟩ rfl d_Tokens_cutHex_41 rfl (Nat.le_of_ble_eq_true rfl) ⟨by decide, by decide⟩ ⟨by decide, by decide⟩ ⟨by decide, by decide⟩ (mv_noH hno _) (fun w41 σ41 h41 => ?_)
            obtain ⟨rfl, rfl, s_g11⟩ := h41
            have r_g11 : mv_r g11 = mv_r h := s_g11.trans r_g6
            exact mv_iret (pc := 44) B hr rfl d_Tokens_cutHex_44 (Nat.le_refl _) (Nat.le_refl _) ⟨_, rfl, xrh_i hf r_g11⟩
  unfold f_Tokens_cutHex at hf
  refine mv_lconst (pc := 0) (v := 0) B d_Tokens_cutHex_0 (by decide) ?_
  refine mv_lstore_n (pc := 1) B d_Tokens_cutHex_1 rfl (by decide) rfl ?_
  refine mv_iload_n (pc := 2) B d_Tokens_cutHex_2 rfl 2 rfl ?_
  refine mv_iconst (pc := 3) (v := 2) B d_Tokens_cutHex_3 (by decide) ?_
  refine mv_iadd (pc := 4) B d_Tokens_cutHex_4 ?_
  refine mv_istore (pc := 5) B d_Tokens_cutHex_5 (by decide) rfl ?_
  refine mv_lpick [2, 3, 1, 0] rfl ?_
  exact lp7 _ _ _ _ _ rfl hf
def f_Tokens_cutCode_30 (x1 : Int32) (x2 : Int32) (hz : mv_H) : Option (Int32 × mv_H) := xhb (f_Tokens_characterAt hz x2) fun v2 g1 => if v2 = (34 : Int32) then (xhb (f_Tokens_add g1 (5 : Int32) x1 ((((x2 - x1) - (1 : Int32))).toInt64) (x2 + (1 : Int32))) fun v4 g3 => some (v4, g3)) else (xhb (f_Tokens_broken g1 x2) fun v6 g5 => some (v6, g5))
def fF_Tokens_cutCode_4 (k4 : Int32 → Int32 → mv_H → Option (Int32 × mv_H)) (x1 : Int32) (x2 : Int32) (hz : mv_H) : Option (Int32 × mv_H) := if (mv_i hz 3 5) ≤ x2 then (f_Tokens_cutCode_30 x1 x2 hz) else (bif xvi x2 32768 then xhb (f_Tokens_isOfCode hz (mv_a hz 1 (x2).toNatClampNeg)) fun v9 g8 => if v9 = (0 : Int32) then (f_Tokens_cutCode_30 x1 x2 g8) else (k4 x1 (x2 + 1) g8) else none)
def f_Tokens_cutCode_4 : Nat → Int32 → Int32 → mv_H → Option (Int32 × mv_H)
  | 0 => fun _ _ _ => none
  | nn + 1 => fF_Tokens_cutCode_4 (f_Tokens_cutCode_4 nn)
def f_Tokens_cutCode (h : mv_H) (a0 : Int32) : Option (Int32 × mv_H) := f_Tokens_cutCode_4 200000 a0 (a0 + (1 : Int32)) h
set_option maxHeartbeats 4000000 in
set_option maxRecDepth 100000 in
theorem ch_Tokens_cutCode (l : Launch) {dA : FieldType → ClassId} {D : va_G} {al : Nat → Nat} {ext : mv_Sh} {sk sv : Nat → Nat} (hi : mv_inj (mg dA D al ext)) (h : mv_H) (hb : xRT (mv_r h))  (a0 : Int32) {rv : Int32} {rg : mv_H} (hf : f_Tokens_cutCode h a0 = some (rv, rg)) : mv_C l y_Tokens_cutCode (Cond.code y_Tokens_cutCode b_Tokens_cutCode 3 (Option.some Jvm.ClassFile.FieldType.int) :: ma) ({ frames := 2, cells := 0, slots := 0, locals := 46 }) (mg dA D al ext) (mK sk sv) [.ref (al 3), .int a0] h (mv_Ri (fun v σ1 => rv = v ∧ rg = σ1 ∧ mv_r σ1 = mv_r h)) := by
  refine mv_C.ofV (cc := b_Tokens_cutCode) (nL := 3) (ret := (Option.some Jvm.ClassFile.FieldType.int)) (by decide +kernel) rfl hi (Nat.le_of_ble_eq_true rfl) ?_
  intro p e s m below meth c B hNs hr hnm hno
  have jn30 : ∀ (x1 : Int32) (x2 : Int32) (hz : mv_H), mv_r hz = mv_r h → f_Tokens_cutCode_30 x1 x2 hz = some (rv, rg) → mv_V p l e ({ frames := 2, cells := 0, slots := 0, locals := 46 }) s m ([.ref (al 3), .int a0] : List Value).toArray below meth c (mg dA D al ext) 3 0 0 (mv_Q (mg dA D al ext) below s 0 0 (mv_Ri (fun v σ1 => rv = v ∧ rg = σ1 ∧ mv_r σ1 = mv_r h))) hz 30 [(0, .ref (al 3)), (1, .int x1), (2, .int x2)] [] := by
    intro x1 x2 hz r_hz hf
    unfold f_Tokens_cutCode_30 at hf
    refine mv_aload_n (pc := 30) B d_Tokens_cutCode_30 rfl 0 rfl ?_
    refine mv_iload_n (pc := 31) B d_Tokens_cutCode_31 rfl 2 rfl ?_
    obtain ⟨v2, g1, eg1, hf⟩ := xhb_e hf
    refine mv_callVi (pc := 32) (n := 1) (ci := 2) (C := R_Tokens) B (mK_ok sk sv) hNs rfl rfl (ch_Tokens_characterAt l hi _ (xrw r_hz hb) _ eg1) rfl (ma_goodc kc_Tokens_characterAt) (B.2.2.2.1 _ k_827) (B.2.2.2.1 _ k_829) (B.2.2.2.1 _ ks_21) (B.2.2.2.1 _ k_3) ⟨by decide +kernel, by decide +kernel, by decide +kernel⟩ rfl d_Tokens_cutCode_32 rfl (Nat.le_of_ble_eq_true rfl) ⟨by decide, by decide⟩ ⟨by decide, by decide⟩ ⟨by decide, by decide⟩ (mv_noH hno _) (fun w32 σ32 h32 => ?_)
    obtain ⟨rfl, rfl, s_g1⟩ := h32
    have r_g1 : mv_r g1 = mv_r h := s_g1.trans r_hz
    refine mv_bipush (pc := 35) (v := 34) B d_Tokens_cutCode_35 (by decide) ?_
    refine mv_icmp_eq (pc := 37) (tgt := 46) B d_Tokens_cutCode_37 rfl (fun h37 => ?_) (fun h37 => ?_)
    · skip
      have hf := xif_t h37 hf
      refine mv_aload_n (pc := 46) B d_Tokens_cutCode_46 rfl 0 rfl ?_
      refine mv_iconst (pc := 47) (v := 5) B d_Tokens_cutCode_47 (by decide) ?_
      refine mv_iload_n (pc := 48) B d_Tokens_cutCode_48 rfl 1 rfl ?_
      refine mv_iload_n (pc := 49) B d_Tokens_cutCode_49 rfl 2 rfl ?_
      refine mv_iload_n (pc := 50) B d_Tokens_cutCode_50 rfl 1 rfl ?_
      refine mv_isub (pc := 51) B d_Tokens_cutCode_51 ?_
      refine mv_iconst (pc := 52) (v := 1) B d_Tokens_cutCode_52 (by decide) ?_
      refine mv_isub (pc := 53) B d_Tokens_cutCode_53 ?_
      refine mv_i2l (pc := 54) B d_Tokens_cutCode_54 ?_
      refine mv_iload_n (pc := 55) B d_Tokens_cutCode_55 rfl 2 rfl ?_
      refine mv_iconst (pc := 56) (v := 1) B d_Tokens_cutCode_56 (by decide) ?_
      refine mv_iadd (pc := 57) B d_Tokens_cutCode_57 ?_
      obtain ⟨v4, g3, eg3, hf⟩ := xhb_e hf
      refine mv_callVi (pc := 58) (n := 4) (ci := 2) (C := R_Tokens) B (mK_ok sk sv) hNs rfl rfl (ch_Tokens_add l hi _ (xrw r_g1 hb) _ _ _ _ eg3) rfl (ma_goodc kc_Tokens_add) (B.2.2.2.1 _ k_831) (B.2.2.2.1 _ k_833) (B.2.2.2.1 _ ks_22) (B.2.2.2.1 _ k_3) ⟨by decide +kernel, by decide +kernel, by decide +kernel⟩ rfl d_Tokens_cutCode_58 rfl (Nat.le_of_ble_eq_true rfl) ⟨by decide, by decide⟩ ⟨by decide, by decide⟩ ⟨by decide, by decide⟩ (mv_noH hno _) (fun w58 σ58 h58 => ?_)
      obtain ⟨rfl, rfl, s_g3⟩ := h58
      have r_g3 : mv_r g3 = mv_r h := s_g3.trans r_g1
      exact mv_iret (pc := 61) B hr rfl d_Tokens_cutCode_61 (Nat.le_refl _) (Nat.le_refl _) ⟨_, rfl, xrh_i hf r_g3⟩
    · skip
      have hf := xif_f h37 hf
      refine mv_aload_n (pc := 40) B d_Tokens_cutCode_40 rfl 0 rfl ?_
      refine mv_iload_n (pc := 41) B d_Tokens_cutCode_41 rfl 2 rfl ?_
      obtain ⟨v6, g5, eg5, hf⟩ := xhb_e hf
      refine mv_callVi (pc := 42) (n := 1) (ci := 2) (C := R_Tokens) B (mK_ok sk sv) hNs rfl rfl (ch_Tokens_broken l hi _ (xrw r_g1 hb) _ eg5) rfl (ma_goodc kc_Tokens_broken) (B.2.2.2.1 _ k_845) (B.2.2.2.1 _ k_847) (B.2.2.2.1 _ ks_24) (B.2.2.2.1 _ k_3) ⟨by decide +kernel, by decide +kernel, by decide +kernel⟩ rfl d_Tokens_cutCode_42 rfl (Nat.le_of_ble_eq_true rfl) ⟨by decide, by decide⟩ ⟨by decide, by decide⟩ ⟨by decide, by decide⟩ (mv_noH hno _) (fun w42 σ42 h42 => ?_)
      obtain ⟨rfl, rfl, s_g5⟩ := h42
      have r_g5 : mv_r g5 = mv_r h := s_g5.trans r_g1
      exact mv_iret (pc := 45) B hr rfl d_Tokens_cutCode_45 (Nat.le_refl _) (Nat.le_refl _) ⟨_, rfl, xrh_i hf r_g5⟩
  have lp4 : ∀ (nn4 : Nat) (x1 : Int32) (x2 : Int32) (hz : mv_H), mv_r hz = mv_r h → f_Tokens_cutCode_4 nn4 x1 x2 hz = some (rv, rg) → mv_V p l e ({ frames := 2, cells := 0, slots := 0, locals := 46 }) s m ([.ref (al 3), .int a0] : List Value).toArray below meth c (mg dA D al ext) 3 0 0 (mv_Q (mg dA D al ext) below s 0 0 (mv_Ri (fun v σ1 => rv = v ∧ rg = σ1 ∧ mv_r σ1 = mv_r h))) hz 4 [(0, .ref (al 3)), (1, .int x1), (2, .int x2)] [] := by
    intro nn4
    induction nn4 with
    | zero => intro x1 x2 hz r_hz hf; cases hf
    | succ nn4 ih4 =>
      intro x1 x2 hz r_hz hf
      have hf : fF_Tokens_cutCode_4 (f_Tokens_cutCode_4 nn4) x1 x2 hz = some (rv, rg) := hf
      unfold fF_Tokens_cutCode_4 at hf
      refine mv_iload_n (pc := 4) B d_Tokens_cutCode_4 rfl 2 rfl ?_
      refine mv_aload_n (pc := 5) B d_Tokens_cutCode_5 rfl 0 rfl ?_
      refine mv_getI (pc := 6) (ci := 2) (C := R_Tokens) (T := F_Tokens) (N := 10) B 5 rfl rfl (by decide) i_Tokens (B.2.2.2.1 _ k_100) rfl d_Tokens_cutCode_6 ?_
      refine mv_icmp_ge (pc := 9) (tgt := 30) B d_Tokens_cutCode_9 rfl (fun h9 => ?_) (fun h9 => ?_)
      · skip
        have hf := xif_t h9 hf
        refine mv_lpick [0, 1, 2] rfl ?_
        exact jn30 _ _ _ r_hz hf
      · skip
        have hf := xif_f h9 hf
        refine mv_aload_n (pc := 12) B d_Tokens_cutCode_12 rfl 0 rfl ?_
        refine mv_getR (pc := 13) (ci := 2) (C := R_Tokens) (T := F_Tokens) (N := 10) B 4 rfl rfl (by decide) i_Tokens (B.2.2.2.1 _ k_98) rfl ((congrFun (congrFun r_hz 3) 4).trans hb.2) d_Tokens_cutCode_13 ?_
        refine mv_iload_n (pc := 16) B d_Tokens_cutCode_16 rfl 2 rfl ?_
        obtain ⟨q7, hf⟩ := xvi_e hf
        refine mv_bald (pc := 17) B rfl q7 d_Tokens_cutCode_17 ?_
        obtain ⟨v9, g8, eg8, hf⟩ := xhb_e hf
        refine mv_callSi (pc := 18) (n := 1) B (mK_ok sk sv) hNs (ch_Tokens_isOfCode l hi _ _ eg8) rfl (ma_goodc kc_Tokens_isOfCode) (B.2.2.2.1 _ k_874) (B.2.2.2.1 _ k_875) (B.2.2.2.1 _ k_3) ⟨by decide +kernel, by decide +kernel, by decide +kernel⟩ rfl d_Tokens_cutCode_18 rfl (Nat.le_of_ble_eq_true rfl) ⟨by decide, by decide⟩ ⟨by decide, by decide⟩ ⟨by decide, by decide⟩ (mv_noH hno _) (fun w18 σ18 h18 => ?_)
        obtain ⟨rfl, rfl, s_g8⟩ := h18
        have r_g8 : mv_r g8 = mv_r h := s_g8.trans r_hz
        refine mv_if_eq (pc := 21) (tgt := 30) B d_Tokens_cutCode_21 rfl (fun h21 => ?_) (fun h21 => ?_)
        · skip
          have hf := xif_t h21 hf
          refine mv_lpick [0, 1, 2] rfl ?_
          exact jn30 _ _ _ r_g8 hf
        · skip
          have hf := xif_f h21 hf
          refine mv_iinc (pc := 24) (j := 2) (v := 1) B d_Tokens_cutCode_24 rfl (by decide) (by decide) rfl ?_
          refine mv_goto (pc := 27) (tgt := 4) B d_Tokens_cutCode_27 rfl ?_
          refine mv_lpick [1, 2, 0] rfl ?_
          exact ih4 _ _ _ r_g8 hf
  unfold f_Tokens_cutCode at hf
  refine mv_iload_n (pc := 0) B d_Tokens_cutCode_0 rfl 1 rfl ?_
  refine mv_iconst (pc := 1) (v := 1) B d_Tokens_cutCode_1 (by decide) ?_
  refine mv_iadd (pc := 2) B d_Tokens_cutCode_2 ?_
  refine mv_istore_n (pc := 3) B d_Tokens_cutCode_3 rfl (by decide) rfl ?_
  refine mv_lpick [1, 2, 0] rfl ?_
  exact lp4 _ _ _ _ rfl hf
def f_Tokens_cutSign (h : mv_H) (a0 : Int32) (a1 : Int32) : Option (Int32 × mv_H) := xhb (f_Tokens_characterAt h (a0 + (1 : Int32))) fun v2 g1 => xhb (f_Tokens_pairOf g1 a1 v2) fun v4 g3 => if v4 = (0 : Int32) then (if a1 = (62 : Int32) then (xhb (f_Tokens_broken g3 (a0 + (1 : Int32))) fun v11 g10 => some (v11, g10)) else (bif xvi (((a1).toUInt32 % 65536).toInt32) 256 then if (0 : Int32) ≤ (nI (xix ((((a1).toUInt32 % 65536).toInt32)).toNatClampNeg)) then (xhb (f_Tokens_add g3 a1 a0 (0 : Int64) (a0 + (1 : Int32))) fun v7 g6 => some (v7, g6)) else (xhb (f_Tokens_broken g3 a0) fun v9 g8 => some (v9, g8)) else none)) else (xhb (f_Tokens_add g3 v4 a0 (0 : Int64) (a0 + (2 : Int32))) fun v13 g12 => some (v13, g12))
set_option maxHeartbeats 4000000 in
set_option maxRecDepth 100000 in
theorem ch_Tokens_cutSign (l : Launch) {dA : FieldType → ClassId} {D : va_G} {al : Nat → Nat} {ext : mv_Sh} {sk sv : Nat → Nat} (hi : mv_inj (mg dA D al ext)) (h : mv_H) (hb : xRT (mv_r h))  (a0 : Int32) (a1 : Int32) {rv : Int32} {rg : mv_H} (hf : f_Tokens_cutSign h a0 a1 = some (rv, rg)) : mv_C l y_Tokens_cutSign (Cond.code y_Tokens_cutSign b_Tokens_cutSign 4 (Option.some Jvm.ClassFile.FieldType.int) :: ma) ({ frames := 4, cells := 0, slots := 0, locals := 106 }) (mg dA D al ext) (mK sk sv) [.ref (al 3), .int a0, .int a1] h (mv_Ri (fun v σ1 => rv = v ∧ rg = σ1 ∧ mv_r σ1 = mv_r h)) := by
  refine mv_C.ofV (cc := b_Tokens_cutSign) (nL := 4) (ret := (Option.some Jvm.ClassFile.FieldType.int)) (by decide +kernel) rfl hi (Nat.le_of_ble_eq_true rfl) ?_
  intro p e s m below meth c B hNs hr hnm hno
  unfold f_Tokens_cutSign at hf
  refine mv_iload_n (pc := 0) B d_Tokens_cutSign_0 rfl 2 rfl ?_
  refine mv_aload_n (pc := 1) B d_Tokens_cutSign_1 rfl 0 rfl ?_
  refine mv_iload_n (pc := 2) B d_Tokens_cutSign_2 rfl 1 rfl ?_
  refine mv_iconst (pc := 3) (v := 1) B d_Tokens_cutSign_3 (by decide) ?_
  refine mv_iadd (pc := 4) B d_Tokens_cutSign_4 ?_
  obtain ⟨v2, g1, eg1, hf⟩ := xhb_e hf
  refine mv_callVi (pc := 5) (n := 1) (ci := 2) (C := R_Tokens) B (mK_ok sk sv) hNs rfl rfl (ch_Tokens_characterAt l hi _ (hb) _ eg1) rfl (ma_goodc kc_Tokens_characterAt) (B.2.2.2.1 _ k_827) (B.2.2.2.1 _ k_829) (B.2.2.2.1 _ ks_21) (B.2.2.2.1 _ k_3) ⟨by decide +kernel, by decide +kernel, by decide +kernel⟩ rfl d_Tokens_cutSign_5 rfl (Nat.le_of_ble_eq_true rfl) ⟨by decide, by decide⟩ ⟨by decide, by decide⟩ ⟨by decide, by decide⟩ (mv_noH hno _) (fun w5 σ5 h5 => ?_)
  obtain ⟨rfl, rfl, s_g1⟩ := h5
  have r_g1 : mv_r g1 = mv_r h := s_g1.trans rfl
  obtain ⟨v4, g3, eg3, hf⟩ := xhb_e hf
  refine mv_callSi (pc := 8) (n := 2) B (mK_ok sk sv) hNs (ch_Tokens_pairOf l hi _ _ _ eg3) rfl (ma_goodc kc_Tokens_pairOf) (B.2.2.2.1 _ k_881) (B.2.2.2.1 _ k_882) (B.2.2.2.1 _ k_3) ⟨by decide +kernel, by decide +kernel, by decide +kernel⟩ rfl d_Tokens_cutSign_8 rfl (Nat.le_of_ble_eq_true rfl) ⟨by decide, by decide⟩ ⟨by decide, by decide⟩ ⟨by decide, by decide⟩ (mv_noH hno _) (fun w8 σ8 h8 => ?_)
  obtain ⟨rfl, rfl, s_g3⟩ := h8
  have r_g3 : mv_r g3 = mv_r h := s_g3.trans r_g1
  refine mv_istore_n (pc := 11) B d_Tokens_cutSign_11 rfl (by decide) rfl ?_
  refine mv_iload_n (pc := 12) B d_Tokens_cutSign_12 rfl 0 rfl ?_
  refine mv_if_eq (pc := 13) (tgt := 27) B d_Tokens_cutSign_13 rfl (fun h13 => ?_) (fun h13 => ?_)
  · skip
    have hf := xif_t h13 hf
    refine mv_iload_n (pc := 27) B d_Tokens_cutSign_27 rfl 3 rfl ?_
    refine mv_bipush (pc := 28) (v := 62) B d_Tokens_cutSign_28 (by decide) ?_
    refine mv_icmp_ne (pc := 30) (tgt := 41) B d_Tokens_cutSign_30 rfl (fun h30 => ?_) (fun h30 => ?_)
    · skip
      have hf := xif_f h30 hf
      refine mv_ldcS (pc := 41) B (hNs.2.1 133 (by decide)).1 d_Tokens_cutSign_41 ?_
      refine mv_iload_n (pc := 43) B d_Tokens_cutSign_43 rfl 3 rfl ?_
      refine mv_i2c (pc := 44) B d_Tokens_cutSign_44 ?_
      obtain ⟨q5, hf⟩ := xvi_e hf
      refine mv_callVOi (pc := 45) (n := 1) B (mK_ok sk sv) hNs (hNs.2.1 133 (by decide)).2.1 (ch_String_indexOf l hi _ q5) rfl (ma_goodc kc_String_indexOf_0) (B.2.2.2.1 _ k_885) (B.2.2.2.1 _ k_886) (B.2.2.2.1 _ k_887) (B.2.2.2.1 _ k_21) ⟨by decide +kernel, by decide +kernel, by decide +kernel⟩ rfl d_Tokens_cutSign_45 rfl (Nat.le_of_ble_eq_true rfl) ⟨by decide, by decide⟩ ⟨by decide, by decide⟩ ⟨by decide, by decide⟩ (mv_noH hno _) (fun v45_ σ45 h45 => ?_)
      obtain ⟨rfl, rfl⟩ := h45
      refine mv_if_ge (pc := 48) (tgt := 59) B d_Tokens_cutSign_48 rfl (fun h48 => ?_) (fun h48 => ?_)
      · skip
        have hf := xif_t h48 hf
        refine mv_aload_n (pc := 59) B d_Tokens_cutSign_59 rfl 1 rfl ?_
        refine mv_iload_n (pc := 60) B d_Tokens_cutSign_60 rfl 3 rfl ?_
        refine mv_iload_n (pc := 61) B d_Tokens_cutSign_61 rfl 2 rfl ?_
        refine mv_lconst (pc := 62) (v := 0) B d_Tokens_cutSign_62 (by decide) ?_
        refine mv_iload_n (pc := 63) B d_Tokens_cutSign_63 rfl 2 rfl ?_
        refine mv_iconst (pc := 64) (v := 1) B d_Tokens_cutSign_64 (by decide) ?_
        refine mv_iadd (pc := 65) B d_Tokens_cutSign_65 ?_
        obtain ⟨v7, g6, eg6, hf⟩ := xhb_e hf
        refine mv_callVi (pc := 66) (n := 4) (ci := 2) (C := R_Tokens) B (mK_ok sk sv) hNs rfl rfl (ch_Tokens_add l hi _ (xrw r_g3 hb) _ _ _ _ eg6) rfl (ma_goodc kc_Tokens_add) (B.2.2.2.1 _ k_831) (B.2.2.2.1 _ k_833) (B.2.2.2.1 _ ks_22) (B.2.2.2.1 _ k_3) ⟨by decide +kernel, by decide +kernel, by decide +kernel⟩ rfl d_Tokens_cutSign_66 rfl (Nat.le_of_ble_eq_true rfl) ⟨by decide, by decide⟩ ⟨by decide, by decide⟩ ⟨by decide, by decide⟩ (mv_noH hno _) (fun w66 σ66 h66 => ?_)
        obtain ⟨rfl, rfl, s_g6⟩ := h66
        have r_g6 : mv_r g6 = mv_r h := s_g6.trans r_g3
        exact mv_iret (pc := 69) B hr rfl d_Tokens_cutSign_69 (Nat.le_refl _) (Nat.le_refl _) ⟨_, rfl, xrh_i hf r_g6⟩
      · skip
        have hf := xif_f h48 hf
        refine mv_aload_n (pc := 51) B d_Tokens_cutSign_51 rfl 1 rfl ?_
        refine mv_iload_n (pc := 52) B d_Tokens_cutSign_52 rfl 2 rfl ?_
        obtain ⟨v9, g8, eg8, hf⟩ := xhb_e hf
        refine mv_callVi (pc := 53) (n := 1) (ci := 2) (C := R_Tokens) B (mK_ok sk sv) hNs rfl rfl (ch_Tokens_broken l hi _ (xrw r_g3 hb) _ eg8) rfl (ma_goodc kc_Tokens_broken) (B.2.2.2.1 _ k_845) (B.2.2.2.1 _ k_847) (B.2.2.2.1 _ ks_24) (B.2.2.2.1 _ k_3) ⟨by decide +kernel, by decide +kernel, by decide +kernel⟩ rfl d_Tokens_cutSign_53 rfl (Nat.le_of_ble_eq_true rfl) ⟨by decide, by decide⟩ ⟨by decide, by decide⟩ ⟨by decide, by decide⟩ (mv_noH hno _) (fun w53 σ53 h53 => ?_)
        obtain ⟨rfl, rfl, s_g8⟩ := h53
        have r_g8 : mv_r g8 = mv_r h := s_g8.trans r_g3
        refine mv_goto (pc := 56) (tgt := 69) B d_Tokens_cutSign_56 rfl ?_
        exact mv_iret (pc := 69) B hr rfl d_Tokens_cutSign_69 (Nat.le_refl _) (Nat.le_refl _) ⟨_, rfl, xrh_i hf r_g8⟩
    · skip
      have hf := xif_t h30 hf
      refine mv_aload_n (pc := 33) B d_Tokens_cutSign_33 rfl 1 rfl ?_
      refine mv_iload_n (pc := 34) B d_Tokens_cutSign_34 rfl 2 rfl ?_
      refine mv_iconst (pc := 35) (v := 1) B d_Tokens_cutSign_35 (by decide) ?_
      refine mv_iadd (pc := 36) B d_Tokens_cutSign_36 ?_
      obtain ⟨v11, g10, eg10, hf⟩ := xhb_e hf
      refine mv_callVi (pc := 37) (n := 1) (ci := 2) (C := R_Tokens) B (mK_ok sk sv) hNs rfl rfl (ch_Tokens_broken l hi _ (xrw r_g3 hb) _ eg10) rfl (ma_goodc kc_Tokens_broken) (B.2.2.2.1 _ k_845) (B.2.2.2.1 _ k_847) (B.2.2.2.1 _ ks_24) (B.2.2.2.1 _ k_3) ⟨by decide +kernel, by decide +kernel, by decide +kernel⟩ rfl d_Tokens_cutSign_37 rfl (Nat.le_of_ble_eq_true rfl) ⟨by decide, by decide⟩ ⟨by decide, by decide⟩ ⟨by decide, by decide⟩ (mv_noH hno _) (fun w37 σ37 h37 => ?_)
      obtain ⟨rfl, rfl, s_g10⟩ := h37
      have r_g10 : mv_r g10 = mv_r h := s_g10.trans r_g3
      exact mv_iret (pc := 40) B hr rfl d_Tokens_cutSign_40 (Nat.le_refl _) (Nat.le_refl _) ⟨_, rfl, xrh_i hf r_g10⟩
  · skip
    have hf := xif_f h13 hf
    refine mv_aload_n (pc := 16) B d_Tokens_cutSign_16 rfl 1 rfl ?_
    refine mv_iload_n (pc := 17) B d_Tokens_cutSign_17 rfl 0 rfl ?_
    refine mv_iload_n (pc := 18) B d_Tokens_cutSign_18 rfl 2 rfl ?_
    refine mv_lconst (pc := 19) (v := 0) B d_Tokens_cutSign_19 (by decide) ?_
    refine mv_iload_n (pc := 20) B d_Tokens_cutSign_20 rfl 2 rfl ?_
    refine mv_iconst (pc := 21) (v := 2) B d_Tokens_cutSign_21 (by decide) ?_
    refine mv_iadd (pc := 22) B d_Tokens_cutSign_22 ?_
    obtain ⟨v13, g12, eg12, hf⟩ := xhb_e hf
    refine mv_callVi (pc := 23) (n := 4) (ci := 2) (C := R_Tokens) B (mK_ok sk sv) hNs rfl rfl (ch_Tokens_add l hi _ (xrw r_g3 hb) _ _ _ _ eg12) rfl (ma_goodc kc_Tokens_add) (B.2.2.2.1 _ k_831) (B.2.2.2.1 _ k_833) (B.2.2.2.1 _ ks_22) (B.2.2.2.1 _ k_3) ⟨by decide +kernel, by decide +kernel, by decide +kernel⟩ rfl d_Tokens_cutSign_23 rfl (Nat.le_of_ble_eq_true rfl) ⟨by decide, by decide⟩ ⟨by decide, by decide⟩ ⟨by decide, by decide⟩ (mv_noH hno _) (fun w23 σ23 h23 => ?_)
    obtain ⟨rfl, rfl, s_g12⟩ := h23
    have r_g12 : mv_r g12 = mv_r h := s_g12.trans r_g3
    exact mv_iret (pc := 26) B hr rfl d_Tokens_cutSign_26 (Nat.le_refl _) (Nat.le_refl _) ⟨_, rfl, xrh_i hf r_g12⟩
