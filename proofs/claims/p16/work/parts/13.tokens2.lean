/-! Tokens: characters, and a TOKEN more -/
def zb (v : Int32) (P : Prop) : Prop := (v = 1 ∧ P) ∨ (v = 0 ∧ ¬ P)
theorem zb_t {v : Int32} {P : Prop} (h : zb v P) (g : ¬ v = 0) : P := by
  rcases h with ⟨-, h⟩ | ⟨h, -⟩
  · exact h
  · exact absurd h g
theorem zb_f {v : Int32} {P : Prop} (h : zb v P) (g : v = 0) : ¬ P := by
  rcases h with ⟨h, -⟩ | ⟨-, h⟩
  · rw [h] at g; cases g
  · exact h
theorem zb_z {v : Int32} {P : Prop} (h : zb v P) : narrow .boolean (.int v) = .int v := by
  rcases h with ⟨rfl, -⟩ | ⟨rfl, -⟩ <;> decide
def tk_open (σ : mv_H) (k : Int32) : Int32 × mv_H := tk_take (mv_si (if mv_i σ 3 8 = 60 then tk_wrong σ else σ) 3 8 (mv_i σ 3 8 + 1)) k
def tk_close (σ : mv_H) (k : Int32) : Int32 × mv_H := tk_take (mv_si σ 3 8 (mv_i σ 3 8 - 1)) k
def tk_add (σ : mv_H) (k p : Int32) (x : Int64) : mv_H := mv_si (mv_sb (mv_sa (mv_sa σ 4 (mv_i σ 3 6).toNatClampNeg k) 5 (mv_i σ 3 6).toNatClampNeg p) 6 (mv_i σ 3 6).toNatClampNeg x) 3 6 (mv_i σ 3 6 + 1)
abbrev ch_digit (c : Int) : Prop := 48 ≤ c ∧ c ≤ 57
abbrev ch_letter (c : Int) : Prop := (97 ≤ c ∧ c ≤ 122) ∨ (65 ≤ c ∧ c ≤ 90)
abbrev ch_name (c : Int) : Prop := ch_letter c ∨ ch_digit c ∨ c = 95
abbrev ch_code (c : Int) : Prop := ch_letter c ∨ c = 48 ∨ c = 49 ∨ c = 46
def y_Tokens_isDigit : MethodName := ⟨"MachineLoom$Tokens", "isDigit", "(I)Z"⟩
abbrev b_Tokens_isDigit : ByteArray := prog_10_method_15_code
theorem kc_Tokens_isDigit : Cond.code y_Tokens_isDigit b_Tokens_isDigit 1 (Option.some Jvm.ClassFile.FieldType.boolean) ∈ ma := ma_of (tb_4 _ (List.mem_of_getElem? (i := 117) rfl)) rfl
theorem d_Tokens_isDigit_0 : decode b_Tokens_isDigit 0 = .ok (.iload_n 0, 1) := by decide +kernel
theorem d_Tokens_isDigit_1 : decode b_Tokens_isDigit 1 = .ok (.bipush 48, 2) := by decide +kernel
theorem d_Tokens_isDigit_3 : decode b_Tokens_isDigit 3 = .ok (.if_icmp .lt (13), 3) := by decide +kernel
theorem d_Tokens_isDigit_6 : decode b_Tokens_isDigit 6 = .ok (.iload_n 0, 1) := by decide +kernel
theorem d_Tokens_isDigit_7 : decode b_Tokens_isDigit 7 = .ok (.bipush 57, 2) := by decide +kernel
theorem d_Tokens_isDigit_9 : decode b_Tokens_isDigit 9 = .ok (.if_icmp .gt (7), 3) := by decide +kernel
theorem d_Tokens_isDigit_12 : decode b_Tokens_isDigit 12 = .ok (.iconst 1, 1) := by decide +kernel
theorem d_Tokens_isDigit_13 : decode b_Tokens_isDigit 13 = .ok (.goto (4), 3) := by decide +kernel
theorem d_Tokens_isDigit_16 : decode b_Tokens_isDigit 16 = .ok (.iconst 0, 1) := by decide +kernel
theorem d_Tokens_isDigit_17 : decode b_Tokens_isDigit 17 = .ok (.ireturn, 1) := by decide +kernel
set_option maxHeartbeats 4000000 in
set_option maxRecDepth 100000 in
theorem c_Tokens_isDigit (l : Launch) {dA : FieldType → ClassId} {D : va_G} {al : Nat → Nat} {ext : mv_Sh} {sk sv : Nat → Nat} (hi : mv_inj (mg dA D al ext)) (σ : mv_H) (x : Int32) : mv_C l y_Tokens_isDigit (Cond.code y_Tokens_isDigit b_Tokens_isDigit 1 (Option.some Jvm.ClassFile.FieldType.boolean) :: ma) ({ frames := 0, cells := 0, slots := 0, locals := 0 }) (mg dA D al ext) (mK sk sv) [.int x] σ (mv_Ri (fun v σ1 => σ1 = σ ∧ zb v (ch_digit x.toInt))) := by
  refine mv_C.ofV (cc := b_Tokens_isDigit) (nL := 1) (ret := (Option.some Jvm.ClassFile.FieldType.boolean)) (by decide +kernel) rfl hi (Nat.le_of_ble_eq_true rfl) ?_
  intro p e s m below meth c B hNs hr hnm hno
  refine mv_iload_n (pc := 0) B d_Tokens_isDigit_0 rfl 0 rfl ?_
  refine mv_bipush (pc := 1) (v := 48) B d_Tokens_isDigit_1 (by decide) ?_
  refine mv_icmp_lt (pc := 3) (tgt := 16) B d_Tokens_isDigit_3 rfl (fun h3 => ?_) (fun h3 => ?_)
  · skip
    refine mv_iconst (pc := 16) (v := 0) B d_Tokens_isDigit_16 (by decide) ?_
    exact mv_iret (pc := 17) B hr rfl d_Tokens_isDigit_17 (Nat.le_refl _) (Nat.le_refl _) ⟨_, rfl, rfl, by first | exact Or.inl ⟨rfl, by simp only [Int32.le_iff_toInt_le, Int32.lt_iff_toInt_lt, ← Int32.toInt_inj, Int32.reduceToInt] at h3 ⊢; omega⟩ | exact Or.inr ⟨rfl, by simp only [Int32.le_iff_toInt_le, Int32.lt_iff_toInt_lt, ← Int32.toInt_inj, Int32.reduceToInt] at h3 ⊢; omega⟩⟩
  · skip
    refine mv_iload_n (pc := 6) B d_Tokens_isDigit_6 rfl 0 rfl ?_
    refine mv_bipush (pc := 7) (v := 57) B d_Tokens_isDigit_7 (by decide) ?_
    refine mv_icmp_gt (pc := 9) (tgt := 16) B d_Tokens_isDigit_9 rfl (fun h9 => ?_) (fun h9 => ?_)
    · skip
      refine mv_iconst (pc := 16) (v := 0) B d_Tokens_isDigit_16 (by decide) ?_
      exact mv_iret (pc := 17) B hr rfl d_Tokens_isDigit_17 (Nat.le_refl _) (Nat.le_refl _) ⟨_, rfl, rfl, by first | exact Or.inl ⟨rfl, by simp only [Int32.le_iff_toInt_le, Int32.lt_iff_toInt_lt, ← Int32.toInt_inj, Int32.reduceToInt] at h3 h9 ⊢; omega⟩ | exact Or.inr ⟨rfl, by simp only [Int32.le_iff_toInt_le, Int32.lt_iff_toInt_lt, ← Int32.toInt_inj, Int32.reduceToInt] at h3 h9 ⊢; omega⟩⟩
    · skip
      refine mv_iconst (pc := 12) (v := 1) B d_Tokens_isDigit_12 (by decide) ?_
      refine mv_goto (pc := 13) (tgt := 17) B d_Tokens_isDigit_13 rfl ?_
      exact mv_iret (pc := 17) B hr rfl d_Tokens_isDigit_17 (Nat.le_refl _) (Nat.le_refl _) ⟨_, rfl, rfl, by first | exact Or.inl ⟨rfl, by simp only [Int32.le_iff_toInt_le, Int32.lt_iff_toInt_lt, ← Int32.toInt_inj, Int32.reduceToInt] at h3 h9 ⊢; omega⟩ | exact Or.inr ⟨rfl, by simp only [Int32.le_iff_toInt_le, Int32.lt_iff_toInt_lt, ← Int32.toInt_inj, Int32.reduceToInt] at h3 h9 ⊢; omega⟩⟩
def y_Tokens_isLetter : MethodName := ⟨"MachineLoom$Tokens", "isLetter", "(I)Z"⟩
abbrev b_Tokens_isLetter : ByteArray := prog_10_method_16_code
theorem kc_Tokens_isLetter : Cond.code y_Tokens_isLetter b_Tokens_isLetter 1 (Option.some Jvm.ClassFile.FieldType.boolean) ∈ ma := ma_of (tb_4 _ (List.mem_of_getElem? (i := 135) rfl)) rfl
theorem d_Tokens_isLetter_0 : decode b_Tokens_isLetter 0 = .ok (.iload_n 0, 1) := by decide +kernel
theorem d_Tokens_isLetter_1 : decode b_Tokens_isLetter 1 = .ok (.bipush 97, 2) := by decide +kernel
theorem d_Tokens_isLetter_3 : decode b_Tokens_isLetter 3 = .ok (.if_icmp .lt (9), 3) := by decide +kernel
theorem d_Tokens_isLetter_6 : decode b_Tokens_isLetter 6 = .ok (.iload_n 0, 1) := by decide +kernel
theorem d_Tokens_isLetter_7 : decode b_Tokens_isLetter 7 = .ok (.bipush 122, 2) := by decide +kernel
theorem d_Tokens_isLetter_9 : decode b_Tokens_isLetter 9 = .ok (.if_icmp .le (15), 3) := by decide +kernel
theorem d_Tokens_isLetter_12 : decode b_Tokens_isLetter 12 = .ok (.iload_n 0, 1) := by decide +kernel
theorem d_Tokens_isLetter_13 : decode b_Tokens_isLetter 13 = .ok (.bipush 65, 2) := by decide +kernel
theorem d_Tokens_isLetter_15 : decode b_Tokens_isLetter 15 = .ok (.if_icmp .lt (13), 3) := by decide +kernel
theorem d_Tokens_isLetter_18 : decode b_Tokens_isLetter 18 = .ok (.iload_n 0, 1) := by decide +kernel
theorem d_Tokens_isLetter_19 : decode b_Tokens_isLetter 19 = .ok (.bipush 90, 2) := by decide +kernel
theorem d_Tokens_isLetter_21 : decode b_Tokens_isLetter 21 = .ok (.if_icmp .gt (7), 3) := by decide +kernel
theorem d_Tokens_isLetter_24 : decode b_Tokens_isLetter 24 = .ok (.iconst 1, 1) := by decide +kernel
theorem d_Tokens_isLetter_25 : decode b_Tokens_isLetter 25 = .ok (.goto (4), 3) := by decide +kernel
theorem d_Tokens_isLetter_28 : decode b_Tokens_isLetter 28 = .ok (.iconst 0, 1) := by decide +kernel
theorem d_Tokens_isLetter_29 : decode b_Tokens_isLetter 29 = .ok (.ireturn, 1) := by decide +kernel
set_option maxHeartbeats 4000000 in
set_option maxRecDepth 100000 in
theorem c_Tokens_isLetter (l : Launch) {dA : FieldType → ClassId} {D : va_G} {al : Nat → Nat} {ext : mv_Sh} {sk sv : Nat → Nat} (hi : mv_inj (mg dA D al ext)) (σ : mv_H) (x : Int32) : mv_C l y_Tokens_isLetter (Cond.code y_Tokens_isLetter b_Tokens_isLetter 1 (Option.some Jvm.ClassFile.FieldType.boolean) :: ma) ({ frames := 0, cells := 0, slots := 0, locals := 0 }) (mg dA D al ext) (mK sk sv) [.int x] σ (mv_Ri (fun v σ1 => σ1 = σ ∧ zb v (ch_letter x.toInt))) := by
  refine mv_C.ofV (cc := b_Tokens_isLetter) (nL := 1) (ret := (Option.some Jvm.ClassFile.FieldType.boolean)) (by decide +kernel) rfl hi (Nat.le_of_ble_eq_true rfl) ?_
  intro p e s m below meth c B hNs hr hnm hno
  refine mv_iload_n (pc := 0) B d_Tokens_isLetter_0 rfl 0 rfl ?_
  refine mv_bipush (pc := 1) (v := 97) B d_Tokens_isLetter_1 (by decide) ?_
  refine mv_icmp_lt (pc := 3) (tgt := 12) B d_Tokens_isLetter_3 rfl (fun h3 => ?_) (fun h3 => ?_)
  · skip
    refine mv_iload_n (pc := 12) B d_Tokens_isLetter_12 rfl 0 rfl ?_
    refine mv_bipush (pc := 13) (v := 65) B d_Tokens_isLetter_13 (by decide) ?_
    refine mv_icmp_lt (pc := 15) (tgt := 28) B d_Tokens_isLetter_15 rfl (fun h15 => ?_) (fun h15 => ?_)
    · skip
      refine mv_iconst (pc := 28) (v := 0) B d_Tokens_isLetter_28 (by decide) ?_
      exact mv_iret (pc := 29) B hr rfl d_Tokens_isLetter_29 (Nat.le_refl _) (Nat.le_refl _) ⟨_, rfl, rfl, by first | exact Or.inl ⟨rfl, by simp only [Int32.le_iff_toInt_le, Int32.lt_iff_toInt_lt, ← Int32.toInt_inj, Int32.reduceToInt] at h3 h15 ⊢; omega⟩ | exact Or.inr ⟨rfl, by simp only [Int32.le_iff_toInt_le, Int32.lt_iff_toInt_lt, ← Int32.toInt_inj, Int32.reduceToInt] at h3 h15 ⊢; omega⟩⟩
    · skip
      refine mv_iload_n (pc := 18) B d_Tokens_isLetter_18 rfl 0 rfl ?_
      refine mv_bipush (pc := 19) (v := 90) B d_Tokens_isLetter_19 (by decide) ?_
      refine mv_icmp_gt (pc := 21) (tgt := 28) B d_Tokens_isLetter_21 rfl (fun h21 => ?_) (fun h21 => ?_)
      · skip
        refine mv_iconst (pc := 28) (v := 0) B d_Tokens_isLetter_28 (by decide) ?_
        exact mv_iret (pc := 29) B hr rfl d_Tokens_isLetter_29 (Nat.le_refl _) (Nat.le_refl _) ⟨_, rfl, rfl, by first | exact Or.inl ⟨rfl, by simp only [Int32.le_iff_toInt_le, Int32.lt_iff_toInt_lt, ← Int32.toInt_inj, Int32.reduceToInt] at h3 h15 h21 ⊢; omega⟩ | exact Or.inr ⟨rfl, by simp only [Int32.le_iff_toInt_le, Int32.lt_iff_toInt_lt, ← Int32.toInt_inj, Int32.reduceToInt] at h3 h15 h21 ⊢; omega⟩⟩
      · skip
        refine mv_iconst (pc := 24) (v := 1) B d_Tokens_isLetter_24 (by decide) ?_
        refine mv_goto (pc := 25) (tgt := 29) B d_Tokens_isLetter_25 rfl ?_
        exact mv_iret (pc := 29) B hr rfl d_Tokens_isLetter_29 (Nat.le_refl _) (Nat.le_refl _) ⟨_, rfl, rfl, by first | exact Or.inl ⟨rfl, by simp only [Int32.le_iff_toInt_le, Int32.lt_iff_toInt_lt, ← Int32.toInt_inj, Int32.reduceToInt] at h3 h15 h21 ⊢; omega⟩ | exact Or.inr ⟨rfl, by simp only [Int32.le_iff_toInt_le, Int32.lt_iff_toInt_lt, ← Int32.toInt_inj, Int32.reduceToInt] at h3 h15 h21 ⊢; omega⟩⟩
  · skip
    refine mv_iload_n (pc := 6) B d_Tokens_isLetter_6 rfl 0 rfl ?_
    refine mv_bipush (pc := 7) (v := 122) B d_Tokens_isLetter_7 (by decide) ?_
    refine mv_icmp_le (pc := 9) (tgt := 24) B d_Tokens_isLetter_9 rfl (fun h9 => ?_) (fun h9 => ?_)
    · skip
      refine mv_iconst (pc := 24) (v := 1) B d_Tokens_isLetter_24 (by decide) ?_
      refine mv_goto (pc := 25) (tgt := 29) B d_Tokens_isLetter_25 rfl ?_
      exact mv_iret (pc := 29) B hr rfl d_Tokens_isLetter_29 (Nat.le_refl _) (Nat.le_refl _) ⟨_, rfl, rfl, by first | exact Or.inl ⟨rfl, by simp only [Int32.le_iff_toInt_le, Int32.lt_iff_toInt_lt, ← Int32.toInt_inj, Int32.reduceToInt] at h3 h9 ⊢; omega⟩ | exact Or.inr ⟨rfl, by simp only [Int32.le_iff_toInt_le, Int32.lt_iff_toInt_lt, ← Int32.toInt_inj, Int32.reduceToInt] at h3 h9 ⊢; omega⟩⟩
    · skip
      refine mv_iload_n (pc := 12) B d_Tokens_isLetter_12 rfl 0 rfl ?_
      refine mv_bipush (pc := 13) (v := 65) B d_Tokens_isLetter_13 (by decide) ?_
      refine mv_icmp_lt (pc := 15) (tgt := 28) B d_Tokens_isLetter_15 rfl (fun h15 => ?_) (fun h15 => ?_)
      · skip
        refine mv_iconst (pc := 28) (v := 0) B d_Tokens_isLetter_28 (by decide) ?_
        exact mv_iret (pc := 29) B hr rfl d_Tokens_isLetter_29 (Nat.le_refl _) (Nat.le_refl _) ⟨_, rfl, rfl, by first | exact Or.inl ⟨rfl, by simp only [Int32.le_iff_toInt_le, Int32.lt_iff_toInt_lt, ← Int32.toInt_inj, Int32.reduceToInt] at h3 h9 h15 ⊢; omega⟩ | exact Or.inr ⟨rfl, by simp only [Int32.le_iff_toInt_le, Int32.lt_iff_toInt_lt, ← Int32.toInt_inj, Int32.reduceToInt] at h3 h9 h15 ⊢; omega⟩⟩
      · skip
        refine mv_iload_n (pc := 18) B d_Tokens_isLetter_18 rfl 0 rfl ?_
        refine mv_bipush (pc := 19) (v := 90) B d_Tokens_isLetter_19 (by decide) ?_
        refine mv_icmp_gt (pc := 21) (tgt := 28) B d_Tokens_isLetter_21 rfl (fun h21 => ?_) (fun h21 => ?_)
        · skip
          refine mv_iconst (pc := 28) (v := 0) B d_Tokens_isLetter_28 (by decide) ?_
          exact mv_iret (pc := 29) B hr rfl d_Tokens_isLetter_29 (Nat.le_refl _) (Nat.le_refl _) ⟨_, rfl, rfl, by first | exact Or.inl ⟨rfl, by simp only [Int32.le_iff_toInt_le, Int32.lt_iff_toInt_lt, ← Int32.toInt_inj, Int32.reduceToInt] at h3 h9 h15 h21 ⊢; omega⟩ | exact Or.inr ⟨rfl, by simp only [Int32.le_iff_toInt_le, Int32.lt_iff_toInt_lt, ← Int32.toInt_inj, Int32.reduceToInt] at h3 h9 h15 h21 ⊢; omega⟩⟩
        · skip
          refine mv_iconst (pc := 24) (v := 1) B d_Tokens_isLetter_24 (by decide) ?_
          refine mv_goto (pc := 25) (tgt := 29) B d_Tokens_isLetter_25 rfl ?_
          exact mv_iret (pc := 29) B hr rfl d_Tokens_isLetter_29 (Nat.le_refl _) (Nat.le_refl _) ⟨_, rfl, rfl, by first | exact Or.inl ⟨rfl, by simp only [Int32.le_iff_toInt_le, Int32.lt_iff_toInt_lt, ← Int32.toInt_inj, Int32.reduceToInt] at h3 h9 h15 h21 ⊢; omega⟩ | exact Or.inr ⟨rfl, by simp only [Int32.le_iff_toInt_le, Int32.lt_iff_toInt_lt, ← Int32.toInt_inj, Int32.reduceToInt] at h3 h9 h15 h21 ⊢; omega⟩⟩
def y_Tokens_isOfName : MethodName := ⟨"MachineLoom$Tokens", "isOfName", "(I)Z"⟩
abbrev b_Tokens_isOfName : ByteArray := prog_10_method_17_code
theorem kc_Tokens_isOfName : Cond.code y_Tokens_isOfName b_Tokens_isOfName 1 (Option.some Jvm.ClassFile.FieldType.boolean) ∈ ma := ma_of (tb_4 _ (List.mem_of_getElem? (i := 148) rfl)) rfl
theorem k_853 : (Jvm.Cond.methodLink "MachineLoom$Tokens" (78 : Nat) ({ cls := "MachineLoom$Tokens", name := "isLetter", desc := "(I)Z" } : Jvm.MethodName)) ∈ ma := ma_of (tb_4 _ (List.mem_of_getElem? (i := 133) rfl)) rfl
theorem k_854 : (Jvm.Cond.static ({ cls := "MachineLoom$Tokens", name := "isLetter", desc := "(I)Z" } : Jvm.MethodName)) ∈ ma := ma_of (tb_4 _ (List.mem_of_getElem? (i := 134) rfl)) rfl
theorem k_835 : (Jvm.Cond.methodLink "MachineLoom$Tokens" (68 : Nat) ({ cls := "MachineLoom$Tokens", name := "isDigit", desc := "(I)Z" } : Jvm.MethodName)) ∈ ma := ma_of (tb_4 _ (List.mem_of_getElem? (i := 115) rfl)) rfl
theorem k_836 : (Jvm.Cond.static ({ cls := "MachineLoom$Tokens", name := "isDigit", desc := "(I)Z" } : Jvm.MethodName)) ∈ ma := ma_of (tb_4 _ (List.mem_of_getElem? (i := 116) rfl)) rfl
theorem d_Tokens_isOfName_0 : decode b_Tokens_isOfName 0 = .ok (.iload_n 0, 1) := by decide +kernel
theorem d_Tokens_isOfName_1 : decode b_Tokens_isOfName 1 = .ok (.invokestatic 78, 3) := by decide +kernel
theorem d_Tokens_isOfName_4 : decode b_Tokens_isOfName 4 = .ok (.ifCond .ne (16), 3) := by decide +kernel
theorem d_Tokens_isOfName_7 : decode b_Tokens_isOfName 7 = .ok (.iload_n 0, 1) := by decide +kernel
theorem d_Tokens_isOfName_8 : decode b_Tokens_isOfName 8 = .ok (.invokestatic 68, 3) := by decide +kernel
theorem d_Tokens_isOfName_11 : decode b_Tokens_isOfName 11 = .ok (.ifCond .ne (9), 3) := by decide +kernel
theorem d_Tokens_isOfName_14 : decode b_Tokens_isOfName 14 = .ok (.iload_n 0, 1) := by decide +kernel
theorem d_Tokens_isOfName_15 : decode b_Tokens_isOfName 15 = .ok (.bipush 95, 2) := by decide +kernel
theorem d_Tokens_isOfName_17 : decode b_Tokens_isOfName 17 = .ok (.if_icmp .ne (7), 3) := by decide +kernel
theorem d_Tokens_isOfName_20 : decode b_Tokens_isOfName 20 = .ok (.iconst 1, 1) := by decide +kernel
theorem d_Tokens_isOfName_21 : decode b_Tokens_isOfName 21 = .ok (.goto (4), 3) := by decide +kernel
theorem d_Tokens_isOfName_24 : decode b_Tokens_isOfName 24 = .ok (.iconst 0, 1) := by decide +kernel
theorem d_Tokens_isOfName_25 : decode b_Tokens_isOfName 25 = .ok (.ireturn, 1) := by decide +kernel
set_option maxHeartbeats 4000000 in
set_option maxRecDepth 100000 in
theorem c_Tokens_isOfName (l : Launch) {dA : FieldType → ClassId} {D : va_G} {al : Nat → Nat} {ext : mv_Sh} {sk sv : Nat → Nat} (hi : mv_inj (mg dA D al ext)) (σ : mv_H) (x : Int32) : mv_C l y_Tokens_isOfName (Cond.code y_Tokens_isOfName b_Tokens_isOfName 1 (Option.some Jvm.ClassFile.FieldType.boolean) :: ma) ({ frames := 1, cells := 0, slots := 0, locals := 20 }) (mg dA D al ext) (mK sk sv) [.int x] σ (mv_Ri (fun v σ1 => σ1 = σ ∧ zb v (ch_name x.toInt))) := by
  refine mv_C.ofV (cc := b_Tokens_isOfName) (nL := 1) (ret := (Option.some Jvm.ClassFile.FieldType.boolean)) (by decide +kernel) rfl hi (Nat.le_of_ble_eq_true rfl) ?_
  intro p e s m below meth c B hNs hr hnm hno
  refine mv_iload_n (pc := 0) B d_Tokens_isOfName_0 rfl 0 rfl ?_
  refine mv_callSi (pc := 1) (n := 1) B (mK_ok sk sv) hNs (c_Tokens_isLetter l hi _ _) rfl (ma_goodc kc_Tokens_isLetter) (B.2.2.2.1 _ k_853) (B.2.2.2.1 _ k_854) (B.2.2.2.1 _ k_3) ⟨by decide +kernel, by decide +kernel, by decide +kernel⟩ rfl d_Tokens_isOfName_1 rfl (Nat.le_of_ble_eq_true rfl) ⟨by decide, by decide⟩ ⟨by decide, by decide⟩ ⟨by decide, by decide⟩ (mv_noH hno _) (fun v1 σ1 h1 => ?_)
  obtain ⟨rfl, z1⟩ := h1
  refine mv_if_ne (pc := 4) (tgt := 20) B d_Tokens_isOfName_4 rfl (fun h4 => ?_) (fun h4 => ?_)
  · skip
    have g4 := zb_t z1 h4
    refine mv_iconst (pc := 20) (v := 1) B d_Tokens_isOfName_20 (by decide) ?_
    refine mv_goto (pc := 21) (tgt := 25) B d_Tokens_isOfName_21 rfl ?_
    exact mv_iret (pc := 25) B hr rfl d_Tokens_isOfName_25 (Nat.le_refl _) (Nat.le_refl _) ⟨_, rfl, rfl, by first | exact Or.inl ⟨rfl, by first | exact Or.inl g4 | exact Or.inr (Or.inl g11) | exact Or.inr (Or.inr (by rw [h17]; rfl))⟩ | exact Or.inr ⟨rfl, fun q => q.elim g4 (fun q => q.elim g11 (fun q => h17 (Int32.toInt_inj.mp (by rw [q]; rfl))))⟩⟩
  · skip
    have g4 := zb_f z1 h4
    refine mv_iload_n (pc := 7) B d_Tokens_isOfName_7 rfl 0 rfl ?_
    refine mv_callSi (pc := 8) (n := 1) B (mK_ok sk sv) hNs (c_Tokens_isDigit l hi _ _) rfl (ma_goodc kc_Tokens_isDigit) (B.2.2.2.1 _ k_835) (B.2.2.2.1 _ k_836) (B.2.2.2.1 _ k_3) ⟨by decide +kernel, by decide +kernel, by decide +kernel⟩ rfl d_Tokens_isOfName_8 rfl (Nat.le_of_ble_eq_true rfl) ⟨by decide, by decide⟩ ⟨by decide, by decide⟩ ⟨by decide, by decide⟩ (mv_noH hno _) (fun v8 σ8 h8 => ?_)
    obtain ⟨rfl, z8⟩ := h8
    refine mv_if_ne (pc := 11) (tgt := 20) B d_Tokens_isOfName_11 rfl (fun h11 => ?_) (fun h11 => ?_)
    · skip
      have g11 := zb_t z8 h11
      refine mv_iconst (pc := 20) (v := 1) B d_Tokens_isOfName_20 (by decide) ?_
      refine mv_goto (pc := 21) (tgt := 25) B d_Tokens_isOfName_21 rfl ?_
      exact mv_iret (pc := 25) B hr rfl d_Tokens_isOfName_25 (Nat.le_refl _) (Nat.le_refl _) ⟨_, rfl, rfl, by first | exact Or.inl ⟨rfl, by first | exact Or.inl g4 | exact Or.inr (Or.inl g11) | exact Or.inr (Or.inr (by rw [h17]; rfl))⟩ | exact Or.inr ⟨rfl, fun q => q.elim g4 (fun q => q.elim g11 (fun q => h17 (Int32.toInt_inj.mp (by rw [q]; rfl))))⟩⟩
    · skip
      have g11 := zb_f z8 h11
      refine mv_iload_n (pc := 14) B d_Tokens_isOfName_14 rfl 0 rfl ?_
      refine mv_bipush (pc := 15) (v := 95) B d_Tokens_isOfName_15 (by decide) ?_
      refine mv_icmp_ne (pc := 17) (tgt := 24) B d_Tokens_isOfName_17 rfl (fun h17 => ?_) (fun h17 => ?_)
      · skip
        refine mv_iconst (pc := 24) (v := 0) B d_Tokens_isOfName_24 (by decide) ?_
        exact mv_iret (pc := 25) B hr rfl d_Tokens_isOfName_25 (Nat.le_refl _) (Nat.le_refl _) ⟨_, rfl, rfl, by first | exact Or.inl ⟨rfl, by first | exact Or.inl g4 | exact Or.inr (Or.inl g11) | exact Or.inr (Or.inr (by rw [h17]; rfl))⟩ | exact Or.inr ⟨rfl, fun q => q.elim g4 (fun q => q.elim g11 (fun q => h17 (Int32.toInt_inj.mp (by rw [q]; rfl))))⟩⟩
      · skip
        refine mv_iconst (pc := 20) (v := 1) B d_Tokens_isOfName_20 (by decide) ?_
        refine mv_goto (pc := 21) (tgt := 25) B d_Tokens_isOfName_21 rfl ?_
        exact mv_iret (pc := 25) B hr rfl d_Tokens_isOfName_25 (Nat.le_refl _) (Nat.le_refl _) ⟨_, rfl, rfl, by first | exact Or.inl ⟨rfl, by first | exact Or.inl g4 | exact Or.inr (Or.inl g11) | exact Or.inr (Or.inr (by rw [h17]; rfl))⟩ | exact Or.inr ⟨rfl, fun q => q.elim g4 (fun q => q.elim g11 (fun q => h17 (Int32.toInt_inj.mp (by rw [q]; rfl))))⟩⟩
def y_Tokens_isOfCode : MethodName := ⟨"MachineLoom$Tokens", "isOfCode", "(I)Z"⟩
abbrev b_Tokens_isOfCode : ByteArray := prog_10_method_18_code
theorem kc_Tokens_isOfCode : Cond.code y_Tokens_isOfCode b_Tokens_isOfCode 1 (Option.some Jvm.ClassFile.FieldType.boolean) ∈ ma := ma_of (tb_4 _ (List.mem_of_getElem? (i := 156) rfl)) rfl
theorem d_Tokens_isOfCode_0 : decode b_Tokens_isOfCode 0 = .ok (.iload_n 0, 1) := by decide +kernel
theorem d_Tokens_isOfCode_1 : decode b_Tokens_isOfCode 1 = .ok (.invokestatic 78, 3) := by decide +kernel
theorem d_Tokens_isOfCode_4 : decode b_Tokens_isOfCode 4 = .ok (.ifCond .ne (21), 3) := by decide +kernel
theorem d_Tokens_isOfCode_7 : decode b_Tokens_isOfCode 7 = .ok (.iload_n 0, 1) := by decide +kernel
theorem d_Tokens_isOfCode_8 : decode b_Tokens_isOfCode 8 = .ok (.bipush 48, 2) := by decide +kernel
theorem d_Tokens_isOfCode_10 : decode b_Tokens_isOfCode 10 = .ok (.if_icmp .eq (15), 3) := by decide +kernel
theorem d_Tokens_isOfCode_13 : decode b_Tokens_isOfCode 13 = .ok (.iload_n 0, 1) := by decide +kernel
theorem d_Tokens_isOfCode_14 : decode b_Tokens_isOfCode 14 = .ok (.bipush 49, 2) := by decide +kernel
theorem d_Tokens_isOfCode_16 : decode b_Tokens_isOfCode 16 = .ok (.if_icmp .eq (9), 3) := by decide +kernel
theorem d_Tokens_isOfCode_19 : decode b_Tokens_isOfCode 19 = .ok (.iload_n 0, 1) := by decide +kernel
theorem d_Tokens_isOfCode_20 : decode b_Tokens_isOfCode 20 = .ok (.bipush 46, 2) := by decide +kernel
theorem d_Tokens_isOfCode_22 : decode b_Tokens_isOfCode 22 = .ok (.if_icmp .ne (7), 3) := by decide +kernel
theorem d_Tokens_isOfCode_25 : decode b_Tokens_isOfCode 25 = .ok (.iconst 1, 1) := by decide +kernel
theorem d_Tokens_isOfCode_26 : decode b_Tokens_isOfCode 26 = .ok (.goto (4), 3) := by decide +kernel
theorem d_Tokens_isOfCode_29 : decode b_Tokens_isOfCode 29 = .ok (.iconst 0, 1) := by decide +kernel
theorem d_Tokens_isOfCode_30 : decode b_Tokens_isOfCode 30 = .ok (.ireturn, 1) := by decide +kernel
set_option maxHeartbeats 4000000 in
set_option maxRecDepth 100000 in
theorem c_Tokens_isOfCode (l : Launch) {dA : FieldType → ClassId} {D : va_G} {al : Nat → Nat} {ext : mv_Sh} {sk sv : Nat → Nat} (hi : mv_inj (mg dA D al ext)) (σ : mv_H) (x : Int32) : mv_C l y_Tokens_isOfCode (Cond.code y_Tokens_isOfCode b_Tokens_isOfCode 1 (Option.some Jvm.ClassFile.FieldType.boolean) :: ma) ({ frames := 1, cells := 0, slots := 0, locals := 20 }) (mg dA D al ext) (mK sk sv) [.int x] σ (mv_Ri (fun v σ1 => σ1 = σ ∧ zb v (ch_code x.toInt))) := by
  refine mv_C.ofV (cc := b_Tokens_isOfCode) (nL := 1) (ret := (Option.some Jvm.ClassFile.FieldType.boolean)) (by decide +kernel) rfl hi (Nat.le_of_ble_eq_true rfl) ?_
  intro p e s m below meth c B hNs hr hnm hno
  refine mv_iload_n (pc := 0) B d_Tokens_isOfCode_0 rfl 0 rfl ?_
  refine mv_callSi (pc := 1) (n := 1) B (mK_ok sk sv) hNs (c_Tokens_isLetter l hi _ _) rfl (ma_goodc kc_Tokens_isLetter) (B.2.2.2.1 _ k_853) (B.2.2.2.1 _ k_854) (B.2.2.2.1 _ k_3) ⟨by decide +kernel, by decide +kernel, by decide +kernel⟩ rfl d_Tokens_isOfCode_1 rfl (Nat.le_of_ble_eq_true rfl) ⟨by decide, by decide⟩ ⟨by decide, by decide⟩ ⟨by decide, by decide⟩ (mv_noH hno _) (fun v1 σ1 h1 => ?_)
  obtain ⟨rfl, z1⟩ := h1
  refine mv_if_ne (pc := 4) (tgt := 25) B d_Tokens_isOfCode_4 rfl (fun h4 => ?_) (fun h4 => ?_)
  · skip
    have g4 := zb_t z1 h4
    refine mv_iconst (pc := 25) (v := 1) B d_Tokens_isOfCode_25 (by decide) ?_
    refine mv_goto (pc := 26) (tgt := 30) B d_Tokens_isOfCode_26 rfl ?_
    exact mv_iret (pc := 30) B hr rfl d_Tokens_isOfCode_30 (Nat.le_refl _) (Nat.le_refl _) ⟨_, rfl, rfl, by first | exact Or.inl ⟨rfl, by first | exact Or.inl g4 | exact Or.inr (Or.inl (by rw [h10]; rfl)) | exact Or.inr (Or.inr (Or.inl (by rw [h16]; rfl))) | exact Or.inr (Or.inr (Or.inr (by rw [h22]; rfl)))⟩ | exact Or.inr ⟨rfl, fun q => q.elim g4 (fun q => q.elim (fun q => h10 (Int32.toInt_inj.mp (by rw [q]; rfl))) (fun q => q.elim (fun q => h16 (Int32.toInt_inj.mp (by rw [q]; rfl))) (fun q => h22 (Int32.toInt_inj.mp (by rw [q]; rfl)))))⟩⟩
  · skip
    have g4 := zb_f z1 h4
    refine mv_iload_n (pc := 7) B d_Tokens_isOfCode_7 rfl 0 rfl ?_
    refine mv_bipush (pc := 8) (v := 48) B d_Tokens_isOfCode_8 (by decide) ?_
    refine mv_icmp_eq (pc := 10) (tgt := 25) B d_Tokens_isOfCode_10 rfl (fun h10 => ?_) (fun h10 => ?_)
    · skip
      refine mv_iconst (pc := 25) (v := 1) B d_Tokens_isOfCode_25 (by decide) ?_
      refine mv_goto (pc := 26) (tgt := 30) B d_Tokens_isOfCode_26 rfl ?_
      exact mv_iret (pc := 30) B hr rfl d_Tokens_isOfCode_30 (Nat.le_refl _) (Nat.le_refl _) ⟨_, rfl, rfl, by first | exact Or.inl ⟨rfl, by first | exact Or.inl g4 | exact Or.inr (Or.inl (by rw [h10]; rfl)) | exact Or.inr (Or.inr (Or.inl (by rw [h16]; rfl))) | exact Or.inr (Or.inr (Or.inr (by rw [h22]; rfl)))⟩ | exact Or.inr ⟨rfl, fun q => q.elim g4 (fun q => q.elim (fun q => h10 (Int32.toInt_inj.mp (by rw [q]; rfl))) (fun q => q.elim (fun q => h16 (Int32.toInt_inj.mp (by rw [q]; rfl))) (fun q => h22 (Int32.toInt_inj.mp (by rw [q]; rfl)))))⟩⟩
    · skip
      refine mv_iload_n (pc := 13) B d_Tokens_isOfCode_13 rfl 0 rfl ?_
      refine mv_bipush (pc := 14) (v := 49) B d_Tokens_isOfCode_14 (by decide) ?_
      refine mv_icmp_eq (pc := 16) (tgt := 25) B d_Tokens_isOfCode_16 rfl (fun h16 => ?_) (fun h16 => ?_)
      · skip
        refine mv_iconst (pc := 25) (v := 1) B d_Tokens_isOfCode_25 (by decide) ?_
        refine mv_goto (pc := 26) (tgt := 30) B d_Tokens_isOfCode_26 rfl ?_
        exact mv_iret (pc := 30) B hr rfl d_Tokens_isOfCode_30 (Nat.le_refl _) (Nat.le_refl _) ⟨_, rfl, rfl, by first | exact Or.inl ⟨rfl, by first | exact Or.inl g4 | exact Or.inr (Or.inl (by rw [h10]; rfl)) | exact Or.inr (Or.inr (Or.inl (by rw [h16]; rfl))) | exact Or.inr (Or.inr (Or.inr (by rw [h22]; rfl)))⟩ | exact Or.inr ⟨rfl, fun q => q.elim g4 (fun q => q.elim (fun q => h10 (Int32.toInt_inj.mp (by rw [q]; rfl))) (fun q => q.elim (fun q => h16 (Int32.toInt_inj.mp (by rw [q]; rfl))) (fun q => h22 (Int32.toInt_inj.mp (by rw [q]; rfl)))))⟩⟩
      · skip
        refine mv_iload_n (pc := 19) B d_Tokens_isOfCode_19 rfl 0 rfl ?_
        refine mv_bipush (pc := 20) (v := 46) B d_Tokens_isOfCode_20 (by decide) ?_
        refine mv_icmp_ne (pc := 22) (tgt := 29) B d_Tokens_isOfCode_22 rfl (fun h22 => ?_) (fun h22 => ?_)
        · skip
          refine mv_iconst (pc := 29) (v := 0) B d_Tokens_isOfCode_29 (by decide) ?_
          exact mv_iret (pc := 30) B hr rfl d_Tokens_isOfCode_30 (Nat.le_refl _) (Nat.le_refl _) ⟨_, rfl, rfl, by first | exact Or.inl ⟨rfl, by first | exact Or.inl g4 | exact Or.inr (Or.inl (by rw [h10]; rfl)) | exact Or.inr (Or.inr (Or.inl (by rw [h16]; rfl))) | exact Or.inr (Or.inr (Or.inr (by rw [h22]; rfl)))⟩ | exact Or.inr ⟨rfl, fun q => q.elim g4 (fun q => q.elim (fun q => h10 (Int32.toInt_inj.mp (by rw [q]; rfl))) (fun q => q.elim (fun q => h16 (Int32.toInt_inj.mp (by rw [q]; rfl))) (fun q => h22 (Int32.toInt_inj.mp (by rw [q]; rfl)))))⟩⟩
        · skip
          refine mv_iconst (pc := 25) (v := 1) B d_Tokens_isOfCode_25 (by decide) ?_
          refine mv_goto (pc := 26) (tgt := 30) B d_Tokens_isOfCode_26 rfl ?_
          exact mv_iret (pc := 30) B hr rfl d_Tokens_isOfCode_30 (Nat.le_refl _) (Nat.le_refl _) ⟨_, rfl, rfl, by first | exact Or.inl ⟨rfl, by first | exact Or.inl g4 | exact Or.inr (Or.inl (by rw [h10]; rfl)) | exact Or.inr (Or.inr (Or.inl (by rw [h16]; rfl))) | exact Or.inr (Or.inr (Or.inr (by rw [h22]; rfl)))⟩ | exact Or.inr ⟨rfl, fun q => q.elim g4 (fun q => q.elim (fun q => h10 (Int32.toInt_inj.mp (by rw [q]; rfl))) (fun q => q.elim (fun q => h16 (Int32.toInt_inj.mp (by rw [q]; rfl))) (fun q => h22 (Int32.toInt_inj.mp (by rw [q]; rfl)))))⟩⟩
def y_Tokens_hexDigit : MethodName := ⟨"MachineLoom$Tokens", "hexDigit", "(I)I"⟩
abbrev b_Tokens_hexDigit : ByteArray := prog_10_method_19_code
theorem kc_Tokens_hexDigit : Cond.code y_Tokens_hexDigit b_Tokens_hexDigit 1 (Option.some Jvm.ClassFile.FieldType.int) ∈ ma := ma_of (tb_4 _ (List.mem_of_getElem? (i := 124) rfl)) rfl
theorem d_Tokens_hexDigit_0 : decode b_Tokens_hexDigit 0 = .ok (.iload_n 0, 1) := by decide +kernel
theorem d_Tokens_hexDigit_1 : decode b_Tokens_hexDigit 1 = .ok (.invokestatic 68, 3) := by decide +kernel
theorem d_Tokens_hexDigit_4 : decode b_Tokens_hexDigit 4 = .ok (.ifCond .eq (8), 3) := by decide +kernel
theorem d_Tokens_hexDigit_7 : decode b_Tokens_hexDigit 7 = .ok (.iload_n 0, 1) := by decide +kernel
theorem d_Tokens_hexDigit_8 : decode b_Tokens_hexDigit 8 = .ok (.bipush 48, 2) := by decide +kernel
theorem d_Tokens_hexDigit_10 : decode b_Tokens_hexDigit 10 = .ok (.isub, 1) := by decide +kernel
theorem d_Tokens_hexDigit_11 : decode b_Tokens_hexDigit 11 = .ok (.ireturn, 1) := by decide +kernel
theorem d_Tokens_hexDigit_12 : decode b_Tokens_hexDigit 12 = .ok (.iload_n 0, 1) := by decide +kernel
theorem d_Tokens_hexDigit_13 : decode b_Tokens_hexDigit 13 = .ok (.bipush 97, 2) := by decide +kernel
theorem d_Tokens_hexDigit_15 : decode b_Tokens_hexDigit 15 = .ok (.if_icmp .lt (17), 3) := by decide +kernel
theorem d_Tokens_hexDigit_18 : decode b_Tokens_hexDigit 18 = .ok (.iload_n 0, 1) := by decide +kernel
theorem d_Tokens_hexDigit_19 : decode b_Tokens_hexDigit 19 = .ok (.bipush 102, 2) := by decide +kernel
theorem d_Tokens_hexDigit_21 : decode b_Tokens_hexDigit 21 = .ok (.if_icmp .gt (11), 3) := by decide +kernel
theorem d_Tokens_hexDigit_24 : decode b_Tokens_hexDigit 24 = .ok (.iload_n 0, 1) := by decide +kernel
theorem d_Tokens_hexDigit_25 : decode b_Tokens_hexDigit 25 = .ok (.bipush 97, 2) := by decide +kernel
theorem d_Tokens_hexDigit_27 : decode b_Tokens_hexDigit 27 = .ok (.isub, 1) := by decide +kernel
theorem d_Tokens_hexDigit_28 : decode b_Tokens_hexDigit 28 = .ok (.bipush 10, 2) := by decide +kernel
theorem d_Tokens_hexDigit_30 : decode b_Tokens_hexDigit 30 = .ok (.iadd, 1) := by decide +kernel
theorem d_Tokens_hexDigit_31 : decode b_Tokens_hexDigit 31 = .ok (.ireturn, 1) := by decide +kernel
theorem d_Tokens_hexDigit_32 : decode b_Tokens_hexDigit 32 = .ok (.iload_n 0, 1) := by decide +kernel
theorem d_Tokens_hexDigit_33 : decode b_Tokens_hexDigit 33 = .ok (.bipush 65, 2) := by decide +kernel
theorem d_Tokens_hexDigit_35 : decode b_Tokens_hexDigit 35 = .ok (.if_icmp .lt (19), 3) := by decide +kernel
theorem d_Tokens_hexDigit_38 : decode b_Tokens_hexDigit 38 = .ok (.iload_n 0, 1) := by decide +kernel
theorem d_Tokens_hexDigit_39 : decode b_Tokens_hexDigit 39 = .ok (.bipush 70, 2) := by decide +kernel
theorem d_Tokens_hexDigit_41 : decode b_Tokens_hexDigit 41 = .ok (.if_icmp .gt (13), 3) := by decide +kernel
theorem d_Tokens_hexDigit_44 : decode b_Tokens_hexDigit 44 = .ok (.iload_n 0, 1) := by decide +kernel
theorem d_Tokens_hexDigit_45 : decode b_Tokens_hexDigit 45 = .ok (.bipush 65, 2) := by decide +kernel
theorem d_Tokens_hexDigit_47 : decode b_Tokens_hexDigit 47 = .ok (.isub, 1) := by decide +kernel
theorem d_Tokens_hexDigit_48 : decode b_Tokens_hexDigit 48 = .ok (.bipush 10, 2) := by decide +kernel
theorem d_Tokens_hexDigit_50 : decode b_Tokens_hexDigit 50 = .ok (.iadd, 1) := by decide +kernel
theorem d_Tokens_hexDigit_51 : decode b_Tokens_hexDigit 51 = .ok (.goto (4), 3) := by decide +kernel
theorem d_Tokens_hexDigit_54 : decode b_Tokens_hexDigit 54 = .ok (.iconst (-1), 1) := by decide +kernel
theorem d_Tokens_hexDigit_55 : decode b_Tokens_hexDigit 55 = .ok (.ireturn, 1) := by decide +kernel
set_option maxHeartbeats 4000000 in
set_option maxRecDepth 100000 in
theorem c_Tokens_hexDigit (l : Launch) {dA : FieldType → ClassId} {D : va_G} {al : Nat → Nat} {ext : mv_Sh} {sk sv : Nat → Nat} (hi : mv_inj (mg dA D al ext)) (σ : mv_H) (x : Int32) : mv_C l y_Tokens_hexDigit (Cond.code y_Tokens_hexDigit b_Tokens_hexDigit 1 (Option.some Jvm.ClassFile.FieldType.int) :: ma) ({ frames := 1, cells := 0, slots := 0, locals := 20 }) (mg dA D al ext) (mK sk sv) [.int x] σ (mv_Ri (fun v σ1 => σ1 = σ)) := by
  refine mv_C.ofV (cc := b_Tokens_hexDigit) (nL := 1) (ret := (Option.some Jvm.ClassFile.FieldType.int)) (by decide +kernel) rfl hi (Nat.le_of_ble_eq_true rfl) ?_
  intro p e s m below meth c B hNs hr hnm hno
  refine mv_iload_n (pc := 0) B d_Tokens_hexDigit_0 rfl 0 rfl ?_
  refine mv_callSi (pc := 1) (n := 1) B (mK_ok sk sv) hNs (c_Tokens_isDigit l hi _ _) rfl (ma_goodc kc_Tokens_isDigit) (B.2.2.2.1 _ k_835) (B.2.2.2.1 _ k_836) (B.2.2.2.1 _ k_3) ⟨by decide +kernel, by decide +kernel, by decide +kernel⟩ rfl d_Tokens_hexDigit_1 rfl (Nat.le_of_ble_eq_true rfl) ⟨by decide, by decide⟩ ⟨by decide, by decide⟩ ⟨by decide, by decide⟩ (mv_noH hno _) (fun v1 σ1 h1 => ?_)
  obtain ⟨rfl, z1⟩ := h1
  refine mv_if_eq (pc := 4) (tgt := 12) B d_Tokens_hexDigit_4 rfl (fun h4 => ?_) (fun h4 => ?_)
  · skip
    refine mv_iload_n (pc := 12) B d_Tokens_hexDigit_12 rfl 0 rfl ?_
    refine mv_bipush (pc := 13) (v := 97) B d_Tokens_hexDigit_13 (by decide) ?_
    refine mv_icmp_lt (pc := 15) (tgt := 32) B d_Tokens_hexDigit_15 rfl (fun h15 => ?_) (fun h15 => ?_)
    · skip
      refine mv_iload_n (pc := 32) B d_Tokens_hexDigit_32 rfl 0 rfl ?_
      refine mv_bipush (pc := 33) (v := 65) B d_Tokens_hexDigit_33 (by decide) ?_
      refine mv_icmp_lt (pc := 35) (tgt := 54) B d_Tokens_hexDigit_35 rfl (fun h35 => ?_) (fun h35 => ?_)
      · skip
        refine mv_iconst (pc := 54) (v := -1) B d_Tokens_hexDigit_54 (by decide) ?_
        exact mv_iret (pc := 55) B hr rfl d_Tokens_hexDigit_55 (Nat.le_refl _) (Nat.le_refl _) ⟨_, rfl, rfl⟩
      · skip
        refine mv_iload_n (pc := 38) B d_Tokens_hexDigit_38 rfl 0 rfl ?_
        refine mv_bipush (pc := 39) (v := 70) B d_Tokens_hexDigit_39 (by decide) ?_
        refine mv_icmp_gt (pc := 41) (tgt := 54) B d_Tokens_hexDigit_41 rfl (fun h41 => ?_) (fun h41 => ?_)
        · skip
          refine mv_iconst (pc := 54) (v := -1) B d_Tokens_hexDigit_54 (by decide) ?_
          exact mv_iret (pc := 55) B hr rfl d_Tokens_hexDigit_55 (Nat.le_refl _) (Nat.le_refl _) ⟨_, rfl, rfl⟩
        · skip
          refine mv_iload_n (pc := 44) B d_Tokens_hexDigit_44 rfl 0 rfl ?_
          refine mv_bipush (pc := 45) (v := 65) B d_Tokens_hexDigit_45 (by decide) ?_
          refine mv_isub (pc := 47) B d_Tokens_hexDigit_47 ?_
          refine mv_bipush (pc := 48) (v := 10) B d_Tokens_hexDigit_48 (by decide) ?_
          refine mv_iadd (pc := 50) B d_Tokens_hexDigit_50 ?_
          refine mv_goto (pc := 51) (tgt := 55) B d_Tokens_hexDigit_51 rfl ?_
          exact mv_iret (pc := 55) B hr rfl d_Tokens_hexDigit_55 (Nat.le_refl _) (Nat.le_refl _) ⟨_, rfl, rfl⟩
    · skip
      refine mv_iload_n (pc := 18) B d_Tokens_hexDigit_18 rfl 0 rfl ?_
      refine mv_bipush (pc := 19) (v := 102) B d_Tokens_hexDigit_19 (by decide) ?_
      refine mv_icmp_gt (pc := 21) (tgt := 32) B d_Tokens_hexDigit_21 rfl (fun h21 => ?_) (fun h21 => ?_)
      · skip
        refine mv_iload_n (pc := 32) B d_Tokens_hexDigit_32 rfl 0 rfl ?_
        refine mv_bipush (pc := 33) (v := 65) B d_Tokens_hexDigit_33 (by decide) ?_
        refine mv_icmp_lt (pc := 35) (tgt := 54) B d_Tokens_hexDigit_35 rfl (fun h35 => ?_) (fun h35 => ?_)
        · skip
          refine mv_iconst (pc := 54) (v := -1) B d_Tokens_hexDigit_54 (by decide) ?_
          exact mv_iret (pc := 55) B hr rfl d_Tokens_hexDigit_55 (Nat.le_refl _) (Nat.le_refl _) ⟨_, rfl, rfl⟩
        · skip
          refine mv_iload_n (pc := 38) B d_Tokens_hexDigit_38 rfl 0 rfl ?_
          refine mv_bipush (pc := 39) (v := 70) B d_Tokens_hexDigit_39 (by decide) ?_
          refine mv_icmp_gt (pc := 41) (tgt := 54) B d_Tokens_hexDigit_41 rfl (fun h41 => ?_) (fun h41 => ?_)
          · skip
            refine mv_iconst (pc := 54) (v := -1) B d_Tokens_hexDigit_54 (by decide) ?_
            exact mv_iret (pc := 55) B hr rfl d_Tokens_hexDigit_55 (Nat.le_refl _) (Nat.le_refl _) ⟨_, rfl, rfl⟩
          · skip
            refine mv_iload_n (pc := 44) B d_Tokens_hexDigit_44 rfl 0 rfl ?_
            refine mv_bipush (pc := 45) (v := 65) B d_Tokens_hexDigit_45 (by decide) ?_
            refine mv_isub (pc := 47) B d_Tokens_hexDigit_47 ?_
            refine mv_bipush (pc := 48) (v := 10) B d_Tokens_hexDigit_48 (by decide) ?_
            refine mv_iadd (pc := 50) B d_Tokens_hexDigit_50 ?_
            refine mv_goto (pc := 51) (tgt := 55) B d_Tokens_hexDigit_51 rfl ?_
            exact mv_iret (pc := 55) B hr rfl d_Tokens_hexDigit_55 (Nat.le_refl _) (Nat.le_refl _) ⟨_, rfl, rfl⟩
      · skip
        refine mv_iload_n (pc := 24) B d_Tokens_hexDigit_24 rfl 0 rfl ?_
        refine mv_bipush (pc := 25) (v := 97) B d_Tokens_hexDigit_25 (by decide) ?_
        refine mv_isub (pc := 27) B d_Tokens_hexDigit_27 ?_
        refine mv_bipush (pc := 28) (v := 10) B d_Tokens_hexDigit_28 (by decide) ?_
        refine mv_iadd (pc := 30) B d_Tokens_hexDigit_30 ?_
        exact mv_iret (pc := 31) B hr rfl d_Tokens_hexDigit_31 (Nat.le_refl _) (Nat.le_refl _) ⟨_, rfl, rfl⟩
  · skip
    refine mv_iload_n (pc := 7) B d_Tokens_hexDigit_7 rfl 0 rfl ?_
    refine mv_bipush (pc := 8) (v := 48) B d_Tokens_hexDigit_8 (by decide) ?_
    refine mv_isub (pc := 10) B d_Tokens_hexDigit_10 ?_
    exact mv_iret (pc := 11) B hr rfl d_Tokens_hexDigit_11 (Nat.le_refl _) (Nat.le_refl _) ⟨_, rfl, rfl⟩
def y_Tokens_pairOf : MethodName := ⟨"MachineLoom$Tokens", "pairOf", "(II)I"⟩
abbrev b_Tokens_pairOf : ByteArray := prog_10_method_11_code
theorem kc_Tokens_pairOf : Cond.code y_Tokens_pairOf b_Tokens_pairOf 2 (Option.some Jvm.ClassFile.FieldType.int) ∈ ma := ma_of (tb_4 _ (List.mem_of_getElem? (i := 163) rfl)) rfl
theorem d_Tokens_pairOf_0 : decode b_Tokens_pairOf 0 = .ok (.iload_n 1, 1) := by decide +kernel
theorem d_Tokens_pairOf_1 : decode b_Tokens_pairOf 1 = .ok (.bipush 61, 2) := by decide +kernel
theorem d_Tokens_pairOf_3 : decode b_Tokens_pairOf 3 = .ok (.if_icmp .ne (41), 3) := by decide +kernel
theorem d_Tokens_pairOf_6 : decode b_Tokens_pairOf 6 = .ok (.iload_n 0, 1) := by decide +kernel
theorem d_Tokens_pairOf_7 : decode b_Tokens_pairOf 7 = .ok (.bipush 61, 2) := by decide +kernel
theorem d_Tokens_pairOf_9 : decode b_Tokens_pairOf 9 = .ok (.if_icmp .ne (9), 3) := by decide +kernel
theorem d_Tokens_pairOf_12 : decode b_Tokens_pairOf 12 = .ok (.sipush 128, 3) := by decide +kernel
theorem d_Tokens_pairOf_15 : decode b_Tokens_pairOf 15 = .ok (.goto (28), 3) := by decide +kernel
theorem d_Tokens_pairOf_18 : decode b_Tokens_pairOf 18 = .ok (.iload_n 0, 1) := by decide +kernel
theorem d_Tokens_pairOf_19 : decode b_Tokens_pairOf 19 = .ok (.bipush 33, 2) := by decide +kernel
theorem d_Tokens_pairOf_21 : decode b_Tokens_pairOf 21 = .ok (.if_icmp .ne (9), 3) := by decide +kernel
theorem d_Tokens_pairOf_24 : decode b_Tokens_pairOf 24 = .ok (.sipush 129, 3) := by decide +kernel
theorem d_Tokens_pairOf_27 : decode b_Tokens_pairOf 27 = .ok (.goto (16), 3) := by decide +kernel
theorem d_Tokens_pairOf_30 : decode b_Tokens_pairOf 30 = .ok (.iload_n 0, 1) := by decide +kernel
theorem d_Tokens_pairOf_31 : decode b_Tokens_pairOf 31 = .ok (.bipush 60, 2) := by decide +kernel
theorem d_Tokens_pairOf_33 : decode b_Tokens_pairOf 33 = .ok (.if_icmp .ne (9), 3) := by decide +kernel
theorem d_Tokens_pairOf_36 : decode b_Tokens_pairOf 36 = .ok (.sipush 130, 3) := by decide +kernel
theorem d_Tokens_pairOf_39 : decode b_Tokens_pairOf 39 = .ok (.goto (4), 3) := by decide +kernel
theorem d_Tokens_pairOf_42 : decode b_Tokens_pairOf 42 = .ok (.iconst 0, 1) := by decide +kernel
theorem d_Tokens_pairOf_43 : decode b_Tokens_pairOf 43 = .ok (.ireturn, 1) := by decide +kernel
theorem d_Tokens_pairOf_44 : decode b_Tokens_pairOf 44 = .ok (.iload_n 0, 1) := by decide +kernel
theorem d_Tokens_pairOf_45 : decode b_Tokens_pairOf 45 = .ok (.iload_n 1, 1) := by decide +kernel
theorem d_Tokens_pairOf_46 : decode b_Tokens_pairOf 46 = .ok (.if_icmp .eq (5), 3) := by decide +kernel
theorem d_Tokens_pairOf_49 : decode b_Tokens_pairOf 49 = .ok (.iconst 0, 1) := by decide +kernel
theorem d_Tokens_pairOf_50 : decode b_Tokens_pairOf 50 = .ok (.ireturn, 1) := by decide +kernel
theorem d_Tokens_pairOf_51 : decode b_Tokens_pairOf 51 = .ok (.iload_n 0, 1) := by decide +kernel
theorem d_Tokens_pairOf_52 : decode b_Tokens_pairOf 52 = .ok (.bipush 60, 2) := by decide +kernel
theorem d_Tokens_pairOf_54 : decode b_Tokens_pairOf 54 = .ok (.if_icmp .ne (9), 3) := by decide +kernel
theorem d_Tokens_pairOf_57 : decode b_Tokens_pairOf 57 = .ok (.sipush 131, 3) := by decide +kernel
theorem d_Tokens_pairOf_60 : decode b_Tokens_pairOf 60 = .ok (.goto (16), 3) := by decide +kernel
theorem d_Tokens_pairOf_63 : decode b_Tokens_pairOf 63 = .ok (.iload_n 0, 1) := by decide +kernel
theorem d_Tokens_pairOf_64 : decode b_Tokens_pairOf 64 = .ok (.bipush 62, 2) := by decide +kernel
theorem d_Tokens_pairOf_66 : decode b_Tokens_pairOf 66 = .ok (.if_icmp .ne (9), 3) := by decide +kernel
theorem d_Tokens_pairOf_69 : decode b_Tokens_pairOf 69 = .ok (.sipush 132, 3) := by decide +kernel
theorem d_Tokens_pairOf_72 : decode b_Tokens_pairOf 72 = .ok (.goto (4), 3) := by decide +kernel
theorem d_Tokens_pairOf_75 : decode b_Tokens_pairOf 75 = .ok (.iconst 0, 1) := by decide +kernel
theorem d_Tokens_pairOf_76 : decode b_Tokens_pairOf 76 = .ok (.ireturn, 1) := by decide +kernel
set_option maxHeartbeats 4000000 in
set_option maxRecDepth 100000 in
theorem c_Tokens_pairOf (l : Launch) {dA : FieldType → ClassId} {D : va_G} {al : Nat → Nat} {ext : mv_Sh} {sk sv : Nat → Nat} (hi : mv_inj (mg dA D al ext)) (σ : mv_H) (x y : Int32) : mv_C l y_Tokens_pairOf (Cond.code y_Tokens_pairOf b_Tokens_pairOf 2 (Option.some Jvm.ClassFile.FieldType.int) :: ma) ({ frames := 0, cells := 0, slots := 0, locals := 0 }) (mg dA D al ext) (mK sk sv) [.int x, .int y] σ (mv_Ri (fun v σ1 => σ1 = σ ∧ (v = 0 ∨ 128 ≤ v.toInt ∧ v.toInt ≤ 132 ∧ (y = 61 ∨ x = y)))) := by
  refine mv_C.ofV (cc := b_Tokens_pairOf) (nL := 2) (ret := (Option.some Jvm.ClassFile.FieldType.int)) (by decide +kernel) rfl hi (Nat.le_of_ble_eq_true rfl) ?_
  intro p e s m below meth c B hNs hr hnm hno
  refine mv_iload_n (pc := 0) B d_Tokens_pairOf_0 rfl 1 rfl ?_
  refine mv_bipush (pc := 1) (v := 61) B d_Tokens_pairOf_1 (by decide) ?_
  refine mv_icmp_ne (pc := 3) (tgt := 44) B d_Tokens_pairOf_3 rfl (fun h3 => ?_) (fun h3 => ?_)
  · skip
    refine mv_iload_n (pc := 44) B d_Tokens_pairOf_44 rfl 0 rfl ?_
    refine mv_iload_n (pc := 45) B d_Tokens_pairOf_45 rfl 1 rfl ?_
    refine mv_icmp_eq (pc := 46) (tgt := 51) B d_Tokens_pairOf_46 rfl (fun h46 => ?_) (fun h46 => ?_)
    · skip
      refine mv_iload_n (pc := 51) B d_Tokens_pairOf_51 rfl 0 rfl ?_
      refine mv_bipush (pc := 52) (v := 60) B d_Tokens_pairOf_52 (by decide) ?_
      refine mv_icmp_ne (pc := 54) (tgt := 63) B d_Tokens_pairOf_54 rfl (fun h54 => ?_) (fun h54 => ?_)
      · skip
        refine mv_iload_n (pc := 63) B d_Tokens_pairOf_63 rfl 0 rfl ?_
        refine mv_bipush (pc := 64) (v := 62) B d_Tokens_pairOf_64 (by decide) ?_
        refine mv_icmp_ne (pc := 66) (tgt := 75) B d_Tokens_pairOf_66 rfl (fun h66 => ?_) (fun h66 => ?_)
        · skip
          refine mv_iconst (pc := 75) (v := 0) B d_Tokens_pairOf_75 (by decide) ?_
          exact mv_iret (pc := 76) B hr rfl d_Tokens_pairOf_76 (Nat.le_refl _) (Nat.le_refl _) ⟨_, rfl, rfl, by first | exact Or.inl rfl | exact Or.inr ⟨by decide, by decide, by first | exact Or.inl h3 | exact Or.inr h46⟩⟩
        · skip
          refine mv_sipush (pc := 69) (v := 132) B d_Tokens_pairOf_69 (by decide) ?_
          refine mv_goto (pc := 72) (tgt := 76) B d_Tokens_pairOf_72 rfl ?_
          exact mv_iret (pc := 76) B hr rfl d_Tokens_pairOf_76 (Nat.le_refl _) (Nat.le_refl _) ⟨_, rfl, rfl, by first | exact Or.inl rfl | exact Or.inr ⟨by decide, by decide, by first | exact Or.inl h3 | exact Or.inr h46⟩⟩
      · skip
        refine mv_sipush (pc := 57) (v := 131) B d_Tokens_pairOf_57 (by decide) ?_
        refine mv_goto (pc := 60) (tgt := 76) B d_Tokens_pairOf_60 rfl ?_
        exact mv_iret (pc := 76) B hr rfl d_Tokens_pairOf_76 (Nat.le_refl _) (Nat.le_refl _) ⟨_, rfl, rfl, by first | exact Or.inl rfl | exact Or.inr ⟨by decide, by decide, by first | exact Or.inl h3 | exact Or.inr h46⟩⟩
    · skip
      refine mv_iconst (pc := 49) (v := 0) B d_Tokens_pairOf_49 (by decide) ?_
      exact mv_iret (pc := 50) B hr rfl d_Tokens_pairOf_50 (Nat.le_refl _) (Nat.le_refl _) ⟨_, rfl, rfl, by first | exact Or.inl rfl | exact Or.inr ⟨by decide, by decide, by first | exact Or.inl h3 | exact Or.inr h46⟩⟩
  · skip
    refine mv_iload_n (pc := 6) B d_Tokens_pairOf_6 rfl 0 rfl ?_
    refine mv_bipush (pc := 7) (v := 61) B d_Tokens_pairOf_7 (by decide) ?_
    refine mv_icmp_ne (pc := 9) (tgt := 18) B d_Tokens_pairOf_9 rfl (fun h9 => ?_) (fun h9 => ?_)
    · skip
      refine mv_iload_n (pc := 18) B d_Tokens_pairOf_18 rfl 0 rfl ?_
      refine mv_bipush (pc := 19) (v := 33) B d_Tokens_pairOf_19 (by decide) ?_
      refine mv_icmp_ne (pc := 21) (tgt := 30) B d_Tokens_pairOf_21 rfl (fun h21 => ?_) (fun h21 => ?_)
      · skip
        refine mv_iload_n (pc := 30) B d_Tokens_pairOf_30 rfl 0 rfl ?_
        refine mv_bipush (pc := 31) (v := 60) B d_Tokens_pairOf_31 (by decide) ?_
        refine mv_icmp_ne (pc := 33) (tgt := 42) B d_Tokens_pairOf_33 rfl (fun h33 => ?_) (fun h33 => ?_)
        · skip
          refine mv_iconst (pc := 42) (v := 0) B d_Tokens_pairOf_42 (by decide) ?_
          exact mv_iret (pc := 43) B hr rfl d_Tokens_pairOf_43 (Nat.le_refl _) (Nat.le_refl _) ⟨_, rfl, rfl, by first | exact Or.inl rfl | exact Or.inr ⟨by decide, by decide, by first | exact Or.inl h3 | exact Or.inr h46⟩⟩
        · skip
          refine mv_sipush (pc := 36) (v := 130) B d_Tokens_pairOf_36 (by decide) ?_
          refine mv_goto (pc := 39) (tgt := 43) B d_Tokens_pairOf_39 rfl ?_
          exact mv_iret (pc := 43) B hr rfl d_Tokens_pairOf_43 (Nat.le_refl _) (Nat.le_refl _) ⟨_, rfl, rfl, by first | exact Or.inl rfl | exact Or.inr ⟨by decide, by decide, by first | exact Or.inl h3 | exact Or.inr h46⟩⟩
      · skip
        refine mv_sipush (pc := 24) (v := 129) B d_Tokens_pairOf_24 (by decide) ?_
        refine mv_goto (pc := 27) (tgt := 43) B d_Tokens_pairOf_27 rfl ?_
        exact mv_iret (pc := 43) B hr rfl d_Tokens_pairOf_43 (Nat.le_refl _) (Nat.le_refl _) ⟨_, rfl, rfl, by first | exact Or.inl rfl | exact Or.inr ⟨by decide, by decide, by first | exact Or.inl h3 | exact Or.inr h46⟩⟩
    · skip
      refine mv_sipush (pc := 12) (v := 128) B d_Tokens_pairOf_12 (by decide) ?_
      refine mv_goto (pc := 15) (tgt := 43) B d_Tokens_pairOf_15 rfl ?_
      exact mv_iret (pc := 43) B hr rfl d_Tokens_pairOf_43 (Nat.le_refl _) (Nat.le_refl _) ⟨_, rfl, rfl, by first | exact Or.inl rfl | exact Or.inr ⟨by decide, by decide, by first | exact Or.inl h3 | exact Or.inr h46⟩⟩
def y_Tokens_kindBehind : MethodName := ⟨"MachineLoom$Tokens", "kindBehind", "()I"⟩
abbrev b_Tokens_kindBehind : ByteArray := prog_10_method_23_code
theorem kc_Tokens_kindBehind : Cond.code y_Tokens_kindBehind b_Tokens_kindBehind 1 (Option.some Jvm.ClassFile.FieldType.int) ∈ ma := ma_of (tb_7 _ (List.mem_of_getElem? (i := 8) rfl)) rfl
theorem k_101 : (Jvm.Cond.fieldLink "MachineLoom$Tokens" (38 : Nat) "MachineLoom$Tokens" "size" "I") ∈ ma := ma_of (tb_1 _ (List.mem_of_getElem? (i := 101) rfl)) rfl
theorem d_Tokens_kindBehind_0 : decode b_Tokens_kindBehind 0 = .ok (.aload_n 0, 1) := by decide +kernel
theorem d_Tokens_kindBehind_1 : decode b_Tokens_kindBehind 1 = .ok (.getfield 41, 3) := by decide +kernel
theorem d_Tokens_kindBehind_4 : decode b_Tokens_kindBehind 4 = .ok (.iconst 1, 1) := by decide +kernel
theorem d_Tokens_kindBehind_5 : decode b_Tokens_kindBehind 5 = .ok (.iadd, 1) := by decide +kernel
theorem d_Tokens_kindBehind_6 : decode b_Tokens_kindBehind 6 = .ok (.aload_n 0, 1) := by decide +kernel
theorem d_Tokens_kindBehind_7 : decode b_Tokens_kindBehind 7 = .ok (.getfield 38, 3) := by decide +kernel
theorem d_Tokens_kindBehind_10 : decode b_Tokens_kindBehind 10 = .ok (.if_icmp .ge (17), 3) := by decide +kernel
theorem d_Tokens_kindBehind_13 : decode b_Tokens_kindBehind 13 = .ok (.aload_n 0, 1) := by decide +kernel
theorem d_Tokens_kindBehind_14 : decode b_Tokens_kindBehind 14 = .ok (.getfield 10, 3) := by decide +kernel
theorem d_Tokens_kindBehind_17 : decode b_Tokens_kindBehind 17 = .ok (.aload_n 0, 1) := by decide +kernel
theorem d_Tokens_kindBehind_18 : decode b_Tokens_kindBehind 18 = .ok (.getfield 41, 3) := by decide +kernel
theorem d_Tokens_kindBehind_21 : decode b_Tokens_kindBehind 21 = .ok (.iconst 1, 1) := by decide +kernel
theorem d_Tokens_kindBehind_22 : decode b_Tokens_kindBehind 22 = .ok (.iadd, 1) := by decide +kernel
theorem d_Tokens_kindBehind_23 : decode b_Tokens_kindBehind 23 = .ok (.iaload, 1) := by decide +kernel
theorem d_Tokens_kindBehind_24 : decode b_Tokens_kindBehind 24 = .ok (.goto (4), 3) := by decide +kernel
theorem d_Tokens_kindBehind_27 : decode b_Tokens_kindBehind 27 = .ok (.iconst 0, 1) := by decide +kernel
theorem d_Tokens_kindBehind_28 : decode b_Tokens_kindBehind 28 = .ok (.ireturn, 1) := by decide +kernel
set_option maxHeartbeats 4000000 in
set_option maxRecDepth 100000 in
theorem c_Tokens_kindBehind (l : Launch) {dA : FieldType → ClassId} {D : va_G} {al : Nat → Nat} {ext : mv_Sh} {sk sv : Nat → Nat} (hi : mv_inj (mg dA D al ext)) (σ : mv_H) (hsh : mh (mv_r σ)) (hat : 0 ≤ (mv_i σ 3 7).toInt) (hat2 : (mv_i σ 3 7).toInt < 32769) : mv_C l y_Tokens_kindBehind (Cond.code y_Tokens_kindBehind b_Tokens_kindBehind 1 (Option.some Jvm.ClassFile.FieldType.int) :: ma) ({ frames := 0, cells := 0, slots := 0, locals := 0 }) (mg dA D al ext) (mK sk sv) [.ref (al 3)] σ (mv_Ri (fun v σ1 => σ1 = σ)) := by
  refine mv_C.ofV (cc := b_Tokens_kindBehind) (nL := 1) (ret := (Option.some Jvm.ClassFile.FieldType.int)) (by decide +kernel) rfl hi (Nat.le_of_ble_eq_true rfl) ?_
  intro p e s m below meth c B hNs hr hnm hno
  refine mv_aload_n (pc := 0) B d_Tokens_kindBehind_0 rfl 0 rfl ?_
  refine mv_getI (pc := 1) (ci := 2) (C := R_Tokens) (T := F_Tokens) (N := 10) B 7 rfl rfl (by decide) i_Tokens (B.2.2.2.1 _ k_102) rfl d_Tokens_kindBehind_1 ?_
  refine mv_iconst (pc := 4) (v := 1) B d_Tokens_kindBehind_4 (by decide) ?_
  refine mv_iadd (pc := 5) B d_Tokens_kindBehind_5 ?_
  refine mv_aload_n (pc := 6) B d_Tokens_kindBehind_6 rfl 0 rfl ?_
  refine mv_getI (pc := 7) (ci := 2) (C := R_Tokens) (T := F_Tokens) (N := 10) B 6 rfl rfl (by decide) i_Tokens (B.2.2.2.1 _ k_101) rfl d_Tokens_kindBehind_7 ?_
  refine mv_icmp_ge (pc := 10) (tgt := 27) B d_Tokens_kindBehind_10 rfl (fun h10 => ?_) (fun h10 => ?_)
  · skip
    refine mv_iconst (pc := 27) (v := 0) B d_Tokens_kindBehind_27 (by decide) ?_
    exact mv_iret (pc := 28) B hr rfl d_Tokens_kindBehind_28 (Nat.le_refl _) (Nat.le_refl _) ⟨_, rfl, rfl⟩
  · skip
    refine mv_aload_n (pc := 13) B d_Tokens_kindBehind_13 rfl 0 rfl ?_
    refine mv_getR (pc := 14) (ci := 2) (C := R_Tokens) (T := F_Tokens) (N := 10) B 0 rfl rfl (by decide) i_Tokens (B.2.2.2.1 _ k_89) rfl (hsh _ 0 _ rfl) d_Tokens_kindBehind_14 ?_
    refine mv_aload_n (pc := 17) B d_Tokens_kindBehind_17 rfl 0 rfl ?_
    refine mv_getI (pc := 18) (ci := 2) (C := R_Tokens) (T := F_Tokens) (N := 10) B 7 rfl rfl (by decide) i_Tokens (B.2.2.2.1 _ k_102) rfl d_Tokens_kindBehind_18 ?_
    refine mv_iconst (pc := 21) (v := 1) B d_Tokens_kindBehind_21 (by decide) ?_
    refine mv_iadd (pc := 22) B d_Tokens_kindBehind_22 ?_
    refine mv_iald (pc := 23) B rfl (i32_in (by rw [i32_add (y := 1) (by show _ ≤ _ + 1; omega) (by show _ + 1 < _; omega)]; show 0 ≤ _ + 1; omega) (by rw [i32_add (y := 1) (by show _ ≤ _ + 1; omega) (by show _ + 1 < _; omega)]; show _ + 1 < _; omega)) d_Tokens_kindBehind_23 ?_
    refine mv_goto (pc := 24) (tgt := 28) B d_Tokens_kindBehind_24 rfl ?_
    exact mv_iret (pc := 28) B hr rfl d_Tokens_kindBehind_28 (Nat.le_refl _) (Nat.le_refl _) ⟨_, rfl, rfl⟩
def y_Tokens_open : MethodName := ⟨"MachineLoom$Tokens", "open", "(I)I"⟩
abbrev b_Tokens_open : ByteArray := prog_10_method_25_code
theorem kc_Tokens_open : Cond.code y_Tokens_open b_Tokens_open 2 (Option.some Jvm.ClassFile.FieldType.int) ∈ ma := ma_of (tb_6 _ (List.mem_of_getElem? (i := 152) rfl)) rfl
theorem k_103 : (Jvm.Cond.fieldLink "MachineLoom$Tokens" (44 : Nat) "MachineLoom$Tokens" "depth" "I") ∈ ma := ma_of (tb_1 _ (List.mem_of_getElem? (i := 103) rfl)) rfl
theorem k_1353 : (Jvm.Cond.methodLink "MachineLoom$Tokens" (132 : Nat) ({ cls := "MachineLoom$Tokens", name := "take", desc := "(I)I" } : Jvm.MethodName)) ∈ ma := ma_of (tb_6 _ (List.mem_of_getElem? (i := 153) rfl)) rfl
theorem k_1267 : (Jvm.Cond.instanceMethod ({ cls := "MachineLoom$Tokens", name := "take", desc := "(I)I" } : Jvm.MethodName)) ∈ ma := ma_of (tb_6 _ (List.mem_of_getElem? (i := 67) rfl)) rfl
theorem k_1268 : (Jvm.Cond.selects "MachineLoom$Tokens" ({ cls := "MachineLoom$Tokens", name := "take", desc := "(I)I" } : Jvm.MethodName) ({ cls := "MachineLoom$Tokens", name := "take", desc := "(I)I" } : Jvm.MethodName)) ∈ ma := ma_of (tb_6 _ (List.mem_of_getElem? (i := 68) rfl)) rfl
theorem d_Tokens_open_0 : decode b_Tokens_open 0 = .ok (.aload_n 0, 1) := by decide +kernel
theorem d_Tokens_open_1 : decode b_Tokens_open 1 = .ok (.getfield 44, 3) := by decide +kernel
theorem d_Tokens_open_4 : decode b_Tokens_open 4 = .ok (.bipush 60, 2) := by decide +kernel
theorem d_Tokens_open_6 : decode b_Tokens_open 6 = .ok (.if_icmp .ne (7), 3) := by decide +kernel
theorem d_Tokens_open_9 : decode b_Tokens_open 9 = .ok (.aload_n 0, 1) := by decide +kernel
theorem d_Tokens_open_10 : decode b_Tokens_open 10 = .ok (.invokevirtual 129, 3) := by decide +kernel
theorem d_Tokens_open_13 : decode b_Tokens_open 13 = .ok (.aload_n 0, 1) := by decide +kernel
theorem d_Tokens_open_14 : decode b_Tokens_open 14 = .ok (.dup, 1) := by decide +kernel
theorem d_Tokens_open_15 : decode b_Tokens_open 15 = .ok (.getfield 44, 3) := by decide +kernel
theorem d_Tokens_open_18 : decode b_Tokens_open 18 = .ok (.iconst 1, 1) := by decide +kernel
theorem d_Tokens_open_19 : decode b_Tokens_open 19 = .ok (.iadd, 1) := by decide +kernel
theorem d_Tokens_open_20 : decode b_Tokens_open 20 = .ok (.putfield 44, 3) := by decide +kernel
theorem d_Tokens_open_23 : decode b_Tokens_open 23 = .ok (.aload_n 0, 1) := by decide +kernel
theorem d_Tokens_open_24 : decode b_Tokens_open 24 = .ok (.iload_n 1, 1) := by decide +kernel
theorem d_Tokens_open_25 : decode b_Tokens_open 25 = .ok (.invokevirtual 132, 3) := by decide +kernel
theorem d_Tokens_open_28 : decode b_Tokens_open 28 = .ok (.ireturn, 1) := by decide +kernel
set_option maxHeartbeats 4000000 in
set_option maxRecDepth 100000 in
theorem c_Tokens_open (l : Launch) {dA : FieldType → ClassId} {D : va_G} {al : Nat → Nat} {ext : mv_Sh} {sk sv : Nat → Nat} (hi : mv_inj (mg dA D al ext)) (σ : mv_H) (k : Int32) (hsh : mh (mv_r σ)) (hat : vp_in (mv_i σ 3 7) 32770) : mv_C l y_Tokens_open (Cond.code y_Tokens_open b_Tokens_open 2 (Option.some Jvm.ClassFile.FieldType.int) :: ma) ({ frames := 2, cells := 0, slots := 0, locals := 42 }) (mg dA D al ext) (mK sk sv) [.ref (al 3), .int k] σ (mv_Ri (fun v σ1 => (v, σ1) = tk_open σ k)) := by
  refine mv_C.ofV (cc := b_Tokens_open) (nL := 2) (ret := (Option.some Jvm.ClassFile.FieldType.int)) (by decide +kernel) rfl hi (Nat.le_of_ble_eq_true rfl) ?_
  intro p e s m below meth c B hNs hr hnm hno
  have j13 : ∀ (τ : mv_H) (q1 : mh (mv_r τ)) (q2 : vp_in (mv_i τ 3 7) 32770) (q3 : τ = if mv_i σ 3 8 = 60 then tk_wrong σ else σ) (q4 : mv_i τ 3 8 = mv_i σ 3 8), mv_V p l e ({ frames := 2, cells := 0, slots := 0, locals := 42 }) s m ([.ref (al 3), .int k] : List Value).toArray below meth c (mg dA D al ext) 2 0 0 (mv_Q (mg dA D al ext) below s 0 0 (mv_Ri (fun v σ1 => (v, σ1) = tk_open σ k))) τ 13 [(0, .ref (al 3)), (1, .int k)] [] := by
    intro τ q1 q2 q3 q4
    refine mv_aload_n (pc := 13) B d_Tokens_open_13 rfl 0 rfl ?_
    refine mv_dup (pc := 14) B d_Tokens_open_14 rfl ?_
    refine mv_getI (pc := 15) (ci := 2) (C := R_Tokens) (T := F_Tokens) (N := 10) B 8 rfl rfl (by decide) i_Tokens (B.2.2.2.1 _ k_103) rfl d_Tokens_open_15 ?_
    refine mv_iconst (pc := 18) (v := 1) B d_Tokens_open_18 (by decide) ?_
    refine mv_iadd (pc := 19) B d_Tokens_open_19 ?_
    refine mv_putI (pc := 20) (ci := 2) (C := R_Tokens) (T := F_Tokens) (N := 10) B 8 rfl rfl (by decide) i_Tokens t_Tokens_ok n_Tokens (B.2.2.2.1 _ k_103) rfl rfl rfl rfl d_Tokens_open_20 ?_
    refine mv_aload_n (pc := 23) B d_Tokens_open_23 rfl 0 rfl ?_
    refine mv_iload_n (pc := 24) B d_Tokens_open_24 rfl 1 rfl ?_
    refine mv_callVi (pc := 25) (n := 1) (ci := 2) (C := R_Tokens) B (mK_ok sk sv) hNs rfl rfl (c_Tokens_take l hi _ k q1 q2) rfl (ma_goodc kc_Tokens_take) (B.2.2.2.1 _ k_1353) (B.2.2.2.1 _ k_1267) (B.2.2.2.1 _ k_1268) (B.2.2.2.1 _ k_3) ⟨by decide +kernel, by decide +kernel, by decide +kernel⟩ rfl d_Tokens_open_25 rfl (Nat.le_of_ble_eq_true rfl) ⟨by decide, by decide⟩ ⟨by decide, by decide⟩ ⟨by decide, by decide⟩ (mv_noH hno _) (fun v25 σ25 h25 => ?_)
    exact mv_iret (pc := 28) B hr rfl d_Tokens_open_28 (Nat.le_refl _) (Nat.le_refl _) ⟨_, rfl, by unfold tk_open; rw [← q3, ← q4]; exact h25⟩
  refine mv_aload_n (pc := 0) B d_Tokens_open_0 rfl 0 rfl ?_
  refine mv_getI (pc := 1) (ci := 2) (C := R_Tokens) (T := F_Tokens) (N := 10) B 8 rfl rfl (by decide) i_Tokens (B.2.2.2.1 _ k_103) rfl d_Tokens_open_1 ?_
  refine mv_bipush (pc := 4) (v := 60) B d_Tokens_open_4 (by decide) ?_
  refine mv_icmp_ne (pc := 6) (tgt := 13) B d_Tokens_open_6 rfl (fun h6 => ?_) (fun h6 => ?_)
  · skip
    refine mv_lpick [0, 1] rfl ?_
    exact j13 _ (by first | exact hsh | (unfold tk_wrong; split <;> exact hsh)) (by first | exact hat | (unfold tk_wrong; split <;> exact hat)) (by first | rw [if_pos (by assumption)] | rw [if_neg (by assumption)]) (by first | rfl | (unfold tk_wrong; split <;> rfl))
  · skip
    refine mv_aload_n (pc := 9) B d_Tokens_open_9 rfl 0 rfl ?_
    refine mv_callVv (pc := 10) (n := 0) (ci := 2) (C := R_Tokens) B (mK_ok sk sv) hNs rfl rfl (c_Tokens_wrong l hi _ hsh hat) rfl (ma_goodc kc_Tokens_wrong) (B.2.2.2.1 _ k_1274) (B.2.2.2.1 _ k_1275) (B.2.2.2.1 _ k_1276) (B.2.2.2.1 _ k_3) ⟨by decide +kernel, by decide +kernel, by decide +kernel⟩ rfl d_Tokens_open_10 rfl (Nat.le_of_ble_eq_true rfl) ⟨by decide, by decide⟩ ⟨by decide, by decide⟩ ⟨by decide, by decide⟩ (mv_noH hno _) (fun σ10 h10 => ?_)
    subst h10
    refine mv_lpick [0, 1] rfl ?_
    exact j13 _ (by first | exact hsh | (unfold tk_wrong; split <;> exact hsh)) (by first | exact hat | (unfold tk_wrong; split <;> exact hat)) (by first | rw [if_pos (by assumption)] | rw [if_neg (by assumption)]) (by first | rfl | (unfold tk_wrong; split <;> rfl))
def y_Tokens_close : MethodName := ⟨"MachineLoom$Tokens", "close", "(I)I"⟩
abbrev b_Tokens_close : ByteArray := prog_10_method_26_code
theorem kc_Tokens_close : Cond.code y_Tokens_close b_Tokens_close 2 (Option.some Jvm.ClassFile.FieldType.int) ∈ ma := ma_of (tb_6 _ (List.mem_of_getElem? (i := 199) rfl)) rfl
theorem d_Tokens_close_0 : decode b_Tokens_close 0 = .ok (.aload_n 0, 1) := by decide +kernel
theorem d_Tokens_close_1 : decode b_Tokens_close 1 = .ok (.dup, 1) := by decide +kernel
theorem d_Tokens_close_2 : decode b_Tokens_close 2 = .ok (.getfield 44, 3) := by decide +kernel
theorem d_Tokens_close_5 : decode b_Tokens_close 5 = .ok (.iconst 1, 1) := by decide +kernel
theorem d_Tokens_close_6 : decode b_Tokens_close 6 = .ok (.isub, 1) := by decide +kernel
theorem d_Tokens_close_7 : decode b_Tokens_close 7 = .ok (.putfield 44, 3) := by decide +kernel
theorem d_Tokens_close_10 : decode b_Tokens_close 10 = .ok (.aload_n 0, 1) := by decide +kernel
theorem d_Tokens_close_11 : decode b_Tokens_close 11 = .ok (.iload_n 1, 1) := by decide +kernel
theorem d_Tokens_close_12 : decode b_Tokens_close 12 = .ok (.invokevirtual 132, 3) := by decide +kernel
theorem d_Tokens_close_15 : decode b_Tokens_close 15 = .ok (.ireturn, 1) := by decide +kernel
set_option maxHeartbeats 4000000 in
set_option maxRecDepth 100000 in
theorem c_Tokens_close (l : Launch) {dA : FieldType → ClassId} {D : va_G} {al : Nat → Nat} {ext : mv_Sh} {sk sv : Nat → Nat} (hi : mv_inj (mg dA D al ext)) (σ : mv_H) (k : Int32) (hsh : mh (mv_r σ)) (hat : vp_in (mv_i σ 3 7) 32770) : mv_C l y_Tokens_close (Cond.code y_Tokens_close b_Tokens_close 2 (Option.some Jvm.ClassFile.FieldType.int) :: ma) ({ frames := 2, cells := 0, slots := 0, locals := 42 }) (mg dA D al ext) (mK sk sv) [.ref (al 3), .int k] σ (mv_Ri (fun v σ1 => (v, σ1) = tk_close σ k)) := by
  refine mv_C.ofV (cc := b_Tokens_close) (nL := 2) (ret := (Option.some Jvm.ClassFile.FieldType.int)) (by decide +kernel) rfl hi (Nat.le_of_ble_eq_true rfl) ?_
  intro p e s m below meth c B hNs hr hnm hno
  refine mv_aload_n (pc := 0) B d_Tokens_close_0 rfl 0 rfl ?_
  refine mv_dup (pc := 1) B d_Tokens_close_1 rfl ?_
  refine mv_getI (pc := 2) (ci := 2) (C := R_Tokens) (T := F_Tokens) (N := 10) B 8 rfl rfl (by decide) i_Tokens (B.2.2.2.1 _ k_103) rfl d_Tokens_close_2 ?_
  refine mv_iconst (pc := 5) (v := 1) B d_Tokens_close_5 (by decide) ?_
  refine mv_isub (pc := 6) B d_Tokens_close_6 ?_
  refine mv_putI (pc := 7) (ci := 2) (C := R_Tokens) (T := F_Tokens) (N := 10) B 8 rfl rfl (by decide) i_Tokens t_Tokens_ok n_Tokens (B.2.2.2.1 _ k_103) rfl rfl rfl rfl d_Tokens_close_7 ?_
  refine mv_aload_n (pc := 10) B d_Tokens_close_10 rfl 0 rfl ?_
  refine mv_iload_n (pc := 11) B d_Tokens_close_11 rfl 1 rfl ?_
  refine mv_callVi (pc := 12) (n := 1) (ci := 2) (C := R_Tokens) B (mK_ok sk sv) hNs rfl rfl (c_Tokens_take l hi _ k hsh hat) rfl (ma_goodc kc_Tokens_take) (B.2.2.2.1 _ k_1353) (B.2.2.2.1 _ k_1267) (B.2.2.2.1 _ k_1268) (B.2.2.2.1 _ k_3) ⟨by decide +kernel, by decide +kernel, by decide +kernel⟩ rfl d_Tokens_close_12 rfl (Nat.le_of_ble_eq_true rfl) ⟨by decide, by decide⟩ ⟨by decide, by decide⟩ ⟨by decide, by decide⟩ (mv_noH hno _) (fun v12 σ12 h12 => ?_)
  exact mv_iret (pc := 15) B hr rfl d_Tokens_close_15 (Nat.le_refl _) (Nat.le_refl _) ⟨_, rfl, h12⟩
def y_Tokens_characterAt : MethodName := ⟨"MachineLoom$Tokens", "characterAt", "(I)I"⟩
abbrev b_Tokens_characterAt : ByteArray := prog_10_method_14_code
theorem kc_Tokens_characterAt : Cond.code y_Tokens_characterAt b_Tokens_characterAt 2 (Option.some Jvm.ClassFile.FieldType.int) ∈ ma := ma_of (tb_4 _ (List.mem_of_getElem? (i := 110) rfl)) rfl
theorem k_100 : (Jvm.Cond.fieldLink "MachineLoom$Tokens" (34 : Nat) "MachineLoom$Tokens" "length" "I") ∈ ma := ma_of (tb_1 _ (List.mem_of_getElem? (i := 100) rfl)) rfl
theorem k_98 : (Jvm.Cond.fieldLink "MachineLoom$Tokens" (30 : Nat) "MachineLoom$Tokens" "text" "[B") ∈ ma := ma_of (tb_1 _ (List.mem_of_getElem? (i := 98) rfl)) rfl
theorem d_Tokens_characterAt_0 : decode b_Tokens_characterAt 0 = .ok (.iload_n 1, 1) := by decide +kernel
theorem d_Tokens_characterAt_1 : decode b_Tokens_characterAt 1 = .ok (.aload_n 0, 1) := by decide +kernel
theorem d_Tokens_characterAt_2 : decode b_Tokens_characterAt 2 = .ok (.getfield 34, 3) := by decide +kernel
theorem d_Tokens_characterAt_5 : decode b_Tokens_characterAt 5 = .ok (.if_icmp .ge (16), 3) := by decide +kernel
theorem d_Tokens_characterAt_8 : decode b_Tokens_characterAt 8 = .ok (.aload_n 0, 1) := by decide +kernel
theorem d_Tokens_characterAt_9 : decode b_Tokens_characterAt 9 = .ok (.getfield 30, 3) := by decide +kernel
theorem d_Tokens_characterAt_12 : decode b_Tokens_characterAt 12 = .ok (.iload_n 1, 1) := by decide +kernel
theorem d_Tokens_characterAt_13 : decode b_Tokens_characterAt 13 = .ok (.baload, 1) := by decide +kernel
theorem d_Tokens_characterAt_14 : decode b_Tokens_characterAt 14 = .ok (.sipush 255, 3) := by decide +kernel
theorem d_Tokens_characterAt_17 : decode b_Tokens_characterAt 17 = .ok (.iand, 1) := by decide +kernel
theorem d_Tokens_characterAt_18 : decode b_Tokens_characterAt 18 = .ok (.goto (4), 3) := by decide +kernel
theorem d_Tokens_characterAt_21 : decode b_Tokens_characterAt 21 = .ok (.iconst (-1), 1) := by decide +kernel
theorem d_Tokens_characterAt_22 : decode b_Tokens_characterAt 22 = .ok (.ireturn, 1) := by decide +kernel
set_option maxHeartbeats 4000000 in
set_option maxRecDepth 100000 in
theorem c_Tokens_characterAt (l : Launch) {dA : FieldType → ClassId} {D : va_G} {al : Nat → Nat} {ext : mv_Sh} {sk sv : Nat → Nat} (hi : mv_inj (mg dA D al ext)) (σ : mv_H) (i : Int32) (t tn : Nat) (hsh : mh (mv_r σ)) (ht : mv_r σ 3 4 = some t) (hts : (mb ++ ext)[t]? = some (.inr (.byte, tn))) (hlen : (mv_i σ 3 5).toInt ≤ tn) (h0 : 0 ≤ i.toInt) : mv_C l y_Tokens_characterAt (Cond.code y_Tokens_characterAt b_Tokens_characterAt 2 (Option.some Jvm.ClassFile.FieldType.int) :: ma) ({ frames := 0, cells := 0, slots := 0, locals := 0 }) (mg dA D al ext) (mK sk sv) [.ref (al 3), .int i] σ (mv_Ri (fun v σ1 => σ1 = σ ∧ v = if i.toInt < (mv_i σ 3 5).toInt then mv_a σ t i.toNatClampNeg &&& 255 else -1)) := by
  refine mv_C.ofV (cc := b_Tokens_characterAt) (nL := 2) (ret := (Option.some Jvm.ClassFile.FieldType.int)) (by decide +kernel) rfl hi (Nat.le_of_ble_eq_true rfl) ?_
  intro p e s m below meth c B hNs hr hnm hno
  refine mv_iload_n (pc := 0) B d_Tokens_characterAt_0 rfl 1 rfl ?_
  refine mv_aload_n (pc := 1) B d_Tokens_characterAt_1 rfl 0 rfl ?_
  refine mv_getI (pc := 2) (ci := 2) (C := R_Tokens) (T := F_Tokens) (N := 10) B 5 rfl rfl (by decide) i_Tokens (B.2.2.2.1 _ k_100) rfl d_Tokens_characterAt_2 ?_
  refine mv_icmp_ge (pc := 5) (tgt := 21) B d_Tokens_characterAt_5 rfl (fun h5 => ?_) (fun h5 => ?_)
  · skip
    refine mv_iconst (pc := 21) (v := -1) B d_Tokens_characterAt_21 (by decide) ?_
    exact mv_iret (pc := 22) B hr rfl d_Tokens_characterAt_22 (Nat.le_refl _) (Nat.le_refl _) ⟨_, rfl, rfl, by rw [Int32.le_iff_toInt_le] at h5; first | rw [if_pos (by omega)] | rw [if_neg (by omega)]⟩
  · skip
    refine mv_aload_n (pc := 8) B d_Tokens_characterAt_8 rfl 0 rfl ?_
    refine mv_getR (pc := 9) (ci := 2) (C := R_Tokens) (T := F_Tokens) (N := 10) B 4 rfl rfl (by decide) i_Tokens (B.2.2.2.1 _ k_98) rfl ht d_Tokens_characterAt_9 ?_
    refine mv_iload_n (pc := 12) B d_Tokens_characterAt_12 rfl 1 rfl ?_
    refine mv_bald (pc := 13) B hts (i32_in h0 (by rw [Int32.le_iff_toInt_le] at h5; omega)) d_Tokens_characterAt_13 ?_
    refine mv_sipush (pc := 14) (v := 255) B d_Tokens_characterAt_14 (by decide) ?_
    refine mv_iand (pc := 17) B d_Tokens_characterAt_17 ?_
    refine mv_goto (pc := 18) (tgt := 22) B d_Tokens_characterAt_18 rfl ?_
    exact mv_iret (pc := 22) B hr rfl d_Tokens_characterAt_22 (Nat.le_refl _) (Nat.le_refl _) ⟨_, rfl, rfl, by rw [Int32.le_iff_toInt_le] at h5; first | rw [if_pos (by omega)] | rw [if_neg (by omega)]⟩
def y_Tokens_add : MethodName := ⟨"MachineLoom$Tokens", "add", "(IIJI)I"⟩
abbrev b_Tokens_add : ByteArray := prog_10_method_13_code
theorem kc_Tokens_add : Cond.code y_Tokens_add b_Tokens_add 6 (Option.some Jvm.ClassFile.FieldType.int) ∈ ma := ma_of (tb_4 _ (List.mem_of_getElem? (i := 114) rfl)) rfl
theorem k_93 : (Jvm.Cond.fieldLink "MachineLoom$Tokens" (19 : Nat) "MachineLoom$Tokens" "numbers" "[J") ∈ ma := ma_of (tb_1 _ (List.mem_of_getElem? (i := 93) rfl)) rfl
theorem d_Tokens_add_0 : decode b_Tokens_add 0 = .ok (.aload_n 0, 1) := by decide +kernel
theorem d_Tokens_add_1 : decode b_Tokens_add 1 = .ok (.getfield 10, 3) := by decide +kernel
theorem d_Tokens_add_4 : decode b_Tokens_add 4 = .ok (.aload_n 0, 1) := by decide +kernel
theorem d_Tokens_add_5 : decode b_Tokens_add 5 = .ok (.getfield 38, 3) := by decide +kernel
theorem d_Tokens_add_8 : decode b_Tokens_add 8 = .ok (.iload_n 1, 1) := by decide +kernel
theorem d_Tokens_add_9 : decode b_Tokens_add 9 = .ok (.iastore, 1) := by decide +kernel
theorem d_Tokens_add_10 : decode b_Tokens_add 10 = .ok (.aload_n 0, 1) := by decide +kernel
theorem d_Tokens_add_11 : decode b_Tokens_add 11 = .ok (.getfield 16, 3) := by decide +kernel
theorem d_Tokens_add_14 : decode b_Tokens_add 14 = .ok (.aload_n 0, 1) := by decide +kernel
theorem d_Tokens_add_15 : decode b_Tokens_add 15 = .ok (.getfield 38, 3) := by decide +kernel
theorem d_Tokens_add_18 : decode b_Tokens_add 18 = .ok (.iload_n 2, 1) := by decide +kernel
theorem d_Tokens_add_19 : decode b_Tokens_add 19 = .ok (.iastore, 1) := by decide +kernel
theorem d_Tokens_add_20 : decode b_Tokens_add 20 = .ok (.aload_n 0, 1) := by decide +kernel
theorem d_Tokens_add_21 : decode b_Tokens_add 21 = .ok (.getfield 19, 3) := by decide +kernel
theorem d_Tokens_add_24 : decode b_Tokens_add 24 = .ok (.aload_n 0, 1) := by decide +kernel
theorem d_Tokens_add_25 : decode b_Tokens_add 25 = .ok (.getfield 38, 3) := by decide +kernel
theorem d_Tokens_add_28 : decode b_Tokens_add 28 = .ok (.lload_n 3, 1) := by decide +kernel
theorem d_Tokens_add_29 : decode b_Tokens_add 29 = .ok (.lastore, 1) := by decide +kernel
theorem d_Tokens_add_30 : decode b_Tokens_add 30 = .ok (.aload_n 0, 1) := by decide +kernel
theorem d_Tokens_add_31 : decode b_Tokens_add 31 = .ok (.dup, 1) := by decide +kernel
theorem d_Tokens_add_32 : decode b_Tokens_add 32 = .ok (.getfield 38, 3) := by decide +kernel
theorem d_Tokens_add_35 : decode b_Tokens_add 35 = .ok (.iconst 1, 1) := by decide +kernel
theorem d_Tokens_add_36 : decode b_Tokens_add 36 = .ok (.iadd, 1) := by decide +kernel
theorem d_Tokens_add_37 : decode b_Tokens_add 37 = .ok (.putfield 38, 3) := by decide +kernel
theorem d_Tokens_add_40 : decode b_Tokens_add 40 = .ok (.iload 5, 2) := by decide +kernel
theorem d_Tokens_add_42 : decode b_Tokens_add 42 = .ok (.ireturn, 1) := by decide +kernel
set_option maxHeartbeats 4000000 in
set_option maxRecDepth 100000 in
theorem c_Tokens_add (l : Launch) {dA : FieldType → ClassId} {D : va_G} {al : Nat → Nat} {ext : mv_Sh} {sk sv : Nat → Nat} (hi : mv_inj (mg dA D al ext)) (σ : mv_H) (k q : Int32) (x : Int64) (b : Int32) (hsh : mh (mv_r σ)) (hsz : vp_in (mv_i σ 3 6) 32770) : mv_C l y_Tokens_add (Cond.code y_Tokens_add b_Tokens_add 6 (Option.some Jvm.ClassFile.FieldType.int) :: ma) ({ frames := 0, cells := 0, slots := 0, locals := 0 }) (mg dA D al ext) (mK sk sv) [.ref (al 3), .int k, .int q, .long x, .int b] σ (mv_Ri (fun v σ1 => σ1 = tk_add σ k q x ∧ v = b)) := by
  refine mv_C.ofV (cc := b_Tokens_add) (nL := 6) (ret := (Option.some Jvm.ClassFile.FieldType.int)) (by decide +kernel) rfl hi (Nat.le_of_ble_eq_true rfl) ?_
  intro p e s m below meth c B hNs hr hnm hno
  refine mv_aload_n (pc := 0) B d_Tokens_add_0 rfl 0 rfl ?_
  refine mv_getR (pc := 1) (ci := 2) (C := R_Tokens) (T := F_Tokens) (N := 10) B 0 rfl rfl (by decide) i_Tokens (B.2.2.2.1 _ k_89) rfl (hsh _ 0 _ rfl) d_Tokens_add_1 ?_
  refine mv_aload_n (pc := 4) B d_Tokens_add_4 rfl 0 rfl ?_
  refine mv_getI (pc := 5) (ci := 2) (C := R_Tokens) (T := F_Tokens) (N := 10) B 6 rfl rfl (by decide) i_Tokens (B.2.2.2.1 _ k_101) rfl d_Tokens_add_5 ?_
  refine mv_iload_n (pc := 8) B d_Tokens_add_8 rfl 1 rfl ?_
  refine mv_iast (pc := 9) B rfl hsz d_Tokens_add_9 ?_
  refine mv_aload_n (pc := 10) B d_Tokens_add_10 rfl 0 rfl ?_
  refine mv_getR (pc := 11) (ci := 2) (C := R_Tokens) (T := F_Tokens) (N := 10) B 1 rfl rfl (by decide) i_Tokens (B.2.2.2.1 _ k_90) rfl (hsh _ 1 _ rfl) d_Tokens_add_11 ?_
  refine mv_aload_n (pc := 14) B d_Tokens_add_14 rfl 0 rfl ?_
  refine mv_getI (pc := 15) (ci := 2) (C := R_Tokens) (T := F_Tokens) (N := 10) B 6 rfl rfl (by decide) i_Tokens (B.2.2.2.1 _ k_101) rfl d_Tokens_add_15 ?_
  refine mv_iload_n (pc := 18) B d_Tokens_add_18 rfl 2 rfl ?_
  refine mv_iast (pc := 19) B rfl hsz d_Tokens_add_19 ?_
  refine mv_aload_n (pc := 20) B d_Tokens_add_20 rfl 0 rfl ?_
  refine mv_getR (pc := 21) (ci := 2) (C := R_Tokens) (T := F_Tokens) (N := 10) B 2 rfl rfl (by decide) i_Tokens (B.2.2.2.1 _ k_93) rfl (hsh _ 2 _ rfl) d_Tokens_add_21 ?_
  refine mv_aload_n (pc := 24) B d_Tokens_add_24 rfl 0 rfl ?_
  refine mv_getI (pc := 25) (ci := 2) (C := R_Tokens) (T := F_Tokens) (N := 10) B 6 rfl rfl (by decide) i_Tokens (B.2.2.2.1 _ k_101) rfl d_Tokens_add_25 ?_
  refine mv_lload_n (pc := 28) B d_Tokens_add_28 rfl 3 rfl ?_
  refine mv_last (pc := 29) B rfl hsz d_Tokens_add_29 ?_
  refine mv_aload_n (pc := 30) B d_Tokens_add_30 rfl 0 rfl ?_
  refine mv_dup (pc := 31) B d_Tokens_add_31 rfl ?_
  refine mv_getI (pc := 32) (ci := 2) (C := R_Tokens) (T := F_Tokens) (N := 10) B 6 rfl rfl (by decide) i_Tokens (B.2.2.2.1 _ k_101) rfl d_Tokens_add_32 ?_
  refine mv_iconst (pc := 35) (v := 1) B d_Tokens_add_35 (by decide) ?_
  refine mv_iadd (pc := 36) B d_Tokens_add_36 ?_
  refine mv_putI (pc := 37) (ci := 2) (C := R_Tokens) (T := F_Tokens) (N := 10) B 6 rfl rfl (by decide) i_Tokens t_Tokens_ok n_Tokens (B.2.2.2.1 _ k_101) rfl rfl rfl rfl d_Tokens_add_37 ?_
  refine mv_iload (pc := 40) B d_Tokens_add_40 4 rfl ?_
  exact mv_iret (pc := 42) B hr rfl d_Tokens_add_42 (Nat.le_refl _) (Nat.le_refl _) ⟨_, rfl, rfl, rfl⟩
def y_Tokens_broken : MethodName := ⟨"MachineLoom$Tokens", "broken", "(I)I"⟩
abbrev b_Tokens_broken : ByteArray := prog_10_method_12_code
theorem kc_Tokens_broken : Cond.code y_Tokens_broken b_Tokens_broken 2 (Option.some Jvm.ClassFile.FieldType.int) ∈ ma := ma_of (tb_4 _ (List.mem_of_getElem? (i := 128) rfl)) rfl
theorem k_831 : (Jvm.Cond.methodLink "MachineLoom$Tokens" (64 : Nat) ({ cls := "MachineLoom$Tokens", name := "add", desc := "(IIJI)I" } : Jvm.MethodName)) ∈ ma := ma_of (tb_4 _ (List.mem_of_getElem? (i := 111) rfl)) rfl
theorem k_833 : (Jvm.Cond.instanceMethod ({ cls := "MachineLoom$Tokens", name := "add", desc := "(IIJI)I" } : Jvm.MethodName)) ∈ ma := ma_of (tb_4 _ (List.mem_of_getElem? (i := 113) rfl)) rfl
theorem ks_22 : Cond.selects "MachineLoom$Tokens" ⟨"MachineLoom$Tokens", "add", "(IIJI)I"⟩ ⟨"MachineLoom$Tokens", "add", "(IIJI)I"⟩ ∈ ma := ma_sel 22 rfl rfl
theorem d_Tokens_broken_0 : decode b_Tokens_broken 0 = .ok (.aload_n 0, 1) := by decide +kernel
theorem d_Tokens_broken_1 : decode b_Tokens_broken 1 = .ok (.iconst 2, 1) := by decide +kernel
theorem d_Tokens_broken_2 : decode b_Tokens_broken 2 = .ok (.iload_n 1, 1) := by decide +kernel
theorem d_Tokens_broken_3 : decode b_Tokens_broken 3 = .ok (.lconst 0, 1) := by decide +kernel
theorem d_Tokens_broken_4 : decode b_Tokens_broken 4 = .ok (.iconst (-1), 1) := by decide +kernel
theorem d_Tokens_broken_5 : decode b_Tokens_broken 5 = .ok (.invokevirtual 64, 3) := by decide +kernel
theorem d_Tokens_broken_8 : decode b_Tokens_broken 8 = .ok (.ireturn, 1) := by decide +kernel
set_option maxHeartbeats 4000000 in
set_option maxRecDepth 100000 in
theorem c_Tokens_broken (l : Launch) {dA : FieldType → ClassId} {D : va_G} {al : Nat → Nat} {ext : mv_Sh} {sk sv : Nat → Nat} (hi : mv_inj (mg dA D al ext)) (σ : mv_H) (q : Int32) (hsh : mh (mv_r σ)) (hsz : vp_in (mv_i σ 3 6) 32770) : mv_C l y_Tokens_broken (Cond.code y_Tokens_broken b_Tokens_broken 2 (Option.some Jvm.ClassFile.FieldType.int) :: ma) ({ frames := 1, cells := 0, slots := 0, locals := 25 }) (mg dA D al ext) (mK sk sv) [.ref (al 3), .int q] σ (mv_Ri (fun v σ1 => σ1 = tk_add σ 2 q 0 ∧ v = -1)) := by
  refine mv_C.ofV (cc := b_Tokens_broken) (nL := 2) (ret := (Option.some Jvm.ClassFile.FieldType.int)) (by decide +kernel) rfl hi (Nat.le_of_ble_eq_true rfl) ?_
  intro p e s m below meth c B hNs hr hnm hno
  refine mv_aload_n (pc := 0) B d_Tokens_broken_0 rfl 0 rfl ?_
  refine mv_iconst (pc := 1) (v := 2) B d_Tokens_broken_1 (by decide) ?_
  refine mv_iload_n (pc := 2) B d_Tokens_broken_2 rfl 1 rfl ?_
  refine mv_lconst (pc := 3) (v := 0) B d_Tokens_broken_3 (by decide) ?_
  refine mv_iconst (pc := 4) (v := -1) B d_Tokens_broken_4 (by decide) ?_
  refine mv_callVi (pc := 5) (n := 4) (ci := 2) (C := R_Tokens) B (mK_ok sk sv) hNs rfl rfl (c_Tokens_add l hi _ _ _ _ _ hsh hsz) rfl (ma_goodc kc_Tokens_add) (B.2.2.2.1 _ k_831) (B.2.2.2.1 _ k_833) (B.2.2.2.1 _ ks_22) (B.2.2.2.1 _ k_3) ⟨by decide +kernel, by decide +kernel, by decide +kernel⟩ rfl d_Tokens_broken_5 rfl (Nat.le_of_ble_eq_true rfl) ⟨by decide, by decide⟩ ⟨by decide, by decide⟩ ⟨by decide, by decide⟩ (mv_noH hno _) (fun v5 σ5 h5 => ?_)
  exact mv_iret (pc := 8) B hr rfl d_Tokens_broken_8 (Nat.le_refl _) (Nat.le_refl _) ⟨_, rfl, h5⟩
def y_Faults_clear : MethodName := ⟨"MachineLoom$Faults", "clear", "()V"⟩
abbrev b_Faults_clear : ByteArray := prog_4_method_2_code
theorem kc_Faults_clear : Cond.code y_Faults_clear b_Faults_clear 1 (Option.none : Option Jvm.ClassFile.FieldType) ∈ ma := ma_of (tb_4 _ (List.mem_of_getElem? (i := 68) rfl)) rfl
theorem k_177 : (Jvm.Cond.fieldLink "MachineLoom$Faults" (7 : Nat) "MachineLoom$Faults" "number" "I") ∈ ma := ma_of (tb_1 _ (List.mem_of_getElem? (i := 177) rfl)) rfl
theorem k_180 : (Jvm.Cond.fieldLink "MachineLoom$Faults" (13 : Nat) "MachineLoom$Faults" "place" "I") ∈ ma := ma_of (tb_1 _ (List.mem_of_getElem? (i := 180) rfl)) rfl
theorem d_Faults_clear_0 : decode b_Faults_clear 0 = .ok (.aload_n 0, 1) := by decide +kernel
theorem d_Faults_clear_1 : decode b_Faults_clear 1 = .ok (.iconst 0, 1) := by decide +kernel
theorem d_Faults_clear_2 : decode b_Faults_clear 2 = .ok (.putfield 7, 3) := by decide +kernel
theorem d_Faults_clear_5 : decode b_Faults_clear 5 = .ok (.aload_n 0, 1) := by decide +kernel
theorem d_Faults_clear_6 : decode b_Faults_clear 6 = .ok (.iconst (-1), 1) := by decide +kernel
theorem d_Faults_clear_7 : decode b_Faults_clear 7 = .ok (.putfield 13, 3) := by decide +kernel
theorem d_Faults_clear_10 : decode b_Faults_clear 10 = .ok (.return_, 1) := by decide +kernel
set_option maxHeartbeats 4000000 in
set_option maxRecDepth 100000 in
theorem c_Faults_clear (l : Launch) {dA : FieldType → ClassId} {D : va_G} {al : Nat → Nat} {ext : mv_Sh} {sk sv : Nat → Nat} (hi : mv_inj (mg dA D al ext)) (σ : mv_H)  : mv_C l y_Faults_clear (Cond.code y_Faults_clear b_Faults_clear 1 (Option.none : Option Jvm.ClassFile.FieldType) :: ma) ({ frames := 0, cells := 0, slots := 0, locals := 0 }) (mg dA D al ext) (mK sk sv) [.ref (al 21)] σ (mv_Rv (fun σ1 => σ1 = mv_si (mv_si σ 21 0 0) 21 1 (-1))) := by
  refine mv_C.ofV (cc := b_Faults_clear) (nL := 1) (ret := (Option.none : Option Jvm.ClassFile.FieldType)) (by decide +kernel) rfl hi (Nat.le_of_ble_eq_true rfl) ?_
  intro p e s m below meth c B hNs hr hnm hno
  refine mv_aload_n (pc := 0) B d_Faults_clear_0 rfl 0 rfl ?_
  refine mv_iconst (pc := 1) (v := 0) B d_Faults_clear_1 (by decide) ?_
  refine mv_putI (pc := 2) (ci := 5) (C := R_Faults) (T := F_Faults) (N := 2) B 0 rfl rfl (by decide) i_Faults t_Faults_ok n_Faults (B.2.2.2.1 _ k_177) rfl rfl rfl rfl d_Faults_clear_2 ?_
  refine mv_aload_n (pc := 5) B d_Faults_clear_5 rfl 0 rfl ?_
  refine mv_iconst (pc := 6) (v := -1) B d_Faults_clear_6 (by decide) ?_
  refine mv_putI (pc := 7) (ci := 5) (C := R_Faults) (T := F_Faults) (N := 2) B 1 rfl rfl (by decide) i_Faults t_Faults_ok n_Faults (B.2.2.2.1 _ k_180) rfl rfl rfl rfl d_Faults_clear_7 ?_
  exact mv_vret (pc := 10) B hr d_Faults_clear_10 (Nat.le_refl _) (Nat.le_refl _) ⟨rfl, rfl⟩
def y_Faults_tell : MethodName := ⟨"MachineLoom$Faults", "tell", "(II)V"⟩
abbrev b_Faults_tell : ByteArray := prog_4_method_3_code
theorem kc_Faults_tell : Cond.code y_Faults_tell b_Faults_tell 3 (Option.none : Option Jvm.ClassFile.FieldType) ∈ ma := ma_of (tb_6 _ (List.mem_of_getElem? (i := 89) rfl)) rfl
theorem d_Faults_tell_0 : decode b_Faults_tell 0 = .ok (.aload_n 0, 1) := by decide +kernel
theorem d_Faults_tell_1 : decode b_Faults_tell 1 = .ok (.getfield 7, 3) := by decide +kernel
theorem d_Faults_tell_4 : decode b_Faults_tell 4 = .ok (.ifCond .eq (27), 3) := by decide +kernel
theorem d_Faults_tell_7 : decode b_Faults_tell 7 = .ok (.iload_n 1, 1) := by decide +kernel
theorem d_Faults_tell_8 : decode b_Faults_tell 8 = .ok (.aload_n 0, 1) := by decide +kernel
theorem d_Faults_tell_9 : decode b_Faults_tell 9 = .ok (.getfield 13, 3) := by decide +kernel
theorem d_Faults_tell_12 : decode b_Faults_tell 12 = .ok (.if_icmp .lt (19), 3) := by decide +kernel
theorem d_Faults_tell_15 : decode b_Faults_tell 15 = .ok (.iload_n 1, 1) := by decide +kernel
theorem d_Faults_tell_16 : decode b_Faults_tell 16 = .ok (.aload_n 0, 1) := by decide +kernel
theorem d_Faults_tell_17 : decode b_Faults_tell 17 = .ok (.getfield 13, 3) := by decide +kernel
theorem d_Faults_tell_20 : decode b_Faults_tell 20 = .ok (.if_icmp .ne (21), 3) := by decide +kernel
theorem d_Faults_tell_23 : decode b_Faults_tell 23 = .ok (.iload_n 2, 1) := by decide +kernel
theorem d_Faults_tell_24 : decode b_Faults_tell 24 = .ok (.aload_n 0, 1) := by decide +kernel
theorem d_Faults_tell_25 : decode b_Faults_tell 25 = .ok (.getfield 7, 3) := by decide +kernel
theorem d_Faults_tell_28 : decode b_Faults_tell 28 = .ok (.if_icmp .ge (13), 3) := by decide +kernel
theorem d_Faults_tell_31 : decode b_Faults_tell 31 = .ok (.aload_n 0, 1) := by decide +kernel
theorem d_Faults_tell_32 : decode b_Faults_tell 32 = .ok (.iload_n 2, 1) := by decide +kernel
theorem d_Faults_tell_33 : decode b_Faults_tell 33 = .ok (.putfield 7, 3) := by decide +kernel
theorem d_Faults_tell_36 : decode b_Faults_tell 36 = .ok (.aload_n 0, 1) := by decide +kernel
theorem d_Faults_tell_37 : decode b_Faults_tell 37 = .ok (.iload_n 1, 1) := by decide +kernel
theorem d_Faults_tell_38 : decode b_Faults_tell 38 = .ok (.putfield 13, 3) := by decide +kernel
theorem d_Faults_tell_41 : decode b_Faults_tell 41 = .ok (.return_, 1) := by decide +kernel
set_option maxHeartbeats 4000000 in
set_option maxRecDepth 100000 in
theorem c_Faults_tell (l : Launch) {dA : FieldType → ClassId} {D : va_G} {al : Nat → Nat} {ext : mv_Sh} {sk sv : Nat → Nat} (hi : mv_inj (mg dA D al ext)) (σ : mv_H) (a b : Int32) : mv_C l y_Faults_tell (Cond.code y_Faults_tell b_Faults_tell 3 (Option.none : Option Jvm.ClassFile.FieldType) :: ma) ({ frames := 0, cells := 0, slots := 0, locals := 0 }) (mg dA D al ext) (mK sk sv) [.ref (al 21), .int a, .int b] σ (mv_Rv (fun σ1 => (σ1 = σ ∧ ¬ mv_i σ 21 0 = 0) ∨ σ1 = mv_si (mv_si σ 21 0 b) 21 1 a)) := by
  refine mv_C.ofV (cc := b_Faults_tell) (nL := 3) (ret := (Option.none : Option Jvm.ClassFile.FieldType)) (by decide +kernel) rfl hi (Nat.le_of_ble_eq_true rfl) ?_
  intro p e s m below meth c B hNs hr hnm hno
  refine mv_aload_n (pc := 0) B d_Faults_tell_0 rfl 0 rfl ?_
  refine mv_getI (pc := 1) (ci := 5) (C := R_Faults) (T := F_Faults) (N := 2) B 0 rfl rfl (by decide) i_Faults (B.2.2.2.1 _ k_177) rfl d_Faults_tell_1 ?_
  refine mv_if_eq (pc := 4) (tgt := 31) B d_Faults_tell_4 rfl (fun h4 => ?_) (fun h4 => ?_)
  · skip
    refine mv_aload_n (pc := 31) B d_Faults_tell_31 rfl 0 rfl ?_
    refine mv_iload_n (pc := 32) B d_Faults_tell_32 rfl 2 rfl ?_
    refine mv_putI (pc := 33) (ci := 5) (C := R_Faults) (T := F_Faults) (N := 2) B 0 rfl rfl (by decide) i_Faults t_Faults_ok n_Faults (B.2.2.2.1 _ k_177) rfl rfl rfl rfl d_Faults_tell_33 ?_
    refine mv_aload_n (pc := 36) B d_Faults_tell_36 rfl 0 rfl ?_
    refine mv_iload_n (pc := 37) B d_Faults_tell_37 rfl 1 rfl ?_
    refine mv_putI (pc := 38) (ci := 5) (C := R_Faults) (T := F_Faults) (N := 2) B 1 rfl rfl (by decide) i_Faults t_Faults_ok n_Faults (B.2.2.2.1 _ k_180) rfl rfl rfl rfl d_Faults_tell_38 ?_
    exact mv_vret (pc := 41) B hr d_Faults_tell_41 (Nat.le_refl _) (Nat.le_refl _) ⟨rfl, by first | exact Or.inl ⟨rfl, by assumption⟩ | exact Or.inr rfl⟩
  · skip
    refine mv_iload_n (pc := 7) B d_Faults_tell_7 rfl 1 rfl ?_
    refine mv_aload_n (pc := 8) B d_Faults_tell_8 rfl 0 rfl ?_
    refine mv_getI (pc := 9) (ci := 5) (C := R_Faults) (T := F_Faults) (N := 2) B 1 rfl rfl (by decide) i_Faults (B.2.2.2.1 _ k_180) rfl d_Faults_tell_9 ?_
    refine mv_icmp_lt (pc := 12) (tgt := 31) B d_Faults_tell_12 rfl (fun h12 => ?_) (fun h12 => ?_)
    · skip
      refine mv_aload_n (pc := 31) B d_Faults_tell_31 rfl 0 rfl ?_
      refine mv_iload_n (pc := 32) B d_Faults_tell_32 rfl 2 rfl ?_
      refine mv_putI (pc := 33) (ci := 5) (C := R_Faults) (T := F_Faults) (N := 2) B 0 rfl rfl (by decide) i_Faults t_Faults_ok n_Faults (B.2.2.2.1 _ k_177) rfl rfl rfl rfl d_Faults_tell_33 ?_
      refine mv_aload_n (pc := 36) B d_Faults_tell_36 rfl 0 rfl ?_
      refine mv_iload_n (pc := 37) B d_Faults_tell_37 rfl 1 rfl ?_
      refine mv_putI (pc := 38) (ci := 5) (C := R_Faults) (T := F_Faults) (N := 2) B 1 rfl rfl (by decide) i_Faults t_Faults_ok n_Faults (B.2.2.2.1 _ k_180) rfl rfl rfl rfl d_Faults_tell_38 ?_
      exact mv_vret (pc := 41) B hr d_Faults_tell_41 (Nat.le_refl _) (Nat.le_refl _) ⟨rfl, by first | exact Or.inl ⟨rfl, by assumption⟩ | exact Or.inr rfl⟩
    · skip
      refine mv_iload_n (pc := 15) B d_Faults_tell_15 rfl 1 rfl ?_
      refine mv_aload_n (pc := 16) B d_Faults_tell_16 rfl 0 rfl ?_
      refine mv_getI (pc := 17) (ci := 5) (C := R_Faults) (T := F_Faults) (N := 2) B 1 rfl rfl (by decide) i_Faults (B.2.2.2.1 _ k_180) rfl d_Faults_tell_17 ?_
      refine mv_icmp_ne (pc := 20) (tgt := 41) B d_Faults_tell_20 rfl (fun h20 => ?_) (fun h20 => ?_)
      · skip
        exact mv_vret (pc := 41) B hr d_Faults_tell_41 (Nat.le_refl _) (Nat.le_refl _) ⟨rfl, by first | exact Or.inl ⟨rfl, by assumption⟩ | exact Or.inr rfl⟩
      · skip
        refine mv_iload_n (pc := 23) B d_Faults_tell_23 rfl 2 rfl ?_
        refine mv_aload_n (pc := 24) B d_Faults_tell_24 rfl 0 rfl ?_
        refine mv_getI (pc := 25) (ci := 5) (C := R_Faults) (T := F_Faults) (N := 2) B 0 rfl rfl (by decide) i_Faults (B.2.2.2.1 _ k_177) rfl d_Faults_tell_25 ?_
        refine mv_icmp_ge (pc := 28) (tgt := 41) B d_Faults_tell_28 rfl (fun h28 => ?_) (fun h28 => ?_)
        · skip
          exact mv_vret (pc := 41) B hr d_Faults_tell_41 (Nat.le_refl _) (Nat.le_refl _) ⟨rfl, by first | exact Or.inl ⟨rfl, by assumption⟩ | exact Or.inr rfl⟩
        · skip
          refine mv_aload_n (pc := 31) B d_Faults_tell_31 rfl 0 rfl ?_
          refine mv_iload_n (pc := 32) B d_Faults_tell_32 rfl 2 rfl ?_
          refine mv_putI (pc := 33) (ci := 5) (C := R_Faults) (T := F_Faults) (N := 2) B 0 rfl rfl (by decide) i_Faults t_Faults_ok n_Faults (B.2.2.2.1 _ k_177) rfl rfl rfl rfl d_Faults_tell_33 ?_
          refine mv_aload_n (pc := 36) B d_Faults_tell_36 rfl 0 rfl ?_
          refine mv_iload_n (pc := 37) B d_Faults_tell_37 rfl 1 rfl ?_
          refine mv_putI (pc := 38) (ci := 5) (C := R_Faults) (T := F_Faults) (N := 2) B 1 rfl rfl (by decide) i_Faults t_Faults_ok n_Faults (B.2.2.2.1 _ k_180) rfl rfl rfl rfl d_Faults_tell_38 ?_
          exact mv_vret (pc := 41) B hr d_Faults_tell_41 (Nat.le_refl _) (Nat.le_refl _) ⟨rfl, by first | exact Or.inl ⟨rfl, by assumption⟩ | exact Or.inr rfl⟩
