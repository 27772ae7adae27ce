/-! members of String over the constants -/
theorem st_len : ∀ i, i < st_t.length → (st_g i).2.2.2.length < 2147483648 := by decide +kernel
theorem st_toInt {i : Nat} (h : i < st_t.length) : (Int32.ofNat (st_g i).2.2.2.length).toInt = (st_g i).2.2.2.length := nI_toInt (st_len i h)
theorem st_shr {i : Nat} (h : i < st_t.length) : (Int32.ofNat (st_g i).2.2.2.length >>> ((0 : Int32) &&& 31)).toInt = (st_g i).2.2.2.length := by
  have e : Int32.ofNat (st_g i).2.2.2.length >>> ((0 : Int32) &&& 31) = nI ((st_g i).2.2.2.length / 2 ^ 0) := pk_shrN (st_len i h) _ 0 (by decide)
  rw [e, Nat.pow_zero, Nat.div_one]
  exact nI_toInt (st_len i h)
def y_String_coder : MethodName := ⟨"java/lang/String", "coder", "()B"⟩
abbrev b_String_coder : ByteArray := prog_29_method_152_code
theorem kc_String_coder : Cond.code y_String_coder b_String_coder 1 (Option.some Jvm.ClassFile.FieldType.byte) ∈ ma := ma_of (tb_3 _ (List.mem_of_getElem? (i := 72) rfl)) rfl
theorem k_553 : (Jvm.Cond.fieldLink "java/lang/String" (38 : Nat) "java/lang/String" "COMPACT_STRINGS" "Z") ∈ ma := ma_of (tb_3 _ (List.mem_of_getElem? (i := 73) rfl)) rfl
theorem k_1215 : (Jvm.Cond.fieldLink "java/lang/String" (15 : Nat) "java/lang/String" "coder" "B") ∈ ma := ma_of (tb_6 _ (List.mem_of_getElem? (i := 15) rfl)) rfl
theorem d_String_coder_0 : decode b_String_coder 0 = .ok (.getstatic 38, 3) := by decide +kernel
theorem d_String_coder_3 : decode b_String_coder 3 = .ok (.ifCond .eq (10), 3) := by decide +kernel
theorem d_String_coder_6 : decode b_String_coder 6 = .ok (.aload_n 0, 1) := by decide +kernel
theorem d_String_coder_7 : decode b_String_coder 7 = .ok (.getfield 15, 3) := by decide +kernel
theorem d_String_coder_10 : decode b_String_coder 10 = .ok (.goto (4), 3) := by decide +kernel
theorem d_String_coder_14 : decode b_String_coder 14 = .ok (.ireturn, 1) := by decide +kernel
set_option maxHeartbeats 4000000 in
set_option maxRecDepth 100000 in
theorem c_String_coder (l : Launch) {dA : FieldType → ClassId} {D : va_G} {al : Nat → Nat} {ext : mv_Sh} {sk sv : Nat → Nat} (hi : mv_inj (mg dA D al ext)) (σ : mv_H) (i : Nat) (hi9 : i < st_t.length) : mv_C l y_String_coder (Cond.code y_String_coder b_String_coder 1 (Option.some Jvm.ClassFile.FieldType.byte) :: ma) ({ frames := 0, cells := 0, slots := 0, locals := 0 }) (mg dA D al ext) (mK sk sv) [.ref (sk i)] σ (mv_Ri (fun v σ1 => σ1 = σ ∧ v = 0)) := by
  refine mv_C.ofV (cc := b_String_coder) (nL := 1) (ret := (Option.some Jvm.ClassFile.FieldType.byte)) (by decide +kernel) rfl hi (Nat.le_of_ble_eq_true rfl) ?_
  intro p e s m below meth c B hNs hr hnm hno
  refine mv_gets (pc := 0) B hNs.2.2.1 (B.2.2.2.1 _ k_553) d_String_coder_0 ?_
  refine mv_if_eq (pc := 3) (tgt := 13) B d_String_coder_3 rfl (fun h3 => ?_) (fun h3 => ?_)
  · skip
    exact absurd h3 (by decide)
  · skip
    refine mv_aload_n (pc := 6) B d_String_coder_6 rfl 0 rfl ?_
    refine mv_getO (pc := 7) B (hNs.2.1 i hi9).2.2.1 (B.2.2.2.1 _ k_1215) d_String_coder_7 ?_
    refine mv_goto (pc := 10) (tgt := 14) B d_String_coder_10 rfl ?_
    exact mv_iret (pc := 14) B hr rfl d_String_coder_14 (Nat.le_refl _) (Nat.le_refl _) ⟨_, rfl, rfl, rfl⟩
def y_String_isLatin1 : MethodName := ⟨"java/lang/String", "isLatin1", "()Z"⟩
abbrev b_String_isLatin1 : ByteArray := prog_29_method_154_code
theorem kc_String_isLatin1 : Cond.code y_String_isLatin1 b_String_isLatin1 1 (Option.some Jvm.ClassFile.FieldType.boolean) ∈ ma := ma_of (tb_3 _ (List.mem_of_getElem? (i := 82) rfl)) rfl
theorem d_String_isLatin1_0 : decode b_String_isLatin1 0 = .ok (.getstatic 38, 3) := by decide +kernel
theorem d_String_isLatin1_3 : decode b_String_isLatin1 3 = .ok (.ifCond .eq (14), 3) := by decide +kernel
theorem d_String_isLatin1_6 : decode b_String_isLatin1 6 = .ok (.aload_n 0, 1) := by decide +kernel
theorem d_String_isLatin1_7 : decode b_String_isLatin1 7 = .ok (.getfield 15, 3) := by decide +kernel
theorem d_String_isLatin1_10 : decode b_String_isLatin1 10 = .ok (.ifCond .ne (7), 3) := by decide +kernel
theorem d_String_isLatin1_13 : decode b_String_isLatin1 13 = .ok (.iconst 1, 1) := by decide +kernel
theorem d_String_isLatin1_14 : decode b_String_isLatin1 14 = .ok (.goto (4), 3) := by decide +kernel
theorem d_String_isLatin1_18 : decode b_String_isLatin1 18 = .ok (.ireturn, 1) := by decide +kernel
set_option maxHeartbeats 4000000 in
set_option maxRecDepth 100000 in
theorem c_String_isLatin1 (l : Launch) {dA : FieldType → ClassId} {D : va_G} {al : Nat → Nat} {ext : mv_Sh} {sk sv : Nat → Nat} (hi : mv_inj (mg dA D al ext)) (σ : mv_H) (i : Nat) (hi9 : i < st_t.length) : mv_C l y_String_isLatin1 (Cond.code y_String_isLatin1 b_String_isLatin1 1 (Option.some Jvm.ClassFile.FieldType.boolean) :: ma) ({ frames := 0, cells := 0, slots := 0, locals := 0 }) (mg dA D al ext) (mK sk sv) [.ref (sk i)] σ (mv_Ri (fun v σ1 => σ1 = σ ∧ v = 1)) := by
  refine mv_C.ofV (cc := b_String_isLatin1) (nL := 1) (ret := (Option.some Jvm.ClassFile.FieldType.boolean)) (by decide +kernel) rfl hi (Nat.le_of_ble_eq_true rfl) ?_
  intro p e s m below meth c B hNs hr hnm hno
  refine mv_gets (pc := 0) B hNs.2.2.1 (B.2.2.2.1 _ k_553) d_String_isLatin1_0 ?_
  refine mv_if_eq (pc := 3) (tgt := 17) B d_String_isLatin1_3 rfl (fun h3 => ?_) (fun h3 => ?_)
  · skip
    exact absurd h3 (by decide)
  · skip
    refine mv_aload_n (pc := 6) B d_String_isLatin1_6 rfl 0 rfl ?_
    refine mv_getO (pc := 7) B (hNs.2.1 i hi9).2.2.1 (B.2.2.2.1 _ k_1215) d_String_isLatin1_7 ?_
    refine mv_if_ne (pc := 10) (tgt := 17) B d_String_isLatin1_10 rfl (fun h10 => ?_) (fun h10 => ?_)
    · skip
      exact absurd rfl h10
    · skip
      refine mv_iconst (pc := 13) (v := 1) B d_String_isLatin1_13 (by decide) ?_
      refine mv_goto (pc := 14) (tgt := 18) B d_String_isLatin1_14 rfl ?_
      exact mv_iret (pc := 18) B hr rfl d_String_isLatin1_18 (Nat.le_refl _) (Nat.le_refl _) ⟨_, rfl, rfl, rfl⟩
def y_String_length : MethodName := ⟨"java/lang/String", "length", "()I"⟩
abbrev b_String_length : ByteArray := prog_29_method_54_code
theorem kc_String_length : Cond.code y_String_length b_String_length 1 (Option.some Jvm.ClassFile.FieldType.int) ∈ ma := ma_of (tb_3 _ (List.mem_of_getElem? (i := 68) rfl)) rfl
theorem k_1214 : (Jvm.Cond.fieldLink "java/lang/String" (9 : Nat) "java/lang/String" "value" "[B") ∈ ma := ma_of (tb_6 _ (List.mem_of_getElem? (i := 14) rfl)) rfl
theorem k_549 : (Jvm.Cond.methodLink "java/lang/String" (335 : Nat) ({ cls := "java/lang/String", name := "coder", desc := "()B" } : Jvm.MethodName)) ∈ ma := ma_of (tb_3 _ (List.mem_of_getElem? (i := 69) rfl)) rfl
theorem k_21 : (Jvm.Cond.initialized "java/lang/String") ∈ ma := ma_of (tb_1 _ (List.mem_of_getElem? (i := 21) rfl)) rfl
theorem k_550 : (Jvm.Cond.instanceMethod ({ cls := "java/lang/String", name := "coder", desc := "()B" } : Jvm.MethodName)) ∈ ma := ma_of (tb_3 _ (List.mem_of_getElem? (i := 70) rfl)) rfl
theorem k_551 : (Jvm.Cond.selects "java/lang/String" ({ cls := "java/lang/String", name := "coder", desc := "()B" } : Jvm.MethodName) ({ cls := "java/lang/String", name := "coder", desc := "()B" } : Jvm.MethodName)) ∈ ma := ma_of (tb_3 _ (List.mem_of_getElem? (i := 71) rfl)) rfl
theorem d_String_length_0 : decode b_String_length 0 = .ok (.aload_n 0, 1) := by decide +kernel
theorem d_String_length_1 : decode b_String_length 1 = .ok (.getfield 9, 3) := by decide +kernel
theorem d_String_length_4 : decode b_String_length 4 = .ok (.arraylength, 1) := by decide +kernel
theorem d_String_length_5 : decode b_String_length 5 = .ok (.aload_n 0, 1) := by decide +kernel
theorem d_String_length_6 : decode b_String_length 6 = .ok (.invokevirtual 335, 3) := by decide +kernel
theorem d_String_length_9 : decode b_String_length 9 = .ok (.ishr, 1) := by decide +kernel
theorem d_String_length_10 : decode b_String_length 10 = .ok (.ireturn, 1) := by decide +kernel
set_option maxHeartbeats 4000000 in
set_option maxRecDepth 100000 in
theorem c_String_length (l : Launch) {dA : FieldType → ClassId} {D : va_G} {al : Nat → Nat} {ext : mv_Sh} {sk sv : Nat → Nat} (hi : mv_inj (mg dA D al ext)) (σ : mv_H) (i : Nat) (hi9 : i < st_t.length) : mv_C l y_String_length (Cond.code y_String_length b_String_length 1 (Option.some Jvm.ClassFile.FieldType.int) :: ma) ({ frames := 1, cells := 0, slots := 0, locals := 20 }) (mg dA D al ext) (mK sk sv) [.ref (sk i)] σ (mv_Ri (fun v σ1 => σ1 = σ ∧ v.toInt = (st_g i).2.2.2.length)) := by
  refine mv_C.ofV (cc := b_String_length) (nL := 1) (ret := (Option.some Jvm.ClassFile.FieldType.int)) (by decide +kernel) rfl hi (Nat.le_of_ble_eq_true rfl) ?_
  intro p e s m below meth c B hNs hr hnm hno
  refine mv_aload_n (pc := 0) B d_String_length_0 rfl 0 rfl ?_
  refine mv_getO (pc := 1) B (hNs.2.1 i hi9).2.2.2.1 (B.2.2.2.1 _ k_1214) d_String_length_1 ?_
  refine mv_tlen (pc := 4) B (hNs.2.1 i hi9).2.2.2.2 rfl d_String_length_4 ?_
  refine mv_aload_n (pc := 5) B d_String_length_5 rfl 0 rfl ?_
  refine mv_callVOi (pc := 6) (n := 0) B (mK_ok sk sv) hNs (hNs.2.1 i hi9).2.1 (c_String_coder l hi _ i hi9) rfl (ma_goodc kc_String_coder) (B.2.2.2.1 _ k_549) (B.2.2.2.1 _ k_550) (B.2.2.2.1 _ k_551) (B.2.2.2.1 _ k_21) ⟨by decide +kernel, by decide +kernel, by decide +kernel⟩ rfl d_String_length_6 rfl (Nat.le_of_ble_eq_true rfl) ⟨by decide, by decide⟩ ⟨by decide, by decide⟩ ⟨by decide, by decide⟩ (mv_noH hno _) (fun v6 σ6 h6 => ?_)
  obtain ⟨rfl, rfl⟩ := h6
  refine mv_ishr (pc := 9) B d_String_length_9 ?_
  exact mv_iret (pc := 10) B hr rfl d_String_length_10 (Nat.le_refl _) (Nat.le_refl _) ⟨_, rfl, rfl, st_shr hi9⟩
section MVM
variable {p : Program} {l : Launch} {e : Env} {R : Room} {s : State} {m : MethodId} {args : Array Value} {below : List Frame} {meth : Method} {c : Code} {G : mv_G} {ws : List Cond} {own : String} {cc : ByteArray} {nL : Nat} {cells slots : Nat} {Q : State → Prop} {σ : mv_H} {pc : Nat} {L : List (Nat × Value)} {rest : List Value}
theorem mv_mmax (B : mv_B p s m args meth c G ws own cc nL) {index : Nat} (hlink : (Cond.methodLink own index Lib.Math.max.name).before args s = true) (hstat : (Cond.static Lib.Math.max.name).before args s = true) (hini : (Cond.initialized "java/lang/Math").before args s = true) (hcode : (Cond.code Lib.Math.max.name Lib.Math.max.code 2 (some .int)).before args s = true)
    (hframes : 1 ≤ R.frames) (hlocals : (rest.map fun v => v.category).sum + 13 ≤ R.locals) (hc : cells ≤ R.cells) (hs : slots ≤ R.slots) {x y : Int32} (hdg : decode cc pc = .ok (.invokestatic index, 3))
    (kk : mv_V p l e R s m args below meth c G nL cells slots Q σ (pc + 3) L (.int (if x < y then y else x) :: rest)) : mv_V p l e R s m args below meth c G nL cells slots Q σ pc L (.int y :: .int x :: rest) := fun H locs ls h1 h2 h3 => va_mmax B.1.1 B.1.2 (by rw [B.2.1]; exact h3.1.symm) B.2.2.1 hlink hstat hini hcode hframes hlocals hc hs hdg (kk H locs ls h1 h2 h3)
theorem mv_mmin (B : mv_B p s m args meth c G ws own cc nL) {index : Nat} (hlink : (Cond.methodLink own index Lib.Math.min.name).before args s = true) (hstat : (Cond.static Lib.Math.min.name).before args s = true) (hini : (Cond.initialized "java/lang/Math").before args s = true) (hcode : (Cond.code Lib.Math.min.name Lib.Math.min.code 2 (some .int)).before args s = true)
    (hframes : 1 ≤ R.frames) (hlocals : (rest.map fun v => v.category).sum + 13 ≤ R.locals) (hc : cells ≤ R.cells) (hs : slots ≤ R.slots) {x y : Int32} (hdg : decode cc pc = .ok (.invokestatic index, 3))
    (kk : mv_V p l e R s m args below meth c G nL cells slots Q σ (pc + 3) L (.int (if y < x then y else x) :: rest)) : mv_V p l e R s m args below meth c G nL cells slots Q σ pc L (.int y :: .int x :: rest) := fun H locs ls h1 h2 h3 => va_mmin B.1.1 B.1.2 (by rw [B.2.1]; exact h3.1.symm) B.2.2.1 hlink hstat hini hcode hframes hlocals hc hs hdg (kk H locs ls h1 h2 h3)
end MVM
def y_Preconditions_checkIndex : MethodName := ⟨"jdk/internal/util/Preconditions", "checkIndex", "(IILjava/util/function/BiFunction;)I"⟩
abbrev b_Preconditions_checkIndex : ByteArray := prog_38_method_11_code
theorem kc_Preconditions_checkIndex : Cond.code y_Preconditions_checkIndex b_Preconditions_checkIndex 3 (Option.some Jvm.ClassFile.FieldType.int) ∈ ma := ma_of (tb_3 _ (List.mem_of_getElem? (i := 93) rfl)) rfl
theorem d_Preconditions_checkIndex_0 : decode b_Preconditions_checkIndex 0 = .ok (.iload_n 0, 1) := by decide +kernel
theorem d_Preconditions_checkIndex_1 : decode b_Preconditions_checkIndex 1 = .ok (.ifCond .lt (8), 3) := by decide +kernel
theorem d_Preconditions_checkIndex_4 : decode b_Preconditions_checkIndex 4 = .ok (.iload_n 0, 1) := by decide +kernel
theorem d_Preconditions_checkIndex_5 : decode b_Preconditions_checkIndex 5 = .ok (.iload_n 1, 1) := by decide +kernel
theorem d_Preconditions_checkIndex_6 : decode b_Preconditions_checkIndex 6 = .ok (.if_icmp .lt (10), 3) := by decide +kernel
theorem d_Preconditions_checkIndex_16 : decode b_Preconditions_checkIndex 16 = .ok (.iload_n 0, 1) := by decide +kernel
theorem d_Preconditions_checkIndex_17 : decode b_Preconditions_checkIndex 17 = .ok (.ireturn, 1) := by decide +kernel
set_option maxHeartbeats 4000000 in
set_option maxRecDepth 100000 in
theorem c_Preconditions_checkIndex (l : Launch) {dA : FieldType → ClassId} {D : va_G} {al : Nat → Nat} {ext : mv_Sh} {sk sv : Nat → Nat} (hi : mv_inj (mg dA D al ext)) (σ : mv_H) (k n : Int32) (q : Value) (hq : q = .null ∨ ∃ t, q = .ref t) (g0 : 0 ≤ k.toInt) (g1 : k.toInt < n.toInt) : mv_C l y_Preconditions_checkIndex (Cond.code y_Preconditions_checkIndex b_Preconditions_checkIndex 3 (Option.some Jvm.ClassFile.FieldType.int) :: ma) ({ frames := 0, cells := 0, slots := 0, locals := 0 }) (mg dA D al ext) (mK sk sv) [.int k, .int n, q] σ (mv_Ri (fun v σ1 => σ1 = σ)) := by
  refine mv_C.ofV (cc := b_Preconditions_checkIndex) (nL := 3) (ret := (Option.some Jvm.ClassFile.FieldType.int)) (by decide +kernel) rfl hi (by rcases hq with rfl | ⟨t, rfl⟩ <;> exact Nat.le_of_ble_eq_true rfl) ?_
  intro p e s m below meth c B hNs hr hnm hno
  refine mv_iload_n (pc := 0) B d_Preconditions_checkIndex_0 rfl 0 rfl ?_
  refine mv_if_lt (pc := 1) (tgt := 9) B d_Preconditions_checkIndex_1 rfl (fun h1 => ?_) (fun h1 => ?_)
  · skip
    exact absurd h1 (ltc g0)
  · skip
    refine mv_iload_n (pc := 4) B d_Preconditions_checkIndex_4 rfl 0 rfl ?_
    refine mv_iload_n (pc := 5) B d_Preconditions_checkIndex_5 rfl 1 rfl ?_
    refine mv_icmp_lt (pc := 6) (tgt := 16) B d_Preconditions_checkIndex_6 rfl (fun h6 => ?_) (fun h6 => ?_)
    · skip
      refine mv_iload_n (pc := 16) B d_Preconditions_checkIndex_16 rfl 0 rfl ?_
      exact mv_iret (pc := 17) B hr rfl d_Preconditions_checkIndex_17 (Nat.le_refl _) (Nat.le_refl _) ⟨_, rfl, rfl⟩
    · skip
      exact absurd (Int32.lt_iff_toInt_lt.mpr g1) h6
def y_String_checkIndex : MethodName := ⟨"java/lang/String", "checkIndex", "(II)V"⟩
abbrev b_String_checkIndex : ByteArray := prog_29_method_155_code
theorem kc_String_checkIndex : Cond.code y_String_checkIndex b_String_checkIndex 2 (Option.none : Option Jvm.ClassFile.FieldType) ∈ ma := ma_of (tb_3 _ (List.mem_of_getElem? (i := 88) rfl)) rfl
theorem k_569 : (Jvm.Cond.fieldLink "java/lang/String" (1053 : Nat) "jdk/internal/util/Preconditions" "SIOOBE_FORMATTER" "Ljava/util/function/BiFunction;") ∈ ma := ma_of (tb_3 _ (List.mem_of_getElem? (i := 89) rfl)) rfl
theorem k_571 : (Jvm.Cond.methodLink "java/lang/String" (1059 : Nat) ({ cls := "jdk/internal/util/Preconditions", name := "checkIndex", desc := "(IILjava/util/function/BiFunction;)I" } : Jvm.MethodName)) ∈ ma := ma_of (tb_3 _ (List.mem_of_getElem? (i := 91) rfl)) rfl
theorem k_23 : (Jvm.Cond.initialized "jdk/internal/util/Preconditions") ∈ ma := ma_of (tb_1 _ (List.mem_of_getElem? (i := 23) rfl)) rfl
theorem k_572 : (Jvm.Cond.static ({ cls := "jdk/internal/util/Preconditions", name := "checkIndex", desc := "(IILjava/util/function/BiFunction;)I" } : Jvm.MethodName)) ∈ ma := ma_of (tb_3 _ (List.mem_of_getElem? (i := 92) rfl)) rfl
theorem d_String_checkIndex_0 : decode b_String_checkIndex 0 = .ok (.iload_n 0, 1) := by decide +kernel
theorem d_String_checkIndex_1 : decode b_String_checkIndex 1 = .ok (.iload_n 1, 1) := by decide +kernel
theorem d_String_checkIndex_2 : decode b_String_checkIndex 2 = .ok (.getstatic 1053, 3) := by decide +kernel
theorem d_String_checkIndex_5 : decode b_String_checkIndex 5 = .ok (.invokestatic 1059, 3) := by decide +kernel
theorem d_String_checkIndex_8 : decode b_String_checkIndex 8 = .ok (.pop, 1) := by decide +kernel
theorem d_String_checkIndex_9 : decode b_String_checkIndex 9 = .ok (.return_, 1) := by decide +kernel
set_option maxHeartbeats 4000000 in
set_option maxRecDepth 100000 in
theorem c_String_checkIndex (l : Launch) {dA : FieldType → ClassId} {D : va_G} {al : Nat → Nat} {ext : mv_Sh} {sk sv : Nat → Nat} (hi : mv_inj (mg dA D al ext)) (σ : mv_H) (k n : Int32) (g0 : 0 ≤ k.toInt) (g1 : k.toInt < n.toInt) : mv_C l y_String_checkIndex (Cond.code y_String_checkIndex b_String_checkIndex 2 (Option.none : Option Jvm.ClassFile.FieldType) :: ma) ({ frames := 1, cells := 0, slots := 0, locals := 22 }) (mg dA D al ext) (mK sk sv) [.int k, .int n] σ (mv_Rv (fun σ1 => σ1 = σ)) := by
  refine mv_C.ofV (cc := b_String_checkIndex) (nL := 2) (ret := (Option.none : Option Jvm.ClassFile.FieldType)) (by decide +kernel) rfl hi (Nat.le_of_ble_eq_true rfl) ?_
  intro p e s m below meth c B hNs hr hnm hno
  rcases hNs.2.2.2 with hz | ⟨tz, hz⟩
  · have hq : (Value.null = Value.null ∨ ∃ t, Value.null = Value.ref t) := Or.inl rfl
    refine mv_iload_n (pc := 0) B d_String_checkIndex_0 rfl 0 rfl ?_
    refine mv_iload_n (pc := 1) B d_String_checkIndex_1 rfl 1 rfl ?_
    refine mv_gets (pc := 2) B hz (B.2.2.2.1 _ k_569) d_String_checkIndex_2 ?_
    refine mv_callSi (pc := 5) (n := 3) B (mK_ok sk sv) hNs (c_Preconditions_checkIndex l hi _ _ _ _ hq g0 g1) rfl (ma_goodc kc_Preconditions_checkIndex) (B.2.2.2.1 _ k_571) (B.2.2.2.1 _ k_572) (B.2.2.2.1 _ k_23) ⟨by decide +kernel, by decide +kernel, by decide +kernel⟩ rfl d_String_checkIndex_5 rfl (Nat.le_of_ble_eq_true rfl) ⟨by decide, by decide⟩ ⟨by decide, by decide⟩ ⟨by decide, by decide⟩ (mv_noH hno _) (fun v5 σ5 h5 => ?_)
    subst h5
    refine mv_pop (pc := 8) B d_String_checkIndex_8 rfl ?_
    exact mv_vret (pc := 9) B hr d_String_checkIndex_9 (Nat.le_refl _) (Nat.le_refl _) ⟨rfl, rfl⟩
  · have hq : (Value.ref tz = Value.null ∨ ∃ t, Value.ref tz = Value.ref t) := Or.inr ⟨_, rfl⟩
    refine mv_iload_n (pc := 0) B d_String_checkIndex_0 rfl 0 rfl ?_
    refine mv_iload_n (pc := 1) B d_String_checkIndex_1 rfl 1 rfl ?_
    refine mv_gets (pc := 2) B hz (B.2.2.2.1 _ k_569) d_String_checkIndex_2 ?_
    refine mv_callSi (pc := 5) (n := 3) B (mK_ok sk sv) hNs (c_Preconditions_checkIndex l hi _ _ _ _ hq g0 g1) rfl (ma_goodc kc_Preconditions_checkIndex) (B.2.2.2.1 _ k_571) (B.2.2.2.1 _ k_572) (B.2.2.2.1 _ k_23) ⟨by decide +kernel, by decide +kernel, by decide +kernel⟩ rfl d_String_checkIndex_5 rfl (Nat.le_of_ble_eq_true rfl) ⟨by decide, by decide⟩ ⟨by decide, by decide⟩ ⟨by decide, by decide⟩ (mv_noH hno _) (fun v5 σ5 h5 => ?_)
    subst h5
    refine mv_pop (pc := 8) B d_String_checkIndex_8 rfl ?_
    exact mv_vret (pc := 9) B hr d_String_checkIndex_9 (Nat.le_refl _) (Nat.le_refl _) ⟨rfl, rfl⟩
def y_StringLatin1_charAt : MethodName := ⟨"java/lang/StringLatin1", "charAt", "([BI)C"⟩
abbrev b_StringLatin1_charAt : ByteArray := prog_31_method_2_code
theorem kc_StringLatin1_charAt : Cond.code y_StringLatin1_charAt b_StringLatin1_charAt 2 (Option.some Jvm.ClassFile.FieldType.char) ∈ ma := ma_of (tb_3 _ (List.mem_of_getElem? (i := 85) rfl)) rfl
theorem k_566 : (Jvm.Cond.methodLink "java/lang/StringLatin1" (9 : Nat) ({ cls := "java/lang/String", name := "checkIndex", desc := "(II)V" } : Jvm.MethodName)) ∈ ma := ma_of (tb_3 _ (List.mem_of_getElem? (i := 86) rfl)) rfl
theorem k_567 : (Jvm.Cond.static ({ cls := "java/lang/String", name := "checkIndex", desc := "(II)V" } : Jvm.MethodName)) ∈ ma := ma_of (tb_3 _ (List.mem_of_getElem? (i := 87) rfl)) rfl
theorem d_StringLatin1_charAt_0 : decode b_StringLatin1_charAt 0 = .ok (.iload_n 1, 1) := by decide +kernel
theorem d_StringLatin1_charAt_1 : decode b_StringLatin1_charAt 1 = .ok (.aload_n 0, 1) := by decide +kernel
theorem d_StringLatin1_charAt_2 : decode b_StringLatin1_charAt 2 = .ok (.arraylength, 1) := by decide +kernel
theorem d_StringLatin1_charAt_3 : decode b_StringLatin1_charAt 3 = .ok (.invokestatic 9, 3) := by decide +kernel
theorem d_StringLatin1_charAt_6 : decode b_StringLatin1_charAt 6 = .ok (.aload_n 0, 1) := by decide +kernel
theorem d_StringLatin1_charAt_7 : decode b_StringLatin1_charAt 7 = .ok (.iload_n 1, 1) := by decide +kernel
theorem d_StringLatin1_charAt_8 : decode b_StringLatin1_charAt 8 = .ok (.baload, 1) := by decide +kernel
theorem d_StringLatin1_charAt_9 : decode b_StringLatin1_charAt 9 = .ok (.sipush 255, 3) := by decide +kernel
theorem d_StringLatin1_charAt_12 : decode b_StringLatin1_charAt 12 = .ok (.iand, 1) := by decide +kernel
theorem d_StringLatin1_charAt_13 : decode b_StringLatin1_charAt 13 = .ok (.i2c, 1) := by decide +kernel
theorem d_StringLatin1_charAt_14 : decode b_StringLatin1_charAt 14 = .ok (.ireturn, 1) := by decide +kernel
set_option maxHeartbeats 4000000 in
set_option maxRecDepth 100000 in
theorem c_StringLatin1_charAt (l : Launch) {dA : FieldType → ClassId} {D : va_G} {al : Nat → Nat} {ext : mv_Sh} {sk sv : Nat → Nat} (hi : mv_inj (mg dA D al ext)) (σ : mv_H) (i : Nat) (hi9 : i < st_t.length) (k : Int32) (g0 : 0 ≤ k.toInt) (g1 : k.toInt < (st_g i).2.2.2.length) : mv_C l y_StringLatin1_charAt (Cond.code y_StringLatin1_charAt b_StringLatin1_charAt 2 (Option.some Jvm.ClassFile.FieldType.char) :: ma) ({ frames := 2, cells := 0, slots := 0, locals := 43 }) (mg dA D al ext) (mK sk sv) [.ref (sv i), .int k] σ (mv_Ri (fun v σ1 => σ1 = σ ∧ v = (st_g i).2.2.2.getD k.toNatClampNeg 0 &&& 255)) := by
  refine mv_C.ofV (cc := b_StringLatin1_charAt) (nL := 2) (ret := (Option.some Jvm.ClassFile.FieldType.char)) (by decide +kernel) rfl hi (Nat.le_of_ble_eq_true rfl) ?_
  intro p e s m below meth c B hNs hr hnm hno
  refine mv_iload_n (pc := 0) B d_StringLatin1_charAt_0 rfl 1 rfl ?_
  refine mv_aload_n (pc := 1) B d_StringLatin1_charAt_1 rfl 0 rfl ?_
  refine mv_tlen (pc := 2) B (hNs.2.1 i hi9).2.2.2.2 rfl d_StringLatin1_charAt_2 ?_
  refine mv_callSv (pc := 3) (n := 2) B (mK_ok sk sv) hNs (c_String_checkIndex l hi _ _ _ g0 (by rw [st_toInt hi9]; exact g1)) rfl (ma_goodc kc_String_checkIndex) (B.2.2.2.1 _ k_566) (B.2.2.2.1 _ k_567) (B.2.2.2.1 _ k_21) ⟨by decide +kernel, by decide +kernel, by decide +kernel⟩ rfl d_StringLatin1_charAt_3 rfl (Nat.le_of_ble_eq_true rfl) ⟨by decide, by decide⟩ ⟨by decide, by decide⟩ ⟨by decide, by decide⟩ (mv_noH hno _) (fun σ3 h3 => ?_)
  subst h3
  refine mv_aload_n (pc := 6) B d_StringLatin1_charAt_6 rfl 0 rfl ?_
  refine mv_iload_n (pc := 7) B d_StringLatin1_charAt_7 rfl 1 rfl ?_
  refine mv_tb (pc := 8) B (hNs.2.1 i hi9).2.2.2.2 (i32_in g0 g1) d_StringLatin1_charAt_8 ?_
  refine mv_sipush (pc := 9) (v := 255) B d_StringLatin1_charAt_9 (by decide) ?_
  refine mv_iand (pc := 12) B d_StringLatin1_charAt_12 ?_
  refine mv_i2c (pc := 13) B d_StringLatin1_charAt_13 ?_
  exact mv_iret (pc := 14) B hr (pk_nc _) d_StringLatin1_charAt_14 (Nat.le_refl _) (Nat.le_refl _) ⟨_, rfl, rfl, sc_c2 _⟩
def y_String_charAt : MethodName := ⟨"java/lang/String", "charAt", "(I)C"⟩
abbrev b_String_charAt : ByteArray := prog_29_method_56_code
theorem kc_String_charAt : Cond.code y_String_charAt b_String_charAt 2 (Option.some Jvm.ClassFile.FieldType.char) ∈ ma := ma_of (tb_3 _ (List.mem_of_getElem? (i := 78) rfl)) rfl
theorem k_559 : (Jvm.Cond.methodLink "java/lang/String" (492 : Nat) ({ cls := "java/lang/String", name := "isLatin1", desc := "()Z" } : Jvm.MethodName)) ∈ ma := ma_of (tb_3 _ (List.mem_of_getElem? (i := 79) rfl)) rfl
theorem k_560 : (Jvm.Cond.instanceMethod ({ cls := "java/lang/String", name := "isLatin1", desc := "()Z" } : Jvm.MethodName)) ∈ ma := ma_of (tb_3 _ (List.mem_of_getElem? (i := 80) rfl)) rfl
theorem k_561 : (Jvm.Cond.selects "java/lang/String" ({ cls := "java/lang/String", name := "isLatin1", desc := "()Z" } : Jvm.MethodName) ({ cls := "java/lang/String", name := "isLatin1", desc := "()Z" } : Jvm.MethodName)) ∈ ma := ma_of (tb_3 _ (List.mem_of_getElem? (i := 81) rfl)) rfl
theorem k_563 : (Jvm.Cond.methodLink "java/lang/String" (495 : Nat) ({ cls := "java/lang/StringLatin1", name := "charAt", desc := "([BI)C" } : Jvm.MethodName)) ∈ ma := ma_of (tb_3 _ (List.mem_of_getElem? (i := 83) rfl)) rfl
theorem k_22 : (Jvm.Cond.initialized "java/lang/StringLatin1") ∈ ma := ma_of (tb_1 _ (List.mem_of_getElem? (i := 22) rfl)) rfl
theorem k_564 : (Jvm.Cond.static ({ cls := "java/lang/StringLatin1", name := "charAt", desc := "([BI)C" } : Jvm.MethodName)) ∈ ma := ma_of (tb_3 _ (List.mem_of_getElem? (i := 84) rfl)) rfl
theorem d_String_charAt_0 : decode b_String_charAt 0 = .ok (.aload_n 0, 1) := by decide +kernel
theorem d_String_charAt_1 : decode b_String_charAt 1 = .ok (.invokevirtual 492, 3) := by decide +kernel
theorem d_String_charAt_4 : decode b_String_charAt 4 = .ok (.ifCond .eq (12), 3) := by decide +kernel
theorem d_String_charAt_7 : decode b_String_charAt 7 = .ok (.aload_n 0, 1) := by decide +kernel
theorem d_String_charAt_8 : decode b_String_charAt 8 = .ok (.getfield 9, 3) := by decide +kernel
theorem d_String_charAt_11 : decode b_String_charAt 11 = .ok (.iload_n 1, 1) := by decide +kernel
theorem d_String_charAt_12 : decode b_String_charAt 12 = .ok (.invokestatic 495, 3) := by decide +kernel
theorem d_String_charAt_15 : decode b_String_charAt 15 = .ok (.ireturn, 1) := by decide +kernel
set_option maxHeartbeats 4000000 in
set_option maxRecDepth 100000 in
theorem c_String_charAt (l : Launch) {dA : FieldType → ClassId} {D : va_G} {al : Nat → Nat} {ext : mv_Sh} {sk sv : Nat → Nat} (hi : mv_inj (mg dA D al ext)) (σ : mv_H) (i : Nat) (hi9 : i < st_t.length) (k : Int32) (g0 : 0 ≤ k.toInt) (g1 : k.toInt < (st_g i).2.2.2.length) : mv_C l y_String_charAt (Cond.code y_String_charAt b_String_charAt 2 (Option.some Jvm.ClassFile.FieldType.char) :: ma) ({ frames := 3, cells := 0, slots := 0, locals := 64 }) (mg dA D al ext) (mK sk sv) [.ref (sk i), .int k] σ (mv_Ri (fun v σ1 => σ1 = σ ∧ v = (st_g i).2.2.2.getD k.toNatClampNeg 0 &&& 255)) := by
  refine mv_C.ofV (cc := b_String_charAt) (nL := 2) (ret := (Option.some Jvm.ClassFile.FieldType.char)) (by decide +kernel) rfl hi (Nat.le_of_ble_eq_true rfl) ?_
  intro p e s m below meth c B hNs hr hnm hno
  refine mv_aload_n (pc := 0) B d_String_charAt_0 rfl 0 rfl ?_
  refine mv_callVOi (pc := 1) (n := 0) B (mK_ok sk sv) hNs (hNs.2.1 i hi9).2.1 (c_String_isLatin1 l hi _ i hi9) rfl (ma_goodc kc_String_isLatin1) (B.2.2.2.1 _ k_559) (B.2.2.2.1 _ k_560) (B.2.2.2.1 _ k_561) (B.2.2.2.1 _ k_21) ⟨by decide +kernel, by decide +kernel, by decide +kernel⟩ rfl d_String_charAt_1 rfl (Nat.le_of_ble_eq_true rfl) ⟨by decide, by decide⟩ ⟨by decide, by decide⟩ ⟨by decide, by decide⟩ (mv_noH hno _) (fun v1 σ1 h1 => ?_)
  obtain ⟨rfl, rfl⟩ := h1
  refine mv_if_eq (pc := 4) (tgt := 16) B d_String_charAt_4 rfl (fun h4 => ?_) (fun h4 => ?_)
  · skip
    exact absurd h4 (by decide)
  · skip
    refine mv_aload_n (pc := 7) B d_String_charAt_7 rfl 0 rfl ?_
    refine mv_getO (pc := 8) B (hNs.2.1 i hi9).2.2.2.1 (B.2.2.2.1 _ k_1214) d_String_charAt_8 ?_
    refine mv_iload_n (pc := 11) B d_String_charAt_11 rfl 1 rfl ?_
    refine mv_callSi (pc := 12) (n := 2) B (mK_ok sk sv) hNs (c_StringLatin1_charAt l hi _ i hi9 k g0 g1) rfl (ma_goodc kc_StringLatin1_charAt) (B.2.2.2.1 _ k_563) (B.2.2.2.1 _ k_564) (B.2.2.2.1 _ k_22) ⟨by decide +kernel, by decide +kernel, by decide +kernel⟩ rfl d_String_charAt_12 rfl (Nat.le_of_ble_eq_true rfl) ⟨by decide, by decide⟩ ⟨by decide, by decide⟩ ⟨by decide, by decide⟩ (mv_noH hno _) (fun v12 σ12 h12 => ?_)
    obtain ⟨rfl, rfl⟩ := h12
    exact mv_iret (pc := 15) B hr (sc_nar _) d_String_charAt_15 (Nat.le_refl _) (Nat.le_refl _) ⟨_, rfl, rfl, rfl⟩
def y_StringLatin1_canEncode : MethodName := ⟨"java/lang/StringLatin1", "canEncode", "(I)Z"⟩
abbrev b_StringLatin1_canEncode : ByteArray := prog_31_method_4_code
theorem kc_StringLatin1_canEncode : Cond.code y_StringLatin1_canEncode b_StringLatin1_canEncode 1 (Option.some Jvm.ClassFile.FieldType.boolean) ∈ ma := ma_of (tb_4 _ (List.mem_of_getElem? (i := 179) rfl)) rfl
theorem d_StringLatin1_canEncode_0 : decode b_StringLatin1_canEncode 0 = .ok (.iload_n 0, 1) := by decide +kernel
theorem d_StringLatin1_canEncode_1 : decode b_StringLatin1_canEncode 1 = .ok (.ifCond .lt (14), 3) := by decide +kernel
theorem d_StringLatin1_canEncode_4 : decode b_StringLatin1_canEncode 4 = .ok (.iload_n 0, 1) := by decide +kernel
theorem d_StringLatin1_canEncode_5 : decode b_StringLatin1_canEncode 5 = .ok (.sipush 255, 3) := by decide +kernel
theorem d_StringLatin1_canEncode_8 : decode b_StringLatin1_canEncode 8 = .ok (.if_icmp .gt (7), 3) := by decide +kernel
theorem d_StringLatin1_canEncode_11 : decode b_StringLatin1_canEncode 11 = .ok (.iconst 1, 1) := by decide +kernel
theorem d_StringLatin1_canEncode_12 : decode b_StringLatin1_canEncode 12 = .ok (.goto (4), 3) := by decide +kernel
theorem d_StringLatin1_canEncode_15 : decode b_StringLatin1_canEncode 15 = .ok (.iconst 0, 1) := by decide +kernel
theorem d_StringLatin1_canEncode_16 : decode b_StringLatin1_canEncode 16 = .ok (.ireturn, 1) := by decide +kernel
set_option maxHeartbeats 4000000 in
set_option maxRecDepth 100000 in
theorem c_StringLatin1_canEncode (l : Launch) {dA : FieldType → ClassId} {D : va_G} {al : Nat → Nat} {ext : mv_Sh} {sk sv : Nat → Nat} (hi : mv_inj (mg dA D al ext)) (σ : mv_H) (x : Int32) : mv_C l y_StringLatin1_canEncode (Cond.code y_StringLatin1_canEncode b_StringLatin1_canEncode 1 (Option.some Jvm.ClassFile.FieldType.boolean) :: ma) ({ frames := 0, cells := 0, slots := 0, locals := 0 }) (mg dA D al ext) (mK sk sv) [.int x] σ (mv_Ri (fun v σ1 => σ1 = σ ∧ (v = 0 ∨ v = 1))) := by
  refine mv_C.ofV (cc := b_StringLatin1_canEncode) (nL := 1) (ret := (Option.some Jvm.ClassFile.FieldType.boolean)) (by decide +kernel) rfl hi (Nat.le_of_ble_eq_true rfl) ?_
  intro p e s m below meth c B hNs hr hnm hno
  refine mv_iload_n (pc := 0) B d_StringLatin1_canEncode_0 rfl 0 rfl ?_
  refine mv_if_lt (pc := 1) (tgt := 15) B d_StringLatin1_canEncode_1 rfl (fun h1 => ?_) (fun h1 => ?_)
  · skip
    refine mv_iconst (pc := 15) (v := 0) B d_StringLatin1_canEncode_15 (by decide) ?_
    exact mv_iret (pc := 16) B hr rfl d_StringLatin1_canEncode_16 (Nat.le_refl _) (Nat.le_refl _) ⟨_, rfl, rfl, by first | exact Or.inl rfl | exact Or.inr rfl⟩
  · skip
    refine mv_iload_n (pc := 4) B d_StringLatin1_canEncode_4 rfl 0 rfl ?_
    refine mv_sipush (pc := 5) (v := 255) B d_StringLatin1_canEncode_5 (by decide) ?_
    refine mv_icmp_gt (pc := 8) (tgt := 15) B d_StringLatin1_canEncode_8 rfl (fun h8 => ?_) (fun h8 => ?_)
    · skip
      refine mv_iconst (pc := 15) (v := 0) B d_StringLatin1_canEncode_15 (by decide) ?_
      exact mv_iret (pc := 16) B hr rfl d_StringLatin1_canEncode_16 (Nat.le_refl _) (Nat.le_refl _) ⟨_, rfl, rfl, by first | exact Or.inl rfl | exact Or.inr rfl⟩
    · skip
      refine mv_iconst (pc := 11) (v := 1) B d_StringLatin1_canEncode_11 (by decide) ?_
      refine mv_goto (pc := 12) (tgt := 16) B d_StringLatin1_canEncode_12 rfl ?_
      exact mv_iret (pc := 16) B hr rfl d_StringLatin1_canEncode_16 (Nat.le_refl _) (Nat.le_refl _) ⟨_, rfl, rfl, by first | exact Or.inl rfl | exact Or.inr rfl⟩
def y_StringLatin1_indexOfChar : MethodName := ⟨"java/lang/StringLatin1", "indexOfChar", "([BIII)I"⟩
abbrev b_StringLatin1_indexOfChar : ByteArray := prog_31_method_23_code
theorem kc_StringLatin1_indexOfChar : Cond.code y_StringLatin1_indexOfChar b_StringLatin1_indexOfChar 6 (Option.some Jvm.ClassFile.FieldType.int) ∈ ma := ma_of (tb_4 _ (List.mem_of_getElem? (i := 188) rfl)) rfl
theorem d_StringLatin1_indexOfChar_0 : decode b_StringLatin1_indexOfChar 0 = .ok (.iload_n 1, 1) := by decide +kernel
theorem d_StringLatin1_indexOfChar_1 : decode b_StringLatin1_indexOfChar 1 = .ok (.i2b, 1) := by decide +kernel
theorem d_StringLatin1_indexOfChar_2 : decode b_StringLatin1_indexOfChar 2 = .ok (.istore 4, 2) := by decide +kernel
theorem d_StringLatin1_indexOfChar_4 : decode b_StringLatin1_indexOfChar 4 = .ok (.iload_n 2, 1) := by decide +kernel
theorem d_StringLatin1_indexOfChar_5 : decode b_StringLatin1_indexOfChar 5 = .ok (.istore 5, 2) := by decide +kernel
theorem d_StringLatin1_indexOfChar_7 : decode b_StringLatin1_indexOfChar 7 = .ok (.iload 5, 2) := by decide +kernel
theorem d_StringLatin1_indexOfChar_9 : decode b_StringLatin1_indexOfChar 9 = .ok (.iload_n 3, 1) := by decide +kernel
theorem d_StringLatin1_indexOfChar_10 : decode b_StringLatin1_indexOfChar 10 = .ok (.if_icmp .ge (21), 3) := by decide +kernel
theorem d_StringLatin1_indexOfChar_13 : decode b_StringLatin1_indexOfChar 13 = .ok (.aload_n 0, 1) := by decide +kernel
theorem d_StringLatin1_indexOfChar_14 : decode b_StringLatin1_indexOfChar 14 = .ok (.iload 5, 2) := by decide +kernel
theorem d_StringLatin1_indexOfChar_16 : decode b_StringLatin1_indexOfChar 16 = .ok (.baload, 1) := by decide +kernel
theorem d_StringLatin1_indexOfChar_17 : decode b_StringLatin1_indexOfChar 17 = .ok (.iload 4, 2) := by decide +kernel
theorem d_StringLatin1_indexOfChar_19 : decode b_StringLatin1_indexOfChar 19 = .ok (.if_icmp .ne (6), 3) := by decide +kernel
theorem d_StringLatin1_indexOfChar_22 : decode b_StringLatin1_indexOfChar 22 = .ok (.iload 5, 2) := by decide +kernel
theorem d_StringLatin1_indexOfChar_24 : decode b_StringLatin1_indexOfChar 24 = .ok (.ireturn, 1) := by decide +kernel
theorem d_StringLatin1_indexOfChar_25 : decode b_StringLatin1_indexOfChar 25 = .ok (.iinc 5 (1), 3) := by decide +kernel
theorem d_StringLatin1_indexOfChar_28 : decode b_StringLatin1_indexOfChar 28 = .ok (.goto (-21), 3) := by decide +kernel
theorem d_StringLatin1_indexOfChar_31 : decode b_StringLatin1_indexOfChar 31 = .ok (.iconst (-1), 1) := by decide +kernel
theorem d_StringLatin1_indexOfChar_32 : decode b_StringLatin1_indexOfChar 32 = .ok (.ireturn, 1) := by decide +kernel
set_option maxHeartbeats 4000000 in
set_option maxRecDepth 100000 in
theorem c_StringLatin1_indexOfChar (l : Launch) {dA : FieldType → ClassId} {D : va_G} {al : Nat → Nat} {ext : mv_Sh} {sk sv : Nat → Nat} (hi : mv_inj (mg dA D al ext)) (σ : mv_H) (i : Nat) (hi9 : i < st_t.length) (x f e9 : Int32) (g0 : 0 ≤ f.toInt) (g1 : e9.toInt ≤ (st_g i).2.2.2.length) : mv_C l y_StringLatin1_indexOfChar (Cond.code y_StringLatin1_indexOfChar b_StringLatin1_indexOfChar 6 (Option.some Jvm.ClassFile.FieldType.int) :: ma) ({ frames := 0, cells := 0, slots := 0, locals := 0 }) (mg dA D al ext) (mK sk sv) [.ref (sv i), .int x, .int f, .int e9] σ (mv_Ri (fun v σ1 => σ1 = σ ∧ (0 ≤ v.toInt → ∃ j, j < (st_g i).2.2.2.length ∧ (st_g i).2.2.2.getD j 0 = x.toInt8.toInt32))) := by
  refine mv_C.ofV (cc := b_StringLatin1_indexOfChar) (nL := 6) (ret := (Option.some Jvm.ClassFile.FieldType.int)) (by decide +kernel) rfl hi (Nat.le_of_ble_eq_true rfl) ?_
  intro p e s m below meth c B hNs hr hnm hno
  have hl9 := st_len i hi9
  have lp : ∀ (nn : Nat) (j : Int32) (b : Int32) (q0 : 0 ≤ j.toInt) (qb : b = x.toInt8.toInt32), (e9.toInt - j.toInt).toNat < nn → mv_V p l e ({ frames := 0, cells := 0, slots := 0, locals := 0 }) s m ([.ref (sv i), .int x, .int f, .int e9] : List Value).toArray below meth c (mg dA D al ext) 6 0 0 (mv_Q (mg dA D al ext) below s 0 0 (mv_Ri (fun v σ1 => σ1 = σ ∧ (0 ≤ v.toInt → ∃ j, j < (st_g i).2.2.2.length ∧ (st_g i).2.2.2.getD j 0 = x.toInt8.toInt32)))) σ 7 [(5, .int j), (4, .int b), (0, .ref (sv i)), (1, .int x), (2, .int f), (3, .int e9)] [] := by
    intro nn
    induction nn with
    | zero => intro j b q0 qb hm; exact absurd hm (Nat.not_lt_zero _)
    | succ nn ih =>
      intro j b q0 qb hm
      refine mv_iload (pc := 7) B d_StringLatin1_indexOfChar_7 0 rfl ?_
      refine mv_iload_n (pc := 9) B d_StringLatin1_indexOfChar_9 rfl 5 rfl ?_
      refine mv_icmp_ge (pc := 10) (tgt := 31) B d_StringLatin1_indexOfChar_10 rfl (fun h10 => ?_) (fun h10 => ?_)
      · skip
        refine mv_iconst (pc := 31) (v := -1) B d_StringLatin1_indexOfChar_31 (by decide) ?_
        exact mv_iret (pc := 32) B hr rfl d_StringLatin1_indexOfChar_32 (Nat.le_refl _) (Nat.le_refl _) ⟨_, rfl, rfl, fun q => absurd q (by decide)⟩
      · skip
        rw [Int32.le_iff_toInt_le] at h10
        refine mv_aload_n (pc := 13) B d_StringLatin1_indexOfChar_13 rfl 2 rfl ?_
        refine mv_iload (pc := 14) B d_StringLatin1_indexOfChar_14 0 rfl ?_
        refine mv_tb (pc := 16) B (hNs.2.1 i hi9).2.2.2.2 (i32_in q0 (by omega)) d_StringLatin1_indexOfChar_16 ?_
        refine mv_iload (pc := 17) B d_StringLatin1_indexOfChar_17 1 rfl ?_
        refine mv_icmp_ne (pc := 19) (tgt := 25) B d_StringLatin1_indexOfChar_19 rfl (fun h19 => ?_) (fun h19 => ?_)
        · skip
          refine mv_iinc (pc := 25) (j := 0) (v := 1) B d_StringLatin1_indexOfChar_25 rfl (by decide) (by decide) rfl ?_
          refine mv_goto (pc := 28) (tgt := 7) B d_StringLatin1_indexOfChar_28 rfl ?_
          refine mv_lpick [0, 1, 2, 3, 4, 5] rfl ?_
          exact ih _ _ (by rw [i32_inc (by omega)]; omega) qb (by rw [i32_inc (by omega)]; omega)
        · skip
          refine mv_iload (pc := 22) B d_StringLatin1_indexOfChar_22 0 rfl ?_
          exact mv_iret (pc := 24) B hr rfl d_StringLatin1_indexOfChar_24 (Nat.le_refl _) (Nat.le_refl _) ⟨_, rfl, rfl, fun _ => ⟨j.toNatClampNeg, by have := i32_cl q0; omega, by rw [← qb]; exact h19⟩⟩
  refine mv_iload_n (pc := 0) B d_StringLatin1_indexOfChar_0 rfl 1 rfl ?_
  refine mv_i2b (pc := 1) B d_StringLatin1_indexOfChar_1 ?_
  refine mv_istore (pc := 2) B d_StringLatin1_indexOfChar_2 (by decide) rfl ?_
  refine mv_iload_n (pc := 4) B d_StringLatin1_indexOfChar_4 rfl 3 rfl ?_
  refine mv_istore (pc := 5) B d_StringLatin1_indexOfChar_5 (by decide) rfl ?_
  refine mv_lpick [0, 1, 2, 3, 4, 5] rfl ?_
  exact lp _ _ _ g0 rfl (Nat.lt_succ_self _)
def y_StringLatin1_indexOf : MethodName := ⟨"java/lang/StringLatin1", "indexOf", "([BIII)I"⟩
abbrev b_StringLatin1_indexOf : ByteArray := prog_31_method_22_code
theorem kc_StringLatin1_indexOf : Cond.code y_StringLatin1_indexOf b_StringLatin1_indexOf 4 (Option.some Jvm.ClassFile.FieldType.int) ∈ ma := ma_of (tb_4 _ (List.mem_of_getElem? (i := 176) rfl)) rfl
theorem k_897 : (Jvm.Cond.methodLink "java/lang/StringLatin1" (88 : Nat) ({ cls := "java/lang/StringLatin1", name := "canEncode", desc := "(I)Z" } : Jvm.MethodName)) ∈ ma := ma_of (tb_4 _ (List.mem_of_getElem? (i := 177) rfl)) rfl
theorem k_898 : (Jvm.Cond.static ({ cls := "java/lang/StringLatin1", name := "canEncode", desc := "(I)Z" } : Jvm.MethodName)) ∈ ma := ma_of (tb_4 _ (List.mem_of_getElem? (i := 178) rfl)) rfl
theorem k_900 : (Jvm.Cond.methodLink "java/lang/StringLatin1" (92 : Nat) ({ cls := "java/lang/Math", name := "max", desc := "(II)I" } : Jvm.MethodName)) ∈ ma := ma_of (tb_4 _ (List.mem_of_getElem? (i := 180) rfl)) rfl
theorem k_901 : (Jvm.Cond.static ({ cls := "java/lang/Math", name := "max", desc := "(II)I" } : Jvm.MethodName)) ∈ ma := ma_of (tb_4 _ (List.mem_of_getElem? (i := 181) rfl)) rfl
theorem k_26 : (Jvm.Cond.initialized "java/lang/Math") ∈ ma := ma_of (tb_1 _ (List.mem_of_getElem? (i := 26) rfl)) rfl
def y_Math_max : MethodName := ⟨"java/lang/Math", "max", "(II)I"⟩
abbrev b_Math_max : ByteArray := prog_27_method_65_code
theorem kc_Math_max : Cond.code y_Math_max b_Math_max 2 (Option.some Jvm.ClassFile.FieldType.int) ∈ ma := ma_of (tb_4 _ (List.mem_of_getElem? (i := 182) rfl)) rfl
theorem k_903 : (Jvm.Cond.methodLink "java/lang/StringLatin1" (38 : Nat) ({ cls := "java/lang/Math", name := "min", desc := "(II)I" } : Jvm.MethodName)) ∈ ma := ma_of (tb_4 _ (List.mem_of_getElem? (i := 183) rfl)) rfl
theorem k_904 : (Jvm.Cond.static ({ cls := "java/lang/Math", name := "min", desc := "(II)I" } : Jvm.MethodName)) ∈ ma := ma_of (tb_4 _ (List.mem_of_getElem? (i := 184) rfl)) rfl
def y_Math_min : MethodName := ⟨"java/lang/Math", "min", "(II)I"⟩
abbrev b_Math_min : ByteArray := prog_27_method_69_code
theorem kc_Math_min : Cond.code y_Math_min b_Math_min 2 (Option.some Jvm.ClassFile.FieldType.int) ∈ ma := ma_of (tb_4 _ (List.mem_of_getElem? (i := 185) rfl)) rfl
theorem k_906 : (Jvm.Cond.methodLink "java/lang/StringLatin1" (95 : Nat) ({ cls := "java/lang/StringLatin1", name := "indexOfChar", desc := "([BIII)I" } : Jvm.MethodName)) ∈ ma := ma_of (tb_4 _ (List.mem_of_getElem? (i := 186) rfl)) rfl
theorem k_907 : (Jvm.Cond.static ({ cls := "java/lang/StringLatin1", name := "indexOfChar", desc := "([BIII)I" } : Jvm.MethodName)) ∈ ma := ma_of (tb_4 _ (List.mem_of_getElem? (i := 187) rfl)) rfl
theorem d_StringLatin1_indexOf_0 : decode b_StringLatin1_indexOf 0 = .ok (.iload_n 1, 1) := by decide +kernel
theorem d_StringLatin1_indexOf_1 : decode b_StringLatin1_indexOf 1 = .ok (.invokestatic 88, 3) := by decide +kernel
theorem d_StringLatin1_indexOf_4 : decode b_StringLatin1_indexOf 4 = .ok (.ifCond .ne (5), 3) := by decide +kernel
theorem d_StringLatin1_indexOf_7 : decode b_StringLatin1_indexOf 7 = .ok (.iconst (-1), 1) := by decide +kernel
theorem d_StringLatin1_indexOf_8 : decode b_StringLatin1_indexOf 8 = .ok (.ireturn, 1) := by decide +kernel
theorem d_StringLatin1_indexOf_9 : decode b_StringLatin1_indexOf 9 = .ok (.iload_n 2, 1) := by decide +kernel
theorem d_StringLatin1_indexOf_10 : decode b_StringLatin1_indexOf 10 = .ok (.iconst 0, 1) := by decide +kernel
theorem d_StringLatin1_indexOf_11 : decode b_StringLatin1_indexOf 11 = .ok (.invokestatic 92, 3) := by decide +kernel
theorem d_StringLatin1_indexOf_14 : decode b_StringLatin1_indexOf 14 = .ok (.istore_n 2, 1) := by decide +kernel
theorem d_StringLatin1_indexOf_15 : decode b_StringLatin1_indexOf 15 = .ok (.iload_n 3, 1) := by decide +kernel
theorem d_StringLatin1_indexOf_16 : decode b_StringLatin1_indexOf 16 = .ok (.aload_n 0, 1) := by decide +kernel
theorem d_StringLatin1_indexOf_17 : decode b_StringLatin1_indexOf 17 = .ok (.arraylength, 1) := by decide +kernel
theorem d_StringLatin1_indexOf_18 : decode b_StringLatin1_indexOf 18 = .ok (.invokestatic 38, 3) := by decide +kernel
theorem d_StringLatin1_indexOf_21 : decode b_StringLatin1_indexOf 21 = .ok (.istore_n 3, 1) := by decide +kernel
theorem d_StringLatin1_indexOf_22 : decode b_StringLatin1_indexOf 22 = .ok (.iload_n 2, 1) := by decide +kernel
theorem d_StringLatin1_indexOf_23 : decode b_StringLatin1_indexOf 23 = .ok (.iload_n 3, 1) := by decide +kernel
theorem d_StringLatin1_indexOf_24 : decode b_StringLatin1_indexOf 24 = .ok (.if_icmp .lt (5), 3) := by decide +kernel
theorem d_StringLatin1_indexOf_27 : decode b_StringLatin1_indexOf 27 = .ok (.iconst (-1), 1) := by decide +kernel
theorem d_StringLatin1_indexOf_28 : decode b_StringLatin1_indexOf 28 = .ok (.ireturn, 1) := by decide +kernel
theorem d_StringLatin1_indexOf_29 : decode b_StringLatin1_indexOf 29 = .ok (.aload_n 0, 1) := by decide +kernel
theorem d_StringLatin1_indexOf_30 : decode b_StringLatin1_indexOf 30 = .ok (.iload_n 1, 1) := by decide +kernel
theorem d_StringLatin1_indexOf_31 : decode b_StringLatin1_indexOf 31 = .ok (.iload_n 2, 1) := by decide +kernel
theorem d_StringLatin1_indexOf_32 : decode b_StringLatin1_indexOf 32 = .ok (.iload_n 3, 1) := by decide +kernel
theorem d_StringLatin1_indexOf_33 : decode b_StringLatin1_indexOf 33 = .ok (.invokestatic 95, 3) := by decide +kernel
theorem d_StringLatin1_indexOf_36 : decode b_StringLatin1_indexOf 36 = .ok (.ireturn, 1) := by decide +kernel
set_option maxHeartbeats 4000000 in
set_option maxRecDepth 100000 in
theorem c_StringLatin1_indexOf (l : Launch) {dA : FieldType → ClassId} {D : va_G} {al : Nat → Nat} {ext : mv_Sh} {sk sv : Nat → Nat} (hi : mv_inj (mg dA D al ext)) (σ : mv_H) (i : Nat) (hi9 : i < st_t.length) (x f e9 : Int32) (g0 : 0 ≤ f.toInt) : mv_C l y_StringLatin1_indexOf (Cond.code y_StringLatin1_indexOf b_StringLatin1_indexOf 4 (Option.some Jvm.ClassFile.FieldType.int) :: ma) ({ frames := 1, cells := 0, slots := 0, locals := 40 }) (mg dA D al ext) (mK sk sv) [.ref (sv i), .int x, .int f, .int e9] σ (mv_Ri (fun v σ1 => σ1 = σ ∧ (0 ≤ v.toInt → ∃ j, j < (st_g i).2.2.2.length ∧ (st_g i).2.2.2.getD j 0 = x.toInt8.toInt32))) := by
  refine mv_C.ofV (cc := b_StringLatin1_indexOf) (nL := 4) (ret := (Option.some Jvm.ClassFile.FieldType.int)) (by decide +kernel) rfl hi (Nat.le_of_ble_eq_true rfl) ?_
  intro p e s m below meth c B hNs hr hnm hno
  refine mv_iload_n (pc := 0) B d_StringLatin1_indexOf_0 rfl 1 rfl ?_
  refine mv_callSi (pc := 1) (n := 1) B (mK_ok sk sv) hNs (c_StringLatin1_canEncode l hi _ _) rfl (ma_goodc kc_StringLatin1_canEncode) (B.2.2.2.1 _ k_897) (B.2.2.2.1 _ k_898) (B.2.2.2.1 _ k_22) ⟨by decide +kernel, by decide +kernel, by decide +kernel⟩ rfl d_StringLatin1_indexOf_1 rfl (Nat.le_of_ble_eq_true rfl) ⟨by decide, by decide⟩ ⟨by decide, by decide⟩ ⟨by decide, by decide⟩ (mv_noH hno _) (fun v1 σ1 h1 => ?_)
  obtain ⟨rfl, -⟩ := h1
  refine mv_if_ne (pc := 4) (tgt := 9) B d_StringLatin1_indexOf_4 rfl (fun h4 => ?_) (fun h4 => ?_)
  · skip
    refine mv_iload_n (pc := 9) B d_StringLatin1_indexOf_9 rfl 2 rfl ?_
    refine mv_iconst (pc := 10) (v := 0) B d_StringLatin1_indexOf_10 (by decide) ?_
    refine mv_mmax (pc := 11) B (B.2.2.2.1 _ k_900) (B.2.2.2.1 _ k_901) (B.2.2.2.1 _ k_26) (B.2.2.2.1 _ kc_Math_max) (by decide) (by decide) (by decide) (by decide) d_StringLatin1_indexOf_11 ?_
    refine mv_istore_n (pc := 14) B d_StringLatin1_indexOf_14 rfl (by decide) rfl ?_
    refine mv_iload_n (pc := 15) B d_StringLatin1_indexOf_15 rfl 3 rfl ?_
    refine mv_aload_n (pc := 16) B d_StringLatin1_indexOf_16 rfl 1 rfl ?_
    refine mv_tlen (pc := 17) B (hNs.2.1 i hi9).2.2.2.2 rfl d_StringLatin1_indexOf_17 ?_
    refine mv_mmin (pc := 18) B (B.2.2.2.1 _ k_903) (B.2.2.2.1 _ k_904) (B.2.2.2.1 _ k_26) (B.2.2.2.1 _ kc_Math_min) (by decide) (by decide) (by decide) (by decide) d_StringLatin1_indexOf_18 ?_
    refine mv_istore_n (pc := 21) B d_StringLatin1_indexOf_21 rfl (by decide) rfl ?_
    refine mv_iload_n (pc := 22) B d_StringLatin1_indexOf_22 rfl 1 rfl ?_
    refine mv_iload_n (pc := 23) B d_StringLatin1_indexOf_23 rfl 0 rfl ?_
    refine mv_icmp_lt (pc := 24) (tgt := 29) B d_StringLatin1_indexOf_24 rfl (fun h24 => ?_) (fun h24 => ?_)
    · skip
      have ga : 0 ≤ (if f < 0 then (0 : Int32) else f).toInt := by rw [if_neg (ltc g0)]; exact g0
      have gb : (if Int32.ofNat (st_g i).2.2.2.length < e9 then Int32.ofNat (st_g i).2.2.2.length else e9).toInt ≤ (st_g i).2.2.2.length := by have q := st_toInt hi9; split; exact Int.le_of_eq q; have q2 := Int32.not_lt.mp ‹_›; rw [Int32.le_iff_toInt_le, q] at q2; exact q2
      refine mv_aload_n (pc := 29) B d_StringLatin1_indexOf_29 rfl 2 rfl ?_
      refine mv_iload_n (pc := 30) B d_StringLatin1_indexOf_30 rfl 3 rfl ?_
      refine mv_iload_n (pc := 31) B d_StringLatin1_indexOf_31 rfl 1 rfl ?_
      refine mv_iload_n (pc := 32) B d_StringLatin1_indexOf_32 rfl 0 rfl ?_
      refine mv_callSi (pc := 33) (n := 4) B (mK_ok sk sv) hNs (c_StringLatin1_indexOfChar l hi _ i hi9 _ _ _ ga gb) rfl (ma_goodc kc_StringLatin1_indexOfChar) (B.2.2.2.1 _ k_906) (B.2.2.2.1 _ k_907) (B.2.2.2.1 _ k_22) ⟨by decide +kernel, by decide +kernel, by decide +kernel⟩ rfl d_StringLatin1_indexOf_33 rfl (Nat.le_of_ble_eq_true rfl) ⟨by decide, by decide⟩ ⟨by decide, by decide⟩ ⟨by decide, by decide⟩ (mv_noH hno _) (fun v33 σ33 h33 => ?_)
      exact mv_iret (pc := 36) B hr rfl d_StringLatin1_indexOf_36 (Nat.le_refl _) (Nat.le_refl _) ⟨_, rfl, h33⟩
    · skip
      refine mv_iconst (pc := 27) (v := -1) B d_StringLatin1_indexOf_27 (by decide) ?_
      exact mv_iret (pc := 28) B hr rfl d_StringLatin1_indexOf_28 (Nat.le_refl _) (Nat.le_refl _) ⟨_, rfl, rfl, fun q => absurd q (by decide)⟩
  · skip
    refine mv_iconst (pc := 7) (v := -1) B d_StringLatin1_indexOf_7 (by decide) ?_
    exact mv_iret (pc := 8) B hr rfl d_StringLatin1_indexOf_8 (Nat.le_refl _) (Nat.le_refl _) ⟨_, rfl, rfl, fun q => absurd q (by decide)⟩
def y_String_indexOf_1 : MethodName := ⟨"java/lang/String", "indexOf", "(II)I"⟩
abbrev b_String_indexOf_1 : ByteArray := prog_29_method_80_code
theorem kc_String_indexOf_1 : Cond.code y_String_indexOf_1 b_String_indexOf_1 3 (Option.some Jvm.ClassFile.FieldType.int) ∈ ma := ma_of (tb_4 _ (List.mem_of_getElem? (i := 172) rfl)) rfl
theorem k_893 : (Jvm.Cond.methodLink "java/lang/String" (505 : Nat) ({ cls := "java/lang/String", name := "length", desc := "()I" } : Jvm.MethodName)) ∈ ma := ma_of (tb_4 _ (List.mem_of_getElem? (i := 173) rfl)) rfl
theorem k_546 : (Jvm.Cond.instanceMethod ({ cls := "java/lang/String", name := "length", desc := "()I" } : Jvm.MethodName)) ∈ ma := ma_of (tb_3 _ (List.mem_of_getElem? (i := 66) rfl)) rfl
theorem k_547 : (Jvm.Cond.selects "java/lang/String" ({ cls := "java/lang/String", name := "length", desc := "()I" } : Jvm.MethodName) ({ cls := "java/lang/String", name := "length", desc := "()I" } : Jvm.MethodName)) ∈ ma := ma_of (tb_3 _ (List.mem_of_getElem? (i := 67) rfl)) rfl
theorem k_894 : (Jvm.Cond.methodLink "java/lang/String" (637 : Nat) ({ cls := "java/lang/StringLatin1", name := "indexOf", desc := "([BIII)I" } : Jvm.MethodName)) ∈ ma := ma_of (tb_4 _ (List.mem_of_getElem? (i := 174) rfl)) rfl
theorem k_895 : (Jvm.Cond.static ({ cls := "java/lang/StringLatin1", name := "indexOf", desc := "([BIII)I" } : Jvm.MethodName)) ∈ ma := ma_of (tb_4 _ (List.mem_of_getElem? (i := 175) rfl)) rfl
theorem d_String_indexOf_1_0 : decode b_String_indexOf_1 0 = .ok (.aload_n 0, 1) := by decide +kernel
theorem d_String_indexOf_1_1 : decode b_String_indexOf_1 1 = .ok (.invokevirtual 492, 3) := by decide +kernel
theorem d_String_indexOf_1_4 : decode b_String_indexOf_1 4 = .ok (.ifCond .eq (19), 3) := by decide +kernel
theorem d_String_indexOf_1_7 : decode b_String_indexOf_1 7 = .ok (.aload_n 0, 1) := by decide +kernel
theorem d_String_indexOf_1_8 : decode b_String_indexOf_1 8 = .ok (.getfield 9, 3) := by decide +kernel
theorem d_String_indexOf_1_11 : decode b_String_indexOf_1 11 = .ok (.iload_n 1, 1) := by decide +kernel
theorem d_String_indexOf_1_12 : decode b_String_indexOf_1 12 = .ok (.iload_n 2, 1) := by decide +kernel
theorem d_String_indexOf_1_13 : decode b_String_indexOf_1 13 = .ok (.aload_n 0, 1) := by decide +kernel
theorem d_String_indexOf_1_14 : decode b_String_indexOf_1 14 = .ok (.invokevirtual 505, 3) := by decide +kernel
theorem d_String_indexOf_1_17 : decode b_String_indexOf_1 17 = .ok (.invokestatic 637, 3) := by decide +kernel
theorem d_String_indexOf_1_20 : decode b_String_indexOf_1 20 = .ok (.goto (16), 3) := by decide +kernel
theorem d_String_indexOf_1_36 : decode b_String_indexOf_1 36 = .ok (.ireturn, 1) := by decide +kernel
set_option maxHeartbeats 4000000 in
set_option maxRecDepth 100000 in
theorem c_String_indexOf_1 (l : Launch) {dA : FieldType → ClassId} {D : va_G} {al : Nat → Nat} {ext : mv_Sh} {sk sv : Nat → Nat} (hi : mv_inj (mg dA D al ext)) (σ : mv_H) (i : Nat) (hi9 : i < st_t.length) (x f : Int32) (g0 : 0 ≤ f.toInt) : mv_C l y_String_indexOf_1 (Cond.code y_String_indexOf_1 b_String_indexOf_1 3 (Option.some Jvm.ClassFile.FieldType.int) :: ma) ({ frames := 2, cells := 0, slots := 0, locals := 63 }) (mg dA D al ext) (mK sk sv) [.ref (sk i), .int x, .int f] σ (mv_Ri (fun v σ1 => σ1 = σ ∧ (0 ≤ v.toInt → ∃ j, j < (st_g i).2.2.2.length ∧ (st_g i).2.2.2.getD j 0 = x.toInt8.toInt32))) := by
  refine mv_C.ofV (cc := b_String_indexOf_1) (nL := 3) (ret := (Option.some Jvm.ClassFile.FieldType.int)) (by decide +kernel) rfl hi (Nat.le_of_ble_eq_true rfl) ?_
  intro p e s m below meth c B hNs hr hnm hno
  refine mv_aload_n (pc := 0) B d_String_indexOf_1_0 rfl 0 rfl ?_
  refine mv_callVOi (pc := 1) (n := 0) B (mK_ok sk sv) hNs (hNs.2.1 i hi9).2.1 (c_String_isLatin1 l hi _ i hi9) rfl (ma_goodc kc_String_isLatin1) (B.2.2.2.1 _ k_559) (B.2.2.2.1 _ k_560) (B.2.2.2.1 _ k_561) (B.2.2.2.1 _ k_21) ⟨by decide +kernel, by decide +kernel, by decide +kernel⟩ rfl d_String_indexOf_1_1 rfl (Nat.le_of_ble_eq_true rfl) ⟨by decide, by decide⟩ ⟨by decide, by decide⟩ ⟨by decide, by decide⟩ (mv_noH hno _) (fun v1 σ1 h1 => ?_)
  obtain ⟨rfl, rfl⟩ := h1
  refine mv_if_eq (pc := 4) (tgt := 23) B d_String_indexOf_1_4 rfl (fun h4 => ?_) (fun h4 => ?_)
  · skip
    exact absurd h4 (by decide)
  · skip
    refine mv_aload_n (pc := 7) B d_String_indexOf_1_7 rfl 0 rfl ?_
    refine mv_getO (pc := 8) B (hNs.2.1 i hi9).2.2.2.1 (B.2.2.2.1 _ k_1214) d_String_indexOf_1_8 ?_
    refine mv_iload_n (pc := 11) B d_String_indexOf_1_11 rfl 1 rfl ?_
    refine mv_iload_n (pc := 12) B d_String_indexOf_1_12 rfl 2 rfl ?_
    refine mv_aload_n (pc := 13) B d_String_indexOf_1_13 rfl 0 rfl ?_
    refine mv_callVOi (pc := 14) (n := 0) B (mK_ok sk sv) hNs (hNs.2.1 i hi9).2.1 (c_String_length l hi _ i hi9) rfl (ma_goodc kc_String_length) (B.2.2.2.1 _ k_893) (B.2.2.2.1 _ k_546) (B.2.2.2.1 _ k_547) (B.2.2.2.1 _ k_21) ⟨by decide +kernel, by decide +kernel, by decide +kernel⟩ rfl d_String_indexOf_1_14 rfl (Nat.le_of_ble_eq_true rfl) ⟨by decide, by decide⟩ ⟨by decide, by decide⟩ ⟨by decide, by decide⟩ (mv_noH hno _) (fun v14 σ14 h14 => ?_)
    obtain ⟨rfl, -⟩ := h14
    refine mv_callSi (pc := 17) (n := 4) B (mK_ok sk sv) hNs (c_StringLatin1_indexOf l hi _ i hi9 _ _ _ g0) rfl (ma_goodc kc_StringLatin1_indexOf) (B.2.2.2.1 _ k_894) (B.2.2.2.1 _ k_895) (B.2.2.2.1 _ k_22) ⟨by decide +kernel, by decide +kernel, by decide +kernel⟩ rfl d_String_indexOf_1_17 rfl (Nat.le_of_ble_eq_true rfl) ⟨by decide, by decide⟩ ⟨by decide, by decide⟩ ⟨by decide, by decide⟩ (mv_noH hno _) (fun v17 σ17 h17 => ?_)
    refine mv_goto (pc := 20) (tgt := 36) B d_String_indexOf_1_20 rfl ?_
    exact mv_iret (pc := 36) B hr rfl d_String_indexOf_1_36 (Nat.le_refl _) (Nat.le_refl _) ⟨_, rfl, h17⟩
def y_String_indexOf_0 : MethodName := ⟨"java/lang/String", "indexOf", "(I)I"⟩
abbrev b_String_indexOf_0 : ByteArray := prog_29_method_79_code
theorem kc_String_indexOf_0 : Cond.code y_String_indexOf_0 b_String_indexOf_0 2 (Option.some Jvm.ClassFile.FieldType.int) ∈ ma := ma_of (tb_4 _ (List.mem_of_getElem? (i := 168) rfl)) rfl
theorem k_889 : (Jvm.Cond.methodLink "java/lang/String" (633 : Nat) ({ cls := "java/lang/String", name := "indexOf", desc := "(II)I" } : Jvm.MethodName)) ∈ ma := ma_of (tb_4 _ (List.mem_of_getElem? (i := 169) rfl)) rfl
theorem k_890 : (Jvm.Cond.instanceMethod ({ cls := "java/lang/String", name := "indexOf", desc := "(II)I" } : Jvm.MethodName)) ∈ ma := ma_of (tb_4 _ (List.mem_of_getElem? (i := 170) rfl)) rfl
theorem k_891 : (Jvm.Cond.selects "java/lang/String" ({ cls := "java/lang/String", name := "indexOf", desc := "(II)I" } : Jvm.MethodName) ({ cls := "java/lang/String", name := "indexOf", desc := "(II)I" } : Jvm.MethodName)) ∈ ma := ma_of (tb_4 _ (List.mem_of_getElem? (i := 171) rfl)) rfl
theorem d_String_indexOf_0_0 : decode b_String_indexOf_0 0 = .ok (.aload_n 0, 1) := by decide +kernel
theorem d_String_indexOf_0_1 : decode b_String_indexOf_0 1 = .ok (.iload_n 1, 1) := by decide +kernel
theorem d_String_indexOf_0_2 : decode b_String_indexOf_0 2 = .ok (.iconst 0, 1) := by decide +kernel
theorem d_String_indexOf_0_3 : decode b_String_indexOf_0 3 = .ok (.invokevirtual 633, 3) := by decide +kernel
theorem d_String_indexOf_0_6 : decode b_String_indexOf_0 6 = .ok (.ireturn, 1) := by decide +kernel
set_option maxHeartbeats 4000000 in
set_option maxRecDepth 100000 in
theorem c_String_indexOf_0 (l : Launch) {dA : FieldType → ClassId} {D : va_G} {al : Nat → Nat} {ext : mv_Sh} {sk sv : Nat → Nat} (hi : mv_inj (mg dA D al ext)) (σ : mv_H) (i : Nat) (hi9 : i < st_t.length) (x : Int32) : mv_C l y_String_indexOf_0 (Cond.code y_String_indexOf_0 b_String_indexOf_0 2 (Option.some Jvm.ClassFile.FieldType.int) :: ma) ({ frames := 3, cells := 0, slots := 0, locals := 85 }) (mg dA D al ext) (mK sk sv) [.ref (sk i), .int x] σ (mv_Ri (fun v σ1 => σ1 = σ ∧ (0 ≤ v.toInt → ∃ j, j < (st_g i).2.2.2.length ∧ (st_g i).2.2.2.getD j 0 = x.toInt8.toInt32))) := by
  refine mv_C.ofV (cc := b_String_indexOf_0) (nL := 2) (ret := (Option.some Jvm.ClassFile.FieldType.int)) (by decide +kernel) rfl hi (Nat.le_of_ble_eq_true rfl) ?_
  intro p e s m below meth c B hNs hr hnm hno
  refine mv_aload_n (pc := 0) B d_String_indexOf_0_0 rfl 0 rfl ?_
  refine mv_iload_n (pc := 1) B d_String_indexOf_0_1 rfl 1 rfl ?_
  refine mv_iconst (pc := 2) (v := 0) B d_String_indexOf_0_2 (by decide) ?_
  refine mv_callVOi (pc := 3) (n := 2) B (mK_ok sk sv) hNs (hNs.2.1 i hi9).2.1 (c_String_indexOf_1 l hi _ i hi9 _ _ (by decide)) rfl (ma_goodc kc_String_indexOf_1) (B.2.2.2.1 _ k_889) (B.2.2.2.1 _ k_890) (B.2.2.2.1 _ k_891) (B.2.2.2.1 _ k_21) ⟨by decide +kernel, by decide +kernel, by decide +kernel⟩ rfl d_String_indexOf_0_3 rfl (Nat.le_of_ble_eq_true rfl) ⟨by decide, by decide⟩ ⟨by decide, by decide⟩ ⟨by decide, by decide⟩ (mv_noH hno _) (fun v3 σ3 h3 => ?_)
  exact mv_iret (pc := 6) B hr rfl d_String_indexOf_0_6 (Nat.le_refl _) (Nat.le_refl _) ⟨_, rfl, h3⟩
