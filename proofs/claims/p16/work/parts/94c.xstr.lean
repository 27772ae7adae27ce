/-! the String constants as naturals; their members, exactly -/
def xslt : List Nat := [76, 3, 32, 17, 0, 4, 2, 5, 32, 22, 3, 32, 97, 4, 32, 99, 3, 3, 12, 17, 12, 3, 85, 3, 3, 12, 3, 3, 15, 3, 3, 16, 4, 3, 11, 4, 3, 12, 2, 12, 17, 12, 33, 3, 2, 27, 2, 3, 45, 3, 12, 3, 27, 2, 17, 12, 49, 2, 25, 2, 79, 4, 16, 12, 7, 4, 28, 5, 3, 24, 4, 16, 3, 16, 4, 16, 4, 7, 9, 3, 10, 4, 9, 4, 7, 12, 3, 11, 10, 3, 11, 3, 17, 4, 23, 4, 19, 3, 11, 3, 17, 4, 20, 2, 11, 3, 11, 5, 32, 5, 32, 7, 6, 32, 7, 3, 7, 11, 4, 36, 6, 36, 5, 36, 3, 16, 4, 11, 3, 16, 4, 11, 74, 23, 10, 12, 1, 3, 26, 4, 3, 75, 4, 4, 5, 4, 2, 3, 2, 2, 3, 4, 4, 3, 4, 2, 4, 2, 4, 16, 16]
def xstt : List Nat := [0x3b6d206d6f7266206370206863746566203b5d38363732335b38203a6d20656c6966203b6f72657a205d32335b3233203a7820656c6966203b3233203a637020676572203b32332073746962, 0x69756c, 0x3131313031313064646464646969696969696969696969696969696969696969, 0x3b7d30273231202c697b203d205d645b78, 0x0, 0x20706f20, 0x7d20, 0x6370697561, 0x3131313031303064646464646969696969696969696969696969696969696969, 0x3b7d30273231202c697b202b206370203d205d645b78, 0x6c616a, 0x3131313130313164646464646565656565656565636262626262626262626261, 0x3b6f74203d206370203b34273233202b206370203d205d645b78207d203b312070617274207b20302732203d21205d303a315b6f74206669203b293233202c7d302731202c62202c63202c65202c617b287873202b206370203d206f742074656c, 0x726c616a, 0x3131313030313164646464643030307373737373696969696969696969696969, 0x3b6f74203d206370203b34273233202b206370203d205d645b78207d203b312070617274207b20302732203d21205d303a315b6f74206669203b65666666666666667830273233202620293233202c69287873202b205d735b78203d206f742074656c, 0x716562, 0x303030, 0x5d745b78203d3d205d735b78, 0x7373737373747474747462626262626261, 0x313130303031316563636363, 0x206669, 0x7d207d203b6f74203d206370207d203b312070617274207b20302732203d21205d303a315b6f74206669203b293233202c7d302731202c63202c62202c65202c617b287873202b206370203d206f742074656c207b, 0x656e62, 0x313030, 0x5d745b78203d21205d735b78, 0x746c62, 0x303031, 0x295d745b78202c5d735b7828746c73, 0x656762, 0x313031, 0x295d745b78202c5d735b7828746c7321, 0x75746c62, 0x303131, 0x5d745b78203c205d735b78, 0x75656762, 0x313131, 0x5d735b78203d3c205d745b78, 0x626c, 0x293233202c5d705b6d287873, 0x7373737373696969696969696969696969, 0x313130303030306464646464, 0x203d205d645b78203b293233202c69287873202b205d735b78203d20702074656c, 0x7d203b, 0x686c, 0x293233202c7d5d705b6d202c5d31273233202b20705b6d7b287873, 0x776c, 0x303130, 0x7d5d705b6d202c5d31273233202b20705b6d202c5d32273233202b20705b6d202c5d33273233202b20705b6d7b, 0x75626c, 0x293233202c5d705b6d28787a, 0x75686c, 0x293233202c7d5d705b6d202c5d31273233202b20705b6d7b28787a, 0x6273, 0x7373737373747474747469696969696969, 0x313130303031306a6a6a6a6a, 0x203b5d303a375b5d745b78203d205d705b6d203b293233202c7d6a202c697b287873202b205d735b78203d20702074656c, 0x6873, 0x3b5d383a35315b5d745b78203d205d31273233202b20705b6d, 0x7773, 0x3b5d34323a31335b5d745b78203d205d33273233202b20705b6d203b5d36313a33325b5d745b78203d205d32273233202b20705b6d203b5d383a35315b5d745b78203d205d31273233202b20705b6d, 0x69646461, 0x293233202c69287873202b205d735b78, 0x313130303130306464646464, 0x203d205d645b78, 0x69746c73, 0x293233202c29293233202c69287873202c5d735b7828746c7328787a, 0x7569746c73, 0x313130, 0x293233202c293233202c69287873203c205d735b7828787a, 0x69726f78, 0x293233202c69287873205e205d735b78, 0x69726f, 0x293233202c69287873207c205d735b78, 0x69646e61, 0x293233202c692878732026205d735b78, 0x696c6c73, 0x30303030303030, 0x68203c3c205d735b78, 0x20706f, 0x73737373736868686868, 0x696c7273, 0x68203e3e205d735b78, 0x69617273, 0x30303030303130, 0x2968202c5d735b7828617273, 0x646461, 0x5d745b78202b205d735b78, 0x73737373737474747474, 0x627573, 0x5d745b78202d205d735b78, 0x6c6c73, 0x5d303a345b5d745b78203c3c205d735b78, 0x5f746c73, 0x293233202c295d745b78202c5d735b7828746c7328787a, 0x75746c73, 0x293233202c5d745b78203c205d735b7828787a, 0x726f78, 0x5d745b78205e205d735b78, 0x6c7273, 0x5d303a345b5d745b78203e3e205d735b78, 0x5f617273, 0x295d303a345b5d745b78202c5d735b7828617273, 0x726f, 0x5d745b78207c205d735b78, 0x646e61, 0x5d745b782026205d735b78, 0x65636e6566, 0x313131313030302e2e2e2e2e3030302e2e2e2e2e2e2e2e2e2e2e2e2e2e2e2e2e, 0x6c6c616365, 0x3131303031313130303030303030303030303030303030303030303030303030, 0x3b382070617274, 0x6b6165726265, 0x3131303031313130303030303030303030303030313030303030303030303030, 0x3b332070617274, 0x6c756d, 0x31303030303030, 0x5d745b78202a205d735b78, 0x686c756d, 0x5d32333a33365b29293436202c5d745b78287873202a20293436202c5d735b7828787328, 0x7573686c756d, 0x5d32333a33365b29293436202c5d745b7828787a202a20293436202c5d735b7828787328, 0x75686c756d, 0x5d32333a33365b29293436202c5d745b7828787a202a20293436202c5d735b7828787a28, 0x766964, 0x295d745b78202c5d735b782876696473, 0x75766964, 0x5d745b78202f205d735b78, 0x6d6572, 0x295d745b78202c5d735b78286d657273, 0x756d6572, 0x5d745b782025205d735b78, 0x20617273206d657273207669647320746c7320787a2078732065736c6520666920706172742074656c20706f206d6f7266206863746566206f72657a20656c6966206765722073746962, 0x3c213d7e5e7c26252f2a2d2b273f2c3a3b5d5b29287d7b, 0x287865646e496d6f7266, 0x287865646e496f74203e2029, 0x29, 0x203e20, 0x203a65676e617220666f2074756f207865646e69207961727241, 0x73746962, 0x676572, 0x20617273206d657273207669647320746c7320787a2078732065736c6520666920706172742074656c20706f206d6f7266206863746566206f72657a20656c696620676572207374696220, 0x6f72657a, 0x656c6966, 0x6863746566, 0x6d6f7266, 0x706f, 0x74656c, 0x7873, 0x787a, 0x746c73, 0x76696473, 0x6d657273, 0x617273, 0x70617274, 0x6669, 0x65736c65, 0x2220, 0x207b2022, 0x207b2022313130303130306464646464, 0x207b2022313130303131306464646464]
def xsl (i : Nat) : Nat := xslt.getD i 0
def xsc (i j : Nat) : Nat := (xstt.getD i 0 >>> (8 * j)) % 256
theorem xst_ok : ∀ i, i < st_t.length → (st_g i).2.2.2.length = xsl i ∧ ∀ j, j < xsl i → (st_g i).2.2.2.getD j 0 &&& 255 = nI (xsc i j) := by decide +kernel
theorem cx_String_length (l : Launch) {dA : FieldType → ClassId} {D : va_G} {al : Nat → Nat} {ext : mv_Sh} {sk sv : Nat → Nat} (hi : mv_inj (mg dA D al ext)) (σ : mv_H) (i : Nat) (hi9 : i < st_t.length) : mv_C l y_String_length (Cond.code y_String_length b_String_length 1 (Option.some Jvm.ClassFile.FieldType.int) :: ma) ({ frames := 1, cells := 0, slots := 0, locals := 20 }) (mg dA D al ext) (mK sk sv) [.ref (sk i)] σ (mv_Ri (fun v σ1 => v = nI (xsl i) ∧ σ1 = σ)) :=
  (c_String_length l hi σ i hi9).imp (fun r τ q => by
    obtain ⟨v, e1, e2, e3⟩ := q
    refine ⟨v, e1, Int32.toInt_inj.mp ?_, e2⟩
    have h1 := st_len i hi9
    rw [(xst_ok i hi9).1] at e3 h1
    exact e3.trans (nI_toInt h1).symm)
theorem cx_String_charAt (l : Launch) {dA : FieldType → ClassId} {D : va_G} {al : Nat → Nat} {ext : mv_Sh} {sk sv : Nat → Nat} (hi : mv_inj (mg dA D al ext)) (σ : mv_H) (i : Nat) (hi9 : i < st_t.length) {k : Nat} (q : k < xsl i) : mv_C l y_String_charAt (Cond.code y_String_charAt b_String_charAt 2 (Option.some Jvm.ClassFile.FieldType.char) :: ma) ({ frames := 3, cells := 0, slots := 0, locals := 64 }) (mg dA D al ext) (mK sk sv) [.ref (sk i), .int (nI k)] σ (mv_Ri (fun v σ1 => v = nI (xsc i k) ∧ σ1 = σ)) := by
  have h1 := st_len i hi9
  have h2 := (xst_ok i hi9).1
  have h3 : (nI k).toInt = k := nI_toInt (by omega)
  refine (c_String_charAt l hi σ i hi9 (nI k) (by omega) (by omega)).imp (fun r τ q2 => ?_)
  obtain ⟨v, e1, e2, e3⟩ := q2
  rw [xcl (by omega), (xst_ok i hi9).2 k q] at e3
  exact ⟨v, e1, e3, e2⟩
def xsg : List Nat := [123, 125, 40, 41, 91, 93, 59, 58, 44, 63, 39, 43, 45, 42, 47, 37, 38, 124, 94, 126, 61, 33, 60]
def xfind : List Nat → Nat → Nat → Nat
  | [], _, _ => 4294967295
  | y :: r, x, j => bif Nat.beq y x then j else xfind r x (j + 1)
def xix (x : Nat) : Nat := xfind xsg x 0
theorem xsg_ok : ∀ x, x < 256 → ∀ j, j < 23 → ((st_g 133).2.2.2.getD j 0 = (nI x).toInt8.toInt32 ↔ xsg.getD j 999 = x) := by decide +kernel
theorem xfind_1 : ∀ (r : List Nat) (x j k : Nat), k < r.length → r.getD k 999 = x → (∀ i, i < k → ¬ r.getD i 999 = x) → xfind r x j = j + k := by
  intro r
  induction r with
  | nil => intro x j k h; exact absurd h (Nat.not_lt_zero _)
  | cons y r ih =>
    intro x j k h1 h2 h3
    cases k with
    | zero =>
      have e : y = x := h2
      show (bif Nat.beq y x then j else _) = j + 0
      rw [e, Nat.beq_refl]
      rfl
    | succ k =>
      have e : Nat.beq y x = false := by
        cases q : Nat.beq y x
        · rfl
        · exact absurd (Nat.eq_of_beq_eq_true q) (h3 0 (by omega))
      show (bif Nat.beq y x then j else xfind r x (j + 1)) = _
      rw [e]
      show xfind r x (j + 1) = _
      rw [ih x (j + 1) k (by have : (y :: r).length = r.length + 1 := rfl; omega) h2 (fun i hi => h3 (i + 1) (by omega))]
      omega
theorem xfind_2 : ∀ (r : List Nat) (x j : Nat), (∀ i, i < r.length → ¬ r.getD i 999 = x) → xfind r x j = 4294967295 := by
  intro r
  induction r with
  | nil => intro x j h; rfl
  | cons y r ih =>
    intro x j h3
    have hl : (y :: r).length = r.length + 1 := rfl
    have e : Nat.beq y x = false := by
      cases q : Nat.beq y x
      · rfl
      · exact absurd (Nat.eq_of_beq_eq_true q) (h3 0 (by omega))
    show (bif Nat.beq y x then j else xfind r x (j + 1)) = _
    rw [e]
    exact ih x (j + 1) (fun i hi => h3 (i + 1) (by omega))
def PX (x v : Int32) : Prop := (∃ j : Nat, j < 23 ∧ v.toInt = j ∧ (st_g 133).2.2.2.getD j 0 = x.toInt8.toInt32 ∧ ∀ k, k < j → ¬ (st_g 133).2.2.2.getD k 0 = x.toInt8.toInt32) ∨ (v = -1 ∧ ∀ k, k < 23 → ¬ (st_g 133).2.2.2.getD k 0 = x.toInt8.toInt32)
theorem PX_ok {x : Nat} {v : Int32} (q : x < 256) (h : PX (nI x) v) : v = nI (xix x) := by
  rcases h with ⟨j, h1, h2, h3, h4⟩ | ⟨h1, h2⟩
  · have e : xix x = 0 + j := xfind_1 xsg x 0 j h1 ((xsg_ok x q j h1).mp h3) (fun i hi z => h4 i hi ((xsg_ok x q i (by omega)).mpr z))
    rw [e, Nat.zero_add]
    exact Int32.toInt_inj.mp (h2.trans (nI_toInt (by omega)).symm)
  · have e : xix x = 4294967295 := xfind_2 xsg x 0 (fun i hi z => h2 i hi ((xsg_ok x q i hi).mpr z))
    rw [e, h1]
    decide
theorem sg_len : (st_g 133).2.2.2.length = 23 := by decide +kernel
theorem sg_in : 133 < st_t.length := by decide +kernel
set_option maxHeartbeats 4000000 in
set_option maxRecDepth 100000 in
theorem c_StringLatin1_canEncodeX (l : Launch) {dA : FieldType → ClassId} {D : va_G} {al : Nat → Nat} {ext : mv_Sh} {sk sv : Nat → Nat} (hi : mv_inj (mg dA D al ext)) (σ : mv_H) (x : Int32) (g0 : 0 ≤ x.toInt) (g1 : x.toInt < 256) : mv_C l y_StringLatin1_canEncode (Cond.code y_StringLatin1_canEncode b_StringLatin1_canEncode 1 (Option.some Jvm.ClassFile.FieldType.boolean) :: ma) ({ frames := 0, cells := 0, slots := 0, locals := 0 }) (mg dA D al ext) (mK sk sv) [.int x] σ (mv_Ri (fun v σ1 => σ1 = σ ∧ v = 1)) := by
  refine mv_C.ofV (cc := b_StringLatin1_canEncode) (nL := 1) (ret := (Option.some Jvm.ClassFile.FieldType.boolean)) (by decide +kernel) rfl hi (Nat.le_of_ble_eq_true rfl) ?_
  intro p e s m below meth c B hNs hr hnm hno
  refine mv_iload_n (pc := 0) B d_StringLatin1_canEncode_0 rfl 0 rfl ?_
  refine mv_if_lt (pc := 1) (tgt := 15) B d_StringLatin1_canEncode_1 rfl (fun h1 => ?_) (fun h1 => ?_)
  · skip
    exact absurd h1 (ltc g0)
  · skip
    refine mv_iload_n (pc := 4) B d_StringLatin1_canEncode_4 rfl 0 rfl ?_
    refine mv_sipush (pc := 5) (v := 255) B d_StringLatin1_canEncode_5 (by decide) ?_
    refine mv_icmp_gt (pc := 8) (tgt := 15) B d_StringLatin1_canEncode_8 rfl (fun h8 => ?_) (fun h8 => ?_)
    · skip
      exact absurd h8 (by rw [Int32.lt_iff_toInt_lt]; simp only [Int32.reduceToInt]; omega)
    · skip
      refine mv_iconst (pc := 11) (v := 1) B d_StringLatin1_canEncode_11 (by decide) ?_
      refine mv_goto (pc := 12) (tgt := 16) B d_StringLatin1_canEncode_12 rfl ?_
      exact mv_iret (pc := 16) B hr rfl d_StringLatin1_canEncode_16 (Nat.le_refl _) (Nat.le_refl _) ⟨_, rfl, rfl, rfl⟩
set_option maxHeartbeats 4000000 in
set_option maxRecDepth 100000 in
theorem c_StringLatin1_indexOfCharX (l : Launch) {dA : FieldType → ClassId} {D : va_G} {al : Nat → Nat} {ext : mv_Sh} {sk sv : Nat → Nat} (hi : mv_inj (mg dA D al ext)) (σ : mv_H) (x f e9 : Int32) (g0 : f.toInt = 0) (g1 : e9.toInt = 23) : mv_C l y_StringLatin1_indexOfChar (Cond.code y_StringLatin1_indexOfChar b_StringLatin1_indexOfChar 6 (Option.some Jvm.ClassFile.FieldType.int) :: ma) ({ frames := 0, cells := 0, slots := 0, locals := 0 }) (mg dA D al ext) (mK sk sv) [.ref (sv 133), .int x, .int f, .int e9] σ (mv_Ri (fun v σ1 => σ1 = σ ∧ PX x v)) := by
  refine mv_C.ofV (cc := b_StringLatin1_indexOfChar) (nL := 6) (ret := (Option.some Jvm.ClassFile.FieldType.int)) (by decide +kernel) rfl hi (Nat.le_of_ble_eq_true rfl) ?_
  intro p e s m below meth c B hNs hr hnm hno
  have lp : ∀ (nn : Nat) (j : Int32) (b : Int32) (q0 : 0 ≤ j.toInt) (qb : b = x.toInt8.toInt32) (qs : ∀ k : Nat, (k : Int) < j.toInt → ¬ (st_g 133).2.2.2.getD k 0 = x.toInt8.toInt32), (e9.toInt - j.toInt).toNat < nn → mv_V p l e ({ frames := 0, cells := 0, slots := 0, locals := 0 }) s m ([.ref (sv 133), .int x, .int f, .int e9] : List Value).toArray below meth c (mg dA D al ext) 6 0 0 (mv_Q (mg dA D al ext) below s 0 0 (mv_Ri (fun v σ1 => σ1 = σ ∧ PX x v))) σ 7 [(5, .int j), (4, .int b), (0, .ref (sv 133)), (1, .int x), (2, .int f), (3, .int e9)] [] := by
    intro nn
    induction nn with
    | zero => intro j b q0 qb qs hm; exact absurd hm (Nat.not_lt_zero _)
    | succ nn ih =>
      intro j b q0 qb qs hm
      refine mv_iload (pc := 7) B d_StringLatin1_indexOfChar_7 0 rfl ?_
      refine mv_iload_n (pc := 9) B d_StringLatin1_indexOfChar_9 rfl 5 rfl ?_
      refine mv_icmp_ge (pc := 10) (tgt := 31) B d_StringLatin1_indexOfChar_10 rfl (fun h10 => ?_) (fun h10 => ?_)
      · skip
        rw [Int32.le_iff_toInt_le] at h10
        refine mv_iconst (pc := 31) (v := -1) B d_StringLatin1_indexOfChar_31 (by decide) ?_
        exact mv_iret (pc := 32) B hr rfl d_StringLatin1_indexOfChar_32 (Nat.le_refl _) (Nat.le_refl _) ⟨_, rfl, rfl, Or.inr ⟨rfl, fun k hk => qs k (by omega)⟩⟩
      · skip
        rw [Int32.le_iff_toInt_le] at h10
        refine mv_aload_n (pc := 13) B d_StringLatin1_indexOfChar_13 rfl 2 rfl ?_
        refine mv_iload (pc := 14) B d_StringLatin1_indexOfChar_14 0 rfl ?_
        refine mv_tb (pc := 16) B (hNs.2.1 133 sg_in).2.2.2.2 (i32_in q0 (by rw [sg_len]; omega)) d_StringLatin1_indexOfChar_16 ?_
        refine mv_iload (pc := 17) B d_StringLatin1_indexOfChar_17 1 rfl ?_
        refine mv_icmp_ne (pc := 19) (tgt := 25) B d_StringLatin1_indexOfChar_19 rfl (fun h19 => ?_) (fun h19 => ?_)
        · skip
          refine mv_iinc (pc := 25) (j := 0) (v := 1) B d_StringLatin1_indexOfChar_25 rfl (by decide) (by decide) rfl ?_
          refine mv_goto (pc := 28) (tgt := 7) B d_StringLatin1_indexOfChar_28 rfl ?_
          refine mv_lpick [0, 1, 2, 3, 4, 5] rfl ?_
          exact ih _ _ (by rw [i32_inc (by omega)]; omega) qb (fun k hk => by rw [i32_inc (by omega)] at hk; by_cases e : (k : Int) < j.toInt; exact qs k e; have e2 : k = j.toNatClampNeg := (by have := i32_cl q0; omega); rw [e2, ← qb]; exact h19) (by rw [i32_inc (by omega)]; omega)
        · skip
          refine mv_iload (pc := 22) B d_StringLatin1_indexOfChar_22 0 rfl ?_
          exact mv_iret (pc := 24) B hr rfl d_StringLatin1_indexOfChar_24 (Nat.le_refl _) (Nat.le_refl _) ⟨_, rfl, rfl, Or.inl ⟨j.toNatClampNeg, by have := i32_cl q0; omega, (i32_cl q0).symm, by rw [← qb]; exact h19, fun k hk => qs k (by have := i32_cl q0; omega)⟩⟩
  refine mv_iload_n (pc := 0) B d_StringLatin1_indexOfChar_0 rfl 1 rfl ?_
  refine mv_i2b (pc := 1) B d_StringLatin1_indexOfChar_1 ?_
  refine mv_istore (pc := 2) B d_StringLatin1_indexOfChar_2 (by decide) rfl ?_
  refine mv_iload_n (pc := 4) B d_StringLatin1_indexOfChar_4 rfl 3 rfl ?_
  refine mv_istore (pc := 5) B d_StringLatin1_indexOfChar_5 (by decide) rfl ?_
  refine mv_lpick [0, 1, 2, 3, 4, 5] rfl ?_
  exact lp _ _ _ (by omega) rfl (fun k hk => by omega) (Nat.lt_succ_self _)
set_option maxHeartbeats 4000000 in
set_option maxRecDepth 100000 in
theorem c_StringLatin1_indexOfX (l : Launch) {dA : FieldType → ClassId} {D : va_G} {al : Nat → Nat} {ext : mv_Sh} {sk sv : Nat → Nat} (hi : mv_inj (mg dA D al ext)) (σ : mv_H) (x f e9 : Int32) (g0 : f.toInt = 0) (g1 : e9.toInt = 23) (gx : 0 ≤ x.toInt ∧ x.toInt < 256) : mv_C l y_StringLatin1_indexOf (Cond.code y_StringLatin1_indexOf b_StringLatin1_indexOf 4 (Option.some Jvm.ClassFile.FieldType.int) :: ma) ({ frames := 1, cells := 0, slots := 0, locals := 40 }) (mg dA D al ext) (mK sk sv) [.ref (sv 133), .int x, .int f, .int e9] σ (mv_Ri (fun v σ1 => σ1 = σ ∧ PX x v)) := by
  refine mv_C.ofV (cc := b_StringLatin1_indexOf) (nL := 4) (ret := (Option.some Jvm.ClassFile.FieldType.int)) (by decide +kernel) rfl hi (Nat.le_of_ble_eq_true rfl) ?_
  intro p e s m below meth c B hNs hr hnm hno
  refine mv_iload_n (pc := 0) B d_StringLatin1_indexOf_0 rfl 1 rfl ?_
  refine mv_callSi (pc := 1) (n := 1) B (mK_ok sk sv) hNs (c_StringLatin1_canEncodeX l hi _ _ gx.1 gx.2) rfl (ma_goodc kc_StringLatin1_canEncode) (B.2.2.2.1 _ k_897) (B.2.2.2.1 _ k_898) (B.2.2.2.1 _ k_22) ⟨by decide +kernel, by decide +kernel, by decide +kernel⟩ rfl d_StringLatin1_indexOf_1 rfl (Nat.le_of_ble_eq_true rfl) ⟨by decide, by decide⟩ ⟨by decide, by decide⟩ ⟨by decide, by decide⟩ (mv_noH hno _) (fun v1 σ1 h1 => ?_)
  obtain ⟨rfl, rfl⟩ := h1
  refine mv_if_ne (pc := 4) (tgt := 9) B d_StringLatin1_indexOf_4 rfl (fun h4 => ?_) (fun h4 => ?_)
  · skip
    refine mv_iload_n (pc := 9) B d_StringLatin1_indexOf_9 rfl 2 rfl ?_
    refine mv_iconst (pc := 10) (v := 0) B d_StringLatin1_indexOf_10 (by decide) ?_
    refine mv_mmax (pc := 11) B (B.2.2.2.1 _ k_900) (B.2.2.2.1 _ k_901) (B.2.2.2.1 _ k_26) (B.2.2.2.1 _ kc_Math_max) (by decide) (by decide) (by decide) (by decide) d_StringLatin1_indexOf_11 ?_
    refine mv_istore_n (pc := 14) B d_StringLatin1_indexOf_14 rfl (by decide) rfl ?_
    refine mv_iload_n (pc := 15) B d_StringLatin1_indexOf_15 rfl 3 rfl ?_
    refine mv_aload_n (pc := 16) B d_StringLatin1_indexOf_16 rfl 1 rfl ?_
    refine mv_tlen (pc := 17) B (hNs.2.1 133 sg_in).2.2.2.2 rfl d_StringLatin1_indexOf_17 ?_
    refine mv_mmin (pc := 18) B (B.2.2.2.1 _ k_903) (B.2.2.2.1 _ k_904) (B.2.2.2.1 _ k_26) (B.2.2.2.1 _ kc_Math_min) (by decide) (by decide) (by decide) (by decide) d_StringLatin1_indexOf_18 ?_
    refine mv_istore_n (pc := 21) B d_StringLatin1_indexOf_21 rfl (by decide) rfl ?_
    have ga : (if f < 0 then (0 : Int32) else f).toInt = 0 := by rw [if_neg (ltc (by omega))]; exact g0
    have gb : (if Int32.ofNat (st_g 133).2.2.2.length < e9 then Int32.ofNat (st_g 133).2.2.2.length else e9).toInt = 23 := by have q := st_toInt sg_in; rw [sg_len] at q ⊢; split; exact q; exact g1
    refine mv_iload_n (pc := 22) B d_StringLatin1_indexOf_22 rfl 1 rfl ?_
    refine mv_iload_n (pc := 23) B d_StringLatin1_indexOf_23 rfl 0 rfl ?_
    refine mv_icmp_lt (pc := 24) (tgt := 29) B d_StringLatin1_indexOf_24 rfl (fun h24 => ?_) (fun h24 => ?_)
    · skip
      refine mv_aload_n (pc := 29) B d_StringLatin1_indexOf_29 rfl 2 rfl ?_
      refine mv_iload_n (pc := 30) B d_StringLatin1_indexOf_30 rfl 3 rfl ?_
      refine mv_iload_n (pc := 31) B d_StringLatin1_indexOf_31 rfl 1 rfl ?_
      refine mv_iload_n (pc := 32) B d_StringLatin1_indexOf_32 rfl 0 rfl ?_
      refine mv_callSi (pc := 33) (n := 4) B (mK_ok sk sv) hNs (c_StringLatin1_indexOfCharX l hi _ _ _ _ ga gb) rfl (ma_goodc kc_StringLatin1_indexOfChar) (B.2.2.2.1 _ k_906) (B.2.2.2.1 _ k_907) (B.2.2.2.1 _ k_22) ⟨by decide +kernel, by decide +kernel, by decide +kernel⟩ rfl d_StringLatin1_indexOf_33 rfl (Nat.le_of_ble_eq_true rfl) ⟨by decide, by decide⟩ ⟨by decide, by decide⟩ ⟨by decide, by decide⟩ (mv_noH hno _) (fun v33 σ33 h33 => ?_)
      exact mv_iret (pc := 36) B hr rfl d_StringLatin1_indexOf_36 (Nat.le_refl _) (Nat.le_refl _) ⟨_, rfl, h33⟩
    · skip
      exact absurd (Int32.lt_iff_toInt_lt.mpr (by rw [ga, gb]; decide)) h24
  · skip
    exact absurd h4 (by decide)
set_option maxHeartbeats 4000000 in
set_option maxRecDepth 100000 in
theorem c_String_indexOf_1X (l : Launch) {dA : FieldType → ClassId} {D : va_G} {al : Nat → Nat} {ext : mv_Sh} {sk sv : Nat → Nat} (hi : mv_inj (mg dA D al ext)) (σ : mv_H) (x f : Int32) (g0 : f.toInt = 0) (gx : 0 ≤ x.toInt ∧ x.toInt < 256) : mv_C l y_String_indexOf_1 (Cond.code y_String_indexOf_1 b_String_indexOf_1 3 (Option.some Jvm.ClassFile.FieldType.int) :: ma) ({ frames := 2, cells := 0, slots := 0, locals := 63 }) (mg dA D al ext) (mK sk sv) [.ref (sk 133), .int x, .int f] σ (mv_Ri (fun v σ1 => σ1 = σ ∧ PX x v)) := by
  refine mv_C.ofV (cc := b_String_indexOf_1) (nL := 3) (ret := (Option.some Jvm.ClassFile.FieldType.int)) (by decide +kernel) rfl hi (Nat.le_of_ble_eq_true rfl) ?_
  intro p e s m below meth c B hNs hr hnm hno
  refine mv_aload_n (pc := 0) B d_String_indexOf_1_0 rfl 0 rfl ?_
  refine mv_callVOi (pc := 1) (n := 0) B (mK_ok sk sv) hNs (hNs.2.1 133 sg_in).2.1 (c_String_isLatin1 l hi _ 133 sg_in) rfl (ma_goodc kc_String_isLatin1) (B.2.2.2.1 _ k_559) (B.2.2.2.1 _ k_560) (B.2.2.2.1 _ k_561) (B.2.2.2.1 _ k_21) ⟨by decide +kernel, by decide +kernel, by decide +kernel⟩ rfl d_String_indexOf_1_1 rfl (Nat.le_of_ble_eq_true rfl) ⟨by decide, by decide⟩ ⟨by decide, by decide⟩ ⟨by decide, by decide⟩ (mv_noH hno _) (fun v1 σ1 h1 => ?_)
  obtain ⟨rfl, rfl⟩ := h1
  refine mv_if_eq (pc := 4) (tgt := 23) B d_String_indexOf_1_4 rfl (fun h4 => ?_) (fun h4 => ?_)
  · skip
    exact absurd h4 (by decide)
  · skip
    refine mv_aload_n (pc := 7) B d_String_indexOf_1_7 rfl 0 rfl ?_
    refine mv_getO (pc := 8) B (hNs.2.1 133 sg_in).2.2.2.1 (B.2.2.2.1 _ k_1214) d_String_indexOf_1_8 ?_
    refine mv_iload_n (pc := 11) B d_String_indexOf_1_11 rfl 1 rfl ?_
    refine mv_iload_n (pc := 12) B d_String_indexOf_1_12 rfl 2 rfl ?_
    refine mv_aload_n (pc := 13) B d_String_indexOf_1_13 rfl 0 rfl ?_
    refine mv_callVOi (pc := 14) (n := 0) B (mK_ok sk sv) hNs (hNs.2.1 133 sg_in).2.1 (c_String_length l hi _ 133 sg_in) rfl (ma_goodc kc_String_length) (B.2.2.2.1 _ k_893) (B.2.2.2.1 _ k_546) (B.2.2.2.1 _ k_547) (B.2.2.2.1 _ k_21) ⟨by decide +kernel, by decide +kernel, by decide +kernel⟩ rfl d_String_indexOf_1_14 rfl (Nat.le_of_ble_eq_true rfl) ⟨by decide, by decide⟩ ⟨by decide, by decide⟩ ⟨by decide, by decide⟩ (mv_noH hno _) (fun v14 σ14 h14 => ?_)
    obtain ⟨rfl, h14⟩ := h14
    rw [sg_len] at h14
    refine mv_callSi (pc := 17) (n := 4) B (mK_ok sk sv) hNs (c_StringLatin1_indexOfX l hi _ _ _ _ g0 h14 gx) rfl (ma_goodc kc_StringLatin1_indexOf) (B.2.2.2.1 _ k_894) (B.2.2.2.1 _ k_895) (B.2.2.2.1 _ k_22) ⟨by decide +kernel, by decide +kernel, by decide +kernel⟩ rfl d_String_indexOf_1_17 rfl (Nat.le_of_ble_eq_true rfl) ⟨by decide, by decide⟩ ⟨by decide, by decide⟩ ⟨by decide, by decide⟩ (mv_noH hno _) (fun v17 σ17 h17 => ?_)
    refine mv_goto (pc := 20) (tgt := 36) B d_String_indexOf_1_20 rfl ?_
    exact mv_iret (pc := 36) B hr rfl d_String_indexOf_1_36 (Nat.le_refl _) (Nat.le_refl _) ⟨_, rfl, h17⟩
set_option maxHeartbeats 4000000 in
set_option maxRecDepth 100000 in
theorem c_String_indexOf_0X (l : Launch) {dA : FieldType → ClassId} {D : va_G} {al : Nat → Nat} {ext : mv_Sh} {sk sv : Nat → Nat} (hi : mv_inj (mg dA D al ext)) (σ : mv_H) (x : Int32) (gx : 0 ≤ x.toInt ∧ x.toInt < 256) : mv_C l y_String_indexOf_0 (Cond.code y_String_indexOf_0 b_String_indexOf_0 2 (Option.some Jvm.ClassFile.FieldType.int) :: ma) ({ frames := 3, cells := 0, slots := 0, locals := 85 }) (mg dA D al ext) (mK sk sv) [.ref (sk 133), .int x] σ (mv_Ri (fun v σ1 => σ1 = σ ∧ PX x v)) := by
  refine mv_C.ofV (cc := b_String_indexOf_0) (nL := 2) (ret := (Option.some Jvm.ClassFile.FieldType.int)) (by decide +kernel) rfl hi (Nat.le_of_ble_eq_true rfl) ?_
  intro p e s m below meth c B hNs hr hnm hno
  refine mv_aload_n (pc := 0) B d_String_indexOf_0_0 rfl 0 rfl ?_
  refine mv_iload_n (pc := 1) B d_String_indexOf_0_1 rfl 1 rfl ?_
  refine mv_iconst (pc := 2) (v := 0) B d_String_indexOf_0_2 (by decide) ?_
  refine mv_callVOi (pc := 3) (n := 2) B (mK_ok sk sv) hNs (hNs.2.1 133 sg_in).2.1 (c_String_indexOf_1X l hi _ _ _ (by decide) gx) rfl (ma_goodc kc_String_indexOf_1) (B.2.2.2.1 _ k_889) (B.2.2.2.1 _ k_890) (B.2.2.2.1 _ k_891) (B.2.2.2.1 _ k_21) ⟨by decide +kernel, by decide +kernel, by decide +kernel⟩ rfl d_String_indexOf_0_3 rfl (Nat.le_of_ble_eq_true rfl) ⟨by decide, by decide⟩ ⟨by decide, by decide⟩ ⟨by decide, by decide⟩ (mv_noH hno _) (fun v3 σ3 h3 => ?_)
  exact mv_iret (pc := 6) B hr rfl d_String_indexOf_0_6 (Nat.le_refl _) (Nat.le_refl _) ⟨_, rfl, h3⟩
theorem cx_String_indexOf (l : Launch) {dA : FieldType → ClassId} {D : va_G} {al : Nat → Nat} {ext : mv_Sh} {sk sv : Nat → Nat} (hi : mv_inj (mg dA D al ext)) (σ : mv_H) {k : Nat} (q : k < 256) : mv_C l y_String_indexOf_0 (Cond.code y_String_indexOf_0 b_String_indexOf_0 2 (Option.some Jvm.ClassFile.FieldType.int) :: ma) ({ frames := 3, cells := 0, slots := 0, locals := 85 }) (mg dA D al ext) (mK sk sv) [.ref (sk 133), .int (nI k)] σ (mv_Ri (fun v σ1 => v = nI (xix k) ∧ σ1 = σ)) := by
  have h3 : (nI k).toInt = k := nI_toInt (by omega)
  refine (c_String_indexOf_0X l hi σ (nI k) ⟨by omega, by omega⟩).imp (fun r τ q2 => ?_)
  obtain ⟨v, e1, e2, e3⟩ := q2
  exact ⟨v, e1, PX_ok q e3, e2⟩
