/-! shippedField, exactly -/
def f_Model_piece (h : mv_H) (a0 : Int32) (a1 : Int32) (a2 : Int32) : Option (Int32 × mv_H) := some (((((a0).toUInt32 >>> ((a2).toUInt32 &&& Int32.toUInt32 31)).toInt32) &&& (((1 : Int32) <<< (((a1 - a2) + (1 : Int32)) &&& 31)) - (1 : Int32))), h)
set_option maxHeartbeats 4000000 in
set_option maxRecDepth 100000 in
theorem ch_Model_piece (l : Launch) {dA : FieldType → ClassId} {D : va_G} {al : Nat → Nat} {ext : mv_Sh} {sk sv : Nat → Nat} (hi : mv_inj (mg dA D al ext)) (h : mv_H)  (a0 : Int32) (a1 : Int32) (a2 : Int32) {rv : Int32} {rg : mv_H} (hf : f_Model_piece h a0 a1 a2 = some (rv, rg)) : mv_C l y_Model_piece (Cond.code y_Model_piece b_Model_piece 3 (Option.some Jvm.ClassFile.FieldType.int) :: ma) ({ frames := 0, cells := 0, slots := 0, locals := 0 }) (mg dA D al ext) (mK sk sv) [.int a0, .int a1, .int a2] h (mv_Ri (fun v σ1 => rv = v ∧ rg = σ1 ∧ mv_r σ1 = mv_r h)) := by
  refine mv_C.ofV (cc := b_Model_piece) (nL := 3) (ret := (Option.some Jvm.ClassFile.FieldType.int)) (by decide +kernel) rfl hi (Nat.le_of_ble_eq_true rfl) ?_
  intro p e s m below meth c B hNs hr hnm hno
  unfold f_Model_piece at hf
  refine mv_iload_n (pc := 0) B d_Model_piece_0 rfl 0 rfl ?_
  refine mv_iload_n (pc := 1) B d_Model_piece_1 rfl 2 rfl ?_
  refine mv_iushr (pc := 2) B d_Model_piece_2 ?_
  refine mv_iconst (pc := 3) (v := 1) B d_Model_piece_3 (by decide) ?_
  refine mv_iload_n (pc := 4) B d_Model_piece_4 rfl 1 rfl ?_
  refine mv_iload_n (pc := 5) B d_Model_piece_5 rfl 2 rfl ?_
  refine mv_isub (pc := 6) B d_Model_piece_6 ?_
  refine mv_iconst (pc := 7) (v := 1) B d_Model_piece_7 (by decide) ?_
  refine mv_iadd (pc := 8) B d_Model_piece_8 ?_
  refine mv_ishl (pc := 9) B d_Model_piece_9 ?_
  refine mv_iconst (pc := 10) (v := 1) B d_Model_piece_10 (by decide) ?_
  refine mv_isub (pc := 11) B d_Model_piece_11 ?_
  refine mv_iand (pc := 12) B d_Model_piece_12 ?_
  exact mv_iret (pc := 13) B hr rfl d_Model_piece_13 (Nat.le_refl _) (Nat.le_refl _) ⟨_, rfl, xrh_i hf rfl⟩
def f_Model_shippedField_506 (hz : mv_H) : Option (Int64 × mv_H) := some ((-1 : Int64), hz)
def f_Model_shippedField_383 (x2 : Int32) (hz : mv_H) : Option (Int64 × mv_H) := some ((((((x2).toUInt32 >>> (((31 : Int32)).toUInt32 &&& Int32.toUInt32 31)).toInt32)).toInt64), hz)
def f_Model_shippedField_311 (x2 : Int32) (hz : mv_H) : Option (Int64 × mv_H) := some ((((((x2).toUInt32 >>> (((20 : Int32)).toUInt32 &&& Int32.toUInt32 31)).toInt32)).toInt64), hz)
def f_Model_shippedField_240 (x2 : Int32) (hz : mv_H) : Option (Int64 × mv_H) := xhb (f_Model_piece hz x2 (24 : Int32) (20 : Int32)) fun u2 g1 => some (((u2).toInt64), g1)
def f_Model_shippedField_189 (hz : mv_H) : Option (Int64 × mv_H) := some ((-1 : Int64), hz)
def f_Model_shippedField_66 (x0 : Int32) (x1 : Int32) (x2 : Int32) (x3 : Int32) (x4 : Int32) (x5 : Int32) (y0 : Int32) (hz : mv_H) : Option (Int64 × mv_H) := xhb (f_Model_in hz ((x0).toInt64) (37 : Int64) (39 : Int64)) fun u4 g3 => if u4 = (0 : Int32) then (if (x1).toInt = 97 then (if x3 = (0 : Int32) then (if x0 = (2 : Int32) then (f_Model_shippedField_383 x2 g3) else (some ((-1 : Int64), g3))) else (f_Model_shippedField_383 x2 g3)) else (if (x1).toInt = 98 then (if x3 = (0 : Int32) then (if x0 = (2 : Int32) then (xhb (f_Model_piece g3 x2 (30 : Int32) (21 : Int32)) fun u6 g5 => some (((u6).toInt64), g5)) else (some ((-1 : Int64), g3))) else (xhb (f_Model_piece g3 x2 (30 : Int32) (25 : Int32)) fun u8 g7 => some (((u8).toInt64), g7))) else (if (x1).toInt = 99 then (if x3 = (0 : Int32) then (if x0 = (2 : Int32) then (xhb (f_Model_piece g3 x2 (20 : Int32) (20 : Int32)) fun u10 g9 => some (((u10).toInt64), g9)) else (some ((-1 : Int64), g3))) else (xhb (f_Model_piece g3 x2 (11 : Int32) (8 : Int32)) fun u12 g11 => some (((u12).toInt64), g11))) else (if (x1).toInt = 100 then (if x3 = (0 : Int32) then (if x4 = (0 : Int32) then (xhb (f_Model_piece g3 x2 (11 : Int32) (7 : Int32)) fun u14 g13 => some (((u14).toInt64), g13)) else (f_Model_shippedField_189  g3)) else (f_Model_shippedField_189  g3)) else (if (x1).toInt = 101 then (if x3 = (0 : Int32) then (if x0 = (2 : Int32) then (xhb (f_Model_piece g3 x2 (19 : Int32) (12 : Int32)) fun u16 g15 => some (((u16).toInt64), g15)) else (some ((-1 : Int64), g3))) else (xhb (f_Model_piece g3 x2 (7 : Int32) (7 : Int32)) fun u18 g17 => some (((u18).toInt64), g17))) else (if (x1).toInt = 102 then (f_Model_shippedField_506  g3) else (if (x1).toInt = 103 then (f_Model_shippedField_506  g3) else (if (x1).toInt = 104 then (xhb (f_Model_in g3 ((x0).toInt64) (24 : Int64) (26 : Int64)) fun u20 g19 => if u20 = (0 : Int32) then (some ((-1 : Int64), g19)) else (xhb (f_Model_piece g19 x2 (24 : Int32) (20 : Int32)) fun u22 g21 => some (((u22).toInt64), g21))) else (if (x1).toInt = 105 then (if x5 = (0 : Int32) then (if x4 = (0 : Int32) then (if x0 = (3 : Int32) then (f_Model_shippedField_311 x2 g3) else (xhb (f_Model_in g3 ((x0).toInt64) (10 : Int64) (14 : Int64)) fun u24 g23 => if u24 = (0 : Int32) then (xhb (f_Model_in g23 ((x0).toInt64) (18 : Int64) (23 : Int64)) fun u26 g25 => if u26 = (0 : Int32) then (some ((-1 : Int64), g25)) else (f_Model_shippedField_311 x2 g25)) else (f_Model_shippedField_311 x2 g23))) else (some ((((((x2).toUInt32 >>> (((25 : Int32)).toUInt32 &&& Int32.toUInt32 31)).toInt32)).toInt64), g3))) else (some ((((((x2).toUInt32 >>> (((12 : Int32)).toUInt32 &&& Int32.toUInt32 31)).toInt32)).toInt64), g3))) else (if (x1).toInt = 106 then (if x4 = (0 : Int32) then (some ((-1 : Int64), g3)) else (xhb (f_Model_piece g3 x2 (11 : Int32) (7 : Int32)) fun u28 g27 => some (((u28).toInt64), g27))) else (if (x1).toInt = 107 then (f_Model_shippedField_506  g3) else (if (x1).toInt = 108 then (f_Model_shippedField_506  g3) else (if (x1).toInt = 109 then (f_Model_shippedField_506  g3) else (if (x1).toInt = 110 then (f_Model_shippedField_506  g3) else (if (x1).toInt = 111 then (f_Model_shippedField_506  g3) else (if (x1).toInt = 112 then (f_Model_shippedField_506  g3) else (if (x1).toInt = 113 then (f_Model_shippedField_506  g3) else (if (x1).toInt = 114 then (f_Model_shippedField_506  g3) else (if (x1).toInt = 115 then (if (3 : Int32) ≤ x0 then (xhb (f_Model_piece g3 x2 (19 : Int32) (15 : Int32)) fun u30 g29 => some (((u30).toInt64), g29)) else (some ((-1 : Int64), g3))) else (if (x1).toInt = 116 then (if x3 = (0 : Int32) then (if x4 = (0 : Int32) then (if y0 = (0 : Int32) then (some ((-1 : Int64), g3)) else (f_Model_shippedField_240 x2 g3)) else (f_Model_shippedField_240 x2 g3)) else (f_Model_shippedField_240 x2 g3)) else (f_Model_shippedField_506  g3))))))))))))))))))))) else (some ((-1 : Int64), g3))
def f_Model_shippedField_65 (x0 : Int32) (x1 : Int32) (x2 : Int32) (x3 : Int32) (x4 : Int32) (x5 : Int32) (hz : mv_H) : Option (Int64 × mv_H) := f_Model_shippedField_66 x0 x1 x2 x3 x4 x5 (0 : Int32) hz
def f_Model_shippedField_35 (x0 : Int32) (x1 : Int32) (x2 : Int32) (x3 : Int32) (x4 : Int32) (y0 : Int32) (hz : mv_H) : Option (Int64 × mv_H) := if x0 < (27 : Int32) then (f_Model_shippedField_65 x0 x1 x2 x3 x4 y0 hz) else (if x0 = (37 : Int32) then (f_Model_shippedField_65 x0 x1 x2 x3 x4 y0 hz) else (if x0 = (38 : Int32) then (f_Model_shippedField_65 x0 x1 x2 x3 x4 y0 hz) else (if x0 = (39 : Int32) then (f_Model_shippedField_65 x0 x1 x2 x3 x4 y0 hz) else (f_Model_shippedField_66 x0 x1 x2 x3 x4 y0 (1 : Int32) hz))))
def f_Model_shippedField (h : mv_H) (a0 : Int32) (a1 : Int32) (a2 : Int32) : Option (Int64 × mv_H) := xhb (f_Model_in h ((a0).toInt64) (4 : Int64) (9 : Int64)) fun u32 g31 => xhb (f_Model_in g31 ((a0).toInt64) (15 : Int64) (17 : Int64)) fun u34 g33 => if (2 : Int32) ≤ a0 then (f_Model_shippedField_35 a0 a1 a2 u32 u34 (0 : Int32) g33) else (f_Model_shippedField_35 a0 a1 a2 u32 u34 (1 : Int32) g33)
set_option maxHeartbeats 4000000 in
set_option maxRecDepth 100000 in
theorem ch_Model_shippedField (l : Launch) {dA : FieldType → ClassId} {D : va_G} {al : Nat → Nat} {ext : mv_Sh} {sk sv : Nat → Nat} (hi : mv_inj (mg dA D al ext)) (h : mv_H)  (a0 : Int32) (a1 : Int32) (a2 : Int32) {rv : Int64} {rg : mv_H} (hf : f_Model_shippedField h a0 a1 a2 = some (rv, rg)) : mv_C l y_Model_shippedField (Cond.code y_Model_shippedField b_Model_shippedField 7 (Option.some Jvm.ClassFile.FieldType.long) :: ma) ({ frames := 1, cells := 0, slots := 0, locals := 25 }) (mg dA D al ext) (mK sk sv) [.int a0, .int a1, .int a2] h (mv_Rl (fun v σ1 => rv = v ∧ rg = σ1 ∧ mv_r σ1 = mv_r h)) := by
  refine mv_C.ofV (cc := b_Model_shippedField) (nL := 7) (ret := (Option.some Jvm.ClassFile.FieldType.long)) (by decide +kernel) rfl hi (Nat.le_of_ble_eq_true rfl) ?_
  intro p e s m below meth c B hNs hr hnm hno
  have jn506 : ∀ (hz : mv_H), mv_r hz = mv_r h → f_Model_shippedField_506  hz = some (rv, rg) → mv_V p l e ({ frames := 1, cells := 0, slots := 0, locals := 25 }) s m ([.int a0, .int a1, .int a2] : List Value).toArray below meth c (mg dA D al ext) 7 0 0 (mv_Q (mg dA D al ext) below s 0 0 (mv_Rl (fun v σ1 => rv = v ∧ rg = σ1 ∧ mv_r σ1 = mv_r h))) hz 506 [] [] := by
    intro  hz r_hz hf
    unfold f_Model_shippedField_506 at hf
    refine mv_ldc2 (pc := 506) (v := -1) B (B.2.2.2.1 _ k_2396) d_Model_shippedField_506 ?_
    exact mv_lret (pc := 509) B hr d_Model_shippedField_509 (Nat.le_refl _) (Nat.le_refl _) ⟨_, rfl, xrh_l hf r_hz⟩
  have jn383 : ∀ (x2 : Int32) (hz : mv_H), mv_r hz = mv_r h → f_Model_shippedField_383 x2 hz = some (rv, rg) → mv_V p l e ({ frames := 1, cells := 0, slots := 0, locals := 25 }) s m ([.int a0, .int a1, .int a2] : List Value).toArray below meth c (mg dA D al ext) 7 0 0 (mv_Q (mg dA D al ext) below s 0 0 (mv_Rl (fun v σ1 => rv = v ∧ rg = σ1 ∧ mv_r σ1 = mv_r h))) hz 383 [(2, .int x2)] [] := by
    intro x2 hz r_hz hf
    unfold f_Model_shippedField_383 at hf
    refine mv_iload_n (pc := 383) B d_Model_shippedField_383 rfl 0 rfl ?_
    refine mv_bipush (pc := 384) (v := 31) B d_Model_shippedField_384 (by decide) ?_
    refine mv_iushr (pc := 386) B d_Model_shippedField_386 ?_
    refine mv_i2l (pc := 387) B d_Model_shippedField_387 ?_
    refine mv_goto (pc := 388) (tgt := 394) B d_Model_shippedField_388 rfl ?_
    exact mv_lret (pc := 394) B hr d_Model_shippedField_394 (Nat.le_refl _) (Nat.le_refl _) ⟨_, rfl, xrh_l hf r_hz⟩
  have jn311 : ∀ (x2 : Int32) (hz : mv_H), mv_r hz = mv_r h → f_Model_shippedField_311 x2 hz = some (rv, rg) → mv_V p l e ({ frames := 1, cells := 0, slots := 0, locals := 25 }) s m ([.int a0, .int a1, .int a2] : List Value).toArray below meth c (mg dA D al ext) 7 0 0 (mv_Q (mg dA D al ext) below s 0 0 (mv_Rl (fun v σ1 => rv = v ∧ rg = σ1 ∧ mv_r σ1 = mv_r h))) hz 311 [(2, .int x2)] [] := by
    intro x2 hz r_hz hf
    unfold f_Model_shippedField_311 at hf
    refine mv_iload_n (pc := 311) B d_Model_shippedField_311 rfl 0 rfl ?_
    refine mv_bipush (pc := 312) (v := 20) B d_Model_shippedField_312 (by decide) ?_
    refine mv_iushr (pc := 314) B d_Model_shippedField_314 ?_
    refine mv_i2l (pc := 315) B d_Model_shippedField_315 ?_
    refine mv_goto (pc := 316) (tgt := 322) B d_Model_shippedField_316 rfl ?_
    exact mv_lret (pc := 322) B hr d_Model_shippedField_322 (Nat.le_refl _) (Nat.le_refl _) ⟨_, rfl, xrh_l hf r_hz⟩
  have jn240 : ∀ (x2 : Int32) (hz : mv_H), mv_r hz = mv_r h → f_Model_shippedField_240 x2 hz = some (rv, rg) → mv_V p l e ({ frames := 1, cells := 0, slots := 0, locals := 25 }) s m ([.int a0, .int a1, .int a2] : List Value).toArray below meth c (mg dA D al ext) 7 0 0 (mv_Q (mg dA D al ext) below s 0 0 (mv_Rl (fun v σ1 => rv = v ∧ rg = σ1 ∧ mv_r σ1 = mv_r h))) hz 240 [(2, .int x2)] [] := by
    intro x2 hz r_hz hf
    unfold f_Model_shippedField_240 at hf
    refine mv_iload_n (pc := 240) B d_Model_shippedField_240 rfl 0 rfl ?_
    refine mv_bipush (pc := 241) (v := 24) B d_Model_shippedField_241 (by decide) ?_
    refine mv_bipush (pc := 243) (v := 20) B d_Model_shippedField_243 (by decide) ?_
    obtain ⟨u2, g1, eg1, hf⟩ := xhb_e hf
    refine mv_callSi (pc := 245) (n := 3) B (mK_ok sk sv) hNs (ch_Model_piece l hi _ _ _ _ eg1) rfl (ma_goodc kc_Model_piece) (B.2.2.2.1 _ k_2360) (B.2.2.2.1 _ k_2361) (B.2.2.2.1 _ k_12) ⟨by decide +kernel, by decide +kernel, by decide +kernel⟩ rfl d_Model_shippedField_245 rfl (Nat.le_of_ble_eq_true rfl) ⟨by decide, by decide⟩ ⟨by decide, by decide⟩ ⟨by decide, by decide⟩ (mv_noH hno _) (fun w245 σ245 h245 => ?_)
    obtain ⟨rfl, rfl, s_g1⟩ := h245
    have r_g1 : mv_r g1 = mv_r h := s_g1.trans r_hz
    refine mv_i2l (pc := 248) B d_Model_shippedField_248 ?_
    refine mv_goto (pc := 249) (tgt := 255) B d_Model_shippedField_249 rfl ?_
    exact mv_lret (pc := 255) B hr d_Model_shippedField_255 (Nat.le_refl _) (Nat.le_refl _) ⟨_, rfl, xrh_l hf r_g1⟩
  have jn189 : ∀ (hz : mv_H), mv_r hz = mv_r h → f_Model_shippedField_189  hz = some (rv, rg) → mv_V p l e ({ frames := 1, cells := 0, slots := 0, locals := 25 }) s m ([.int a0, .int a1, .int a2] : List Value).toArray below meth c (mg dA D al ext) 7 0 0 (mv_Q (mg dA D al ext) below s 0 0 (mv_Rl (fun v σ1 => rv = v ∧ rg = σ1 ∧ mv_r σ1 = mv_r h))) hz 189 [] [] := by
    intro  hz r_hz hf
    unfold f_Model_shippedField_189 at hf
    refine mv_ldc2 (pc := 189) (v := -1) B (B.2.2.2.1 _ k_2396) d_Model_shippedField_189 ?_
    refine mv_goto (pc := 192) (tgt := 204) B d_Model_shippedField_192 rfl ?_
    exact mv_lret (pc := 204) B hr d_Model_shippedField_204 (Nat.le_refl _) (Nat.le_refl _) ⟨_, rfl, xrh_l hf r_hz⟩
  have jn66 : ∀ (x0 : Int32) (x1 : Int32) (x2 : Int32) (x3 : Int32) (x4 : Int32) (x5 : Int32) (y0 : Int32) (hz : mv_H), mv_r hz = mv_r h → f_Model_shippedField_66 x0 x1 x2 x3 x4 x5 y0 hz = some (rv, rg) → mv_V p l e ({ frames := 1, cells := 0, slots := 0, locals := 25 }) s m ([.int a0, .int a1, .int a2] : List Value).toArray below meth c (mg dA D al ext) 7 0 0 (mv_Q (mg dA D al ext) below s 0 0 (mv_Rl (fun v σ1 => rv = v ∧ rg = σ1 ∧ mv_r σ1 = mv_r h))) hz 66 [(0, .int x0), (1, .int x1), (2, .int x2), (3, .int x3), (4, .int x4), (5, .int x5)] [.int y0] := by
    intro x0 x1 x2 x3 x4 x5 y0 hz r_hz hf
    unfold f_Model_shippedField_66 at hf
    refine mv_istore (pc := 66) B d_Model_shippedField_66 (by decide) rfl ?_
    refine mv_iload_n (pc := 68) B d_Model_shippedField_68 rfl 1 rfl ?_
    refine mv_i2l (pc := 69) B d_Model_shippedField_69 ?_
    refine mv_ldc2 (pc := 70) (v := 37) B (B.2.2.2.1 _ k_2394) d_Model_shippedField_70 ?_
    refine mv_ldc2 (pc := 73) (v := 39) B (B.2.2.2.1 _ k_2395) d_Model_shippedField_73 ?_
    obtain ⟨u4, g3, eg3, hf⟩ := xhb_e hf
    refine mv_callSi (pc := 76) (n := 3) B (mK_ok sk sv) hNs (ch_Model_in l hi _ _ _ _ eg3) rfl (ma_goodc kc_Model_in) (B.2.2.2.1 _ k_2391) (B.2.2.2.1 _ k_2208) (B.2.2.2.1 _ k_12) ⟨by decide +kernel, by decide +kernel, by decide +kernel⟩ rfl d_Model_shippedField_76 rfl (Nat.le_of_ble_eq_true rfl) ⟨by decide, by decide⟩ ⟨by decide, by decide⟩ ⟨by decide, by decide⟩ (mv_noH hno _) (fun w76 σ76 h76 => ?_)
    obtain ⟨rfl, rfl, s_g3⟩ := h76
    have r_g3 : mv_r g3 = mv_r h := s_g3.trans r_hz
    refine mv_if_eq (pc := 79) (tgt := 86) B d_Model_shippedField_79 rfl (fun h79 => ?_) (fun h79 => ?_)
    · skip
      have hf := xif_t h79 hf
      refine mv_iload_n (pc := 86) B d_Model_shippedField_86 rfl 2 rfl ?_
      refine mv_tsw (pc := 87) B d_Model_shippedField_87 (by decide) (by decide) ?_
      refine ⟨fun h87 => ?_, fun h87n97 => ?_⟩
      · skip
        have hf := xif_t h87 hf
        show mv_V _ _ _ _ _ _ _ _ _ _ _ _ _ _ _ _ 374 _ _
        refine mv_iload_n (pc := 374) B d_Model_shippedField_374 rfl 4 rfl ?_
        refine mv_if_ne (pc := 375) (tgt := 383) B d_Model_shippedField_375 rfl (fun h375 => ?_) (fun h375 => ?_)
        · skip
          have hf := xif_f h375 hf
          refine mv_lpick [3] rfl ?_
          exact jn383 _ _ r_g3 hf
        · skip
          have hf := xif_t h375 hf
          refine mv_iload_n (pc := 378) B d_Model_shippedField_378 rfl 1 rfl ?_
          refine mv_iconst (pc := 379) (v := 2) B d_Model_shippedField_379 (by decide) ?_
          refine mv_icmp_ne (pc := 380) (tgt := 391) B d_Model_shippedField_380 rfl (fun h380 => ?_) (fun h380 => ?_)
          · skip
            have hf := xif_f h380 hf
            refine mv_ldc2 (pc := 391) (v := -1) B (B.2.2.2.1 _ k_2396) d_Model_shippedField_391 ?_
            exact mv_lret (pc := 394) B hr d_Model_shippedField_394 (Nat.le_refl _) (Nat.le_refl _) ⟨_, rfl, xrh_l hf r_g3⟩
          · skip
            have hf := xif_t h380 hf
            refine mv_lpick [3] rfl ?_
            exact jn383 _ _ r_g3 hf
      have hf := xif_f h87n97 hf
      refine ⟨fun h87 => ?_, fun h87n98 => ?_⟩
      · skip
        have hf := xif_t h87 hf
        show mv_V _ _ _ _ _ _ _ _ _ _ _ _ _ _ _ _ 395 _ _
        refine mv_iload_n (pc := 395) B d_Model_shippedField_395 rfl 4 rfl ?_
        refine mv_if_eq (pc := 396) (tgt := 411) B d_Model_shippedField_396 rfl (fun h396 => ?_) (fun h396 => ?_)
        · skip
          have hf := xif_t h396 hf
          refine mv_iload_n (pc := 411) B d_Model_shippedField_411 rfl 1 rfl ?_
          refine mv_iconst (pc := 412) (v := 2) B d_Model_shippedField_412 (by decide) ?_
          refine mv_icmp_ne (pc := 413) (tgt := 428) B d_Model_shippedField_413 rfl (fun h413 => ?_) (fun h413 => ?_)
          · skip
            have hf := xif_f h413 hf
            refine mv_ldc2 (pc := 428) (v := -1) B (B.2.2.2.1 _ k_2396) d_Model_shippedField_428 ?_
            exact mv_lret (pc := 431) B hr d_Model_shippedField_431 (Nat.le_refl _) (Nat.le_refl _) ⟨_, rfl, xrh_l hf r_g3⟩
          · skip
            have hf := xif_t h413 hf
            refine mv_iload_n (pc := 416) B d_Model_shippedField_416 rfl 3 rfl ?_
            refine mv_bipush (pc := 417) (v := 30) B d_Model_shippedField_417 (by decide) ?_
            refine mv_bipush (pc := 419) (v := 21) B d_Model_shippedField_419 (by decide) ?_
            obtain ⟨u6, g5, eg5, hf⟩ := xhb_e hf
            refine mv_callSi (pc := 421) (n := 3) B (mK_ok sk sv) hNs (ch_Model_piece l hi _ _ _ _ eg5) rfl (ma_goodc kc_Model_piece) (B.2.2.2.1 _ k_2360) (B.2.2.2.1 _ k_2361) (B.2.2.2.1 _ k_12) ⟨by decide +kernel, by decide +kernel, by decide +kernel⟩ rfl d_Model_shippedField_421 rfl (Nat.le_of_ble_eq_true rfl) ⟨by decide, by decide⟩ ⟨by decide, by decide⟩ ⟨by decide, by decide⟩ (mv_noH hno _) (fun w421 σ421 h421 => ?_)
            obtain ⟨rfl, rfl, s_g5⟩ := h421
            have r_g5 : mv_r g5 = mv_r h := s_g5.trans r_g3
            refine mv_i2l (pc := 424) B d_Model_shippedField_424 ?_
            refine mv_goto (pc := 425) (tgt := 431) B d_Model_shippedField_425 rfl ?_
            exact mv_lret (pc := 431) B hr d_Model_shippedField_431 (Nat.le_refl _) (Nat.le_refl _) ⟨_, rfl, xrh_l hf r_g5⟩
        · skip
          have hf := xif_f h396 hf
          refine mv_iload_n (pc := 399) B d_Model_shippedField_399 rfl 3 rfl ?_
          refine mv_bipush (pc := 400) (v := 30) B d_Model_shippedField_400 (by decide) ?_
          refine mv_bipush (pc := 402) (v := 25) B d_Model_shippedField_402 (by decide) ?_
          obtain ⟨u8, g7, eg7, hf⟩ := xhb_e hf
          refine mv_callSi (pc := 404) (n := 3) B (mK_ok sk sv) hNs (ch_Model_piece l hi _ _ _ _ eg7) rfl (ma_goodc kc_Model_piece) (B.2.2.2.1 _ k_2360) (B.2.2.2.1 _ k_2361) (B.2.2.2.1 _ k_12) ⟨by decide +kernel, by decide +kernel, by decide +kernel⟩ rfl d_Model_shippedField_404 rfl (Nat.le_of_ble_eq_true rfl) ⟨by decide, by decide⟩ ⟨by decide, by decide⟩ ⟨by decide, by decide⟩ (mv_noH hno _) (fun w404 σ404 h404 => ?_)
          obtain ⟨rfl, rfl, s_g7⟩ := h404
          have r_g7 : mv_r g7 = mv_r h := s_g7.trans r_g3
          refine mv_i2l (pc := 407) B d_Model_shippedField_407 ?_
          refine mv_goto (pc := 408) (tgt := 431) B d_Model_shippedField_408 rfl ?_
          exact mv_lret (pc := 431) B hr d_Model_shippedField_431 (Nat.le_refl _) (Nat.le_refl _) ⟨_, rfl, xrh_l hf r_g7⟩
      have hf := xif_f h87n98 hf
      refine ⟨fun h87 => ?_, fun h87n99 => ?_⟩
      · skip
        have hf := xif_t h87 hf
        show mv_V _ _ _ _ _ _ _ _ _ _ _ _ _ _ _ _ 432 _ _
        refine mv_iload_n (pc := 432) B d_Model_shippedField_432 rfl 4 rfl ?_
        refine mv_if_eq (pc := 433) (tgt := 448) B d_Model_shippedField_433 rfl (fun h433 => ?_) (fun h433 => ?_)
        · skip
          have hf := xif_t h433 hf
          refine mv_iload_n (pc := 448) B d_Model_shippedField_448 rfl 1 rfl ?_
          refine mv_iconst (pc := 449) (v := 2) B d_Model_shippedField_449 (by decide) ?_
          refine mv_icmp_ne (pc := 450) (tgt := 465) B d_Model_shippedField_450 rfl (fun h450 => ?_) (fun h450 => ?_)
          · skip
            have hf := xif_f h450 hf
            refine mv_ldc2 (pc := 465) (v := -1) B (B.2.2.2.1 _ k_2396) d_Model_shippedField_465 ?_
            exact mv_lret (pc := 468) B hr d_Model_shippedField_468 (Nat.le_refl _) (Nat.le_refl _) ⟨_, rfl, xrh_l hf r_g3⟩
          · skip
            have hf := xif_t h450 hf
            refine mv_iload_n (pc := 453) B d_Model_shippedField_453 rfl 3 rfl ?_
            refine mv_bipush (pc := 454) (v := 20) B d_Model_shippedField_454 (by decide) ?_
            refine mv_bipush (pc := 456) (v := 20) B d_Model_shippedField_456 (by decide) ?_
            obtain ⟨u10, g9, eg9, hf⟩ := xhb_e hf
            refine mv_callSi (pc := 458) (n := 3) B (mK_ok sk sv) hNs (ch_Model_piece l hi _ _ _ _ eg9) rfl (ma_goodc kc_Model_piece) (B.2.2.2.1 _ k_2360) (B.2.2.2.1 _ k_2361) (B.2.2.2.1 _ k_12) ⟨by decide +kernel, by decide +kernel, by decide +kernel⟩ rfl d_Model_shippedField_458 rfl (Nat.le_of_ble_eq_true rfl) ⟨by decide, by decide⟩ ⟨by decide, by decide⟩ ⟨by decide, by decide⟩ (mv_noH hno _) (fun w458 σ458 h458 => ?_)
            obtain ⟨rfl, rfl, s_g9⟩ := h458
            have r_g9 : mv_r g9 = mv_r h := s_g9.trans r_g3
            refine mv_i2l (pc := 461) B d_Model_shippedField_461 ?_
            refine mv_goto (pc := 462) (tgt := 468) B d_Model_shippedField_462 rfl ?_
            exact mv_lret (pc := 468) B hr d_Model_shippedField_468 (Nat.le_refl _) (Nat.le_refl _) ⟨_, rfl, xrh_l hf r_g9⟩
        · skip
          have hf := xif_f h433 hf
          refine mv_iload_n (pc := 436) B d_Model_shippedField_436 rfl 3 rfl ?_
          refine mv_bipush (pc := 437) (v := 11) B d_Model_shippedField_437 (by decide) ?_
          refine mv_bipush (pc := 439) (v := 8) B d_Model_shippedField_439 (by decide) ?_
          obtain ⟨u12, g11, eg11, hf⟩ := xhb_e hf
          refine mv_callSi (pc := 441) (n := 3) B (mK_ok sk sv) hNs (ch_Model_piece l hi _ _ _ _ eg11) rfl (ma_goodc kc_Model_piece) (B.2.2.2.1 _ k_2360) (B.2.2.2.1 _ k_2361) (B.2.2.2.1 _ k_12) ⟨by decide +kernel, by decide +kernel, by decide +kernel⟩ rfl d_Model_shippedField_441 rfl (Nat.le_of_ble_eq_true rfl) ⟨by decide, by decide⟩ ⟨by decide, by decide⟩ ⟨by decide, by decide⟩ (mv_noH hno _) (fun w441 σ441 h441 => ?_)
          obtain ⟨rfl, rfl, s_g11⟩ := h441
          have r_g11 : mv_r g11 = mv_r h := s_g11.trans r_g3
          refine mv_i2l (pc := 444) B d_Model_shippedField_444 ?_
          refine mv_goto (pc := 445) (tgt := 468) B d_Model_shippedField_445 rfl ?_
          exact mv_lret (pc := 468) B hr d_Model_shippedField_468 (Nat.le_refl _) (Nat.le_refl _) ⟨_, rfl, xrh_l hf r_g11⟩
      have hf := xif_f h87n99 hf
      refine ⟨fun h87 => ?_, fun h87n100 => ?_⟩
      · skip
        have hf := xif_t h87 hf
        show mv_V _ _ _ _ _ _ _ _ _ _ _ _ _ _ _ _ 180 _ _
        refine mv_iload_n (pc := 180) B d_Model_shippedField_180 rfl 4 rfl ?_
        refine mv_if_ne (pc := 181) (tgt := 189) B d_Model_shippedField_181 rfl (fun h181 => ?_) (fun h181 => ?_)
        · skip
          have hf := xif_f h181 hf
          refine mv_lpick [] rfl ?_
          exact jn189  _ r_g3 hf
        · skip
          have hf := xif_t h181 hf
          refine mv_iload (pc := 184) B d_Model_shippedField_184 5 rfl ?_
          refine mv_if_eq (pc := 186) (tgt := 195) B d_Model_shippedField_186 rfl (fun h186 => ?_) (fun h186 => ?_)
          · skip
            have hf := xif_t h186 hf
            refine mv_iload_n (pc := 195) B d_Model_shippedField_195 rfl 3 rfl ?_
            refine mv_bipush (pc := 196) (v := 11) B d_Model_shippedField_196 (by decide) ?_
            refine mv_bipush (pc := 198) (v := 7) B d_Model_shippedField_198 (by decide) ?_
            obtain ⟨u14, g13, eg13, hf⟩ := xhb_e hf
            refine mv_callSi (pc := 200) (n := 3) B (mK_ok sk sv) hNs (ch_Model_piece l hi _ _ _ _ eg13) rfl (ma_goodc kc_Model_piece) (B.2.2.2.1 _ k_2360) (B.2.2.2.1 _ k_2361) (B.2.2.2.1 _ k_12) ⟨by decide +kernel, by decide +kernel, by decide +kernel⟩ rfl d_Model_shippedField_200 rfl (Nat.le_of_ble_eq_true rfl) ⟨by decide, by decide⟩ ⟨by decide, by decide⟩ ⟨by decide, by decide⟩ (mv_noH hno _) (fun w200 σ200 h200 => ?_)
            obtain ⟨rfl, rfl, s_g13⟩ := h200
            have r_g13 : mv_r g13 = mv_r h := s_g13.trans r_g3
            refine mv_i2l (pc := 203) B d_Model_shippedField_203 ?_
            exact mv_lret (pc := 204) B hr d_Model_shippedField_204 (Nat.le_refl _) (Nat.le_refl _) ⟨_, rfl, xrh_l hf r_g13⟩
          · skip
            have hf := xif_f h186 hf
            refine mv_lpick [] rfl ?_
            exact jn189  _ r_g3 hf
      have hf := xif_f h87n100 hf
      refine ⟨fun h87 => ?_, fun h87n101 => ?_⟩
      · skip
        have hf := xif_t h87 hf
        show mv_V _ _ _ _ _ _ _ _ _ _ _ _ _ _ _ _ 469 _ _
        refine mv_iload_n (pc := 469) B d_Model_shippedField_469 rfl 4 rfl ?_
        refine mv_if_eq (pc := 470) (tgt := 485) B d_Model_shippedField_470 rfl (fun h470 => ?_) (fun h470 => ?_)
        · skip
          have hf := xif_t h470 hf
          refine mv_iload_n (pc := 485) B d_Model_shippedField_485 rfl 1 rfl ?_
          refine mv_iconst (pc := 486) (v := 2) B d_Model_shippedField_486 (by decide) ?_
          refine mv_icmp_ne (pc := 487) (tgt := 502) B d_Model_shippedField_487 rfl (fun h487 => ?_) (fun h487 => ?_)
          · skip
            have hf := xif_f h487 hf
            refine mv_ldc2 (pc := 502) (v := -1) B (B.2.2.2.1 _ k_2396) d_Model_shippedField_502 ?_
            exact mv_lret (pc := 505) B hr d_Model_shippedField_505 (Nat.le_refl _) (Nat.le_refl _) ⟨_, rfl, xrh_l hf r_g3⟩
          · skip
            have hf := xif_t h487 hf
            refine mv_iload_n (pc := 490) B d_Model_shippedField_490 rfl 3 rfl ?_
            refine mv_bipush (pc := 491) (v := 19) B d_Model_shippedField_491 (by decide) ?_
            refine mv_bipush (pc := 493) (v := 12) B d_Model_shippedField_493 (by decide) ?_
            obtain ⟨u16, g15, eg15, hf⟩ := xhb_e hf
            refine mv_callSi (pc := 495) (n := 3) B (mK_ok sk sv) hNs (ch_Model_piece l hi _ _ _ _ eg15) rfl (ma_goodc kc_Model_piece) (B.2.2.2.1 _ k_2360) (B.2.2.2.1 _ k_2361) (B.2.2.2.1 _ k_12) ⟨by decide +kernel, by decide +kernel, by decide +kernel⟩ rfl d_Model_shippedField_495 rfl (Nat.le_of_ble_eq_true rfl) ⟨by decide, by decide⟩ ⟨by decide, by decide⟩ ⟨by decide, by decide⟩ (mv_noH hno _) (fun w495 σ495 h495 => ?_)
            obtain ⟨rfl, rfl, s_g15⟩ := h495
            have r_g15 : mv_r g15 = mv_r h := s_g15.trans r_g3
            refine mv_i2l (pc := 498) B d_Model_shippedField_498 ?_
            refine mv_goto (pc := 499) (tgt := 505) B d_Model_shippedField_499 rfl ?_
            exact mv_lret (pc := 505) B hr d_Model_shippedField_505 (Nat.le_refl _) (Nat.le_refl _) ⟨_, rfl, xrh_l hf r_g15⟩
        · skip
          have hf := xif_f h470 hf
          refine mv_iload_n (pc := 473) B d_Model_shippedField_473 rfl 3 rfl ?_
          refine mv_bipush (pc := 474) (v := 7) B d_Model_shippedField_474 (by decide) ?_
          refine mv_bipush (pc := 476) (v := 7) B d_Model_shippedField_476 (by decide) ?_
          obtain ⟨u18, g17, eg17, hf⟩ := xhb_e hf
          refine mv_callSi (pc := 478) (n := 3) B (mK_ok sk sv) hNs (ch_Model_piece l hi _ _ _ _ eg17) rfl (ma_goodc kc_Model_piece) (B.2.2.2.1 _ k_2360) (B.2.2.2.1 _ k_2361) (B.2.2.2.1 _ k_12) ⟨by decide +kernel, by decide +kernel, by decide +kernel⟩ rfl d_Model_shippedField_478 rfl (Nat.le_of_ble_eq_true rfl) ⟨by decide, by decide⟩ ⟨by decide, by decide⟩ ⟨by decide, by decide⟩ (mv_noH hno _) (fun w478 σ478 h478 => ?_)
          obtain ⟨rfl, rfl, s_g17⟩ := h478
          have r_g17 : mv_r g17 = mv_r h := s_g17.trans r_g3
          refine mv_i2l (pc := 481) B d_Model_shippedField_481 ?_
          refine mv_goto (pc := 482) (tgt := 505) B d_Model_shippedField_482 rfl ?_
          exact mv_lret (pc := 505) B hr d_Model_shippedField_505 (Nat.le_refl _) (Nat.le_refl _) ⟨_, rfl, xrh_l hf r_g17⟩
      have hf := xif_f h87n101 hf
      refine ⟨fun h87 => ?_, fun h87n102 => ?_⟩
      · skip
        have hf := xif_t h87 hf
        show mv_V _ _ _ _ _ _ _ _ _ _ _ _ _ _ _ _ 506 _ _
        refine mv_lpick [] rfl ?_
        exact jn506  _ r_g3 hf
      have hf := xif_f h87n102 hf
      refine ⟨fun h87 => ?_, fun h87n103 => ?_⟩
      · skip
        have hf := xif_t h87 hf
        show mv_V _ _ _ _ _ _ _ _ _ _ _ _ _ _ _ _ 506 _ _
        refine mv_lpick [] rfl ?_
        exact jn506  _ r_g3 hf
      have hf := xif_f h87n103 hf
      refine ⟨fun h87 => ?_, fun h87n104 => ?_⟩
      · skip
        have hf := xif_t h87 hf
        show mv_V _ _ _ _ _ _ _ _ _ _ _ _ _ _ _ _ 344 _ _
        refine mv_iload_n (pc := 344) B d_Model_shippedField_344 rfl 1 rfl ?_
        refine mv_i2l (pc := 345) B d_Model_shippedField_345 ?_
        refine mv_ldc2 (pc := 346) (v := 24) B (B.2.2.2.1 _ k_2401) d_Model_shippedField_346 ?_
        refine mv_ldc2 (pc := 349) (v := 26) B (B.2.2.2.1 _ k_2402) d_Model_shippedField_349 ?_
        obtain ⟨u20, g19, eg19, hf⟩ := xhb_e hf
        refine mv_callSi (pc := 352) (n := 3) B (mK_ok sk sv) hNs (ch_Model_in l hi _ _ _ _ eg19) rfl (ma_goodc kc_Model_in) (B.2.2.2.1 _ k_2391) (B.2.2.2.1 _ k_2208) (B.2.2.2.1 _ k_12) ⟨by decide +kernel, by decide +kernel, by decide +kernel⟩ rfl d_Model_shippedField_352 rfl (Nat.le_of_ble_eq_true rfl) ⟨by decide, by decide⟩ ⟨by decide, by decide⟩ ⟨by decide, by decide⟩ (mv_noH hno _) (fun w352 σ352 h352 => ?_)
        obtain ⟨rfl, rfl, s_g19⟩ := h352
        have r_g19 : mv_r g19 = mv_r h := s_g19.trans r_g3
        refine mv_if_eq (pc := 355) (tgt := 370) B d_Model_shippedField_355 rfl (fun h355 => ?_) (fun h355 => ?_)
        · skip
          have hf := xif_t h355 hf
          refine mv_ldc2 (pc := 370) (v := -1) B (B.2.2.2.1 _ k_2396) d_Model_shippedField_370 ?_
          exact mv_lret (pc := 373) B hr d_Model_shippedField_373 (Nat.le_refl _) (Nat.le_refl _) ⟨_, rfl, xrh_l hf r_g19⟩
        · skip
          have hf := xif_f h355 hf
          refine mv_iload_n (pc := 358) B d_Model_shippedField_358 rfl 3 rfl ?_
          refine mv_bipush (pc := 359) (v := 24) B d_Model_shippedField_359 (by decide) ?_
          refine mv_bipush (pc := 361) (v := 20) B d_Model_shippedField_361 (by decide) ?_
          obtain ⟨u22, g21, eg21, hf⟩ := xhb_e hf
          refine mv_callSi (pc := 363) (n := 3) B (mK_ok sk sv) hNs (ch_Model_piece l hi _ _ _ _ eg21) rfl (ma_goodc kc_Model_piece) (B.2.2.2.1 _ k_2360) (B.2.2.2.1 _ k_2361) (B.2.2.2.1 _ k_12) ⟨by decide +kernel, by decide +kernel, by decide +kernel⟩ rfl d_Model_shippedField_363 rfl (Nat.le_of_ble_eq_true rfl) ⟨by decide, by decide⟩ ⟨by decide, by decide⟩ ⟨by decide, by decide⟩ (mv_noH hno _) (fun w363 σ363 h363 => ?_)
          obtain ⟨rfl, rfl, s_g21⟩ := h363
          have r_g21 : mv_r g21 = mv_r h := s_g21.trans r_g19
          refine mv_i2l (pc := 366) B d_Model_shippedField_366 ?_
          refine mv_goto (pc := 367) (tgt := 373) B d_Model_shippedField_367 rfl ?_
          exact mv_lret (pc := 373) B hr d_Model_shippedField_373 (Nat.le_refl _) (Nat.le_refl _) ⟨_, rfl, xrh_l hf r_g21⟩
      have hf := xif_f h87n104 hf
      refine ⟨fun h87 => ?_, fun h87n105 => ?_⟩
      · skip
        have hf := xif_t h87 hf
        show mv_V _ _ _ _ _ _ _ _ _ _ _ _ _ _ _ _ 256 _ _
        refine mv_iload (pc := 256) B d_Model_shippedField_256 6 rfl ?_
        refine mv_if_eq (pc := 258) (tgt := 267) B d_Model_shippedField_258 rfl (fun h258 => ?_) (fun h258 => ?_)
        · skip
          have hf := xif_t h258 hf
          refine mv_iload (pc := 267) B d_Model_shippedField_267 5 rfl ?_
          refine mv_if_eq (pc := 269) (tgt := 278) B d_Model_shippedField_269 rfl (fun h269 => ?_) (fun h269 => ?_)
          · skip
            have hf := xif_t h269 hf
            refine mv_iload_n (pc := 278) B d_Model_shippedField_278 rfl 1 rfl ?_
            refine mv_iconst (pc := 279) (v := 3) B d_Model_shippedField_279 (by decide) ?_
            refine mv_icmp_eq (pc := 280) (tgt := 311) B d_Model_shippedField_280 rfl (fun h280 => ?_) (fun h280 => ?_)
            · skip
              have hf := xif_t h280 hf
              refine mv_lpick [3] rfl ?_
              exact jn311 _ _ r_g3 hf
            · skip
              have hf := xif_f h280 hf
              refine mv_iload_n (pc := 283) B d_Model_shippedField_283 rfl 1 rfl ?_
              refine mv_i2l (pc := 284) B d_Model_shippedField_284 ?_
              refine mv_ldc2 (pc := 285) (v := 10) B (B.2.2.2.1 _ k_2397) d_Model_shippedField_285 ?_
              refine mv_ldc2 (pc := 288) (v := 14) B (B.2.2.2.1 _ k_2398) d_Model_shippedField_288 ?_
              obtain ⟨u24, g23, eg23, hf⟩ := xhb_e hf
              refine mv_callSi (pc := 291) (n := 3) B (mK_ok sk sv) hNs (ch_Model_in l hi _ _ _ _ eg23) rfl (ma_goodc kc_Model_in) (B.2.2.2.1 _ k_2391) (B.2.2.2.1 _ k_2208) (B.2.2.2.1 _ k_12) ⟨by decide +kernel, by decide +kernel, by decide +kernel⟩ rfl d_Model_shippedField_291 rfl (Nat.le_of_ble_eq_true rfl) ⟨by decide, by decide⟩ ⟨by decide, by decide⟩ ⟨by decide, by decide⟩ (mv_noH hno _) (fun w291 σ291 h291 => ?_)
              obtain ⟨rfl, rfl, s_g23⟩ := h291
              have r_g23 : mv_r g23 = mv_r h := s_g23.trans r_g3
              refine mv_if_ne (pc := 294) (tgt := 311) B d_Model_shippedField_294 rfl (fun h294 => ?_) (fun h294 => ?_)
              · skip
                have hf := xif_f h294 hf
                refine mv_lpick [3] rfl ?_
                exact jn311 _ _ r_g23 hf
              · skip
                have hf := xif_t h294 hf
                refine mv_iload_n (pc := 297) B d_Model_shippedField_297 rfl 1 rfl ?_
                refine mv_i2l (pc := 298) B d_Model_shippedField_298 ?_
                refine mv_ldc2 (pc := 299) (v := 18) B (B.2.2.2.1 _ k_2399) d_Model_shippedField_299 ?_
                refine mv_ldc2 (pc := 302) (v := 23) B (B.2.2.2.1 _ k_2400) d_Model_shippedField_302 ?_
                obtain ⟨u26, g25, eg25, hf⟩ := xhb_e hf
                refine mv_callSi (pc := 305) (n := 3) B (mK_ok sk sv) hNs (ch_Model_in l hi _ _ _ _ eg25) rfl (ma_goodc kc_Model_in) (B.2.2.2.1 _ k_2391) (B.2.2.2.1 _ k_2208) (B.2.2.2.1 _ k_12) ⟨by decide +kernel, by decide +kernel, by decide +kernel⟩ rfl d_Model_shippedField_305 rfl (Nat.le_of_ble_eq_true rfl) ⟨by decide, by decide⟩ ⟨by decide, by decide⟩ ⟨by decide, by decide⟩ (mv_noH hno _) (fun w305 σ305 h305 => ?_)
                obtain ⟨rfl, rfl, s_g25⟩ := h305
                have r_g25 : mv_r g25 = mv_r h := s_g25.trans r_g23
                refine mv_if_eq (pc := 308) (tgt := 319) B d_Model_shippedField_308 rfl (fun h308 => ?_) (fun h308 => ?_)
                · skip
                  have hf := xif_t h308 hf
                  refine mv_ldc2 (pc := 319) (v := -1) B (B.2.2.2.1 _ k_2396) d_Model_shippedField_319 ?_
                  exact mv_lret (pc := 322) B hr d_Model_shippedField_322 (Nat.le_refl _) (Nat.le_refl _) ⟨_, rfl, xrh_l hf r_g25⟩
                · skip
                  have hf := xif_f h308 hf
                  refine mv_lpick [3] rfl ?_
                  exact jn311 _ _ r_g25 hf
          · skip
            have hf := xif_f h269 hf
            refine mv_iload_n (pc := 272) B d_Model_shippedField_272 rfl 3 rfl ?_
            refine mv_bipush (pc := 273) (v := 25) B d_Model_shippedField_273 (by decide) ?_
            refine mv_iushr (pc := 275) B d_Model_shippedField_275 ?_
            refine mv_i2l (pc := 276) B d_Model_shippedField_276 ?_
            exact mv_lret (pc := 277) B hr d_Model_shippedField_277 (Nat.le_refl _) (Nat.le_refl _) ⟨_, rfl, xrh_l hf r_g3⟩
        · skip
          have hf := xif_f h258 hf
          refine mv_iload_n (pc := 261) B d_Model_shippedField_261 rfl 3 rfl ?_
          refine mv_bipush (pc := 262) (v := 12) B d_Model_shippedField_262 (by decide) ?_
          refine mv_iushr (pc := 264) B d_Model_shippedField_264 ?_
          refine mv_i2l (pc := 265) B d_Model_shippedField_265 ?_
          exact mv_lret (pc := 266) B hr d_Model_shippedField_266 (Nat.le_refl _) (Nat.le_refl _) ⟨_, rfl, xrh_l hf r_g3⟩
      have hf := xif_f h87n105 hf
      refine ⟨fun h87 => ?_, fun h87n106 => ?_⟩
      · skip
        have hf := xif_t h87 hf
        show mv_V _ _ _ _ _ _ _ _ _ _ _ _ _ _ _ _ 323 _ _
        refine mv_iload (pc := 323) B d_Model_shippedField_323 5 rfl ?_
        refine mv_if_eq (pc := 325) (tgt := 340) B d_Model_shippedField_325 rfl (fun h325 => ?_) (fun h325 => ?_)
        · skip
          have hf := xif_t h325 hf
          refine mv_ldc2 (pc := 340) (v := -1) B (B.2.2.2.1 _ k_2396) d_Model_shippedField_340 ?_
          exact mv_lret (pc := 343) B hr d_Model_shippedField_343 (Nat.le_refl _) (Nat.le_refl _) ⟨_, rfl, xrh_l hf r_g3⟩
        · skip
          have hf := xif_f h325 hf
          refine mv_iload_n (pc := 328) B d_Model_shippedField_328 rfl 3 rfl ?_
          refine mv_bipush (pc := 329) (v := 11) B d_Model_shippedField_329 (by decide) ?_
          refine mv_bipush (pc := 331) (v := 7) B d_Model_shippedField_331 (by decide) ?_
          obtain ⟨u28, g27, eg27, hf⟩ := xhb_e hf
          refine mv_callSi (pc := 333) (n := 3) B (mK_ok sk sv) hNs (ch_Model_piece l hi _ _ _ _ eg27) rfl (ma_goodc kc_Model_piece) (B.2.2.2.1 _ k_2360) (B.2.2.2.1 _ k_2361) (B.2.2.2.1 _ k_12) ⟨by decide +kernel, by decide +kernel, by decide +kernel⟩ rfl d_Model_shippedField_333 rfl (Nat.le_of_ble_eq_true rfl) ⟨by decide, by decide⟩ ⟨by decide, by decide⟩ ⟨by decide, by decide⟩ (mv_noH hno _) (fun w333 σ333 h333 => ?_)
          obtain ⟨rfl, rfl, s_g27⟩ := h333
          have r_g27 : mv_r g27 = mv_r h := s_g27.trans r_g3
          refine mv_i2l (pc := 336) B d_Model_shippedField_336 ?_
          refine mv_goto (pc := 337) (tgt := 343) B d_Model_shippedField_337 rfl ?_
          exact mv_lret (pc := 343) B hr d_Model_shippedField_343 (Nat.le_refl _) (Nat.le_refl _) ⟨_, rfl, xrh_l hf r_g27⟩
      have hf := xif_f h87n106 hf
      refine ⟨fun h87 => ?_, fun h87n107 => ?_⟩
      · skip
        have hf := xif_t h87 hf
        show mv_V _ _ _ _ _ _ _ _ _ _ _ _ _ _ _ _ 506 _ _
        refine mv_lpick [] rfl ?_
        exact jn506  _ r_g3 hf
      have hf := xif_f h87n107 hf
      refine ⟨fun h87 => ?_, fun h87n108 => ?_⟩
      · skip
        have hf := xif_t h87 hf
        show mv_V _ _ _ _ _ _ _ _ _ _ _ _ _ _ _ _ 506 _ _
        refine mv_lpick [] rfl ?_
        exact jn506  _ r_g3 hf
      have hf := xif_f h87n108 hf
      refine ⟨fun h87 => ?_, fun h87n109 => ?_⟩
      · skip
        have hf := xif_t h87 hf
        show mv_V _ _ _ _ _ _ _ _ _ _ _ _ _ _ _ _ 506 _ _
        refine mv_lpick [] rfl ?_
        exact jn506  _ r_g3 hf
      have hf := xif_f h87n109 hf
      refine ⟨fun h87 => ?_, fun h87n110 => ?_⟩
      · skip
        have hf := xif_t h87 hf
        show mv_V _ _ _ _ _ _ _ _ _ _ _ _ _ _ _ _ 506 _ _
        refine mv_lpick [] rfl ?_
        exact jn506  _ r_g3 hf
      have hf := xif_f h87n110 hf
      refine ⟨fun h87 => ?_, fun h87n111 => ?_⟩
      · skip
        have hf := xif_t h87 hf
        show mv_V _ _ _ _ _ _ _ _ _ _ _ _ _ _ _ _ 506 _ _
        refine mv_lpick [] rfl ?_
        exact jn506  _ r_g3 hf
      have hf := xif_f h87n111 hf
      refine ⟨fun h87 => ?_, fun h87n112 => ?_⟩
      · skip
        have hf := xif_t h87 hf
        show mv_V _ _ _ _ _ _ _ _ _ _ _ _ _ _ _ _ 506 _ _
        refine mv_lpick [] rfl ?_
        exact jn506  _ r_g3 hf
      have hf := xif_f h87n112 hf
      refine ⟨fun h87 => ?_, fun h87n113 => ?_⟩
      · skip
        have hf := xif_t h87 hf
        show mv_V _ _ _ _ _ _ _ _ _ _ _ _ _ _ _ _ 506 _ _
        refine mv_lpick [] rfl ?_
        exact jn506  _ r_g3 hf
      have hf := xif_f h87n113 hf
      refine ⟨fun h87 => ?_, fun h87n114 => ?_⟩
      · skip
        have hf := xif_t h87 hf
        show mv_V _ _ _ _ _ _ _ _ _ _ _ _ _ _ _ _ 506 _ _
        refine mv_lpick [] rfl ?_
        exact jn506  _ r_g3 hf
      have hf := xif_f h87n114 hf
      refine ⟨fun h87 => ?_, fun h87n115 => ?_⟩
      · skip
        have hf := xif_t h87 hf
        show mv_V _ _ _ _ _ _ _ _ _ _ _ _ _ _ _ _ 205 _ _
        refine mv_iload_n (pc := 205) B d_Model_shippedField_205 rfl 1 rfl ?_
        refine mv_iconst (pc := 206) (v := 3) B d_Model_shippedField_206 (by decide) ?_
        refine mv_icmp_ge (pc := 207) (tgt := 216) B d_Model_shippedField_207 rfl (fun h207 => ?_) (fun h207 => ?_)
        · skip
          have hf := xif_t h207 hf
          refine mv_iload_n (pc := 216) B d_Model_shippedField_216 rfl 3 rfl ?_
          refine mv_bipush (pc := 217) (v := 19) B d_Model_shippedField_217 (by decide) ?_
          refine mv_bipush (pc := 219) (v := 15) B d_Model_shippedField_219 (by decide) ?_
          obtain ⟨u30, g29, eg29, hf⟩ := xhb_e hf
          refine mv_callSi (pc := 221) (n := 3) B (mK_ok sk sv) hNs (ch_Model_piece l hi _ _ _ _ eg29) rfl (ma_goodc kc_Model_piece) (B.2.2.2.1 _ k_2360) (B.2.2.2.1 _ k_2361) (B.2.2.2.1 _ k_12) ⟨by decide +kernel, by decide +kernel, by decide +kernel⟩ rfl d_Model_shippedField_221 rfl (Nat.le_of_ble_eq_true rfl) ⟨by decide, by decide⟩ ⟨by decide, by decide⟩ ⟨by decide, by decide⟩ (mv_noH hno _) (fun w221 σ221 h221 => ?_)
          obtain ⟨rfl, rfl, s_g29⟩ := h221
          have r_g29 : mv_r g29 = mv_r h := s_g29.trans r_g3
          refine mv_i2l (pc := 224) B d_Model_shippedField_224 ?_
          exact mv_lret (pc := 225) B hr d_Model_shippedField_225 (Nat.le_refl _) (Nat.le_refl _) ⟨_, rfl, xrh_l hf r_g29⟩
        · skip
          have hf := xif_f h207 hf
          refine mv_ldc2 (pc := 210) (v := -1) B (B.2.2.2.1 _ k_2396) d_Model_shippedField_210 ?_
          refine mv_goto (pc := 213) (tgt := 225) B d_Model_shippedField_213 rfl ?_
          exact mv_lret (pc := 225) B hr d_Model_shippedField_225 (Nat.le_refl _) (Nat.le_refl _) ⟨_, rfl, xrh_l hf r_g3⟩
      have hf := xif_f h87n115 hf
      refine ⟨fun h87 => ?_, fun h87n116 => ?_⟩
      · skip
        have hf := xif_t h87 hf
        show mv_V _ _ _ _ _ _ _ _ _ _ _ _ _ _ _ _ 226 _ _
        refine mv_iload_n (pc := 226) B d_Model_shippedField_226 rfl 4 rfl ?_
        refine mv_if_ne (pc := 227) (tgt := 240) B d_Model_shippedField_227 rfl (fun h227 => ?_) (fun h227 => ?_)
        · skip
          have hf := xif_f h227 hf
          refine mv_lpick [3] rfl ?_
          exact jn240 _ _ r_g3 hf
        · skip
          have hf := xif_t h227 hf
          refine mv_iload (pc := 230) B d_Model_shippedField_230 5 rfl ?_
          refine mv_if_ne (pc := 232) (tgt := 240) B d_Model_shippedField_232 rfl (fun h232 => ?_) (fun h232 => ?_)
          · skip
            have hf := xif_f h232 hf
            refine mv_lpick [3] rfl ?_
            exact jn240 _ _ r_g3 hf
          · skip
            have hf := xif_t h232 hf
            refine mv_iload (pc := 235) B d_Model_shippedField_235 0 rfl ?_
            refine mv_if_eq (pc := 237) (tgt := 252) B d_Model_shippedField_237 rfl (fun h237 => ?_) (fun h237 => ?_)
            · skip
              have hf := xif_t h237 hf
              refine mv_ldc2 (pc := 252) (v := -1) B (B.2.2.2.1 _ k_2396) d_Model_shippedField_252 ?_
              exact mv_lret (pc := 255) B hr d_Model_shippedField_255 (Nat.le_refl _) (Nat.le_refl _) ⟨_, rfl, xrh_l hf r_g3⟩
            · skip
              have hf := xif_f h237 hf
              refine mv_lpick [3] rfl ?_
              exact jn240 _ _ r_g3 hf
      have hf := xif_f h87n116 hf
      show mv_V _ _ _ _ _ _ _ _ _ _ _ _ _ _ _ _ 506 _ _
      refine mv_lpick [] rfl ?_
      exact jn506  _ r_g3 hf
    · skip
      have hf := xif_f h79 hf
      refine mv_ldc2 (pc := 82) (v := -1) B (B.2.2.2.1 _ k_2396) d_Model_shippedField_82 ?_
      exact mv_lret (pc := 85) B hr d_Model_shippedField_85 (Nat.le_refl _) (Nat.le_refl _) ⟨_, rfl, xrh_l hf r_g3⟩
  have jn65 : ∀ (x0 : Int32) (x1 : Int32) (x2 : Int32) (x3 : Int32) (x4 : Int32) (x5 : Int32) (hz : mv_H), mv_r hz = mv_r h → f_Model_shippedField_65 x0 x1 x2 x3 x4 x5 hz = some (rv, rg) → mv_V p l e ({ frames := 1, cells := 0, slots := 0, locals := 25 }) s m ([.int a0, .int a1, .int a2] : List Value).toArray below meth c (mg dA D al ext) 7 0 0 (mv_Q (mg dA D al ext) below s 0 0 (mv_Rl (fun v σ1 => rv = v ∧ rg = σ1 ∧ mv_r σ1 = mv_r h))) hz 65 [(0, .int x0), (1, .int x1), (2, .int x2), (3, .int x3), (4, .int x4), (5, .int x5)] [] := by
    intro x0 x1 x2 x3 x4 x5 hz r_hz hf
    unfold f_Model_shippedField_65 at hf
    refine mv_iconst (pc := 65) (v := 0) B d_Model_shippedField_65 (by decide) ?_
    refine mv_lpick [0, 1, 2, 3, 4, 5] rfl ?_
    exact jn66 _ _ _ _ _ _ _ _ r_hz hf
  have jn35 : ∀ (x0 : Int32) (x1 : Int32) (x2 : Int32) (x3 : Int32) (x4 : Int32) (y0 : Int32) (hz : mv_H), mv_r hz = mv_r h → f_Model_shippedField_35 x0 x1 x2 x3 x4 y0 hz = some (rv, rg) → mv_V p l e ({ frames := 1, cells := 0, slots := 0, locals := 25 }) s m ([.int a0, .int a1, .int a2] : List Value).toArray below meth c (mg dA D al ext) 7 0 0 (mv_Q (mg dA D al ext) below s 0 0 (mv_Rl (fun v σ1 => rv = v ∧ rg = σ1 ∧ mv_r σ1 = mv_r h))) hz 35 [(0, .int x0), (1, .int x1), (2, .int x2), (3, .int x3), (4, .int x4)] [.int y0] := by
    intro x0 x1 x2 x3 x4 y0 hz r_hz hf
    unfold f_Model_shippedField_35 at hf
    refine mv_istore (pc := 35) B d_Model_shippedField_35 (by decide) rfl ?_
    refine mv_iload_n (pc := 37) B d_Model_shippedField_37 rfl 1 rfl ?_
    refine mv_bipush (pc := 38) (v := 27) B d_Model_shippedField_38 (by decide) ?_
    refine mv_icmp_lt (pc := 40) (tgt := 65) B d_Model_shippedField_40 rfl (fun h40 => ?_) (fun h40 => ?_)
    · skip
      have hf := xif_t h40 hf
      refine mv_lpick [1, 2, 3, 4, 5, 0] rfl ?_
      exact jn65 _ _ _ _ _ _ _ r_hz hf
    · skip
      have hf := xif_f h40 hf
      refine mv_iload_n (pc := 43) B d_Model_shippedField_43 rfl 1 rfl ?_
      refine mv_bipush (pc := 44) (v := 37) B d_Model_shippedField_44 (by decide) ?_
      refine mv_icmp_eq (pc := 46) (tgt := 65) B d_Model_shippedField_46 rfl (fun h46 => ?_) (fun h46 => ?_)
      · skip
        have hf := xif_t h46 hf
        refine mv_lpick [1, 2, 3, 4, 5, 0] rfl ?_
        exact jn65 _ _ _ _ _ _ _ r_hz hf
      · skip
        have hf := xif_f h46 hf
        refine mv_iload_n (pc := 49) B d_Model_shippedField_49 rfl 1 rfl ?_
        refine mv_bipush (pc := 50) (v := 38) B d_Model_shippedField_50 (by decide) ?_
        refine mv_icmp_eq (pc := 52) (tgt := 65) B d_Model_shippedField_52 rfl (fun h52 => ?_) (fun h52 => ?_)
        · skip
          have hf := xif_t h52 hf
          refine mv_lpick [1, 2, 3, 4, 5, 0] rfl ?_
          exact jn65 _ _ _ _ _ _ _ r_hz hf
        · skip
          have hf := xif_f h52 hf
          refine mv_iload_n (pc := 55) B d_Model_shippedField_55 rfl 1 rfl ?_
          refine mv_bipush (pc := 56) (v := 39) B d_Model_shippedField_56 (by decide) ?_
          refine mv_icmp_eq (pc := 58) (tgt := 65) B d_Model_shippedField_58 rfl (fun h58 => ?_) (fun h58 => ?_)
          · skip
            have hf := xif_t h58 hf
            refine mv_lpick [1, 2, 3, 4, 5, 0] rfl ?_
            exact jn65 _ _ _ _ _ _ _ r_hz hf
          · skip
            have hf := xif_f h58 hf
            refine mv_iconst (pc := 61) (v := 1) B d_Model_shippedField_61 (by decide) ?_
            refine mv_goto (pc := 62) (tgt := 66) B d_Model_shippedField_62 rfl ?_
            refine mv_lpick [1, 2, 3, 4, 5, 0] rfl ?_
            exact jn66 _ _ _ _ _ _ _ _ r_hz hf
  unfold f_Model_shippedField at hf
  refine mv_iload_n (pc := 0) B d_Model_shippedField_0 rfl 0 rfl ?_
  refine mv_i2l (pc := 1) B d_Model_shippedField_1 ?_
  refine mv_ldc2 (pc := 2) (v := 4) B (B.2.2.2.1 _ k_2389) d_Model_shippedField_2 ?_
  refine mv_ldc2 (pc := 5) (v := 9) B (B.2.2.2.1 _ k_2390) d_Model_shippedField_5 ?_
  obtain ⟨u32, g31, eg31, hf⟩ := xhb_e hf
  refine mv_callSi (pc := 8) (n := 3) B (mK_ok sk sv) hNs (ch_Model_in l hi _ _ _ _ eg31) rfl (ma_goodc kc_Model_in) (B.2.2.2.1 _ k_2391) (B.2.2.2.1 _ k_2208) (B.2.2.2.1 _ k_12) ⟨by decide +kernel, by decide +kernel, by decide +kernel⟩ rfl d_Model_shippedField_8 rfl (Nat.le_of_ble_eq_true rfl) ⟨by decide, by decide⟩ ⟨by decide, by decide⟩ ⟨by decide, by decide⟩ (mv_noH hno _) (fun w8 σ8 h8 => ?_)
  obtain ⟨rfl, rfl, s_g31⟩ := h8
  have r_g31 : mv_r g31 = mv_r h := s_g31.trans rfl
  refine mv_istore_n (pc := 11) B d_Model_shippedField_11 rfl (by decide) rfl ?_
  refine mv_iload_n (pc := 12) B d_Model_shippedField_12 rfl 1 rfl ?_
  refine mv_i2l (pc := 13) B d_Model_shippedField_13 ?_
  refine mv_ldc2 (pc := 14) (v := 15) B (B.2.2.2.1 _ k_2392) d_Model_shippedField_14 ?_
  refine mv_ldc2 (pc := 17) (v := 17) B (B.2.2.2.1 _ k_2393) d_Model_shippedField_17 ?_
  obtain ⟨u34, g33, eg33, hf⟩ := xhb_e hf
  refine mv_callSi (pc := 20) (n := 3) B (mK_ok sk sv) hNs (ch_Model_in l hi _ _ _ _ eg33) rfl (ma_goodc kc_Model_in) (B.2.2.2.1 _ k_2391) (B.2.2.2.1 _ k_2208) (B.2.2.2.1 _ k_12) ⟨by decide +kernel, by decide +kernel, by decide +kernel⟩ rfl d_Model_shippedField_20 rfl (Nat.le_of_ble_eq_true rfl) ⟨by decide, by decide⟩ ⟨by decide, by decide⟩ ⟨by decide, by decide⟩ (mv_noH hno _) (fun w20 σ20 h20 => ?_)
  obtain ⟨rfl, rfl, s_g33⟩ := h20
  have r_g33 : mv_r g33 = mv_r h := s_g33.trans r_g31
  refine mv_istore (pc := 23) B d_Model_shippedField_23 (by decide) rfl ?_
  refine mv_iload_n (pc := 25) B d_Model_shippedField_25 rfl 2 rfl ?_
  refine mv_iconst (pc := 26) (v := 2) B d_Model_shippedField_26 (by decide) ?_
  refine mv_icmp_ge (pc := 27) (tgt := 34) B d_Model_shippedField_27 rfl (fun h27 => ?_) (fun h27 => ?_)
  · skip
    have hf := xif_t h27 hf
    refine mv_iconst (pc := 34) (v := 0) B d_Model_shippedField_34 (by decide) ?_
    refine mv_lpick [2, 3, 4, 1, 0] rfl ?_
    exact jn35 _ _ _ _ _ _ _ r_g33 hf
  · skip
    have hf := xif_f h27 hf
    refine mv_iconst (pc := 30) (v := 1) B d_Model_shippedField_30 (by decide) ?_
    refine mv_goto (pc := 31) (tgt := 35) B d_Model_shippedField_31 rfl ?_
    refine mv_lpick [2, 3, 4, 1, 0] rfl ?_
    exact jn35 _ _ _ _ _ _ _ r_g33 hf
/-! the reference's field, exactly -/
/-- the value of shippedField -/
def pcV (w : Int32) (hi lo : Nat) : Int64 := if hi = 31 then ((w.toUInt32 >>> ((nI lo).toUInt32 &&& Int32.toUInt32 31)).toInt32).toInt64 else (((w.toUInt32 >>> ((nI lo).toUInt32 &&& Int32.toUInt32 31)).toInt32) &&& (((1 : Int32) <<< (((nI hi - nI lo) + (1 : Int32)) &&& 31)) - (1 : Int32))).toInt64
def sv9 (k c : Nat) (w : Int32) : Int64 := match shL k c with
  | none => -1
  | some x => pcV w x.1 x.2
def shV (k : Nat) (c w : Int32) : Int64 := if 97 ≤ c.toInt ∧ c.toInt ≤ 116 then sv9 k c.toNatClampNeg w else -1
def svO (k : Nat) (c w : Int32) (h : mv_H) : Option (Int64 × mv_H) := if c.toInt = 97 then some (sv9 k 97 w, h) else (if c.toInt = 98 then some (sv9 k 98 w, h) else (if c.toInt = 99 then some (sv9 k 99 w, h) else (if c.toInt = 100 then some (sv9 k 100 w, h) else (if c.toInt = 101 then some (sv9 k 101 w, h) else (if c.toInt = 102 then some (sv9 k 102 w, h) else (if c.toInt = 103 then some (sv9 k 103 w, h) else (if c.toInt = 104 then some (sv9 k 104 w, h) else (if c.toInt = 105 then some (sv9 k 105 w, h) else (if c.toInt = 106 then some (sv9 k 106 w, h) else (if c.toInt = 107 then some (sv9 k 107 w, h) else (if c.toInt = 108 then some (sv9 k 108 w, h) else (if c.toInt = 109 then some (sv9 k 109 w, h) else (if c.toInt = 110 then some (sv9 k 110 w, h) else (if c.toInt = 111 then some (sv9 k 111 w, h) else (if c.toInt = 112 then some (sv9 k 112 w, h) else (if c.toInt = 113 then some (sv9 k 113 w, h) else (if c.toInt = 114 then some (sv9 k 114 w, h) else (if c.toInt = 115 then some (sv9 k 115 w, h) else (if c.toInt = 116 then some (sv9 k 116 w, h) else (some ((-1 : Int64), h)))))))))))))))))))))
theorem svO_e (k : Nat) (c w : Int32) (h : mv_H) : svO k c w h = some (shV k c w, h) := by
  unfold svO shV
  by_cases z : 97 ≤ c.toInt ∧ c.toInt ≤ 116
  · rw [if_pos z]
    have a := i32_cl (x := c) (by omega)
    have go : ∀ n : Nat, c.toInt = n → c.toNatClampNeg = n := fun n e => by omega
    rcases (show c.toInt = 97 ∨ c.toInt = 98 ∨ c.toInt = 99 ∨ c.toInt = 100 ∨ c.toInt = 101 ∨ c.toInt = 102 ∨ c.toInt = 103 ∨ c.toInt = 104 ∨ c.toInt = 105 ∨ c.toInt = 106 ∨ c.toInt = 107 ∨ c.toInt = 108 ∨ c.toInt = 109 ∨ c.toInt = 110 ∨ c.toInt = 111 ∨ c.toInt = 112 ∨ c.toInt = 113 ∨ c.toInt = 114 ∨ c.toInt = 115 ∨ c.toInt = 116 by omega) with e | e | e | e | e | e | e | e | e | e | e | e | e | e | e | e | e | e | e | e
    · rw [go 97 e, if_pos e]
    · rw [go 98 e, if_neg (show ¬ c.toInt = 97 by omega), if_pos e]
    · rw [go 99 e, if_neg (show ¬ c.toInt = 97 by omega), if_neg (show ¬ c.toInt = 98 by omega), if_pos e]
    · rw [go 100 e, if_neg (show ¬ c.toInt = 97 by omega), if_neg (show ¬ c.toInt = 98 by omega), if_neg (show ¬ c.toInt = 99 by omega), if_pos e]
    · rw [go 101 e, if_neg (show ¬ c.toInt = 97 by omega), if_neg (show ¬ c.toInt = 98 by omega), if_neg (show ¬ c.toInt = 99 by omega), if_neg (show ¬ c.toInt = 100 by omega), if_pos e]
    · rw [go 102 e, if_neg (show ¬ c.toInt = 97 by omega), if_neg (show ¬ c.toInt = 98 by omega), if_neg (show ¬ c.toInt = 99 by omega), if_neg (show ¬ c.toInt = 100 by omega), if_neg (show ¬ c.toInt = 101 by omega), if_pos e]
    · rw [go 103 e, if_neg (show ¬ c.toInt = 97 by omega), if_neg (show ¬ c.toInt = 98 by omega), if_neg (show ¬ c.toInt = 99 by omega), if_neg (show ¬ c.toInt = 100 by omega), if_neg (show ¬ c.toInt = 101 by omega), if_neg (show ¬ c.toInt = 102 by omega), if_pos e]
    · rw [go 104 e, if_neg (show ¬ c.toInt = 97 by omega), if_neg (show ¬ c.toInt = 98 by omega), if_neg (show ¬ c.toInt = 99 by omega), if_neg (show ¬ c.toInt = 100 by omega), if_neg (show ¬ c.toInt = 101 by omega), if_neg (show ¬ c.toInt = 102 by omega), if_neg (show ¬ c.toInt = 103 by omega), if_pos e]
    · rw [go 105 e, if_neg (show ¬ c.toInt = 97 by omega), if_neg (show ¬ c.toInt = 98 by omega), if_neg (show ¬ c.toInt = 99 by omega), if_neg (show ¬ c.toInt = 100 by omega), if_neg (show ¬ c.toInt = 101 by omega), if_neg (show ¬ c.toInt = 102 by omega), if_neg (show ¬ c.toInt = 103 by omega), if_neg (show ¬ c.toInt = 104 by omega), if_pos e]
    · rw [go 106 e, if_neg (show ¬ c.toInt = 97 by omega), if_neg (show ¬ c.toInt = 98 by omega), if_neg (show ¬ c.toInt = 99 by omega), if_neg (show ¬ c.toInt = 100 by omega), if_neg (show ¬ c.toInt = 101 by omega), if_neg (show ¬ c.toInt = 102 by omega), if_neg (show ¬ c.toInt = 103 by omega), if_neg (show ¬ c.toInt = 104 by omega), if_neg (show ¬ c.toInt = 105 by omega), if_pos e]
    · rw [go 107 e, if_neg (show ¬ c.toInt = 97 by omega), if_neg (show ¬ c.toInt = 98 by omega), if_neg (show ¬ c.toInt = 99 by omega), if_neg (show ¬ c.toInt = 100 by omega), if_neg (show ¬ c.toInt = 101 by omega), if_neg (show ¬ c.toInt = 102 by omega), if_neg (show ¬ c.toInt = 103 by omega), if_neg (show ¬ c.toInt = 104 by omega), if_neg (show ¬ c.toInt = 105 by omega), if_neg (show ¬ c.toInt = 106 by omega), if_pos e]
    · rw [go 108 e, if_neg (show ¬ c.toInt = 97 by omega), if_neg (show ¬ c.toInt = 98 by omega), if_neg (show ¬ c.toInt = 99 by omega), if_neg (show ¬ c.toInt = 100 by omega), if_neg (show ¬ c.toInt = 101 by omega), if_neg (show ¬ c.toInt = 102 by omega), if_neg (show ¬ c.toInt = 103 by omega), if_neg (show ¬ c.toInt = 104 by omega), if_neg (show ¬ c.toInt = 105 by omega), if_neg (show ¬ c.toInt = 106 by omega), if_neg (show ¬ c.toInt = 107 by omega), if_pos e]
    · rw [go 109 e, if_neg (show ¬ c.toInt = 97 by omega), if_neg (show ¬ c.toInt = 98 by omega), if_neg (show ¬ c.toInt = 99 by omega), if_neg (show ¬ c.toInt = 100 by omega), if_neg (show ¬ c.toInt = 101 by omega), if_neg (show ¬ c.toInt = 102 by omega), if_neg (show ¬ c.toInt = 103 by omega), if_neg (show ¬ c.toInt = 104 by omega), if_neg (show ¬ c.toInt = 105 by omega), if_neg (show ¬ c.toInt = 106 by omega), if_neg (show ¬ c.toInt = 107 by omega), if_neg (show ¬ c.toInt = 108 by omega), if_pos e]
    · rw [go 110 e, if_neg (show ¬ c.toInt = 97 by omega), if_neg (show ¬ c.toInt = 98 by omega), if_neg (show ¬ c.toInt = 99 by omega), if_neg (show ¬ c.toInt = 100 by omega), if_neg (show ¬ c.toInt = 101 by omega), if_neg (show ¬ c.toInt = 102 by omega), if_neg (show ¬ c.toInt = 103 by omega), if_neg (show ¬ c.toInt = 104 by omega), if_neg (show ¬ c.toInt = 105 by omega), if_neg (show ¬ c.toInt = 106 by omega), if_neg (show ¬ c.toInt = 107 by omega), if_neg (show ¬ c.toInt = 108 by omega), if_neg (show ¬ c.toInt = 109 by omega), if_pos e]
    · rw [go 111 e, if_neg (show ¬ c.toInt = 97 by omega), if_neg (show ¬ c.toInt = 98 by omega), if_neg (show ¬ c.toInt = 99 by omega), if_neg (show ¬ c.toInt = 100 by omega), if_neg (show ¬ c.toInt = 101 by omega), if_neg (show ¬ c.toInt = 102 by omega), if_neg (show ¬ c.toInt = 103 by omega), if_neg (show ¬ c.toInt = 104 by omega), if_neg (show ¬ c.toInt = 105 by omega), if_neg (show ¬ c.toInt = 106 by omega), if_neg (show ¬ c.toInt = 107 by omega), if_neg (show ¬ c.toInt = 108 by omega), if_neg (show ¬ c.toInt = 109 by omega), if_neg (show ¬ c.toInt = 110 by omega), if_pos e]
    · rw [go 112 e, if_neg (show ¬ c.toInt = 97 by omega), if_neg (show ¬ c.toInt = 98 by omega), if_neg (show ¬ c.toInt = 99 by omega), if_neg (show ¬ c.toInt = 100 by omega), if_neg (show ¬ c.toInt = 101 by omega), if_neg (show ¬ c.toInt = 102 by omega), if_neg (show ¬ c.toInt = 103 by omega), if_neg (show ¬ c.toInt = 104 by omega), if_neg (show ¬ c.toInt = 105 by omega), if_neg (show ¬ c.toInt = 106 by omega), if_neg (show ¬ c.toInt = 107 by omega), if_neg (show ¬ c.toInt = 108 by omega), if_neg (show ¬ c.toInt = 109 by omega), if_neg (show ¬ c.toInt = 110 by omega), if_neg (show ¬ c.toInt = 111 by omega), if_pos e]
    · rw [go 113 e, if_neg (show ¬ c.toInt = 97 by omega), if_neg (show ¬ c.toInt = 98 by omega), if_neg (show ¬ c.toInt = 99 by omega), if_neg (show ¬ c.toInt = 100 by omega), if_neg (show ¬ c.toInt = 101 by omega), if_neg (show ¬ c.toInt = 102 by omega), if_neg (show ¬ c.toInt = 103 by omega), if_neg (show ¬ c.toInt = 104 by omega), if_neg (show ¬ c.toInt = 105 by omega), if_neg (show ¬ c.toInt = 106 by omega), if_neg (show ¬ c.toInt = 107 by omega), if_neg (show ¬ c.toInt = 108 by omega), if_neg (show ¬ c.toInt = 109 by omega), if_neg (show ¬ c.toInt = 110 by omega), if_neg (show ¬ c.toInt = 111 by omega), if_neg (show ¬ c.toInt = 112 by omega), if_pos e]
    · rw [go 114 e, if_neg (show ¬ c.toInt = 97 by omega), if_neg (show ¬ c.toInt = 98 by omega), if_neg (show ¬ c.toInt = 99 by omega), if_neg (show ¬ c.toInt = 100 by omega), if_neg (show ¬ c.toInt = 101 by omega), if_neg (show ¬ c.toInt = 102 by omega), if_neg (show ¬ c.toInt = 103 by omega), if_neg (show ¬ c.toInt = 104 by omega), if_neg (show ¬ c.toInt = 105 by omega), if_neg (show ¬ c.toInt = 106 by omega), if_neg (show ¬ c.toInt = 107 by omega), if_neg (show ¬ c.toInt = 108 by omega), if_neg (show ¬ c.toInt = 109 by omega), if_neg (show ¬ c.toInt = 110 by omega), if_neg (show ¬ c.toInt = 111 by omega), if_neg (show ¬ c.toInt = 112 by omega), if_neg (show ¬ c.toInt = 113 by omega), if_pos e]
    · rw [go 115 e, if_neg (show ¬ c.toInt = 97 by omega), if_neg (show ¬ c.toInt = 98 by omega), if_neg (show ¬ c.toInt = 99 by omega), if_neg (show ¬ c.toInt = 100 by omega), if_neg (show ¬ c.toInt = 101 by omega), if_neg (show ¬ c.toInt = 102 by omega), if_neg (show ¬ c.toInt = 103 by omega), if_neg (show ¬ c.toInt = 104 by omega), if_neg (show ¬ c.toInt = 105 by omega), if_neg (show ¬ c.toInt = 106 by omega), if_neg (show ¬ c.toInt = 107 by omega), if_neg (show ¬ c.toInt = 108 by omega), if_neg (show ¬ c.toInt = 109 by omega), if_neg (show ¬ c.toInt = 110 by omega), if_neg (show ¬ c.toInt = 111 by omega), if_neg (show ¬ c.toInt = 112 by omega), if_neg (show ¬ c.toInt = 113 by omega), if_neg (show ¬ c.toInt = 114 by omega), if_pos e]
    · rw [go 116 e, if_neg (show ¬ c.toInt = 97 by omega), if_neg (show ¬ c.toInt = 98 by omega), if_neg (show ¬ c.toInt = 99 by omega), if_neg (show ¬ c.toInt = 100 by omega), if_neg (show ¬ c.toInt = 101 by omega), if_neg (show ¬ c.toInt = 102 by omega), if_neg (show ¬ c.toInt = 103 by omega), if_neg (show ¬ c.toInt = 104 by omega), if_neg (show ¬ c.toInt = 105 by omega), if_neg (show ¬ c.toInt = 106 by omega), if_neg (show ¬ c.toInt = 107 by omega), if_neg (show ¬ c.toInt = 108 by omega), if_neg (show ¬ c.toInt = 109 by omega), if_neg (show ¬ c.toInt = 110 by omega), if_neg (show ¬ c.toInt = 111 by omega), if_neg (show ¬ c.toInt = 112 by omega), if_neg (show ¬ c.toInt = 113 by omega), if_neg (show ¬ c.toInt = 114 by omega), if_neg (show ¬ c.toInt = 115 by omega), if_pos e]
  · rw [if_neg z]
    rw [if_neg (show ¬ c.toInt = 97 by omega), if_neg (show ¬ c.toInt = 98 by omega), if_neg (show ¬ c.toInt = 99 by omega), if_neg (show ¬ c.toInt = 100 by omega), if_neg (show ¬ c.toInt = 101 by omega), if_neg (show ¬ c.toInt = 102 by omega), if_neg (show ¬ c.toInt = 103 by omega), if_neg (show ¬ c.toInt = 104 by omega), if_neg (show ¬ c.toInt = 105 by omega), if_neg (show ¬ c.toInt = 106 by omega), if_neg (show ¬ c.toInt = 107 by omega), if_neg (show ¬ c.toInt = 108 by omega), if_neg (show ¬ c.toInt = 109 by omega), if_neg (show ¬ c.toInt = 110 by omega), if_neg (show ¬ c.toInt = 111 by omega), if_neg (show ¬ c.toInt = 112 by omega), if_neg (show ¬ c.toInt = 113 by omega), if_neg (show ¬ c.toInt = 114 by omega), if_neg (show ¬ c.toInt = 115 by omega), if_neg (show ¬ c.toInt = 116 by omega)]
set_option maxRecDepth 100000 in
set_option maxHeartbeats 4000000 in
theorem sf_k0 (h : mv_H) (c w : Int32) : f_Model_shippedField h (nI 0) c w = svO 0 c w h := rfl
set_option maxRecDepth 100000 in
set_option maxHeartbeats 4000000 in
theorem sf_k1 (h : mv_H) (c w : Int32) : f_Model_shippedField h (nI 1) c w = svO 1 c w h := rfl
set_option maxRecDepth 100000 in
set_option maxHeartbeats 4000000 in
theorem sf_k2 (h : mv_H) (c w : Int32) : f_Model_shippedField h (nI 2) c w = svO 2 c w h := rfl
set_option maxRecDepth 100000 in
set_option maxHeartbeats 4000000 in
theorem sf_k3 (h : mv_H) (c w : Int32) : f_Model_shippedField h (nI 3) c w = svO 3 c w h := rfl
set_option maxRecDepth 100000 in
set_option maxHeartbeats 4000000 in
theorem sf_k4 (h : mv_H) (c w : Int32) : f_Model_shippedField h (nI 4) c w = svO 4 c w h := rfl
set_option maxRecDepth 100000 in
set_option maxHeartbeats 4000000 in
theorem sf_k5 (h : mv_H) (c w : Int32) : f_Model_shippedField h (nI 5) c w = svO 5 c w h := rfl
set_option maxRecDepth 100000 in
set_option maxHeartbeats 4000000 in
theorem sf_k6 (h : mv_H) (c w : Int32) : f_Model_shippedField h (nI 6) c w = svO 6 c w h := rfl
set_option maxRecDepth 100000 in
set_option maxHeartbeats 4000000 in
theorem sf_k7 (h : mv_H) (c w : Int32) : f_Model_shippedField h (nI 7) c w = svO 7 c w h := rfl
set_option maxRecDepth 100000 in
set_option maxHeartbeats 4000000 in
theorem sf_k8 (h : mv_H) (c w : Int32) : f_Model_shippedField h (nI 8) c w = svO 8 c w h := rfl
set_option maxRecDepth 100000 in
set_option maxHeartbeats 4000000 in
theorem sf_k9 (h : mv_H) (c w : Int32) : f_Model_shippedField h (nI 9) c w = svO 9 c w h := rfl
set_option maxRecDepth 100000 in
set_option maxHeartbeats 4000000 in
theorem sf_k10 (h : mv_H) (c w : Int32) : f_Model_shippedField h (nI 10) c w = svO 10 c w h := rfl
set_option maxRecDepth 100000 in
set_option maxHeartbeats 4000000 in
theorem sf_k11 (h : mv_H) (c w : Int32) : f_Model_shippedField h (nI 11) c w = svO 11 c w h := rfl
set_option maxRecDepth 100000 in
set_option maxHeartbeats 4000000 in
theorem sf_k12 (h : mv_H) (c w : Int32) : f_Model_shippedField h (nI 12) c w = svO 12 c w h := rfl
set_option maxRecDepth 100000 in
set_option maxHeartbeats 4000000 in
theorem sf_k13 (h : mv_H) (c w : Int32) : f_Model_shippedField h (nI 13) c w = svO 13 c w h := rfl
set_option maxRecDepth 100000 in
set_option maxHeartbeats 4000000 in
theorem sf_k14 (h : mv_H) (c w : Int32) : f_Model_shippedField h (nI 14) c w = svO 14 c w h := rfl
set_option maxRecDepth 100000 in
set_option maxHeartbeats 4000000 in
theorem sf_k15 (h : mv_H) (c w : Int32) : f_Model_shippedField h (nI 15) c w = svO 15 c w h := rfl
set_option maxRecDepth 100000 in
set_option maxHeartbeats 4000000 in
theorem sf_k16 (h : mv_H) (c w : Int32) : f_Model_shippedField h (nI 16) c w = svO 16 c w h := rfl
set_option maxRecDepth 100000 in
set_option maxHeartbeats 4000000 in
theorem sf_k17 (h : mv_H) (c w : Int32) : f_Model_shippedField h (nI 17) c w = svO 17 c w h := rfl
set_option maxRecDepth 100000 in
set_option maxHeartbeats 4000000 in
theorem sf_k18 (h : mv_H) (c w : Int32) : f_Model_shippedField h (nI 18) c w = svO 18 c w h := rfl
set_option maxRecDepth 100000 in
set_option maxHeartbeats 4000000 in
theorem sf_k19 (h : mv_H) (c w : Int32) : f_Model_shippedField h (nI 19) c w = svO 19 c w h := rfl
set_option maxRecDepth 100000 in
set_option maxHeartbeats 4000000 in
theorem sf_k20 (h : mv_H) (c w : Int32) : f_Model_shippedField h (nI 20) c w = svO 20 c w h := rfl
set_option maxRecDepth 100000 in
set_option maxHeartbeats 4000000 in
theorem sf_k21 (h : mv_H) (c w : Int32) : f_Model_shippedField h (nI 21) c w = svO 21 c w h := rfl
set_option maxRecDepth 100000 in
set_option maxHeartbeats 4000000 in
theorem sf_k22 (h : mv_H) (c w : Int32) : f_Model_shippedField h (nI 22) c w = svO 22 c w h := rfl
set_option maxRecDepth 100000 in
set_option maxHeartbeats 4000000 in
theorem sf_k23 (h : mv_H) (c w : Int32) : f_Model_shippedField h (nI 23) c w = svO 23 c w h := rfl
set_option maxRecDepth 100000 in
set_option maxHeartbeats 4000000 in
theorem sf_k24 (h : mv_H) (c w : Int32) : f_Model_shippedField h (nI 24) c w = svO 24 c w h := rfl
set_option maxRecDepth 100000 in
set_option maxHeartbeats 4000000 in
theorem sf_k25 (h : mv_H) (c w : Int32) : f_Model_shippedField h (nI 25) c w = svO 25 c w h := rfl
set_option maxRecDepth 100000 in
set_option maxHeartbeats 4000000 in
theorem sf_k26 (h : mv_H) (c w : Int32) : f_Model_shippedField h (nI 26) c w = svO 26 c w h := rfl
set_option maxRecDepth 100000 in
set_option maxHeartbeats 4000000 in
theorem sf_k27 (h : mv_H) (c w : Int32) : f_Model_shippedField h (nI 27) c w = svO 27 c w h := rfl
set_option maxRecDepth 100000 in
set_option maxHeartbeats 4000000 in
theorem sf_k28 (h : mv_H) (c w : Int32) : f_Model_shippedField h (nI 28) c w = svO 28 c w h := rfl
set_option maxRecDepth 100000 in
set_option maxHeartbeats 4000000 in
theorem sf_k29 (h : mv_H) (c w : Int32) : f_Model_shippedField h (nI 29) c w = svO 29 c w h := rfl
set_option maxRecDepth 100000 in
set_option maxHeartbeats 4000000 in
theorem sf_k30 (h : mv_H) (c w : Int32) : f_Model_shippedField h (nI 30) c w = svO 30 c w h := rfl
set_option maxRecDepth 100000 in
set_option maxHeartbeats 4000000 in
theorem sf_k31 (h : mv_H) (c w : Int32) : f_Model_shippedField h (nI 31) c w = svO 31 c w h := rfl
set_option maxRecDepth 100000 in
set_option maxHeartbeats 4000000 in
theorem sf_k32 (h : mv_H) (c w : Int32) : f_Model_shippedField h (nI 32) c w = svO 32 c w h := rfl
set_option maxRecDepth 100000 in
set_option maxHeartbeats 4000000 in
theorem sf_k33 (h : mv_H) (c w : Int32) : f_Model_shippedField h (nI 33) c w = svO 33 c w h := rfl
set_option maxRecDepth 100000 in
set_option maxHeartbeats 4000000 in
theorem sf_k34 (h : mv_H) (c w : Int32) : f_Model_shippedField h (nI 34) c w = svO 34 c w h := rfl
set_option maxRecDepth 100000 in
set_option maxHeartbeats 4000000 in
theorem sf_k35 (h : mv_H) (c w : Int32) : f_Model_shippedField h (nI 35) c w = svO 35 c w h := rfl
set_option maxRecDepth 100000 in
set_option maxHeartbeats 4000000 in
theorem sf_k36 (h : mv_H) (c w : Int32) : f_Model_shippedField h (nI 36) c w = svO 36 c w h := rfl
set_option maxRecDepth 100000 in
set_option maxHeartbeats 4000000 in
theorem sf_k37 (h : mv_H) (c w : Int32) : f_Model_shippedField h (nI 37) c w = svO 37 c w h := by
  rw [svO_e, show shV 37 c w = -1 from (by unfold shV; split <;> rfl)]
  rfl
set_option maxRecDepth 100000 in
set_option maxHeartbeats 4000000 in
theorem sf_k38 (h : mv_H) (c w : Int32) : f_Model_shippedField h (nI 38) c w = svO 38 c w h := by
  rw [svO_e, show shV 38 c w = -1 from (by unfold shV; split <;> rfl)]
  rfl
set_option maxRecDepth 100000 in
set_option maxHeartbeats 4000000 in
theorem sf_k39 (h : mv_H) (c w : Int32) : f_Model_shippedField h (nI 39) c w = svO 39 c w h := by
  rw [svO_e, show shV 39 c w = -1 from (by unfold shV; split <;> rfl)]
  rfl
set_option maxRecDepth 100000 in
set_option maxHeartbeats 4000000 in
theorem sf_k40 (h : mv_H) (c w : Int32) : f_Model_shippedField h (nI 40) c w = svO 40 c w h := rfl
set_option maxRecDepth 100000 in
set_option maxHeartbeats 4000000 in
theorem sf_k41 (h : mv_H) (c w : Int32) : f_Model_shippedField h (nI 41) c w = svO 41 c w h := rfl
set_option maxRecDepth 100000 in
set_option maxHeartbeats 4000000 in
theorem sf_k42 (h : mv_H) (c w : Int32) : f_Model_shippedField h (nI 42) c w = svO 42 c w h := rfl
set_option maxRecDepth 100000 in
set_option maxHeartbeats 4000000 in
theorem sf_k43 (h : mv_H) (c w : Int32) : f_Model_shippedField h (nI 43) c w = svO 43 c w h := rfl
set_option maxRecDepth 100000 in
set_option maxHeartbeats 4000000 in
theorem sf_k44 (h : mv_H) (c w : Int32) : f_Model_shippedField h (nI 44) c w = svO 44 c w h := rfl
set_option maxRecDepth 100000 in
set_option maxHeartbeats 4000000 in
theorem sf_k45 (h : mv_H) (c w : Int32) : f_Model_shippedField h (nI 45) c w = svO 45 c w h := rfl
set_option maxRecDepth 100000 in
set_option maxHeartbeats 4000000 in
theorem sf_k46 (h : mv_H) (c w : Int32) : f_Model_shippedField h (nI 46) c w = svO 46 c w h := rfl
set_option maxRecDepth 100000 in
set_option maxHeartbeats 4000000 in
theorem sf_k47 (h : mv_H) (c w : Int32) : f_Model_shippedField h (nI 47) c w = svO 47 c w h := rfl
theorem sf_k (h : mv_H) (c w : Int32) : ∀ k, k < 48 → f_Model_shippedField h (nI k) c w = svO k c w h := by
  intro k hk
  match k, hk with
  | 0, _ => exact sf_k0 h c w
  | 1, _ => exact sf_k1 h c w
  | 2, _ => exact sf_k2 h c w
  | 3, _ => exact sf_k3 h c w
  | 4, _ => exact sf_k4 h c w
  | 5, _ => exact sf_k5 h c w
  | 6, _ => exact sf_k6 h c w
  | 7, _ => exact sf_k7 h c w
  | 8, _ => exact sf_k8 h c w
  | 9, _ => exact sf_k9 h c w
  | 10, _ => exact sf_k10 h c w
  | 11, _ => exact sf_k11 h c w
  | 12, _ => exact sf_k12 h c w
  | 13, _ => exact sf_k13 h c w
  | 14, _ => exact sf_k14 h c w
  | 15, _ => exact sf_k15 h c w
  | 16, _ => exact sf_k16 h c w
  | 17, _ => exact sf_k17 h c w
  | 18, _ => exact sf_k18 h c w
  | 19, _ => exact sf_k19 h c w
  | 20, _ => exact sf_k20 h c w
  | 21, _ => exact sf_k21 h c w
  | 22, _ => exact sf_k22 h c w
  | 23, _ => exact sf_k23 h c w
  | 24, _ => exact sf_k24 h c w
  | 25, _ => exact sf_k25 h c w
  | 26, _ => exact sf_k26 h c w
  | 27, _ => exact sf_k27 h c w
  | 28, _ => exact sf_k28 h c w
  | 29, _ => exact sf_k29 h c w
  | 30, _ => exact sf_k30 h c w
  | 31, _ => exact sf_k31 h c w
  | 32, _ => exact sf_k32 h c w
  | 33, _ => exact sf_k33 h c w
  | 34, _ => exact sf_k34 h c w
  | 35, _ => exact sf_k35 h c w
  | 36, _ => exact sf_k36 h c w
  | 37, _ => exact sf_k37 h c w
  | 38, _ => exact sf_k38 h c w
  | 39, _ => exact sf_k39 h c w
  | 40, _ => exact sf_k40 h c w
  | 41, _ => exact sf_k41 h c w
  | 42, _ => exact sf_k42 h c w
  | 43, _ => exact sf_k43 h c w
  | 44, _ => exact sf_k44 h c w
  | 45, _ => exact sf_k45 h c w
  | 46, _ => exact sf_k46 h c w
  | 47, _ => exact sf_k47 h c w
  | n + 48, hk => omega
theorem sf_ok {h : mv_H} {o c w : Int32} (h0 : 0 ≤ o.toInt) (h1 : o.toInt < 48) : f_Model_shippedField h o c w = some (shV o.toNatClampNeg c w, h) := by
  have a := i32_cl h0
  have e : o = nI o.toNatClampNeg := nI_o2 a.symm
  have q := sf_k h c w o.toNatClampNeg (by omega)
  rw [← e, svO_e] at q
  exact q

/-- what field answers -/
def RG9 (o : Int32) (n : Int) : Prop := 0 ≤ o.toInt ∧ o.toInt < n
def FRq (N : Nat) (σ : mv_H) (o c : Int32) (w v : Int64) (t : Int32) : Prop :=
  (mv_i σ 70 11 = 0 ∧ ((t = 1 ∧ ¬ (RG9 o (mv_i σ N 29).toInt ∧ HFq N σ o c)) ∨ (t = 0 ∧ (RG9 o (mv_i σ N 29).toInt ∧ HFq N σ o c) ∧ GA w.toBitVec (msk (cdF (mv_a σ (N + 13)) (mv_a σ (N + 10) o.toNatClampNeg).toNatClampNeg c) (mv_i σ N 20).toNatClampNeg (mv_i σ N 20).toNatClampNeg) v.toBitVec))) ∨
  (¬ mv_i σ 70 11 = 0 ∧ ((t = 1 ∧ ¬ (RG9 o 48 ∧ 0 ≤ lg_cmp (shV o.toNatClampNeg c w.toInt32) 0)) ∨ (t = 0 ∧ (RG9 o 48 ∧ 0 ≤ lg_cmp (shV o.toNatClampNeg c w.toInt32) 0) ∧ v = shV o.toNatClampNeg c w.toInt32)))
theorem fr_a {N : Nat} {σ : mv_H} {o c t : Int32} {w v : Int64} (ht : t = 1) (h : o < 0) : FRq N σ o c w v t := by
  have h : o.toInt < 0 := Int32.lt_iff_toInt_lt.mp h
  by_cases z : mv_i σ 70 11 = 0
  · exact Or.inl ⟨z, Or.inl ⟨ht, fun q => absurd q.1.1 (by omega)⟩⟩
  · exact Or.inr ⟨z, Or.inl ⟨ht, fun q => absurd q.1.1 (by omega)⟩⟩
theorem fr_b {N : Nat} {σ : mv_H} {o c t : Int32} {w v : Int64} (ht : t = 1) (hs : ¬ mv_i σ 70 11 = 0) (h : ¬ o.toInt < 48) : FRq N σ o c w v t := Or.inr ⟨hs, Or.inl ⟨ht, fun q => h q.1.2⟩⟩
theorem fr_c {N : Nat} {σ : mv_H} {o c t : Int32} {w v : Int64} (ht : t = 1) (hs : mv_i σ 70 11 = 0) (h : ¬ o.toInt < (mv_i σ N 29).toInt) : FRq N σ o c w v t := Or.inl ⟨hs, Or.inl ⟨ht, fun q => h q.1.2⟩⟩
theorem fr_d {N : Nat} {σ : mv_H} {o c t : Int32} {w v : Int64} (ht : t = 1) (hs : ¬ mv_i σ 70 11 = 0) (h : ¬ 0 ≤ lg_cmp (shV o.toNatClampNeg c w.toInt32) 0) : FRq N σ o c w v t := Or.inr ⟨hs, Or.inl ⟨ht, fun q => h q.2⟩⟩
theorem fr_e {N : Nat} {σ : mv_H} {o c t : Int32} {w v : Int64} (ht : t = 1) (hs : mv_i σ 70 11 = 0) (h : ¬ HFq N σ o c) : FRq N σ o c w v t := Or.inl ⟨hs, Or.inl ⟨ht, fun q => h q.2⟩⟩
theorem fr_f {N : Nat} {σ : mv_H} {o c t : Int32} {w v : Int64} (ht : t = 0) (hs : ¬ mv_i σ 70 11 = 0) (h0 : ¬ o.toInt < 0) (h1 : o.toInt < 48) (h : 0 ≤ lg_cmp (shV o.toNatClampNeg c w.toInt32) 0) (hv : v = shV o.toNatClampNeg c w.toInt32) : FRq N σ o c w v t := Or.inr ⟨hs, Or.inr ⟨ht, ⟨⟨by omega, h1⟩, h⟩, hv⟩⟩
theorem fr_g {N : Nat} {σ : mv_H} {o c t : Int32} {w v : Int64} (ht : t = 0) (hs : mv_i σ 70 11 = 0) (h0 : ¬ o.toInt < 0) (h1 : o.toInt < (mv_i σ N 29).toInt) (h : HFq N σ o c) (hv : GA w.toBitVec (msk (cdF (mv_a σ (N + 13)) (mv_a σ (N + 10) o.toNatClampNeg).toNatClampNeg c) (mv_i σ N 20).toNatClampNeg (mv_i σ N 20).toNatClampNeg) v.toBitVec) : FRq N σ o c w v t := Or.inl ⟨hs, Or.inr ⟨ht, ⟨⟨by omega, h1⟩, h⟩, hv⟩⟩
theorem HFq.eq {B : Nat} {σ τ : mv_H} {o c : Int32} (e20 : mv_i τ B 20 = mv_i σ B 20) (ea : mv_a τ = mv_a σ) : HFq B τ o c = HFq B σ o c := by
  unfold HFq
  rw [e20, ea]

set_option maxHeartbeats 4000000 in
set_option maxRecDepth 100000 in
theorem c_kf_Model_field_x (l : Launch) {dA : FieldType → ClassId} {D : va_G} {al : Nat → Nat} {ext : mv_Sh} {sk sv : Nat → Nat} (hi : mv_inj (mg dA D al ext)) (σ : mv_H) (hM : MI 74 108 σ) (o9 c9 : Int32) (w0 : Int64) : mv_C l y_Model_field (Cond.code y_Model_field b_Model_field 7 (Option.some Jvm.ClassFile.FieldType.long) :: ma) ({ frames := 2, cells := 0, slots := 0, locals := 51 }) (mg dA D al ext) (mK sk sv) [.ref (al 70), .int o9, .int c9, .long w0] σ (mv_Rl (fun v σ1 => QF 74 σ σ1 ∧ FRq 74 σ o9 c9 w0 v (mv_i σ1 70 2))) := by
  refine mv_C.ofV (cc := b_Model_field) (nL := 7) (ret := (Option.some Jvm.ClassFile.FieldType.long)) (by decide +kernel) rfl hi (Nat.le_of_ble_eq_true rfl) ?_
  intro p e s m below meth c B hNs hr hnm hno
  have hN : 74 = 74 ∨ 74 = 108 := by decide
  refine mv_aload_n (pc := 0) B d_Model_field_0 rfl 0 rfl ?_
  refine mv_iconst (pc := 1) (v := 1) B d_Model_field_1 (by decide) ?_
  refine mv_putI (pc := 2) (ci := 11) (C := R_Model) (T := F_Model) (N := 16) B 2 rfl rfl (by decide) i_Model t_Model_ok n_Model (B.2.2.2.1 _ k_2047) rfl rfl rfl rfl d_Model_field_2 ?_
  refine mv_gen (fun S5 eS5 => ?_)
  have hF : QF 74 σ S5 := by rw [eS5]; exact QF.si Fx.rf (by decide)
  have hM := hM.qf hF hN
  have e11 : mv_i S5 70 11 = mv_i σ 70 11 := hF.sh hN
  have x5 : mv_i S5 70 2 = 1 := by rw [eS5, mv_si_s]
  have i29 : mv_i S5 74 29 = mv_i σ 74 29 := hF.1 74 29 (by omega)
  have i20 : mv_i S5 74 20 = mv_i σ 74 20 := hF.1 74 20 (by omega)
  have r5 : mv_a S5 = mv_a σ := by rw [eS5]; rfl
  have hM0 := hM
  obtain ⟨-, -, -, th, n, k, g1, g2, g3, g4, g5, g6, g7, g8⟩ := hM0
  clear g6 g7 g8
  clear eS5
  refine mv_iload_n (pc := 5) B d_Model_field_5 rfl 1 rfl ?_
  refine mv_if_lt (pc := 6) (tgt := 32) B d_Model_field_6 rfl (fun h6 => ?_) (fun h6 => ?_)
  · skip
    refine mv_lconst (pc := 32) (v := 0) B d_Model_field_32 (by decide) ?_
    exact mv_lret (pc := 33) B hr d_Model_field_33 (Nat.le_refl _) (Nat.le_refl _) ⟨_, rfl, hF, by first | exact fr_a x5 h6 | exact fr_b x5 (fun z => h14 (e11.trans z)) h29 | exact fr_c x5 (e11.symm.trans h14) (by rw [← i29]; exact h29)⟩
  · skip
    have ho0 : ¬ o9.toInt < 0 := fun z => h6 (Int32.lt_iff_toInt_lt.mpr z)
    refine mv_iload_n (pc := 9) B d_Model_field_9 rfl 1 rfl ?_
    refine mv_aload_n (pc := 10) B d_Model_field_10 rfl 0 rfl ?_
    refine mv_getI (pc := 11) (ci := 11) (C := R_Model) (T := F_Model) (N := 16) B 11 rfl rfl (by decide) i_Model (B.2.2.2.1 _ k_2056) rfl d_Model_field_11 ?_
    refine mv_if_eq (pc := 14) (tgt := 22) B d_Model_field_14 rfl (fun h14 => ?_) (fun h14 => ?_)
    · skip
      refine mv_aload_n (pc := 22) B d_Model_field_22 rfl 0 rfl ?_
      refine mv_getR (pc := 23) (ci := 11) (C := R_Model) (T := F_Model) (N := 16) B 9 rfl rfl (by decide) i_Model (B.2.2.2.1 _ k_2054) rfl hM.2.1 d_Model_field_23 ?_
      refine mv_getI (pc := 26) (ci := 12) (C := R_Book) (T := F_Book) (N := 65) B 29 rfl rfl (by decide) i_Book (B.2.2.2.1 _ k_1875) rfl d_Model_field_26 ?_
      refine mv_icmp_lt (pc := 29) (tgt := 34) B d_Model_field_29 rfl (fun h29 => ?_) (fun h29 => ?_)
      · skip
        rw [Int32.lt_iff_toInt_lt] at h29
        refine mv_aload_n (pc := 34) B d_Model_field_34 rfl 0 rfl ?_
        refine mv_getI (pc := 35) (ci := 11) (C := R_Model) (T := F_Model) (N := 16) B 11 rfl rfl (by decide) i_Model (B.2.2.2.1 _ k_2056) rfl d_Model_field_35 ?_
        refine mv_if_eq (pc := 38) (tgt := 51) B d_Model_field_38 rfl (fun h38 => ?_) (fun h38 => ?_)
        · skip
          refine mv_lconst (pc := 51) (v := 0) B d_Model_field_51 (by decide) ?_
          refine mv_lstore (pc := 52) B d_Model_field_52 (by decide) rfl ?_
          refine mv_aload_n (pc := 54) B d_Model_field_54 rfl 1 rfl ?_
          refine mv_getI (pc := 55) (ci := 11) (C := R_Model) (T := F_Model) (N := 16) B 11 rfl rfl (by decide) i_Model (B.2.2.2.1 _ k_2056) rfl d_Model_field_55 ?_
          refine mv_if_eq (pc := 58) (tgt := 71) B d_Model_field_58 rfl (fun h58 => ?_) (fun h58 => ?_)
          · skip
            refine mv_aload_n (pc := 71) B d_Model_field_71 rfl 1 rfl ?_
            refine mv_getR (pc := 72) (ci := 11) (C := R_Model) (T := F_Model) (N := 16) B 9 rfl rfl (by decide) i_Model (B.2.2.2.1 _ k_2054) rfl hM.2.1 d_Model_field_72 ?_
            refine mv_iload_n (pc := 75) B d_Model_field_75 rfl 2 rfl ?_
            refine mv_iload_n (pc := 76) B d_Model_field_76 rfl 3 rfl ?_
            refine mv_callVi (pc := 77) (n := 2) (ci := 12) (C := R_Book) B (mK_ok sk sv) hNs rfl rfl (c_kf_Book_hasField_x l hi _ _ _ k hM.1 g5 (by omega) (by rw [g5.1] at h29; exact h29)) rfl (ma_goodc kc_Book_hasField) (B.2.2.2.1 _ k_2403) (B.2.2.2.1 _ k_2404) (B.2.2.2.1 _ k_2405) (B.2.2.2.1 _ k_13) ⟨by decide +kernel, by decide +kernel, by decide +kernel⟩ rfl d_Model_field_77 rfl (Nat.le_of_ble_eq_true rfl) ⟨by decide, by decide⟩ ⟨by decide, by decide⟩ ⟨by decide, by decide⟩ (mv_noH hno _) (fun v77 σ77 h77 => ?_)
            obtain ⟨e77, z77⟩ := h77
            have e77 := e77.symm
            subst e77
            refine mv_if_ne (pc := 80) (tgt := 85) B d_Model_field_80 rfl (fun h80 => ?_) (fun h80 => ?_)
            · skip
              refine mv_aload_n (pc := 85) B d_Model_field_85 rfl 1 rfl ?_
              refine mv_iconst (pc := 86) (v := 0) B d_Model_field_86 (by decide) ?_
              refine mv_putI (pc := 87) (ci := 11) (C := R_Model) (T := F_Model) (N := 16) B 2 rfl rfl (by decide) i_Model t_Model_ok n_Model (B.2.2.2.1 _ k_2047) rfl rfl rfl rfl d_Model_field_87 ?_
              refine mv_gen (fun S90 eS90 => ?_)
              have hM9 := hM
              have hMs : MI 74 108 S90 := by rw [eS90]; exact hM.qf (QF.si Fx.rf (by decide)) hN
              have gs : CO 74 k S90 := by rw [eS90]; exact g5.fr (mv_si_o _ _ (by omega)) (mv_si_o _ _ (by omega)) (fun j => rfl)
              have hFs : QF 74 σ S90 := by rw [eS90]; exact hF.si (by decide)
              have e94 : mv_i S90 70 11 = mv_i S5 70 11 := by rw [eS90, mv_si_o _ _ (by omega)]
              have x90 : mv_i S90 70 2 = 0 := by rw [eS90, mv_si_s]
              have j20 : mv_i S90 74 20 = mv_i σ 74 20 := hFs.1 74 20 (by omega)
              have r90 : mv_a S90 = mv_a σ := by rw [eS90]; exact r5
              have hM := hMs
              clear eS90
              refine mv_aload_n (pc := 90) B d_Model_field_90 rfl 1 rfl ?_
              refine mv_getI (pc := 91) (ci := 11) (C := R_Model) (T := F_Model) (N := 16) B 11 rfl rfl (by decide) i_Model (B.2.2.2.1 _ k_2056) rfl d_Model_field_91 ?_
              refine mv_if_eq (pc := 94) (tgt := 102) B d_Model_field_94 rfl (fun h94 => ?_) (fun h94 => ?_)
              · skip
                refine mv_aload_n (pc := 102) B d_Model_field_102 rfl 1 rfl ?_
                refine mv_getR (pc := 103) (ci := 11) (C := R_Model) (T := F_Model) (N := 16) B 9 rfl rfl (by decide) i_Model (B.2.2.2.1 _ k_2054) rfl hM.2.1 d_Model_field_103 ?_
                refine mv_iload_n (pc := 106) B d_Model_field_106 rfl 2 rfl ?_
                refine mv_iload_n (pc := 107) B d_Model_field_107 rfl 3 rfl ?_
                refine mv_lload_n (pc := 108) B d_Model_field_108 rfl 4 rfl ?_
                refine mv_callVl (pc := 109) (n := 3) (ci := 12) (C := R_Book) B (mK_ok sk sv) hNs rfl rfl (c_kf_Book_field_x l hi _ _ _ _ k hMs.1 gs (by omega) (by rw [g5.1] at h29; exact h29)) rfl (ma_goodc kc_Book_field) (B.2.2.2.1 _ k_2407) (B.2.2.2.1 _ k_2408) (B.2.2.2.1 _ k_2409) (B.2.2.2.1 _ k_13) ⟨by decide +kernel, by decide +kernel, by decide +kernel⟩ rfl d_Model_field_109 rfl (Nat.le_of_ble_eq_true rfl) ⟨by decide, by decide⟩ ⟨by decide, by decide⟩ ⟨by decide, by decide⟩ (mv_noH hno _) (fun v109 σ109 h109 => ?_)
                obtain ⟨e109, z109⟩ := h109
                have e109 := e109.symm
                subst e109
                exact mv_lret (pc := 112) B hr d_Model_field_112 (Nat.le_refl _) (Nat.le_refl _) ⟨_, rfl, hFs, by first | exact fr_f x90 (fun z => h14 (e11.trans z)) ho0 h29 h65 rfl | exact fr_g x90 (e11.symm.trans h14) ho0 (by rw [← i29]; exact h29) (by rw [← HFq.eq i20 r5]; exact (z77.resolve_right (fun z => h80 z.1)).2) (by rw [j20, r90] at z109; exact z109)⟩
              · skip
                exact absurd (e94.trans h14) h94
            · skip
              refine mv_lconst (pc := 83) (v := 0) B d_Model_field_83 (by decide) ?_
              exact mv_lret (pc := 84) B hr d_Model_field_84 (Nat.le_refl _) (Nat.le_refl _) ⟨_, rfl, hF, by first | exact fr_d x5 (fun z => h14 (e11.trans z)) h65 | exact fr_e x5 (e11.symm.trans h14) (by rw [← HFq.eq i20 r5]; exact (z77.resolve_left (fun z => by rw [h80] at z; exact absurd z.1 (by decide))).2)⟩
          · skip
            exact absurd h14 h58
        · skip
          exact absurd h14 h38
      · skip
        have h29 := fun z => h29 (Int32.lt_iff_toInt_lt.mpr z)
        refine mv_lconst (pc := 32) (v := 0) B d_Model_field_32 (by decide) ?_
        exact mv_lret (pc := 33) B hr d_Model_field_33 (Nat.le_refl _) (Nat.le_refl _) ⟨_, rfl, hF, by first | exact fr_a x5 h6 | exact fr_b x5 (fun z => h14 (e11.trans z)) h29 | exact fr_c x5 (e11.symm.trans h14) (by rw [← i29]; exact h29)⟩
    · skip
      refine mv_bipush (pc := 17) (v := 48) B d_Model_field_17 (by decide) ?_
      refine mv_goto (pc := 19) (tgt := 29) B d_Model_field_19 rfl ?_
      refine mv_icmp_lt (pc := 29) (tgt := 34) B d_Model_field_29 rfl (fun h29 => ?_) (fun h29 => ?_)
      · skip
        rw [Int32.lt_iff_toInt_lt] at h29
        refine mv_aload_n (pc := 34) B d_Model_field_34 rfl 0 rfl ?_
        refine mv_getI (pc := 35) (ci := 11) (C := R_Model) (T := F_Model) (N := 16) B 11 rfl rfl (by decide) i_Model (B.2.2.2.1 _ k_2056) rfl d_Model_field_35 ?_
        refine mv_if_eq (pc := 38) (tgt := 51) B d_Model_field_38 rfl (fun h38 => ?_) (fun h38 => ?_)
        · skip
          exact absurd h38 h14
        · skip
          refine mv_iload_n (pc := 41) B d_Model_field_41 rfl 1 rfl ?_
          refine mv_iload_n (pc := 42) B d_Model_field_42 rfl 2 rfl ?_
          refine mv_lload_n (pc := 43) B d_Model_field_43 rfl 3 rfl ?_
          refine mv_l2i (pc := 44) B d_Model_field_44 ?_
          refine mv_callSl (pc := 45) (n := 3) B (mK_ok sk sv) hNs (ch_Model_shippedField l hi _ _ _ _ (sf_ok (by omega) (show o9.toInt < 48 from h29))) rfl (ma_goodc kc_Model_shippedField) (B.2.2.2.1 _ k_2386) (B.2.2.2.1 _ k_2387) (B.2.2.2.1 _ k_12) ⟨by decide +kernel, by decide +kernel, by decide +kernel⟩ rfl d_Model_field_45 rfl (Nat.le_of_ble_eq_true rfl) ⟨by decide, by decide⟩ ⟨by decide, by decide⟩ ⟨by decide, by decide⟩ (mv_noH hno _) (fun v45 σ45 h45 => ?_)
          obtain ⟨z45, e45, -⟩ := h45
          subst e45
          subst z45
          refine mv_goto (pc := 48) (tgt := 52) B d_Model_field_48 rfl ?_
          refine mv_lstore (pc := 52) B d_Model_field_52 (by decide) rfl ?_
          refine mv_aload_n (pc := 54) B d_Model_field_54 rfl 1 rfl ?_
          refine mv_getI (pc := 55) (ci := 11) (C := R_Model) (T := F_Model) (N := 16) B 11 rfl rfl (by decide) i_Model (B.2.2.2.1 _ k_2056) rfl d_Model_field_55 ?_
          refine mv_if_eq (pc := 58) (tgt := 71) B d_Model_field_58 rfl (fun h58 => ?_) (fun h58 => ?_)
          · skip
            exact absurd h58 h14
          · skip
            refine mv_lload (pc := 61) B d_Model_field_61 0 rfl ?_
            refine mv_lconst (pc := 63) (v := 0) B d_Model_field_63 (by decide) ?_
            refine mv_lcmp (pc := 64) B d_Model_field_64 ?_
            refine mv_if_ge (pc := 65) (tgt := 85) B d_Model_field_65 rfl (fun h65 => ?_) (fun h65 => ?_)
            · skip
              refine mv_aload_n (pc := 85) B d_Model_field_85 rfl 1 rfl ?_
              refine mv_iconst (pc := 86) (v := 0) B d_Model_field_86 (by decide) ?_
              refine mv_putI (pc := 87) (ci := 11) (C := R_Model) (T := F_Model) (N := 16) B 2 rfl rfl (by decide) i_Model t_Model_ok n_Model (B.2.2.2.1 _ k_2047) rfl rfl rfl rfl d_Model_field_87 ?_
              refine mv_gen (fun S90 eS90 => ?_)
              have hM9 := hM
              have hMs : MI 74 108 S90 := by rw [eS90]; exact hM.qf (QF.si Fx.rf (by decide)) hN
              have gs : CO 74 k S90 := by rw [eS90]; exact g5.fr (mv_si_o _ _ (by omega)) (mv_si_o _ _ (by omega)) (fun j => rfl)
              have hFs : QF 74 σ S90 := by rw [eS90]; exact hF.si (by decide)
              have e94 : mv_i S90 70 11 = mv_i S5 70 11 := by rw [eS90, mv_si_o _ _ (by omega)]
              have x90 : mv_i S90 70 2 = 0 := by rw [eS90, mv_si_s]
              have j20 : mv_i S90 74 20 = mv_i σ 74 20 := hFs.1 74 20 (by omega)
              have r90 : mv_a S90 = mv_a σ := by rw [eS90]; exact r5
              have hM := hMs
              clear eS90
              refine mv_aload_n (pc := 90) B d_Model_field_90 rfl 1 rfl ?_
              refine mv_getI (pc := 91) (ci := 11) (C := R_Model) (T := F_Model) (N := 16) B 11 rfl rfl (by decide) i_Model (B.2.2.2.1 _ k_2056) rfl d_Model_field_91 ?_
              refine mv_if_eq (pc := 94) (tgt := 102) B d_Model_field_94 rfl (fun h94 => ?_) (fun h94 => ?_)
              · skip
                exact absurd (e94.symm.trans h94) h14
              · skip
                refine mv_lload (pc := 97) B d_Model_field_97 0 rfl ?_
                refine mv_goto (pc := 99) (tgt := 112) B d_Model_field_99 rfl ?_
                exact mv_lret (pc := 112) B hr d_Model_field_112 (Nat.le_refl _) (Nat.le_refl _) ⟨_, rfl, hFs, by first | exact fr_f x90 (fun z => h14 (e11.trans z)) ho0 h29 h65 rfl | exact fr_g x90 (e11.symm.trans h14) ho0 (by rw [← i29]; exact h29) (by rw [← HFq.eq i20 r5]; exact (z77.resolve_right (fun z => h80 z.1)).2) (by rw [j20, r90] at z109; exact z109)⟩
            · skip
              refine mv_goto (pc := 68) (tgt := 83) B d_Model_field_68 rfl ?_
              refine mv_lconst (pc := 83) (v := 0) B d_Model_field_83 (by decide) ?_
              exact mv_lret (pc := 84) B hr d_Model_field_84 (Nat.le_refl _) (Nat.le_refl _) ⟨_, rfl, hF, by first | exact fr_d x5 (fun z => h14 (e11.trans z)) h65 | exact fr_e x5 (e11.symm.trans h14) (by rw [← HFq.eq i20 r5]; exact (z77.resolve_left (fun z => by rw [h80] at z; exact absurd z.1 (by decide))).2)⟩
      · skip
        have h29 := fun z => h29 (Int32.lt_iff_toInt_lt.mpr z)
        refine mv_lconst (pc := 32) (v := 0) B d_Model_field_32 (by decide) ?_
        exact mv_lret (pc := 33) B hr d_Model_field_33 (Nat.le_refl _) (Nat.le_refl _) ⟨_, rfl, hF, by first | exact fr_a x5 h6 | exact fr_b x5 (fun z => h14 (e11.trans z)) h29 | exact fr_c x5 (e11.symm.trans h14) (by rw [← i29]; exact h29)⟩
set_option maxHeartbeats 4000000 in
set_option maxRecDepth 100000 in
theorem c_kf_Model_field_y (l : Launch) {dA : FieldType → ClassId} {D : va_G} {al : Nat → Nat} {ext : mv_Sh} {sk sv : Nat → Nat} (hi : mv_inj (mg dA D al ext)) (σ : mv_H) (hM : MI 108 74 σ) (o9 c9 : Int32) (w0 : Int64) : mv_C l y_Model_field (Cond.code y_Model_field b_Model_field 7 (Option.some Jvm.ClassFile.FieldType.long) :: ma) ({ frames := 2, cells := 0, slots := 0, locals := 51 }) (mg dA D al ext) (mK sk sv) [.ref (al 70), .int o9, .int c9, .long w0] σ (mv_Rl (fun v σ1 => QF 108 σ σ1 ∧ FRq 108 σ o9 c9 w0 v (mv_i σ1 70 2))) := by
  refine mv_C.ofV (cc := b_Model_field) (nL := 7) (ret := (Option.some Jvm.ClassFile.FieldType.long)) (by decide +kernel) rfl hi (Nat.le_of_ble_eq_true rfl) ?_
  intro p e s m below meth c B hNs hr hnm hno
  have hN : 108 = 74 ∨ 108 = 108 := by decide
  refine mv_aload_n (pc := 0) B d_Model_field_0 rfl 0 rfl ?_
  refine mv_iconst (pc := 1) (v := 1) B d_Model_field_1 (by decide) ?_
  refine mv_putI (pc := 2) (ci := 11) (C := R_Model) (T := F_Model) (N := 16) B 2 rfl rfl (by decide) i_Model t_Model_ok n_Model (B.2.2.2.1 _ k_2047) rfl rfl rfl rfl d_Model_field_2 ?_
  refine mv_gen (fun S5 eS5 => ?_)
  have hF : QF 108 σ S5 := by rw [eS5]; exact QF.si Fx.rf (by decide)
  have hM := hM.qf hF hN
  have e11 : mv_i S5 70 11 = mv_i σ 70 11 := hF.sh hN
  have x5 : mv_i S5 70 2 = 1 := by rw [eS5, mv_si_s]
  have i29 : mv_i S5 108 29 = mv_i σ 108 29 := hF.1 108 29 (by omega)
  have i20 : mv_i S5 108 20 = mv_i σ 108 20 := hF.1 108 20 (by omega)
  have r5 : mv_a S5 = mv_a σ := by rw [eS5]; rfl
  have hM0 := hM
  obtain ⟨-, -, -, th, n, k, g1, g2, g3, g4, g5, g6, g7, g8⟩ := hM0
  clear g6 g7 g8
  clear eS5
  refine mv_iload_n (pc := 5) B d_Model_field_5 rfl 1 rfl ?_
  refine mv_if_lt (pc := 6) (tgt := 32) B d_Model_field_6 rfl (fun h6 => ?_) (fun h6 => ?_)
  · skip
    refine mv_lconst (pc := 32) (v := 0) B d_Model_field_32 (by decide) ?_
    exact mv_lret (pc := 33) B hr d_Model_field_33 (Nat.le_refl _) (Nat.le_refl _) ⟨_, rfl, hF, by first | exact fr_a x5 h6 | exact fr_b x5 (fun z => h14 (e11.trans z)) h29 | exact fr_c x5 (e11.symm.trans h14) (by rw [← i29]; exact h29)⟩
  · skip
    have ho0 : ¬ o9.toInt < 0 := fun z => h6 (Int32.lt_iff_toInt_lt.mpr z)
    refine mv_iload_n (pc := 9) B d_Model_field_9 rfl 1 rfl ?_
    refine mv_aload_n (pc := 10) B d_Model_field_10 rfl 0 rfl ?_
    refine mv_getI (pc := 11) (ci := 11) (C := R_Model) (T := F_Model) (N := 16) B 11 rfl rfl (by decide) i_Model (B.2.2.2.1 _ k_2056) rfl d_Model_field_11 ?_
    refine mv_if_eq (pc := 14) (tgt := 22) B d_Model_field_14 rfl (fun h14 => ?_) (fun h14 => ?_)
    · skip
      refine mv_aload_n (pc := 22) B d_Model_field_22 rfl 0 rfl ?_
      refine mv_getR (pc := 23) (ci := 11) (C := R_Model) (T := F_Model) (N := 16) B 9 rfl rfl (by decide) i_Model (B.2.2.2.1 _ k_2054) rfl hM.2.1 d_Model_field_23 ?_
      refine mv_getI (pc := 26) (ci := 12) (C := R_Book) (T := F_Book) (N := 65) B 29 rfl rfl (by decide) i_Book (B.2.2.2.1 _ k_1875) rfl d_Model_field_26 ?_
      refine mv_icmp_lt (pc := 29) (tgt := 34) B d_Model_field_29 rfl (fun h29 => ?_) (fun h29 => ?_)
      · skip
        rw [Int32.lt_iff_toInt_lt] at h29
        refine mv_aload_n (pc := 34) B d_Model_field_34 rfl 0 rfl ?_
        refine mv_getI (pc := 35) (ci := 11) (C := R_Model) (T := F_Model) (N := 16) B 11 rfl rfl (by decide) i_Model (B.2.2.2.1 _ k_2056) rfl d_Model_field_35 ?_
        refine mv_if_eq (pc := 38) (tgt := 51) B d_Model_field_38 rfl (fun h38 => ?_) (fun h38 => ?_)
        · skip
          refine mv_lconst (pc := 51) (v := 0) B d_Model_field_51 (by decide) ?_
          refine mv_lstore (pc := 52) B d_Model_field_52 (by decide) rfl ?_
          refine mv_aload_n (pc := 54) B d_Model_field_54 rfl 1 rfl ?_
          refine mv_getI (pc := 55) (ci := 11) (C := R_Model) (T := F_Model) (N := 16) B 11 rfl rfl (by decide) i_Model (B.2.2.2.1 _ k_2056) rfl d_Model_field_55 ?_
          refine mv_if_eq (pc := 58) (tgt := 71) B d_Model_field_58 rfl (fun h58 => ?_) (fun h58 => ?_)
          · skip
            refine mv_aload_n (pc := 71) B d_Model_field_71 rfl 1 rfl ?_
            refine mv_getR (pc := 72) (ci := 11) (C := R_Model) (T := F_Model) (N := 16) B 9 rfl rfl (by decide) i_Model (B.2.2.2.1 _ k_2054) rfl hM.2.1 d_Model_field_72 ?_
            refine mv_iload_n (pc := 75) B d_Model_field_75 rfl 2 rfl ?_
            refine mv_iload_n (pc := 76) B d_Model_field_76 rfl 3 rfl ?_
            refine mv_callVi (pc := 77) (n := 2) (ci := 12) (C := R_Book) B (mK_ok sk sv) hNs rfl rfl (c_kf_Book_hasField_y l hi _ _ _ k hM.1 g5 (by omega) (by rw [g5.1] at h29; exact h29)) rfl (ma_goodc kc_Book_hasField) (B.2.2.2.1 _ k_2403) (B.2.2.2.1 _ k_2404) (B.2.2.2.1 _ k_2405) (B.2.2.2.1 _ k_13) ⟨by decide +kernel, by decide +kernel, by decide +kernel⟩ rfl d_Model_field_77 rfl (Nat.le_of_ble_eq_true rfl) ⟨by decide, by decide⟩ ⟨by decide, by decide⟩ ⟨by decide, by decide⟩ (mv_noH hno _) (fun v77 σ77 h77 => ?_)
            obtain ⟨e77, z77⟩ := h77
            have e77 := e77.symm
            subst e77
            refine mv_if_ne (pc := 80) (tgt := 85) B d_Model_field_80 rfl (fun h80 => ?_) (fun h80 => ?_)
            · skip
              refine mv_aload_n (pc := 85) B d_Model_field_85 rfl 1 rfl ?_
              refine mv_iconst (pc := 86) (v := 0) B d_Model_field_86 (by decide) ?_
              refine mv_putI (pc := 87) (ci := 11) (C := R_Model) (T := F_Model) (N := 16) B 2 rfl rfl (by decide) i_Model t_Model_ok n_Model (B.2.2.2.1 _ k_2047) rfl rfl rfl rfl d_Model_field_87 ?_
              refine mv_gen (fun S90 eS90 => ?_)
              have hM9 := hM
              have hMs : MI 108 74 S90 := by rw [eS90]; exact hM.qf (QF.si Fx.rf (by decide)) hN
              have gs : CO 108 k S90 := by rw [eS90]; exact g5.fr (mv_si_o _ _ (by omega)) (mv_si_o _ _ (by omega)) (fun j => rfl)
              have hFs : QF 108 σ S90 := by rw [eS90]; exact hF.si (by decide)
              have e94 : mv_i S90 70 11 = mv_i S5 70 11 := by rw [eS90, mv_si_o _ _ (by omega)]
              have x90 : mv_i S90 70 2 = 0 := by rw [eS90, mv_si_s]
              have j20 : mv_i S90 108 20 = mv_i σ 108 20 := hFs.1 108 20 (by omega)
              have r90 : mv_a S90 = mv_a σ := by rw [eS90]; exact r5
              have hM := hMs
              clear eS90
              refine mv_aload_n (pc := 90) B d_Model_field_90 rfl 1 rfl ?_
              refine mv_getI (pc := 91) (ci := 11) (C := R_Model) (T := F_Model) (N := 16) B 11 rfl rfl (by decide) i_Model (B.2.2.2.1 _ k_2056) rfl d_Model_field_91 ?_
              refine mv_if_eq (pc := 94) (tgt := 102) B d_Model_field_94 rfl (fun h94 => ?_) (fun h94 => ?_)
              · skip
                refine mv_aload_n (pc := 102) B d_Model_field_102 rfl 1 rfl ?_
                refine mv_getR (pc := 103) (ci := 11) (C := R_Model) (T := F_Model) (N := 16) B 9 rfl rfl (by decide) i_Model (B.2.2.2.1 _ k_2054) rfl hM.2.1 d_Model_field_103 ?_
                refine mv_iload_n (pc := 106) B d_Model_field_106 rfl 2 rfl ?_
                refine mv_iload_n (pc := 107) B d_Model_field_107 rfl 3 rfl ?_
                refine mv_lload_n (pc := 108) B d_Model_field_108 rfl 4 rfl ?_
                refine mv_callVl (pc := 109) (n := 3) (ci := 12) (C := R_Book) B (mK_ok sk sv) hNs rfl rfl (c_kf_Book_field_y l hi _ _ _ _ k hMs.1 gs (by omega) (by rw [g5.1] at h29; exact h29)) rfl (ma_goodc kc_Book_field) (B.2.2.2.1 _ k_2407) (B.2.2.2.1 _ k_2408) (B.2.2.2.1 _ k_2409) (B.2.2.2.1 _ k_13) ⟨by decide +kernel, by decide +kernel, by decide +kernel⟩ rfl d_Model_field_109 rfl (Nat.le_of_ble_eq_true rfl) ⟨by decide, by decide⟩ ⟨by decide, by decide⟩ ⟨by decide, by decide⟩ (mv_noH hno _) (fun v109 σ109 h109 => ?_)
                obtain ⟨e109, z109⟩ := h109
                have e109 := e109.symm
                subst e109
                exact mv_lret (pc := 112) B hr d_Model_field_112 (Nat.le_refl _) (Nat.le_refl _) ⟨_, rfl, hFs, by first | exact fr_f x90 (fun z => h14 (e11.trans z)) ho0 h29 h65 rfl | exact fr_g x90 (e11.symm.trans h14) ho0 (by rw [← i29]; exact h29) (by rw [← HFq.eq i20 r5]; exact (z77.resolve_right (fun z => h80 z.1)).2) (by rw [j20, r90] at z109; exact z109)⟩
              · skip
                exact absurd (e94.trans h14) h94
            · skip
              refine mv_lconst (pc := 83) (v := 0) B d_Model_field_83 (by decide) ?_
              exact mv_lret (pc := 84) B hr d_Model_field_84 (Nat.le_refl _) (Nat.le_refl _) ⟨_, rfl, hF, by first | exact fr_d x5 (fun z => h14 (e11.trans z)) h65 | exact fr_e x5 (e11.symm.trans h14) (by rw [← HFq.eq i20 r5]; exact (z77.resolve_left (fun z => by rw [h80] at z; exact absurd z.1 (by decide))).2)⟩
          · skip
            exact absurd h14 h58
        · skip
          exact absurd h14 h38
      · skip
        have h29 := fun z => h29 (Int32.lt_iff_toInt_lt.mpr z)
        refine mv_lconst (pc := 32) (v := 0) B d_Model_field_32 (by decide) ?_
        exact mv_lret (pc := 33) B hr d_Model_field_33 (Nat.le_refl _) (Nat.le_refl _) ⟨_, rfl, hF, by first | exact fr_a x5 h6 | exact fr_b x5 (fun z => h14 (e11.trans z)) h29 | exact fr_c x5 (e11.symm.trans h14) (by rw [← i29]; exact h29)⟩
    · skip
      refine mv_bipush (pc := 17) (v := 48) B d_Model_field_17 (by decide) ?_
      refine mv_goto (pc := 19) (tgt := 29) B d_Model_field_19 rfl ?_
      refine mv_icmp_lt (pc := 29) (tgt := 34) B d_Model_field_29 rfl (fun h29 => ?_) (fun h29 => ?_)
      · skip
        rw [Int32.lt_iff_toInt_lt] at h29
        refine mv_aload_n (pc := 34) B d_Model_field_34 rfl 0 rfl ?_
        refine mv_getI (pc := 35) (ci := 11) (C := R_Model) (T := F_Model) (N := 16) B 11 rfl rfl (by decide) i_Model (B.2.2.2.1 _ k_2056) rfl d_Model_field_35 ?_
        refine mv_if_eq (pc := 38) (tgt := 51) B d_Model_field_38 rfl (fun h38 => ?_) (fun h38 => ?_)
        · skip
          exact absurd h38 h14
        · skip
          refine mv_iload_n (pc := 41) B d_Model_field_41 rfl 1 rfl ?_
          refine mv_iload_n (pc := 42) B d_Model_field_42 rfl 2 rfl ?_
          refine mv_lload_n (pc := 43) B d_Model_field_43 rfl 3 rfl ?_
          refine mv_l2i (pc := 44) B d_Model_field_44 ?_
          refine mv_callSl (pc := 45) (n := 3) B (mK_ok sk sv) hNs (ch_Model_shippedField l hi _ _ _ _ (sf_ok (by omega) (show o9.toInt < 48 from h29))) rfl (ma_goodc kc_Model_shippedField) (B.2.2.2.1 _ k_2386) (B.2.2.2.1 _ k_2387) (B.2.2.2.1 _ k_12) ⟨by decide +kernel, by decide +kernel, by decide +kernel⟩ rfl d_Model_field_45 rfl (Nat.le_of_ble_eq_true rfl) ⟨by decide, by decide⟩ ⟨by decide, by decide⟩ ⟨by decide, by decide⟩ (mv_noH hno _) (fun v45 σ45 h45 => ?_)
          obtain ⟨z45, e45, -⟩ := h45
          subst e45
          subst z45
          refine mv_goto (pc := 48) (tgt := 52) B d_Model_field_48 rfl ?_
          refine mv_lstore (pc := 52) B d_Model_field_52 (by decide) rfl ?_
          refine mv_aload_n (pc := 54) B d_Model_field_54 rfl 1 rfl ?_
          refine mv_getI (pc := 55) (ci := 11) (C := R_Model) (T := F_Model) (N := 16) B 11 rfl rfl (by decide) i_Model (B.2.2.2.1 _ k_2056) rfl d_Model_field_55 ?_
          refine mv_if_eq (pc := 58) (tgt := 71) B d_Model_field_58 rfl (fun h58 => ?_) (fun h58 => ?_)
          · skip
            exact absurd h58 h14
          · skip
            refine mv_lload (pc := 61) B d_Model_field_61 0 rfl ?_
            refine mv_lconst (pc := 63) (v := 0) B d_Model_field_63 (by decide) ?_
            refine mv_lcmp (pc := 64) B d_Model_field_64 ?_
            refine mv_if_ge (pc := 65) (tgt := 85) B d_Model_field_65 rfl (fun h65 => ?_) (fun h65 => ?_)
            · skip
              refine mv_aload_n (pc := 85) B d_Model_field_85 rfl 1 rfl ?_
              refine mv_iconst (pc := 86) (v := 0) B d_Model_field_86 (by decide) ?_
              refine mv_putI (pc := 87) (ci := 11) (C := R_Model) (T := F_Model) (N := 16) B 2 rfl rfl (by decide) i_Model t_Model_ok n_Model (B.2.2.2.1 _ k_2047) rfl rfl rfl rfl d_Model_field_87 ?_
              refine mv_gen (fun S90 eS90 => ?_)
              have hM9 := hM
              have hMs : MI 108 74 S90 := by rw [eS90]; exact hM.qf (QF.si Fx.rf (by decide)) hN
              have gs : CO 108 k S90 := by rw [eS90]; exact g5.fr (mv_si_o _ _ (by omega)) (mv_si_o _ _ (by omega)) (fun j => rfl)
              have hFs : QF 108 σ S90 := by rw [eS90]; exact hF.si (by decide)
              have e94 : mv_i S90 70 11 = mv_i S5 70 11 := by rw [eS90, mv_si_o _ _ (by omega)]
              have x90 : mv_i S90 70 2 = 0 := by rw [eS90, mv_si_s]
              have j20 : mv_i S90 108 20 = mv_i σ 108 20 := hFs.1 108 20 (by omega)
              have r90 : mv_a S90 = mv_a σ := by rw [eS90]; exact r5
              have hM := hMs
              clear eS90
              refine mv_aload_n (pc := 90) B d_Model_field_90 rfl 1 rfl ?_
              refine mv_getI (pc := 91) (ci := 11) (C := R_Model) (T := F_Model) (N := 16) B 11 rfl rfl (by decide) i_Model (B.2.2.2.1 _ k_2056) rfl d_Model_field_91 ?_
              refine mv_if_eq (pc := 94) (tgt := 102) B d_Model_field_94 rfl (fun h94 => ?_) (fun h94 => ?_)
              · skip
                exact absurd (e94.symm.trans h94) h14
              · skip
                refine mv_lload (pc := 97) B d_Model_field_97 0 rfl ?_
                refine mv_goto (pc := 99) (tgt := 112) B d_Model_field_99 rfl ?_
                exact mv_lret (pc := 112) B hr d_Model_field_112 (Nat.le_refl _) (Nat.le_refl _) ⟨_, rfl, hFs, by first | exact fr_f x90 (fun z => h14 (e11.trans z)) ho0 h29 h65 rfl | exact fr_g x90 (e11.symm.trans h14) ho0 (by rw [← i29]; exact h29) (by rw [← HFq.eq i20 r5]; exact (z77.resolve_right (fun z => h80 z.1)).2) (by rw [j20, r90] at z109; exact z109)⟩
            · skip
              refine mv_goto (pc := 68) (tgt := 83) B d_Model_field_68 rfl ?_
              refine mv_lconst (pc := 83) (v := 0) B d_Model_field_83 (by decide) ?_
              exact mv_lret (pc := 84) B hr d_Model_field_84 (Nat.le_refl _) (Nat.le_refl _) ⟨_, rfl, hF, by first | exact fr_d x5 (fun z => h14 (e11.trans z)) h65 | exact fr_e x5 (e11.symm.trans h14) (by rw [← HFq.eq i20 r5]; exact (z77.resolve_left (fun z => by rw [h80] at z; exact absurd z.1 (by decide))).2)⟩
      · skip
        have h29 := fun z => h29 (Int32.lt_iff_toInt_lt.mpr z)
        refine mv_lconst (pc := 32) (v := 0) B d_Model_field_32 (by decide) ?_
        exact mv_lret (pc := 33) B hr d_Model_field_33 (Nat.le_refl _) (Nat.le_refl _) ⟨_, rfl, hF, by first | exact fr_a x5 h6 | exact fr_b x5 (fun z => h14 (e11.trans z)) h29 | exact fr_c x5 (e11.symm.trans h14) (by rw [← i29]; exact h29)⟩
