/-! exact runs of the reference's book at work -/
def f_Book_cut (h : mv_H) (a0 : Int64) (a1 : Int32) : Option (Int64 × mv_H) := if a1 = (64 : Int32) then (some (a0, h)) else (some ((a0 &&& (((1 : Int64) <<< ((a1).toInt64 &&& 63)) - (1 : Int64))), h))
set_option maxHeartbeats 4000000 in
set_option maxRecDepth 100000 in
theorem ch_Book_cut (l : Launch) {dA : FieldType → ClassId} {D : va_G} {al : Nat → Nat} {ext : mv_Sh} {sk sv : Nat → Nat} (hi : mv_inj (mg dA D al ext)) (h : mv_H)  (a0 : Int64) (a1 : Int32) {rv : Int64} {rg : mv_H} (hf : f_Book_cut h a0 a1 = some (rv, rg)) : mv_C l y_Book_cut (Cond.code y_Book_cut b_Book_cut 3 (Option.some Jvm.ClassFile.FieldType.long) :: ma) ({ frames := 0, cells := 0, slots := 0, locals := 0 }) (mg dA D al ext) (mK sk sv) [.long a0, .int a1] h (mv_Rl (fun v σ1 => rv = v ∧ rg = σ1 ∧ mv_r σ1 = mv_r h)) := by
  refine mv_C.ofV (cc := b_Book_cut) (nL := 3) (ret := (Option.some Jvm.ClassFile.FieldType.long)) (by decide +kernel) rfl hi (Nat.le_of_ble_eq_true rfl) ?_
  intro p e s m below meth c B hNs hr hnm hno
  unfold f_Book_cut at hf
  refine mv_iload_n (pc := 0) B d_Book_cut_0 rfl 1 rfl ?_
  refine mv_bipush (pc := 1) (v := 64) B d_Book_cut_1 (by decide) ?_
  refine mv_icmp_ne (pc := 3) (tgt := 10) B d_Book_cut_3 rfl (fun h3 => ?_) (fun h3 => ?_)
  · skip
    have hf := xif_f h3 hf
    refine mv_lload_n (pc := 10) B d_Book_cut_10 rfl 0 rfl ?_
    refine mv_lconst (pc := 11) (v := 1) B d_Book_cut_11 (by decide) ?_
    refine mv_iload_n (pc := 12) B d_Book_cut_12 rfl 1 rfl ?_
    refine mv_lshl (pc := 13) B d_Book_cut_13 ?_
    refine mv_lconst (pc := 14) (v := 1) B d_Book_cut_14 (by decide) ?_
    refine mv_lsub (pc := 15) B d_Book_cut_15 ?_
    refine mv_land (pc := 16) B d_Book_cut_16 ?_
    exact mv_lret (pc := 17) B hr d_Book_cut_17 (Nat.le_refl _) (Nat.le_refl _) ⟨_, rfl, xrh_l hf rfl⟩
  · skip
    have hf := xif_t h3 hf
    refine mv_lload_n (pc := 6) B d_Book_cut_6 rfl 0 rfl ?_
    refine mv_goto (pc := 7) (tgt := 17) B d_Book_cut_7 rfl ?_
    exact mv_lret (pc := 17) B hr d_Book_cut_17 (Nat.le_refl _) (Nat.le_refl _) ⟨_, rfl, xrh_l hf rfl⟩
def f_Book_signed (h : mv_H) (a0 : Int64) (a1 : Int32) : Option (Int64 × mv_H) := some (((a0 <<< ((((64 : Int32) - a1)).toInt64 &&& 63)) >>> ((((64 : Int32) - a1)).toInt64 &&& 63)), h)
set_option maxHeartbeats 4000000 in
set_option maxRecDepth 100000 in
theorem ch_Book_signed (l : Launch) {dA : FieldType → ClassId} {D : va_G} {al : Nat → Nat} {ext : mv_Sh} {sk sv : Nat → Nat} (hi : mv_inj (mg dA D al ext)) (h : mv_H)  (a0 : Int64) (a1 : Int32) {rv : Int64} {rg : mv_H} (hf : f_Book_signed h a0 a1 = some (rv, rg)) : mv_C l y_Book_signed (Cond.code y_Book_signed b_Book_signed 3 (Option.some Jvm.ClassFile.FieldType.long) :: ma) ({ frames := 0, cells := 0, slots := 0, locals := 0 }) (mg dA D al ext) (mK sk sv) [.long a0, .int a1] h (mv_Rl (fun v σ1 => rv = v ∧ rg = σ1 ∧ mv_r σ1 = mv_r h)) := by
  refine mv_C.ofV (cc := b_Book_signed) (nL := 3) (ret := (Option.some Jvm.ClassFile.FieldType.long)) (by decide +kernel) rfl hi (Nat.le_of_ble_eq_true rfl) ?_
  intro p e s m below meth c B hNs hr hnm hno
  unfold f_Book_signed at hf
  refine mv_lload_n (pc := 0) B d_Book_signed_0 rfl 0 rfl ?_
  refine mv_bipush (pc := 1) (v := 64) B d_Book_signed_1 (by decide) ?_
  refine mv_iload_n (pc := 3) B d_Book_signed_3 rfl 1 rfl ?_
  refine mv_isub (pc := 4) B d_Book_signed_4 ?_
  refine mv_lshl (pc := 5) B d_Book_signed_5 ?_
  refine mv_bipush (pc := 6) (v := 64) B d_Book_signed_6 (by decide) ?_
  refine mv_iload_n (pc := 8) B d_Book_signed_8 rfl 1 rfl ?_
  refine mv_isub (pc := 9) B d_Book_signed_9 ?_
  refine mv_lshr (pc := 10) B d_Book_signed_10 ?_
  exact mv_lret (pc := 11) B hr d_Book_signed_11 (Nat.le_refl _) (Nat.le_refl _) ⟨_, rfl, xrh_l hf rfl⟩
def f_Book_below (h : mv_H) (a0 : Int64) (a1 : Int64) : Option (Int32 × mv_H) := if (0 : Int32) ≤ (lg_cmp (a0 + (-9223372036854775808 : Int64)) (a1 + (-9223372036854775808 : Int64))) then (bif xzb (0 : Int32) then some ((0 : Int32), h) else none) else (bif xzb (1 : Int32) then some ((1 : Int32), h) else none)
set_option maxHeartbeats 4000000 in
set_option maxRecDepth 100000 in
theorem ch_Book_below (l : Launch) {dA : FieldType → ClassId} {D : va_G} {al : Nat → Nat} {ext : mv_Sh} {sk sv : Nat → Nat} (hi : mv_inj (mg dA D al ext)) (h : mv_H)  (a0 : Int64) (a1 : Int64) {rv : Int32} {rg : mv_H} (hf : f_Book_below h a0 a1 = some (rv, rg)) : mv_C l y_Book_below (Cond.code y_Book_below b_Book_below 4 (Option.some Jvm.ClassFile.FieldType.boolean) :: ma) ({ frames := 0, cells := 0, slots := 0, locals := 0 }) (mg dA D al ext) (mK sk sv) [.long a0, .long a1] h (mv_Ri (fun v σ1 => rv = v ∧ rg = σ1 ∧ mv_r σ1 = mv_r h)) := by
  refine mv_C.ofV (cc := b_Book_below) (nL := 4) (ret := (Option.some Jvm.ClassFile.FieldType.boolean)) (by decide +kernel) rfl hi (Nat.le_of_ble_eq_true rfl) ?_
  intro p e s m below meth c B hNs hr hnm hno
  unfold f_Book_below at hf
  refine mv_lload_n (pc := 0) B d_Book_below_0 rfl 0 rfl ?_
  refine mv_ldc2 (pc := 1) (v := -9223372036854775808) B (B.2.2.2.1 _ k_2317) d_Book_below_1 ?_
  refine mv_ladd (pc := 4) B d_Book_below_4 ?_
  refine mv_lload_n (pc := 5) B d_Book_below_5 rfl 1 rfl ?_
  refine mv_ldc2 (pc := 6) (v := -9223372036854775808) B (B.2.2.2.1 _ k_2317) d_Book_below_6 ?_
  refine mv_ladd (pc := 9) B d_Book_below_9 ?_
  refine mv_lcmp (pc := 10) B d_Book_below_10 ?_
  refine mv_if_ge (pc := 11) (tgt := 18) B d_Book_below_11 rfl (fun h11 => ?_) (fun h11 => ?_)
  · skip
    have hf := xif_t h11 hf
    refine mv_iconst (pc := 18) (v := 0) B d_Book_below_18 (by decide) ?_
    obtain ⟨q1, hf⟩ := xzb_e hf
    exact mv_iret (pc := 19) B hr (xzb_n q1) d_Book_below_19 (Nat.le_refl _) (Nat.le_refl _) ⟨_, rfl, xrh_i hf rfl⟩
  · skip
    have hf := xif_f h11 hf
    refine mv_iconst (pc := 14) (v := 1) B d_Book_below_14 (by decide) ?_
    refine mv_goto (pc := 15) (tgt := 19) B d_Book_below_15 rfl ?_
    obtain ⟨q2, hf⟩ := xzb_e hf
    exact mv_iret (pc := 19) B hr (xzb_n q2) d_Book_below_19 (Nat.le_refl _) (Nat.le_refl _) ⟨_, rfl, xrh_i hf rfl⟩
def f_Book_divided_74 (k10 : Int64 → Int64 → Int64 → Int64 → Int32 → mv_H → Option (Int64 × mv_H)) (x0 : Int64) (x2 : Int64) (x4 : Int64) (x6 : Int64) (x8 : Int32) (hz : mv_H) : Option (Int64 × mv_H) := k10 x0 x2 x4 x6 (x8 + (-1)) hz
def f_Book_divided_59 (k10 : Int64 → Int64 → Int64 → Int64 → Int32 → mv_H → Option (Int64 × mv_H)) (x0 : Int64) (x2 : Int64) (x4 : Int64) (x6 : Int64) (x8 : Int32) (hz : mv_H) : Option (Int64 × mv_H) := f_Book_divided_74 k10 x0 x2 (x4 ||| ((1 : Int64) <<< ((x8).toInt64 &&& 63))) (x6 - x2) x8 hz
def f_Book_divided_27 (k10 : Int64 → Int64 → Int64 → Int64 → Int32 → mv_H → Option (Int64 × mv_H)) (x0 : Int64) (x2 : Int64) (x4 : Int64) (x6 : Int64) (x8 : Int32) (y0 : Int32) (hz : mv_H) : Option (Int64 × mv_H) := if y0 = (0 : Int32) then (xhb (f_Book_below hz ((x6 <<< (((1 : Int32)).toInt64 &&& 63)) ||| ((((x0).toUInt64 >>> ((x8).toInt64.toUInt64 &&& Int64.toUInt64 63)).toInt64) &&& (1 : Int64))) x2) fun u2 g1 => if u2 = (0 : Int32) then (f_Book_divided_59 k10 x0 x2 x4 ((x6 <<< (((1 : Int32)).toInt64 &&& 63)) ||| ((((x0).toUInt64 >>> ((x8).toInt64.toUInt64 &&& Int64.toUInt64 63)).toInt64) &&& (1 : Int64))) x8 g1) else (f_Book_divided_74 k10 x0 x2 x4 ((x6 <<< (((1 : Int32)).toInt64 &&& 63)) ||| ((((x0).toUInt64 >>> ((x8).toInt64.toUInt64 &&& Int64.toUInt64 63)).toInt64) &&& (1 : Int64))) x8 g1)) else (f_Book_divided_59 k10 x0 x2 x4 ((x6 <<< (((1 : Int32)).toInt64 &&& 63)) ||| ((((x0).toUInt64 >>> ((x8).toInt64.toUInt64 &&& Int64.toUInt64 63)).toInt64) &&& (1 : Int64))) x8 hz)
def fF_Book_divided_10 (k10 : Int64 → Int64 → Int64 → Int64 → Int32 → mv_H → Option (Int64 × mv_H)) (x0 : Int64) (x2 : Int64) (x4 : Int64) (x6 : Int64) (x8 : Int32) (hz : mv_H) : Option (Int64 × mv_H) := if x8 < (0 : Int32) then (some (x4, hz)) else (if (0 : Int32) ≤ (lg_cmp x6 (0 : Int64)) then (f_Book_divided_27 k10 x0 x2 x4 x6 x8 (0 : Int32) hz) else (f_Book_divided_27 k10 x0 x2 x4 x6 x8 (1 : Int32) hz))
def f_Book_divided_10 : Nat → Int64 → Int64 → Int64 → Int64 → Int32 → mv_H → Option (Int64 × mv_H)
  | 0 => fun _ _ _ _ _ _ => none
  | nn + 1 => fF_Book_divided_10 (f_Book_divided_10 nn)
def f_Book_divided (h : mv_H) (a0 : Int64) (a1 : Int64) : Option (Int64 × mv_H) := f_Book_divided_10 200000 a0 a1 (0 : Int64) (0 : Int64) (63 : Int32) h
set_option maxHeartbeats 4000000 in
set_option maxRecDepth 100000 in
theorem ch_Book_divided (l : Launch) {dA : FieldType → ClassId} {D : va_G} {al : Nat → Nat} {ext : mv_Sh} {sk sv : Nat → Nat} (hi : mv_inj (mg dA D al ext)) (h : mv_H)  (a0 : Int64) (a1 : Int64) {rv : Int64} {rg : mv_H} (hf : f_Book_divided h a0 a1 = some (rv, rg)) : mv_C l y_Book_divided (Cond.code y_Book_divided b_Book_divided 10 (Option.some Jvm.ClassFile.FieldType.long) :: ma) ({ frames := 1, cells := 0, slots := 0, locals := 23 }) (mg dA D al ext) (mK sk sv) [.long a0, .long a1] h (mv_Rl (fun v σ1 => rv = v ∧ rg = σ1 ∧ mv_r σ1 = mv_r h)) := by
  refine mv_C.ofV (cc := b_Book_divided) (nL := 10) (ret := (Option.some Jvm.ClassFile.FieldType.long)) (by decide +kernel) rfl hi (Nat.le_of_ble_eq_true rfl) ?_
  intro p e s m below meth c B hNs hr hnm hno
  have lp10 : ∀ (nn10 : Nat) (x0 : Int64) (x2 : Int64) (x4 : Int64) (x6 : Int64) (x8 : Int32) (hz : mv_H), mv_r hz = mv_r h → f_Book_divided_10 nn10 x0 x2 x4 x6 x8 hz = some (rv, rg) → mv_V p l e ({ frames := 1, cells := 0, slots := 0, locals := 23 }) s m ([.long a0, .long a1] : List Value).toArray below meth c (mg dA D al ext) 10 0 0 (mv_Q (mg dA D al ext) below s 0 0 (mv_Rl (fun v σ1 => rv = v ∧ rg = σ1 ∧ mv_r σ1 = mv_r h))) hz 10 [(0, .long x0), (2, .long x2), (4, .long x4), (6, .long x6), (8, .int x8)] [] := by
    intro nn10
    induction nn10 with
    | zero => intro x0 x2 x4 x6 x8 hz r_hz hf; cases hf
    | succ nn10 ih10 =>
      intro x0 x2 x4 x6 x8 hz r_hz hf
      have jn74 : ∀ (x0 : Int64) (x2 : Int64) (x4 : Int64) (x6 : Int64) (x8 : Int32) (hz : mv_H), mv_r hz = mv_r h → f_Book_divided_74 (f_Book_divided_10 nn10) x0 x2 x4 x6 x8 hz = some (rv, rg) → mv_V p l e ({ frames := 1, cells := 0, slots := 0, locals := 23 }) s m ([.long a0, .long a1] : List Value).toArray below meth c (mg dA D al ext) 10 0 0 (mv_Q (mg dA D al ext) below s 0 0 (mv_Rl (fun v σ1 => rv = v ∧ rg = σ1 ∧ mv_r σ1 = mv_r h))) hz 74 [(0, .long x0), (2, .long x2), (4, .long x4), (6, .long x6), (8, .int x8)] [] := by
        intro x0 x2 x4 x6 x8 hz r_hz hf
        unfold f_Book_divided_74 at hf
        refine mv_iinc (pc := 74) (j := 4) (v := -1) B d_Book_divided_74 rfl (by decide) (by decide) rfl ?_
        refine mv_goto (pc := 77) (tgt := 10) B d_Book_divided_77 rfl ?_
        refine mv_lpick [1, 2, 3, 4, 0] rfl ?_
        exact ih10 _ _ _ _ _ _ r_hz hf
      have jn59 : ∀ (x0 : Int64) (x2 : Int64) (x4 : Int64) (x6 : Int64) (x8 : Int32) (hz : mv_H), mv_r hz = mv_r h → f_Book_divided_59 (f_Book_divided_10 nn10) x0 x2 x4 x6 x8 hz = some (rv, rg) → mv_V p l e ({ frames := 1, cells := 0, slots := 0, locals := 23 }) s m ([.long a0, .long a1] : List Value).toArray below meth c (mg dA D al ext) 10 0 0 (mv_Q (mg dA D al ext) below s 0 0 (mv_Rl (fun v σ1 => rv = v ∧ rg = σ1 ∧ mv_r σ1 = mv_r h))) hz 59 [(0, .long x0), (2, .long x2), (4, .long x4), (6, .long x6), (8, .int x8)] [] := by
        intro x0 x2 x4 x6 x8 hz r_hz hf
        unfold f_Book_divided_59 at hf
        refine mv_lload (pc := 59) B d_Book_divided_59 3 rfl ?_
        refine mv_lload_n (pc := 61) B d_Book_divided_61 rfl 1 rfl ?_
        refine mv_lsub (pc := 62) B d_Book_divided_62 ?_
        refine mv_lstore (pc := 63) B d_Book_divided_63 (by decide) rfl ?_
        refine mv_lload (pc := 65) B d_Book_divided_65 3 rfl ?_
        refine mv_lconst (pc := 67) (v := 1) B d_Book_divided_67 (by decide) ?_
        refine mv_iload (pc := 68) B d_Book_divided_68 4 rfl ?_
        refine mv_lshl (pc := 70) B d_Book_divided_70 ?_
        refine mv_lor (pc := 71) B d_Book_divided_71 ?_
        refine mv_lstore (pc := 72) B d_Book_divided_72 (by decide) rfl ?_
        refine mv_lpick [2, 3, 0, 1, 4] rfl ?_
        exact jn74 _ _ _ _ _ _ r_hz hf
      have jn27 : ∀ (x0 : Int64) (x2 : Int64) (x4 : Int64) (x6 : Int64) (x8 : Int32) (y0 : Int32) (hz : mv_H), mv_r hz = mv_r h → f_Book_divided_27 (f_Book_divided_10 nn10) x0 x2 x4 x6 x8 y0 hz = some (rv, rg) → mv_V p l e ({ frames := 1, cells := 0, slots := 0, locals := 23 }) s m ([.long a0, .long a1] : List Value).toArray below meth c (mg dA D al ext) 10 0 0 (mv_Q (mg dA D al ext) below s 0 0 (mv_Rl (fun v σ1 => rv = v ∧ rg = σ1 ∧ mv_r σ1 = mv_r h))) hz 27 [(0, .long x0), (2, .long x2), (4, .long x4), (6, .long x6), (8, .int x8)] [.int y0] := by
        intro x0 x2 x4 x6 x8 y0 hz r_hz hf
        unfold f_Book_divided_27 at hf
        refine mv_istore (pc := 27) B d_Book_divided_27 (by decide) rfl ?_
        refine mv_lload (pc := 29) B d_Book_divided_29 4 rfl ?_
        refine mv_iconst (pc := 31) (v := 1) B d_Book_divided_31 (by decide) ?_
        refine mv_lshl (pc := 32) B d_Book_divided_32 ?_
        refine mv_lload_n (pc := 33) B d_Book_divided_33 rfl 1 rfl ?_
        refine mv_iload (pc := 34) B d_Book_divided_34 5 rfl ?_
        refine mv_lushr (pc := 36) B d_Book_divided_36 ?_
        refine mv_lconst (pc := 37) (v := 1) B d_Book_divided_37 (by decide) ?_
        refine mv_land (pc := 38) B d_Book_divided_38 ?_
        refine mv_lor (pc := 39) B d_Book_divided_39 ?_
        refine mv_lstore (pc := 40) B d_Book_divided_40 (by decide) rfl ?_
        refine mv_iload (pc := 42) B d_Book_divided_42 1 rfl ?_
        refine mv_if_ne (pc := 44) (tgt := 59) B d_Book_divided_44 rfl (fun h44 => ?_) (fun h44 => ?_)
        · skip
          have hf := xif_f h44 hf
          refine mv_lpick [2, 3, 4, 0, 5] rfl ?_
          exact jn59 _ _ _ _ _ _ r_hz hf
        · skip
          have hf := xif_t h44 hf
          refine mv_lload (pc := 47) B d_Book_divided_47 0 rfl ?_
          refine mv_lload_n (pc := 49) B d_Book_divided_49 rfl 3 rfl ?_
          obtain ⟨u2, g1, eg1, hf⟩ := xhb_e hf
          refine mv_callSi (pc := 50) (n := 2) B (mK_ok sk sv) hNs (ch_Book_below l hi _ _ _ eg1) rfl (ma_goodc kc_Book_below) (B.2.2.2.1 _ k_2532) (B.2.2.2.1 _ k_2533) (B.2.2.2.1 _ k_13) ⟨by decide +kernel, by decide +kernel, by decide +kernel⟩ rfl d_Book_divided_50 rfl (Nat.le_of_ble_eq_true rfl) ⟨by first | decide | (dsimp only; omega), by first | decide | (dsimp only; omega)⟩ ⟨Nat.le_refl _, Nat.le_refl _⟩ ⟨Nat.le_refl _, Nat.le_refl _⟩ (mv_noH hno _) (fun w50 σ50 h50 => ?_)
          obtain ⟨rfl, rfl, s_g1⟩ := h50
          have r_g1 : mv_r g1 = mv_r h := s_g1.trans r_hz
          refine mv_if_eq (pc := 53) (tgt := 59) B d_Book_divided_53 rfl (fun h53 => ?_) (fun h53 => ?_)
          · skip
            have hf := xif_t h53 hf
            refine mv_lpick [2, 3, 4, 0, 5] rfl ?_
            exact jn59 _ _ _ _ _ _ r_g1 hf
          · skip
            have hf := xif_f h53 hf
            refine mv_goto (pc := 56) (tgt := 74) B d_Book_divided_56 rfl ?_
            refine mv_lpick [2, 3, 4, 0, 5] rfl ?_
            exact jn74 _ _ _ _ _ _ r_g1 hf
      have hf : fF_Book_divided_10 (f_Book_divided_10 nn10) x0 x2 x4 x6 x8 hz = some (rv, rg) := hf
      unfold fF_Book_divided_10 at hf
      refine mv_iload (pc := 10) B d_Book_divided_10 4 rfl ?_
      refine mv_if_lt (pc := 12) (tgt := 80) B d_Book_divided_12 rfl (fun h12 => ?_) (fun h12 => ?_)
      · skip
        have hf := xif_t h12 hf
        refine mv_lload (pc := 80) B d_Book_divided_80 2 rfl ?_
        exact mv_lret (pc := 82) B hr d_Book_divided_82 (Nat.le_refl _) (Nat.le_refl _) ⟨_, rfl, xrh_l hf r_hz⟩
      · skip
        have hf := xif_f h12 hf
        refine mv_lload (pc := 15) B d_Book_divided_15 3 rfl ?_
        refine mv_lconst (pc := 17) (v := 0) B d_Book_divided_17 (by decide) ?_
        refine mv_lcmp (pc := 18) B d_Book_divided_18 ?_
        refine mv_if_ge (pc := 19) (tgt := 26) B d_Book_divided_19 rfl (fun h19 => ?_) (fun h19 => ?_)
        · skip
          have hf := xif_t h19 hf
          refine mv_iconst (pc := 26) (v := 0) B d_Book_divided_26 (by decide) ?_
          refine mv_lpick [0, 1, 2, 3, 4] rfl ?_
          exact jn27 _ _ _ _ _ _ _ r_hz hf
        · skip
          have hf := xif_f h19 hf
          refine mv_iconst (pc := 22) (v := 1) B d_Book_divided_22 (by decide) ?_
          refine mv_goto (pc := 23) (tgt := 27) B d_Book_divided_23 rfl ?_
          refine mv_lpick [0, 1, 2, 3, 4] rfl ?_
          exact jn27 _ _ _ _ _ _ _ r_hz hf
  unfold f_Book_divided at hf
  refine mv_lconst (pc := 0) (v := 0) B d_Book_divided_0 (by decide) ?_
  refine mv_lstore (pc := 1) B d_Book_divided_1 (by decide) rfl ?_
  refine mv_lconst (pc := 3) (v := 0) B d_Book_divided_3 (by decide) ?_
  refine mv_lstore (pc := 4) B d_Book_divided_4 (by decide) rfl ?_
  refine mv_bipush (pc := 6) (v := 63) B d_Book_divided_6 (by decide) ?_
  refine mv_istore (pc := 8) B d_Book_divided_8 (by decide) rfl ?_
  refine mv_lpick [3, 4, 2, 1, 0] rfl ?_
  exact lp10 _ _ _ _ _ _ _ rfl hf
def f_Book_divide (h : mv_H) (a0 : Int32) (a1 : Int64) (a2 : Int64) (a3 : Int64) : Option (Int64 × mv_H) := if (lg_cmp a2 (0 : Int64)) = (0 : Int32) then (if a0 = (1001 : Int32) then (some ((-1 : Int64), h)) else (some (a3, h))) else (if (lg_cmp a2 (-1 : Int64)) = (0 : Int32) then (if a0 = (1001 : Int32) then (some (((-a1)), h)) else (some ((0 : Int64), h))) else (if a0 = (1001 : Int32) then (bif xnzJ a2 then some ((a1 / a2), h) else none) else (bif xnzJ a2 then some ((a1 - a1 / a2 * a2), h) else none)))
set_option maxHeartbeats 4000000 in
set_option maxRecDepth 100000 in
theorem ch_Book_divide (l : Launch) {dA : FieldType → ClassId} {D : va_G} {al : Nat → Nat} {ext : mv_Sh} {sk sv : Nat → Nat} (hi : mv_inj (mg dA D al ext)) (h : mv_H)  (a0 : Int32) (a1 : Int64) (a2 : Int64) (a3 : Int64) {rv : Int64} {rg : mv_H} (hf : f_Book_divide h a0 a1 a2 a3 = some (rv, rg)) : mv_C l y_Book_divide (Cond.code y_Book_divide b_Book_divide 7 (Option.some Jvm.ClassFile.FieldType.long) :: ma) ({ frames := 0, cells := 0, slots := 0, locals := 0 }) (mg dA D al ext) (mK sk sv) [.int a0, .long a1, .long a2, .long a3] h (mv_Rl (fun v σ1 => rv = v ∧ rg = σ1 ∧ mv_r σ1 = mv_r h)) := by
  refine mv_C.ofV (cc := b_Book_divide) (nL := 7) (ret := (Option.some Jvm.ClassFile.FieldType.long)) (by decide +kernel) rfl hi (Nat.le_of_ble_eq_true rfl) ?_
  intro p e s m below meth c B hNs hr hnm hno
  unfold f_Book_divide at hf
  refine mv_lload_n (pc := 0) B d_Book_divide_0 rfl 2 rfl ?_
  refine mv_lconst (pc := 1) (v := 0) B d_Book_divide_1 (by decide) ?_
  refine mv_lcmp (pc := 2) B d_Book_divide_2 ?_
  refine mv_if_ne (pc := 3) (tgt := 22) B d_Book_divide_3 rfl (fun h3 => ?_) (fun h3 => ?_)
  · skip
    have hf := xif_f h3 hf
    refine mv_lload_n (pc := 22) B d_Book_divide_22 rfl 2 rfl ?_
    refine mv_ldc2 (pc := 23) (v := -1) B (B.2.2.2.1 _ k_2520) d_Book_divide_23 ?_
    refine mv_lcmp (pc := 26) B d_Book_divide_26 ?_
    refine mv_if_ne (pc := 27) (tgt := 44) B d_Book_divide_27 rfl (fun h27 => ?_) (fun h27 => ?_)
    · skip
      have hf := xif_f h27 hf
      refine mv_iload_n (pc := 44) B d_Book_divide_44 rfl 0 rfl ?_
      refine mv_sipush (pc := 45) (v := 1001) B d_Book_divide_45 (by decide) ?_
      refine mv_icmp_ne (pc := 48) (tgt := 57) B d_Book_divide_48 rfl (fun h48 => ?_) (fun h48 => ?_)
      · skip
        have hf := xif_f h48 hf
        refine mv_lload_n (pc := 57) B d_Book_divide_57 rfl 1 rfl ?_
        refine mv_lload_n (pc := 58) B d_Book_divide_58 rfl 2 rfl ?_
        obtain ⟨q1, hf⟩ := xnzJ_e hf
        refine mv_lrem (pc := 59) B d_Book_divide_59 q1 ?_
        exact mv_lret (pc := 60) B hr d_Book_divide_60 (Nat.le_refl _) (Nat.le_refl _) ⟨_, rfl, xrh_l hf rfl⟩
      · skip
        have hf := xif_t h48 hf
        refine mv_lload_n (pc := 51) B d_Book_divide_51 rfl 1 rfl ?_
        refine mv_lload_n (pc := 52) B d_Book_divide_52 rfl 2 rfl ?_
        obtain ⟨q2, hf⟩ := xnzJ_e hf
        refine mv_ldiv (pc := 53) B d_Book_divide_53 q2 ?_
        refine mv_goto (pc := 54) (tgt := 60) B d_Book_divide_54 rfl ?_
        exact mv_lret (pc := 60) B hr d_Book_divide_60 (Nat.le_refl _) (Nat.le_refl _) ⟨_, rfl, xrh_l hf rfl⟩
    · skip
      have hf := xif_t h27 hf
      refine mv_iload_n (pc := 30) B d_Book_divide_30 rfl 0 rfl ?_
      refine mv_sipush (pc := 31) (v := 1001) B d_Book_divide_31 (by decide) ?_
      refine mv_icmp_ne (pc := 34) (tgt := 42) B d_Book_divide_34 rfl (fun h34 => ?_) (fun h34 => ?_)
      · skip
        have hf := xif_f h34 hf
        refine mv_lconst (pc := 42) (v := 0) B d_Book_divide_42 (by decide) ?_
        exact mv_lret (pc := 43) B hr d_Book_divide_43 (Nat.le_refl _) (Nat.le_refl _) ⟨_, rfl, xrh_l hf rfl⟩
      · skip
        have hf := xif_t h34 hf
        refine mv_lload_n (pc := 37) B d_Book_divide_37 rfl 1 rfl ?_
        refine mv_lneg (pc := 38) B d_Book_divide_38 ?_
        refine mv_goto (pc := 39) (tgt := 43) B d_Book_divide_39 rfl ?_
        exact mv_lret (pc := 43) B hr d_Book_divide_43 (Nat.le_refl _) (Nat.le_refl _) ⟨_, rfl, xrh_l hf rfl⟩
  · skip
    have hf := xif_t h3 hf
    refine mv_iload_n (pc := 6) B d_Book_divide_6 rfl 0 rfl ?_
    refine mv_sipush (pc := 7) (v := 1001) B d_Book_divide_7 (by decide) ?_
    refine mv_icmp_ne (pc := 10) (tgt := 19) B d_Book_divide_10 rfl (fun h10 => ?_) (fun h10 => ?_)
    · skip
      have hf := xif_f h10 hf
      refine mv_lload (pc := 19) B d_Book_divide_19 3 rfl ?_
      exact mv_lret (pc := 21) B hr d_Book_divide_21 (Nat.le_refl _) (Nat.le_refl _) ⟨_, rfl, xrh_l hf rfl⟩
    · skip
      have hf := xif_t h10 hf
      refine mv_ldc2 (pc := 13) (v := -1) B (B.2.2.2.1 _ k_2520) d_Book_divide_13 ?_
      refine mv_goto (pc := 16) (tgt := 21) B d_Book_divide_16 rfl ?_
      exact mv_lret (pc := 21) B hr d_Book_divide_21 (Nat.le_refl _) (Nat.le_refl _) ⟨_, rfl, xrh_l hf rfl⟩
def f_Book_unaryValue (h : mv_H) (a0 : Int32) (a1 : Int64) (a2 : Int32) : Option (Int64 × mv_H) := if a0 = (45 : Int32) then (xhb (f_Book_cut h ((-a1)) a2) fun u4 g3 => some (u4, g3)) else (xhb (f_Book_cut h (a1 ^^^ (-1 : Int64)) a2) fun u2 g1 => some (u2, g1))
set_option maxHeartbeats 4000000 in
set_option maxRecDepth 100000 in
theorem ch_Book_unaryValue (l : Launch) {dA : FieldType → ClassId} {D : va_G} {al : Nat → Nat} {ext : mv_Sh} {sk sv : Nat → Nat} (hi : mv_inj (mg dA D al ext)) (h : mv_H)  (a0 : Int32) (a1 : Int64) (a2 : Int32) {rv : Int64} {rg : mv_H} (hf : f_Book_unaryValue h a0 a1 a2 = some (rv, rg)) : mv_C l y_Book_unaryValue (Cond.code y_Book_unaryValue b_Book_unaryValue 4 (Option.some Jvm.ClassFile.FieldType.long) :: ma) ({ frames := 1, cells := 0, slots := 0, locals := 22 }) (mg dA D al ext) (mK sk sv) [.int a0, .long a1, .int a2] h (mv_Rl (fun v σ1 => rv = v ∧ rg = σ1 ∧ mv_r σ1 = mv_r h)) := by
  refine mv_C.ofV (cc := b_Book_unaryValue) (nL := 4) (ret := (Option.some Jvm.ClassFile.FieldType.long)) (by decide +kernel) rfl hi (Nat.le_of_ble_eq_true rfl) ?_
  intro p e s m below meth c B hNs hr hnm hno
  unfold f_Book_unaryValue at hf
  refine mv_iload_n (pc := 0) B d_Book_unaryValue_0 rfl 0 rfl ?_
  refine mv_bipush (pc := 1) (v := 45) B d_Book_unaryValue_1 (by decide) ?_
  refine mv_icmp_ne (pc := 3) (tgt := 15) B d_Book_unaryValue_3 rfl (fun h3 => ?_) (fun h3 => ?_)
  · skip
    have hf := xif_f h3 hf
    refine mv_lload_n (pc := 15) B d_Book_unaryValue_15 rfl 1 rfl ?_
    refine mv_ldc2 (pc := 16) (v := -1) B (B.2.2.2.1 _ k_2520) d_Book_unaryValue_16 ?_
    refine mv_lxor (pc := 19) B d_Book_unaryValue_19 ?_
    refine mv_iload_n (pc := 20) B d_Book_unaryValue_20 rfl 2 rfl ?_
    obtain ⟨u2, g1, eg1, hf⟩ := xhb_e hf
    refine mv_callSl (pc := 21) (n := 2) B (mK_ok sk sv) hNs (ch_Book_cut l hi _ _ _ eg1) rfl (ma_goodc kc_Book_cut) (B.2.2.2.1 _ k_2427) (B.2.2.2.1 _ k_2428) (B.2.2.2.1 _ k_13) ⟨by decide +kernel, by decide +kernel, by decide +kernel⟩ rfl d_Book_unaryValue_21 rfl (Nat.le_of_ble_eq_true rfl) ⟨by first | decide | (dsimp only; omega), by first | decide | (dsimp only; omega)⟩ ⟨Nat.le_refl _, Nat.le_refl _⟩ ⟨Nat.le_refl _, Nat.le_refl _⟩ (mv_noH hno _) (fun w21 σ21 h21 => ?_)
    obtain ⟨rfl, rfl, s_g1⟩ := h21
    have r_g1 : mv_r g1 = mv_r h := s_g1.trans rfl
    exact mv_lret (pc := 24) B hr d_Book_unaryValue_24 (Nat.le_refl _) (Nat.le_refl _) ⟨_, rfl, xrh_l hf r_g1⟩
  · skip
    have hf := xif_t h3 hf
    refine mv_lload_n (pc := 6) B d_Book_unaryValue_6 rfl 1 rfl ?_
    refine mv_lneg (pc := 7) B d_Book_unaryValue_7 ?_
    refine mv_iload_n (pc := 8) B d_Book_unaryValue_8 rfl 2 rfl ?_
    obtain ⟨u4, g3, eg3, hf⟩ := xhb_e hf
    refine mv_callSl (pc := 9) (n := 2) B (mK_ok sk sv) hNs (ch_Book_cut l hi _ _ _ eg3) rfl (ma_goodc kc_Book_cut) (B.2.2.2.1 _ k_2427) (B.2.2.2.1 _ k_2428) (B.2.2.2.1 _ k_13) ⟨by decide +kernel, by decide +kernel, by decide +kernel⟩ rfl d_Book_unaryValue_9 rfl (Nat.le_of_ble_eq_true rfl) ⟨by first | decide | (dsimp only; omega), by first | decide | (dsimp only; omega)⟩ ⟨Nat.le_refl _, Nat.le_refl _⟩ ⟨Nat.le_refl _, Nat.le_refl _⟩ (mv_noH hno _) (fun w9 σ9 h9 => ?_)
    obtain ⟨rfl, rfl, s_g3⟩ := h9
    have r_g3 : mv_r g3 = mv_r h := s_g3.trans rfl
    refine mv_goto (pc := 12) (tgt := 24) B d_Book_unaryValue_12 rfl ?_
    exact mv_lret (pc := 24) B hr d_Book_unaryValue_24 (Nat.le_refl _) (Nat.le_refl _) ⟨_, rfl, xrh_l hf r_g3⟩
def f_Book_apply_310 (P : Nat) (y0 : Int64) (y1 : Int64) (hz : mv_H) : Option (Int64 × mv_H) := some ((y1 >>> ((((y0).toInt32)).toInt64 &&& 63)), hz)
def f_Book_apply (P : Nat) (h : mv_H) (a0 : Int32) (a1 : Int64) (a2 : Int64) (a3 : Int32) : Option (Int64 × mv_H) := if (a0).toInt = 37 then (if (lg_cmp a2 (0 : Int64)) = (0 : Int32) then (some (a1, h)) else (xhb (f_Book_divided h a1 a2) fun u2 g1 => some ((a1 - (u2 * a2)), g1))) else (if (a0).toInt = 38 then (some ((a1 &&& a2), h)) else (if (a0).toInt = 42 then (some ((a1 * a2), h)) else (if (a0).toInt = 43 then (some ((a1 + a2), h)) else (if (a0).toInt = 45 then (some ((a1 - a2), h)) else (if (a0).toInt = 47 then (if (lg_cmp a2 (0 : Int64)) = (0 : Int32) then (some ((-1 : Int64), h)) else (xhb (f_Book_divided h a1 a2) fun u4 g3 => some (u4, g3))) else (if (a0).toInt = 60 then (xhb (f_Book_below h a1 a2) fun u6 g5 => if u6 = (0 : Int32) then (some ((0 : Int64), g5)) else (some ((1 : Int64), g5))) else (if (a0).toInt = 94 then (some ((a1 ^^^ a2), h)) else (if (a0).toInt = 124 then (some ((a1 ||| a2), h)) else (if (a0).toInt = 256 then (if (lg_cmp a1 a2) = (0 : Int32) then (some ((1 : Int64), h)) else (some ((0 : Int64), h))) else (if (a0).toInt = 257 then (if (lg_cmp a1 a2) = (0 : Int32) then (some ((0 : Int64), h)) else (some ((1 : Int64), h))) else (if (a0).toInt = 258 then (xhb (f_Book_below h a2 a1) fun u8 g7 => if u8 = (0 : Int32) then (some ((1 : Int64), g7)) else (some ((0 : Int64), g7))) else (if (a0).toInt = 259 then (xhb (f_Model_in h a2 (0 : Int64) (((a3 - (1 : Int32))).toInt64)) fun u10 g9 => if u10 = (0 : Int32) then (some ((0 : Int64), g9)) else (some ((a1 <<< ((((a2).toInt32)).toInt64 &&& 63)), g9))) else (if (a0).toInt = 260 then (xhb (f_Model_in h a2 (0 : Int64) (((a3 - (1 : Int32))).toInt64)) fun u12 g11 => if u12 = (0 : Int32) then (some ((0 : Int64), g11)) else (some ((((a1).toUInt64 >>> ((((a2).toInt32)).toInt64.toUInt64 &&& Int64.toUInt64 63)).toInt64), g11))) else (if (a0).toInt = 1000 then (xhb (f_Book_signed h a1 a3) fun u14 g13 => xhb (f_Book_signed g13 a2 a3) fun u16 g15 => if (0 : Int32) ≤ (lg_cmp u14 u16) then (some ((0 : Int64), g15)) else (some ((1 : Int64), g15))) else (if (a0).toInt = 1003 then (xhb (f_Book_signed h a1 a3) fun u18 g17 => xhb (f_Model_in g17 a2 (0 : Int64) (((a3 - (1 : Int32))).toInt64)) fun u20 g19 => if u20 = (0 : Int32) then (f_Book_apply_310 P (63 : Int64) u18 g19) else (f_Book_apply_310 P a2 u18 g19)) else (xhb (f_Book_signed h a1 a3) fun u22 g21 => xhb (f_Book_signed g21 a2 a3) fun u24 g23 => xhb (f_Book_divide g23 a0 u22 u24 a1) fun u26 g25 => some (u26, g25)))))))))))))))))
set_option maxHeartbeats 4000000 in
set_option maxRecDepth 100000 in
theorem ch_Book_apply_x (l : Launch) {dA : FieldType → ClassId} {D : va_G} {al : Nat → Nat} {ext : mv_Sh} {sk sv : Nat → Nat} (hi : mv_inj (mg dA D al ext)) (h : mv_H) (hb : mh (mv_r h))  (a0 : Int32) (a1 : Int64) (a2 : Int64) (a3 : Int32) {rv : Int64} {rg : mv_H} (hf : f_Book_apply 74 h a0 a1 a2 a3 = some (rv, rg)) : mv_C l y_Book_apply (Cond.code y_Book_apply b_Book_apply 7 (Option.some Jvm.ClassFile.FieldType.long) :: ma) ({ frames := 2, cells := 0, slots := 0, locals := 52 }) (mg dA D al ext) (mK sk sv) [.ref (al 74), .int a0, .long a1, .long a2, .int a3] h (mv_Rl (fun v σ1 => rv = v ∧ rg = σ1 ∧ mv_r σ1 = mv_r h)) := by
  refine mv_C.ofV (cc := b_Book_apply) (nL := 7) (ret := (Option.some Jvm.ClassFile.FieldType.long)) (by decide +kernel) rfl hi (Nat.le_of_ble_eq_true rfl) ?_
  intro p e s m below meth c B hNs hr hnm hno
  have jn310 : ∀ (y0 : Int64) (y1 : Int64) (hz : mv_H), mv_r hz = mv_r h → f_Book_apply_310 74 y0 y1 hz = some (rv, rg) → mv_V p l e ({ frames := 2, cells := 0, slots := 0, locals := 52 }) s m ([.ref (al 74), .int a0, .long a1, .long a2, .int a3] : List Value).toArray below meth c (mg dA D al ext) 7 0 0 (mv_Q (mg dA D al ext) below s 0 0 (mv_Rl (fun v σ1 => rv = v ∧ rg = σ1 ∧ mv_r σ1 = mv_r h))) hz 310 [] [.long y0, .long y1] := by
    intro y0 y1 hz r_hz hf
    unfold f_Book_apply_310 at hf
    refine mv_l2i (pc := 310) B d_Book_apply_310 ?_
    refine mv_lshr (pc := 311) B d_Book_apply_311 ?_
    exact mv_lret (pc := 312) B hr d_Book_apply_312 (Nat.le_refl _) (Nat.le_refl _) ⟨_, rfl, xrh_l hf r_hz⟩
  unfold f_Book_apply at hf
  refine mv_iload_n (pc := 0) B d_Book_apply_0 rfl 1 rfl ?_
  refine mv_lsw (pc := 1) B d_Book_apply_1 (by decide) (by decide) ?_
  refine ⟨fun h1 => ?_, fun h1n37 => ?_⟩
  · skip
    have hf := xif_t h1 hf
    show mv_V _ _ _ _ _ _ _ _ _ _ _ _ _ _ _ _ 348 _ _
    refine mv_lload (pc := 348) B d_Book_apply_348 3 rfl ?_
    refine mv_lconst (pc := 350) (v := 0) B d_Book_apply_350 (by decide) ?_
    refine mv_lcmp (pc := 351) B d_Book_apply_351 ?_
    refine mv_if_ne (pc := 352) (tgt := 359) B d_Book_apply_352 rfl (fun h352 => ?_) (fun h352 => ?_)
    · skip
      have hf := xif_f h352 hf
      refine mv_lload_n (pc := 359) B d_Book_apply_359 rfl 2 rfl ?_
      refine mv_lload_n (pc := 360) B d_Book_apply_360 rfl 2 rfl ?_
      refine mv_lload (pc := 361) B d_Book_apply_361 3 rfl ?_
      obtain ⟨u2, g1, eg1, hf⟩ := xhb_e hf
      refine mv_callSl (pc := 363) (n := 2) B (mK_ok sk sv) hNs (ch_Book_divided l hi _ _ _ eg1) rfl (ma_goodc kc_Book_divided) (B.2.2.2.1 _ k_2536) (B.2.2.2.1 _ k_2537) (B.2.2.2.1 _ k_13) ⟨by decide +kernel, by decide +kernel, by decide +kernel⟩ rfl d_Book_apply_363 rfl (Nat.le_of_ble_eq_true rfl) ⟨by first | decide | (dsimp only; omega), by first | decide | (dsimp only; omega)⟩ ⟨Nat.le_refl _, Nat.le_refl _⟩ ⟨Nat.le_refl _, Nat.le_refl _⟩ (mv_noH hno _) (fun w363 σ363 h363 => ?_)
      obtain ⟨rfl, rfl, s_g1⟩ := h363
      have r_g1 : mv_r g1 = mv_r h := s_g1.trans rfl
      refine mv_lload (pc := 366) B d_Book_apply_366 3 rfl ?_
      refine mv_lmul (pc := 368) B d_Book_apply_368 ?_
      refine mv_lsub (pc := 369) B d_Book_apply_369 ?_
      exact mv_lret (pc := 370) B hr d_Book_apply_370 (Nat.le_refl _) (Nat.le_refl _) ⟨_, rfl, xrh_l hf r_g1⟩
    · skip
      have hf := xif_t h352 hf
      refine mv_lload_n (pc := 355) B d_Book_apply_355 rfl 2 rfl ?_
      refine mv_goto (pc := 356) (tgt := 370) B d_Book_apply_356 rfl ?_
      exact mv_lret (pc := 370) B hr d_Book_apply_370 (Nat.le_refl _) (Nat.le_refl _) ⟨_, rfl, xrh_l hf rfl⟩
  have hf := xif_f h1n37 hf
  refine ⟨fun h1 => ?_, fun h1n38 => ?_⟩
  · skip
    have hf := xif_t h1 hf
    show mv_V _ _ _ _ _ _ _ _ _ _ _ _ _ _ _ _ 150 _ _
    refine mv_lload_n (pc := 150) B d_Book_apply_150 rfl 2 rfl ?_
    refine mv_lload (pc := 151) B d_Book_apply_151 3 rfl ?_
    refine mv_land (pc := 153) B d_Book_apply_153 ?_
    exact mv_lret (pc := 154) B hr d_Book_apply_154 (Nat.le_refl _) (Nat.le_refl _) ⟨_, rfl, xrh_l hf rfl⟩
  have hf := xif_f h1n38 hf
  refine ⟨fun h1 => ?_, fun h1n42 => ?_⟩
  · skip
    have hf := xif_t h1 hf
    show mv_V _ _ _ _ _ _ _ _ _ _ _ _ _ _ _ _ 323 _ _
    refine mv_lload_n (pc := 323) B d_Book_apply_323 rfl 2 rfl ?_
    refine mv_lload (pc := 324) B d_Book_apply_324 3 rfl ?_
    refine mv_lmul (pc := 326) B d_Book_apply_326 ?_
    exact mv_lret (pc := 327) B hr d_Book_apply_327 (Nat.le_refl _) (Nat.le_refl _) ⟨_, rfl, xrh_l hf rfl⟩
  have hf := xif_f h1n42 hf
  refine ⟨fun h1 => ?_, fun h1n43 => ?_⟩
  · skip
    have hf := xif_t h1 hf
    show mv_V _ _ _ _ _ _ _ _ _ _ _ _ _ _ _ _ 313 _ _
    refine mv_lload_n (pc := 313) B d_Book_apply_313 rfl 2 rfl ?_
    refine mv_lload (pc := 314) B d_Book_apply_314 3 rfl ?_
    refine mv_ladd (pc := 316) B d_Book_apply_316 ?_
    exact mv_lret (pc := 317) B hr d_Book_apply_317 (Nat.le_refl _) (Nat.le_refl _) ⟨_, rfl, xrh_l hf rfl⟩
  have hf := xif_f h1n43 hf
  refine ⟨fun h1 => ?_, fun h1n45 => ?_⟩
  · skip
    have hf := xif_t h1 hf
    show mv_V _ _ _ _ _ _ _ _ _ _ _ _ _ _ _ _ 318 _ _
    refine mv_lload_n (pc := 318) B d_Book_apply_318 rfl 2 rfl ?_
    refine mv_lload (pc := 319) B d_Book_apply_319 3 rfl ?_
    refine mv_lsub (pc := 321) B d_Book_apply_321 ?_
    exact mv_lret (pc := 322) B hr d_Book_apply_322 (Nat.le_refl _) (Nat.le_refl _) ⟨_, rfl, xrh_l hf rfl⟩
  have hf := xif_f h1n45 hf
  refine ⟨fun h1 => ?_, fun h1n47 => ?_⟩
  · skip
    have hf := xif_t h1 hf
    show mv_V _ _ _ _ _ _ _ _ _ _ _ _ _ _ _ _ 328 _ _
    refine mv_lload (pc := 328) B d_Book_apply_328 3 rfl ?_
    refine mv_lconst (pc := 330) (v := 0) B d_Book_apply_330 (by decide) ?_
    refine mv_lcmp (pc := 331) B d_Book_apply_331 ?_
    refine mv_if_ne (pc := 332) (tgt := 341) B d_Book_apply_332 rfl (fun h332 => ?_) (fun h332 => ?_)
    · skip
      have hf := xif_f h332 hf
      refine mv_lload_n (pc := 341) B d_Book_apply_341 rfl 2 rfl ?_
      refine mv_lload (pc := 342) B d_Book_apply_342 3 rfl ?_
      obtain ⟨u4, g3, eg3, hf⟩ := xhb_e hf
      refine mv_callSl (pc := 344) (n := 2) B (mK_ok sk sv) hNs (ch_Book_divided l hi _ _ _ eg3) rfl (ma_goodc kc_Book_divided) (B.2.2.2.1 _ k_2536) (B.2.2.2.1 _ k_2537) (B.2.2.2.1 _ k_13) ⟨by decide +kernel, by decide +kernel, by decide +kernel⟩ rfl d_Book_apply_344 rfl (Nat.le_of_ble_eq_true rfl) ⟨by first | decide | (dsimp only; omega), by first | decide | (dsimp only; omega)⟩ ⟨Nat.le_refl _, Nat.le_refl _⟩ ⟨Nat.le_refl _, Nat.le_refl _⟩ (mv_noH hno _) (fun w344 σ344 h344 => ?_)
      obtain ⟨rfl, rfl, s_g3⟩ := h344
      have r_g3 : mv_r g3 = mv_r h := s_g3.trans rfl
      exact mv_lret (pc := 347) B hr d_Book_apply_347 (Nat.le_refl _) (Nat.le_refl _) ⟨_, rfl, xrh_l hf r_g3⟩
    · skip
      have hf := xif_t h332 hf
      refine mv_ldc2 (pc := 335) (v := -1) B (B.2.2.2.1 _ k_2520) d_Book_apply_335 ?_
      refine mv_goto (pc := 338) (tgt := 347) B d_Book_apply_338 rfl ?_
      exact mv_lret (pc := 347) B hr d_Book_apply_347 (Nat.le_refl _) (Nat.le_refl _) ⟨_, rfl, xrh_l hf rfl⟩
  have hf := xif_f h1n47 hf
  refine ⟨fun h1 => ?_, fun h1n60 => ?_⟩
  · skip
    have hf := xif_t h1 hf
    show mv_V _ _ _ _ _ _ _ _ _ _ _ _ _ _ _ _ 181 _ _
    refine mv_lload_n (pc := 181) B d_Book_apply_181 rfl 2 rfl ?_
    refine mv_lload (pc := 182) B d_Book_apply_182 3 rfl ?_
    obtain ⟨u6, g5, eg5, hf⟩ := xhb_e hf
    refine mv_callSi (pc := 184) (n := 2) B (mK_ok sk sv) hNs (ch_Book_below l hi _ _ _ eg5) rfl (ma_goodc kc_Book_below) (B.2.2.2.1 _ k_2532) (B.2.2.2.1 _ k_2533) (B.2.2.2.1 _ k_13) ⟨by decide +kernel, by decide +kernel, by decide +kernel⟩ rfl d_Book_apply_184 rfl (Nat.le_of_ble_eq_true rfl) ⟨by first | decide | (dsimp only; omega), by first | decide | (dsimp only; omega)⟩ ⟨Nat.le_refl _, Nat.le_refl _⟩ ⟨Nat.le_refl _, Nat.le_refl _⟩ (mv_noH hno _) (fun w184 σ184 h184 => ?_)
    obtain ⟨rfl, rfl, s_g5⟩ := h184
    have r_g5 : mv_r g5 = mv_r h := s_g5.trans rfl
    refine mv_if_eq (pc := 187) (tgt := 194) B d_Book_apply_187 rfl (fun h187 => ?_) (fun h187 => ?_)
    · skip
      have hf := xif_t h187 hf
      refine mv_lconst (pc := 194) (v := 0) B d_Book_apply_194 (by decide) ?_
      exact mv_lret (pc := 195) B hr d_Book_apply_195 (Nat.le_refl _) (Nat.le_refl _) ⟨_, rfl, xrh_l hf r_g5⟩
    · skip
      have hf := xif_f h187 hf
      refine mv_lconst (pc := 190) (v := 1) B d_Book_apply_190 (by decide) ?_
      refine mv_goto (pc := 191) (tgt := 195) B d_Book_apply_191 rfl ?_
      exact mv_lret (pc := 195) B hr d_Book_apply_195 (Nat.le_refl _) (Nat.le_refl _) ⟨_, rfl, xrh_l hf r_g5⟩
  have hf := xif_f h1n60 hf
  refine ⟨fun h1 => ?_, fun h1n94 => ?_⟩
  · skip
    have hf := xif_t h1 hf
    show mv_V _ _ _ _ _ _ _ _ _ _ _ _ _ _ _ _ 145 _ _
    refine mv_lload_n (pc := 145) B d_Book_apply_145 rfl 2 rfl ?_
    refine mv_lload (pc := 146) B d_Book_apply_146 3 rfl ?_
    refine mv_lxor (pc := 148) B d_Book_apply_148 ?_
    exact mv_lret (pc := 149) B hr d_Book_apply_149 (Nat.le_refl _) (Nat.le_refl _) ⟨_, rfl, xrh_l hf rfl⟩
  have hf := xif_f h1n94 hf
  refine ⟨fun h1 => ?_, fun h1n124 => ?_⟩
  · skip
    have hf := xif_t h1 hf
    show mv_V _ _ _ _ _ _ _ _ _ _ _ _ _ _ _ _ 140 _ _
    refine mv_lload_n (pc := 140) B d_Book_apply_140 rfl 2 rfl ?_
    refine mv_lload (pc := 141) B d_Book_apply_141 3 rfl ?_
    refine mv_lor (pc := 143) B d_Book_apply_143 ?_
    exact mv_lret (pc := 144) B hr d_Book_apply_144 (Nat.le_refl _) (Nat.le_refl _) ⟨_, rfl, xrh_l hf rfl⟩
  have hf := xif_f h1n124 hf
  refine ⟨fun h1 => ?_, fun h1n256 => ?_⟩
  · skip
    have hf := xif_t h1 hf
    show mv_V _ _ _ _ _ _ _ _ _ _ _ _ _ _ _ _ 155 _ _
    refine mv_lload_n (pc := 155) B d_Book_apply_155 rfl 2 rfl ?_
    refine mv_lload (pc := 156) B d_Book_apply_156 3 rfl ?_
    refine mv_lcmp (pc := 158) B d_Book_apply_158 ?_
    refine mv_if_ne (pc := 159) (tgt := 166) B d_Book_apply_159 rfl (fun h159 => ?_) (fun h159 => ?_)
    · skip
      have hf := xif_f h159 hf
      refine mv_lconst (pc := 166) (v := 0) B d_Book_apply_166 (by decide) ?_
      exact mv_lret (pc := 167) B hr d_Book_apply_167 (Nat.le_refl _) (Nat.le_refl _) ⟨_, rfl, xrh_l hf rfl⟩
    · skip
      have hf := xif_t h159 hf
      refine mv_lconst (pc := 162) (v := 1) B d_Book_apply_162 (by decide) ?_
      refine mv_goto (pc := 163) (tgt := 167) B d_Book_apply_163 rfl ?_
      exact mv_lret (pc := 167) B hr d_Book_apply_167 (Nat.le_refl _) (Nat.le_refl _) ⟨_, rfl, xrh_l hf rfl⟩
  have hf := xif_f h1n256 hf
  refine ⟨fun h1 => ?_, fun h1n257 => ?_⟩
  · skip
    have hf := xif_t h1 hf
    show mv_V _ _ _ _ _ _ _ _ _ _ _ _ _ _ _ _ 168 _ _
    refine mv_lload_n (pc := 168) B d_Book_apply_168 rfl 2 rfl ?_
    refine mv_lload (pc := 169) B d_Book_apply_169 3 rfl ?_
    refine mv_lcmp (pc := 171) B d_Book_apply_171 ?_
    refine mv_if_eq (pc := 172) (tgt := 179) B d_Book_apply_172 rfl (fun h172 => ?_) (fun h172 => ?_)
    · skip
      have hf := xif_t h172 hf
      refine mv_lconst (pc := 179) (v := 0) B d_Book_apply_179 (by decide) ?_
      exact mv_lret (pc := 180) B hr d_Book_apply_180 (Nat.le_refl _) (Nat.le_refl _) ⟨_, rfl, xrh_l hf rfl⟩
    · skip
      have hf := xif_f h172 hf
      refine mv_lconst (pc := 175) (v := 1) B d_Book_apply_175 (by decide) ?_
      refine mv_goto (pc := 176) (tgt := 180) B d_Book_apply_176 rfl ?_
      exact mv_lret (pc := 180) B hr d_Book_apply_180 (Nat.le_refl _) (Nat.le_refl _) ⟨_, rfl, xrh_l hf rfl⟩
  have hf := xif_f h1n257 hf
  refine ⟨fun h1 => ?_, fun h1n258 => ?_⟩
  · skip
    have hf := xif_t h1 hf
    show mv_V _ _ _ _ _ _ _ _ _ _ _ _ _ _ _ _ 196 _ _
    refine mv_lload (pc := 196) B d_Book_apply_196 3 rfl ?_
    refine mv_lload_n (pc := 198) B d_Book_apply_198 rfl 2 rfl ?_
    obtain ⟨u8, g7, eg7, hf⟩ := xhb_e hf
    refine mv_callSi (pc := 199) (n := 2) B (mK_ok sk sv) hNs (ch_Book_below l hi _ _ _ eg7) rfl (ma_goodc kc_Book_below) (B.2.2.2.1 _ k_2532) (B.2.2.2.1 _ k_2533) (B.2.2.2.1 _ k_13) ⟨by decide +kernel, by decide +kernel, by decide +kernel⟩ rfl d_Book_apply_199 rfl (Nat.le_of_ble_eq_true rfl) ⟨by first | decide | (dsimp only; omega), by first | decide | (dsimp only; omega)⟩ ⟨Nat.le_refl _, Nat.le_refl _⟩ ⟨Nat.le_refl _, Nat.le_refl _⟩ (mv_noH hno _) (fun w199 σ199 h199 => ?_)
    obtain ⟨rfl, rfl, s_g7⟩ := h199
    have r_g7 : mv_r g7 = mv_r h := s_g7.trans rfl
    refine mv_if_eq (pc := 202) (tgt := 209) B d_Book_apply_202 rfl (fun h202 => ?_) (fun h202 => ?_)
    · skip
      have hf := xif_t h202 hf
      refine mv_lconst (pc := 209) (v := 1) B d_Book_apply_209 (by decide) ?_
      exact mv_lret (pc := 210) B hr d_Book_apply_210 (Nat.le_refl _) (Nat.le_refl _) ⟨_, rfl, xrh_l hf r_g7⟩
    · skip
      have hf := xif_f h202 hf
      refine mv_lconst (pc := 205) (v := 0) B d_Book_apply_205 (by decide) ?_
      refine mv_goto (pc := 206) (tgt := 210) B d_Book_apply_206 rfl ?_
      exact mv_lret (pc := 210) B hr d_Book_apply_210 (Nat.le_refl _) (Nat.le_refl _) ⟨_, rfl, xrh_l hf r_g7⟩
  have hf := xif_f h1n258 hf
  refine ⟨fun h1 => ?_, fun h1n259 => ?_⟩
  · skip
    have hf := xif_t h1 hf
    show mv_V _ _ _ _ _ _ _ _ _ _ _ _ _ _ _ _ 234 _ _
    refine mv_lload (pc := 234) B d_Book_apply_234 3 rfl ?_
    refine mv_lconst (pc := 236) (v := 0) B d_Book_apply_236 (by decide) ?_
    refine mv_iload (pc := 237) B d_Book_apply_237 4 rfl ?_
    refine mv_iconst (pc := 239) (v := 1) B d_Book_apply_239 (by decide) ?_
    refine mv_isub (pc := 240) B d_Book_apply_240 ?_
    refine mv_i2l (pc := 241) B d_Book_apply_241 ?_
    obtain ⟨u10, g9, eg9, hf⟩ := xhb_e hf
    refine mv_callSNi (pc := 242) (n := 3) B (mK_ok sk sv) hNs (ch_Model_in l hi _ _ _ _ eg9) rfl (ma_goodc kc_Model_in) (va_Nw.use rfl (hNs.1 _ (List.mem_of_getElem? (i := 7) rfl))) (B.2.2.2.1 _ k_2208) (B.2.2.2.1 _ k_12) ⟨by decide +kernel, by decide +kernel, by decide +kernel⟩ rfl d_Book_apply_242 rfl (Nat.le_of_ble_eq_true rfl) ⟨by first | decide | (dsimp only; omega), by first | decide | (dsimp only; omega)⟩ ⟨Nat.le_refl _, Nat.le_refl _⟩ ⟨Nat.le_refl _, Nat.le_refl _⟩ (mv_noH hno _) (fun w242 σ242 h242 => ?_)
    obtain ⟨rfl, rfl, s_g9⟩ := h242
    have r_g9 : mv_r g9 = mv_r h := s_g9.trans rfl
    refine mv_if_eq (pc := 245) (tgt := 256) B d_Book_apply_245 rfl (fun h245 => ?_) (fun h245 => ?_)
    · skip
      have hf := xif_t h245 hf
      refine mv_lconst (pc := 256) (v := 0) B d_Book_apply_256 (by decide) ?_
      exact mv_lret (pc := 257) B hr d_Book_apply_257 (Nat.le_refl _) (Nat.le_refl _) ⟨_, rfl, xrh_l hf r_g9⟩
    · skip
      have hf := xif_f h245 hf
      refine mv_lload_n (pc := 248) B d_Book_apply_248 rfl 2 rfl ?_
      refine mv_lload (pc := 249) B d_Book_apply_249 3 rfl ?_
      refine mv_l2i (pc := 251) B d_Book_apply_251 ?_
      refine mv_lshl (pc := 252) B d_Book_apply_252 ?_
      refine mv_goto (pc := 253) (tgt := 257) B d_Book_apply_253 rfl ?_
      exact mv_lret (pc := 257) B hr d_Book_apply_257 (Nat.le_refl _) (Nat.le_refl _) ⟨_, rfl, xrh_l hf r_g9⟩
  have hf := xif_f h1n259 hf
  refine ⟨fun h1 => ?_, fun h1n260 => ?_⟩
  · skip
    have hf := xif_t h1 hf
    show mv_V _ _ _ _ _ _ _ _ _ _ _ _ _ _ _ _ 258 _ _
    refine mv_lload (pc := 258) B d_Book_apply_258 3 rfl ?_
    refine mv_lconst (pc := 260) (v := 0) B d_Book_apply_260 (by decide) ?_
    refine mv_iload (pc := 261) B d_Book_apply_261 4 rfl ?_
    refine mv_iconst (pc := 263) (v := 1) B d_Book_apply_263 (by decide) ?_
    refine mv_isub (pc := 264) B d_Book_apply_264 ?_
    refine mv_i2l (pc := 265) B d_Book_apply_265 ?_
    obtain ⟨u12, g11, eg11, hf⟩ := xhb_e hf
    refine mv_callSNi (pc := 266) (n := 3) B (mK_ok sk sv) hNs (ch_Model_in l hi _ _ _ _ eg11) rfl (ma_goodc kc_Model_in) (va_Nw.use rfl (hNs.1 _ (List.mem_of_getElem? (i := 7) rfl))) (B.2.2.2.1 _ k_2208) (B.2.2.2.1 _ k_12) ⟨by decide +kernel, by decide +kernel, by decide +kernel⟩ rfl d_Book_apply_266 rfl (Nat.le_of_ble_eq_true rfl) ⟨by first | decide | (dsimp only; omega), by first | decide | (dsimp only; omega)⟩ ⟨Nat.le_refl _, Nat.le_refl _⟩ ⟨Nat.le_refl _, Nat.le_refl _⟩ (mv_noH hno _) (fun w266 σ266 h266 => ?_)
    obtain ⟨rfl, rfl, s_g11⟩ := h266
    have r_g11 : mv_r g11 = mv_r h := s_g11.trans rfl
    refine mv_if_eq (pc := 269) (tgt := 280) B d_Book_apply_269 rfl (fun h269 => ?_) (fun h269 => ?_)
    · skip
      have hf := xif_t h269 hf
      refine mv_lconst (pc := 280) (v := 0) B d_Book_apply_280 (by decide) ?_
      exact mv_lret (pc := 281) B hr d_Book_apply_281 (Nat.le_refl _) (Nat.le_refl _) ⟨_, rfl, xrh_l hf r_g11⟩
    · skip
      have hf := xif_f h269 hf
      refine mv_lload_n (pc := 272) B d_Book_apply_272 rfl 2 rfl ?_
      refine mv_lload (pc := 273) B d_Book_apply_273 3 rfl ?_
      refine mv_l2i (pc := 275) B d_Book_apply_275 ?_
      refine mv_lushr (pc := 276) B d_Book_apply_276 ?_
      refine mv_goto (pc := 277) (tgt := 281) B d_Book_apply_277 rfl ?_
      exact mv_lret (pc := 281) B hr d_Book_apply_281 (Nat.le_refl _) (Nat.le_refl _) ⟨_, rfl, xrh_l hf r_g11⟩
  have hf := xif_f h1n260 hf
  refine ⟨fun h1 => ?_, fun h1n1000 => ?_⟩
  · skip
    have hf := xif_t h1 hf
    show mv_V _ _ _ _ _ _ _ _ _ _ _ _ _ _ _ _ 211 _ _
    refine mv_lload_n (pc := 211) B d_Book_apply_211 rfl 2 rfl ?_
    refine mv_iload (pc := 212) B d_Book_apply_212 4 rfl ?_
    obtain ⟨u14, g13, eg13, hf⟩ := xhb_e hf
    refine mv_callSl (pc := 214) (n := 2) B (mK_ok sk sv) hNs (ch_Book_signed l hi _ _ _ eg13) rfl (ma_goodc kc_Book_signed) (B.2.2.2.1 _ k_2525) (B.2.2.2.1 _ k_2526) (B.2.2.2.1 _ k_13) ⟨by decide +kernel, by decide +kernel, by decide +kernel⟩ rfl d_Book_apply_214 rfl (Nat.le_of_ble_eq_true rfl) ⟨by first | decide | (dsimp only; omega), by first | decide | (dsimp only; omega)⟩ ⟨Nat.le_refl _, Nat.le_refl _⟩ ⟨Nat.le_refl _, Nat.le_refl _⟩ (mv_noH hno _) (fun w214 σ214 h214 => ?_)
    obtain ⟨rfl, rfl, s_g13⟩ := h214
    have r_g13 : mv_r g13 = mv_r h := s_g13.trans rfl
    refine mv_lload (pc := 217) B d_Book_apply_217 3 rfl ?_
    refine mv_iload (pc := 219) B d_Book_apply_219 4 rfl ?_
    obtain ⟨u16, g15, eg15, hf⟩ := xhb_e hf
    refine mv_callSl (pc := 221) (n := 2) B (mK_ok sk sv) hNs (ch_Book_signed l hi _ _ _ eg15) rfl (ma_goodc kc_Book_signed) (B.2.2.2.1 _ k_2525) (B.2.2.2.1 _ k_2526) (B.2.2.2.1 _ k_13) ⟨by decide +kernel, by decide +kernel, by decide +kernel⟩ rfl d_Book_apply_221 rfl (Nat.le_of_ble_eq_true rfl) ⟨by first | decide | (dsimp only; omega), by first | decide | (dsimp only; omega)⟩ ⟨Nat.le_refl _, Nat.le_refl _⟩ ⟨Nat.le_refl _, Nat.le_refl _⟩ (mv_noH hno _) (fun w221 σ221 h221 => ?_)
    obtain ⟨rfl, rfl, s_g15⟩ := h221
    have r_g15 : mv_r g15 = mv_r h := s_g15.trans r_g13
    refine mv_lcmp (pc := 224) B d_Book_apply_224 ?_
    refine mv_if_ge (pc := 225) (tgt := 232) B d_Book_apply_225 rfl (fun h225 => ?_) (fun h225 => ?_)
    · skip
      have hf := xif_t h225 hf
      refine mv_lconst (pc := 232) (v := 0) B d_Book_apply_232 (by decide) ?_
      exact mv_lret (pc := 233) B hr d_Book_apply_233 (Nat.le_refl _) (Nat.le_refl _) ⟨_, rfl, xrh_l hf r_g15⟩
    · skip
      have hf := xif_f h225 hf
      refine mv_lconst (pc := 228) (v := 1) B d_Book_apply_228 (by decide) ?_
      refine mv_goto (pc := 229) (tgt := 233) B d_Book_apply_229 rfl ?_
      exact mv_lret (pc := 233) B hr d_Book_apply_233 (Nat.le_refl _) (Nat.le_refl _) ⟨_, rfl, xrh_l hf r_g15⟩
  have hf := xif_f h1n1000 hf
  refine ⟨fun h1 => ?_, fun h1n1003 => ?_⟩
  · skip
    have hf := xif_t h1 hf
    show mv_V _ _ _ _ _ _ _ _ _ _ _ _ _ _ _ _ 282 _ _
    refine mv_lload_n (pc := 282) B d_Book_apply_282 rfl 2 rfl ?_
    refine mv_iload (pc := 283) B d_Book_apply_283 4 rfl ?_
    obtain ⟨u18, g17, eg17, hf⟩ := xhb_e hf
    refine mv_callSl (pc := 285) (n := 2) B (mK_ok sk sv) hNs (ch_Book_signed l hi _ _ _ eg17) rfl (ma_goodc kc_Book_signed) (B.2.2.2.1 _ k_2525) (B.2.2.2.1 _ k_2526) (B.2.2.2.1 _ k_13) ⟨by decide +kernel, by decide +kernel, by decide +kernel⟩ rfl d_Book_apply_285 rfl (Nat.le_of_ble_eq_true rfl) ⟨by first | decide | (dsimp only; omega), by first | decide | (dsimp only; omega)⟩ ⟨Nat.le_refl _, Nat.le_refl _⟩ ⟨Nat.le_refl _, Nat.le_refl _⟩ (mv_noH hno _) (fun w285 σ285 h285 => ?_)
    obtain ⟨rfl, rfl, s_g17⟩ := h285
    have r_g17 : mv_r g17 = mv_r h := s_g17.trans rfl
    refine mv_lload (pc := 288) B d_Book_apply_288 3 rfl ?_
    refine mv_lconst (pc := 290) (v := 0) B d_Book_apply_290 (by decide) ?_
    refine mv_iload (pc := 291) B d_Book_apply_291 4 rfl ?_
    refine mv_iconst (pc := 293) (v := 1) B d_Book_apply_293 (by decide) ?_
    refine mv_isub (pc := 294) B d_Book_apply_294 ?_
    refine mv_i2l (pc := 295) B d_Book_apply_295 ?_
    obtain ⟨u20, g19, eg19, hf⟩ := xhb_e hf
    refine mv_callSNi (pc := 296) (n := 3) B (mK_ok sk sv) hNs (ch_Model_in l hi _ _ _ _ eg19) rfl (ma_goodc kc_Model_in) (va_Nw.use rfl (hNs.1 _ (List.mem_of_getElem? (i := 7) rfl))) (B.2.2.2.1 _ k_2208) (B.2.2.2.1 _ k_12) ⟨by decide +kernel, by decide +kernel, by decide +kernel⟩ rfl d_Book_apply_296 rfl (Nat.le_of_ble_eq_true rfl) ⟨by first | decide | (dsimp only; omega), by first | decide | (dsimp only; omega)⟩ ⟨Nat.le_refl _, Nat.le_refl _⟩ ⟨Nat.le_refl _, Nat.le_refl _⟩ (mv_noH hno _) (fun w296 σ296 h296 => ?_)
    obtain ⟨rfl, rfl, s_g19⟩ := h296
    have r_g19 : mv_r g19 = mv_r h := s_g19.trans r_g17
    refine mv_if_eq (pc := 299) (tgt := 307) B d_Book_apply_299 rfl (fun h299 => ?_) (fun h299 => ?_)
    · skip
      have hf := xif_t h299 hf
      refine mv_ldc2 (pc := 307) (v := 63) B (B.2.2.2.1 _ k_2535) d_Book_apply_307 ?_
      refine mv_lpick [] rfl ?_
      exact jn310 _ _ _ r_g19 hf
    · skip
      have hf := xif_f h299 hf
      refine mv_lload (pc := 302) B d_Book_apply_302 3 rfl ?_
      refine mv_goto (pc := 304) (tgt := 310) B d_Book_apply_304 rfl ?_
      refine mv_lpick [] rfl ?_
      exact jn310 _ _ _ r_g19 hf
  have hf := xif_f h1n1003 hf
  show mv_V _ _ _ _ _ _ _ _ _ _ _ _ _ _ _ _ 371 _ _
  refine mv_iload_n (pc := 371) B d_Book_apply_371 rfl 1 rfl ?_
  refine mv_lload_n (pc := 372) B d_Book_apply_372 rfl 2 rfl ?_
  refine mv_iload (pc := 373) B d_Book_apply_373 4 rfl ?_
  obtain ⟨u22, g21, eg21, hf⟩ := xhb_e hf
  refine mv_callSl (pc := 375) (n := 2) B (mK_ok sk sv) hNs (ch_Book_signed l hi _ _ _ eg21) rfl (ma_goodc kc_Book_signed) (B.2.2.2.1 _ k_2525) (B.2.2.2.1 _ k_2526) (B.2.2.2.1 _ k_13) ⟨by decide +kernel, by decide +kernel, by decide +kernel⟩ rfl d_Book_apply_375 rfl (Nat.le_of_ble_eq_true rfl) ⟨by first | decide | (dsimp only; omega), by first | decide | (dsimp only; omega)⟩ ⟨Nat.le_refl _, Nat.le_refl _⟩ ⟨Nat.le_refl _, Nat.le_refl _⟩ (mv_noH hno _) (fun w375 σ375 h375 => ?_)
  obtain ⟨rfl, rfl, s_g21⟩ := h375
  have r_g21 : mv_r g21 = mv_r h := s_g21.trans rfl
  refine mv_lload (pc := 378) B d_Book_apply_378 3 rfl ?_
  refine mv_iload (pc := 380) B d_Book_apply_380 4 rfl ?_
  obtain ⟨u24, g23, eg23, hf⟩ := xhb_e hf
  refine mv_callSl (pc := 382) (n := 2) B (mK_ok sk sv) hNs (ch_Book_signed l hi _ _ _ eg23) rfl (ma_goodc kc_Book_signed) (B.2.2.2.1 _ k_2525) (B.2.2.2.1 _ k_2526) (B.2.2.2.1 _ k_13) ⟨by decide +kernel, by decide +kernel, by decide +kernel⟩ rfl d_Book_apply_382 rfl (Nat.le_of_ble_eq_true rfl) ⟨by first | decide | (dsimp only; omega), by first | decide | (dsimp only; omega)⟩ ⟨Nat.le_refl _, Nat.le_refl _⟩ ⟨Nat.le_refl _, Nat.le_refl _⟩ (mv_noH hno _) (fun w382 σ382 h382 => ?_)
  obtain ⟨rfl, rfl, s_g23⟩ := h382
  have r_g23 : mv_r g23 = mv_r h := s_g23.trans r_g21
  refine mv_lload_n (pc := 385) B d_Book_apply_385 rfl 2 rfl ?_
  obtain ⟨u26, g25, eg25, hf⟩ := xhb_e hf
  refine mv_callSl (pc := 386) (n := 4) B (mK_ok sk sv) hNs (ch_Book_divide l hi _ _ _ _ _ eg25) rfl (ma_goodc kc_Book_divide) (B.2.2.2.1 _ k_2539) (B.2.2.2.1 _ k_2540) (B.2.2.2.1 _ k_13) ⟨by decide +kernel, by decide +kernel, by decide +kernel⟩ rfl d_Book_apply_386 rfl (Nat.le_of_ble_eq_true rfl) ⟨by first | decide | (dsimp only; omega), by first | decide | (dsimp only; omega)⟩ ⟨Nat.le_refl _, Nat.le_refl _⟩ ⟨Nat.le_refl _, Nat.le_refl _⟩ (mv_noH hno _) (fun w386 σ386 h386 => ?_)
  obtain ⟨rfl, rfl, s_g25⟩ := h386
  have r_g25 : mv_r g25 = mv_r h := s_g25.trans r_g23
  exact mv_lret (pc := 389) B hr d_Book_apply_389 (Nat.le_refl _) (Nat.le_refl _) ⟨_, rfl, xrh_l hf r_g25⟩
set_option maxHeartbeats 4000000 in
set_option maxRecDepth 100000 in
theorem ch_Book_apply_y (l : Launch) {dA : FieldType → ClassId} {D : va_G} {al : Nat → Nat} {ext : mv_Sh} {sk sv : Nat → Nat} (hi : mv_inj (mg dA D al ext)) (h : mv_H) (hb : mh (mv_r h))  (a0 : Int32) (a1 : Int64) (a2 : Int64) (a3 : Int32) {rv : Int64} {rg : mv_H} (hf : f_Book_apply 108 h a0 a1 a2 a3 = some (rv, rg)) : mv_C l y_Book_apply (Cond.code y_Book_apply b_Book_apply 7 (Option.some Jvm.ClassFile.FieldType.long) :: ma) ({ frames := 2, cells := 0, slots := 0, locals := 52 }) (mg dA D al ext) (mK sk sv) [.ref (al 108), .int a0, .long a1, .long a2, .int a3] h (mv_Rl (fun v σ1 => rv = v ∧ rg = σ1 ∧ mv_r σ1 = mv_r h)) := by
  refine mv_C.ofV (cc := b_Book_apply) (nL := 7) (ret := (Option.some Jvm.ClassFile.FieldType.long)) (by decide +kernel) rfl hi (Nat.le_of_ble_eq_true rfl) ?_
  intro p e s m below meth c B hNs hr hnm hno
  have jn310 : ∀ (y0 : Int64) (y1 : Int64) (hz : mv_H), mv_r hz = mv_r h → f_Book_apply_310 108 y0 y1 hz = some (rv, rg) → mv_V p l e ({ frames := 2, cells := 0, slots := 0, locals := 52 }) s m ([.ref (al 108), .int a0, .long a1, .long a2, .int a3] : List Value).toArray below meth c (mg dA D al ext) 7 0 0 (mv_Q (mg dA D al ext) below s 0 0 (mv_Rl (fun v σ1 => rv = v ∧ rg = σ1 ∧ mv_r σ1 = mv_r h))) hz 310 [] [.long y0, .long y1] := by
    intro y0 y1 hz r_hz hf
    unfold f_Book_apply_310 at hf
    refine mv_l2i (pc := 310) B d_Book_apply_310 ?_
    refine mv_lshr (pc := 311) B d_Book_apply_311 ?_
    exact mv_lret (pc := 312) B hr d_Book_apply_312 (Nat.le_refl _) (Nat.le_refl _) ⟨_, rfl, xrh_l hf r_hz⟩
  unfold f_Book_apply at hf
  refine mv_iload_n (pc := 0) B d_Book_apply_0 rfl 1 rfl ?_
  refine mv_lsw (pc := 1) B d_Book_apply_1 (by decide) (by decide) ?_
  refine ⟨fun h1 => ?_, fun h1n37 => ?_⟩
  · skip
    have hf := xif_t h1 hf
    show mv_V _ _ _ _ _ _ _ _ _ _ _ _ _ _ _ _ 348 _ _
    refine mv_lload (pc := 348) B d_Book_apply_348 3 rfl ?_
    refine mv_lconst (pc := 350) (v := 0) B d_Book_apply_350 (by decide) ?_
    refine mv_lcmp (pc := 351) B d_Book_apply_351 ?_
    refine mv_if_ne (pc := 352) (tgt := 359) B d_Book_apply_352 rfl (fun h352 => ?_) (fun h352 => ?_)
    · skip
      have hf := xif_f h352 hf
      refine mv_lload_n (pc := 359) B d_Book_apply_359 rfl 2 rfl ?_
      refine mv_lload_n (pc := 360) B d_Book_apply_360 rfl 2 rfl ?_
      refine mv_lload (pc := 361) B d_Book_apply_361 3 rfl ?_
      obtain ⟨u2, g1, eg1, hf⟩ := xhb_e hf
      refine mv_callSl (pc := 363) (n := 2) B (mK_ok sk sv) hNs (ch_Book_divided l hi _ _ _ eg1) rfl (ma_goodc kc_Book_divided) (B.2.2.2.1 _ k_2536) (B.2.2.2.1 _ k_2537) (B.2.2.2.1 _ k_13) ⟨by decide +kernel, by decide +kernel, by decide +kernel⟩ rfl d_Book_apply_363 rfl (Nat.le_of_ble_eq_true rfl) ⟨by first | decide | (dsimp only; omega), by first | decide | (dsimp only; omega)⟩ ⟨Nat.le_refl _, Nat.le_refl _⟩ ⟨Nat.le_refl _, Nat.le_refl _⟩ (mv_noH hno _) (fun w363 σ363 h363 => ?_)
      obtain ⟨rfl, rfl, s_g1⟩ := h363
      have r_g1 : mv_r g1 = mv_r h := s_g1.trans rfl
      refine mv_lload (pc := 366) B d_Book_apply_366 3 rfl ?_
      refine mv_lmul (pc := 368) B d_Book_apply_368 ?_
      refine mv_lsub (pc := 369) B d_Book_apply_369 ?_
      exact mv_lret (pc := 370) B hr d_Book_apply_370 (Nat.le_refl _) (Nat.le_refl _) ⟨_, rfl, xrh_l hf r_g1⟩
    · skip
      have hf := xif_t h352 hf
      refine mv_lload_n (pc := 355) B d_Book_apply_355 rfl 2 rfl ?_
      refine mv_goto (pc := 356) (tgt := 370) B d_Book_apply_356 rfl ?_
      exact mv_lret (pc := 370) B hr d_Book_apply_370 (Nat.le_refl _) (Nat.le_refl _) ⟨_, rfl, xrh_l hf rfl⟩
  have hf := xif_f h1n37 hf
  refine ⟨fun h1 => ?_, fun h1n38 => ?_⟩
  · skip
    have hf := xif_t h1 hf
    show mv_V _ _ _ _ _ _ _ _ _ _ _ _ _ _ _ _ 150 _ _
    refine mv_lload_n (pc := 150) B d_Book_apply_150 rfl 2 rfl ?_
    refine mv_lload (pc := 151) B d_Book_apply_151 3 rfl ?_
    refine mv_land (pc := 153) B d_Book_apply_153 ?_
    exact mv_lret (pc := 154) B hr d_Book_apply_154 (Nat.le_refl _) (Nat.le_refl _) ⟨_, rfl, xrh_l hf rfl⟩
  have hf := xif_f h1n38 hf
  refine ⟨fun h1 => ?_, fun h1n42 => ?_⟩
  · skip
    have hf := xif_t h1 hf
    show mv_V _ _ _ _ _ _ _ _ _ _ _ _ _ _ _ _ 323 _ _
    refine mv_lload_n (pc := 323) B d_Book_apply_323 rfl 2 rfl ?_
    refine mv_lload (pc := 324) B d_Book_apply_324 3 rfl ?_
    refine mv_lmul (pc := 326) B d_Book_apply_326 ?_
    exact mv_lret (pc := 327) B hr d_Book_apply_327 (Nat.le_refl _) (Nat.le_refl _) ⟨_, rfl, xrh_l hf rfl⟩
  have hf := xif_f h1n42 hf
  refine ⟨fun h1 => ?_, fun h1n43 => ?_⟩
  · skip
    have hf := xif_t h1 hf
    show mv_V _ _ _ _ _ _ _ _ _ _ _ _ _ _ _ _ 313 _ _
    refine mv_lload_n (pc := 313) B d_Book_apply_313 rfl 2 rfl ?_
    refine mv_lload (pc := 314) B d_Book_apply_314 3 rfl ?_
    refine mv_ladd (pc := 316) B d_Book_apply_316 ?_
    exact mv_lret (pc := 317) B hr d_Book_apply_317 (Nat.le_refl _) (Nat.le_refl _) ⟨_, rfl, xrh_l hf rfl⟩
  have hf := xif_f h1n43 hf
  refine ⟨fun h1 => ?_, fun h1n45 => ?_⟩
  · skip
    have hf := xif_t h1 hf
    show mv_V _ _ _ _ _ _ _ _ _ _ _ _ _ _ _ _ 318 _ _
    refine mv_lload_n (pc := 318) B d_Book_apply_318 rfl 2 rfl ?_
    refine mv_lload (pc := 319) B d_Book_apply_319 3 rfl ?_
    refine mv_lsub (pc := 321) B d_Book_apply_321 ?_
    exact mv_lret (pc := 322) B hr d_Book_apply_322 (Nat.le_refl _) (Nat.le_refl _) ⟨_, rfl, xrh_l hf rfl⟩
  have hf := xif_f h1n45 hf
  refine ⟨fun h1 => ?_, fun h1n47 => ?_⟩
  · skip
    have hf := xif_t h1 hf
    show mv_V _ _ _ _ _ _ _ _ _ _ _ _ _ _ _ _ 328 _ _
    refine mv_lload (pc := 328) B d_Book_apply_328 3 rfl ?_
    refine mv_lconst (pc := 330) (v := 0) B d_Book_apply_330 (by decide) ?_
    refine mv_lcmp (pc := 331) B d_Book_apply_331 ?_
    refine mv_if_ne (pc := 332) (tgt := 341) B d_Book_apply_332 rfl (fun h332 => ?_) (fun h332 => ?_)
    · skip
      have hf := xif_f h332 hf
      refine mv_lload_n (pc := 341) B d_Book_apply_341 rfl 2 rfl ?_
      refine mv_lload (pc := 342) B d_Book_apply_342 3 rfl ?_
      obtain ⟨u4, g3, eg3, hf⟩ := xhb_e hf
      refine mv_callSl (pc := 344) (n := 2) B (mK_ok sk sv) hNs (ch_Book_divided l hi _ _ _ eg3) rfl (ma_goodc kc_Book_divided) (B.2.2.2.1 _ k_2536) (B.2.2.2.1 _ k_2537) (B.2.2.2.1 _ k_13) ⟨by decide +kernel, by decide +kernel, by decide +kernel⟩ rfl d_Book_apply_344 rfl (Nat.le_of_ble_eq_true rfl) ⟨by first | decide | (dsimp only; omega), by first | decide | (dsimp only; omega)⟩ ⟨Nat.le_refl _, Nat.le_refl _⟩ ⟨Nat.le_refl _, Nat.le_refl _⟩ (mv_noH hno _) (fun w344 σ344 h344 => ?_)
      obtain ⟨rfl, rfl, s_g3⟩ := h344
      have r_g3 : mv_r g3 = mv_r h := s_g3.trans rfl
      exact mv_lret (pc := 347) B hr d_Book_apply_347 (Nat.le_refl _) (Nat.le_refl _) ⟨_, rfl, xrh_l hf r_g3⟩
    · skip
      have hf := xif_t h332 hf
      refine mv_ldc2 (pc := 335) (v := -1) B (B.2.2.2.1 _ k_2520) d_Book_apply_335 ?_
      refine mv_goto (pc := 338) (tgt := 347) B d_Book_apply_338 rfl ?_
      exact mv_lret (pc := 347) B hr d_Book_apply_347 (Nat.le_refl _) (Nat.le_refl _) ⟨_, rfl, xrh_l hf rfl⟩
  have hf := xif_f h1n47 hf
  refine ⟨fun h1 => ?_, fun h1n60 => ?_⟩
  · skip
    have hf := xif_t h1 hf
    show mv_V _ _ _ _ _ _ _ _ _ _ _ _ _ _ _ _ 181 _ _
    refine mv_lload_n (pc := 181) B d_Book_apply_181 rfl 2 rfl ?_
    refine mv_lload (pc := 182) B d_Book_apply_182 3 rfl ?_
    obtain ⟨u6, g5, eg5, hf⟩ := xhb_e hf
    refine mv_callSi (pc := 184) (n := 2) B (mK_ok sk sv) hNs (ch_Book_below l hi _ _ _ eg5) rfl (ma_goodc kc_Book_below) (B.2.2.2.1 _ k_2532) (B.2.2.2.1 _ k_2533) (B.2.2.2.1 _ k_13) ⟨by decide +kernel, by decide +kernel, by decide +kernel⟩ rfl d_Book_apply_184 rfl (Nat.le_of_ble_eq_true rfl) ⟨by first | decide | (dsimp only; omega), by first | decide | (dsimp only; omega)⟩ ⟨Nat.le_refl _, Nat.le_refl _⟩ ⟨Nat.le_refl _, Nat.le_refl _⟩ (mv_noH hno _) (fun w184 σ184 h184 => ?_)
    obtain ⟨rfl, rfl, s_g5⟩ := h184
    have r_g5 : mv_r g5 = mv_r h := s_g5.trans rfl
    refine mv_if_eq (pc := 187) (tgt := 194) B d_Book_apply_187 rfl (fun h187 => ?_) (fun h187 => ?_)
    · skip
      have hf := xif_t h187 hf
      refine mv_lconst (pc := 194) (v := 0) B d_Book_apply_194 (by decide) ?_
      exact mv_lret (pc := 195) B hr d_Book_apply_195 (Nat.le_refl _) (Nat.le_refl _) ⟨_, rfl, xrh_l hf r_g5⟩
    · skip
      have hf := xif_f h187 hf
      refine mv_lconst (pc := 190) (v := 1) B d_Book_apply_190 (by decide) ?_
      refine mv_goto (pc := 191) (tgt := 195) B d_Book_apply_191 rfl ?_
      exact mv_lret (pc := 195) B hr d_Book_apply_195 (Nat.le_refl _) (Nat.le_refl _) ⟨_, rfl, xrh_l hf r_g5⟩
  have hf := xif_f h1n60 hf
  refine ⟨fun h1 => ?_, fun h1n94 => ?_⟩
  · skip
    have hf := xif_t h1 hf
    show mv_V _ _ _ _ _ _ _ _ _ _ _ _ _ _ _ _ 145 _ _
    refine mv_lload_n (pc := 145) B d_Book_apply_145 rfl 2 rfl ?_
    refine mv_lload (pc := 146) B d_Book_apply_146 3 rfl ?_
    refine mv_lxor (pc := 148) B d_Book_apply_148 ?_
    exact mv_lret (pc := 149) B hr d_Book_apply_149 (Nat.le_refl _) (Nat.le_refl _) ⟨_, rfl, xrh_l hf rfl⟩
  have hf := xif_f h1n94 hf
  refine ⟨fun h1 => ?_, fun h1n124 => ?_⟩
  · skip
    have hf := xif_t h1 hf
    show mv_V _ _ _ _ _ _ _ _ _ _ _ _ _ _ _ _ 140 _ _
    refine mv_lload_n (pc := 140) B d_Book_apply_140 rfl 2 rfl ?_
    refine mv_lload (pc := 141) B d_Book_apply_141 3 rfl ?_
    refine mv_lor (pc := 143) B d_Book_apply_143 ?_
    exact mv_lret (pc := 144) B hr d_Book_apply_144 (Nat.le_refl _) (Nat.le_refl _) ⟨_, rfl, xrh_l hf rfl⟩
  have hf := xif_f h1n124 hf
  refine ⟨fun h1 => ?_, fun h1n256 => ?_⟩
  · skip
    have hf := xif_t h1 hf
    show mv_V _ _ _ _ _ _ _ _ _ _ _ _ _ _ _ _ 155 _ _
    refine mv_lload_n (pc := 155) B d_Book_apply_155 rfl 2 rfl ?_
    refine mv_lload (pc := 156) B d_Book_apply_156 3 rfl ?_
    refine mv_lcmp (pc := 158) B d_Book_apply_158 ?_
    refine mv_if_ne (pc := 159) (tgt := 166) B d_Book_apply_159 rfl (fun h159 => ?_) (fun h159 => ?_)
    · skip
      have hf := xif_f h159 hf
      refine mv_lconst (pc := 166) (v := 0) B d_Book_apply_166 (by decide) ?_
      exact mv_lret (pc := 167) B hr d_Book_apply_167 (Nat.le_refl _) (Nat.le_refl _) ⟨_, rfl, xrh_l hf rfl⟩
    · skip
      have hf := xif_t h159 hf
      refine mv_lconst (pc := 162) (v := 1) B d_Book_apply_162 (by decide) ?_
      refine mv_goto (pc := 163) (tgt := 167) B d_Book_apply_163 rfl ?_
      exact mv_lret (pc := 167) B hr d_Book_apply_167 (Nat.le_refl _) (Nat.le_refl _) ⟨_, rfl, xrh_l hf rfl⟩
  have hf := xif_f h1n256 hf
  refine ⟨fun h1 => ?_, fun h1n257 => ?_⟩
  · skip
    have hf := xif_t h1 hf
    show mv_V _ _ _ _ _ _ _ _ _ _ _ _ _ _ _ _ 168 _ _
    refine mv_lload_n (pc := 168) B d_Book_apply_168 rfl 2 rfl ?_
    refine mv_lload (pc := 169) B d_Book_apply_169 3 rfl ?_
    refine mv_lcmp (pc := 171) B d_Book_apply_171 ?_
    refine mv_if_eq (pc := 172) (tgt := 179) B d_Book_apply_172 rfl (fun h172 => ?_) (fun h172 => ?_)
    · skip
      have hf := xif_t h172 hf
      refine mv_lconst (pc := 179) (v := 0) B d_Book_apply_179 (by decide) ?_
      exact mv_lret (pc := 180) B hr d_Book_apply_180 (Nat.le_refl _) (Nat.le_refl _) ⟨_, rfl, xrh_l hf rfl⟩
    · skip
      have hf := xif_f h172 hf
      refine mv_lconst (pc := 175) (v := 1) B d_Book_apply_175 (by decide) ?_
      refine mv_goto (pc := 176) (tgt := 180) B d_Book_apply_176 rfl ?_
      exact mv_lret (pc := 180) B hr d_Book_apply_180 (Nat.le_refl _) (Nat.le_refl _) ⟨_, rfl, xrh_l hf rfl⟩
  have hf := xif_f h1n257 hf
  refine ⟨fun h1 => ?_, fun h1n258 => ?_⟩
  · skip
    have hf := xif_t h1 hf
    show mv_V _ _ _ _ _ _ _ _ _ _ _ _ _ _ _ _ 196 _ _
    refine mv_lload (pc := 196) B d_Book_apply_196 3 rfl ?_
    refine mv_lload_n (pc := 198) B d_Book_apply_198 rfl 2 rfl ?_
    obtain ⟨u8, g7, eg7, hf⟩ := xhb_e hf
    refine mv_callSi (pc := 199) (n := 2) B (mK_ok sk sv) hNs (ch_Book_below l hi _ _ _ eg7) rfl (ma_goodc kc_Book_below) (B.2.2.2.1 _ k_2532) (B.2.2.2.1 _ k_2533) (B.2.2.2.1 _ k_13) ⟨by decide +kernel, by decide +kernel, by decide +kernel⟩ rfl d_Book_apply_199 rfl (Nat.le_of_ble_eq_true rfl) ⟨by first | decide | (dsimp only; omega), by first | decide | (dsimp only; omega)⟩ ⟨Nat.le_refl _, Nat.le_refl _⟩ ⟨Nat.le_refl _, Nat.le_refl _⟩ (mv_noH hno _) (fun w199 σ199 h199 => ?_)
    obtain ⟨rfl, rfl, s_g7⟩ := h199
    have r_g7 : mv_r g7 = mv_r h := s_g7.trans rfl
    refine mv_if_eq (pc := 202) (tgt := 209) B d_Book_apply_202 rfl (fun h202 => ?_) (fun h202 => ?_)
    · skip
      have hf := xif_t h202 hf
      refine mv_lconst (pc := 209) (v := 1) B d_Book_apply_209 (by decide) ?_
      exact mv_lret (pc := 210) B hr d_Book_apply_210 (Nat.le_refl _) (Nat.le_refl _) ⟨_, rfl, xrh_l hf r_g7⟩
    · skip
      have hf := xif_f h202 hf
      refine mv_lconst (pc := 205) (v := 0) B d_Book_apply_205 (by decide) ?_
      refine mv_goto (pc := 206) (tgt := 210) B d_Book_apply_206 rfl ?_
      exact mv_lret (pc := 210) B hr d_Book_apply_210 (Nat.le_refl _) (Nat.le_refl _) ⟨_, rfl, xrh_l hf r_g7⟩
  have hf := xif_f h1n258 hf
  refine ⟨fun h1 => ?_, fun h1n259 => ?_⟩
  · skip
    have hf := xif_t h1 hf
    show mv_V _ _ _ _ _ _ _ _ _ _ _ _ _ _ _ _ 234 _ _
    refine mv_lload (pc := 234) B d_Book_apply_234 3 rfl ?_
    refine mv_lconst (pc := 236) (v := 0) B d_Book_apply_236 (by decide) ?_
    refine mv_iload (pc := 237) B d_Book_apply_237 4 rfl ?_
    refine mv_iconst (pc := 239) (v := 1) B d_Book_apply_239 (by decide) ?_
    refine mv_isub (pc := 240) B d_Book_apply_240 ?_
    refine mv_i2l (pc := 241) B d_Book_apply_241 ?_
    obtain ⟨u10, g9, eg9, hf⟩ := xhb_e hf
    refine mv_callSNi (pc := 242) (n := 3) B (mK_ok sk sv) hNs (ch_Model_in l hi _ _ _ _ eg9) rfl (ma_goodc kc_Model_in) (va_Nw.use rfl (hNs.1 _ (List.mem_of_getElem? (i := 7) rfl))) (B.2.2.2.1 _ k_2208) (B.2.2.2.1 _ k_12) ⟨by decide +kernel, by decide +kernel, by decide +kernel⟩ rfl d_Book_apply_242 rfl (Nat.le_of_ble_eq_true rfl) ⟨by first | decide | (dsimp only; omega), by first | decide | (dsimp only; omega)⟩ ⟨Nat.le_refl _, Nat.le_refl _⟩ ⟨Nat.le_refl _, Nat.le_refl _⟩ (mv_noH hno _) (fun w242 σ242 h242 => ?_)
    obtain ⟨rfl, rfl, s_g9⟩ := h242
    have r_g9 : mv_r g9 = mv_r h := s_g9.trans rfl
    refine mv_if_eq (pc := 245) (tgt := 256) B d_Book_apply_245 rfl (fun h245 => ?_) (fun h245 => ?_)
    · skip
      have hf := xif_t h245 hf
      refine mv_lconst (pc := 256) (v := 0) B d_Book_apply_256 (by decide) ?_
      exact mv_lret (pc := 257) B hr d_Book_apply_257 (Nat.le_refl _) (Nat.le_refl _) ⟨_, rfl, xrh_l hf r_g9⟩
    · skip
      have hf := xif_f h245 hf
      refine mv_lload_n (pc := 248) B d_Book_apply_248 rfl 2 rfl ?_
      refine mv_lload (pc := 249) B d_Book_apply_249 3 rfl ?_
      refine mv_l2i (pc := 251) B d_Book_apply_251 ?_
      refine mv_lshl (pc := 252) B d_Book_apply_252 ?_
      refine mv_goto (pc := 253) (tgt := 257) B d_Book_apply_253 rfl ?_
      exact mv_lret (pc := 257) B hr d_Book_apply_257 (Nat.le_refl _) (Nat.le_refl _) ⟨_, rfl, xrh_l hf r_g9⟩
  have hf := xif_f h1n259 hf
  refine ⟨fun h1 => ?_, fun h1n260 => ?_⟩
  · skip
    have hf := xif_t h1 hf
    show mv_V _ _ _ _ _ _ _ _ _ _ _ _ _ _ _ _ 258 _ _
    refine mv_lload (pc := 258) B d_Book_apply_258 3 rfl ?_
    refine mv_lconst (pc := 260) (v := 0) B d_Book_apply_260 (by decide) ?_
    refine mv_iload (pc := 261) B d_Book_apply_261 4 rfl ?_
    refine mv_iconst (pc := 263) (v := 1) B d_Book_apply_263 (by decide) ?_
    refine mv_isub (pc := 264) B d_Book_apply_264 ?_
    refine mv_i2l (pc := 265) B d_Book_apply_265 ?_
    obtain ⟨u12, g11, eg11, hf⟩ := xhb_e hf
    refine mv_callSNi (pc := 266) (n := 3) B (mK_ok sk sv) hNs (ch_Model_in l hi _ _ _ _ eg11) rfl (ma_goodc kc_Model_in) (va_Nw.use rfl (hNs.1 _ (List.mem_of_getElem? (i := 7) rfl))) (B.2.2.2.1 _ k_2208) (B.2.2.2.1 _ k_12) ⟨by decide +kernel, by decide +kernel, by decide +kernel⟩ rfl d_Book_apply_266 rfl (Nat.le_of_ble_eq_true rfl) ⟨by first | decide | (dsimp only; omega), by first | decide | (dsimp only; omega)⟩ ⟨Nat.le_refl _, Nat.le_refl _⟩ ⟨Nat.le_refl _, Nat.le_refl _⟩ (mv_noH hno _) (fun w266 σ266 h266 => ?_)
    obtain ⟨rfl, rfl, s_g11⟩ := h266
    have r_g11 : mv_r g11 = mv_r h := s_g11.trans rfl
    refine mv_if_eq (pc := 269) (tgt := 280) B d_Book_apply_269 rfl (fun h269 => ?_) (fun h269 => ?_)
    · skip
      have hf := xif_t h269 hf
      refine mv_lconst (pc := 280) (v := 0) B d_Book_apply_280 (by decide) ?_
      exact mv_lret (pc := 281) B hr d_Book_apply_281 (Nat.le_refl _) (Nat.le_refl _) ⟨_, rfl, xrh_l hf r_g11⟩
    · skip
      have hf := xif_f h269 hf
      refine mv_lload_n (pc := 272) B d_Book_apply_272 rfl 2 rfl ?_
      refine mv_lload (pc := 273) B d_Book_apply_273 3 rfl ?_
      refine mv_l2i (pc := 275) B d_Book_apply_275 ?_
      refine mv_lushr (pc := 276) B d_Book_apply_276 ?_
      refine mv_goto (pc := 277) (tgt := 281) B d_Book_apply_277 rfl ?_
      exact mv_lret (pc := 281) B hr d_Book_apply_281 (Nat.le_refl _) (Nat.le_refl _) ⟨_, rfl, xrh_l hf r_g11⟩
  have hf := xif_f h1n260 hf
  refine ⟨fun h1 => ?_, fun h1n1000 => ?_⟩
  · skip
    have hf := xif_t h1 hf
    show mv_V _ _ _ _ _ _ _ _ _ _ _ _ _ _ _ _ 211 _ _
    refine mv_lload_n (pc := 211) B d_Book_apply_211 rfl 2 rfl ?_
    refine mv_iload (pc := 212) B d_Book_apply_212 4 rfl ?_
    obtain ⟨u14, g13, eg13, hf⟩ := xhb_e hf
    refine mv_callSl (pc := 214) (n := 2) B (mK_ok sk sv) hNs (ch_Book_signed l hi _ _ _ eg13) rfl (ma_goodc kc_Book_signed) (B.2.2.2.1 _ k_2525) (B.2.2.2.1 _ k_2526) (B.2.2.2.1 _ k_13) ⟨by decide +kernel, by decide +kernel, by decide +kernel⟩ rfl d_Book_apply_214 rfl (Nat.le_of_ble_eq_true rfl) ⟨by first | decide | (dsimp only; omega), by first | decide | (dsimp only; omega)⟩ ⟨Nat.le_refl _, Nat.le_refl _⟩ ⟨Nat.le_refl _, Nat.le_refl _⟩ (mv_noH hno _) (fun w214 σ214 h214 => ?_)
    obtain ⟨rfl, rfl, s_g13⟩ := h214
    have r_g13 : mv_r g13 = mv_r h := s_g13.trans rfl
    refine mv_lload (pc := 217) B d_Book_apply_217 3 rfl ?_
    refine mv_iload (pc := 219) B d_Book_apply_219 4 rfl ?_
    obtain ⟨u16, g15, eg15, hf⟩ := xhb_e hf
    refine mv_callSl (pc := 221) (n := 2) B (mK_ok sk sv) hNs (ch_Book_signed l hi _ _ _ eg15) rfl (ma_goodc kc_Book_signed) (B.2.2.2.1 _ k_2525) (B.2.2.2.1 _ k_2526) (B.2.2.2.1 _ k_13) ⟨by decide +kernel, by decide +kernel, by decide +kernel⟩ rfl d_Book_apply_221 rfl (Nat.le_of_ble_eq_true rfl) ⟨by first | decide | (dsimp only; omega), by first | decide | (dsimp only; omega)⟩ ⟨Nat.le_refl _, Nat.le_refl _⟩ ⟨Nat.le_refl _, Nat.le_refl _⟩ (mv_noH hno _) (fun w221 σ221 h221 => ?_)
    obtain ⟨rfl, rfl, s_g15⟩ := h221
    have r_g15 : mv_r g15 = mv_r h := s_g15.trans r_g13
    refine mv_lcmp (pc := 224) B d_Book_apply_224 ?_
    refine mv_if_ge (pc := 225) (tgt := 232) B d_Book_apply_225 rfl (fun h225 => ?_) (fun h225 => ?_)
    · skip
      have hf := xif_t h225 hf
      refine mv_lconst (pc := 232) (v := 0) B d_Book_apply_232 (by decide) ?_
      exact mv_lret (pc := 233) B hr d_Book_apply_233 (Nat.le_refl _) (Nat.le_refl _) ⟨_, rfl, xrh_l hf r_g15⟩
    · skip
      have hf := xif_f h225 hf
      refine mv_lconst (pc := 228) (v := 1) B d_Book_apply_228 (by decide) ?_
      refine mv_goto (pc := 229) (tgt := 233) B d_Book_apply_229 rfl ?_
      exact mv_lret (pc := 233) B hr d_Book_apply_233 (Nat.le_refl _) (Nat.le_refl _) ⟨_, rfl, xrh_l hf r_g15⟩
  have hf := xif_f h1n1000 hf
  refine ⟨fun h1 => ?_, fun h1n1003 => ?_⟩
  · skip
    have hf := xif_t h1 hf
    show mv_V _ _ _ _ _ _ _ _ _ _ _ _ _ _ _ _ 282 _ _
    refine mv_lload_n (pc := 282) B d_Book_apply_282 rfl 2 rfl ?_
    refine mv_iload (pc := 283) B d_Book_apply_283 4 rfl ?_
    obtain ⟨u18, g17, eg17, hf⟩ := xhb_e hf
    refine mv_callSl (pc := 285) (n := 2) B (mK_ok sk sv) hNs (ch_Book_signed l hi _ _ _ eg17) rfl (ma_goodc kc_Book_signed) (B.2.2.2.1 _ k_2525) (B.2.2.2.1 _ k_2526) (B.2.2.2.1 _ k_13) ⟨by decide +kernel, by decide +kernel, by decide +kernel⟩ rfl d_Book_apply_285 rfl (Nat.le_of_ble_eq_true rfl) ⟨by first | decide | (dsimp only; omega), by first | decide | (dsimp only; omega)⟩ ⟨Nat.le_refl _, Nat.le_refl _⟩ ⟨Nat.le_refl _, Nat.le_refl _⟩ (mv_noH hno _) (fun w285 σ285 h285 => ?_)
    obtain ⟨rfl, rfl, s_g17⟩ := h285
    have r_g17 : mv_r g17 = mv_r h := s_g17.trans rfl
    refine mv_lload (pc := 288) B d_Book_apply_288 3 rfl ?_
    refine mv_lconst (pc := 290) (v := 0) B d_Book_apply_290 (by decide) ?_
    refine mv_iload (pc := 291) B d_Book_apply_291 4 rfl ?_
    refine mv_iconst (pc := 293) (v := 1) B d_Book_apply_293 (by decide) ?_
    refine mv_isub (pc := 294) B d_Book_apply_294 ?_
    refine mv_i2l (pc := 295) B d_Book_apply_295 ?_
    obtain ⟨u20, g19, eg19, hf⟩ := xhb_e hf
    refine mv_callSNi (pc := 296) (n := 3) B (mK_ok sk sv) hNs (ch_Model_in l hi _ _ _ _ eg19) rfl (ma_goodc kc_Model_in) (va_Nw.use rfl (hNs.1 _ (List.mem_of_getElem? (i := 7) rfl))) (B.2.2.2.1 _ k_2208) (B.2.2.2.1 _ k_12) ⟨by decide +kernel, by decide +kernel, by decide +kernel⟩ rfl d_Book_apply_296 rfl (Nat.le_of_ble_eq_true rfl) ⟨by first | decide | (dsimp only; omega), by first | decide | (dsimp only; omega)⟩ ⟨Nat.le_refl _, Nat.le_refl _⟩ ⟨Nat.le_refl _, Nat.le_refl _⟩ (mv_noH hno _) (fun w296 σ296 h296 => ?_)
    obtain ⟨rfl, rfl, s_g19⟩ := h296
    have r_g19 : mv_r g19 = mv_r h := s_g19.trans r_g17
    refine mv_if_eq (pc := 299) (tgt := 307) B d_Book_apply_299 rfl (fun h299 => ?_) (fun h299 => ?_)
    · skip
      have hf := xif_t h299 hf
      refine mv_ldc2 (pc := 307) (v := 63) B (B.2.2.2.1 _ k_2535) d_Book_apply_307 ?_
      refine mv_lpick [] rfl ?_
      exact jn310 _ _ _ r_g19 hf
    · skip
      have hf := xif_f h299 hf
      refine mv_lload (pc := 302) B d_Book_apply_302 3 rfl ?_
      refine mv_goto (pc := 304) (tgt := 310) B d_Book_apply_304 rfl ?_
      refine mv_lpick [] rfl ?_
      exact jn310 _ _ _ r_g19 hf
  have hf := xif_f h1n1003 hf
  show mv_V _ _ _ _ _ _ _ _ _ _ _ _ _ _ _ _ 371 _ _
  refine mv_iload_n (pc := 371) B d_Book_apply_371 rfl 1 rfl ?_
  refine mv_lload_n (pc := 372) B d_Book_apply_372 rfl 2 rfl ?_
  refine mv_iload (pc := 373) B d_Book_apply_373 4 rfl ?_
  obtain ⟨u22, g21, eg21, hf⟩ := xhb_e hf
  refine mv_callSl (pc := 375) (n := 2) B (mK_ok sk sv) hNs (ch_Book_signed l hi _ _ _ eg21) rfl (ma_goodc kc_Book_signed) (B.2.2.2.1 _ k_2525) (B.2.2.2.1 _ k_2526) (B.2.2.2.1 _ k_13) ⟨by decide +kernel, by decide +kernel, by decide +kernel⟩ rfl d_Book_apply_375 rfl (Nat.le_of_ble_eq_true rfl) ⟨by first | decide | (dsimp only; omega), by first | decide | (dsimp only; omega)⟩ ⟨Nat.le_refl _, Nat.le_refl _⟩ ⟨Nat.le_refl _, Nat.le_refl _⟩ (mv_noH hno _) (fun w375 σ375 h375 => ?_)
  obtain ⟨rfl, rfl, s_g21⟩ := h375
  have r_g21 : mv_r g21 = mv_r h := s_g21.trans rfl
  refine mv_lload (pc := 378) B d_Book_apply_378 3 rfl ?_
  refine mv_iload (pc := 380) B d_Book_apply_380 4 rfl ?_
  obtain ⟨u24, g23, eg23, hf⟩ := xhb_e hf
  refine mv_callSl (pc := 382) (n := 2) B (mK_ok sk sv) hNs (ch_Book_signed l hi _ _ _ eg23) rfl (ma_goodc kc_Book_signed) (B.2.2.2.1 _ k_2525) (B.2.2.2.1 _ k_2526) (B.2.2.2.1 _ k_13) ⟨by decide +kernel, by decide +kernel, by decide +kernel⟩ rfl d_Book_apply_382 rfl (Nat.le_of_ble_eq_true rfl) ⟨by first | decide | (dsimp only; omega), by first | decide | (dsimp only; omega)⟩ ⟨Nat.le_refl _, Nat.le_refl _⟩ ⟨Nat.le_refl _, Nat.le_refl _⟩ (mv_noH hno _) (fun w382 σ382 h382 => ?_)
  obtain ⟨rfl, rfl, s_g23⟩ := h382
  have r_g23 : mv_r g23 = mv_r h := s_g23.trans r_g21
  refine mv_lload_n (pc := 385) B d_Book_apply_385 rfl 2 rfl ?_
  obtain ⟨u26, g25, eg25, hf⟩ := xhb_e hf
  refine mv_callSl (pc := 386) (n := 4) B (mK_ok sk sv) hNs (ch_Book_divide l hi _ _ _ _ _ eg25) rfl (ma_goodc kc_Book_divide) (B.2.2.2.1 _ k_2539) (B.2.2.2.1 _ k_2540) (B.2.2.2.1 _ k_13) ⟨by decide +kernel, by decide +kernel, by decide +kernel⟩ rfl d_Book_apply_386 rfl (Nat.le_of_ble_eq_true rfl) ⟨by first | decide | (dsimp only; omega), by first | decide | (dsimp only; omega)⟩ ⟨Nat.le_refl _, Nat.le_refl _⟩ ⟨Nat.le_refl _, Nat.le_refl _⟩ (mv_noH hno _) (fun w386 σ386 h386 => ?_)
  obtain ⟨rfl, rfl, s_g25⟩ := h386
  have r_g25 : mv_r g25 = mv_r h := s_g25.trans r_g23
  exact mv_lret (pc := 389) B hr d_Book_apply_389 (Nat.le_refl _) (Nat.le_refl _) ⟨_, rfl, xrh_l hf r_g25⟩
def f_Book_read_0_38 (P : Nat) (k7 : Int32 → Int32 → Int32 → mv_H → Option (Int64 × mv_H)) (x1 : Int32) (x2 : Int32) (x3 : Int32) (hz : mv_H) : Option (Int64 × mv_H) := k7 x1 x2 (x3 + (-1)) hz
def fF_Book_read_0_7 (P : Nat) (k7 : Int32 → Int32 → Int32 → mv_H → Option (Int64 × mv_H)) (x1 : Int32) (x2 : Int32) (x3 : Int32) (hz : mv_H) : Option (Int64 × mv_H) := if x3 < (0 : Int32) then (bif xvi x1 4100 then if (mv_a hz (P + 6) (x1).toNatClampNeg) = (0 : Int32) then (bif xvi x1 4100 then some ((mv_b hz (P + 27) (x1).toNatClampNeg), hz) else none) else (bif xvi x1 4100 then bif xvi ((mv_a hz (P + 5) (x1).toNatClampNeg) + x2) 65536 then some ((mv_b hz (P + 28) (((mv_a hz (P + 5) (x1).toNatClampNeg) + x2)).toNatClampNeg), hz) else none else none) else none) else (bif xvi x3 12000 then if (mv_a hz (P + 29) (x3).toNatClampNeg) = x1 then (bif xvi x3 12000 then if (mv_a hz (P + 30) (x3).toNatClampNeg) = x2 then (bif xvi x3 12000 then some ((mv_b hz (P + 32) (x3).toNatClampNeg), hz) else none) else (f_Book_read_0_38 P k7 x1 x2 x3 hz) else none) else (f_Book_read_0_38 P k7 x1 x2 x3 hz) else none)
def f_Book_read_0_7 (P : Nat) : Nat → Int32 → Int32 → Int32 → mv_H → Option (Int64 × mv_H)
  | 0 => fun _ _ _ _ => none
  | nn + 1 => fF_Book_read_0_7 P (f_Book_read_0_7 P nn)
def f_Book_read_0 (P : Nat) (h : mv_H) (a0 : Int32) (a1 : Int32) : Option (Int64 × mv_H) := f_Book_read_0_7 P 200000 a0 a1 ((mv_i h P 61) - (1 : Int32)) h
set_option maxHeartbeats 4000000 in
set_option maxRecDepth 100000 in
theorem ch_Book_read_0_x (l : Launch) {dA : FieldType → ClassId} {D : va_G} {al : Nat → Nat} {ext : mv_Sh} {sk sv : Nat → Nat} (hi : mv_inj (mg dA D al ext)) (h : mv_H) (hb : mh (mv_r h))  (a0 : Int32) (a1 : Int32) {rv : Int64} {rg : mv_H} (hf : f_Book_read_0 74 h a0 a1 = some (rv, rg)) : mv_C l y_Book_read_0 (Cond.code y_Book_read_0 b_Book_read_0 4 (Option.some Jvm.ClassFile.FieldType.long) :: ma) ({ frames := 0, cells := 0, slots := 0, locals := 0 }) (mg dA D al ext) (mK sk sv) [.ref (al 74), .int a0, .int a1] h (mv_Rl (fun v σ1 => rv = v ∧ rg = σ1 ∧ mv_r σ1 = mv_r h)) := by
  refine mv_C.ofV (cc := b_Book_read_0) (nL := 4) (ret := (Option.some Jvm.ClassFile.FieldType.long)) (by decide +kernel) rfl hi (Nat.le_of_ble_eq_true rfl) ?_
  intro p e s m below meth c B hNs hr hnm hno
  have lp7 : ∀ (nn7 : Nat) (x1 : Int32) (x2 : Int32) (x3 : Int32) (hz : mv_H), mv_r hz = mv_r h → f_Book_read_0_7 74 nn7 x1 x2 x3 hz = some (rv, rg) → mv_V p l e ({ frames := 0, cells := 0, slots := 0, locals := 0 }) s m ([.ref (al 74), .int a0, .int a1] : List Value).toArray below meth c (mg dA D al ext) 4 0 0 (mv_Q (mg dA D al ext) below s 0 0 (mv_Rl (fun v σ1 => rv = v ∧ rg = σ1 ∧ mv_r σ1 = mv_r h))) hz 7 [(0, .ref (al 74)), (1, .int x1), (2, .int x2), (3, .int x3)] [] := by
    intro nn7
    induction nn7 with
    | zero => intro x1 x2 x3 hz r_hz hf; cases hf
    | succ nn7 ih7 =>
      intro x1 x2 x3 hz r_hz hf
      have jn38 : ∀ (x1 : Int32) (x2 : Int32) (x3 : Int32) (hz : mv_H), mv_r hz = mv_r h → f_Book_read_0_38 74 (f_Book_read_0_7 74 nn7) x1 x2 x3 hz = some (rv, rg) → mv_V p l e ({ frames := 0, cells := 0, slots := 0, locals := 0 }) s m ([.ref (al 74), .int a0, .int a1] : List Value).toArray below meth c (mg dA D al ext) 4 0 0 (mv_Q (mg dA D al ext) below s 0 0 (mv_Rl (fun v σ1 => rv = v ∧ rg = σ1 ∧ mv_r σ1 = mv_r h))) hz 38 [(0, .ref (al 74)), (1, .int x1), (2, .int x2), (3, .int x3)] [] := by
        intro x1 x2 x3 hz r_hz hf
        unfold f_Book_read_0_38 at hf
        refine mv_iinc (pc := 38) (j := 3) (v := -1) B d_Book_read_0_38 rfl (by decide) (by decide) rfl ?_
        refine mv_goto (pc := 41) (tgt := 7) B d_Book_read_0_41 rfl ?_
        refine mv_lpick [1, 2, 3, 0] rfl ?_
        exact ih7 _ _ _ _ r_hz hf
      have hf : fF_Book_read_0_7 74 (f_Book_read_0_7 74 nn7) x1 x2 x3 hz = some (rv, rg) := hf
      unfold fF_Book_read_0_7 at hf
      refine mv_iload_n (pc := 7) B d_Book_read_0_7 rfl 3 rfl ?_
      refine mv_if_lt (pc := 8) (tgt := 44) B d_Book_read_0_8 rfl (fun h8 => ?_) (fun h8 => ?_)
      · skip
        have hf := xif_t h8 hf
        refine mv_aload_n (pc := 44) B d_Book_read_0_44 rfl 0 rfl ?_
        refine mv_getR (pc := 45) (ci := 12) (C := R_Book) (T := F_Book) (N := 65) B 15 rfl rfl (by decide) i_Book (B.2.2.2.1 _ k_1858) rfl ((congrFun (congrFun r_hz 74) 15).trans (hb 74 15 _ rfl)) d_Book_read_0_45 ?_
        refine mv_iload_n (pc := 48) B d_Book_read_0_48 rfl 1 rfl ?_
        obtain ⟨q1, hf⟩ := xvi_e hf
        refine mv_zald (pc := 49) B rfl q1 d_Book_read_0_49 ?_
        refine mv_if_eq (pc := 50) (tgt := 69) B d_Book_read_0_50 rfl (fun h50 => ?_) (fun h50 => ?_)
        · skip
          have hf := xif_t h50 hf
          refine mv_aload_n (pc := 69) B d_Book_read_0_69 rfl 0 rfl ?_
          refine mv_getR (pc := 70) (ci := 12) (C := R_Book) (T := F_Book) (N := 65) B 55 rfl rfl (by decide) i_Book (B.2.2.2.1 _ k_1904) rfl ((congrFun (congrFun r_hz 74) 55).trans (hb 74 55 _ rfl)) d_Book_read_0_70 ?_
          refine mv_iload_n (pc := 73) B d_Book_read_0_73 rfl 1 rfl ?_
          obtain ⟨q2, hf⟩ := xvi_e hf
          refine mv_lald (pc := 74) B rfl q2 d_Book_read_0_74 ?_
          exact mv_lret (pc := 75) B hr d_Book_read_0_75 (Nat.le_refl _) (Nat.le_refl _) ⟨_, rfl, xrh_l hf r_hz⟩
        · skip
          have hf := xif_f h50 hf
          refine mv_aload_n (pc := 53) B d_Book_read_0_53 rfl 0 rfl ?_
          refine mv_getR (pc := 54) (ci := 12) (C := R_Book) (T := F_Book) (N := 65) B 56 rfl rfl (by decide) i_Book (B.2.2.2.1 _ k_1905) rfl ((congrFun (congrFun r_hz 74) 56).trans (hb 74 56 _ rfl)) d_Book_read_0_54 ?_
          refine mv_aload_n (pc := 57) B d_Book_read_0_57 rfl 0 rfl ?_
          refine mv_getR (pc := 58) (ci := 12) (C := R_Book) (T := F_Book) (N := 65) B 14 rfl rfl (by decide) i_Book (B.2.2.2.1 _ k_1857) rfl ((congrFun (congrFun r_hz 74) 14).trans (hb 74 14 _ rfl)) d_Book_read_0_58 ?_
          refine mv_iload_n (pc := 61) B d_Book_read_0_61 rfl 1 rfl ?_
          obtain ⟨q3, hf⟩ := xvi_e hf
          refine mv_iald (pc := 62) B rfl q3 d_Book_read_0_62 ?_
          refine mv_iload_n (pc := 63) B d_Book_read_0_63 rfl 2 rfl ?_
          refine mv_iadd (pc := 64) B d_Book_read_0_64 ?_
          obtain ⟨q4, hf⟩ := xvi_e hf
          refine mv_lald (pc := 65) B rfl q4 d_Book_read_0_65 ?_
          refine mv_goto (pc := 66) (tgt := 75) B d_Book_read_0_66 rfl ?_
          exact mv_lret (pc := 75) B hr d_Book_read_0_75 (Nat.le_refl _) (Nat.le_refl _) ⟨_, rfl, xrh_l hf r_hz⟩
      · skip
        have hf := xif_f h8 hf
        refine mv_aload_n (pc := 11) B d_Book_read_0_11 rfl 0 rfl ?_
        refine mv_getR (pc := 12) (ci := 12) (C := R_Book) (T := F_Book) (N := 65) B 57 rfl rfl (by decide) i_Book (B.2.2.2.1 _ k_1906) rfl ((congrFun (congrFun r_hz 74) 57).trans (hb 74 57 _ rfl)) d_Book_read_0_12 ?_
        refine mv_iload_n (pc := 15) B d_Book_read_0_15 rfl 3 rfl ?_
        obtain ⟨q5, hf⟩ := xvi_e hf
        refine mv_iald (pc := 16) B rfl q5 d_Book_read_0_16 ?_
        refine mv_iload_n (pc := 17) B d_Book_read_0_17 rfl 1 rfl ?_
        refine mv_icmp_ne (pc := 18) (tgt := 38) B d_Book_read_0_18 rfl (fun h18 => ?_) (fun h18 => ?_)
        · skip
          have hf := xif_f h18 hf
          refine mv_lpick [0, 1, 2, 3] rfl ?_
          exact jn38 _ _ _ _ r_hz hf
        · skip
          have hf := xif_t h18 hf
          refine mv_aload_n (pc := 21) B d_Book_read_0_21 rfl 0 rfl ?_
          refine mv_getR (pc := 22) (ci := 12) (C := R_Book) (T := F_Book) (N := 65) B 58 rfl rfl (by decide) i_Book (B.2.2.2.1 _ k_1907) rfl ((congrFun (congrFun r_hz 74) 58).trans (hb 74 58 _ rfl)) d_Book_read_0_22 ?_
          refine mv_iload_n (pc := 25) B d_Book_read_0_25 rfl 3 rfl ?_
          obtain ⟨q6, hf⟩ := xvi_e hf
          refine mv_iald (pc := 26) B rfl q6 d_Book_read_0_26 ?_
          refine mv_iload_n (pc := 27) B d_Book_read_0_27 rfl 2 rfl ?_
          refine mv_icmp_ne (pc := 28) (tgt := 38) B d_Book_read_0_28 rfl (fun h28 => ?_) (fun h28 => ?_)
          · skip
            have hf := xif_f h28 hf
            refine mv_lpick [0, 1, 2, 3] rfl ?_
            exact jn38 _ _ _ _ r_hz hf
          · skip
            have hf := xif_t h28 hf
            refine mv_aload_n (pc := 31) B d_Book_read_0_31 rfl 0 rfl ?_
            refine mv_getR (pc := 32) (ci := 12) (C := R_Book) (T := F_Book) (N := 65) B 60 rfl rfl (by decide) i_Book (B.2.2.2.1 _ k_1909) rfl ((congrFun (congrFun r_hz 74) 60).trans (hb 74 60 _ rfl)) d_Book_read_0_32 ?_
            refine mv_iload_n (pc := 35) B d_Book_read_0_35 rfl 3 rfl ?_
            obtain ⟨q7, hf⟩ := xvi_e hf
            refine mv_lald (pc := 36) B rfl q7 d_Book_read_0_36 ?_
            exact mv_lret (pc := 37) B hr d_Book_read_0_37 (Nat.le_refl _) (Nat.le_refl _) ⟨_, rfl, xrh_l hf r_hz⟩
  unfold f_Book_read_0 at hf
  refine mv_aload_n (pc := 0) B d_Book_read_0_0 rfl 0 rfl ?_
  refine mv_getI (pc := 1) (ci := 12) (C := R_Book) (T := F_Book) (N := 65) B 61 rfl rfl (by decide) i_Book (B.2.2.2.1 _ k_1910) rfl d_Book_read_0_1 ?_
  refine mv_iconst (pc := 4) (v := 1) B d_Book_read_0_4 (by decide) ?_
  refine mv_isub (pc := 5) B d_Book_read_0_5 ?_
  refine mv_istore_n (pc := 6) B d_Book_read_0_6 rfl (by decide) rfl ?_
  refine mv_lpick [1, 2, 3, 0] rfl ?_
  exact lp7 _ _ _ _ _ rfl hf
set_option maxHeartbeats 4000000 in
set_option maxRecDepth 100000 in
theorem ch_Book_read_0_y (l : Launch) {dA : FieldType → ClassId} {D : va_G} {al : Nat → Nat} {ext : mv_Sh} {sk sv : Nat → Nat} (hi : mv_inj (mg dA D al ext)) (h : mv_H) (hb : mh (mv_r h))  (a0 : Int32) (a1 : Int32) {rv : Int64} {rg : mv_H} (hf : f_Book_read_0 108 h a0 a1 = some (rv, rg)) : mv_C l y_Book_read_0 (Cond.code y_Book_read_0 b_Book_read_0 4 (Option.some Jvm.ClassFile.FieldType.long) :: ma) ({ frames := 0, cells := 0, slots := 0, locals := 0 }) (mg dA D al ext) (mK sk sv) [.ref (al 108), .int a0, .int a1] h (mv_Rl (fun v σ1 => rv = v ∧ rg = σ1 ∧ mv_r σ1 = mv_r h)) := by
  refine mv_C.ofV (cc := b_Book_read_0) (nL := 4) (ret := (Option.some Jvm.ClassFile.FieldType.long)) (by decide +kernel) rfl hi (Nat.le_of_ble_eq_true rfl) ?_
  intro p e s m below meth c B hNs hr hnm hno
  have lp7 : ∀ (nn7 : Nat) (x1 : Int32) (x2 : Int32) (x3 : Int32) (hz : mv_H), mv_r hz = mv_r h → f_Book_read_0_7 108 nn7 x1 x2 x3 hz = some (rv, rg) → mv_V p l e ({ frames := 0, cells := 0, slots := 0, locals := 0 }) s m ([.ref (al 108), .int a0, .int a1] : List Value).toArray below meth c (mg dA D al ext) 4 0 0 (mv_Q (mg dA D al ext) below s 0 0 (mv_Rl (fun v σ1 => rv = v ∧ rg = σ1 ∧ mv_r σ1 = mv_r h))) hz 7 [(0, .ref (al 108)), (1, .int x1), (2, .int x2), (3, .int x3)] [] := by
    intro nn7
    induction nn7 with
    | zero => intro x1 x2 x3 hz r_hz hf; cases hf
    | succ nn7 ih7 =>
      intro x1 x2 x3 hz r_hz hf
      have jn38 : ∀ (x1 : Int32) (x2 : Int32) (x3 : Int32) (hz : mv_H), mv_r hz = mv_r h → f_Book_read_0_38 108 (f_Book_read_0_7 108 nn7) x1 x2 x3 hz = some (rv, rg) → mv_V p l e ({ frames := 0, cells := 0, slots := 0, locals := 0 }) s m ([.ref (al 108), .int a0, .int a1] : List Value).toArray below meth c (mg dA D al ext) 4 0 0 (mv_Q (mg dA D al ext) below s 0 0 (mv_Rl (fun v σ1 => rv = v ∧ rg = σ1 ∧ mv_r σ1 = mv_r h))) hz 38 [(0, .ref (al 108)), (1, .int x1), (2, .int x2), (3, .int x3)] [] := by
        intro x1 x2 x3 hz r_hz hf
        unfold f_Book_read_0_38 at hf
        refine mv_iinc (pc := 38) (j := 3) (v := -1) B d_Book_read_0_38 rfl (by decide) (by decide) rfl ?_
        refine mv_goto (pc := 41) (tgt := 7) B d_Book_read_0_41 rfl ?_
        refine mv_lpick [1, 2, 3, 0] rfl ?_
        exact ih7 _ _ _ _ r_hz hf
      have hf : fF_Book_read_0_7 108 (f_Book_read_0_7 108 nn7) x1 x2 x3 hz = some (rv, rg) := hf
      unfold fF_Book_read_0_7 at hf
      refine mv_iload_n (pc := 7) B d_Book_read_0_7 rfl 3 rfl ?_
      refine mv_if_lt (pc := 8) (tgt := 44) B d_Book_read_0_8 rfl (fun h8 => ?_) (fun h8 => ?_)
      · skip
        have hf := xif_t h8 hf
        refine mv_aload_n (pc := 44) B d_Book_read_0_44 rfl 0 rfl ?_
        refine mv_getR (pc := 45) (ci := 12) (C := R_Book) (T := F_Book) (N := 65) B 15 rfl rfl (by decide) i_Book (B.2.2.2.1 _ k_1858) rfl ((congrFun (congrFun r_hz 108) 15).trans (hb 108 15 _ rfl)) d_Book_read_0_45 ?_
        refine mv_iload_n (pc := 48) B d_Book_read_0_48 rfl 1 rfl ?_
        obtain ⟨q1, hf⟩ := xvi_e hf
        refine mv_zald (pc := 49) B rfl q1 d_Book_read_0_49 ?_
        refine mv_if_eq (pc := 50) (tgt := 69) B d_Book_read_0_50 rfl (fun h50 => ?_) (fun h50 => ?_)
        · skip
          have hf := xif_t h50 hf
          refine mv_aload_n (pc := 69) B d_Book_read_0_69 rfl 0 rfl ?_
          refine mv_getR (pc := 70) (ci := 12) (C := R_Book) (T := F_Book) (N := 65) B 55 rfl rfl (by decide) i_Book (B.2.2.2.1 _ k_1904) rfl ((congrFun (congrFun r_hz 108) 55).trans (hb 108 55 _ rfl)) d_Book_read_0_70 ?_
          refine mv_iload_n (pc := 73) B d_Book_read_0_73 rfl 1 rfl ?_
          obtain ⟨q2, hf⟩ := xvi_e hf
          refine mv_lald (pc := 74) B rfl q2 d_Book_read_0_74 ?_
          exact mv_lret (pc := 75) B hr d_Book_read_0_75 (Nat.le_refl _) (Nat.le_refl _) ⟨_, rfl, xrh_l hf r_hz⟩
        · skip
          have hf := xif_f h50 hf
          refine mv_aload_n (pc := 53) B d_Book_read_0_53 rfl 0 rfl ?_
          refine mv_getR (pc := 54) (ci := 12) (C := R_Book) (T := F_Book) (N := 65) B 56 rfl rfl (by decide) i_Book (B.2.2.2.1 _ k_1905) rfl ((congrFun (congrFun r_hz 108) 56).trans (hb 108 56 _ rfl)) d_Book_read_0_54 ?_
          refine mv_aload_n (pc := 57) B d_Book_read_0_57 rfl 0 rfl ?_
          refine mv_getR (pc := 58) (ci := 12) (C := R_Book) (T := F_Book) (N := 65) B 14 rfl rfl (by decide) i_Book (B.2.2.2.1 _ k_1857) rfl ((congrFun (congrFun r_hz 108) 14).trans (hb 108 14 _ rfl)) d_Book_read_0_58 ?_
          refine mv_iload_n (pc := 61) B d_Book_read_0_61 rfl 1 rfl ?_
          obtain ⟨q3, hf⟩ := xvi_e hf
          refine mv_iald (pc := 62) B rfl q3 d_Book_read_0_62 ?_
          refine mv_iload_n (pc := 63) B d_Book_read_0_63 rfl 2 rfl ?_
          refine mv_iadd (pc := 64) B d_Book_read_0_64 ?_
          obtain ⟨q4, hf⟩ := xvi_e hf
          refine mv_lald (pc := 65) B rfl q4 d_Book_read_0_65 ?_
          refine mv_goto (pc := 66) (tgt := 75) B d_Book_read_0_66 rfl ?_
          exact mv_lret (pc := 75) B hr d_Book_read_0_75 (Nat.le_refl _) (Nat.le_refl _) ⟨_, rfl, xrh_l hf r_hz⟩
      · skip
        have hf := xif_f h8 hf
        refine mv_aload_n (pc := 11) B d_Book_read_0_11 rfl 0 rfl ?_
        refine mv_getR (pc := 12) (ci := 12) (C := R_Book) (T := F_Book) (N := 65) B 57 rfl rfl (by decide) i_Book (B.2.2.2.1 _ k_1906) rfl ((congrFun (congrFun r_hz 108) 57).trans (hb 108 57 _ rfl)) d_Book_read_0_12 ?_
        refine mv_iload_n (pc := 15) B d_Book_read_0_15 rfl 3 rfl ?_
        obtain ⟨q5, hf⟩ := xvi_e hf
        refine mv_iald (pc := 16) B rfl q5 d_Book_read_0_16 ?_
        refine mv_iload_n (pc := 17) B d_Book_read_0_17 rfl 1 rfl ?_
        refine mv_icmp_ne (pc := 18) (tgt := 38) B d_Book_read_0_18 rfl (fun h18 => ?_) (fun h18 => ?_)
        · skip
          have hf := xif_f h18 hf
          refine mv_lpick [0, 1, 2, 3] rfl ?_
          exact jn38 _ _ _ _ r_hz hf
        · skip
          have hf := xif_t h18 hf
          refine mv_aload_n (pc := 21) B d_Book_read_0_21 rfl 0 rfl ?_
          refine mv_getR (pc := 22) (ci := 12) (C := R_Book) (T := F_Book) (N := 65) B 58 rfl rfl (by decide) i_Book (B.2.2.2.1 _ k_1907) rfl ((congrFun (congrFun r_hz 108) 58).trans (hb 108 58 _ rfl)) d_Book_read_0_22 ?_
          refine mv_iload_n (pc := 25) B d_Book_read_0_25 rfl 3 rfl ?_
          obtain ⟨q6, hf⟩ := xvi_e hf
          refine mv_iald (pc := 26) B rfl q6 d_Book_read_0_26 ?_
          refine mv_iload_n (pc := 27) B d_Book_read_0_27 rfl 2 rfl ?_
          refine mv_icmp_ne (pc := 28) (tgt := 38) B d_Book_read_0_28 rfl (fun h28 => ?_) (fun h28 => ?_)
          · skip
            have hf := xif_f h28 hf
            refine mv_lpick [0, 1, 2, 3] rfl ?_
            exact jn38 _ _ _ _ r_hz hf
          · skip
            have hf := xif_t h28 hf
            refine mv_aload_n (pc := 31) B d_Book_read_0_31 rfl 0 rfl ?_
            refine mv_getR (pc := 32) (ci := 12) (C := R_Book) (T := F_Book) (N := 65) B 60 rfl rfl (by decide) i_Book (B.2.2.2.1 _ k_1909) rfl ((congrFun (congrFun r_hz 108) 60).trans (hb 108 60 _ rfl)) d_Book_read_0_32 ?_
            refine mv_iload_n (pc := 35) B d_Book_read_0_35 rfl 3 rfl ?_
            obtain ⟨q7, hf⟩ := xvi_e hf
            refine mv_lald (pc := 36) B rfl q7 d_Book_read_0_36 ?_
            exact mv_lret (pc := 37) B hr d_Book_read_0_37 (Nat.le_refl _) (Nat.le_refl _) ⟨_, rfl, xrh_l hf r_hz⟩
  unfold f_Book_read_0 at hf
  refine mv_aload_n (pc := 0) B d_Book_read_0_0 rfl 0 rfl ?_
  refine mv_getI (pc := 1) (ci := 12) (C := R_Book) (T := F_Book) (N := 65) B 61 rfl rfl (by decide) i_Book (B.2.2.2.1 _ k_1910) rfl d_Book_read_0_1 ?_
  refine mv_iconst (pc := 4) (v := 1) B d_Book_read_0_4 (by decide) ?_
  refine mv_isub (pc := 5) B d_Book_read_0_5 ?_
  refine mv_istore_n (pc := 6) B d_Book_read_0_6 rfl (by decide) rfl ?_
  refine mv_lpick [1, 2, 3, 0] rfl ?_
  exact lp7 _ _ _ _ _ rfl hf
def f_Book_write_14 (P : Nat) (x1 : Int32) (x2 : Int32) (x3 : Int64) (hz : mv_H) : Option mv_H := bif xvi (mv_i hz P 61) 12000 then xk (mv_sa hz (P + 29) ((mv_i hz P 61)).toNatClampNeg x1) fun g2 => bif xvi (mv_i g2 P 61) 12000 then xk (mv_sa g2 (P + 30) ((mv_i g2 P 61)).toNatClampNeg x2) fun g4 => bif xvi x1 4100 then xhb (f_Book_cut g4 x3 (mv_a g4 (P + 3) (x1).toNatClampNeg)) fun u7 g6 => bif xvi (mv_i g4 P 61) 12000 then xk (mv_sb g6 (P + 32) ((mv_i g4 P 61)).toNatClampNeg u7) fun g9 => xk (mv_si g9 P 61 ((mv_i g9 P 61) + (1 : Int32))) fun g10 => some g10 else none else none else none else none
def f_Book_write (P : Nat) (h : mv_H) (a0 : Int32) (a1 : Int32) (a2 : Int64) : Option mv_H := bif xvi a0 4100 then if (mv_a h (P + 7) (a0).toNatClampNeg) = (0 : Int32) then (f_Book_write_14 P a0 a1 a2 h) else (if a1 = (0 : Int32) then (some h) else (f_Book_write_14 P a0 a1 a2 h)) else none
set_option maxHeartbeats 4000000 in
set_option maxRecDepth 100000 in
theorem ch_Book_write_x (l : Launch) {dA : FieldType → ClassId} {D : va_G} {al : Nat → Nat} {ext : mv_Sh} {sk sv : Nat → Nat} (hi : mv_inj (mg dA D al ext)) (h : mv_H) (hb : mh (mv_r h))  (a0 : Int32) (a1 : Int32) (a2 : Int64) {rg : mv_H} (hf : f_Book_write 74 h a0 a1 a2 = some rg) : mv_C l y_Book_write (Cond.code y_Book_write b_Book_write 5 (Option.none : Option Jvm.ClassFile.FieldType) :: ma) ({ frames := 1, cells := 0, slots := 0, locals := 22 }) (mg dA D al ext) (mK sk sv) [.ref (al 74), .int a0, .int a1, .long a2] h (mv_Rv (fun σ1 => rg = σ1 ∧ mv_r σ1 = mv_r h)) := by
  refine mv_C.ofV (cc := b_Book_write) (nL := 5) (ret := (Option.none : Option Jvm.ClassFile.FieldType)) (by decide +kernel) rfl hi (Nat.le_of_ble_eq_true rfl) ?_
  intro p e s m below meth c B hNs hr hnm hno
  have jn14 : ∀ (x1 : Int32) (x2 : Int32) (x3 : Int64) (hz : mv_H), mv_r hz = mv_r h → f_Book_write_14 74 x1 x2 x3 hz = some rg → mv_V p l e ({ frames := 1, cells := 0, slots := 0, locals := 22 }) s m ([.ref (al 74), .int a0, .int a1, .long a2] : List Value).toArray below meth c (mg dA D al ext) 5 0 0 (mv_Q (mg dA D al ext) below s 0 0 (mv_Rv (fun σ1 => rg = σ1 ∧ mv_r σ1 = mv_r h))) hz 14 [(0, .ref (al 74)), (1, .int x1), (2, .int x2), (3, .long x3)] [] := by
    intro x1 x2 x3 hz r_hz hf
    unfold f_Book_write_14 at hf
    refine mv_aload_n (pc := 14) B d_Book_write_14 rfl 0 rfl ?_
    refine mv_getR (pc := 15) (ci := 12) (C := R_Book) (T := F_Book) (N := 65) B 57 rfl rfl (by decide) i_Book (B.2.2.2.1 _ k_1906) rfl ((congrFun (congrFun r_hz 74) 57).trans (hb 74 57 _ rfl)) d_Book_write_15 ?_
    refine mv_aload_n (pc := 18) B d_Book_write_18 rfl 0 rfl ?_
    refine mv_getI (pc := 19) (ci := 12) (C := R_Book) (T := F_Book) (N := 65) B 61 rfl rfl (by decide) i_Book (B.2.2.2.1 _ k_1910) rfl d_Book_write_19 ?_
    refine mv_iload_n (pc := 22) B d_Book_write_22 rfl 1 rfl ?_
    obtain ⟨q1, hf⟩ := xvi_e hf
    refine mv_iast (pc := 23) B rfl q1 d_Book_write_23 ?_
    refine mvh_hp (R9 := mv_r h) hf r_hz (fun g2 hf r_g2 => ?_)
    refine mv_aload_n (pc := 24) B d_Book_write_24 rfl 0 rfl ?_
    refine mv_getR (pc := 25) (ci := 12) (C := R_Book) (T := F_Book) (N := 65) B 58 rfl rfl (by decide) i_Book (B.2.2.2.1 _ k_1907) rfl ((congrFun (congrFun r_g2 74) 58).trans (hb 74 58 _ rfl)) d_Book_write_25 ?_
    refine mv_aload_n (pc := 28) B d_Book_write_28 rfl 0 rfl ?_
    refine mv_getI (pc := 29) (ci := 12) (C := R_Book) (T := F_Book) (N := 65) B 61 rfl rfl (by decide) i_Book (B.2.2.2.1 _ k_1910) rfl d_Book_write_29 ?_
    refine mv_iload_n (pc := 32) B d_Book_write_32 rfl 2 rfl ?_
    obtain ⟨q3, hf⟩ := xvi_e hf
    refine mv_iast (pc := 33) B rfl q3 d_Book_write_33 ?_
    refine mvh_hp (R9 := mv_r h) hf r_g2 (fun g4 hf r_g4 => ?_)
    refine mv_aload_n (pc := 34) B d_Book_write_34 rfl 0 rfl ?_
    refine mv_getR (pc := 35) (ci := 12) (C := R_Book) (T := F_Book) (N := 65) B 60 rfl rfl (by decide) i_Book (B.2.2.2.1 _ k_1909) rfl ((congrFun (congrFun r_g4 74) 60).trans (hb 74 60 _ rfl)) d_Book_write_35 ?_
    refine mv_aload_n (pc := 38) B d_Book_write_38 rfl 0 rfl ?_
    refine mv_getI (pc := 39) (ci := 12) (C := R_Book) (T := F_Book) (N := 65) B 61 rfl rfl (by decide) i_Book (B.2.2.2.1 _ k_1910) rfl d_Book_write_39 ?_
    refine mv_lload_n (pc := 42) B d_Book_write_42 rfl 3 rfl ?_
    refine mv_aload_n (pc := 43) B d_Book_write_43 rfl 0 rfl ?_
    refine mv_getR (pc := 44) (ci := 12) (C := R_Book) (T := F_Book) (N := 65) B 12 rfl rfl (by decide) i_Book (B.2.2.2.1 _ k_1855) rfl ((congrFun (congrFun r_g4 74) 12).trans (hb 74 12 _ rfl)) d_Book_write_44 ?_
    refine mv_iload_n (pc := 47) B d_Book_write_47 rfl 1 rfl ?_
    obtain ⟨q5, hf⟩ := xvi_e hf
    refine mv_iald (pc := 48) B rfl q5 d_Book_write_48 ?_
    obtain ⟨u7, g6, eg6, hf⟩ := xhb_e hf
    refine mv_callSl (pc := 49) (n := 2) B (mK_ok sk sv) hNs (ch_Book_cut l hi _ _ _ eg6) rfl (ma_goodc kc_Book_cut) (B.2.2.2.1 _ k_2427) (B.2.2.2.1 _ k_2428) (B.2.2.2.1 _ k_13) ⟨by decide +kernel, by decide +kernel, by decide +kernel⟩ rfl d_Book_write_49 rfl (Nat.le_of_ble_eq_true rfl) ⟨by first | decide | (dsimp only; omega), by first | decide | (dsimp only; omega)⟩ ⟨Nat.le_refl _, Nat.le_refl _⟩ ⟨Nat.le_refl _, Nat.le_refl _⟩ (mv_noH hno _) (fun w49 σ49 h49 => ?_)
    obtain ⟨rfl, rfl, s_g6⟩ := h49
    have r_g6 : mv_r g6 = mv_r h := s_g6.trans r_g4
    obtain ⟨q8, hf⟩ := xvi_e hf
    refine mv_last (pc := 52) B rfl q8 d_Book_write_52 ?_
    refine mvh_hp (R9 := mv_r h) hf r_g6 (fun g9 hf r_g9 => ?_)
    refine mv_aload_n (pc := 53) B d_Book_write_53 rfl 0 rfl ?_
    refine mv_dup (pc := 54) B d_Book_write_54 rfl ?_
    refine mv_getI (pc := 55) (ci := 12) (C := R_Book) (T := F_Book) (N := 65) B 61 rfl rfl (by decide) i_Book (B.2.2.2.1 _ k_1910) rfl d_Book_write_55 ?_
    refine mv_iconst (pc := 58) (v := 1) B d_Book_write_58 (by decide) ?_
    refine mv_iadd (pc := 59) B d_Book_write_59 ?_
    refine mv_putI (pc := 60) (ci := 12) (C := R_Book) (T := F_Book) (N := 65) B 61 rfl rfl (by decide) i_Book t_Book_ok n_Book (B.2.2.2.1 _ k_1910) rfl rfl rfl rfl d_Book_write_60 ?_
    refine mvh_hp (R9 := mv_r h) hf r_g9 (fun g10 hf r_g10 => ?_)
    exact mv_vret (pc := 63) B hr d_Book_write_63 (Nat.le_refl _) (Nat.le_refl _) ⟨rfl, xrh_v hf r_g10⟩
  unfold f_Book_write at hf
  refine mv_aload_n (pc := 0) B d_Book_write_0 rfl 0 rfl ?_
  refine mv_getR (pc := 1) (ci := 12) (C := R_Book) (T := F_Book) (N := 65) B 16 rfl rfl (by decide) i_Book (B.2.2.2.1 _ k_1859) rfl (hb 74 16 _ rfl) d_Book_write_1 ?_
  refine mv_iload_n (pc := 4) B d_Book_write_4 rfl 1 rfl ?_
  obtain ⟨q11, hf⟩ := xvi_e hf
  refine mv_zald (pc := 5) B rfl q11 d_Book_write_5 ?_
  refine mv_if_eq (pc := 6) (tgt := 14) B d_Book_write_6 rfl (fun h6 => ?_) (fun h6 => ?_)
  · skip
    have hf := xif_t h6 hf
    refine mv_lpick [0, 1, 2, 3] rfl ?_
    exact jn14 _ _ _ _ rfl hf
  · skip
    have hf := xif_f h6 hf
    refine mv_iload_n (pc := 9) B d_Book_write_9 rfl 2 rfl ?_
    refine mv_if_ne (pc := 10) (tgt := 14) B d_Book_write_10 rfl (fun h10 => ?_) (fun h10 => ?_)
    · skip
      have hf := xif_f h10 hf
      refine mv_lpick [0, 1, 2, 3] rfl ?_
      exact jn14 _ _ _ _ rfl hf
    · skip
      have hf := xif_t h10 hf
      exact mv_vret (pc := 13) B hr d_Book_write_13 (Nat.le_refl _) (Nat.le_refl _) ⟨rfl, xrh_v hf rfl⟩
set_option maxHeartbeats 4000000 in
set_option maxRecDepth 100000 in
theorem ch_Book_write_y (l : Launch) {dA : FieldType → ClassId} {D : va_G} {al : Nat → Nat} {ext : mv_Sh} {sk sv : Nat → Nat} (hi : mv_inj (mg dA D al ext)) (h : mv_H) (hb : mh (mv_r h))  (a0 : Int32) (a1 : Int32) (a2 : Int64) {rg : mv_H} (hf : f_Book_write 108 h a0 a1 a2 = some rg) : mv_C l y_Book_write (Cond.code y_Book_write b_Book_write 5 (Option.none : Option Jvm.ClassFile.FieldType) :: ma) ({ frames := 1, cells := 0, slots := 0, locals := 22 }) (mg dA D al ext) (mK sk sv) [.ref (al 108), .int a0, .int a1, .long a2] h (mv_Rv (fun σ1 => rg = σ1 ∧ mv_r σ1 = mv_r h)) := by
  refine mv_C.ofV (cc := b_Book_write) (nL := 5) (ret := (Option.none : Option Jvm.ClassFile.FieldType)) (by decide +kernel) rfl hi (Nat.le_of_ble_eq_true rfl) ?_
  intro p e s m below meth c B hNs hr hnm hno
  have jn14 : ∀ (x1 : Int32) (x2 : Int32) (x3 : Int64) (hz : mv_H), mv_r hz = mv_r h → f_Book_write_14 108 x1 x2 x3 hz = some rg → mv_V p l e ({ frames := 1, cells := 0, slots := 0, locals := 22 }) s m ([.ref (al 108), .int a0, .int a1, .long a2] : List Value).toArray below meth c (mg dA D al ext) 5 0 0 (mv_Q (mg dA D al ext) below s 0 0 (mv_Rv (fun σ1 => rg = σ1 ∧ mv_r σ1 = mv_r h))) hz 14 [(0, .ref (al 108)), (1, .int x1), (2, .int x2), (3, .long x3)] [] := by
    intro x1 x2 x3 hz r_hz hf
    unfold f_Book_write_14 at hf
    refine mv_aload_n (pc := 14) B d_Book_write_14 rfl 0 rfl ?_
    refine mv_getR (pc := 15) (ci := 12) (C := R_Book) (T := F_Book) (N := 65) B 57 rfl rfl (by decide) i_Book (B.2.2.2.1 _ k_1906) rfl ((congrFun (congrFun r_hz 108) 57).trans (hb 108 57 _ rfl)) d_Book_write_15 ?_
    refine mv_aload_n (pc := 18) B d_Book_write_18 rfl 0 rfl ?_
    refine mv_getI (pc := 19) (ci := 12) (C := R_Book) (T := F_Book) (N := 65) B 61 rfl rfl (by decide) i_Book (B.2.2.2.1 _ k_1910) rfl d_Book_write_19 ?_
    refine mv_iload_n (pc := 22) B d_Book_write_22 rfl 1 rfl ?_
    obtain ⟨q1, hf⟩ := xvi_e hf
    refine mv_iast (pc := 23) B rfl q1 d_Book_write_23 ?_
    refine mvh_hp (R9 := mv_r h) hf r_hz (fun g2 hf r_g2 => ?_)
    refine mv_aload_n (pc := 24) B d_Book_write_24 rfl 0 rfl ?_
    refine mv_getR (pc := 25) (ci := 12) (C := R_Book) (T := F_Book) (N := 65) B 58 rfl rfl (by decide) i_Book (B.2.2.2.1 _ k_1907) rfl ((congrFun (congrFun r_g2 108) 58).trans (hb 108 58 _ rfl)) d_Book_write_25 ?_
    refine mv_aload_n (pc := 28) B d_Book_write_28 rfl 0 rfl ?_
    refine mv_getI (pc := 29) (ci := 12) (C := R_Book) (T := F_Book) (N := 65) B 61 rfl rfl (by decide) i_Book (B.2.2.2.1 _ k_1910) rfl d_Book_write_29 ?_
    refine mv_iload_n (pc := 32) B d_Book_write_32 rfl 2 rfl ?_
    obtain ⟨q3, hf⟩ := xvi_e hf
    refine mv_iast (pc := 33) B rfl q3 d_Book_write_33 ?_
    refine mvh_hp (R9 := mv_r h) hf r_g2 (fun g4 hf r_g4 => ?_)
    refine mv_aload_n (pc := 34) B d_Book_write_34 rfl 0 rfl ?_
    refine mv_getR (pc := 35) (ci := 12) (C := R_Book) (T := F_Book) (N := 65) B 60 rfl rfl (by decide) i_Book (B.2.2.2.1 _ k_1909) rfl ((congrFun (congrFun r_g4 108) 60).trans (hb 108 60 _ rfl)) d_Book_write_35 ?_
    refine mv_aload_n (pc := 38) B d_Book_write_38 rfl 0 rfl ?_
    refine mv_getI (pc := 39) (ci := 12) (C := R_Book) (T := F_Book) (N := 65) B 61 rfl rfl (by decide) i_Book (B.2.2.2.1 _ k_1910) rfl d_Book_write_39 ?_
    refine mv_lload_n (pc := 42) B d_Book_write_42 rfl 3 rfl ?_
    refine mv_aload_n (pc := 43) B d_Book_write_43 rfl 0 rfl ?_
    refine mv_getR (pc := 44) (ci := 12) (C := R_Book) (T := F_Book) (N := 65) B 12 rfl rfl (by decide) i_Book (B.2.2.2.1 _ k_1855) rfl ((congrFun (congrFun r_g4 108) 12).trans (hb 108 12 _ rfl)) d_Book_write_44 ?_
    refine mv_iload_n (pc := 47) B d_Book_write_47 rfl 1 rfl ?_
    obtain ⟨q5, hf⟩ := xvi_e hf
    refine mv_iald (pc := 48) B rfl q5 d_Book_write_48 ?_
    obtain ⟨u7, g6, eg6, hf⟩ := xhb_e hf
    refine mv_callSl (pc := 49) (n := 2) B (mK_ok sk sv) hNs (ch_Book_cut l hi _ _ _ eg6) rfl (ma_goodc kc_Book_cut) (B.2.2.2.1 _ k_2427) (B.2.2.2.1 _ k_2428) (B.2.2.2.1 _ k_13) ⟨by decide +kernel, by decide +kernel, by decide +kernel⟩ rfl d_Book_write_49 rfl (Nat.le_of_ble_eq_true rfl) ⟨by first | decide | (dsimp only; omega), by first | decide | (dsimp only; omega)⟩ ⟨Nat.le_refl _, Nat.le_refl _⟩ ⟨Nat.le_refl _, Nat.le_refl _⟩ (mv_noH hno _) (fun w49 σ49 h49 => ?_)
    obtain ⟨rfl, rfl, s_g6⟩ := h49
    have r_g6 : mv_r g6 = mv_r h := s_g6.trans r_g4
    obtain ⟨q8, hf⟩ := xvi_e hf
    refine mv_last (pc := 52) B rfl q8 d_Book_write_52 ?_
    refine mvh_hp (R9 := mv_r h) hf r_g6 (fun g9 hf r_g9 => ?_)
    refine mv_aload_n (pc := 53) B d_Book_write_53 rfl 0 rfl ?_
    refine mv_dup (pc := 54) B d_Book_write_54 rfl ?_
    refine mv_getI (pc := 55) (ci := 12) (C := R_Book) (T := F_Book) (N := 65) B 61 rfl rfl (by decide) i_Book (B.2.2.2.1 _ k_1910) rfl d_Book_write_55 ?_
    refine mv_iconst (pc := 58) (v := 1) B d_Book_write_58 (by decide) ?_
    refine mv_iadd (pc := 59) B d_Book_write_59 ?_
    refine mv_putI (pc := 60) (ci := 12) (C := R_Book) (T := F_Book) (N := 65) B 61 rfl rfl (by decide) i_Book t_Book_ok n_Book (B.2.2.2.1 _ k_1910) rfl rfl rfl rfl d_Book_write_60 ?_
    refine mvh_hp (R9 := mv_r h) hf r_g9 (fun g10 hf r_g10 => ?_)
    exact mv_vret (pc := 63) B hr d_Book_write_63 (Nat.le_refl _) (Nat.le_refl _) ⟨rfl, xrh_v hf r_g10⟩
  unfold f_Book_write at hf
  refine mv_aload_n (pc := 0) B d_Book_write_0 rfl 0 rfl ?_
  refine mv_getR (pc := 1) (ci := 12) (C := R_Book) (T := F_Book) (N := 65) B 16 rfl rfl (by decide) i_Book (B.2.2.2.1 _ k_1859) rfl (hb 108 16 _ rfl) d_Book_write_1 ?_
  refine mv_iload_n (pc := 4) B d_Book_write_4 rfl 1 rfl ?_
  obtain ⟨q11, hf⟩ := xvi_e hf
  refine mv_zald (pc := 5) B rfl q11 d_Book_write_5 ?_
  refine mv_if_eq (pc := 6) (tgt := 14) B d_Book_write_6 rfl (fun h6 => ?_) (fun h6 => ?_)
  · skip
    have hf := xif_t h6 hf
    refine mv_lpick [0, 1, 2, 3] rfl ?_
    exact jn14 _ _ _ _ rfl hf
  · skip
    have hf := xif_f h6 hf
    refine mv_iload_n (pc := 9) B d_Book_write_9 rfl 2 rfl ?_
    refine mv_if_ne (pc := 10) (tgt := 14) B d_Book_write_10 rfl (fun h10 => ?_) (fun h10 => ?_)
    · skip
      have hf := xif_f h10 hf
      refine mv_lpick [0, 1, 2, 3] rfl ?_
      exact jn14 _ _ _ _ rfl hf
    · skip
      have hf := xif_t h10 hf
      exact mv_vret (pc := 13) B hr d_Book_write_13 (Nat.le_refl _) (Nat.le_refl _) ⟨rfl, xrh_v hf rfl⟩
def f_Book_cell_38 (P : Nat) (hz : mv_H) : Option (Int64 × mv_H) := some ((0 : Int64), hz)
def f_Book_cell (P : Nat) (h : mv_H) (a0 : Int32) (a1 : Int64) : Option (Int64 × mv_H) := bif xvi a0 4100 then xhb (f_Model_in h a1 (0 : Int64) ((((mv_a h (P + 4) (a0).toNatClampNeg) - (1 : Int32))).toInt64)) fun u3 g2 => if u3 = (0 : Int32) then (if (mv_i g2 P 53) = (0 : Int32) then (xk (mv_si g2 P 53 (-3 : Int32)) fun g4 => f_Book_cell_38 P  g4) else (f_Book_cell_38 P  g2)) else (xhb (f_Book_read_0 P g2 a0 ((a1).toInt32)) fun u6 g5 => some (u6, g5)) else none
set_option maxHeartbeats 4000000 in
set_option maxRecDepth 100000 in
theorem ch_Book_cell_x (l : Launch) {dA : FieldType → ClassId} {D : va_G} {al : Nat → Nat} {ext : mv_Sh} {sk sv : Nat → Nat} (hi : mv_inj (mg dA D al ext)) (h : mv_H) (hb : mh (mv_r h))  (a0 : Int32) (a1 : Int64) {rv : Int64} {rg : mv_H} (hf : f_Book_cell 74 h a0 a1 = some (rv, rg)) : mv_C l y_Book_cell (Cond.code y_Book_cell b_Book_cell 4 (Option.some Jvm.ClassFile.FieldType.long) :: ma) ({ frames := 1, cells := 0, slots := 0, locals := 25 }) (mg dA D al ext) (mK sk sv) [.ref (al 74), .int a0, .long a1] h (mv_Rl (fun v σ1 => rv = v ∧ rg = σ1 ∧ mv_r σ1 = mv_r h)) := by
  refine mv_C.ofV (cc := b_Book_cell) (nL := 4) (ret := (Option.some Jvm.ClassFile.FieldType.long)) (by decide +kernel) rfl hi (Nat.le_of_ble_eq_true rfl) ?_
  intro p e s m below meth c B hNs hr hnm hno
  have jn38 : ∀ (hz : mv_H), mv_r hz = mv_r h → f_Book_cell_38 74  hz = some (rv, rg) → mv_V p l e ({ frames := 1, cells := 0, slots := 0, locals := 25 }) s m ([.ref (al 74), .int a0, .long a1] : List Value).toArray below meth c (mg dA D al ext) 4 0 0 (mv_Q (mg dA D al ext) below s 0 0 (mv_Rl (fun v σ1 => rv = v ∧ rg = σ1 ∧ mv_r σ1 = mv_r h))) hz 38 [] [] := by
    intro  hz r_hz hf
    unfold f_Book_cell_38 at hf
    refine mv_lconst (pc := 38) (v := 0) B d_Book_cell_38 (by decide) ?_
    exact mv_lret (pc := 39) B hr d_Book_cell_39 (Nat.le_refl _) (Nat.le_refl _) ⟨_, rfl, xrh_l hf r_hz⟩
  unfold f_Book_cell at hf
  refine mv_lload_n (pc := 0) B d_Book_cell_0 rfl 2 rfl ?_
  refine mv_lconst (pc := 1) (v := 0) B d_Book_cell_1 (by decide) ?_
  refine mv_aload_n (pc := 2) B d_Book_cell_2 rfl 0 rfl ?_
  refine mv_getR (pc := 3) (ci := 12) (C := R_Book) (T := F_Book) (N := 65) B 13 rfl rfl (by decide) i_Book (B.2.2.2.1 _ k_1856) rfl (hb 74 13 _ rfl) d_Book_cell_3 ?_
  refine mv_iload_n (pc := 6) B d_Book_cell_6 rfl 1 rfl ?_
  obtain ⟨q1, hf⟩ := xvi_e hf
  refine mv_iald (pc := 7) B rfl q1 d_Book_cell_7 ?_
  refine mv_iconst (pc := 8) (v := 1) B d_Book_cell_8 (by decide) ?_
  refine mv_isub (pc := 9) B d_Book_cell_9 ?_
  refine mv_i2l (pc := 10) B d_Book_cell_10 ?_
  obtain ⟨u3, g2, eg2, hf⟩ := xhb_e hf
  refine mv_callSNi (pc := 11) (n := 3) B (mK_ok sk sv) hNs (ch_Model_in l hi _ _ _ _ eg2) rfl (ma_goodc kc_Model_in) (va_Nw.use rfl (hNs.1 _ (List.mem_of_getElem? (i := 7) rfl))) (B.2.2.2.1 _ k_2208) (B.2.2.2.1 _ k_12) ⟨by decide +kernel, by decide +kernel, by decide +kernel⟩ rfl d_Book_cell_11 rfl (Nat.le_of_ble_eq_true rfl) ⟨by first | decide | (dsimp only; omega), by first | decide | (dsimp only; omega)⟩ ⟨Nat.le_refl _, Nat.le_refl _⟩ ⟨Nat.le_refl _, Nat.le_refl _⟩ (mv_noH hno _) (fun w11 σ11 h11 => ?_)
  obtain ⟨rfl, rfl, s_g2⟩ := h11
  have r_g2 : mv_r g2 = mv_r h := s_g2.trans rfl
  refine mv_if_eq (pc := 14) (tgt := 25) B d_Book_cell_14 rfl (fun h14 => ?_) (fun h14 => ?_)
  · skip
    have hf := xif_t h14 hf
    refine mv_aload_n (pc := 25) B d_Book_cell_25 rfl 0 rfl ?_
    refine mv_getI (pc := 26) (ci := 12) (C := R_Book) (T := F_Book) (N := 65) B 53 rfl rfl (by decide) i_Book (B.2.2.2.1 _ k_1902) rfl d_Book_cell_26 ?_
    refine mv_if_ne (pc := 29) (tgt := 38) B d_Book_cell_29 rfl (fun h29 => ?_) (fun h29 => ?_)
    · skip
      have hf := xif_f h29 hf
      refine mv_lpick [] rfl ?_
      exact jn38  _ r_g2 hf
    · skip
      have hf := xif_t h29 hf
      refine mv_aload_n (pc := 32) B d_Book_cell_32 rfl 0 rfl ?_
      refine mv_bipush (pc := 33) (v := -3) B d_Book_cell_33 (by decide) ?_
      refine mv_putI (pc := 35) (ci := 12) (C := R_Book) (T := F_Book) (N := 65) B 53 rfl rfl (by decide) i_Book t_Book_ok n_Book (B.2.2.2.1 _ k_1902) rfl rfl rfl rfl d_Book_cell_35 ?_
      refine mvh_hp (R9 := mv_r h) hf r_g2 (fun g4 hf r_g4 => ?_)
      refine mv_lpick [] rfl ?_
      exact jn38  _ r_g4 hf
  · skip
    have hf := xif_f h14 hf
    refine mv_aload_n (pc := 17) B d_Book_cell_17 rfl 0 rfl ?_
    refine mv_iload_n (pc := 18) B d_Book_cell_18 rfl 1 rfl ?_
    refine mv_lload_n (pc := 19) B d_Book_cell_19 rfl 2 rfl ?_
    refine mv_l2i (pc := 20) B d_Book_cell_20 ?_
    obtain ⟨u6, g5, eg5, hf⟩ := xhb_e hf
    refine mv_callVl (pc := 21) (n := 2) (ci := 12) (C := R_Book) B (mK_ok sk sv) hNs rfl rfl (ch_Book_read_0_x l hi _ (xrw r_g2 hb) _ _ eg5) rfl (ma_goodc kc_Book_read_0) (B.2.2.2.1 _ k_2508) (B.2.2.2.1 _ k_2510) (B.2.2.2.1 _ ks_133) (B.2.2.2.1 _ k_13) ⟨by decide +kernel, by decide +kernel, by decide +kernel⟩ rfl d_Book_cell_21 rfl (Nat.le_of_ble_eq_true rfl) ⟨by first | decide | (dsimp only; omega), by first | decide | (dsimp only; omega)⟩ ⟨Nat.le_refl _, Nat.le_refl _⟩ ⟨Nat.le_refl _, Nat.le_refl _⟩ (mv_noH hno _) (fun w21 σ21 h21 => ?_)
    obtain ⟨rfl, rfl, s_g5⟩ := h21
    have r_g5 : mv_r g5 = mv_r h := s_g5.trans r_g2
    exact mv_lret (pc := 24) B hr d_Book_cell_24 (Nat.le_refl _) (Nat.le_refl _) ⟨_, rfl, xrh_l hf r_g5⟩
set_option maxHeartbeats 4000000 in
set_option maxRecDepth 100000 in
theorem ch_Book_cell_y (l : Launch) {dA : FieldType → ClassId} {D : va_G} {al : Nat → Nat} {ext : mv_Sh} {sk sv : Nat → Nat} (hi : mv_inj (mg dA D al ext)) (h : mv_H) (hb : mh (mv_r h))  (a0 : Int32) (a1 : Int64) {rv : Int64} {rg : mv_H} (hf : f_Book_cell 108 h a0 a1 = some (rv, rg)) : mv_C l y_Book_cell (Cond.code y_Book_cell b_Book_cell 4 (Option.some Jvm.ClassFile.FieldType.long) :: ma) ({ frames := 1, cells := 0, slots := 0, locals := 25 }) (mg dA D al ext) (mK sk sv) [.ref (al 108), .int a0, .long a1] h (mv_Rl (fun v σ1 => rv = v ∧ rg = σ1 ∧ mv_r σ1 = mv_r h)) := by
  refine mv_C.ofV (cc := b_Book_cell) (nL := 4) (ret := (Option.some Jvm.ClassFile.FieldType.long)) (by decide +kernel) rfl hi (Nat.le_of_ble_eq_true rfl) ?_
  intro p e s m below meth c B hNs hr hnm hno
  have jn38 : ∀ (hz : mv_H), mv_r hz = mv_r h → f_Book_cell_38 108  hz = some (rv, rg) → mv_V p l e ({ frames := 1, cells := 0, slots := 0, locals := 25 }) s m ([.ref (al 108), .int a0, .long a1] : List Value).toArray below meth c (mg dA D al ext) 4 0 0 (mv_Q (mg dA D al ext) below s 0 0 (mv_Rl (fun v σ1 => rv = v ∧ rg = σ1 ∧ mv_r σ1 = mv_r h))) hz 38 [] [] := by
    intro  hz r_hz hf
    unfold f_Book_cell_38 at hf
    refine mv_lconst (pc := 38) (v := 0) B d_Book_cell_38 (by decide) ?_
    exact mv_lret (pc := 39) B hr d_Book_cell_39 (Nat.le_refl _) (Nat.le_refl _) ⟨_, rfl, xrh_l hf r_hz⟩
  unfold f_Book_cell at hf
  refine mv_lload_n (pc := 0) B d_Book_cell_0 rfl 2 rfl ?_
  refine mv_lconst (pc := 1) (v := 0) B d_Book_cell_1 (by decide) ?_
  refine mv_aload_n (pc := 2) B d_Book_cell_2 rfl 0 rfl ?_
  refine mv_getR (pc := 3) (ci := 12) (C := R_Book) (T := F_Book) (N := 65) B 13 rfl rfl (by decide) i_Book (B.2.2.2.1 _ k_1856) rfl (hb 108 13 _ rfl) d_Book_cell_3 ?_
  refine mv_iload_n (pc := 6) B d_Book_cell_6 rfl 1 rfl ?_
  obtain ⟨q1, hf⟩ := xvi_e hf
  refine mv_iald (pc := 7) B rfl q1 d_Book_cell_7 ?_
  refine mv_iconst (pc := 8) (v := 1) B d_Book_cell_8 (by decide) ?_
  refine mv_isub (pc := 9) B d_Book_cell_9 ?_
  refine mv_i2l (pc := 10) B d_Book_cell_10 ?_
  obtain ⟨u3, g2, eg2, hf⟩ := xhb_e hf
  refine mv_callSNi (pc := 11) (n := 3) B (mK_ok sk sv) hNs (ch_Model_in l hi _ _ _ _ eg2) rfl (ma_goodc kc_Model_in) (va_Nw.use rfl (hNs.1 _ (List.mem_of_getElem? (i := 7) rfl))) (B.2.2.2.1 _ k_2208) (B.2.2.2.1 _ k_12) ⟨by decide +kernel, by decide +kernel, by decide +kernel⟩ rfl d_Book_cell_11 rfl (Nat.le_of_ble_eq_true rfl) ⟨by first | decide | (dsimp only; omega), by first | decide | (dsimp only; omega)⟩ ⟨Nat.le_refl _, Nat.le_refl _⟩ ⟨Nat.le_refl _, Nat.le_refl _⟩ (mv_noH hno _) (fun w11 σ11 h11 => ?_)
  obtain ⟨rfl, rfl, s_g2⟩ := h11
  have r_g2 : mv_r g2 = mv_r h := s_g2.trans rfl
  refine mv_if_eq (pc := 14) (tgt := 25) B d_Book_cell_14 rfl (fun h14 => ?_) (fun h14 => ?_)
  · skip
    have hf := xif_t h14 hf
    refine mv_aload_n (pc := 25) B d_Book_cell_25 rfl 0 rfl ?_
    refine mv_getI (pc := 26) (ci := 12) (C := R_Book) (T := F_Book) (N := 65) B 53 rfl rfl (by decide) i_Book (B.2.2.2.1 _ k_1902) rfl d_Book_cell_26 ?_
    refine mv_if_ne (pc := 29) (tgt := 38) B d_Book_cell_29 rfl (fun h29 => ?_) (fun h29 => ?_)
    · skip
      have hf := xif_f h29 hf
      refine mv_lpick [] rfl ?_
      exact jn38  _ r_g2 hf
    · skip
      have hf := xif_t h29 hf
      refine mv_aload_n (pc := 32) B d_Book_cell_32 rfl 0 rfl ?_
      refine mv_bipush (pc := 33) (v := -3) B d_Book_cell_33 (by decide) ?_
      refine mv_putI (pc := 35) (ci := 12) (C := R_Book) (T := F_Book) (N := 65) B 53 rfl rfl (by decide) i_Book t_Book_ok n_Book (B.2.2.2.1 _ k_1902) rfl rfl rfl rfl d_Book_cell_35 ?_
      refine mvh_hp (R9 := mv_r h) hf r_g2 (fun g4 hf r_g4 => ?_)
      refine mv_lpick [] rfl ?_
      exact jn38  _ r_g4 hf
  · skip
    have hf := xif_f h14 hf
    refine mv_aload_n (pc := 17) B d_Book_cell_17 rfl 0 rfl ?_
    refine mv_iload_n (pc := 18) B d_Book_cell_18 rfl 1 rfl ?_
    refine mv_lload_n (pc := 19) B d_Book_cell_19 rfl 2 rfl ?_
    refine mv_l2i (pc := 20) B d_Book_cell_20 ?_
    obtain ⟨u6, g5, eg5, hf⟩ := xhb_e hf
    refine mv_callVl (pc := 21) (n := 2) (ci := 12) (C := R_Book) B (mK_ok sk sv) hNs rfl rfl (ch_Book_read_0_y l hi _ (xrw r_g2 hb) _ _ eg5) rfl (ma_goodc kc_Book_read_0) (B.2.2.2.1 _ k_2508) (B.2.2.2.1 _ k_2510) (B.2.2.2.1 _ ks_133) (B.2.2.2.1 _ k_13) ⟨by decide +kernel, by decide +kernel, by decide +kernel⟩ rfl d_Book_cell_21 rfl (Nat.le_of_ble_eq_true rfl) ⟨by first | decide | (dsimp only; omega), by first | decide | (dsimp only; omega)⟩ ⟨Nat.le_refl _, Nat.le_refl _⟩ ⟨Nat.le_refl _, Nat.le_refl _⟩ (mv_noH hno _) (fun w21 σ21 h21 => ?_)
    obtain ⟨rfl, rfl, s_g5⟩ := h21
    have r_g5 : mv_r g5 = mv_r h := s_g5.trans r_g2
    exact mv_lret (pc := 24) B hr d_Book_cell_24 (Nat.le_refl _) (Nat.le_refl _) ⟨_, rfl, xrh_l hf r_g5⟩
def f_Book_field_53 (P : Nat) (k6 : Int32 → Int32 → Int64 → Int64 → Int32 → mv_H → Option (Int64 × mv_H)) (x1 : Int32) (x2 : Int32) (x3 : Int64) (x5 : Int64) (x7 : Int32) (hz : mv_H) : Option (Int64 × mv_H) := k6 x1 x2 x3 x5 (x7 + 1) hz
def fF_Book_field_6 (P : Nat) (k6 : Int32 → Int32 → Int64 → Int64 → Int32 → mv_H → Option (Int64 × mv_H)) (x1 : Int32) (x2 : Int32) (x3 : Int64) (x5 : Int64) (x7 : Int32) (hz : mv_H) : Option (Int64 × mv_H) := if (mv_i hz P 20) ≤ x7 then (some (x5, hz)) else (bif xvi x1 4100 then bif xvi ((mv_a hz (P + 10) (x1).toNatClampNeg) + x7) 32768 then if (mv_a hz (P + 13) (((mv_a hz (P + 10) (x1).toNatClampNeg) + x7)).toNatClampNeg) = x2 then (f_Book_field_53 P k6 x1 x2 x3 ((x5 <<< (((1 : Int32)).toInt64 &&& 63)) ||| ((((x3).toUInt64 >>> (((((mv_i hz P 20) - (1 : Int32)) - x7)).toInt64.toUInt64 &&& Int64.toUInt64 63)).toInt64) &&& (1 : Int64))) x7 hz) else (f_Book_field_53 P k6 x1 x2 x3 x5 x7 hz) else none else none)
def f_Book_field_6 (P : Nat) : Nat → Int32 → Int32 → Int64 → Int64 → Int32 → mv_H → Option (Int64 × mv_H)
  | 0 => fun _ _ _ _ _ _ => none
  | nn + 1 => fF_Book_field_6 P (f_Book_field_6 P nn)
def f_Book_field (P : Nat) (h : mv_H) (a0 : Int32) (a1 : Int32) (a2 : Int64) : Option (Int64 × mv_H) := f_Book_field_6 P 200000 a0 a1 a2 (0 : Int64) (0 : Int32) h
set_option maxHeartbeats 4000000 in
set_option maxRecDepth 100000 in
theorem ch_Book_field_x (l : Launch) {dA : FieldType → ClassId} {D : va_G} {al : Nat → Nat} {ext : mv_Sh} {sk sv : Nat → Nat} (hi : mv_inj (mg dA D al ext)) (h : mv_H) (hb : mh (mv_r h))  (a0 : Int32) (a1 : Int32) (a2 : Int64) {rv : Int64} {rg : mv_H} (hf : f_Book_field 74 h a0 a1 a2 = some (rv, rg)) : mv_C l y_Book_field (Cond.code y_Book_field b_Book_field 8 (Option.some Jvm.ClassFile.FieldType.long) :: ma) ({ frames := 0, cells := 0, slots := 0, locals := 0 }) (mg dA D al ext) (mK sk sv) [.ref (al 74), .int a0, .int a1, .long a2] h (mv_Rl (fun v σ1 => rv = v ∧ rg = σ1 ∧ mv_r σ1 = mv_r h)) := by
  refine mv_C.ofV (cc := b_Book_field) (nL := 8) (ret := (Option.some Jvm.ClassFile.FieldType.long)) (by decide +kernel) rfl hi (Nat.le_of_ble_eq_true rfl) ?_
  intro p e s m below meth c B hNs hr hnm hno
  have lp6 : ∀ (nn6 : Nat) (x1 : Int32) (x2 : Int32) (x3 : Int64) (x5 : Int64) (x7 : Int32) (hz : mv_H), mv_r hz = mv_r h → f_Book_field_6 74 nn6 x1 x2 x3 x5 x7 hz = some (rv, rg) → mv_V p l e ({ frames := 0, cells := 0, slots := 0, locals := 0 }) s m ([.ref (al 74), .int a0, .int a1, .long a2] : List Value).toArray below meth c (mg dA D al ext) 8 0 0 (mv_Q (mg dA D al ext) below s 0 0 (mv_Rl (fun v σ1 => rv = v ∧ rg = σ1 ∧ mv_r σ1 = mv_r h))) hz 6 [(0, .ref (al 74)), (1, .int x1), (2, .int x2), (3, .long x3), (5, .long x5), (7, .int x7)] [] := by
    intro nn6
    induction nn6 with
    | zero => intro x1 x2 x3 x5 x7 hz r_hz hf; cases hf
    | succ nn6 ih6 =>
      intro x1 x2 x3 x5 x7 hz r_hz hf
      have jn53 : ∀ (x1 : Int32) (x2 : Int32) (x3 : Int64) (x5 : Int64) (x7 : Int32) (hz : mv_H), mv_r hz = mv_r h → f_Book_field_53 74 (f_Book_field_6 74 nn6) x1 x2 x3 x5 x7 hz = some (rv, rg) → mv_V p l e ({ frames := 0, cells := 0, slots := 0, locals := 0 }) s m ([.ref (al 74), .int a0, .int a1, .long a2] : List Value).toArray below meth c (mg dA D al ext) 8 0 0 (mv_Q (mg dA D al ext) below s 0 0 (mv_Rl (fun v σ1 => rv = v ∧ rg = σ1 ∧ mv_r σ1 = mv_r h))) hz 53 [(0, .ref (al 74)), (1, .int x1), (2, .int x2), (3, .long x3), (5, .long x5), (7, .int x7)] [] := by
        intro x1 x2 x3 x5 x7 hz r_hz hf
        unfold f_Book_field_53 at hf
        refine mv_iinc (pc := 53) (j := 5) (v := 1) B d_Book_field_53 rfl (by decide) (by decide) rfl ?_
        refine mv_goto (pc := 56) (tgt := 6) B d_Book_field_56 rfl ?_
        refine mv_lpick [1, 2, 3, 4, 5, 0] rfl ?_
        exact ih6 _ _ _ _ _ _ r_hz hf
      have hf : fF_Book_field_6 74 (f_Book_field_6 74 nn6) x1 x2 x3 x5 x7 hz = some (rv, rg) := hf
      unfold fF_Book_field_6 at hf
      refine mv_iload (pc := 6) B d_Book_field_6 5 rfl ?_
      refine mv_aload_n (pc := 8) B d_Book_field_8 rfl 0 rfl ?_
      refine mv_getI (pc := 9) (ci := 12) (C := R_Book) (T := F_Book) (N := 65) B 20 rfl rfl (by decide) i_Book (B.2.2.2.1 _ k_1865) rfl d_Book_field_9 ?_
      refine mv_icmp_ge (pc := 12) (tgt := 59) B d_Book_field_12 rfl (fun h12 => ?_) (fun h12 => ?_)
      · skip
        have hf := xif_t h12 hf
        refine mv_lload (pc := 59) B d_Book_field_59 4 rfl ?_
        exact mv_lret (pc := 61) B hr d_Book_field_61 (Nat.le_refl _) (Nat.le_refl _) ⟨_, rfl, xrh_l hf r_hz⟩
      · skip
        have hf := xif_f h12 hf
        refine mv_aload_n (pc := 15) B d_Book_field_15 rfl 0 rfl ?_
        refine mv_getR (pc := 16) (ci := 12) (C := R_Book) (T := F_Book) (N := 65) B 28 rfl rfl (by decide) i_Book (B.2.2.2.1 _ k_1873) rfl ((congrFun (congrFun r_hz 74) 28).trans (hb 74 28 _ rfl)) d_Book_field_16 ?_
        refine mv_aload_n (pc := 19) B d_Book_field_19 rfl 0 rfl ?_
        refine mv_getR (pc := 20) (ci := 12) (C := R_Book) (T := F_Book) (N := 65) B 25 rfl rfl (by decide) i_Book (B.2.2.2.1 _ k_1870) rfl ((congrFun (congrFun r_hz 74) 25).trans (hb 74 25 _ rfl)) d_Book_field_20 ?_
        refine mv_iload_n (pc := 23) B d_Book_field_23 rfl 1 rfl ?_
        obtain ⟨q1, hf⟩ := xvi_e hf
        refine mv_iald (pc := 24) B rfl q1 d_Book_field_24 ?_
        refine mv_iload (pc := 25) B d_Book_field_25 5 rfl ?_
        refine mv_iadd (pc := 27) B d_Book_field_27 ?_
        obtain ⟨q2, hf⟩ := xvi_e hf
        refine mv_bald (pc := 28) B rfl q2 d_Book_field_28 ?_
        refine mv_iload_n (pc := 29) B d_Book_field_29 rfl 2 rfl ?_
        refine mv_icmp_ne (pc := 30) (tgt := 53) B d_Book_field_30 rfl (fun h30 => ?_) (fun h30 => ?_)
        · skip
          have hf := xif_f h30 hf
          refine mv_lpick [0, 1, 2, 3, 4, 5] rfl ?_
          exact jn53 _ _ _ _ _ _ r_hz hf
        · skip
          have hf := xif_t h30 hf
          refine mv_lload (pc := 33) B d_Book_field_33 4 rfl ?_
          refine mv_iconst (pc := 35) (v := 1) B d_Book_field_35 (by decide) ?_
          refine mv_lshl (pc := 36) B d_Book_field_36 ?_
          refine mv_lload_n (pc := 37) B d_Book_field_37 rfl 3 rfl ?_
          refine mv_aload_n (pc := 38) B d_Book_field_38 rfl 0 rfl ?_
          refine mv_getI (pc := 39) (ci := 12) (C := R_Book) (T := F_Book) (N := 65) B 20 rfl rfl (by decide) i_Book (B.2.2.2.1 _ k_1865) rfl d_Book_field_39 ?_
          refine mv_iconst (pc := 42) (v := 1) B d_Book_field_42 (by decide) ?_
          refine mv_isub (pc := 43) B d_Book_field_43 ?_
          refine mv_iload (pc := 44) B d_Book_field_44 5 rfl ?_
          refine mv_isub (pc := 46) B d_Book_field_46 ?_
          refine mv_lushr (pc := 47) B d_Book_field_47 ?_
          refine mv_lconst (pc := 48) (v := 1) B d_Book_field_48 (by decide) ?_
          refine mv_land (pc := 49) B d_Book_field_49 ?_
          refine mv_lor (pc := 50) B d_Book_field_50 ?_
          refine mv_lstore (pc := 51) B d_Book_field_51 (by decide) rfl ?_
          refine mv_lpick [1, 2, 3, 4, 0, 5] rfl ?_
          exact jn53 _ _ _ _ _ _ r_hz hf
  unfold f_Book_field at hf
  refine mv_lconst (pc := 0) (v := 0) B d_Book_field_0 (by decide) ?_
  refine mv_lstore (pc := 1) B d_Book_field_1 (by decide) rfl ?_
  refine mv_iconst (pc := 3) (v := 0) B d_Book_field_3 (by decide) ?_
  refine mv_istore (pc := 4) B d_Book_field_4 (by decide) rfl ?_
  refine mv_lpick [2, 3, 4, 5, 1, 0] rfl ?_
  exact lp6 _ _ _ _ _ _ _ rfl hf
set_option maxHeartbeats 4000000 in
set_option maxRecDepth 100000 in
theorem ch_Book_field_y (l : Launch) {dA : FieldType → ClassId} {D : va_G} {al : Nat → Nat} {ext : mv_Sh} {sk sv : Nat → Nat} (hi : mv_inj (mg dA D al ext)) (h : mv_H) (hb : mh (mv_r h))  (a0 : Int32) (a1 : Int32) (a2 : Int64) {rv : Int64} {rg : mv_H} (hf : f_Book_field 108 h a0 a1 a2 = some (rv, rg)) : mv_C l y_Book_field (Cond.code y_Book_field b_Book_field 8 (Option.some Jvm.ClassFile.FieldType.long) :: ma) ({ frames := 0, cells := 0, slots := 0, locals := 0 }) (mg dA D al ext) (mK sk sv) [.ref (al 108), .int a0, .int a1, .long a2] h (mv_Rl (fun v σ1 => rv = v ∧ rg = σ1 ∧ mv_r σ1 = mv_r h)) := by
  refine mv_C.ofV (cc := b_Book_field) (nL := 8) (ret := (Option.some Jvm.ClassFile.FieldType.long)) (by decide +kernel) rfl hi (Nat.le_of_ble_eq_true rfl) ?_
  intro p e s m below meth c B hNs hr hnm hno
  have lp6 : ∀ (nn6 : Nat) (x1 : Int32) (x2 : Int32) (x3 : Int64) (x5 : Int64) (x7 : Int32) (hz : mv_H), mv_r hz = mv_r h → f_Book_field_6 108 nn6 x1 x2 x3 x5 x7 hz = some (rv, rg) → mv_V p l e ({ frames := 0, cells := 0, slots := 0, locals := 0 }) s m ([.ref (al 108), .int a0, .int a1, .long a2] : List Value).toArray below meth c (mg dA D al ext) 8 0 0 (mv_Q (mg dA D al ext) below s 0 0 (mv_Rl (fun v σ1 => rv = v ∧ rg = σ1 ∧ mv_r σ1 = mv_r h))) hz 6 [(0, .ref (al 108)), (1, .int x1), (2, .int x2), (3, .long x3), (5, .long x5), (7, .int x7)] [] := by
    intro nn6
    induction nn6 with
    | zero => intro x1 x2 x3 x5 x7 hz r_hz hf; cases hf
    | succ nn6 ih6 =>
      intro x1 x2 x3 x5 x7 hz r_hz hf
      have jn53 : ∀ (x1 : Int32) (x2 : Int32) (x3 : Int64) (x5 : Int64) (x7 : Int32) (hz : mv_H), mv_r hz = mv_r h → f_Book_field_53 108 (f_Book_field_6 108 nn6) x1 x2 x3 x5 x7 hz = some (rv, rg) → mv_V p l e ({ frames := 0, cells := 0, slots := 0, locals := 0 }) s m ([.ref (al 108), .int a0, .int a1, .long a2] : List Value).toArray below meth c (mg dA D al ext) 8 0 0 (mv_Q (mg dA D al ext) below s 0 0 (mv_Rl (fun v σ1 => rv = v ∧ rg = σ1 ∧ mv_r σ1 = mv_r h))) hz 53 [(0, .ref (al 108)), (1, .int x1), (2, .int x2), (3, .long x3), (5, .long x5), (7, .int x7)] [] := by
        intro x1 x2 x3 x5 x7 hz r_hz hf
        unfold f_Book_field_53 at hf
        refine mv_iinc (pc := 53) (j := 5) (v := 1) B d_Book_field_53 rfl (by decide) (by decide) rfl ?_
        refine mv_goto (pc := 56) (tgt := 6) B d_Book_field_56 rfl ?_
        refine mv_lpick [1, 2, 3, 4, 5, 0] rfl ?_
        exact ih6 _ _ _ _ _ _ r_hz hf
      have hf : fF_Book_field_6 108 (f_Book_field_6 108 nn6) x1 x2 x3 x5 x7 hz = some (rv, rg) := hf
      unfold fF_Book_field_6 at hf
      refine mv_iload (pc := 6) B d_Book_field_6 5 rfl ?_
      refine mv_aload_n (pc := 8) B d_Book_field_8 rfl 0 rfl ?_
      refine mv_getI (pc := 9) (ci := 12) (C := R_Book) (T := F_Book) (N := 65) B 20 rfl rfl (by decide) i_Book (B.2.2.2.1 _ k_1865) rfl d_Book_field_9 ?_
      refine mv_icmp_ge (pc := 12) (tgt := 59) B d_Book_field_12 rfl (fun h12 => ?_) (fun h12 => ?_)
      · skip
        have hf := xif_t h12 hf
        refine mv_lload (pc := 59) B d_Book_field_59 4 rfl ?_
        exact mv_lret (pc := 61) B hr d_Book_field_61 (Nat.le_refl _) (Nat.le_refl _) ⟨_, rfl, xrh_l hf r_hz⟩
      · skip
        have hf := xif_f h12 hf
        refine mv_aload_n (pc := 15) B d_Book_field_15 rfl 0 rfl ?_
        refine mv_getR (pc := 16) (ci := 12) (C := R_Book) (T := F_Book) (N := 65) B 28 rfl rfl (by decide) i_Book (B.2.2.2.1 _ k_1873) rfl ((congrFun (congrFun r_hz 108) 28).trans (hb 108 28 _ rfl)) d_Book_field_16 ?_
        refine mv_aload_n (pc := 19) B d_Book_field_19 rfl 0 rfl ?_
        refine mv_getR (pc := 20) (ci := 12) (C := R_Book) (T := F_Book) (N := 65) B 25 rfl rfl (by decide) i_Book (B.2.2.2.1 _ k_1870) rfl ((congrFun (congrFun r_hz 108) 25).trans (hb 108 25 _ rfl)) d_Book_field_20 ?_
        refine mv_iload_n (pc := 23) B d_Book_field_23 rfl 1 rfl ?_
        obtain ⟨q1, hf⟩ := xvi_e hf
        refine mv_iald (pc := 24) B rfl q1 d_Book_field_24 ?_
        refine mv_iload (pc := 25) B d_Book_field_25 5 rfl ?_
        refine mv_iadd (pc := 27) B d_Book_field_27 ?_
        obtain ⟨q2, hf⟩ := xvi_e hf
        refine mv_bald (pc := 28) B rfl q2 d_Book_field_28 ?_
        refine mv_iload_n (pc := 29) B d_Book_field_29 rfl 2 rfl ?_
        refine mv_icmp_ne (pc := 30) (tgt := 53) B d_Book_field_30 rfl (fun h30 => ?_) (fun h30 => ?_)
        · skip
          have hf := xif_f h30 hf
          refine mv_lpick [0, 1, 2, 3, 4, 5] rfl ?_
          exact jn53 _ _ _ _ _ _ r_hz hf
        · skip
          have hf := xif_t h30 hf
          refine mv_lload (pc := 33) B d_Book_field_33 4 rfl ?_
          refine mv_iconst (pc := 35) (v := 1) B d_Book_field_35 (by decide) ?_
          refine mv_lshl (pc := 36) B d_Book_field_36 ?_
          refine mv_lload_n (pc := 37) B d_Book_field_37 rfl 3 rfl ?_
          refine mv_aload_n (pc := 38) B d_Book_field_38 rfl 0 rfl ?_
          refine mv_getI (pc := 39) (ci := 12) (C := R_Book) (T := F_Book) (N := 65) B 20 rfl rfl (by decide) i_Book (B.2.2.2.1 _ k_1865) rfl d_Book_field_39 ?_
          refine mv_iconst (pc := 42) (v := 1) B d_Book_field_42 (by decide) ?_
          refine mv_isub (pc := 43) B d_Book_field_43 ?_
          refine mv_iload (pc := 44) B d_Book_field_44 5 rfl ?_
          refine mv_isub (pc := 46) B d_Book_field_46 ?_
          refine mv_lushr (pc := 47) B d_Book_field_47 ?_
          refine mv_lconst (pc := 48) (v := 1) B d_Book_field_48 (by decide) ?_
          refine mv_land (pc := 49) B d_Book_field_49 ?_
          refine mv_lor (pc := 50) B d_Book_field_50 ?_
          refine mv_lstore (pc := 51) B d_Book_field_51 (by decide) rfl ?_
          refine mv_lpick [1, 2, 3, 4, 0, 5] rfl ?_
          exact jn53 _ _ _ _ _ _ r_hz hf
  unfold f_Book_field at hf
  refine mv_lconst (pc := 0) (v := 0) B d_Book_field_0 (by decide) ?_
  refine mv_lstore (pc := 1) B d_Book_field_1 (by decide) rfl ?_
  refine mv_iconst (pc := 3) (v := 0) B d_Book_field_3 (by decide) ?_
  refine mv_istore (pc := 4) B d_Book_field_4 (by decide) rfl ?_
  refine mv_lpick [2, 3, 4, 5, 1, 0] rfl ?_
  exact lp6 _ _ _ _ _ _ _ rfl hf
def fF_Book_eval_66 (P : Nat) (kR : Nat → Int32 → mv_H → Option (Int64 × mv_H)) (k66 : Int32 → Int64 → mv_H → Option (Int64 × mv_H)) (x2 : Int32) (x4 : Int64) (hz : mv_H) : Option (Int64 × mv_H) := if (mv_i hz P 62) ≤ x2 then (some (x4, hz)) else (xk (mv_si hz P 62 ((mv_i hz P 62) - (1 : Int32))) fun g1 => bif xvi (mv_i g1 P 62) 33000 then bif xvi (mv_a g1 (P + 31) ((mv_i g1 P 62)).toNatClampNeg) 33000 then if (mv_a g1 (P + 18) ((mv_a g1 (P + 31) ((mv_i g1 P 62)).toNatClampNeg)).toNatClampNeg) = (8 : Int32) then (bif xvi (mv_a g1 (P + 31) ((mv_i g1 P 62)).toNatClampNeg) 33000 then bif xvi (mv_a g1 (P + 31) ((mv_i g1 P 62)).toNatClampNeg) 33000 then xhb (f_Book_cut g1 (((x4).toUInt64 >>> (((mv_a g1 (P + 21) ((mv_a g1 (P + 31) ((mv_i g1 P 62)).toNatClampNeg)).toNatClampNeg)).toInt64.toUInt64 &&& Int64.toUInt64 63)).toInt64) (mv_a g1 (P + 23) ((mv_a g1 (P + 31) ((mv_i g1 P 62)).toNatClampNeg)).toNatClampNeg)) fun u18 g17 => k66 x2 u18 g17 else none else none) else (bif xvi (mv_a g1 (P + 31) ((mv_i g1 P 62)).toNatClampNeg) 33000 then bif xvi (mv_a g1 (P + 31) ((mv_i g1 P 62)).toNatClampNeg) 33000 then xhb (kR 0 (mv_a g1 (P + 20) ((mv_a g1 (P + 31) ((mv_i g1 P 62)).toNatClampNeg)).toNatClampNeg) g1) fun u7 g6 => bif xvi (mv_a g1 (P + 31) ((mv_i g1 P 62)).toNatClampNeg) 33000 then bif xvi (mv_a g6 (P + 19) ((mv_a g1 (P + 31) ((mv_i g1 P 62)).toNatClampNeg)).toNatClampNeg) 33000 then xhb (f_Book_apply P g6 (mv_a g1 (P + 21) ((mv_a g1 (P + 31) ((mv_i g1 P 62)).toNatClampNeg)).toNatClampNeg) x4 u7 (mv_a g6 (P + 23) ((mv_a g6 (P + 19) ((mv_a g1 (P + 31) ((mv_i g1 P 62)).toNatClampNeg)).toNatClampNeg)).toNatClampNeg)) fun u11 g10 => bif xvi (mv_a g1 (P + 31) ((mv_i g1 P 62)).toNatClampNeg) 33000 then xhb (f_Book_cut g10 u11 (mv_a g10 (P + 23) ((mv_a g1 (P + 31) ((mv_i g1 P 62)).toNatClampNeg)).toNatClampNeg)) fun u14 g13 => k66 x2 u14 g13 else none else none else none else none else none) else none else none)
def f_Book_eval_66 (P : Nat) (kR : Nat → Int32 → mv_H → Option (Int64 × mv_H)) : Nat → Int32 → Int64 → mv_H → Option (Int64 × mv_H)
  | 0 => fun _ _ _ => none
  | nn + 1 => fF_Book_eval_66 P kR (f_Book_eval_66 P kR nn)
def f_Book_eval_29 (P : Nat) (kR : Nat → Int32 → mv_H → Option (Int64 × mv_H)) (k7 : Int32 → Int32 → mv_H → Option (Int64 × mv_H)) (x2 : Int32) (x3 : Int32) (hz : mv_H) : Option (Int64 × mv_H) := bif xvi (mv_i hz P 62) 33000 then xk (mv_sa hz (P + 31) ((mv_i hz P 62)).toNatClampNeg x3) fun g20 => xk (mv_si g20 P 62 ((mv_i g20 P 62) + (1 : Int32))) fun g21 => bif xvi x3 33000 then k7 x2 (mv_a g21 (P + 19) (x3).toNatClampNeg) g21 else none else none
def fF_Book_eval_7 (P : Nat) (kR : Nat → Int32 → mv_H → Option (Int64 × mv_H)) (k7 : Int32 → Int32 → mv_H → Option (Int64 × mv_H)) (x2 : Int32) (x3 : Int32) (hz : mv_H) : Option (Int64 × mv_H) := bif xvi x3 33000 then if (mv_a hz (P + 18) (x3).toNatClampNeg) = (7 : Int32) then (f_Book_eval_29 P kR k7 x2 x3 hz) else (bif xvi x3 33000 then if (mv_a hz (P + 18) (x3).toNatClampNeg) = (8 : Int32) then (f_Book_eval_29 P kR k7 x2 x3 hz) else (xhb (kR 1 x3 hz) fun u26 g25 => f_Book_eval_66 P kR 200000 x2 u26 g25) else none) else none
def f_Book_eval_7 (P : Nat) (kR : Nat → Int32 → mv_H → Option (Int64 × mv_H)) : Nat → Int32 → Int32 → mv_H → Option (Int64 × mv_H)
  | 0 => fun _ _ _ => none
  | nn + 1 => fF_Book_eval_7 P kR (f_Book_eval_7 P kR nn)
def f_Book_eval (P : Nat) (kR : Nat → Int32 → mv_H → Option (Int64 × mv_H)) (h : mv_H) (a0 : Int32) : Option (Int64 × mv_H) := f_Book_eval_7 P kR 200000 (mv_i h P 62) a0 h
def f_Book_simple_245 (P : Nat) (kR : Nat → Int32 → mv_H → Option (Int64 × mv_H)) (x1 : Int32) (hz : mv_H) : Option (Int64 × mv_H) := bif xvi x1 33000 then xhb (kR 0 (mv_a hz (P + 19) (x1).toNatClampNeg) hz) fun u3 g2 => some (u3, g2) else none
def f_Book_simple (P : Nat) (kR : Nat → Int32 → mv_H → Option (Int64 × mv_H)) (h : mv_H) (a0 : Int32) : Option (Int64 × mv_H) := bif xvi a0 33000 then if ((mv_a h (P + 18) (a0).toNatClampNeg)).toInt = 1 then (bif xvi a0 33000 then some ((mv_b h (P + 24) (a0).toNatClampNeg), h) else none) else (if ((mv_a h (P + 18) (a0).toNatClampNeg)).toInt = 2 then (bif xvi a0 33000 then xhb (f_Book_read_0 P h (mv_a h (P + 19) (a0).toNatClampNeg) (0 : Int32)) fun u8 g7 => some (u8, g7) else none) else (if ((mv_a h (P + 18) (a0).toNatClampNeg)).toInt = 3 then (bif xvi a0 33000 then bif xvi a0 33000 then xhb (kR 0 (mv_a h (P + 20) (a0).toNatClampNeg) h) fun u12 g11 => xhb (f_Book_cell P g11 (mv_a h (P + 19) (a0).toNatClampNeg) u12) fun u14 g13 => some (u14, g13) else none else none) else (if ((mv_a h (P + 18) (a0).toNatClampNeg)).toInt = 4 then (bif xvi a0 33000 then xhb (f_Book_field P h (mv_i h P 63) (mv_a h (P + 19) (a0).toNatClampNeg) (mv_l h P 52)) fun u17 g16 => some (u17, g16) else none) else (if ((mv_a h (P + 18) (a0).toNatClampNeg)).toInt = 5 then (bif xvi a0 33000 then bif xvi (mv_a h (P + 19) (a0).toNatClampNeg) 4100 then some ((mv_b h (P + 26) ((mv_a h (P + 19) (a0).toNatClampNeg)).toNatClampNeg), h) else none else none) else (if ((mv_a h (P + 18) (a0).toNatClampNeg)).toInt = 6 then (bif xvi a0 33000 then bif xvi a0 33000 then xhb (kR 0 (mv_a h (P + 19) (a0).toNatClampNeg) h) fun u23 g22 => bif xvi a0 33000 then xhb (f_Book_unaryValue g22 (mv_a h (P + 20) (a0).toNatClampNeg) u23 (mv_a g22 (P + 23) (a0).toNatClampNeg)) fun u26 g25 => some (u26, g25) else none else none else none) else (if ((mv_a h (P + 18) (a0).toNatClampNeg)).toInt = 7 then (f_Book_simple_245 P kR a0 h) else (if ((mv_a h (P + 18) (a0).toNatClampNeg)).toInt = 8 then (f_Book_simple_245 P kR a0 h) else (if ((mv_a h (P + 18) (a0).toNatClampNeg)).toInt = 9 then (bif xvi a0 33000 then xhb (kR 0 (mv_a h (P + 19) (a0).toNatClampNeg) h) fun u29 g28 => if (lg_cmp u29 (0 : Int64)) = (0 : Int32) then (bif xvi a0 33000 then xhb (kR 0 (mv_a g28 (P + 21) (a0).toNatClampNeg) g28) fun u32 g31 => some (u32, g31) else none) else (bif xvi a0 33000 then xhb (kR 0 (mv_a g28 (P + 20) (a0).toNatClampNeg) g28) fun u35 g34 => some (u35, g34) else none) else none) else (if ((mv_a h (P + 18) (a0).toNatClampNeg)).toInt = 10 then (bif xvi a0 33000 then xhb (kR 2 (mv_a h (P + 19) (a0).toNatClampNeg) h) fun u38 g37 => some (u38, g37) else none) else (if ((mv_a h (P + 18) (a0).toNatClampNeg)).toInt = 11 then (bif xvi a0 33000 then xhb (kR 0 (mv_a h (P + 19) (a0).toNatClampNeg) h) fun u41 g40 => bif xvi a0 33000 then bif xvi (mv_a g40 (P + 19) (a0).toNatClampNeg) 33000 then xhb (f_Book_signed g40 u41 (mv_a g40 (P + 23) ((mv_a g40 (P + 19) (a0).toNatClampNeg)).toNatClampNeg)) fun u45 g44 => bif xvi a0 33000 then xhb (f_Book_cut g44 u45 (mv_a g44 (P + 23) (a0).toNatClampNeg)) fun u48 g47 => some (u48, g47) else none else none else none else none) else (f_Book_simple_245 P kR a0 h))))))))))) else none
def f_Book_row_47 (P : Nat) (kR : Nat → Int32 → mv_H → Option (Int64 × mv_H)) (k5 : Int64 → Int32 → mv_H → Option (Int64 × mv_H)) (x4 : Int32) (y0 : Int64) (hz : mv_H) : Option (Int64 × mv_H) := bif xvi x4 33000 then k5 y0 (mv_a hz (P + 22) (x4).toNatClampNeg) hz else none
def fF_Book_row_5 (P : Nat) (kR : Nat → Int32 → mv_H → Option (Int64 × mv_H)) (k5 : Int64 → Int32 → mv_H → Option (Int64 × mv_H)) (x2 : Int64) (x4 : Int32) (hz : mv_H) : Option (Int64 × mv_H) := if x4 < (0 : Int32) then (some (x2, hz)) else (xhb (kR 0 x4 hz) fun u3 g2 => bif xvi x4 33000 then if (mv_a g2 (P + 23) (x4).toNatClampNeg) = (64 : Int32) then (f_Book_row_47 P kR k5 x4 u3 g2) else (bif xvi x4 33000 then f_Book_row_47 P kR k5 x4 ((x2 <<< (((mv_a g2 (P + 23) (x4).toNatClampNeg)).toInt64 &&& 63)) ||| u3) g2 else none) else none)
def f_Book_row_5 (P : Nat) (kR : Nat → Int32 → mv_H → Option (Int64 × mv_H)) : Nat → Int64 → Int32 → mv_H → Option (Int64 × mv_H)
  | 0 => fun _ _ _ => none
  | nn + 1 => fF_Book_row_5 P kR (f_Book_row_5 P kR nn)
def f_Book_row (P : Nat) (kR : Nat → Int32 → mv_H → Option (Int64 × mv_H)) (h : mv_H) (a0 : Int32) : Option (Int64 × mv_H) := f_Book_row_5 P kR 200000 (0 : Int64) a0 h
def f_BookE (P : Nat) : Nat → Nat → Int32 → mv_H → Option (Int64 × mv_H)
  | 0 => fun _ _ _ => none
  | nn + 1 => fun m a h => match m with
    | 0 => f_Book_eval P (f_BookE P nn) h a
    | 1 => f_Book_simple P (f_BookE P nn) h a
    | _ => f_Book_row P (f_BookE P nn) h a
def RecE (l : Launch) (dA : FieldType → ClassId) (D : va_G) (al : Nat → Nat) (ext : mv_Sh) (sk sv : Nat → Nat) (B nn : Nat) : Prop := (∀ (a : Int32) (h : mv_H) (rv : Int64) (rg : mv_H), mh (mv_r h) → f_BookE B nn 0 a h = some (rv, rg) → mv_C l y_Book_eval (Cond.code y_Book_eval b_Book_eval 6 (Option.some Jvm.ClassFile.FieldType.long) :: ma) ({ frames := nn + 7, cells := 0, slots := 0, locals := 28 * nn + 420 }) (mg dA D al ext) (mK sk sv) [.ref (al B), .int a] h (mv_Rl (fun v σ1 => rv = v ∧ rg = σ1 ∧ mv_r σ1 = mv_r h))) ∧ (∀ (a : Int32) (h : mv_H) (rv : Int64) (rg : mv_H), mh (mv_r h) → f_BookE B nn 1 a h = some (rv, rg) → mv_C l y_Book_simple (Cond.code y_Book_simple b_Book_simple 2 (Option.some Jvm.ClassFile.FieldType.long) :: ma) ({ frames := nn + 7, cells := 0, slots := 0, locals := 28 * nn + 420 }) (mg dA D al ext) (mK sk sv) [.ref (al B), .int a] h (mv_Rl (fun v σ1 => rv = v ∧ rg = σ1 ∧ mv_r σ1 = mv_r h))) ∧ (∀ (a : Int32) (h : mv_H) (rv : Int64) (rg : mv_H), mh (mv_r h) → f_BookE B nn 2 a h = some (rv, rg) → mv_C l y_Book_row (Cond.code y_Book_row b_Book_row 7 (Option.some Jvm.ClassFile.FieldType.long) :: ma) ({ frames := nn + 7, cells := 0, slots := 0, locals := 28 * nn + 420 }) (mg dA D al ext) (mK sk sv) [.ref (al B), .int a] h (mv_Rl (fun v σ1 => rv = v ∧ rg = σ1 ∧ mv_r σ1 = mv_r h)))
set_option maxHeartbeats 4000000 in
set_option maxRecDepth 100000 in
theorem cr_Book_eval_x (l : Launch) {dA : FieldType → ClassId} {D : va_G} {al : Nat → Nat} {ext : mv_Sh} {sk sv : Nat → Nat} (hi : mv_inj (mg dA D al ext)) (nn : Nat) (ih : RecE l dA D al ext sk sv 74 nn) (h : mv_H) (hb : mh (mv_r h))  (a0 : Int32) {rv : Int64} {rg : mv_H} (hf : f_Book_eval 74 (f_BookE 74 nn) h a0 = some (rv, rg)) : mv_C l y_Book_eval (Cond.code y_Book_eval b_Book_eval 6 (Option.some Jvm.ClassFile.FieldType.long) :: ma) ({ frames := nn + 1 + 7, cells := 0, slots := 0, locals := 28 * (nn + 1) + 420 }) (mg dA D al ext) (mK sk sv) [.ref (al 74), .int a0] h (mv_Rl (fun v σ1 => rv = v ∧ rg = σ1 ∧ mv_r σ1 = mv_r h)) := by
  refine mv_C.ofV (cc := b_Book_eval) (nL := 6) (ret := (Option.some Jvm.ClassFile.FieldType.long)) (by decide +kernel) rfl hi (Nat.le_of_ble_eq_true rfl) ?_
  intro p e s m below meth c B hNs hr hnm hno
  have lp66 : ∀ (nn66 : Nat) (x2 : Int32) (x4 : Int64) (hz : mv_H), mv_r hz = mv_r h → f_Book_eval_66 74 (f_BookE 74 nn) nn66 x2 x4 hz = some (rv, rg) → mv_V p l e ({ frames := nn + 1 + 7, cells := 0, slots := 0, locals := 28 * (nn + 1) + 420 }) s m ([.ref (al 74), .int a0] : List Value).toArray below meth c (mg dA D al ext) 6 0 0 (mv_Q (mg dA D al ext) below s 0 0 (mv_Rl (fun v σ1 => rv = v ∧ rg = σ1 ∧ mv_r σ1 = mv_r h))) hz 66 [(0, .ref (al 74)), (2, .int x2), (4, .long x4)] [] := by
    intro nn66
    induction nn66 with
    | zero => intro x2 x4 hz r_hz hf; cases hf
    | succ nn66 ih66 =>
      intro x2 x4 hz r_hz hf
      have hf : fF_Book_eval_66 74 (f_BookE 74 nn) (f_Book_eval_66 74 (f_BookE 74 nn) nn66) x2 x4 hz = some (rv, rg) := hf
      unfold fF_Book_eval_66 at hf
      refine mv_aload_n (pc := 66) B d_Book_eval_66 rfl 0 rfl ?_
      refine mv_getI (pc := 67) (ci := 12) (C := R_Book) (T := F_Book) (N := 65) B 62 rfl rfl (by decide) i_Book (B.2.2.2.1 _ k_1911) rfl d_Book_eval_67 ?_
      refine mv_iload_n (pc := 70) B d_Book_eval_70 rfl 1 rfl ?_
      refine mv_icmp_le (pc := 71) (tgt := 175) B d_Book_eval_71 rfl (fun h71 => ?_) (fun h71 => ?_)
      · skip
        have hf := xif_t h71 hf
        refine mv_lload (pc := 175) B d_Book_eval_175 2 rfl ?_
        exact mv_lret (pc := 177) B hr d_Book_eval_177 (Nat.le_refl _) (Nat.le_refl _) ⟨_, rfl, xrh_l hf r_hz⟩
      · skip
        have hf := xif_f h71 hf
        refine mv_aload_n (pc := 74) B d_Book_eval_74 rfl 0 rfl ?_
        refine mv_dup (pc := 75) B d_Book_eval_75 rfl ?_
        refine mv_getI (pc := 76) (ci := 12) (C := R_Book) (T := F_Book) (N := 65) B 62 rfl rfl (by decide) i_Book (B.2.2.2.1 _ k_1911) rfl d_Book_eval_76 ?_
        refine mv_iconst (pc := 79) (v := 1) B d_Book_eval_79 (by decide) ?_
        refine mv_isub (pc := 80) B d_Book_eval_80 ?_
        refine mv_putI (pc := 81) (ci := 12) (C := R_Book) (T := F_Book) (N := 65) B 62 rfl rfl (by decide) i_Book t_Book_ok n_Book (B.2.2.2.1 _ k_1911) rfl rfl rfl rfl d_Book_eval_81 ?_
        refine mvh_hp (R9 := mv_r h) hf r_hz (fun g1 hf r_g1 => ?_)
        refine mv_aload_n (pc := 84) B d_Book_eval_84 rfl 0 rfl ?_
        refine mv_getR (pc := 85) (ci := 12) (C := R_Book) (T := F_Book) (N := 65) B 59 rfl rfl (by decide) i_Book (B.2.2.2.1 _ k_1908) rfl ((congrFun (congrFun r_g1 74) 59).trans (hb 74 59 _ rfl)) d_Book_eval_85 ?_
        refine mv_aload_n (pc := 88) B d_Book_eval_88 rfl 0 rfl ?_
        refine mv_getI (pc := 89) (ci := 12) (C := R_Book) (T := F_Book) (N := 65) B 62 rfl rfl (by decide) i_Book (B.2.2.2.1 _ k_1911) rfl d_Book_eval_89 ?_
        obtain ⟨q2, hf⟩ := xvi_e hf
        refine mv_iald (pc := 92) B rfl q2 d_Book_eval_92 ?_
        refine mv_istore_n (pc := 93) B d_Book_eval_93 rfl (by decide) rfl ?_
        refine mv_aload_n (pc := 94) B d_Book_eval_94 rfl 1 rfl ?_
        refine mv_getR (pc := 95) (ci := 12) (C := R_Book) (T := F_Book) (N := 65) B 40 rfl rfl (by decide) i_Book (B.2.2.2.1 _ k_1889) rfl ((congrFun (congrFun r_g1 74) 40).trans (hb 74 40 _ rfl)) d_Book_eval_95 ?_
        refine mv_iload_n (pc := 98) B d_Book_eval_98 rfl 0 rfl ?_
        obtain ⟨q3, hf⟩ := xvi_e hf
        refine mv_iald (pc := 99) B rfl q3 d_Book_eval_99 ?_
        refine mv_bipush (pc := 100) (v := 8) B d_Book_eval_100 (by decide) ?_
        refine mv_icmp_ne (pc := 102) (tgt := 128) B d_Book_eval_102 rfl (fun h102 => ?_) (fun h102 => ?_)
        · skip
          have hf := xif_f h102 hf
          refine mv_aload_n (pc := 128) B d_Book_eval_128 rfl 1 rfl ?_
          refine mv_aload_n (pc := 129) B d_Book_eval_129 rfl 1 rfl ?_
          refine mv_getR (pc := 130) (ci := 12) (C := R_Book) (T := F_Book) (N := 65) B 43 rfl rfl (by decide) i_Book (B.2.2.2.1 _ k_1892) rfl ((congrFun (congrFun r_g1 74) 43).trans (hb 74 43 _ rfl)) d_Book_eval_130 ?_
          refine mv_iload_n (pc := 133) B d_Book_eval_133 rfl 0 rfl ?_
          obtain ⟨q4, hf⟩ := xvi_e hf
          refine mv_iald (pc := 134) B rfl q4 d_Book_eval_134 ?_
          refine mv_lload (pc := 135) B d_Book_eval_135 3 rfl ?_
          refine mv_aload_n (pc := 137) B d_Book_eval_137 rfl 1 rfl ?_
          refine mv_aload_n (pc := 138) B d_Book_eval_138 rfl 1 rfl ?_
          refine mv_getR (pc := 139) (ci := 12) (C := R_Book) (T := F_Book) (N := 65) B 42 rfl rfl (by decide) i_Book (B.2.2.2.1 _ k_1891) rfl ((congrFun (congrFun r_g1 74) 42).trans (hb 74 42 _ rfl)) d_Book_eval_139 ?_
          refine mv_iload_n (pc := 142) B d_Book_eval_142 rfl 0 rfl ?_
          obtain ⟨q5, hf⟩ := xvi_e hf
          refine mv_iald (pc := 143) B rfl q5 d_Book_eval_143 ?_
          obtain ⟨u7, g6, eg6, hf⟩ := xhb_e hf
          refine mv_callVl (pc := 144) (n := 1) (ci := 12) (C := R_Book) B (mK_ok sk sv) hNs rfl rfl (ih.1 _ _ _ _ (xrw r_g1 hb) eg6) rfl (ma_goodc kc_Book_eval) (B.2.2.2.1 _ k_2500) (B.2.2.2.1 _ k_2502) (B.2.2.2.1 _ ks_131) (B.2.2.2.1 _ k_13) ⟨by decide +kernel, by decide +kernel, by decide +kernel⟩ rfl d_Book_eval_144 rfl (Nat.le_of_ble_eq_true rfl) ⟨by first | decide | (dsimp only; omega), by first | decide | (dsimp only; omega)⟩ ⟨Nat.le_refl _, Nat.le_refl _⟩ ⟨Nat.le_refl _, Nat.le_refl _⟩ (mv_noH hno _) (fun w144 σ144 h144 => ?_)
          obtain ⟨rfl, rfl, s_g6⟩ := h144
          have r_g6 : mv_r g6 = mv_r h := s_g6.trans r_g1
          refine mv_aload_n (pc := 147) B d_Book_eval_147 rfl 1 rfl ?_
          refine mv_getR (pc := 148) (ci := 12) (C := R_Book) (T := F_Book) (N := 65) B 45 rfl rfl (by decide) i_Book (B.2.2.2.1 _ k_1894) rfl ((congrFun (congrFun r_g6 74) 45).trans (hb 74 45 _ rfl)) d_Book_eval_148 ?_
          refine mv_aload_n (pc := 151) B d_Book_eval_151 rfl 1 rfl ?_
          refine mv_getR (pc := 152) (ci := 12) (C := R_Book) (T := F_Book) (N := 65) B 41 rfl rfl (by decide) i_Book (B.2.2.2.1 _ k_1890) rfl ((congrFun (congrFun r_g6 74) 41).trans (hb 74 41 _ rfl)) d_Book_eval_152 ?_
          refine mv_iload_n (pc := 155) B d_Book_eval_155 rfl 0 rfl ?_
          obtain ⟨q8, hf⟩ := xvi_e hf
          refine mv_iald (pc := 156) B rfl q8 d_Book_eval_156 ?_
          obtain ⟨q9, hf⟩ := xvi_e hf
          refine mv_iald (pc := 157) B rfl q9 d_Book_eval_157 ?_
          obtain ⟨u11, g10, eg10, hf⟩ := xhb_e hf
          refine mv_callVl (pc := 158) (n := 4) (ci := 12) (C := R_Book) B (mK_ok sk sv) hNs rfl rfl (ch_Book_apply_x l hi _ (xrw r_g6 hb) _ _ _ _ eg10) rfl (ma_goodc kc_Book_apply) (B.2.2.2.1 _ k_2528) (B.2.2.2.1 _ k_2530) (B.2.2.2.1 _ ks_136) (B.2.2.2.1 _ k_13) ⟨by decide +kernel, by decide +kernel, by decide +kernel⟩ rfl d_Book_eval_158 rfl (Nat.le_of_ble_eq_true rfl) ⟨by first | decide | (dsimp only; omega), by first | decide | (dsimp only; omega)⟩ ⟨Nat.le_refl _, Nat.le_refl _⟩ ⟨Nat.le_refl _, Nat.le_refl _⟩ (mv_noH hno _) (fun w158 σ158 h158 => ?_)
          obtain ⟨rfl, rfl, s_g10⟩ := h158
          have r_g10 : mv_r g10 = mv_r h := s_g10.trans r_g6
          refine mv_aload_n (pc := 161) B d_Book_eval_161 rfl 1 rfl ?_
          refine mv_getR (pc := 162) (ci := 12) (C := R_Book) (T := F_Book) (N := 65) B 45 rfl rfl (by decide) i_Book (B.2.2.2.1 _ k_1894) rfl ((congrFun (congrFun r_g10 74) 45).trans (hb 74 45 _ rfl)) d_Book_eval_162 ?_
          refine mv_iload_n (pc := 165) B d_Book_eval_165 rfl 0 rfl ?_
          obtain ⟨q12, hf⟩ := xvi_e hf
          refine mv_iald (pc := 166) B rfl q12 d_Book_eval_166 ?_
          obtain ⟨u14, g13, eg13, hf⟩ := xhb_e hf
          refine mv_callSl (pc := 167) (n := 2) B (mK_ok sk sv) hNs (ch_Book_cut l hi _ _ _ eg13) rfl (ma_goodc kc_Book_cut) (B.2.2.2.1 _ k_2427) (B.2.2.2.1 _ k_2428) (B.2.2.2.1 _ k_13) ⟨by decide +kernel, by decide +kernel, by decide +kernel⟩ rfl d_Book_eval_167 rfl (Nat.le_of_ble_eq_true rfl) ⟨by first | decide | (dsimp only; omega), by first | decide | (dsimp only; omega)⟩ ⟨Nat.le_refl _, Nat.le_refl _⟩ ⟨Nat.le_refl _, Nat.le_refl _⟩ (mv_noH hno _) (fun w167 σ167 h167 => ?_)
          obtain ⟨rfl, rfl, s_g13⟩ := h167
          have r_g13 : mv_r g13 = mv_r h := s_g13.trans r_g10
          refine mv_lstore (pc := 170) B d_Book_eval_170 (by decide) rfl ?_
          refine mv_goto (pc := 172) (tgt := 66) B d_Book_eval_172 rfl ?_
          refine mv_lpick [2, 3, 0] rfl ?_
          exact ih66 _ _ _ r_g13 hf
        · skip
          have hf := xif_t h102 hf
          refine mv_lload (pc := 105) B d_Book_eval_105 3 rfl ?_
          refine mv_aload_n (pc := 107) B d_Book_eval_107 rfl 1 rfl ?_
          refine mv_getR (pc := 108) (ci := 12) (C := R_Book) (T := F_Book) (N := 65) B 43 rfl rfl (by decide) i_Book (B.2.2.2.1 _ k_1892) rfl ((congrFun (congrFun r_g1 74) 43).trans (hb 74 43 _ rfl)) d_Book_eval_108 ?_
          refine mv_iload_n (pc := 111) B d_Book_eval_111 rfl 0 rfl ?_
          obtain ⟨q15, hf⟩ := xvi_e hf
          refine mv_iald (pc := 112) B rfl q15 d_Book_eval_112 ?_
          refine mv_lushr (pc := 113) B d_Book_eval_113 ?_
          refine mv_aload_n (pc := 114) B d_Book_eval_114 rfl 1 rfl ?_
          refine mv_getR (pc := 115) (ci := 12) (C := R_Book) (T := F_Book) (N := 65) B 45 rfl rfl (by decide) i_Book (B.2.2.2.1 _ k_1894) rfl ((congrFun (congrFun r_g1 74) 45).trans (hb 74 45 _ rfl)) d_Book_eval_115 ?_
          refine mv_iload_n (pc := 118) B d_Book_eval_118 rfl 0 rfl ?_
          obtain ⟨q16, hf⟩ := xvi_e hf
          refine mv_iald (pc := 119) B rfl q16 d_Book_eval_119 ?_
          obtain ⟨u18, g17, eg17, hf⟩ := xhb_e hf
          refine mv_callSl (pc := 120) (n := 2) B (mK_ok sk sv) hNs (ch_Book_cut l hi _ _ _ eg17) rfl (ma_goodc kc_Book_cut) (B.2.2.2.1 _ k_2427) (B.2.2.2.1 _ k_2428) (B.2.2.2.1 _ k_13) ⟨by decide +kernel, by decide +kernel, by decide +kernel⟩ rfl d_Book_eval_120 rfl (Nat.le_of_ble_eq_true rfl) ⟨by first | decide | (dsimp only; omega), by first | decide | (dsimp only; omega)⟩ ⟨Nat.le_refl _, Nat.le_refl _⟩ ⟨Nat.le_refl _, Nat.le_refl _⟩ (mv_noH hno _) (fun w120 σ120 h120 => ?_)
          obtain ⟨rfl, rfl, s_g17⟩ := h120
          have r_g17 : mv_r g17 = mv_r h := s_g17.trans r_g1
          refine mv_lstore (pc := 123) B d_Book_eval_123 (by decide) rfl ?_
          refine mv_goto (pc := 125) (tgt := 66) B d_Book_eval_125 rfl ?_
          refine mv_lpick [2, 3, 0] rfl ?_
          exact ih66 _ _ _ r_g17 hf
  have lp7 : ∀ (nn7 : Nat) (x2 : Int32) (x3 : Int32) (hz : mv_H), mv_r hz = mv_r h → f_Book_eval_7 74 (f_BookE 74 nn) nn7 x2 x3 hz = some (rv, rg) → mv_V p l e ({ frames := nn + 1 + 7, cells := 0, slots := 0, locals := 28 * (nn + 1) + 420 }) s m ([.ref (al 74), .int a0] : List Value).toArray below meth c (mg dA D al ext) 6 0 0 (mv_Q (mg dA D al ext) below s 0 0 (mv_Rl (fun v σ1 => rv = v ∧ rg = σ1 ∧ mv_r σ1 = mv_r h))) hz 7 [(0, .ref (al 74)), (2, .int x2), (3, .int x3)] [] := by
    intro nn7
    induction nn7 with
    | zero => intro x2 x3 hz r_hz hf; cases hf
    | succ nn7 ih7 =>
      intro x2 x3 hz r_hz hf
      have jn29 : ∀ (x2 : Int32) (x3 : Int32) (hz : mv_H), mv_r hz = mv_r h → f_Book_eval_29 74 (f_BookE 74 nn) (f_Book_eval_7 74 (f_BookE 74 nn) nn7) x2 x3 hz = some (rv, rg) → mv_V p l e ({ frames := nn + 1 + 7, cells := 0, slots := 0, locals := 28 * (nn + 1) + 420 }) s m ([.ref (al 74), .int a0] : List Value).toArray below meth c (mg dA D al ext) 6 0 0 (mv_Q (mg dA D al ext) below s 0 0 (mv_Rl (fun v σ1 => rv = v ∧ rg = σ1 ∧ mv_r σ1 = mv_r h))) hz 29 [(0, .ref (al 74)), (2, .int x2), (3, .int x3)] [] := by
        intro x2 x3 hz r_hz hf
        unfold f_Book_eval_29 at hf
        refine mv_aload_n (pc := 29) B d_Book_eval_29 rfl 0 rfl ?_
        refine mv_getR (pc := 30) (ci := 12) (C := R_Book) (T := F_Book) (N := 65) B 59 rfl rfl (by decide) i_Book (B.2.2.2.1 _ k_1908) rfl ((congrFun (congrFun r_hz 74) 59).trans (hb 74 59 _ rfl)) d_Book_eval_30 ?_
        refine mv_aload_n (pc := 33) B d_Book_eval_33 rfl 0 rfl ?_
        refine mv_getI (pc := 34) (ci := 12) (C := R_Book) (T := F_Book) (N := 65) B 62 rfl rfl (by decide) i_Book (B.2.2.2.1 _ k_1911) rfl d_Book_eval_34 ?_
        refine mv_iload_n (pc := 37) B d_Book_eval_37 rfl 2 rfl ?_
        obtain ⟨q19, hf⟩ := xvi_e hf
        refine mv_iast (pc := 38) B rfl q19 d_Book_eval_38 ?_
        refine mvh_hp (R9 := mv_r h) hf r_hz (fun g20 hf r_g20 => ?_)
        refine mv_aload_n (pc := 39) B d_Book_eval_39 rfl 0 rfl ?_
        refine mv_dup (pc := 40) B d_Book_eval_40 rfl ?_
        refine mv_getI (pc := 41) (ci := 12) (C := R_Book) (T := F_Book) (N := 65) B 62 rfl rfl (by decide) i_Book (B.2.2.2.1 _ k_1911) rfl d_Book_eval_41 ?_
        refine mv_iconst (pc := 44) (v := 1) B d_Book_eval_44 (by decide) ?_
        refine mv_iadd (pc := 45) B d_Book_eval_45 ?_
        refine mv_putI (pc := 46) (ci := 12) (C := R_Book) (T := F_Book) (N := 65) B 62 rfl rfl (by decide) i_Book t_Book_ok n_Book (B.2.2.2.1 _ k_1911) rfl rfl rfl rfl d_Book_eval_46 ?_
        refine mvh_hp (R9 := mv_r h) hf r_g20 (fun g21 hf r_g21 => ?_)
        refine mv_aload_n (pc := 49) B d_Book_eval_49 rfl 0 rfl ?_
        refine mv_getR (pc := 50) (ci := 12) (C := R_Book) (T := F_Book) (N := 65) B 41 rfl rfl (by decide) i_Book (B.2.2.2.1 _ k_1890) rfl ((congrFun (congrFun r_g21 74) 41).trans (hb 74 41 _ rfl)) d_Book_eval_50 ?_
        refine mv_iload_n (pc := 53) B d_Book_eval_53 rfl 2 rfl ?_
        obtain ⟨q22, hf⟩ := xvi_e hf
        refine mv_iald (pc := 54) B rfl q22 d_Book_eval_54 ?_
        refine mv_istore_n (pc := 55) B d_Book_eval_55 rfl (by decide) rfl ?_
        refine mv_goto (pc := 56) (tgt := 7) B d_Book_eval_56 rfl ?_
        refine mv_lpick [1, 2, 0] rfl ?_
        exact ih7 _ _ _ r_g21 hf
      have hf : fF_Book_eval_7 74 (f_BookE 74 nn) (f_Book_eval_7 74 (f_BookE 74 nn) nn7) x2 x3 hz = some (rv, rg) := hf
      unfold fF_Book_eval_7 at hf
      refine mv_aload_n (pc := 7) B d_Book_eval_7 rfl 0 rfl ?_
      refine mv_getR (pc := 8) (ci := 12) (C := R_Book) (T := F_Book) (N := 65) B 40 rfl rfl (by decide) i_Book (B.2.2.2.1 _ k_1889) rfl ((congrFun (congrFun r_hz 74) 40).trans (hb 74 40 _ rfl)) d_Book_eval_8 ?_
      refine mv_iload_n (pc := 11) B d_Book_eval_11 rfl 2 rfl ?_
      obtain ⟨q23, hf⟩ := xvi_e hf
      refine mv_iald (pc := 12) B rfl q23 d_Book_eval_12 ?_
      refine mv_bipush (pc := 13) (v := 7) B d_Book_eval_13 (by decide) ?_
      refine mv_icmp_eq (pc := 15) (tgt := 29) B d_Book_eval_15 rfl (fun h15 => ?_) (fun h15 => ?_)
      · skip
        have hf := xif_t h15 hf
        refine mv_lpick [0, 1, 2] rfl ?_
        exact jn29 _ _ _ r_hz hf
      · skip
        have hf := xif_f h15 hf
        refine mv_aload_n (pc := 18) B d_Book_eval_18 rfl 0 rfl ?_
        refine mv_getR (pc := 19) (ci := 12) (C := R_Book) (T := F_Book) (N := 65) B 40 rfl rfl (by decide) i_Book (B.2.2.2.1 _ k_1889) rfl ((congrFun (congrFun r_hz 74) 40).trans (hb 74 40 _ rfl)) d_Book_eval_19 ?_
        refine mv_iload_n (pc := 22) B d_Book_eval_22 rfl 2 rfl ?_
        obtain ⟨q24, hf⟩ := xvi_e hf
        refine mv_iald (pc := 23) B rfl q24 d_Book_eval_23 ?_
        refine mv_bipush (pc := 24) (v := 8) B d_Book_eval_24 (by decide) ?_
        refine mv_icmp_ne (pc := 26) (tgt := 59) B d_Book_eval_26 rfl (fun h26 => ?_) (fun h26 => ?_)
        · skip
          have hf := xif_f h26 hf
          refine mv_aload_n (pc := 59) B d_Book_eval_59 rfl 0 rfl ?_
          refine mv_iload_n (pc := 60) B d_Book_eval_60 rfl 2 rfl ?_
          obtain ⟨u26, g25, eg25, hf⟩ := xhb_e hf
          refine mv_callVl (pc := 61) (n := 1) (ci := 12) (C := R_Book) B (mK_ok sk sv) hNs rfl rfl (ih.2.1 _ _ _ _ (xrw r_hz hb) eg25) rfl (ma_goodc kc_Book_simple) (B.2.2.2.1 _ k_2504) (B.2.2.2.1 _ k_2506) (B.2.2.2.1 _ ks_132) (B.2.2.2.1 _ k_13) ⟨by decide +kernel, by decide +kernel, by decide +kernel⟩ rfl d_Book_eval_61 rfl (Nat.le_of_ble_eq_true rfl) ⟨by first | decide | (dsimp only; omega), by first | decide | (dsimp only; omega)⟩ ⟨Nat.le_refl _, Nat.le_refl _⟩ ⟨Nat.le_refl _, Nat.le_refl _⟩ (mv_noH hno _) (fun w61 σ61 h61 => ?_)
          obtain ⟨rfl, rfl, s_g25⟩ := h61
          have r_g25 : mv_r g25 = mv_r h := s_g25.trans r_hz
          refine mv_lstore (pc := 64) B d_Book_eval_64 (by decide) rfl ?_
          refine mv_lpick [1, 2, 0] rfl ?_
          exact lp66 _ _ _ _ r_g25 hf
        · skip
          have hf := xif_t h26 hf
          refine mv_lpick [0, 1, 2] rfl ?_
          exact jn29 _ _ _ r_hz hf
  unfold f_Book_eval at hf
  refine mv_aload_n (pc := 0) B d_Book_eval_0 rfl 0 rfl ?_
  refine mv_getI (pc := 1) (ci := 12) (C := R_Book) (T := F_Book) (N := 65) B 62 rfl rfl (by decide) i_Book (B.2.2.2.1 _ k_1911) rfl d_Book_eval_1 ?_
  refine mv_istore_n (pc := 4) B d_Book_eval_4 rfl (by decide) rfl ?_
  refine mv_iload_n (pc := 5) B d_Book_eval_5 rfl 2 rfl ?_
  refine mv_istore_n (pc := 6) B d_Book_eval_6 rfl (by decide) rfl ?_
  refine mv_lpick [2, 1, 0] rfl ?_
  exact lp7 _ _ _ _ rfl hf
set_option maxHeartbeats 4000000 in
set_option maxRecDepth 100000 in
theorem cr_Book_simple_x (l : Launch) {dA : FieldType → ClassId} {D : va_G} {al : Nat → Nat} {ext : mv_Sh} {sk sv : Nat → Nat} (hi : mv_inj (mg dA D al ext)) (nn : Nat) (ih : RecE l dA D al ext sk sv 74 nn) (h : mv_H) (hb : mh (mv_r h))  (a0 : Int32) {rv : Int64} {rg : mv_H} (hf : f_Book_simple 74 (f_BookE 74 nn) h a0 = some (rv, rg)) : mv_C l y_Book_simple (Cond.code y_Book_simple b_Book_simple 2 (Option.some Jvm.ClassFile.FieldType.long) :: ma) ({ frames := nn + 1 + 7, cells := 0, slots := 0, locals := 28 * (nn + 1) + 420 }) (mg dA D al ext) (mK sk sv) [.ref (al 74), .int a0] h (mv_Rl (fun v σ1 => rv = v ∧ rg = σ1 ∧ mv_r σ1 = mv_r h)) := by
  refine mv_C.ofV (cc := b_Book_simple) (nL := 2) (ret := (Option.some Jvm.ClassFile.FieldType.long)) (by decide +kernel) rfl hi (Nat.le_of_ble_eq_true rfl) ?_
  intro p e s m below meth c B hNs hr hnm hno
  have jn245 : ∀ (x1 : Int32) (hz : mv_H), mv_r hz = mv_r h → f_Book_simple_245 74 (f_BookE 74 nn) x1 hz = some (rv, rg) → mv_V p l e ({ frames := nn + 1 + 7, cells := 0, slots := 0, locals := 28 * (nn + 1) + 420 }) s m ([.ref (al 74), .int a0] : List Value).toArray below meth c (mg dA D al ext) 2 0 0 (mv_Q (mg dA D al ext) below s 0 0 (mv_Rl (fun v σ1 => rv = v ∧ rg = σ1 ∧ mv_r σ1 = mv_r h))) hz 245 [(0, .ref (al 74)), (1, .int x1)] [] := by
    intro x1 hz r_hz hf
    unfold f_Book_simple_245 at hf
    refine mv_aload_n (pc := 245) B d_Book_simple_245 rfl 0 rfl ?_
    refine mv_aload_n (pc := 246) B d_Book_simple_246 rfl 0 rfl ?_
    refine mv_getR (pc := 247) (ci := 12) (C := R_Book) (T := F_Book) (N := 65) B 41 rfl rfl (by decide) i_Book (B.2.2.2.1 _ k_1890) rfl ((congrFun (congrFun r_hz 74) 41).trans (hb 74 41 _ rfl)) d_Book_simple_247 ?_
    refine mv_iload_n (pc := 250) B d_Book_simple_250 rfl 1 rfl ?_
    obtain ⟨q1, hf⟩ := xvi_e hf
    refine mv_iald (pc := 251) B rfl q1 d_Book_simple_251 ?_
    obtain ⟨u3, g2, eg2, hf⟩ := xhb_e hf
    refine mv_callVl (pc := 252) (n := 1) (ci := 12) (C := R_Book) B (mK_ok sk sv) hNs rfl rfl (ih.1 _ _ _ _ (xrw r_hz hb) eg2) rfl (ma_goodc kc_Book_eval) (B.2.2.2.1 _ k_2500) (B.2.2.2.1 _ k_2502) (B.2.2.2.1 _ ks_131) (B.2.2.2.1 _ k_13) ⟨by decide +kernel, by decide +kernel, by decide +kernel⟩ rfl d_Book_simple_252 rfl (Nat.le_of_ble_eq_true rfl) ⟨by first | decide | (dsimp only; omega), by first | decide | (dsimp only; omega)⟩ ⟨Nat.le_refl _, Nat.le_refl _⟩ ⟨Nat.le_refl _, Nat.le_refl _⟩ (mv_noH hno _) (fun w252 σ252 h252 => ?_)
    obtain ⟨rfl, rfl, s_g2⟩ := h252
    have r_g2 : mv_r g2 = mv_r h := s_g2.trans r_hz
    exact mv_lret (pc := 255) B hr d_Book_simple_255 (Nat.le_refl _) (Nat.le_refl _) ⟨_, rfl, xrh_l hf r_g2⟩
  unfold f_Book_simple at hf
  refine mv_aload_n (pc := 0) B d_Book_simple_0 rfl 0 rfl ?_
  refine mv_getR (pc := 1) (ci := 12) (C := R_Book) (T := F_Book) (N := 65) B 40 rfl rfl (by decide) i_Book (B.2.2.2.1 _ k_1889) rfl (hb 74 40 _ rfl) d_Book_simple_1 ?_
  refine mv_iload_n (pc := 4) B d_Book_simple_4 rfl 1 rfl ?_
  obtain ⟨q4, hf⟩ := xvi_e hf
  refine mv_iald (pc := 5) B rfl q4 d_Book_simple_5 ?_
  refine mv_tsw (pc := 6) B d_Book_simple_6 (by decide) (by decide) ?_
  refine ⟨fun h6 => ?_, fun h6n1 => ?_⟩
  · skip
    have hf := xif_t h6 hf
    show mv_V _ _ _ _ _ _ _ _ _ _ _ _ _ _ _ _ 64 _ _
    refine mv_aload_n (pc := 64) B d_Book_simple_64 rfl 0 rfl ?_
    refine mv_getR (pc := 65) (ci := 12) (C := R_Book) (T := F_Book) (N := 65) B 46 rfl rfl (by decide) i_Book (B.2.2.2.1 _ k_1895) rfl (hb 74 46 _ rfl) d_Book_simple_65 ?_
    refine mv_iload_n (pc := 68) B d_Book_simple_68 rfl 1 rfl ?_
    obtain ⟨q5, hf⟩ := xvi_e hf
    refine mv_lald (pc := 69) B rfl q5 d_Book_simple_69 ?_
    exact mv_lret (pc := 70) B hr d_Book_simple_70 (Nat.le_refl _) (Nat.le_refl _) ⟨_, rfl, xrh_l hf rfl⟩
  have hf := xif_f h6n1 hf
  refine ⟨fun h6 => ?_, fun h6n2 => ?_⟩
  · skip
    have hf := xif_t h6 hf
    show mv_V _ _ _ _ _ _ _ _ _ _ _ _ _ _ _ _ 71 _ _
    refine mv_aload_n (pc := 71) B d_Book_simple_71 rfl 0 rfl ?_
    refine mv_aload_n (pc := 72) B d_Book_simple_72 rfl 0 rfl ?_
    refine mv_getR (pc := 73) (ci := 12) (C := R_Book) (T := F_Book) (N := 65) B 41 rfl rfl (by decide) i_Book (B.2.2.2.1 _ k_1890) rfl (hb 74 41 _ rfl) d_Book_simple_73 ?_
    refine mv_iload_n (pc := 76) B d_Book_simple_76 rfl 1 rfl ?_
    obtain ⟨q6, hf⟩ := xvi_e hf
    refine mv_iald (pc := 77) B rfl q6 d_Book_simple_77 ?_
    refine mv_iconst (pc := 78) (v := 0) B d_Book_simple_78 (by decide) ?_
    obtain ⟨u8, g7, eg7, hf⟩ := xhb_e hf
    refine mv_callVl (pc := 79) (n := 2) (ci := 12) (C := R_Book) B (mK_ok sk sv) hNs rfl rfl (ch_Book_read_0_x l hi _ (hb) _ _ eg7) rfl (ma_goodc kc_Book_read_0) (B.2.2.2.1 _ k_2508) (B.2.2.2.1 _ k_2510) (B.2.2.2.1 _ ks_133) (B.2.2.2.1 _ k_13) ⟨by decide +kernel, by decide +kernel, by decide +kernel⟩ rfl d_Book_simple_79 rfl (Nat.le_of_ble_eq_true rfl) ⟨by first | decide | (dsimp only; omega), by first | decide | (dsimp only; omega)⟩ ⟨Nat.le_refl _, Nat.le_refl _⟩ ⟨Nat.le_refl _, Nat.le_refl _⟩ (mv_noH hno _) (fun w79 σ79 h79 => ?_)
    obtain ⟨rfl, rfl, s_g7⟩ := h79
    have r_g7 : mv_r g7 = mv_r h := s_g7.trans rfl
    exact mv_lret (pc := 82) B hr d_Book_simple_82 (Nat.le_refl _) (Nat.le_refl _) ⟨_, rfl, xrh_l hf r_g7⟩
  have hf := xif_f h6n2 hf
  refine ⟨fun h6 => ?_, fun h6n3 => ?_⟩
  · skip
    have hf := xif_t h6 hf
    show mv_V _ _ _ _ _ _ _ _ _ _ _ _ _ _ _ _ 83 _ _
    refine mv_aload_n (pc := 83) B d_Book_simple_83 rfl 0 rfl ?_
    refine mv_aload_n (pc := 84) B d_Book_simple_84 rfl 0 rfl ?_
    refine mv_getR (pc := 85) (ci := 12) (C := R_Book) (T := F_Book) (N := 65) B 41 rfl rfl (by decide) i_Book (B.2.2.2.1 _ k_1890) rfl (hb 74 41 _ rfl) d_Book_simple_85 ?_
    refine mv_iload_n (pc := 88) B d_Book_simple_88 rfl 1 rfl ?_
    obtain ⟨q9, hf⟩ := xvi_e hf
    refine mv_iald (pc := 89) B rfl q9 d_Book_simple_89 ?_
    refine mv_aload_n (pc := 90) B d_Book_simple_90 rfl 0 rfl ?_
    refine mv_aload_n (pc := 91) B d_Book_simple_91 rfl 0 rfl ?_
    refine mv_getR (pc := 92) (ci := 12) (C := R_Book) (T := F_Book) (N := 65) B 42 rfl rfl (by decide) i_Book (B.2.2.2.1 _ k_1891) rfl (hb 74 42 _ rfl) d_Book_simple_92 ?_
    refine mv_iload_n (pc := 95) B d_Book_simple_95 rfl 1 rfl ?_
    obtain ⟨q10, hf⟩ := xvi_e hf
    refine mv_iald (pc := 96) B rfl q10 d_Book_simple_96 ?_
    obtain ⟨u12, g11, eg11, hf⟩ := xhb_e hf
    refine mv_callVl (pc := 97) (n := 1) (ci := 12) (C := R_Book) B (mK_ok sk sv) hNs rfl rfl (ih.1 _ _ _ _ (hb) eg11) rfl (ma_goodc kc_Book_eval) (B.2.2.2.1 _ k_2500) (B.2.2.2.1 _ k_2502) (B.2.2.2.1 _ ks_131) (B.2.2.2.1 _ k_13) ⟨by decide +kernel, by decide +kernel, by decide +kernel⟩ rfl d_Book_simple_97 rfl (Nat.le_of_ble_eq_true rfl) ⟨by first | decide | (dsimp only; omega), by first | decide | (dsimp only; omega)⟩ ⟨Nat.le_refl _, Nat.le_refl _⟩ ⟨Nat.le_refl _, Nat.le_refl _⟩ (mv_noH hno _) (fun w97 σ97 h97 => ?_)
    obtain ⟨rfl, rfl, s_g11⟩ := h97
    have r_g11 : mv_r g11 = mv_r h := s_g11.trans rfl
    obtain ⟨u14, g13, eg13, hf⟩ := xhb_e hf
    refine mv_callVl (pc := 100) (n := 2) (ci := 12) (C := R_Book) B (mK_ok sk sv) hNs rfl rfl (ch_Book_cell_x l hi _ (xrw r_g11 hb) _ _ eg13) rfl (ma_goodc kc_Book_cell) (B.2.2.2.1 _ k_2512) (B.2.2.2.1 _ k_2514) (B.2.2.2.1 _ ks_134) (B.2.2.2.1 _ k_13) ⟨by decide +kernel, by decide +kernel, by decide +kernel⟩ rfl d_Book_simple_100 rfl (Nat.le_of_ble_eq_true rfl) ⟨by first | decide | (dsimp only; omega), by first | decide | (dsimp only; omega)⟩ ⟨Nat.le_refl _, Nat.le_refl _⟩ ⟨Nat.le_refl _, Nat.le_refl _⟩ (mv_noH hno _) (fun w100 σ100 h100 => ?_)
    obtain ⟨rfl, rfl, s_g13⟩ := h100
    have r_g13 : mv_r g13 = mv_r h := s_g13.trans r_g11
    exact mv_lret (pc := 103) B hr d_Book_simple_103 (Nat.le_refl _) (Nat.le_refl _) ⟨_, rfl, xrh_l hf r_g13⟩
  have hf := xif_f h6n3 hf
  refine ⟨fun h6 => ?_, fun h6n4 => ?_⟩
  · skip
    have hf := xif_t h6 hf
    show mv_V _ _ _ _ _ _ _ _ _ _ _ _ _ _ _ _ 104 _ _
    refine mv_aload_n (pc := 104) B d_Book_simple_104 rfl 0 rfl ?_
    refine mv_aload_n (pc := 105) B d_Book_simple_105 rfl 0 rfl ?_
    refine mv_getI (pc := 106) (ci := 12) (C := R_Book) (T := F_Book) (N := 65) B 63 rfl rfl (by decide) i_Book (B.2.2.2.1 _ k_1912) rfl d_Book_simple_106 ?_
    refine mv_aload_n (pc := 109) B d_Book_simple_109 rfl 0 rfl ?_
    refine mv_getR (pc := 110) (ci := 12) (C := R_Book) (T := F_Book) (N := 65) B 41 rfl rfl (by decide) i_Book (B.2.2.2.1 _ k_1890) rfl (hb 74 41 _ rfl) d_Book_simple_110 ?_
    refine mv_iload_n (pc := 113) B d_Book_simple_113 rfl 1 rfl ?_
    obtain ⟨q15, hf⟩ := xvi_e hf
    refine mv_iald (pc := 114) B rfl q15 d_Book_simple_114 ?_
    refine mv_aload_n (pc := 115) B d_Book_simple_115 rfl 0 rfl ?_
    refine mv_getL (pc := 116) (ci := 12) (C := R_Book) (T := F_Book) (N := 65) B 52 rfl rfl (by decide) i_Book (B.2.2.2.1 _ k_1901) rfl d_Book_simple_116 ?_
    obtain ⟨u17, g16, eg16, hf⟩ := xhb_e hf
    refine mv_callVl (pc := 119) (n := 3) (ci := 12) (C := R_Book) B (mK_ok sk sv) hNs rfl rfl (ch_Book_field_x l hi _ (hb) _ _ _ eg16) rfl (ma_goodc kc_Book_field) (B.2.2.2.1 _ k_2516) (B.2.2.2.1 _ k_2408) (B.2.2.2.1 _ k_2409) (B.2.2.2.1 _ k_13) ⟨by decide +kernel, by decide +kernel, by decide +kernel⟩ rfl d_Book_simple_119 rfl (Nat.le_of_ble_eq_true rfl) ⟨by first | decide | (dsimp only; omega), by first | decide | (dsimp only; omega)⟩ ⟨Nat.le_refl _, Nat.le_refl _⟩ ⟨Nat.le_refl _, Nat.le_refl _⟩ (mv_noH hno _) (fun w119 σ119 h119 => ?_)
    obtain ⟨rfl, rfl, s_g16⟩ := h119
    have r_g16 : mv_r g16 = mv_r h := s_g16.trans rfl
    exact mv_lret (pc := 122) B hr d_Book_simple_122 (Nat.le_refl _) (Nat.le_refl _) ⟨_, rfl, xrh_l hf r_g16⟩
  have hf := xif_f h6n4 hf
  refine ⟨fun h6 => ?_, fun h6n5 => ?_⟩
  · skip
    have hf := xif_t h6 hf
    show mv_V _ _ _ _ _ _ _ _ _ _ _ _ _ _ _ _ 123 _ _
    refine mv_aload_n (pc := 123) B d_Book_simple_123 rfl 0 rfl ?_
    refine mv_getR (pc := 124) (ci := 12) (C := R_Book) (T := F_Book) (N := 65) B 54 rfl rfl (by decide) i_Book (B.2.2.2.1 _ k_1903) rfl (hb 74 54 _ rfl) d_Book_simple_124 ?_
    refine mv_aload_n (pc := 127) B d_Book_simple_127 rfl 0 rfl ?_
    refine mv_getR (pc := 128) (ci := 12) (C := R_Book) (T := F_Book) (N := 65) B 41 rfl rfl (by decide) i_Book (B.2.2.2.1 _ k_1890) rfl (hb 74 41 _ rfl) d_Book_simple_128 ?_
    refine mv_iload_n (pc := 131) B d_Book_simple_131 rfl 1 rfl ?_
    obtain ⟨q18, hf⟩ := xvi_e hf
    refine mv_iald (pc := 132) B rfl q18 d_Book_simple_132 ?_
    obtain ⟨q19, hf⟩ := xvi_e hf
    refine mv_lald (pc := 133) B rfl q19 d_Book_simple_133 ?_
    exact mv_lret (pc := 134) B hr d_Book_simple_134 (Nat.le_refl _) (Nat.le_refl _) ⟨_, rfl, xrh_l hf rfl⟩
  have hf := xif_f h6n5 hf
  refine ⟨fun h6 => ?_, fun h6n6 => ?_⟩
  · skip
    have hf := xif_t h6 hf
    show mv_V _ _ _ _ _ _ _ _ _ _ _ _ _ _ _ _ 135 _ _
    refine mv_aload_n (pc := 135) B d_Book_simple_135 rfl 0 rfl ?_
    refine mv_getR (pc := 136) (ci := 12) (C := R_Book) (T := F_Book) (N := 65) B 42 rfl rfl (by decide) i_Book (B.2.2.2.1 _ k_1891) rfl (hb 74 42 _ rfl) d_Book_simple_136 ?_
    refine mv_iload_n (pc := 139) B d_Book_simple_139 rfl 1 rfl ?_
    obtain ⟨q20, hf⟩ := xvi_e hf
    refine mv_iald (pc := 140) B rfl q20 d_Book_simple_140 ?_
    refine mv_aload_n (pc := 141) B d_Book_simple_141 rfl 0 rfl ?_
    refine mv_aload_n (pc := 142) B d_Book_simple_142 rfl 0 rfl ?_
    refine mv_getR (pc := 143) (ci := 12) (C := R_Book) (T := F_Book) (N := 65) B 41 rfl rfl (by decide) i_Book (B.2.2.2.1 _ k_1890) rfl (hb 74 41 _ rfl) d_Book_simple_143 ?_
    refine mv_iload_n (pc := 146) B d_Book_simple_146 rfl 1 rfl ?_
    obtain ⟨q21, hf⟩ := xvi_e hf
    refine mv_iald (pc := 147) B rfl q21 d_Book_simple_147 ?_
    obtain ⟨u23, g22, eg22, hf⟩ := xhb_e hf
    refine mv_callVl (pc := 148) (n := 1) (ci := 12) (C := R_Book) B (mK_ok sk sv) hNs rfl rfl (ih.1 _ _ _ _ (hb) eg22) rfl (ma_goodc kc_Book_eval) (B.2.2.2.1 _ k_2500) (B.2.2.2.1 _ k_2502) (B.2.2.2.1 _ ks_131) (B.2.2.2.1 _ k_13) ⟨by decide +kernel, by decide +kernel, by decide +kernel⟩ rfl d_Book_simple_148 rfl (Nat.le_of_ble_eq_true rfl) ⟨by first | decide | (dsimp only; omega), by first | decide | (dsimp only; omega)⟩ ⟨Nat.le_refl _, Nat.le_refl _⟩ ⟨Nat.le_refl _, Nat.le_refl _⟩ (mv_noH hno _) (fun w148 σ148 h148 => ?_)
    obtain ⟨rfl, rfl, s_g22⟩ := h148
    have r_g22 : mv_r g22 = mv_r h := s_g22.trans rfl
    refine mv_aload_n (pc := 151) B d_Book_simple_151 rfl 0 rfl ?_
    refine mv_getR (pc := 152) (ci := 12) (C := R_Book) (T := F_Book) (N := 65) B 45 rfl rfl (by decide) i_Book (B.2.2.2.1 _ k_1894) rfl ((congrFun (congrFun r_g22 74) 45).trans (hb 74 45 _ rfl)) d_Book_simple_152 ?_
    refine mv_iload_n (pc := 155) B d_Book_simple_155 rfl 1 rfl ?_
    obtain ⟨q24, hf⟩ := xvi_e hf
    refine mv_iald (pc := 156) B rfl q24 d_Book_simple_156 ?_
    obtain ⟨u26, g25, eg25, hf⟩ := xhb_e hf
    refine mv_callSl (pc := 157) (n := 3) B (mK_ok sk sv) hNs (ch_Book_unaryValue l hi _ _ _ _ eg25) rfl (ma_goodc kc_Book_unaryValue) (B.2.2.2.1 _ k_2517) (B.2.2.2.1 _ k_2518) (B.2.2.2.1 _ k_13) ⟨by decide +kernel, by decide +kernel, by decide +kernel⟩ rfl d_Book_simple_157 rfl (Nat.le_of_ble_eq_true rfl) ⟨by first | decide | (dsimp only; omega), by first | decide | (dsimp only; omega)⟩ ⟨Nat.le_refl _, Nat.le_refl _⟩ ⟨Nat.le_refl _, Nat.le_refl _⟩ (mv_noH hno _) (fun w157 σ157 h157 => ?_)
    obtain ⟨rfl, rfl, s_g25⟩ := h157
    have r_g25 : mv_r g25 = mv_r h := s_g25.trans r_g22
    exact mv_lret (pc := 160) B hr d_Book_simple_160 (Nat.le_refl _) (Nat.le_refl _) ⟨_, rfl, xrh_l hf r_g25⟩
  have hf := xif_f h6n6 hf
  refine ⟨fun h6 => ?_, fun h6n7 => ?_⟩
  · skip
    have hf := xif_t h6 hf
    show mv_V _ _ _ _ _ _ _ _ _ _ _ _ _ _ _ _ 245 _ _
    refine mv_lpick [0, 1] rfl ?_
    exact jn245 _ _ rfl hf
  have hf := xif_f h6n7 hf
  refine ⟨fun h6 => ?_, fun h6n8 => ?_⟩
  · skip
    have hf := xif_t h6 hf
    show mv_V _ _ _ _ _ _ _ _ _ _ _ _ _ _ _ _ 245 _ _
    refine mv_lpick [0, 1] rfl ?_
    exact jn245 _ _ rfl hf
  have hf := xif_f h6n8 hf
  refine ⟨fun h6 => ?_, fun h6n9 => ?_⟩
  · skip
    have hf := xif_t h6 hf
    show mv_V _ _ _ _ _ _ _ _ _ _ _ _ _ _ _ _ 161 _ _
    refine mv_aload_n (pc := 161) B d_Book_simple_161 rfl 0 rfl ?_
    refine mv_aload_n (pc := 162) B d_Book_simple_162 rfl 0 rfl ?_
    refine mv_getR (pc := 163) (ci := 12) (C := R_Book) (T := F_Book) (N := 65) B 41 rfl rfl (by decide) i_Book (B.2.2.2.1 _ k_1890) rfl (hb 74 41 _ rfl) d_Book_simple_163 ?_
    refine mv_iload_n (pc := 166) B d_Book_simple_166 rfl 1 rfl ?_
    obtain ⟨q27, hf⟩ := xvi_e hf
    refine mv_iald (pc := 167) B rfl q27 d_Book_simple_167 ?_
    obtain ⟨u29, g28, eg28, hf⟩ := xhb_e hf
    refine mv_callVl (pc := 168) (n := 1) (ci := 12) (C := R_Book) B (mK_ok sk sv) hNs rfl rfl (ih.1 _ _ _ _ (hb) eg28) rfl (ma_goodc kc_Book_eval) (B.2.2.2.1 _ k_2500) (B.2.2.2.1 _ k_2502) (B.2.2.2.1 _ ks_131) (B.2.2.2.1 _ k_13) ⟨by decide +kernel, by decide +kernel, by decide +kernel⟩ rfl d_Book_simple_168 rfl (Nat.le_of_ble_eq_true rfl) ⟨by first | decide | (dsimp only; omega), by first | decide | (dsimp only; omega)⟩ ⟨Nat.le_refl _, Nat.le_refl _⟩ ⟨Nat.le_refl _, Nat.le_refl _⟩ (mv_noH hno _) (fun w168 σ168 h168 => ?_)
    obtain ⟨rfl, rfl, s_g28⟩ := h168
    have r_g28 : mv_r g28 = mv_r h := s_g28.trans rfl
    refine mv_lconst (pc := 171) (v := 0) B d_Book_simple_171 (by decide) ?_
    refine mv_lcmp (pc := 172) B d_Book_simple_172 ?_
    refine mv_if_eq (pc := 173) (tgt := 189) B d_Book_simple_173 rfl (fun h173 => ?_) (fun h173 => ?_)
    · skip
      have hf := xif_t h173 hf
      refine mv_aload_n (pc := 189) B d_Book_simple_189 rfl 0 rfl ?_
      refine mv_aload_n (pc := 190) B d_Book_simple_190 rfl 0 rfl ?_
      refine mv_getR (pc := 191) (ci := 12) (C := R_Book) (T := F_Book) (N := 65) B 43 rfl rfl (by decide) i_Book (B.2.2.2.1 _ k_1892) rfl ((congrFun (congrFun r_g28 74) 43).trans (hb 74 43 _ rfl)) d_Book_simple_191 ?_
      refine mv_iload_n (pc := 194) B d_Book_simple_194 rfl 1 rfl ?_
      obtain ⟨q30, hf⟩ := xvi_e hf
      refine mv_iald (pc := 195) B rfl q30 d_Book_simple_195 ?_
      obtain ⟨u32, g31, eg31, hf⟩ := xhb_e hf
      refine mv_callVl (pc := 196) (n := 1) (ci := 12) (C := R_Book) B (mK_ok sk sv) hNs rfl rfl (ih.1 _ _ _ _ (xrw r_g28 hb) eg31) rfl (ma_goodc kc_Book_eval) (B.2.2.2.1 _ k_2500) (B.2.2.2.1 _ k_2502) (B.2.2.2.1 _ ks_131) (B.2.2.2.1 _ k_13) ⟨by decide +kernel, by decide +kernel, by decide +kernel⟩ rfl d_Book_simple_196 rfl (Nat.le_of_ble_eq_true rfl) ⟨by first | decide | (dsimp only; omega), by first | decide | (dsimp only; omega)⟩ ⟨Nat.le_refl _, Nat.le_refl _⟩ ⟨Nat.le_refl _, Nat.le_refl _⟩ (mv_noH hno _) (fun w196 σ196 h196 => ?_)
      obtain ⟨rfl, rfl, s_g31⟩ := h196
      have r_g31 : mv_r g31 = mv_r h := s_g31.trans r_g28
      exact mv_lret (pc := 199) B hr d_Book_simple_199 (Nat.le_refl _) (Nat.le_refl _) ⟨_, rfl, xrh_l hf r_g31⟩
    · skip
      have hf := xif_f h173 hf
      refine mv_aload_n (pc := 176) B d_Book_simple_176 rfl 0 rfl ?_
      refine mv_aload_n (pc := 177) B d_Book_simple_177 rfl 0 rfl ?_
      refine mv_getR (pc := 178) (ci := 12) (C := R_Book) (T := F_Book) (N := 65) B 42 rfl rfl (by decide) i_Book (B.2.2.2.1 _ k_1891) rfl ((congrFun (congrFun r_g28 74) 42).trans (hb 74 42 _ rfl)) d_Book_simple_178 ?_
      refine mv_iload_n (pc := 181) B d_Book_simple_181 rfl 1 rfl ?_
      obtain ⟨q33, hf⟩ := xvi_e hf
      refine mv_iald (pc := 182) B rfl q33 d_Book_simple_182 ?_
      obtain ⟨u35, g34, eg34, hf⟩ := xhb_e hf
      refine mv_callVl (pc := 183) (n := 1) (ci := 12) (C := R_Book) B (mK_ok sk sv) hNs rfl rfl (ih.1 _ _ _ _ (xrw r_g28 hb) eg34) rfl (ma_goodc kc_Book_eval) (B.2.2.2.1 _ k_2500) (B.2.2.2.1 _ k_2502) (B.2.2.2.1 _ ks_131) (B.2.2.2.1 _ k_13) ⟨by decide +kernel, by decide +kernel, by decide +kernel⟩ rfl d_Book_simple_183 rfl (Nat.le_of_ble_eq_true rfl) ⟨by first | decide | (dsimp only; omega), by first | decide | (dsimp only; omega)⟩ ⟨Nat.le_refl _, Nat.le_refl _⟩ ⟨Nat.le_refl _, Nat.le_refl _⟩ (mv_noH hno _) (fun w183 σ183 h183 => ?_)
      obtain ⟨rfl, rfl, s_g34⟩ := h183
      have r_g34 : mv_r g34 = mv_r h := s_g34.trans r_g28
      refine mv_goto (pc := 186) (tgt := 199) B d_Book_simple_186 rfl ?_
      exact mv_lret (pc := 199) B hr d_Book_simple_199 (Nat.le_refl _) (Nat.le_refl _) ⟨_, rfl, xrh_l hf r_g34⟩
  have hf := xif_f h6n9 hf
  refine ⟨fun h6 => ?_, fun h6n10 => ?_⟩
  · skip
    have hf := xif_t h6 hf
    show mv_V _ _ _ _ _ _ _ _ _ _ _ _ _ _ _ _ 200 _ _
    refine mv_aload_n (pc := 200) B d_Book_simple_200 rfl 0 rfl ?_
    refine mv_aload_n (pc := 201) B d_Book_simple_201 rfl 0 rfl ?_
    refine mv_getR (pc := 202) (ci := 12) (C := R_Book) (T := F_Book) (N := 65) B 41 rfl rfl (by decide) i_Book (B.2.2.2.1 _ k_1890) rfl (hb 74 41 _ rfl) d_Book_simple_202 ?_
    refine mv_iload_n (pc := 205) B d_Book_simple_205 rfl 1 rfl ?_
    obtain ⟨q36, hf⟩ := xvi_e hf
    refine mv_iald (pc := 206) B rfl q36 d_Book_simple_206 ?_
    obtain ⟨u38, g37, eg37, hf⟩ := xhb_e hf
    refine mv_callVl (pc := 207) (n := 1) (ci := 12) (C := R_Book) B (mK_ok sk sv) hNs rfl rfl (ih.2.2 _ _ _ _ (hb) eg37) rfl (ma_goodc kc_Book_row) (B.2.2.2.1 _ k_2521) (B.2.2.2.1 _ k_2523) (B.2.2.2.1 _ ks_135) (B.2.2.2.1 _ k_13) ⟨by decide +kernel, by decide +kernel, by decide +kernel⟩ rfl d_Book_simple_207 rfl (Nat.le_of_ble_eq_true rfl) ⟨by first | decide | (dsimp only; omega), by first | decide | (dsimp only; omega)⟩ ⟨Nat.le_refl _, Nat.le_refl _⟩ ⟨Nat.le_refl _, Nat.le_refl _⟩ (mv_noH hno _) (fun w207 σ207 h207 => ?_)
    obtain ⟨rfl, rfl, s_g37⟩ := h207
    have r_g37 : mv_r g37 = mv_r h := s_g37.trans rfl
    exact mv_lret (pc := 210) B hr d_Book_simple_210 (Nat.le_refl _) (Nat.le_refl _) ⟨_, rfl, xrh_l hf r_g37⟩
  have hf := xif_f h6n10 hf
  refine ⟨fun h6 => ?_, fun h6n11 => ?_⟩
  · skip
    have hf := xif_t h6 hf
    show mv_V _ _ _ _ _ _ _ _ _ _ _ _ _ _ _ _ 211 _ _
    refine mv_aload_n (pc := 211) B d_Book_simple_211 rfl 0 rfl ?_
    refine mv_aload_n (pc := 212) B d_Book_simple_212 rfl 0 rfl ?_
    refine mv_getR (pc := 213) (ci := 12) (C := R_Book) (T := F_Book) (N := 65) B 41 rfl rfl (by decide) i_Book (B.2.2.2.1 _ k_1890) rfl (hb 74 41 _ rfl) d_Book_simple_213 ?_
    refine mv_iload_n (pc := 216) B d_Book_simple_216 rfl 1 rfl ?_
    obtain ⟨q39, hf⟩ := xvi_e hf
    refine mv_iald (pc := 217) B rfl q39 d_Book_simple_217 ?_
    obtain ⟨u41, g40, eg40, hf⟩ := xhb_e hf
    refine mv_callVl (pc := 218) (n := 1) (ci := 12) (C := R_Book) B (mK_ok sk sv) hNs rfl rfl (ih.1 _ _ _ _ (hb) eg40) rfl (ma_goodc kc_Book_eval) (B.2.2.2.1 _ k_2500) (B.2.2.2.1 _ k_2502) (B.2.2.2.1 _ ks_131) (B.2.2.2.1 _ k_13) ⟨by decide +kernel, by decide +kernel, by decide +kernel⟩ rfl d_Book_simple_218 rfl (Nat.le_of_ble_eq_true rfl) ⟨by first | decide | (dsimp only; omega), by first | decide | (dsimp only; omega)⟩ ⟨Nat.le_refl _, Nat.le_refl _⟩ ⟨Nat.le_refl _, Nat.le_refl _⟩ (mv_noH hno _) (fun w218 σ218 h218 => ?_)
    obtain ⟨rfl, rfl, s_g40⟩ := h218
    have r_g40 : mv_r g40 = mv_r h := s_g40.trans rfl
    refine mv_aload_n (pc := 221) B d_Book_simple_221 rfl 0 rfl ?_
    refine mv_getR (pc := 222) (ci := 12) (C := R_Book) (T := F_Book) (N := 65) B 45 rfl rfl (by decide) i_Book (B.2.2.2.1 _ k_1894) rfl ((congrFun (congrFun r_g40 74) 45).trans (hb 74 45 _ rfl)) d_Book_simple_222 ?_
    refine mv_aload_n (pc := 225) B d_Book_simple_225 rfl 0 rfl ?_
    refine mv_getR (pc := 226) (ci := 12) (C := R_Book) (T := F_Book) (N := 65) B 41 rfl rfl (by decide) i_Book (B.2.2.2.1 _ k_1890) rfl ((congrFun (congrFun r_g40 74) 41).trans (hb 74 41 _ rfl)) d_Book_simple_226 ?_
    refine mv_iload_n (pc := 229) B d_Book_simple_229 rfl 1 rfl ?_
    obtain ⟨q42, hf⟩ := xvi_e hf
    refine mv_iald (pc := 230) B rfl q42 d_Book_simple_230 ?_
    obtain ⟨q43, hf⟩ := xvi_e hf
    refine mv_iald (pc := 231) B rfl q43 d_Book_simple_231 ?_
    obtain ⟨u45, g44, eg44, hf⟩ := xhb_e hf
    refine mv_callSl (pc := 232) (n := 2) B (mK_ok sk sv) hNs (ch_Book_signed l hi _ _ _ eg44) rfl (ma_goodc kc_Book_signed) (B.2.2.2.1 _ k_2525) (B.2.2.2.1 _ k_2526) (B.2.2.2.1 _ k_13) ⟨by decide +kernel, by decide +kernel, by decide +kernel⟩ rfl d_Book_simple_232 rfl (Nat.le_of_ble_eq_true rfl) ⟨by first | decide | (dsimp only; omega), by first | decide | (dsimp only; omega)⟩ ⟨Nat.le_refl _, Nat.le_refl _⟩ ⟨Nat.le_refl _, Nat.le_refl _⟩ (mv_noH hno _) (fun w232 σ232 h232 => ?_)
    obtain ⟨rfl, rfl, s_g44⟩ := h232
    have r_g44 : mv_r g44 = mv_r h := s_g44.trans r_g40
    refine mv_aload_n (pc := 235) B d_Book_simple_235 rfl 0 rfl ?_
    refine mv_getR (pc := 236) (ci := 12) (C := R_Book) (T := F_Book) (N := 65) B 45 rfl rfl (by decide) i_Book (B.2.2.2.1 _ k_1894) rfl ((congrFun (congrFun r_g44 74) 45).trans (hb 74 45 _ rfl)) d_Book_simple_236 ?_
    refine mv_iload_n (pc := 239) B d_Book_simple_239 rfl 1 rfl ?_
    obtain ⟨q46, hf⟩ := xvi_e hf
    refine mv_iald (pc := 240) B rfl q46 d_Book_simple_240 ?_
    obtain ⟨u48, g47, eg47, hf⟩ := xhb_e hf
    refine mv_callSl (pc := 241) (n := 2) B (mK_ok sk sv) hNs (ch_Book_cut l hi _ _ _ eg47) rfl (ma_goodc kc_Book_cut) (B.2.2.2.1 _ k_2427) (B.2.2.2.1 _ k_2428) (B.2.2.2.1 _ k_13) ⟨by decide +kernel, by decide +kernel, by decide +kernel⟩ rfl d_Book_simple_241 rfl (Nat.le_of_ble_eq_true rfl) ⟨by first | decide | (dsimp only; omega), by first | decide | (dsimp only; omega)⟩ ⟨Nat.le_refl _, Nat.le_refl _⟩ ⟨Nat.le_refl _, Nat.le_refl _⟩ (mv_noH hno _) (fun w241 σ241 h241 => ?_)
    obtain ⟨rfl, rfl, s_g47⟩ := h241
    have r_g47 : mv_r g47 = mv_r h := s_g47.trans r_g44
    exact mv_lret (pc := 244) B hr d_Book_simple_244 (Nat.le_refl _) (Nat.le_refl _) ⟨_, rfl, xrh_l hf r_g47⟩
  have hf := xif_f h6n11 hf
  show mv_V _ _ _ _ _ _ _ _ _ _ _ _ _ _ _ _ 245 _ _
  refine mv_lpick [0, 1] rfl ?_
  exact jn245 _ _ rfl hf
set_option maxHeartbeats 4000000 in
set_option maxRecDepth 100000 in
theorem cr_Book_row_x (l : Launch) {dA : FieldType → ClassId} {D : va_G} {al : Nat → Nat} {ext : mv_Sh} {sk sv : Nat → Nat} (hi : mv_inj (mg dA D al ext)) (nn : Nat) (ih : RecE l dA D al ext sk sv 74 nn) (h : mv_H) (hb : mh (mv_r h))  (a0 : Int32) {rv : Int64} {rg : mv_H} (hf : f_Book_row 74 (f_BookE 74 nn) h a0 = some (rv, rg)) : mv_C l y_Book_row (Cond.code y_Book_row b_Book_row 7 (Option.some Jvm.ClassFile.FieldType.long) :: ma) ({ frames := nn + 1 + 7, cells := 0, slots := 0, locals := 28 * (nn + 1) + 420 }) (mg dA D al ext) (mK sk sv) [.ref (al 74), .int a0] h (mv_Rl (fun v σ1 => rv = v ∧ rg = σ1 ∧ mv_r σ1 = mv_r h)) := by
  refine mv_C.ofV (cc := b_Book_row) (nL := 7) (ret := (Option.some Jvm.ClassFile.FieldType.long)) (by decide +kernel) rfl hi (Nat.le_of_ble_eq_true rfl) ?_
  intro p e s m below meth c B hNs hr hnm hno
  have lp5 : ∀ (nn5 : Nat) (x2 : Int64) (x4 : Int32) (hz : mv_H), mv_r hz = mv_r h → f_Book_row_5 74 (f_BookE 74 nn) nn5 x2 x4 hz = some (rv, rg) → mv_V p l e ({ frames := nn + 1 + 7, cells := 0, slots := 0, locals := 28 * (nn + 1) + 420 }) s m ([.ref (al 74), .int a0] : List Value).toArray below meth c (mg dA D al ext) 7 0 0 (mv_Q (mg dA D al ext) below s 0 0 (mv_Rl (fun v σ1 => rv = v ∧ rg = σ1 ∧ mv_r σ1 = mv_r h))) hz 5 [(0, .ref (al 74)), (2, .long x2), (4, .int x4)] [] := by
    intro nn5
    induction nn5 with
    | zero => intro x2 x4 hz r_hz hf; cases hf
    | succ nn5 ih5 =>
      intro x2 x4 hz r_hz hf
      have jn47 : ∀ (x4 : Int32) (y0 : Int64) (hz : mv_H), mv_r hz = mv_r h → f_Book_row_47 74 (f_BookE 74 nn) (f_Book_row_5 74 (f_BookE 74 nn) nn5) x4 y0 hz = some (rv, rg) → mv_V p l e ({ frames := nn + 1 + 7, cells := 0, slots := 0, locals := 28 * (nn + 1) + 420 }) s m ([.ref (al 74), .int a0] : List Value).toArray below meth c (mg dA D al ext) 7 0 0 (mv_Q (mg dA D al ext) below s 0 0 (mv_Rl (fun v σ1 => rv = v ∧ rg = σ1 ∧ mv_r σ1 = mv_r h))) hz 47 [(0, .ref (al 74)), (4, .int x4)] [.long y0] := by
        intro x4 y0 hz r_hz hf
        unfold f_Book_row_47 at hf
        refine mv_lstore_n (pc := 47) B d_Book_row_47 rfl (by decide) rfl ?_
        refine mv_aload_n (pc := 48) B d_Book_row_48 rfl 1 rfl ?_
        refine mv_getR (pc := 49) (ci := 12) (C := R_Book) (T := F_Book) (N := 65) B 44 rfl rfl (by decide) i_Book (B.2.2.2.1 _ k_1893) rfl ((congrFun (congrFun r_hz 74) 44).trans (hb 74 44 _ rfl)) d_Book_row_49 ?_
        refine mv_iload (pc := 52) B d_Book_row_52 2 rfl ?_
        obtain ⟨q1, hf⟩ := xvi_e hf
        refine mv_iald (pc := 54) B rfl q1 d_Book_row_54 ?_
        refine mv_istore (pc := 55) B d_Book_row_55 (by decide) rfl ?_
        refine mv_goto (pc := 57) (tgt := 5) B d_Book_row_57 rfl ?_
        refine mv_lpick [2, 1, 0] rfl ?_
        exact ih5 _ _ _ r_hz hf
      have hf : fF_Book_row_5 74 (f_BookE 74 nn) (f_Book_row_5 74 (f_BookE 74 nn) nn5) x2 x4 hz = some (rv, rg) := hf
      unfold fF_Book_row_5 at hf
      refine mv_iload (pc := 5) B d_Book_row_5 2 rfl ?_
      refine mv_if_lt (pc := 7) (tgt := 60) B d_Book_row_7 rfl (fun h7 => ?_) (fun h7 => ?_)
      · skip
        have hf := xif_t h7 hf
        refine mv_lload_n (pc := 60) B d_Book_row_60 rfl 1 rfl ?_
        exact mv_lret (pc := 61) B hr d_Book_row_61 (Nat.le_refl _) (Nat.le_refl _) ⟨_, rfl, xrh_l hf r_hz⟩
      · skip
        have hf := xif_f h7 hf
        refine mv_aload_n (pc := 10) B d_Book_row_10 rfl 0 rfl ?_
        refine mv_iload (pc := 11) B d_Book_row_11 2 rfl ?_
        obtain ⟨u3, g2, eg2, hf⟩ := xhb_e hf
        refine mv_callVl (pc := 13) (n := 1) (ci := 12) (C := R_Book) B (mK_ok sk sv) hNs rfl rfl (ih.1 _ _ _ _ (xrw r_hz hb) eg2) rfl (ma_goodc kc_Book_eval) (B.2.2.2.1 _ k_2500) (B.2.2.2.1 _ k_2502) (B.2.2.2.1 _ ks_131) (B.2.2.2.1 _ k_13) ⟨by decide +kernel, by decide +kernel, by decide +kernel⟩ rfl d_Book_row_13 rfl (Nat.le_of_ble_eq_true rfl) ⟨by first | decide | (dsimp only; omega), by first | decide | (dsimp only; omega)⟩ ⟨Nat.le_refl _, Nat.le_refl _⟩ ⟨Nat.le_refl _, Nat.le_refl _⟩ (mv_noH hno _) (fun w13 σ13 h13 => ?_)
        obtain ⟨rfl, rfl, s_g2⟩ := h13
        have r_g2 : mv_r g2 = mv_r h := s_g2.trans r_hz
        refine mv_lstore (pc := 16) B d_Book_row_16 (by decide) rfl ?_
        refine mv_aload_n (pc := 18) B d_Book_row_18 rfl 1 rfl ?_
        refine mv_getR (pc := 19) (ci := 12) (C := R_Book) (T := F_Book) (N := 65) B 45 rfl rfl (by decide) i_Book (B.2.2.2.1 _ k_1894) rfl ((congrFun (congrFun r_g2 74) 45).trans (hb 74 45 _ rfl)) d_Book_row_19 ?_
        refine mv_iload (pc := 22) B d_Book_row_22 3 rfl ?_
        obtain ⟨q4, hf⟩ := xvi_e hf
        refine mv_iald (pc := 24) B rfl q4 d_Book_row_24 ?_
        refine mv_bipush (pc := 25) (v := 64) B d_Book_row_25 (by decide) ?_
        refine mv_icmp_ne (pc := 27) (tgt := 35) B d_Book_row_27 rfl (fun h27 => ?_) (fun h27 => ?_)
        · skip
          have hf := xif_f h27 hf
          refine mv_lload_n (pc := 35) B d_Book_row_35 rfl 2 rfl ?_
          refine mv_aload_n (pc := 36) B d_Book_row_36 rfl 1 rfl ?_
          refine mv_getR (pc := 37) (ci := 12) (C := R_Book) (T := F_Book) (N := 65) B 45 rfl rfl (by decide) i_Book (B.2.2.2.1 _ k_1894) rfl ((congrFun (congrFun r_g2 74) 45).trans (hb 74 45 _ rfl)) d_Book_row_37 ?_
          refine mv_iload (pc := 40) B d_Book_row_40 3 rfl ?_
          obtain ⟨q5, hf⟩ := xvi_e hf
          refine mv_iald (pc := 42) B rfl q5 d_Book_row_42 ?_
          refine mv_lshl (pc := 43) B d_Book_row_43 ?_
          refine mv_lload (pc := 44) B d_Book_row_44 0 rfl ?_
          refine mv_lor (pc := 46) B d_Book_row_46 ?_
          refine mv_lpick [1, 3] rfl ?_
          exact jn47 _ _ _ r_g2 hf
        · skip
          have hf := xif_t h27 hf
          refine mv_lload (pc := 30) B d_Book_row_30 0 rfl ?_
          refine mv_goto (pc := 32) (tgt := 47) B d_Book_row_32 rfl ?_
          refine mv_lpick [1, 3] rfl ?_
          exact jn47 _ _ _ r_g2 hf
  unfold f_Book_row at hf
  refine mv_lconst (pc := 0) (v := 0) B d_Book_row_0 (by decide) ?_
  refine mv_lstore_n (pc := 1) B d_Book_row_1 rfl (by decide) rfl ?_
  refine mv_iload_n (pc := 2) B d_Book_row_2 rfl 2 rfl ?_
  refine mv_istore (pc := 3) B d_Book_row_3 (by decide) rfl ?_
  refine mv_lpick [2, 1, 0] rfl ?_
  exact lp5 _ _ _ _ rfl hf
theorem recE_0x (l : Launch) {dA : FieldType → ClassId} {D : va_G} {al : Nat → Nat} {ext : mv_Sh} {sk sv : Nat → Nat} (hi : mv_inj (mg dA D al ext)) : RecE l dA D al ext sk sv 74 0 := ⟨(fun a h rv rg hb hf => by cases hf), (fun a h rv rg hb hf => by cases hf), (fun a h rv rg hb hf => by cases hf)⟩
theorem recE_1x (l : Launch) {dA : FieldType → ClassId} {D : va_G} {al : Nat → Nat} {ext : mv_Sh} {sk sv : Nat → Nat} (hi : mv_inj (mg dA D al ext)) (nn : Nat) (ih : RecE l dA D al ext sk sv 74 nn) : RecE l dA D al ext sk sv 74 (nn + 1) := ⟨(fun a h rv rg hb hf => cr_Book_eval_x l hi nn ih h hb a (by rw [f_BookE] at hf; exact hf)), (fun a h rv rg hb hf => cr_Book_simple_x l hi nn ih h hb a (by rw [f_BookE] at hf; exact hf)), (fun a h rv rg hb hf => cr_Book_row_x l hi nn ih h hb a (by rw [f_BookE] at hf; exact hf))⟩
theorem recE_x (l : Launch) {dA : FieldType → ClassId} {D : va_G} {al : Nat → Nat} {ext : mv_Sh} {sk sv : Nat → Nat} (hi : mv_inj (mg dA D al ext)) : ∀ nn, RecE l dA D al ext sk sv 74 nn := by
  intro nn
  induction nn with
  | zero => exact recE_0x l hi
  | succ nn ih => exact recE_1x l hi nn ih
set_option maxHeartbeats 4000000 in
set_option maxRecDepth 100000 in
theorem cr_Book_eval_y (l : Launch) {dA : FieldType → ClassId} {D : va_G} {al : Nat → Nat} {ext : mv_Sh} {sk sv : Nat → Nat} (hi : mv_inj (mg dA D al ext)) (nn : Nat) (ih : RecE l dA D al ext sk sv 108 nn) (h : mv_H) (hb : mh (mv_r h))  (a0 : Int32) {rv : Int64} {rg : mv_H} (hf : f_Book_eval 108 (f_BookE 108 nn) h a0 = some (rv, rg)) : mv_C l y_Book_eval (Cond.code y_Book_eval b_Book_eval 6 (Option.some Jvm.ClassFile.FieldType.long) :: ma) ({ frames := nn + 1 + 7, cells := 0, slots := 0, locals := 28 * (nn + 1) + 420 }) (mg dA D al ext) (mK sk sv) [.ref (al 108), .int a0] h (mv_Rl (fun v σ1 => rv = v ∧ rg = σ1 ∧ mv_r σ1 = mv_r h)) := by
  refine mv_C.ofV (cc := b_Book_eval) (nL := 6) (ret := (Option.some Jvm.ClassFile.FieldType.long)) (by decide +kernel) rfl hi (Nat.le_of_ble_eq_true rfl) ?_
  intro p e s m below meth c B hNs hr hnm hno
  have lp66 : ∀ (nn66 : Nat) (x2 : Int32) (x4 : Int64) (hz : mv_H), mv_r hz = mv_r h → f_Book_eval_66 108 (f_BookE 108 nn) nn66 x2 x4 hz = some (rv, rg) → mv_V p l e ({ frames := nn + 1 + 7, cells := 0, slots := 0, locals := 28 * (nn + 1) + 420 }) s m ([.ref (al 108), .int a0] : List Value).toArray below meth c (mg dA D al ext) 6 0 0 (mv_Q (mg dA D al ext) below s 0 0 (mv_Rl (fun v σ1 => rv = v ∧ rg = σ1 ∧ mv_r σ1 = mv_r h))) hz 66 [(0, .ref (al 108)), (2, .int x2), (4, .long x4)] [] := by
    intro nn66
    induction nn66 with
    | zero => intro x2 x4 hz r_hz hf; cases hf
    | succ nn66 ih66 =>
      intro x2 x4 hz r_hz hf
      have hf : fF_Book_eval_66 108 (f_BookE 108 nn) (f_Book_eval_66 108 (f_BookE 108 nn) nn66) x2 x4 hz = some (rv, rg) := hf
      unfold fF_Book_eval_66 at hf
      refine mv_aload_n (pc := 66) B d_Book_eval_66 rfl 0 rfl ?_
      refine mv_getI (pc := 67) (ci := 12) (C := R_Book) (T := F_Book) (N := 65) B 62 rfl rfl (by decide) i_Book (B.2.2.2.1 _ k_1911) rfl d_Book_eval_67 ?_
      refine mv_iload_n (pc := 70) B d_Book_eval_70 rfl 1 rfl ?_
      refine mv_icmp_le (pc := 71) (tgt := 175) B d_Book_eval_71 rfl (fun h71 => ?_) (fun h71 => ?_)
      · skip
        have hf := xif_t h71 hf
        refine mv_lload (pc := 175) B d_Book_eval_175 2 rfl ?_
        exact mv_lret (pc := 177) B hr d_Book_eval_177 (Nat.le_refl _) (Nat.le_refl _) ⟨_, rfl, xrh_l hf r_hz⟩
      · skip
        have hf := xif_f h71 hf
        refine mv_aload_n (pc := 74) B d_Book_eval_74 rfl 0 rfl ?_
        refine mv_dup (pc := 75) B d_Book_eval_75 rfl ?_
        refine mv_getI (pc := 76) (ci := 12) (C := R_Book) (T := F_Book) (N := 65) B 62 rfl rfl (by decide) i_Book (B.2.2.2.1 _ k_1911) rfl d_Book_eval_76 ?_
        refine mv_iconst (pc := 79) (v := 1) B d_Book_eval_79 (by decide) ?_
        refine mv_isub (pc := 80) B d_Book_eval_80 ?_
        refine mv_putI (pc := 81) (ci := 12) (C := R_Book) (T := F_Book) (N := 65) B 62 rfl rfl (by decide) i_Book t_Book_ok n_Book (B.2.2.2.1 _ k_1911) rfl rfl rfl rfl d_Book_eval_81 ?_
        refine mvh_hp (R9 := mv_r h) hf r_hz (fun g1 hf r_g1 => ?_)
        refine mv_aload_n (pc := 84) B d_Book_eval_84 rfl 0 rfl ?_
        refine mv_getR (pc := 85) (ci := 12) (C := R_Book) (T := F_Book) (N := 65) B 59 rfl rfl (by decide) i_Book (B.2.2.2.1 _ k_1908) rfl ((congrFun (congrFun r_g1 108) 59).trans (hb 108 59 _ rfl)) d_Book_eval_85 ?_
        refine mv_aload_n (pc := 88) B d_Book_eval_88 rfl 0 rfl ?_
        refine mv_getI (pc := 89) (ci := 12) (C := R_Book) (T := F_Book) (N := 65) B 62 rfl rfl (by decide) i_Book (B.2.2.2.1 _ k_1911) rfl d_Book_eval_89 ?_
        obtain ⟨q2, hf⟩ := xvi_e hf
        refine mv_iald (pc := 92) B rfl q2 d_Book_eval_92 ?_
        refine mv_istore_n (pc := 93) B d_Book_eval_93 rfl (by decide) rfl ?_
        refine mv_aload_n (pc := 94) B d_Book_eval_94 rfl 1 rfl ?_
        refine mv_getR (pc := 95) (ci := 12) (C := R_Book) (T := F_Book) (N := 65) B 40 rfl rfl (by decide) i_Book (B.2.2.2.1 _ k_1889) rfl ((congrFun (congrFun r_g1 108) 40).trans (hb 108 40 _ rfl)) d_Book_eval_95 ?_
        refine mv_iload_n (pc := 98) B d_Book_eval_98 rfl 0 rfl ?_
        obtain ⟨q3, hf⟩ := xvi_e hf
        refine mv_iald (pc := 99) B rfl q3 d_Book_eval_99 ?_
        refine mv_bipush (pc := 100) (v := 8) B d_Book_eval_100 (by decide) ?_
        refine mv_icmp_ne (pc := 102) (tgt := 128) B d_Book_eval_102 rfl (fun h102 => ?_) (fun h102 => ?_)
        · skip
          have hf := xif_f h102 hf
          refine mv_aload_n (pc := 128) B d_Book_eval_128 rfl 1 rfl ?_
          refine mv_aload_n (pc := 129) B d_Book_eval_129 rfl 1 rfl ?_
          refine mv_getR (pc := 130) (ci := 12) (C := R_Book) (T := F_Book) (N := 65) B 43 rfl rfl (by decide) i_Book (B.2.2.2.1 _ k_1892) rfl ((congrFun (congrFun r_g1 108) 43).trans (hb 108 43 _ rfl)) d_Book_eval_130 ?_
          refine mv_iload_n (pc := 133) B d_Book_eval_133 rfl 0 rfl ?_
          obtain ⟨q4, hf⟩ := xvi_e hf
          refine mv_iald (pc := 134) B rfl q4 d_Book_eval_134 ?_
          refine mv_lload (pc := 135) B d_Book_eval_135 3 rfl ?_
          refine mv_aload_n (pc := 137) B d_Book_eval_137 rfl 1 rfl ?_
          refine mv_aload_n (pc := 138) B d_Book_eval_138 rfl 1 rfl ?_
          refine mv_getR (pc := 139) (ci := 12) (C := R_Book) (T := F_Book) (N := 65) B 42 rfl rfl (by decide) i_Book (B.2.2.2.1 _ k_1891) rfl ((congrFun (congrFun r_g1 108) 42).trans (hb 108 42 _ rfl)) d_Book_eval_139 ?_
          refine mv_iload_n (pc := 142) B d_Book_eval_142 rfl 0 rfl ?_
          obtain ⟨q5, hf⟩ := xvi_e hf
          refine mv_iald (pc := 143) B rfl q5 d_Book_eval_143 ?_
          obtain ⟨u7, g6, eg6, hf⟩ := xhb_e hf
          refine mv_callVl (pc := 144) (n := 1) (ci := 12) (C := R_Book) B (mK_ok sk sv) hNs rfl rfl (ih.1 _ _ _ _ (xrw r_g1 hb) eg6) rfl (ma_goodc kc_Book_eval) (B.2.2.2.1 _ k_2500) (B.2.2.2.1 _ k_2502) (B.2.2.2.1 _ ks_131) (B.2.2.2.1 _ k_13) ⟨by decide +kernel, by decide +kernel, by decide +kernel⟩ rfl d_Book_eval_144 rfl (Nat.le_of_ble_eq_true rfl) ⟨by first | decide | (dsimp only; omega), by first | decide | (dsimp only; omega)⟩ ⟨Nat.le_refl _, Nat.le_refl _⟩ ⟨Nat.le_refl _, Nat.le_refl _⟩ (mv_noH hno _) (fun w144 σ144 h144 => ?_)
          obtain ⟨rfl, rfl, s_g6⟩ := h144
          have r_g6 : mv_r g6 = mv_r h := s_g6.trans r_g1
          refine mv_aload_n (pc := 147) B d_Book_eval_147 rfl 1 rfl ?_
          refine mv_getR (pc := 148) (ci := 12) (C := R_Book) (T := F_Book) (N := 65) B 45 rfl rfl (by decide) i_Book (B.2.2.2.1 _ k_1894) rfl ((congrFun (congrFun r_g6 108) 45).trans (hb 108 45 _ rfl)) d_Book_eval_148 ?_
          refine mv_aload_n (pc := 151) B d_Book_eval_151 rfl 1 rfl ?_
          refine mv_getR (pc := 152) (ci := 12) (C := R_Book) (T := F_Book) (N := 65) B 41 rfl rfl (by decide) i_Book (B.2.2.2.1 _ k_1890) rfl ((congrFun (congrFun r_g6 108) 41).trans (hb 108 41 _ rfl)) d_Book_eval_152 ?_
          refine mv_iload_n (pc := 155) B d_Book_eval_155 rfl 0 rfl ?_
          obtain ⟨q8, hf⟩ := xvi_e hf
          refine mv_iald (pc := 156) B rfl q8 d_Book_eval_156 ?_
          obtain ⟨q9, hf⟩ := xvi_e hf
          refine mv_iald (pc := 157) B rfl q9 d_Book_eval_157 ?_
          obtain ⟨u11, g10, eg10, hf⟩ := xhb_e hf
          refine mv_callVl (pc := 158) (n := 4) (ci := 12) (C := R_Book) B (mK_ok sk sv) hNs rfl rfl (ch_Book_apply_y l hi _ (xrw r_g6 hb) _ _ _ _ eg10) rfl (ma_goodc kc_Book_apply) (B.2.2.2.1 _ k_2528) (B.2.2.2.1 _ k_2530) (B.2.2.2.1 _ ks_136) (B.2.2.2.1 _ k_13) ⟨by decide +kernel, by decide +kernel, by decide +kernel⟩ rfl d_Book_eval_158 rfl (Nat.le_of_ble_eq_true rfl) ⟨by first | decide | (dsimp only; omega), by first | decide | (dsimp only; omega)⟩ ⟨Nat.le_refl _, Nat.le_refl _⟩ ⟨Nat.le_refl _, Nat.le_refl _⟩ (mv_noH hno _) (fun w158 σ158 h158 => ?_)
          obtain ⟨rfl, rfl, s_g10⟩ := h158
          have r_g10 : mv_r g10 = mv_r h := s_g10.trans r_g6
          refine mv_aload_n (pc := 161) B d_Book_eval_161 rfl 1 rfl ?_
          refine mv_getR (pc := 162) (ci := 12) (C := R_Book) (T := F_Book) (N := 65) B 45 rfl rfl (by decide) i_Book (B.2.2.2.1 _ k_1894) rfl ((congrFun (congrFun r_g10 108) 45).trans (hb 108 45 _ rfl)) d_Book_eval_162 ?_
          refine mv_iload_n (pc := 165) B d_Book_eval_165 rfl 0 rfl ?_
          obtain ⟨q12, hf⟩ := xvi_e hf
          refine mv_iald (pc := 166) B rfl q12 d_Book_eval_166 ?_
          obtain ⟨u14, g13, eg13, hf⟩ := xhb_e hf
          refine mv_callSl (pc := 167) (n := 2) B (mK_ok sk sv) hNs (ch_Book_cut l hi _ _ _ eg13) rfl (ma_goodc kc_Book_cut) (B.2.2.2.1 _ k_2427) (B.2.2.2.1 _ k_2428) (B.2.2.2.1 _ k_13) ⟨by decide +kernel, by decide +kernel, by decide +kernel⟩ rfl d_Book_eval_167 rfl (Nat.le_of_ble_eq_true rfl) ⟨by first | decide | (dsimp only; omega), by first | decide | (dsimp only; omega)⟩ ⟨Nat.le_refl _, Nat.le_refl _⟩ ⟨Nat.le_refl _, Nat.le_refl _⟩ (mv_noH hno _) (fun w167 σ167 h167 => ?_)
          obtain ⟨rfl, rfl, s_g13⟩ := h167
          have r_g13 : mv_r g13 = mv_r h := s_g13.trans r_g10
          refine mv_lstore (pc := 170) B d_Book_eval_170 (by decide) rfl ?_
          refine mv_goto (pc := 172) (tgt := 66) B d_Book_eval_172 rfl ?_
          refine mv_lpick [2, 3, 0] rfl ?_
          exact ih66 _ _ _ r_g13 hf
        · skip
          have hf := xif_t h102 hf
          refine mv_lload (pc := 105) B d_Book_eval_105 3 rfl ?_
          refine mv_aload_n (pc := 107) B d_Book_eval_107 rfl 1 rfl ?_
          refine mv_getR (pc := 108) (ci := 12) (C := R_Book) (T := F_Book) (N := 65) B 43 rfl rfl (by decide) i_Book (B.2.2.2.1 _ k_1892) rfl ((congrFun (congrFun r_g1 108) 43).trans (hb 108 43 _ rfl)) d_Book_eval_108 ?_
          refine mv_iload_n (pc := 111) B d_Book_eval_111 rfl 0 rfl ?_
          obtain ⟨q15, hf⟩ := xvi_e hf
          refine mv_iald (pc := 112) B rfl q15 d_Book_eval_112 ?_
          refine mv_lushr (pc := 113) B d_Book_eval_113 ?_
          refine mv_aload_n (pc := 114) B d_Book_eval_114 rfl 1 rfl ?_
          refine mv_getR (pc := 115) (ci := 12) (C := R_Book) (T := F_Book) (N := 65) B 45 rfl rfl (by decide) i_Book (B.2.2.2.1 _ k_1894) rfl ((congrFun (congrFun r_g1 108) 45).trans (hb 108 45 _ rfl)) d_Book_eval_115 ?_
          refine mv_iload_n (pc := 118) B d_Book_eval_118 rfl 0 rfl ?_
          obtain ⟨q16, hf⟩ := xvi_e hf
          refine mv_iald (pc := 119) B rfl q16 d_Book_eval_119 ?_
          obtain ⟨u18, g17, eg17, hf⟩ := xhb_e hf
          refine mv_callSl (pc := 120) (n := 2) B (mK_ok sk sv) hNs (ch_Book_cut l hi _ _ _ eg17) rfl (ma_goodc kc_Book_cut) (B.2.2.2.1 _ k_2427) (B.2.2.2.1 _ k_2428) (B.2.2.2.1 _ k_13) ⟨by decide +kernel, by decide +kernel, by decide +kernel⟩ rfl d_Book_eval_120 rfl (Nat.le_of_ble_eq_true rfl) ⟨by first | decide | (dsimp only; omega), by first | decide | (dsimp only; omega)⟩ ⟨Nat.le_refl _, Nat.le_refl _⟩ ⟨Nat.le_refl _, Nat.le_refl _⟩ (mv_noH hno _) (fun w120 σ120 h120 => ?_)
          obtain ⟨rfl, rfl, s_g17⟩ := h120
          have r_g17 : mv_r g17 = mv_r h := s_g17.trans r_g1
          refine mv_lstore (pc := 123) B d_Book_eval_123 (by decide) rfl ?_
          refine mv_goto (pc := 125) (tgt := 66) B d_Book_eval_125 rfl ?_
          refine mv_lpick [2, 3, 0] rfl ?_
          exact ih66 _ _ _ r_g17 hf
  have lp7 : ∀ (nn7 : Nat) (x2 : Int32) (x3 : Int32) (hz : mv_H), mv_r hz = mv_r h → f_Book_eval_7 108 (f_BookE 108 nn) nn7 x2 x3 hz = some (rv, rg) → mv_V p l e ({ frames := nn + 1 + 7, cells := 0, slots := 0, locals := 28 * (nn + 1) + 420 }) s m ([.ref (al 108), .int a0] : List Value).toArray below meth c (mg dA D al ext) 6 0 0 (mv_Q (mg dA D al ext) below s 0 0 (mv_Rl (fun v σ1 => rv = v ∧ rg = σ1 ∧ mv_r σ1 = mv_r h))) hz 7 [(0, .ref (al 108)), (2, .int x2), (3, .int x3)] [] := by
    intro nn7
    induction nn7 with
    | zero => intro x2 x3 hz r_hz hf; cases hf
    | succ nn7 ih7 =>
      intro x2 x3 hz r_hz hf
      have jn29 : ∀ (x2 : Int32) (x3 : Int32) (hz : mv_H), mv_r hz = mv_r h → f_Book_eval_29 108 (f_BookE 108 nn) (f_Book_eval_7 108 (f_BookE 108 nn) nn7) x2 x3 hz = some (rv, rg) → mv_V p l e ({ frames := nn + 1 + 7, cells := 0, slots := 0, locals := 28 * (nn + 1) + 420 }) s m ([.ref (al 108), .int a0] : List Value).toArray below meth c (mg dA D al ext) 6 0 0 (mv_Q (mg dA D al ext) below s 0 0 (mv_Rl (fun v σ1 => rv = v ∧ rg = σ1 ∧ mv_r σ1 = mv_r h))) hz 29 [(0, .ref (al 108)), (2, .int x2), (3, .int x3)] [] := by
        intro x2 x3 hz r_hz hf
        unfold f_Book_eval_29 at hf
        refine mv_aload_n (pc := 29) B d_Book_eval_29 rfl 0 rfl ?_
        refine mv_getR (pc := 30) (ci := 12) (C := R_Book) (T := F_Book) (N := 65) B 59 rfl rfl (by decide) i_Book (B.2.2.2.1 _ k_1908) rfl ((congrFun (congrFun r_hz 108) 59).trans (hb 108 59 _ rfl)) d_Book_eval_30 ?_
        refine mv_aload_n (pc := 33) B d_Book_eval_33 rfl 0 rfl ?_
        refine mv_getI (pc := 34) (ci := 12) (C := R_Book) (T := F_Book) (N := 65) B 62 rfl rfl (by decide) i_Book (B.2.2.2.1 _ k_1911) rfl d_Book_eval_34 ?_
        refine mv_iload_n (pc := 37) B d_Book_eval_37 rfl 2 rfl ?_
        obtain ⟨q19, hf⟩ := xvi_e hf
        refine mv_iast (pc := 38) B rfl q19 d_Book_eval_38 ?_
        refine mvh_hp (R9 := mv_r h) hf r_hz (fun g20 hf r_g20 => ?_)
        refine mv_aload_n (pc := 39) B d_Book_eval_39 rfl 0 rfl ?_
        refine mv_dup (pc := 40) B d_Book_eval_40 rfl ?_
        refine mv_getI (pc := 41) (ci := 12) (C := R_Book) (T := F_Book) (N := 65) B 62 rfl rfl (by decide) i_Book (B.2.2.2.1 _ k_1911) rfl d_Book_eval_41 ?_
        refine mv_iconst (pc := 44) (v := 1) B d_Book_eval_44 (by decide) ?_
        refine mv_iadd (pc := 45) B d_Book_eval_45 ?_
        refine mv_putI (pc := 46) (ci := 12) (C := R_Book) (T := F_Book) (N := 65) B 62 rfl rfl (by decide) i_Book t_Book_ok n_Book (B.2.2.2.1 _ k_1911) rfl rfl rfl rfl d_Book_eval_46 ?_
        refine mvh_hp (R9 := mv_r h) hf r_g20 (fun g21 hf r_g21 => ?_)
        refine mv_aload_n (pc := 49) B d_Book_eval_49 rfl 0 rfl ?_
        refine mv_getR (pc := 50) (ci := 12) (C := R_Book) (T := F_Book) (N := 65) B 41 rfl rfl (by decide) i_Book (B.2.2.2.1 _ k_1890) rfl ((congrFun (congrFun r_g21 108) 41).trans (hb 108 41 _ rfl)) d_Book_eval_50 ?_
        refine mv_iload_n (pc := 53) B d_Book_eval_53 rfl 2 rfl ?_
        obtain ⟨q22, hf⟩ := xvi_e hf
        refine mv_iald (pc := 54) B rfl q22 d_Book_eval_54 ?_
        refine mv_istore_n (pc := 55) B d_Book_eval_55 rfl (by decide) rfl ?_
        refine mv_goto (pc := 56) (tgt := 7) B d_Book_eval_56 rfl ?_
        refine mv_lpick [1, 2, 0] rfl ?_
        exact ih7 _ _ _ r_g21 hf
      have hf : fF_Book_eval_7 108 (f_BookE 108 nn) (f_Book_eval_7 108 (f_BookE 108 nn) nn7) x2 x3 hz = some (rv, rg) := hf
      unfold fF_Book_eval_7 at hf
      refine mv_aload_n (pc := 7) B d_Book_eval_7 rfl 0 rfl ?_
      refine mv_getR (pc := 8) (ci := 12) (C := R_Book) (T := F_Book) (N := 65) B 40 rfl rfl (by decide) i_Book (B.2.2.2.1 _ k_1889) rfl ((congrFun (congrFun r_hz 108) 40).trans (hb 108 40 _ rfl)) d_Book_eval_8 ?_
      refine mv_iload_n (pc := 11) B d_Book_eval_11 rfl 2 rfl ?_
      obtain ⟨q23, hf⟩ := xvi_e hf
      refine mv_iald (pc := 12) B rfl q23 d_Book_eval_12 ?_
      refine mv_bipush (pc := 13) (v := 7) B d_Book_eval_13 (by decide) ?_
      refine mv_icmp_eq (pc := 15) (tgt := 29) B d_Book_eval_15 rfl (fun h15 => ?_) (fun h15 => ?_)
      · skip
        have hf := xif_t h15 hf
        refine mv_lpick [0, 1, 2] rfl ?_
        exact jn29 _ _ _ r_hz hf
      · skip
        have hf := xif_f h15 hf
        refine mv_aload_n (pc := 18) B d_Book_eval_18 rfl 0 rfl ?_
        refine mv_getR (pc := 19) (ci := 12) (C := R_Book) (T := F_Book) (N := 65) B 40 rfl rfl (by decide) i_Book (B.2.2.2.1 _ k_1889) rfl ((congrFun (congrFun r_hz 108) 40).trans (hb 108 40 _ rfl)) d_Book_eval_19 ?_
        refine mv_iload_n (pc := 22) B d_Book_eval_22 rfl 2 rfl ?_
        obtain ⟨q24, hf⟩ := xvi_e hf
        refine mv_iald (pc := 23) B rfl q24 d_Book_eval_23 ?_
        refine mv_bipush (pc := 24) (v := 8) B d_Book_eval_24 (by decide) ?_
        refine mv_icmp_ne (pc := 26) (tgt := 59) B d_Book_eval_26 rfl (fun h26 => ?_) (fun h26 => ?_)
        · skip
          have hf := xif_f h26 hf
          refine mv_aload_n (pc := 59) B d_Book_eval_59 rfl 0 rfl ?_
          refine mv_iload_n (pc := 60) B d_Book_eval_60 rfl 2 rfl ?_
          obtain ⟨u26, g25, eg25, hf⟩ := xhb_e hf
          refine mv_callVl (pc := 61) (n := 1) (ci := 12) (C := R_Book) B (mK_ok sk sv) hNs rfl rfl (ih.2.1 _ _ _ _ (xrw r_hz hb) eg25) rfl (ma_goodc kc_Book_simple) (B.2.2.2.1 _ k_2504) (B.2.2.2.1 _ k_2506) (B.2.2.2.1 _ ks_132) (B.2.2.2.1 _ k_13) ⟨by decide +kernel, by decide +kernel, by decide +kernel⟩ rfl d_Book_eval_61 rfl (Nat.le_of_ble_eq_true rfl) ⟨by first | decide | (dsimp only; omega), by first | decide | (dsimp only; omega)⟩ ⟨Nat.le_refl _, Nat.le_refl _⟩ ⟨Nat.le_refl _, Nat.le_refl _⟩ (mv_noH hno _) (fun w61 σ61 h61 => ?_)
          obtain ⟨rfl, rfl, s_g25⟩ := h61
          have r_g25 : mv_r g25 = mv_r h := s_g25.trans r_hz
          refine mv_lstore (pc := 64) B d_Book_eval_64 (by decide) rfl ?_
          refine mv_lpick [1, 2, 0] rfl ?_
          exact lp66 _ _ _ _ r_g25 hf
        · skip
          have hf := xif_t h26 hf
          refine mv_lpick [0, 1, 2] rfl ?_
          exact jn29 _ _ _ r_hz hf
  unfold f_Book_eval at hf
  refine mv_aload_n (pc := 0) B d_Book_eval_0 rfl 0 rfl ?_
  refine mv_getI (pc := 1) (ci := 12) (C := R_Book) (T := F_Book) (N := 65) B 62 rfl rfl (by decide) i_Book (B.2.2.2.1 _ k_1911) rfl d_Book_eval_1 ?_
  refine mv_istore_n (pc := 4) B d_Book_eval_4 rfl (by decide) rfl ?_
  refine mv_iload_n (pc := 5) B d_Book_eval_5 rfl 2 rfl ?_
  refine mv_istore_n (pc := 6) B d_Book_eval_6 rfl (by decide) rfl ?_
  refine mv_lpick [2, 1, 0] rfl ?_
  exact lp7 _ _ _ _ rfl hf
set_option maxHeartbeats 4000000 in
set_option maxRecDepth 100000 in
theorem cr_Book_simple_y (l : Launch) {dA : FieldType → ClassId} {D : va_G} {al : Nat → Nat} {ext : mv_Sh} {sk sv : Nat → Nat} (hi : mv_inj (mg dA D al ext)) (nn : Nat) (ih : RecE l dA D al ext sk sv 108 nn) (h : mv_H) (hb : mh (mv_r h))  (a0 : Int32) {rv : Int64} {rg : mv_H} (hf : f_Book_simple 108 (f_BookE 108 nn) h a0 = some (rv, rg)) : mv_C l y_Book_simple (Cond.code y_Book_simple b_Book_simple 2 (Option.some Jvm.ClassFile.FieldType.long) :: ma) ({ frames := nn + 1 + 7, cells := 0, slots := 0, locals := 28 * (nn + 1) + 420 }) (mg dA D al ext) (mK sk sv) [.ref (al 108), .int a0] h (mv_Rl (fun v σ1 => rv = v ∧ rg = σ1 ∧ mv_r σ1 = mv_r h)) := by
  refine mv_C.ofV (cc := b_Book_simple) (nL := 2) (ret := (Option.some Jvm.ClassFile.FieldType.long)) (by decide +kernel) rfl hi (Nat.le_of_ble_eq_true rfl) ?_
  intro p e s m below meth c B hNs hr hnm hno
  have jn245 : ∀ (x1 : Int32) (hz : mv_H), mv_r hz = mv_r h → f_Book_simple_245 108 (f_BookE 108 nn) x1 hz = some (rv, rg) → mv_V p l e ({ frames := nn + 1 + 7, cells := 0, slots := 0, locals := 28 * (nn + 1) + 420 }) s m ([.ref (al 108), .int a0] : List Value).toArray below meth c (mg dA D al ext) 2 0 0 (mv_Q (mg dA D al ext) below s 0 0 (mv_Rl (fun v σ1 => rv = v ∧ rg = σ1 ∧ mv_r σ1 = mv_r h))) hz 245 [(0, .ref (al 108)), (1, .int x1)] [] := by
    intro x1 hz r_hz hf
    unfold f_Book_simple_245 at hf
    refine mv_aload_n (pc := 245) B d_Book_simple_245 rfl 0 rfl ?_
    refine mv_aload_n (pc := 246) B d_Book_simple_246 rfl 0 rfl ?_
    refine mv_getR (pc := 247) (ci := 12) (C := R_Book) (T := F_Book) (N := 65) B 41 rfl rfl (by decide) i_Book (B.2.2.2.1 _ k_1890) rfl ((congrFun (congrFun r_hz 108) 41).trans (hb 108 41 _ rfl)) d_Book_simple_247 ?_
    refine mv_iload_n (pc := 250) B d_Book_simple_250 rfl 1 rfl ?_
    obtain ⟨q1, hf⟩ := xvi_e hf
    refine mv_iald (pc := 251) B rfl q1 d_Book_simple_251 ?_
    obtain ⟨u3, g2, eg2, hf⟩ := xhb_e hf
    refine mv_callVl (pc := 252) (n := 1) (ci := 12) (C := R_Book) B (mK_ok sk sv) hNs rfl rfl (ih.1 _ _ _ _ (xrw r_hz hb) eg2) rfl (ma_goodc kc_Book_eval) (B.2.2.2.1 _ k_2500) (B.2.2.2.1 _ k_2502) (B.2.2.2.1 _ ks_131) (B.2.2.2.1 _ k_13) ⟨by decide +kernel, by decide +kernel, by decide +kernel⟩ rfl d_Book_simple_252 rfl (Nat.le_of_ble_eq_true rfl) ⟨by first | decide | (dsimp only; omega), by first | decide | (dsimp only; omega)⟩ ⟨Nat.le_refl _, Nat.le_refl _⟩ ⟨Nat.le_refl _, Nat.le_refl _⟩ (mv_noH hno _) (fun w252 σ252 h252 => ?_)
    obtain ⟨rfl, rfl, s_g2⟩ := h252
    have r_g2 : mv_r g2 = mv_r h := s_g2.trans r_hz
    exact mv_lret (pc := 255) B hr d_Book_simple_255 (Nat.le_refl _) (Nat.le_refl _) ⟨_, rfl, xrh_l hf r_g2⟩
  unfold f_Book_simple at hf
  refine mv_aload_n (pc := 0) B d_Book_simple_0 rfl 0 rfl ?_
  refine mv_getR (pc := 1) (ci := 12) (C := R_Book) (T := F_Book) (N := 65) B 40 rfl rfl (by decide) i_Book (B.2.2.2.1 _ k_1889) rfl (hb 108 40 _ rfl) d_Book_simple_1 ?_
  refine mv_iload_n (pc := 4) B d_Book_simple_4 rfl 1 rfl ?_
  obtain ⟨q4, hf⟩ := xvi_e hf
  refine mv_iald (pc := 5) B rfl q4 d_Book_simple_5 ?_
  refine mv_tsw (pc := 6) B d_Book_simple_6 (by decide) (by decide) ?_
  refine ⟨fun h6 => ?_, fun h6n1 => ?_⟩
  · skip
    have hf := xif_t h6 hf
    show mv_V _ _ _ _ _ _ _ _ _ _ _ _ _ _ _ _ 64 _ _
    refine mv_aload_n (pc := 64) B d_Book_simple_64 rfl 0 rfl ?_
    refine mv_getR (pc := 65) (ci := 12) (C := R_Book) (T := F_Book) (N := 65) B 46 rfl rfl (by decide) i_Book (B.2.2.2.1 _ k_1895) rfl (hb 108 46 _ rfl) d_Book_simple_65 ?_
    refine mv_iload_n (pc := 68) B d_Book_simple_68 rfl 1 rfl ?_
    obtain ⟨q5, hf⟩ := xvi_e hf
    refine mv_lald (pc := 69) B rfl q5 d_Book_simple_69 ?_
    exact mv_lret (pc := 70) B hr d_Book_simple_70 (Nat.le_refl _) (Nat.le_refl _) ⟨_, rfl, xrh_l hf rfl⟩
  have hf := xif_f h6n1 hf
  refine ⟨fun h6 => ?_, fun h6n2 => ?_⟩
  · skip
    have hf := xif_t h6 hf
    show mv_V _ _ _ _ _ _ _ _ _ _ _ _ _ _ _ _ 71 _ _
    refine mv_aload_n (pc := 71) B d_Book_simple_71 rfl 0 rfl ?_
    refine mv_aload_n (pc := 72) B d_Book_simple_72 rfl 0 rfl ?_
    refine mv_getR (pc := 73) (ci := 12) (C := R_Book) (T := F_Book) (N := 65) B 41 rfl rfl (by decide) i_Book (B.2.2.2.1 _ k_1890) rfl (hb 108 41 _ rfl) d_Book_simple_73 ?_
    refine mv_iload_n (pc := 76) B d_Book_simple_76 rfl 1 rfl ?_
    obtain ⟨q6, hf⟩ := xvi_e hf
    refine mv_iald (pc := 77) B rfl q6 d_Book_simple_77 ?_
    refine mv_iconst (pc := 78) (v := 0) B d_Book_simple_78 (by decide) ?_
    obtain ⟨u8, g7, eg7, hf⟩ := xhb_e hf
    refine mv_callVl (pc := 79) (n := 2) (ci := 12) (C := R_Book) B (mK_ok sk sv) hNs rfl rfl (ch_Book_read_0_y l hi _ (hb) _ _ eg7) rfl (ma_goodc kc_Book_read_0) (B.2.2.2.1 _ k_2508) (B.2.2.2.1 _ k_2510) (B.2.2.2.1 _ ks_133) (B.2.2.2.1 _ k_13) ⟨by decide +kernel, by decide +kernel, by decide +kernel⟩ rfl d_Book_simple_79 rfl (Nat.le_of_ble_eq_true rfl) ⟨by first | decide | (dsimp only; omega), by first | decide | (dsimp only; omega)⟩ ⟨Nat.le_refl _, Nat.le_refl _⟩ ⟨Nat.le_refl _, Nat.le_refl _⟩ (mv_noH hno _) (fun w79 σ79 h79 => ?_)
    obtain ⟨rfl, rfl, s_g7⟩ := h79
    have r_g7 : mv_r g7 = mv_r h := s_g7.trans rfl
    exact mv_lret (pc := 82) B hr d_Book_simple_82 (Nat.le_refl _) (Nat.le_refl _) ⟨_, rfl, xrh_l hf r_g7⟩
  have hf := xif_f h6n2 hf
  refine ⟨fun h6 => ?_, fun h6n3 => ?_⟩
  · skip
    have hf := xif_t h6 hf
    show mv_V _ _ _ _ _ _ _ _ _ _ _ _ _ _ _ _ 83 _ _
    refine mv_aload_n (pc := 83) B d_Book_simple_83 rfl 0 rfl ?_
    refine mv_aload_n (pc := 84) B d_Book_simple_84 rfl 0 rfl ?_
    refine mv_getR (pc := 85) (ci := 12) (C := R_Book) (T := F_Book) (N := 65) B 41 rfl rfl (by decide) i_Book (B.2.2.2.1 _ k_1890) rfl (hb 108 41 _ rfl) d_Book_simple_85 ?_
    refine mv_iload_n (pc := 88) B d_Book_simple_88 rfl 1 rfl ?_
    obtain ⟨q9, hf⟩ := xvi_e hf
    refine mv_iald (pc := 89) B rfl q9 d_Book_simple_89 ?_
    refine mv_aload_n (pc := 90) B d_Book_simple_90 rfl 0 rfl ?_
    refine mv_aload_n (pc := 91) B d_Book_simple_91 rfl 0 rfl ?_
    refine mv_getR (pc := 92) (ci := 12) (C := R_Book) (T := F_Book) (N := 65) B 42 rfl rfl (by decide) i_Book (B.2.2.2.1 _ k_1891) rfl (hb 108 42 _ rfl) d_Book_simple_92 ?_
    refine mv_iload_n (pc := 95) B d_Book_simple_95 rfl 1 rfl ?_
    obtain ⟨q10, hf⟩ := xvi_e hf
    refine mv_iald (pc := 96) B rfl q10 d_Book_simple_96 ?_
    obtain ⟨u12, g11, eg11, hf⟩ := xhb_e hf
    refine mv_callVl (pc := 97) (n := 1) (ci := 12) (C := R_Book) B (mK_ok sk sv) hNs rfl rfl (ih.1 _ _ _ _ (hb) eg11) rfl (ma_goodc kc_Book_eval) (B.2.2.2.1 _ k_2500) (B.2.2.2.1 _ k_2502) (B.2.2.2.1 _ ks_131) (B.2.2.2.1 _ k_13) ⟨by decide +kernel, by decide +kernel, by decide +kernel⟩ rfl d_Book_simple_97 rfl (Nat.le_of_ble_eq_true rfl) ⟨by first | decide | (dsimp only; omega), by first | decide | (dsimp only; omega)⟩ ⟨Nat.le_refl _, Nat.le_refl _⟩ ⟨Nat.le_refl _, Nat.le_refl _⟩ (mv_noH hno _) (fun w97 σ97 h97 => ?_)
    obtain ⟨rfl, rfl, s_g11⟩ := h97
    have r_g11 : mv_r g11 = mv_r h := s_g11.trans rfl
    obtain ⟨u14, g13, eg13, hf⟩ := xhb_e hf
    refine mv_callVl (pc := 100) (n := 2) (ci := 12) (C := R_Book) B (mK_ok sk sv) hNs rfl rfl (ch_Book_cell_y l hi _ (xrw r_g11 hb) _ _ eg13) rfl (ma_goodc kc_Book_cell) (B.2.2.2.1 _ k_2512) (B.2.2.2.1 _ k_2514) (B.2.2.2.1 _ ks_134) (B.2.2.2.1 _ k_13) ⟨by decide +kernel, by decide +kernel, by decide +kernel⟩ rfl d_Book_simple_100 rfl (Nat.le_of_ble_eq_true rfl) ⟨by first | decide | (dsimp only; omega), by first | decide | (dsimp only; omega)⟩ ⟨Nat.le_refl _, Nat.le_refl _⟩ ⟨Nat.le_refl _, Nat.le_refl _⟩ (mv_noH hno _) (fun w100 σ100 h100 => ?_)
    obtain ⟨rfl, rfl, s_g13⟩ := h100
    have r_g13 : mv_r g13 = mv_r h := s_g13.trans r_g11
    exact mv_lret (pc := 103) B hr d_Book_simple_103 (Nat.le_refl _) (Nat.le_refl _) ⟨_, rfl, xrh_l hf r_g13⟩
  have hf := xif_f h6n3 hf
  refine ⟨fun h6 => ?_, fun h6n4 => ?_⟩
  · skip
    have hf := xif_t h6 hf
    show mv_V _ _ _ _ _ _ _ _ _ _ _ _ _ _ _ _ 104 _ _
    refine mv_aload_n (pc := 104) B d_Book_simple_104 rfl 0 rfl ?_
    refine mv_aload_n (pc := 105) B d_Book_simple_105 rfl 0 rfl ?_
    refine mv_getI (pc := 106) (ci := 12) (C := R_Book) (T := F_Book) (N := 65) B 63 rfl rfl (by decide) i_Book (B.2.2.2.1 _ k_1912) rfl d_Book_simple_106 ?_
    refine mv_aload_n (pc := 109) B d_Book_simple_109 rfl 0 rfl ?_
    refine mv_getR (pc := 110) (ci := 12) (C := R_Book) (T := F_Book) (N := 65) B 41 rfl rfl (by decide) i_Book (B.2.2.2.1 _ k_1890) rfl (hb 108 41 _ rfl) d_Book_simple_110 ?_
    refine mv_iload_n (pc := 113) B d_Book_simple_113 rfl 1 rfl ?_
    obtain ⟨q15, hf⟩ := xvi_e hf
    refine mv_iald (pc := 114) B rfl q15 d_Book_simple_114 ?_
    refine mv_aload_n (pc := 115) B d_Book_simple_115 rfl 0 rfl ?_
    refine mv_getL (pc := 116) (ci := 12) (C := R_Book) (T := F_Book) (N := 65) B 52 rfl rfl (by decide) i_Book (B.2.2.2.1 _ k_1901) rfl d_Book_simple_116 ?_
    obtain ⟨u17, g16, eg16, hf⟩ := xhb_e hf
    refine mv_callVl (pc := 119) (n := 3) (ci := 12) (C := R_Book) B (mK_ok sk sv) hNs rfl rfl (ch_Book_field_y l hi _ (hb) _ _ _ eg16) rfl (ma_goodc kc_Book_field) (B.2.2.2.1 _ k_2516) (B.2.2.2.1 _ k_2408) (B.2.2.2.1 _ k_2409) (B.2.2.2.1 _ k_13) ⟨by decide +kernel, by decide +kernel, by decide +kernel⟩ rfl d_Book_simple_119 rfl (Nat.le_of_ble_eq_true rfl) ⟨by first | decide | (dsimp only; omega), by first | decide | (dsimp only; omega)⟩ ⟨Nat.le_refl _, Nat.le_refl _⟩ ⟨Nat.le_refl _, Nat.le_refl _⟩ (mv_noH hno _) (fun w119 σ119 h119 => ?_)
    obtain ⟨rfl, rfl, s_g16⟩ := h119
    have r_g16 : mv_r g16 = mv_r h := s_g16.trans rfl
    exact mv_lret (pc := 122) B hr d_Book_simple_122 (Nat.le_refl _) (Nat.le_refl _) ⟨_, rfl, xrh_l hf r_g16⟩
  have hf := xif_f h6n4 hf
  refine ⟨fun h6 => ?_, fun h6n5 => ?_⟩
  · skip
    have hf := xif_t h6 hf
    show mv_V _ _ _ _ _ _ _ _ _ _ _ _ _ _ _ _ 123 _ _
    refine mv_aload_n (pc := 123) B d_Book_simple_123 rfl 0 rfl ?_
    refine mv_getR (pc := 124) (ci := 12) (C := R_Book) (T := F_Book) (N := 65) B 54 rfl rfl (by decide) i_Book (B.2.2.2.1 _ k_1903) rfl (hb 108 54 _ rfl) d_Book_simple_124 ?_
    refine mv_aload_n (pc := 127) B d_Book_simple_127 rfl 0 rfl ?_
    refine mv_getR (pc := 128) (ci := 12) (C := R_Book) (T := F_Book) (N := 65) B 41 rfl rfl (by decide) i_Book (B.2.2.2.1 _ k_1890) rfl (hb 108 41 _ rfl) d_Book_simple_128 ?_
    refine mv_iload_n (pc := 131) B d_Book_simple_131 rfl 1 rfl ?_
    obtain ⟨q18, hf⟩ := xvi_e hf
    refine mv_iald (pc := 132) B rfl q18 d_Book_simple_132 ?_
    obtain ⟨q19, hf⟩ := xvi_e hf
    refine mv_lald (pc := 133) B rfl q19 d_Book_simple_133 ?_
    exact mv_lret (pc := 134) B hr d_Book_simple_134 (Nat.le_refl _) (Nat.le_refl _) ⟨_, rfl, xrh_l hf rfl⟩
  have hf := xif_f h6n5 hf
  refine ⟨fun h6 => ?_, fun h6n6 => ?_⟩
  · skip
    have hf := xif_t h6 hf
    show mv_V _ _ _ _ _ _ _ _ _ _ _ _ _ _ _ _ 135 _ _
    refine mv_aload_n (pc := 135) B d_Book_simple_135 rfl 0 rfl ?_
    refine mv_getR (pc := 136) (ci := 12) (C := R_Book) (T := F_Book) (N := 65) B 42 rfl rfl (by decide) i_Book (B.2.2.2.1 _ k_1891) rfl (hb 108 42 _ rfl) d_Book_simple_136 ?_
    refine mv_iload_n (pc := 139) B d_Book_simple_139 rfl 1 rfl ?_
    obtain ⟨q20, hf⟩ := xvi_e hf
    refine mv_iald (pc := 140) B rfl q20 d_Book_simple_140 ?_
    refine mv_aload_n (pc := 141) B d_Book_simple_141 rfl 0 rfl ?_
    refine mv_aload_n (pc := 142) B d_Book_simple_142 rfl 0 rfl ?_
    refine mv_getR (pc := 143) (ci := 12) (C := R_Book) (T := F_Book) (N := 65) B 41 rfl rfl (by decide) i_Book (B.2.2.2.1 _ k_1890) rfl (hb 108 41 _ rfl) d_Book_simple_143 ?_
    refine mv_iload_n (pc := 146) B d_Book_simple_146 rfl 1 rfl ?_
    obtain ⟨q21, hf⟩ := xvi_e hf
    refine mv_iald (pc := 147) B rfl q21 d_Book_simple_147 ?_
    obtain ⟨u23, g22, eg22, hf⟩ := xhb_e hf
    refine mv_callVl (pc := 148) (n := 1) (ci := 12) (C := R_Book) B (mK_ok sk sv) hNs rfl rfl (ih.1 _ _ _ _ (hb) eg22) rfl (ma_goodc kc_Book_eval) (B.2.2.2.1 _ k_2500) (B.2.2.2.1 _ k_2502) (B.2.2.2.1 _ ks_131) (B.2.2.2.1 _ k_13) ⟨by decide +kernel, by decide +kernel, by decide +kernel⟩ rfl d_Book_simple_148 rfl (Nat.le_of_ble_eq_true rfl) ⟨by first | decide | (dsimp only; omega), by first | decide | (dsimp only; omega)⟩ ⟨Nat.le_refl _, Nat.le_refl _⟩ ⟨Nat.le_refl _, Nat.le_refl _⟩ (mv_noH hno _) (fun w148 σ148 h148 => ?_)
    obtain ⟨rfl, rfl, s_g22⟩ := h148
    have r_g22 : mv_r g22 = mv_r h := s_g22.trans rfl
    refine mv_aload_n (pc := 151) B d_Book_simple_151 rfl 0 rfl ?_
    refine mv_getR (pc := 152) (ci := 12) (C := R_Book) (T := F_Book) (N := 65) B 45 rfl rfl (by decide) i_Book (B.2.2.2.1 _ k_1894) rfl ((congrFun (congrFun r_g22 108) 45).trans (hb 108 45 _ rfl)) d_Book_simple_152 ?_
    refine mv_iload_n (pc := 155) B d_Book_simple_155 rfl 1 rfl ?_
    obtain ⟨q24, hf⟩ := xvi_e hf
    refine mv_iald (pc := 156) B rfl q24 d_Book_simple_156 ?_
    obtain ⟨u26, g25, eg25, hf⟩ := xhb_e hf
    refine mv_callSl (pc := 157) (n := 3) B (mK_ok sk sv) hNs (ch_Book_unaryValue l hi _ _ _ _ eg25) rfl (ma_goodc kc_Book_unaryValue) (B.2.2.2.1 _ k_2517) (B.2.2.2.1 _ k_2518) (B.2.2.2.1 _ k_13) ⟨by decide +kernel, by decide +kernel, by decide +kernel⟩ rfl d_Book_simple_157 rfl (Nat.le_of_ble_eq_true rfl) ⟨by first | decide | (dsimp only; omega), by first | decide | (dsimp only; omega)⟩ ⟨Nat.le_refl _, Nat.le_refl _⟩ ⟨Nat.le_refl _, Nat.le_refl _⟩ (mv_noH hno _) (fun w157 σ157 h157 => ?_)
    obtain ⟨rfl, rfl, s_g25⟩ := h157
    have r_g25 : mv_r g25 = mv_r h := s_g25.trans r_g22
    exact mv_lret (pc := 160) B hr d_Book_simple_160 (Nat.le_refl _) (Nat.le_refl _) ⟨_, rfl, xrh_l hf r_g25⟩
  have hf := xif_f h6n6 hf
  refine ⟨fun h6 => ?_, fun h6n7 => ?_⟩
  · skip
    have hf := xif_t h6 hf
    show mv_V _ _ _ _ _ _ _ _ _ _ _ _ _ _ _ _ 245 _ _
    refine mv_lpick [0, 1] rfl ?_
    exact jn245 _ _ rfl hf
  have hf := xif_f h6n7 hf
  refine ⟨fun h6 => ?_, fun h6n8 => ?_⟩
  · skip
    have hf := xif_t h6 hf
    show mv_V _ _ _ _ _ _ _ _ _ _ _ _ _ _ _ _ 245 _ _
    refine mv_lpick [0, 1] rfl ?_
    exact jn245 _ _ rfl hf
  have hf := xif_f h6n8 hf
  refine ⟨fun h6 => ?_, fun h6n9 => ?_⟩
  · skip
    have hf := xif_t h6 hf
    show mv_V _ _ _ _ _ _ _ _ _ _ _ _ _ _ _ _ 161 _ _
    refine mv_aload_n (pc := 161) B d_Book_simple_161 rfl 0 rfl ?_
    refine mv_aload_n (pc := 162) B d_Book_simple_162 rfl 0 rfl ?_
    refine mv_getR (pc := 163) (ci := 12) (C := R_Book) (T := F_Book) (N := 65) B 41 rfl rfl (by decide) i_Book (B.2.2.2.1 _ k_1890) rfl (hb 108 41 _ rfl) d_Book_simple_163 ?_
    refine mv_iload_n (pc := 166) B d_Book_simple_166 rfl 1 rfl ?_
    obtain ⟨q27, hf⟩ := xvi_e hf
    refine mv_iald (pc := 167) B rfl q27 d_Book_simple_167 ?_
    obtain ⟨u29, g28, eg28, hf⟩ := xhb_e hf
    refine mv_callVl (pc := 168) (n := 1) (ci := 12) (C := R_Book) B (mK_ok sk sv) hNs rfl rfl (ih.1 _ _ _ _ (hb) eg28) rfl (ma_goodc kc_Book_eval) (B.2.2.2.1 _ k_2500) (B.2.2.2.1 _ k_2502) (B.2.2.2.1 _ ks_131) (B.2.2.2.1 _ k_13) ⟨by decide +kernel, by decide +kernel, by decide +kernel⟩ rfl d_Book_simple_168 rfl (Nat.le_of_ble_eq_true rfl) ⟨by first | decide | (dsimp only; omega), by first | decide | (dsimp only; omega)⟩ ⟨Nat.le_refl _, Nat.le_refl _⟩ ⟨Nat.le_refl _, Nat.le_refl _⟩ (mv_noH hno _) (fun w168 σ168 h168 => ?_)
    obtain ⟨rfl, rfl, s_g28⟩ := h168
    have r_g28 : mv_r g28 = mv_r h := s_g28.trans rfl
    refine mv_lconst (pc := 171) (v := 0) B d_Book_simple_171 (by decide) ?_
    refine mv_lcmp (pc := 172) B d_Book_simple_172 ?_
    refine mv_if_eq (pc := 173) (tgt := 189) B d_Book_simple_173 rfl (fun h173 => ?_) (fun h173 => ?_)
    · skip
      have hf := xif_t h173 hf
      refine mv_aload_n (pc := 189) B d_Book_simple_189 rfl 0 rfl ?_
      refine mv_aload_n (pc := 190) B d_Book_simple_190 rfl 0 rfl ?_
      refine mv_getR (pc := 191) (ci := 12) (C := R_Book) (T := F_Book) (N := 65) B 43 rfl rfl (by decide) i_Book (B.2.2.2.1 _ k_1892) rfl ((congrFun (congrFun r_g28 108) 43).trans (hb 108 43 _ rfl)) d_Book_simple_191 ?_
      refine mv_iload_n (pc := 194) B d_Book_simple_194 rfl 1 rfl ?_
      obtain ⟨q30, hf⟩ := xvi_e hf
      refine mv_iald (pc := 195) B rfl q30 d_Book_simple_195 ?_
      obtain ⟨u32, g31, eg31, hf⟩ := xhb_e hf
      refine mv_callVl (pc := 196) (n := 1) (ci := 12) (C := R_Book) B (mK_ok sk sv) hNs rfl rfl (ih.1 _ _ _ _ (xrw r_g28 hb) eg31) rfl (ma_goodc kc_Book_eval) (B.2.2.2.1 _ k_2500) (B.2.2.2.1 _ k_2502) (B.2.2.2.1 _ ks_131) (B.2.2.2.1 _ k_13) ⟨by decide +kernel, by decide +kernel, by decide +kernel⟩ rfl d_Book_simple_196 rfl (Nat.le_of_ble_eq_true rfl) ⟨by first | decide | (dsimp only; omega), by first | decide | (dsimp only; omega)⟩ ⟨Nat.le_refl _, Nat.le_refl _⟩ ⟨Nat.le_refl _, Nat.le_refl _⟩ (mv_noH hno _) (fun w196 σ196 h196 => ?_)
      obtain ⟨rfl, rfl, s_g31⟩ := h196
      have r_g31 : mv_r g31 = mv_r h := s_g31.trans r_g28
      exact mv_lret (pc := 199) B hr d_Book_simple_199 (Nat.le_refl _) (Nat.le_refl _) ⟨_, rfl, xrh_l hf r_g31⟩
    · skip
      have hf := xif_f h173 hf
      refine mv_aload_n (pc := 176) B d_Book_simple_176 rfl 0 rfl ?_
      refine mv_aload_n (pc := 177) B d_Book_simple_177 rfl 0 rfl ?_
      refine mv_getR (pc := 178) (ci := 12) (C := R_Book) (T := F_Book) (N := 65) B 42 rfl rfl (by decide) i_Book (B.2.2.2.1 _ k_1891) rfl ((congrFun (congrFun r_g28 108) 42).trans (hb 108 42 _ rfl)) d_Book_simple_178 ?_
      refine mv_iload_n (pc := 181) B d_Book_simple_181 rfl 1 rfl ?_
      obtain ⟨q33, hf⟩ := xvi_e hf
      refine mv_iald (pc := 182) B rfl q33 d_Book_simple_182 ?_
      obtain ⟨u35, g34, eg34, hf⟩ := xhb_e hf
      refine mv_callVl (pc := 183) (n := 1) (ci := 12) (C := R_Book) B (mK_ok sk sv) hNs rfl rfl (ih.1 _ _ _ _ (xrw r_g28 hb) eg34) rfl (ma_goodc kc_Book_eval) (B.2.2.2.1 _ k_2500) (B.2.2.2.1 _ k_2502) (B.2.2.2.1 _ ks_131) (B.2.2.2.1 _ k_13) ⟨by decide +kernel, by decide +kernel, by decide +kernel⟩ rfl d_Book_simple_183 rfl (Nat.le_of_ble_eq_true rfl) ⟨by first | decide | (dsimp only; omega), by first | decide | (dsimp only; omega)⟩ ⟨Nat.le_refl _, Nat.le_refl _⟩ ⟨Nat.le_refl _, Nat.le_refl _⟩ (mv_noH hno _) (fun w183 σ183 h183 => ?_)
      obtain ⟨rfl, rfl, s_g34⟩ := h183
      have r_g34 : mv_r g34 = mv_r h := s_g34.trans r_g28
      refine mv_goto (pc := 186) (tgt := 199) B d_Book_simple_186 rfl ?_
      exact mv_lret (pc := 199) B hr d_Book_simple_199 (Nat.le_refl _) (Nat.le_refl _) ⟨_, rfl, xrh_l hf r_g34⟩
  have hf := xif_f h6n9 hf
  refine ⟨fun h6 => ?_, fun h6n10 => ?_⟩
  · skip
    have hf := xif_t h6 hf
    show mv_V _ _ _ _ _ _ _ _ _ _ _ _ _ _ _ _ 200 _ _
    refine mv_aload_n (pc := 200) B d_Book_simple_200 rfl 0 rfl ?_
    refine mv_aload_n (pc := 201) B d_Book_simple_201 rfl 0 rfl ?_
    refine mv_getR (pc := 202) (ci := 12) (C := R_Book) (T := F_Book) (N := 65) B 41 rfl rfl (by decide) i_Book (B.2.2.2.1 _ k_1890) rfl (hb 108 41 _ rfl) d_Book_simple_202 ?_
    refine mv_iload_n (pc := 205) B d_Book_simple_205 rfl 1 rfl ?_
    obtain ⟨q36, hf⟩ := xvi_e hf
    refine mv_iald (pc := 206) B rfl q36 d_Book_simple_206 ?_
    obtain ⟨u38, g37, eg37, hf⟩ := xhb_e hf
    refine mv_callVl (pc := 207) (n := 1) (ci := 12) (C := R_Book) B (mK_ok sk sv) hNs rfl rfl (ih.2.2 _ _ _ _ (hb) eg37) rfl (ma_goodc kc_Book_row) (B.2.2.2.1 _ k_2521) (B.2.2.2.1 _ k_2523) (B.2.2.2.1 _ ks_135) (B.2.2.2.1 _ k_13) ⟨by decide +kernel, by decide +kernel, by decide +kernel⟩ rfl d_Book_simple_207 rfl (Nat.le_of_ble_eq_true rfl) ⟨by first | decide | (dsimp only; omega), by first | decide | (dsimp only; omega)⟩ ⟨Nat.le_refl _, Nat.le_refl _⟩ ⟨Nat.le_refl _, Nat.le_refl _⟩ (mv_noH hno _) (fun w207 σ207 h207 => ?_)
    obtain ⟨rfl, rfl, s_g37⟩ := h207
    have r_g37 : mv_r g37 = mv_r h := s_g37.trans rfl
    exact mv_lret (pc := 210) B hr d_Book_simple_210 (Nat.le_refl _) (Nat.le_refl _) ⟨_, rfl, xrh_l hf r_g37⟩
  have hf := xif_f h6n10 hf
  refine ⟨fun h6 => ?_, fun h6n11 => ?_⟩
  · skip
    have hf := xif_t h6 hf
    show mv_V _ _ _ _ _ _ _ _ _ _ _ _ _ _ _ _ 211 _ _
    refine mv_aload_n (pc := 211) B d_Book_simple_211 rfl 0 rfl ?_
    refine mv_aload_n (pc := 212) B d_Book_simple_212 rfl 0 rfl ?_
    refine mv_getR (pc := 213) (ci := 12) (C := R_Book) (T := F_Book) (N := 65) B 41 rfl rfl (by decide) i_Book (B.2.2.2.1 _ k_1890) rfl (hb 108 41 _ rfl) d_Book_simple_213 ?_
    refine mv_iload_n (pc := 216) B d_Book_simple_216 rfl 1 rfl ?_
    obtain ⟨q39, hf⟩ := xvi_e hf
    refine mv_iald (pc := 217) B rfl q39 d_Book_simple_217 ?_
    obtain ⟨u41, g40, eg40, hf⟩ := xhb_e hf
    refine mv_callVl (pc := 218) (n := 1) (ci := 12) (C := R_Book) B (mK_ok sk sv) hNs rfl rfl (ih.1 _ _ _ _ (hb) eg40) rfl (ma_goodc kc_Book_eval) (B.2.2.2.1 _ k_2500) (B.2.2.2.1 _ k_2502) (B.2.2.2.1 _ ks_131) (B.2.2.2.1 _ k_13) ⟨by decide +kernel, by decide +kernel, by decide +kernel⟩ rfl d_Book_simple_218 rfl (Nat.le_of_ble_eq_true rfl) ⟨by first | decide | (dsimp only; omega), by first | decide | (dsimp only; omega)⟩ ⟨Nat.le_refl _, Nat.le_refl _⟩ ⟨Nat.le_refl _, Nat.le_refl _⟩ (mv_noH hno _) (fun w218 σ218 h218 => ?_)
    obtain ⟨rfl, rfl, s_g40⟩ := h218
    have r_g40 : mv_r g40 = mv_r h := s_g40.trans rfl
    refine mv_aload_n (pc := 221) B d_Book_simple_221 rfl 0 rfl ?_
    refine mv_getR (pc := 222) (ci := 12) (C := R_Book) (T := F_Book) (N := 65) B 45 rfl rfl (by decide) i_Book (B.2.2.2.1 _ k_1894) rfl ((congrFun (congrFun r_g40 108) 45).trans (hb 108 45 _ rfl)) d_Book_simple_222 ?_
    refine mv_aload_n (pc := 225) B d_Book_simple_225 rfl 0 rfl ?_
    refine mv_getR (pc := 226) (ci := 12) (C := R_Book) (T := F_Book) (N := 65) B 41 rfl rfl (by decide) i_Book (B.2.2.2.1 _ k_1890) rfl ((congrFun (congrFun r_g40 108) 41).trans (hb 108 41 _ rfl)) d_Book_simple_226 ?_
    refine mv_iload_n (pc := 229) B d_Book_simple_229 rfl 1 rfl ?_
    obtain ⟨q42, hf⟩ := xvi_e hf
    refine mv_iald (pc := 230) B rfl q42 d_Book_simple_230 ?_
    obtain ⟨q43, hf⟩ := xvi_e hf
    refine mv_iald (pc := 231) B rfl q43 d_Book_simple_231 ?_
    obtain ⟨u45, g44, eg44, hf⟩ := xhb_e hf
    refine mv_callSl (pc := 232) (n := 2) B (mK_ok sk sv) hNs (ch_Book_signed l hi _ _ _ eg44) rfl (ma_goodc kc_Book_signed) (B.2.2.2.1 _ k_2525) (B.2.2.2.1 _ k_2526) (B.2.2.2.1 _ k_13) ⟨by decide +kernel, by decide +kernel, by decide +kernel⟩ rfl d_Book_simple_232 rfl (Nat.le_of_ble_eq_true rfl) ⟨by first | decide | (dsimp only; omega), by first | decide | (dsimp only; omega)⟩ ⟨Nat.le_refl _, Nat.le_refl _⟩ ⟨Nat.le_refl _, Nat.le_refl _⟩ (mv_noH hno _) (fun w232 σ232 h232 => ?_)
    obtain ⟨rfl, rfl, s_g44⟩ := h232
    have r_g44 : mv_r g44 = mv_r h := s_g44.trans r_g40
    refine mv_aload_n (pc := 235) B d_Book_simple_235 rfl 0 rfl ?_
    refine mv_getR (pc := 236) (ci := 12) (C := R_Book) (T := F_Book) (N := 65) B 45 rfl rfl (by decide) i_Book (B.2.2.2.1 _ k_1894) rfl ((congrFun (congrFun r_g44 108) 45).trans (hb 108 45 _ rfl)) d_Book_simple_236 ?_
    refine mv_iload_n (pc := 239) B d_Book_simple_239 rfl 1 rfl ?_
    obtain ⟨q46, hf⟩ := xvi_e hf
    refine mv_iald (pc := 240) B rfl q46 d_Book_simple_240 ?_
    obtain ⟨u48, g47, eg47, hf⟩ := xhb_e hf
    refine mv_callSl (pc := 241) (n := 2) B (mK_ok sk sv) hNs (ch_Book_cut l hi _ _ _ eg47) rfl (ma_goodc kc_Book_cut) (B.2.2.2.1 _ k_2427) (B.2.2.2.1 _ k_2428) (B.2.2.2.1 _ k_13) ⟨by decide +kernel, by decide +kernel, by decide +kernel⟩ rfl d_Book_simple_241 rfl (Nat.le_of_ble_eq_true rfl) ⟨by first | decide | (dsimp only; omega), by first | decide | (dsimp only; omega)⟩ ⟨Nat.le_refl _, Nat.le_refl _⟩ ⟨Nat.le_refl _, Nat.le_refl _⟩ (mv_noH hno _) (fun w241 σ241 h241 => ?_)
    obtain ⟨rfl, rfl, s_g47⟩ := h241
    have r_g47 : mv_r g47 = mv_r h := s_g47.trans r_g44
    exact mv_lret (pc := 244) B hr d_Book_simple_244 (Nat.le_refl _) (Nat.le_refl _) ⟨_, rfl, xrh_l hf r_g47⟩
  have hf := xif_f h6n11 hf
  show mv_V _ _ _ _ _ _ _ _ _ _ _ _ _ _ _ _ 245 _ _
  refine mv_lpick [0, 1] rfl ?_
  exact jn245 _ _ rfl hf
set_option maxHeartbeats 4000000 in
set_option maxRecDepth 100000 in
theorem cr_Book_row_y (l : Launch) {dA : FieldType → ClassId} {D : va_G} {al : Nat → Nat} {ext : mv_Sh} {sk sv : Nat → Nat} (hi : mv_inj (mg dA D al ext)) (nn : Nat) (ih : RecE l dA D al ext sk sv 108 nn) (h : mv_H) (hb : mh (mv_r h))  (a0 : Int32) {rv : Int64} {rg : mv_H} (hf : f_Book_row 108 (f_BookE 108 nn) h a0 = some (rv, rg)) : mv_C l y_Book_row (Cond.code y_Book_row b_Book_row 7 (Option.some Jvm.ClassFile.FieldType.long) :: ma) ({ frames := nn + 1 + 7, cells := 0, slots := 0, locals := 28 * (nn + 1) + 420 }) (mg dA D al ext) (mK sk sv) [.ref (al 108), .int a0] h (mv_Rl (fun v σ1 => rv = v ∧ rg = σ1 ∧ mv_r σ1 = mv_r h)) := by
  refine mv_C.ofV (cc := b_Book_row) (nL := 7) (ret := (Option.some Jvm.ClassFile.FieldType.long)) (by decide +kernel) rfl hi (Nat.le_of_ble_eq_true rfl) ?_
  intro p e s m below meth c B hNs hr hnm hno
  have lp5 : ∀ (nn5 : Nat) (x2 : Int64) (x4 : Int32) (hz : mv_H), mv_r hz = mv_r h → f_Book_row_5 108 (f_BookE 108 nn) nn5 x2 x4 hz = some (rv, rg) → mv_V p l e ({ frames := nn + 1 + 7, cells := 0, slots := 0, locals := 28 * (nn + 1) + 420 }) s m ([.ref (al 108), .int a0] : List Value).toArray below meth c (mg dA D al ext) 7 0 0 (mv_Q (mg dA D al ext) below s 0 0 (mv_Rl (fun v σ1 => rv = v ∧ rg = σ1 ∧ mv_r σ1 = mv_r h))) hz 5 [(0, .ref (al 108)), (2, .long x2), (4, .int x4)] [] := by
    intro nn5
    induction nn5 with
    | zero => intro x2 x4 hz r_hz hf; cases hf
    | succ nn5 ih5 =>
      intro x2 x4 hz r_hz hf
      have jn47 : ∀ (x4 : Int32) (y0 : Int64) (hz : mv_H), mv_r hz = mv_r h → f_Book_row_47 108 (f_BookE 108 nn) (f_Book_row_5 108 (f_BookE 108 nn) nn5) x4 y0 hz = some (rv, rg) → mv_V p l e ({ frames := nn + 1 + 7, cells := 0, slots := 0, locals := 28 * (nn + 1) + 420 }) s m ([.ref (al 108), .int a0] : List Value).toArray below meth c (mg dA D al ext) 7 0 0 (mv_Q (mg dA D al ext) below s 0 0 (mv_Rl (fun v σ1 => rv = v ∧ rg = σ1 ∧ mv_r σ1 = mv_r h))) hz 47 [(0, .ref (al 108)), (4, .int x4)] [.long y0] := by
        intro x4 y0 hz r_hz hf
        unfold f_Book_row_47 at hf
        refine mv_lstore_n (pc := 47) B d_Book_row_47 rfl (by decide) rfl ?_
        refine mv_aload_n (pc := 48) B d_Book_row_48 rfl 1 rfl ?_
        refine mv_getR (pc := 49) (ci := 12) (C := R_Book) (T := F_Book) (N := 65) B 44 rfl rfl (by decide) i_Book (B.2.2.2.1 _ k_1893) rfl ((congrFun (congrFun r_hz 108) 44).trans (hb 108 44 _ rfl)) d_Book_row_49 ?_
        refine mv_iload (pc := 52) B d_Book_row_52 2 rfl ?_
        obtain ⟨q1, hf⟩ := xvi_e hf
        refine mv_iald (pc := 54) B rfl q1 d_Book_row_54 ?_
        refine mv_istore (pc := 55) B d_Book_row_55 (by decide) rfl ?_
        refine mv_goto (pc := 57) (tgt := 5) B d_Book_row_57 rfl ?_
        refine mv_lpick [2, 1, 0] rfl ?_
        exact ih5 _ _ _ r_hz hf
      have hf : fF_Book_row_5 108 (f_BookE 108 nn) (f_Book_row_5 108 (f_BookE 108 nn) nn5) x2 x4 hz = some (rv, rg) := hf
      unfold fF_Book_row_5 at hf
      refine mv_iload (pc := 5) B d_Book_row_5 2 rfl ?_
      refine mv_if_lt (pc := 7) (tgt := 60) B d_Book_row_7 rfl (fun h7 => ?_) (fun h7 => ?_)
      · skip
        have hf := xif_t h7 hf
        refine mv_lload_n (pc := 60) B d_Book_row_60 rfl 1 rfl ?_
        exact mv_lret (pc := 61) B hr d_Book_row_61 (Nat.le_refl _) (Nat.le_refl _) ⟨_, rfl, xrh_l hf r_hz⟩
      · skip
        have hf := xif_f h7 hf
        refine mv_aload_n (pc := 10) B d_Book_row_10 rfl 0 rfl ?_
        refine mv_iload (pc := 11) B d_Book_row_11 2 rfl ?_
        obtain ⟨u3, g2, eg2, hf⟩ := xhb_e hf
        refine mv_callVl (pc := 13) (n := 1) (ci := 12) (C := R_Book) B (mK_ok sk sv) hNs rfl rfl (ih.1 _ _ _ _ (xrw r_hz hb) eg2) rfl (ma_goodc kc_Book_eval) (B.2.2.2.1 _ k_2500) (B.2.2.2.1 _ k_2502) (B.2.2.2.1 _ ks_131) (B.2.2.2.1 _ k_13) ⟨by decide +kernel, by decide +kernel, by decide +kernel⟩ rfl d_Book_row_13 rfl (Nat.le_of_ble_eq_true rfl) ⟨by first | decide | (dsimp only; omega), by first | decide | (dsimp only; omega)⟩ ⟨Nat.le_refl _, Nat.le_refl _⟩ ⟨Nat.le_refl _, Nat.le_refl _⟩ (mv_noH hno _) (fun w13 σ13 h13 => ?_)
        obtain ⟨rfl, rfl, s_g2⟩ := h13
        have r_g2 : mv_r g2 = mv_r h := s_g2.trans r_hz
        refine mv_lstore (pc := 16) B d_Book_row_16 (by decide) rfl ?_
        refine mv_aload_n (pc := 18) B d_Book_row_18 rfl 1 rfl ?_
        refine mv_getR (pc := 19) (ci := 12) (C := R_Book) (T := F_Book) (N := 65) B 45 rfl rfl (by decide) i_Book (B.2.2.2.1 _ k_1894) rfl ((congrFun (congrFun r_g2 108) 45).trans (hb 108 45 _ rfl)) d_Book_row_19 ?_
        refine mv_iload (pc := 22) B d_Book_row_22 3 rfl ?_
        obtain ⟨q4, hf⟩ := xvi_e hf
        refine mv_iald (pc := 24) B rfl q4 d_Book_row_24 ?_
        refine mv_bipush (pc := 25) (v := 64) B d_Book_row_25 (by decide) ?_
        refine mv_icmp_ne (pc := 27) (tgt := 35) B d_Book_row_27 rfl (fun h27 => ?_) (fun h27 => ?_)
        · skip
          have hf := xif_f h27 hf
          refine mv_lload_n (pc := 35) B d_Book_row_35 rfl 2 rfl ?_
          refine mv_aload_n (pc := 36) B d_Book_row_36 rfl 1 rfl ?_
          refine mv_getR (pc := 37) (ci := 12) (C := R_Book) (T := F_Book) (N := 65) B 45 rfl rfl (by decide) i_Book (B.2.2.2.1 _ k_1894) rfl ((congrFun (congrFun r_g2 108) 45).trans (hb 108 45 _ rfl)) d_Book_row_37 ?_
          refine mv_iload (pc := 40) B d_Book_row_40 3 rfl ?_
          obtain ⟨q5, hf⟩ := xvi_e hf
          refine mv_iald (pc := 42) B rfl q5 d_Book_row_42 ?_
          refine mv_lshl (pc := 43) B d_Book_row_43 ?_
          refine mv_lload (pc := 44) B d_Book_row_44 0 rfl ?_
          refine mv_lor (pc := 46) B d_Book_row_46 ?_
          refine mv_lpick [1, 3] rfl ?_
          exact jn47 _ _ _ r_g2 hf
        · skip
          have hf := xif_t h27 hf
          refine mv_lload (pc := 30) B d_Book_row_30 0 rfl ?_
          refine mv_goto (pc := 32) (tgt := 47) B d_Book_row_32 rfl ?_
          refine mv_lpick [1, 3] rfl ?_
          exact jn47 _ _ _ r_g2 hf
  unfold f_Book_row at hf
  refine mv_lconst (pc := 0) (v := 0) B d_Book_row_0 (by decide) ?_
  refine mv_lstore_n (pc := 1) B d_Book_row_1 rfl (by decide) rfl ?_
  refine mv_iload_n (pc := 2) B d_Book_row_2 rfl 2 rfl ?_
  refine mv_istore (pc := 3) B d_Book_row_3 (by decide) rfl ?_
  refine mv_lpick [2, 1, 0] rfl ?_
  exact lp5 _ _ _ _ rfl hf
theorem recE_0y (l : Launch) {dA : FieldType → ClassId} {D : va_G} {al : Nat → Nat} {ext : mv_Sh} {sk sv : Nat → Nat} (hi : mv_inj (mg dA D al ext)) : RecE l dA D al ext sk sv 108 0 := ⟨(fun a h rv rg hb hf => by cases hf), (fun a h rv rg hb hf => by cases hf), (fun a h rv rg hb hf => by cases hf)⟩
theorem recE_1y (l : Launch) {dA : FieldType → ClassId} {D : va_G} {al : Nat → Nat} {ext : mv_Sh} {sk sv : Nat → Nat} (hi : mv_inj (mg dA D al ext)) (nn : Nat) (ih : RecE l dA D al ext sk sv 108 nn) : RecE l dA D al ext sk sv 108 (nn + 1) := ⟨(fun a h rv rg hb hf => cr_Book_eval_y l hi nn ih h hb a (by rw [f_BookE] at hf; exact hf)), (fun a h rv rg hb hf => cr_Book_simple_y l hi nn ih h hb a (by rw [f_BookE] at hf; exact hf)), (fun a h rv rg hb hf => cr_Book_row_y l hi nn ih h hb a (by rw [f_BookE] at hf; exact hf))⟩
theorem recE_y (l : Launch) {dA : FieldType → ClassId} {D : va_G} {al : Nat → Nat} {ext : mv_Sh} {sk sv : Nat → Nat} (hi : mv_inj (mg dA D al ext)) : ∀ nn, RecE l dA D al ext sk sv 108 nn := by
  intro nn
  induction nn with
  | zero => exact recE_0y l hi
  | succ nn ih => exact recE_1y l hi nn ih
def f_Book_setCell_46 (P : Nat) (x1 : Int32) (x2 : Int64) (hz : mv_H) : Option mv_H := if (mv_i hz P 53) = (0 : Int32) then (bif xvi x1 33000 then xhb (f_BookE P 1900 0 (mv_a hz (P + 20) (x1).toNatClampNeg) hz) fun u3 g2 => if (mv_i g2 P 53) = (0 : Int32) then (bif xvi x1 33000 then xhv (f_Book_write P g2 (mv_a g2 (P + 19) (x1).toNatClampNeg) ((x2).toInt32) u3) fun g5 => some g5 else none) else (some g2) else none) else (some hz)
def f_Book_setCell (P : Nat) (h : mv_H) (a0 : Int32) : Option mv_H := bif xvi a0 33000 then xhb (f_BookE P 1900 0 (mv_a h (P + 21) (a0).toNatClampNeg) h) fun u9 g8 => if (mv_i g8 P 53) = (0 : Int32) then (bif xvi a0 33000 then bif xvi (mv_a g8 (P + 19) (a0).toNatClampNeg) 4100 then xhb (f_Model_in g8 u9 (0 : Int64) ((((mv_a g8 (P + 4) ((mv_a g8 (P + 19) (a0).toNatClampNeg)).toNatClampNeg) - (1 : Int32))).toInt64)) fun u13 g12 => if u13 = (0 : Int32) then (xk (mv_si g12 P 53 (-3 : Int32)) fun g14 => f_Book_setCell_46 P a0 u9 g14) else (f_Book_setCell_46 P a0 u9 g12) else none else none) else (f_Book_setCell_46 P a0 u9 g8) else none
set_option maxHeartbeats 4000000 in
set_option maxRecDepth 100000 in
theorem ch_Book_setCell_x (l : Launch) {dA : FieldType → ClassId} {D : va_G} {al : Nat → Nat} {ext : mv_Sh} {sk sv : Nat → Nat} (hi : mv_inj (mg dA D al ext)) (h : mv_H) (hb : mh (mv_r h))  (a0 : Int32) {rg : mv_H} (hf : f_Book_setCell 74 h a0 = some rg) : mv_C l y_Book_setCell (Cond.code y_Book_setCell b_Book_setCell 6 (Option.none : Option Jvm.ClassFile.FieldType) :: ma) ({ frames := 1908, cells := 0, slots := 0, locals := 53645 }) (mg dA D al ext) (mK sk sv) [.ref (al 74), .int a0] h (mv_Rv (fun σ1 => rg = σ1 ∧ mv_r σ1 = mv_r h)) := by
  refine mv_C.ofV (cc := b_Book_setCell) (nL := 6) (ret := (Option.none : Option Jvm.ClassFile.FieldType)) (by decide +kernel) rfl hi (Nat.le_of_ble_eq_true rfl) ?_
  intro p e s m below meth c B hNs hr hnm hno
  have jn46 : ∀ (x1 : Int32) (x2 : Int64) (hz : mv_H), mv_r hz = mv_r h → f_Book_setCell_46 74 x1 x2 hz = some rg → mv_V p l e ({ frames := 1908, cells := 0, slots := 0, locals := 53645 }) s m ([.ref (al 74), .int a0] : List Value).toArray below meth c (mg dA D al ext) 6 0 0 (mv_Q (mg dA D al ext) below s 0 0 (mv_Rv (fun σ1 => rg = σ1 ∧ mv_r σ1 = mv_r h))) hz 46 [(0, .ref (al 74)), (1, .int x1), (2, .long x2)] [] := by
    intro x1 x2 hz r_hz hf
    unfold f_Book_setCell_46 at hf
    refine mv_aload_n (pc := 46) B d_Book_setCell_46 rfl 0 rfl ?_
    refine mv_getI (pc := 47) (ci := 12) (C := R_Book) (T := F_Book) (N := 65) B 53 rfl rfl (by decide) i_Book (B.2.2.2.1 _ k_1902) rfl d_Book_setCell_47 ?_
    refine mv_if_eq (pc := 50) (tgt := 54) B d_Book_setCell_50 rfl (fun h50 => ?_) (fun h50 => ?_)
    · skip
      have hf := xif_t h50 hf
      refine mv_aload_n (pc := 54) B d_Book_setCell_54 rfl 0 rfl ?_
      refine mv_aload_n (pc := 55) B d_Book_setCell_55 rfl 0 rfl ?_
      refine mv_getR (pc := 56) (ci := 12) (C := R_Book) (T := F_Book) (N := 65) B 42 rfl rfl (by decide) i_Book (B.2.2.2.1 _ k_1891) rfl ((congrFun (congrFun r_hz 74) 42).trans (hb 74 42 _ rfl)) d_Book_setCell_56 ?_
      refine mv_iload_n (pc := 59) B d_Book_setCell_59 rfl 1 rfl ?_
      obtain ⟨q1, hf⟩ := xvi_e hf
      refine mv_iald (pc := 60) B rfl q1 d_Book_setCell_60 ?_
      obtain ⟨u3, g2, eg2, hf⟩ := xhb_e hf
      refine mv_callVl (pc := 61) (n := 1) (ci := 12) (C := R_Book) B (mK_ok sk sv) hNs rfl rfl ((recE_x l hi 1900).1 _ _ _ _ (xrw r_hz hb) eg2) rfl (ma_goodc kc_Book_eval) (B.2.2.2.1 _ k_2500) (B.2.2.2.1 _ k_2502) (B.2.2.2.1 _ ks_131) (B.2.2.2.1 _ k_13) ⟨by decide +kernel, by decide +kernel, by decide +kernel⟩ rfl d_Book_setCell_61 rfl (Nat.le_of_ble_eq_true rfl) ⟨by first | decide | (dsimp only; omega), by first | decide | (dsimp only; omega)⟩ ⟨Nat.le_refl _, Nat.le_refl _⟩ ⟨Nat.le_refl _, Nat.le_refl _⟩ (mv_noH hno _) (fun w61 σ61 h61 => ?_)
      obtain ⟨rfl, rfl, s_g2⟩ := h61
      have r_g2 : mv_r g2 = mv_r h := s_g2.trans r_hz
      refine mv_lstore (pc := 64) B d_Book_setCell_64 (by decide) rfl ?_
      refine mv_aload_n (pc := 66) B d_Book_setCell_66 rfl 1 rfl ?_
      refine mv_getI (pc := 67) (ci := 12) (C := R_Book) (T := F_Book) (N := 65) B 53 rfl rfl (by decide) i_Book (B.2.2.2.1 _ k_1902) rfl d_Book_setCell_67 ?_
      refine mv_if_ne (pc := 70) (tgt := 87) B d_Book_setCell_70 rfl (fun h70 => ?_) (fun h70 => ?_)
      · skip
        have hf := xif_f h70 hf
        exact mv_vret (pc := 87) B hr d_Book_setCell_87 (Nat.le_refl _) (Nat.le_refl _) ⟨rfl, xrh_v hf r_g2⟩
      · skip
        have hf := xif_t h70 hf
        refine mv_aload_n (pc := 73) B d_Book_setCell_73 rfl 1 rfl ?_
        refine mv_aload_n (pc := 74) B d_Book_setCell_74 rfl 1 rfl ?_
        refine mv_getR (pc := 75) (ci := 12) (C := R_Book) (T := F_Book) (N := 65) B 41 rfl rfl (by decide) i_Book (B.2.2.2.1 _ k_1890) rfl ((congrFun (congrFun r_g2 74) 41).trans (hb 74 41 _ rfl)) d_Book_setCell_75 ?_
        refine mv_iload_n (pc := 78) B d_Book_setCell_78 rfl 2 rfl ?_
        obtain ⟨q4, hf⟩ := xvi_e hf
        refine mv_iald (pc := 79) B rfl q4 d_Book_setCell_79 ?_
        refine mv_lload_n (pc := 80) B d_Book_setCell_80 rfl 3 rfl ?_
        refine mv_l2i (pc := 81) B d_Book_setCell_81 ?_
        refine mv_lload (pc := 82) B d_Book_setCell_82 0 rfl ?_
        obtain ⟨g5, eg5, hf⟩ := xhv_e hf
        refine mv_callVv (pc := 84) (n := 3) (ci := 12) (C := R_Book) B (mK_ok sk sv) hNs rfl rfl (ch_Book_write_x l hi _ (xrw r_g2 hb) _ _ _ eg5) rfl (ma_goodc kc_Book_write) (B.2.2.2.1 _ k_2542) (B.2.2.2.1 _ k_2544) (B.2.2.2.1 _ ks_137) (B.2.2.2.1 _ k_13) ⟨by decide +kernel, by decide +kernel, by decide +kernel⟩ rfl d_Book_setCell_84 rfl (Nat.le_of_ble_eq_true rfl) ⟨by first | decide | (dsimp only; omega), by first | decide | (dsimp only; omega)⟩ ⟨Nat.le_refl _, Nat.le_refl _⟩ ⟨Nat.le_refl _, Nat.le_refl _⟩ (mv_noH hno _) (fun σ84 h84 => ?_)
        obtain ⟨rfl, s_g5⟩ := h84
        have r_g5 : mv_r g5 = mv_r h := s_g5.trans r_g2
        exact mv_vret (pc := 87) B hr d_Book_setCell_87 (Nat.le_refl _) (Nat.le_refl _) ⟨rfl, xrh_v hf r_g5⟩
    · skip
      have hf := xif_f h50 hf
      exact mv_vret (pc := 53) B hr d_Book_setCell_53 (Nat.le_refl _) (Nat.le_refl _) ⟨rfl, xrh_v hf r_hz⟩
  unfold f_Book_setCell at hf
  refine mv_aload_n (pc := 0) B d_Book_setCell_0 rfl 0 rfl ?_
  refine mv_aload_n (pc := 1) B d_Book_setCell_1 rfl 0 rfl ?_
  refine mv_getR (pc := 2) (ci := 12) (C := R_Book) (T := F_Book) (N := 65) B 43 rfl rfl (by decide) i_Book (B.2.2.2.1 _ k_1892) rfl (hb 74 43 _ rfl) d_Book_setCell_2 ?_
  refine mv_iload_n (pc := 5) B d_Book_setCell_5 rfl 1 rfl ?_
  obtain ⟨q7, hf⟩ := xvi_e hf
  refine mv_iald (pc := 6) B rfl q7 d_Book_setCell_6 ?_
  obtain ⟨u9, g8, eg8, hf⟩ := xhb_e hf
  refine mv_callVl (pc := 7) (n := 1) (ci := 12) (C := R_Book) B (mK_ok sk sv) hNs rfl rfl ((recE_x l hi 1900).1 _ _ _ _ (hb) eg8) rfl (ma_goodc kc_Book_eval) (B.2.2.2.1 _ k_2500) (B.2.2.2.1 _ k_2502) (B.2.2.2.1 _ ks_131) (B.2.2.2.1 _ k_13) ⟨by decide +kernel, by decide +kernel, by decide +kernel⟩ rfl d_Book_setCell_7 rfl (Nat.le_of_ble_eq_true rfl) ⟨by first | decide | (dsimp only; omega), by first | decide | (dsimp only; omega)⟩ ⟨Nat.le_refl _, Nat.le_refl _⟩ ⟨Nat.le_refl _, Nat.le_refl _⟩ (mv_noH hno _) (fun w7 σ7 h7 => ?_)
  obtain ⟨rfl, rfl, s_g8⟩ := h7
  have r_g8 : mv_r g8 = mv_r h := s_g8.trans rfl
  refine mv_lstore_n (pc := 10) B d_Book_setCell_10 rfl (by decide) rfl ?_
  refine mv_aload_n (pc := 11) B d_Book_setCell_11 rfl 1 rfl ?_
  refine mv_getI (pc := 12) (ci := 12) (C := R_Book) (T := F_Book) (N := 65) B 53 rfl rfl (by decide) i_Book (B.2.2.2.1 _ k_1902) rfl d_Book_setCell_12 ?_
  refine mv_if_ne (pc := 15) (tgt := 46) B d_Book_setCell_15 rfl (fun h15 => ?_) (fun h15 => ?_)
  · skip
    have hf := xif_f h15 hf
    refine mv_lpick [1, 2, 0] rfl ?_
    exact jn46 _ _ _ r_g8 hf
  · skip
    have hf := xif_t h15 hf
    refine mv_lload_n (pc := 18) B d_Book_setCell_18 rfl 0 rfl ?_
    refine mv_lconst (pc := 19) (v := 0) B d_Book_setCell_19 (by decide) ?_
    refine mv_aload_n (pc := 20) B d_Book_setCell_20 rfl 1 rfl ?_
    refine mv_getR (pc := 21) (ci := 12) (C := R_Book) (T := F_Book) (N := 65) B 13 rfl rfl (by decide) i_Book (B.2.2.2.1 _ k_1856) rfl ((congrFun (congrFun r_g8 74) 13).trans (hb 74 13 _ rfl)) d_Book_setCell_21 ?_
    refine mv_aload_n (pc := 24) B d_Book_setCell_24 rfl 1 rfl ?_
    refine mv_getR (pc := 25) (ci := 12) (C := R_Book) (T := F_Book) (N := 65) B 41 rfl rfl (by decide) i_Book (B.2.2.2.1 _ k_1890) rfl ((congrFun (congrFun r_g8 74) 41).trans (hb 74 41 _ rfl)) d_Book_setCell_25 ?_
    refine mv_iload_n (pc := 28) B d_Book_setCell_28 rfl 2 rfl ?_
    obtain ⟨q10, hf⟩ := xvi_e hf
    refine mv_iald (pc := 29) B rfl q10 d_Book_setCell_29 ?_
    obtain ⟨q11, hf⟩ := xvi_e hf
    refine mv_iald (pc := 30) B rfl q11 d_Book_setCell_30 ?_
    refine mv_iconst (pc := 31) (v := 1) B d_Book_setCell_31 (by decide) ?_
    refine mv_isub (pc := 32) B d_Book_setCell_32 ?_
    refine mv_i2l (pc := 33) B d_Book_setCell_33 ?_
    obtain ⟨u13, g12, eg12, hf⟩ := xhb_e hf
    refine mv_callSNi (pc := 34) (n := 3) B (mK_ok sk sv) hNs (ch_Model_in l hi _ _ _ _ eg12) rfl (ma_goodc kc_Model_in) (va_Nw.use rfl (hNs.1 _ (List.mem_of_getElem? (i := 7) rfl))) (B.2.2.2.1 _ k_2208) (B.2.2.2.1 _ k_12) ⟨by decide +kernel, by decide +kernel, by decide +kernel⟩ rfl d_Book_setCell_34 rfl (Nat.le_of_ble_eq_true rfl) ⟨by first | decide | (dsimp only; omega), by first | decide | (dsimp only; omega)⟩ ⟨Nat.le_refl _, Nat.le_refl _⟩ ⟨Nat.le_refl _, Nat.le_refl _⟩ (mv_noH hno _) (fun w34 σ34 h34 => ?_)
    obtain ⟨rfl, rfl, s_g12⟩ := h34
    have r_g12 : mv_r g12 = mv_r h := s_g12.trans r_g8
    refine mv_if_ne (pc := 37) (tgt := 46) B d_Book_setCell_37 rfl (fun h37 => ?_) (fun h37 => ?_)
    · skip
      have hf := xif_f h37 hf
      refine mv_lpick [1, 2, 0] rfl ?_
      exact jn46 _ _ _ r_g12 hf
    · skip
      have hf := xif_t h37 hf
      refine mv_aload_n (pc := 40) B d_Book_setCell_40 rfl 1 rfl ?_
      refine mv_bipush (pc := 41) (v := -3) B d_Book_setCell_41 (by decide) ?_
      refine mv_putI (pc := 43) (ci := 12) (C := R_Book) (T := F_Book) (N := 65) B 53 rfl rfl (by decide) i_Book t_Book_ok n_Book (B.2.2.2.1 _ k_1902) rfl rfl rfl rfl d_Book_setCell_43 ?_
      refine mvh_hp (R9 := mv_r h) hf r_g12 (fun g14 hf r_g14 => ?_)
      refine mv_lpick [1, 2, 0] rfl ?_
      exact jn46 _ _ _ r_g14 hf
set_option maxHeartbeats 4000000 in
set_option maxRecDepth 100000 in
theorem ch_Book_setCell_y (l : Launch) {dA : FieldType → ClassId} {D : va_G} {al : Nat → Nat} {ext : mv_Sh} {sk sv : Nat → Nat} (hi : mv_inj (mg dA D al ext)) (h : mv_H) (hb : mh (mv_r h))  (a0 : Int32) {rg : mv_H} (hf : f_Book_setCell 108 h a0 = some rg) : mv_C l y_Book_setCell (Cond.code y_Book_setCell b_Book_setCell 6 (Option.none : Option Jvm.ClassFile.FieldType) :: ma) ({ frames := 1908, cells := 0, slots := 0, locals := 53645 }) (mg dA D al ext) (mK sk sv) [.ref (al 108), .int a0] h (mv_Rv (fun σ1 => rg = σ1 ∧ mv_r σ1 = mv_r h)) := by
  refine mv_C.ofV (cc := b_Book_setCell) (nL := 6) (ret := (Option.none : Option Jvm.ClassFile.FieldType)) (by decide +kernel) rfl hi (Nat.le_of_ble_eq_true rfl) ?_
  intro p e s m below meth c B hNs hr hnm hno
  have jn46 : ∀ (x1 : Int32) (x2 : Int64) (hz : mv_H), mv_r hz = mv_r h → f_Book_setCell_46 108 x1 x2 hz = some rg → mv_V p l e ({ frames := 1908, cells := 0, slots := 0, locals := 53645 }) s m ([.ref (al 108), .int a0] : List Value).toArray below meth c (mg dA D al ext) 6 0 0 (mv_Q (mg dA D al ext) below s 0 0 (mv_Rv (fun σ1 => rg = σ1 ∧ mv_r σ1 = mv_r h))) hz 46 [(0, .ref (al 108)), (1, .int x1), (2, .long x2)] [] := by
    intro x1 x2 hz r_hz hf
    unfold f_Book_setCell_46 at hf
    refine mv_aload_n (pc := 46) B d_Book_setCell_46 rfl 0 rfl ?_
    refine mv_getI (pc := 47) (ci := 12) (C := R_Book) (T := F_Book) (N := 65) B 53 rfl rfl (by decide) i_Book (B.2.2.2.1 _ k_1902) rfl d_Book_setCell_47 ?_
    refine mv_if_eq (pc := 50) (tgt := 54) B d_Book_setCell_50 rfl (fun h50 => ?_) (fun h50 => ?_)
    · skip
      have hf := xif_t h50 hf
      refine mv_aload_n (pc := 54) B d_Book_setCell_54 rfl 0 rfl ?_
      refine mv_aload_n (pc := 55) B d_Book_setCell_55 rfl 0 rfl ?_
      refine mv_getR (pc := 56) (ci := 12) (C := R_Book) (T := F_Book) (N := 65) B 42 rfl rfl (by decide) i_Book (B.2.2.2.1 _ k_1891) rfl ((congrFun (congrFun r_hz 108) 42).trans (hb 108 42 _ rfl)) d_Book_setCell_56 ?_
      refine mv_iload_n (pc := 59) B d_Book_setCell_59 rfl 1 rfl ?_
      obtain ⟨q1, hf⟩ := xvi_e hf
      refine mv_iald (pc := 60) B rfl q1 d_Book_setCell_60 ?_
      obtain ⟨u3, g2, eg2, hf⟩ := xhb_e hf
      refine mv_callVl (pc := 61) (n := 1) (ci := 12) (C := R_Book) B (mK_ok sk sv) hNs rfl rfl ((recE_y l hi 1900).1 _ _ _ _ (xrw r_hz hb) eg2) rfl (ma_goodc kc_Book_eval) (B.2.2.2.1 _ k_2500) (B.2.2.2.1 _ k_2502) (B.2.2.2.1 _ ks_131) (B.2.2.2.1 _ k_13) ⟨by decide +kernel, by decide +kernel, by decide +kernel⟩ rfl d_Book_setCell_61 rfl (Nat.le_of_ble_eq_true rfl) ⟨by first | decide | (dsimp only; omega), by first | decide | (dsimp only; omega)⟩ ⟨Nat.le_refl _, Nat.le_refl _⟩ ⟨Nat.le_refl _, Nat.le_refl _⟩ (mv_noH hno _) (fun w61 σ61 h61 => ?_)
      obtain ⟨rfl, rfl, s_g2⟩ := h61
      have r_g2 : mv_r g2 = mv_r h := s_g2.trans r_hz
      refine mv_lstore (pc := 64) B d_Book_setCell_64 (by decide) rfl ?_
      refine mv_aload_n (pc := 66) B d_Book_setCell_66 rfl 1 rfl ?_
      refine mv_getI (pc := 67) (ci := 12) (C := R_Book) (T := F_Book) (N := 65) B 53 rfl rfl (by decide) i_Book (B.2.2.2.1 _ k_1902) rfl d_Book_setCell_67 ?_
      refine mv_if_ne (pc := 70) (tgt := 87) B d_Book_setCell_70 rfl (fun h70 => ?_) (fun h70 => ?_)
      · skip
        have hf := xif_f h70 hf
        exact mv_vret (pc := 87) B hr d_Book_setCell_87 (Nat.le_refl _) (Nat.le_refl _) ⟨rfl, xrh_v hf r_g2⟩
      · skip
        have hf := xif_t h70 hf
        refine mv_aload_n (pc := 73) B d_Book_setCell_73 rfl 1 rfl ?_
        refine mv_aload_n (pc := 74) B d_Book_setCell_74 rfl 1 rfl ?_
        refine mv_getR (pc := 75) (ci := 12) (C := R_Book) (T := F_Book) (N := 65) B 41 rfl rfl (by decide) i_Book (B.2.2.2.1 _ k_1890) rfl ((congrFun (congrFun r_g2 108) 41).trans (hb 108 41 _ rfl)) d_Book_setCell_75 ?_
        refine mv_iload_n (pc := 78) B d_Book_setCell_78 rfl 2 rfl ?_
        obtain ⟨q4, hf⟩ := xvi_e hf
        refine mv_iald (pc := 79) B rfl q4 d_Book_setCell_79 ?_
        refine mv_lload_n (pc := 80) B d_Book_setCell_80 rfl 3 rfl ?_
        refine mv_l2i (pc := 81) B d_Book_setCell_81 ?_
        refine mv_lload (pc := 82) B d_Book_setCell_82 0 rfl ?_
        obtain ⟨g5, eg5, hf⟩ := xhv_e hf
        refine mv_callVv (pc := 84) (n := 3) (ci := 12) (C := R_Book) B (mK_ok sk sv) hNs rfl rfl (ch_Book_write_y l hi _ (xrw r_g2 hb) _ _ _ eg5) rfl (ma_goodc kc_Book_write) (B.2.2.2.1 _ k_2542) (B.2.2.2.1 _ k_2544) (B.2.2.2.1 _ ks_137) (B.2.2.2.1 _ k_13) ⟨by decide +kernel, by decide +kernel, by decide +kernel⟩ rfl d_Book_setCell_84 rfl (Nat.le_of_ble_eq_true rfl) ⟨by first | decide | (dsimp only; omega), by first | decide | (dsimp only; omega)⟩ ⟨Nat.le_refl _, Nat.le_refl _⟩ ⟨Nat.le_refl _, Nat.le_refl _⟩ (mv_noH hno _) (fun σ84 h84 => ?_)
        obtain ⟨rfl, s_g5⟩ := h84
        have r_g5 : mv_r g5 = mv_r h := s_g5.trans r_g2
        exact mv_vret (pc := 87) B hr d_Book_setCell_87 (Nat.le_refl _) (Nat.le_refl _) ⟨rfl, xrh_v hf r_g5⟩
    · skip
      have hf := xif_f h50 hf
      exact mv_vret (pc := 53) B hr d_Book_setCell_53 (Nat.le_refl _) (Nat.le_refl _) ⟨rfl, xrh_v hf r_hz⟩
  unfold f_Book_setCell at hf
  refine mv_aload_n (pc := 0) B d_Book_setCell_0 rfl 0 rfl ?_
  refine mv_aload_n (pc := 1) B d_Book_setCell_1 rfl 0 rfl ?_
  refine mv_getR (pc := 2) (ci := 12) (C := R_Book) (T := F_Book) (N := 65) B 43 rfl rfl (by decide) i_Book (B.2.2.2.1 _ k_1892) rfl (hb 108 43 _ rfl) d_Book_setCell_2 ?_
  refine mv_iload_n (pc := 5) B d_Book_setCell_5 rfl 1 rfl ?_
  obtain ⟨q7, hf⟩ := xvi_e hf
  refine mv_iald (pc := 6) B rfl q7 d_Book_setCell_6 ?_
  obtain ⟨u9, g8, eg8, hf⟩ := xhb_e hf
  refine mv_callVl (pc := 7) (n := 1) (ci := 12) (C := R_Book) B (mK_ok sk sv) hNs rfl rfl ((recE_y l hi 1900).1 _ _ _ _ (hb) eg8) rfl (ma_goodc kc_Book_eval) (B.2.2.2.1 _ k_2500) (B.2.2.2.1 _ k_2502) (B.2.2.2.1 _ ks_131) (B.2.2.2.1 _ k_13) ⟨by decide +kernel, by decide +kernel, by decide +kernel⟩ rfl d_Book_setCell_7 rfl (Nat.le_of_ble_eq_true rfl) ⟨by first | decide | (dsimp only; omega), by first | decide | (dsimp only; omega)⟩ ⟨Nat.le_refl _, Nat.le_refl _⟩ ⟨Nat.le_refl _, Nat.le_refl _⟩ (mv_noH hno _) (fun w7 σ7 h7 => ?_)
  obtain ⟨rfl, rfl, s_g8⟩ := h7
  have r_g8 : mv_r g8 = mv_r h := s_g8.trans rfl
  refine mv_lstore_n (pc := 10) B d_Book_setCell_10 rfl (by decide) rfl ?_
  refine mv_aload_n (pc := 11) B d_Book_setCell_11 rfl 1 rfl ?_
  refine mv_getI (pc := 12) (ci := 12) (C := R_Book) (T := F_Book) (N := 65) B 53 rfl rfl (by decide) i_Book (B.2.2.2.1 _ k_1902) rfl d_Book_setCell_12 ?_
  refine mv_if_ne (pc := 15) (tgt := 46) B d_Book_setCell_15 rfl (fun h15 => ?_) (fun h15 => ?_)
  · skip
    have hf := xif_f h15 hf
    refine mv_lpick [1, 2, 0] rfl ?_
    exact jn46 _ _ _ r_g8 hf
  · skip
    have hf := xif_t h15 hf
    refine mv_lload_n (pc := 18) B d_Book_setCell_18 rfl 0 rfl ?_
    refine mv_lconst (pc := 19) (v := 0) B d_Book_setCell_19 (by decide) ?_
    refine mv_aload_n (pc := 20) B d_Book_setCell_20 rfl 1 rfl ?_
    refine mv_getR (pc := 21) (ci := 12) (C := R_Book) (T := F_Book) (N := 65) B 13 rfl rfl (by decide) i_Book (B.2.2.2.1 _ k_1856) rfl ((congrFun (congrFun r_g8 108) 13).trans (hb 108 13 _ rfl)) d_Book_setCell_21 ?_
    refine mv_aload_n (pc := 24) B d_Book_setCell_24 rfl 1 rfl ?_
    refine mv_getR (pc := 25) (ci := 12) (C := R_Book) (T := F_Book) (N := 65) B 41 rfl rfl (by decide) i_Book (B.2.2.2.1 _ k_1890) rfl ((congrFun (congrFun r_g8 108) 41).trans (hb 108 41 _ rfl)) d_Book_setCell_25 ?_
    refine mv_iload_n (pc := 28) B d_Book_setCell_28 rfl 2 rfl ?_
    obtain ⟨q10, hf⟩ := xvi_e hf
    refine mv_iald (pc := 29) B rfl q10 d_Book_setCell_29 ?_
    obtain ⟨q11, hf⟩ := xvi_e hf
    refine mv_iald (pc := 30) B rfl q11 d_Book_setCell_30 ?_
    refine mv_iconst (pc := 31) (v := 1) B d_Book_setCell_31 (by decide) ?_
    refine mv_isub (pc := 32) B d_Book_setCell_32 ?_
    refine mv_i2l (pc := 33) B d_Book_setCell_33 ?_
    obtain ⟨u13, g12, eg12, hf⟩ := xhb_e hf
    refine mv_callSNi (pc := 34) (n := 3) B (mK_ok sk sv) hNs (ch_Model_in l hi _ _ _ _ eg12) rfl (ma_goodc kc_Model_in) (va_Nw.use rfl (hNs.1 _ (List.mem_of_getElem? (i := 7) rfl))) (B.2.2.2.1 _ k_2208) (B.2.2.2.1 _ k_12) ⟨by decide +kernel, by decide +kernel, by decide +kernel⟩ rfl d_Book_setCell_34 rfl (Nat.le_of_ble_eq_true rfl) ⟨by first | decide | (dsimp only; omega), by first | decide | (dsimp only; omega)⟩ ⟨Nat.le_refl _, Nat.le_refl _⟩ ⟨Nat.le_refl _, Nat.le_refl _⟩ (mv_noH hno _) (fun w34 σ34 h34 => ?_)
    obtain ⟨rfl, rfl, s_g12⟩ := h34
    have r_g12 : mv_r g12 = mv_r h := s_g12.trans r_g8
    refine mv_if_ne (pc := 37) (tgt := 46) B d_Book_setCell_37 rfl (fun h37 => ?_) (fun h37 => ?_)
    · skip
      have hf := xif_f h37 hf
      refine mv_lpick [1, 2, 0] rfl ?_
      exact jn46 _ _ _ r_g12 hf
    · skip
      have hf := xif_t h37 hf
      refine mv_aload_n (pc := 40) B d_Book_setCell_40 rfl 1 rfl ?_
      refine mv_bipush (pc := 41) (v := -3) B d_Book_setCell_41 (by decide) ?_
      refine mv_putI (pc := 43) (ci := 12) (C := R_Book) (T := F_Book) (N := 65) B 53 rfl rfl (by decide) i_Book t_Book_ok n_Book (B.2.2.2.1 _ k_1902) rfl rfl rfl rfl d_Book_setCell_43 ?_
      refine mvh_hp (R9 := mv_r h) hf r_g12 (fun g14 hf r_g14 => ?_)
      refine mv_lpick [1, 2, 0] rfl ?_
      exact jn46 _ _ _ r_g14 hf
theorem d_Book_branch_97 : decode b_Book_branch 97 = .ok (.return_, 1) := by decide +kernel
def f_Book_run_131 (P : Nat) (kS : Nat → Int32 → mv_H → Option mv_H) (k2 : Int32 → mv_H → Option mv_H) (x2 : Int32) (hz : mv_H) : Option mv_H := bif xvi x2 33000 then k2 (mv_a hz (P + 22) (x2).toNatClampNeg) hz else none
def fF_Book_run_2 (P : Nat) (kS : Nat → Int32 → mv_H → Option mv_H) (k2 : Int32 → mv_H → Option mv_H) (x2 : Int32) (hz : mv_H) : Option mv_H := if x2 < (0 : Int32) then (some hz) else (if (mv_i hz P 53) = (0 : Int32) then (bif xvi x2 33000 then if ((mv_a hz (P + 18) (x2).toNatClampNeg)).toInt = 14 then (bif xvi x2 33000 then bif xvi x2 33000 then xhb (f_BookE P 1900 0 (mv_a hz (P + 20) (x2).toNatClampNeg) hz) fun u6 g5 => bif xvi (mv_a hz (P + 19) (x2).toNatClampNeg) 4100 then xk (mv_sb g5 (P + 26) ((mv_a hz (P + 19) (x2).toNatClampNeg)).toNatClampNeg u6) fun g8 => f_Book_run_131 P kS k2 x2 g8 else none else none else none) else (if ((mv_a hz (P + 18) (x2).toNatClampNeg)).toInt = 15 then (bif xvi x2 33000 then xhb (f_BookE P 1900 0 (mv_a hz (P + 20) (x2).toNatClampNeg) hz) fun u11 g10 => if (mv_i g10 P 53) = (0 : Int32) then (bif xvi x2 33000 then xhv (f_Book_write P g10 (mv_a g10 (P + 19) (x2).toNatClampNeg) (0 : Int32) u11) fun g13 => f_Book_run_131 P kS k2 x2 g13 else none) else (f_Book_run_131 P kS k2 x2 g10) else none) else (if ((mv_a hz (P + 18) (x2).toNatClampNeg)).toInt = 16 then (xhv (f_Book_setCell P hz x2) fun g15 => f_Book_run_131 P kS k2 x2 g15) else (if ((mv_a hz (P + 18) (x2).toNatClampNeg)).toInt = 17 then (bif xvi x2 33000 then xk (mv_si hz P 53 (mv_a hz (P + 19) (x2).toNatClampNeg)) fun g18 => f_Book_run_131 P kS k2 x2 g18 else none) else (xhv (kS 1 x2 hz) fun g19 => f_Book_run_131 P kS k2 x2 g19)))) else none) else (some hz))
def f_Book_run_2 (P : Nat) (kS : Nat → Int32 → mv_H → Option mv_H) : Nat → Int32 → mv_H → Option mv_H
  | 0 => fun _ _ => none
  | nn + 1 => fF_Book_run_2 P kS (f_Book_run_2 P kS nn)
def f_Book_run (P : Nat) (kS : Nat → Int32 → mv_H → Option mv_H) (h : mv_H) (a0 : Int32) : Option mv_H := f_Book_run_2 P kS 200000 a0 h
def f_Book_branch_84 (P : Nat) (kS : Nat → Int32 → mv_H → Option mv_H) (x4 : Int32) (hz : mv_H) : Option mv_H := xhv (kS 0 x4 hz) fun g1 => some g1
def f_Book_branch_26 (P : Nat) (kS : Nat → Int32 → mv_H → Option mv_H) (k2 : Int32 → mv_H → Option mv_H) (x2 : Int32) (y0 : Int32) (hz : mv_H) : Option mv_H := if (mv_i hz P 53) = (0 : Int32) then (if y0 = (0 : Int32) then (bif xvi x2 33000 then if (mv_a hz (P + 21) (x2).toNatClampNeg) < (0 : Int32) then (f_Book_branch_84 P kS (mv_a hz (P + 21) (x2).toNatClampNeg) hz) else (bif xvi (mv_a hz (P + 21) (x2).toNatClampNeg) 33000 then if (mv_a hz (P + 18) ((mv_a hz (P + 21) (x2).toNatClampNeg)).toNatClampNeg) = (18 : Int32) then (bif xvi x2 33000 then if (mv_a hz (P + 25) (x2).toNatClampNeg) = (0 : Int32) then (f_Book_branch_84 P kS (mv_a hz (P + 21) (x2).toNatClampNeg) hz) else (k2 (mv_a hz (P + 21) (x2).toNatClampNeg) hz) else none) else (f_Book_branch_84 P kS (mv_a hz (P + 21) (x2).toNatClampNeg) hz) else none) else none) else (bif xvi x2 33000 then xhv (kS 0 (mv_a hz (P + 20) (x2).toNatClampNeg) hz) fun g7 => some g7 else none)) else (some hz)
def fF_Book_branch_2 (P : Nat) (kS : Nat → Int32 → mv_H → Option mv_H) (k2 : Int32 → mv_H → Option mv_H) (x2 : Int32) (hz : mv_H) : Option mv_H := if x2 < (0 : Int32) then (some hz) else (bif xvi x2 33000 then xhb (f_BookE P 1900 0 (mv_a hz (P + 19) (x2).toNatClampNeg) hz) fun u11 g10 => if (lg_cmp u11 (0 : Int64)) = (0 : Int32) then (f_Book_branch_26 P kS k2 x2 (0 : Int32) g10) else (f_Book_branch_26 P kS k2 x2 (1 : Int32) g10) else none)
def f_Book_branch_2 (P : Nat) (kS : Nat → Int32 → mv_H → Option mv_H) : Nat → Int32 → mv_H → Option mv_H
  | 0 => fun _ _ => none
  | nn + 1 => fF_Book_branch_2 P kS (f_Book_branch_2 P kS nn)
def f_Book_branch (P : Nat) (kS : Nat → Int32 → mv_H → Option mv_H) (h : mv_H) (a0 : Int32) : Option mv_H := f_Book_branch_2 P kS 200000 a0 h
def f_BookU (P : Nat) : Nat → Nat → Int32 → mv_H → Option mv_H
  | 0 => fun _ _ _ => none
  | nn + 1 => fun m a h => match m with
    | 0 => f_Book_run P (f_BookU P nn) h a
    | _ => f_Book_branch P (f_BookU P nn) h a
def RecU (l : Launch) (dA : FieldType → ClassId) (D : va_G) (al : Nat → Nat) (ext : mv_Sh) (sk sv : Nat → Nat) (B nn : Nat) : Prop := (∀ (a : Int32) (h : mv_H) (rg : mv_H), mh (mv_r h) → f_BookU B nn 0 a h = some rg → mv_C l y_Book_run (Cond.code y_Book_run b_Book_run 5 (Option.none : Option Jvm.ClassFile.FieldType) :: ma) ({ frames := nn + 1913, cells := 0, slots := 0, locals := 60 * nn + 54220 }) (mg dA D al ext) (mK sk sv) [.ref (al B), .int a] h (mv_Rv (fun σ1 => rg = σ1 ∧ mv_r σ1 = mv_r h))) ∧ (∀ (a : Int32) (h : mv_H) (rg : mv_H), mh (mv_r h) → f_BookU B nn 1 a h = some rg → mv_C l y_Book_branch (Cond.code y_Book_branch b_Book_branch 5 (Option.none : Option Jvm.ClassFile.FieldType) :: ma) ({ frames := nn + 1913, cells := 0, slots := 0, locals := 60 * nn + 54220 }) (mg dA D al ext) (mK sk sv) [.ref (al B), .int a] h (mv_Rv (fun σ1 => rg = σ1 ∧ mv_r σ1 = mv_r h)))
set_option maxHeartbeats 4000000 in
set_option maxRecDepth 100000 in
theorem cr_Book_run_x (l : Launch) {dA : FieldType → ClassId} {D : va_G} {al : Nat → Nat} {ext : mv_Sh} {sk sv : Nat → Nat} (hi : mv_inj (mg dA D al ext)) (nn : Nat) (ih : RecU l dA D al ext sk sv 74 nn) (h : mv_H) (hb : mh (mv_r h))  (a0 : Int32) {rg : mv_H} (hf : f_Book_run 74 (f_BookU 74 nn) h a0 = some rg) : mv_C l y_Book_run (Cond.code y_Book_run b_Book_run 5 (Option.none : Option Jvm.ClassFile.FieldType) :: ma) ({ frames := nn + 1 + 1913, cells := 0, slots := 0, locals := 60 * (nn + 1) + 54220 }) (mg dA D al ext) (mK sk sv) [.ref (al 74), .int a0] h (mv_Rv (fun σ1 => rg = σ1 ∧ mv_r σ1 = mv_r h)) := by
  refine mv_C.ofV (cc := b_Book_run) (nL := 5) (ret := (Option.none : Option Jvm.ClassFile.FieldType)) (by decide +kernel) rfl hi (Nat.le_of_ble_eq_true rfl) ?_
  intro p e s m below meth c B hNs hr hnm hno
  have lp2 : ∀ (nn2 : Nat) (x2 : Int32) (hz : mv_H), mv_r hz = mv_r h → f_Book_run_2 74 (f_BookU 74 nn) nn2 x2 hz = some rg → mv_V p l e ({ frames := nn + 1 + 1913, cells := 0, slots := 0, locals := 60 * (nn + 1) + 54220 }) s m ([.ref (al 74), .int a0] : List Value).toArray below meth c (mg dA D al ext) 5 0 0 (mv_Q (mg dA D al ext) below s 0 0 (mv_Rv (fun σ1 => rg = σ1 ∧ mv_r σ1 = mv_r h))) hz 2 [(0, .ref (al 74)), (2, .int x2)] [] := by
    intro nn2
    induction nn2 with
    | zero => intro x2 hz r_hz hf; cases hf
    | succ nn2 ih2 =>
      intro x2 hz r_hz hf
      have jn131 : ∀ (x2 : Int32) (hz : mv_H), mv_r hz = mv_r h → f_Book_run_131 74 (f_BookU 74 nn) (f_Book_run_2 74 (f_BookU 74 nn) nn2) x2 hz = some rg → mv_V p l e ({ frames := nn + 1 + 1913, cells := 0, slots := 0, locals := 60 * (nn + 1) + 54220 }) s m ([.ref (al 74), .int a0] : List Value).toArray below meth c (mg dA D al ext) 5 0 0 (mv_Q (mg dA D al ext) below s 0 0 (mv_Rv (fun σ1 => rg = σ1 ∧ mv_r σ1 = mv_r h))) hz 131 [(0, .ref (al 74)), (2, .int x2)] [] := by
        intro x2 hz r_hz hf
        unfold f_Book_run_131 at hf
        refine mv_aload_n (pc := 131) B d_Book_run_131 rfl 0 rfl ?_
        refine mv_getR (pc := 132) (ci := 12) (C := R_Book) (T := F_Book) (N := 65) B 44 rfl rfl (by decide) i_Book (B.2.2.2.1 _ k_1893) rfl ((congrFun (congrFun r_hz 74) 44).trans (hb 74 44 _ rfl)) d_Book_run_132 ?_
        refine mv_iload_n (pc := 135) B d_Book_run_135 rfl 1 rfl ?_
        obtain ⟨q1, hf⟩ := xvi_e hf
        refine mv_iald (pc := 136) B rfl q1 d_Book_run_136 ?_
        refine mv_istore_n (pc := 137) B d_Book_run_137 rfl (by decide) rfl ?_
        refine mv_goto (pc := 138) (tgt := 2) B d_Book_run_138 rfl ?_
        refine mv_lpick [1, 0] rfl ?_
        exact ih2 _ _ r_hz hf
      have hf : fF_Book_run_2 74 (f_BookU 74 nn) (f_Book_run_2 74 (f_BookU 74 nn) nn2) x2 hz = some rg := hf
      unfold fF_Book_run_2 at hf
      refine mv_iload_n (pc := 2) B d_Book_run_2 rfl 1 rfl ?_
      refine mv_if_lt (pc := 3) (tgt := 141) B d_Book_run_3 rfl (fun h3 => ?_) (fun h3 => ?_)
      · skip
        have hf := xif_t h3 hf
        exact mv_vret (pc := 141) B hr d_Book_run_141 (Nat.le_refl _) (Nat.le_refl _) ⟨rfl, xrh_v hf r_hz⟩
      · skip
        have hf := xif_f h3 hf
        refine mv_aload_n (pc := 6) B d_Book_run_6 rfl 0 rfl ?_
        refine mv_getI (pc := 7) (ci := 12) (C := R_Book) (T := F_Book) (N := 65) B 53 rfl rfl (by decide) i_Book (B.2.2.2.1 _ k_1902) rfl d_Book_run_7 ?_
        refine mv_if_ne (pc := 10) (tgt := 141) B d_Book_run_10 rfl (fun h10 => ?_) (fun h10 => ?_)
        · skip
          have hf := xif_f h10 hf
          exact mv_vret (pc := 141) B hr d_Book_run_141 (Nat.le_refl _) (Nat.le_refl _) ⟨rfl, xrh_v hf r_hz⟩
        · skip
          have hf := xif_t h10 hf
          refine mv_aload_n (pc := 13) B d_Book_run_13 rfl 0 rfl ?_
          refine mv_getR (pc := 14) (ci := 12) (C := R_Book) (T := F_Book) (N := 65) B 40 rfl rfl (by decide) i_Book (B.2.2.2.1 _ k_1889) rfl ((congrFun (congrFun r_hz 74) 40).trans (hb 74 40 _ rfl)) d_Book_run_14 ?_
          refine mv_iload_n (pc := 17) B d_Book_run_17 rfl 1 rfl ?_
          obtain ⟨q2, hf⟩ := xvi_e hf
          refine mv_iald (pc := 18) B rfl q2 d_Book_run_18 ?_
          refine mv_tsw (pc := 19) B d_Book_run_19 (by decide) (by decide) ?_
          refine ⟨fun h19 => ?_, fun h19n14 => ?_⟩
          · skip
            have hf := xif_t h19 hf
            show mv_V _ _ _ _ _ _ _ _ _ _ _ _ _ _ _ _ 48 _ _
            refine mv_aload_n (pc := 48) B d_Book_run_48 rfl 0 rfl ?_
            refine mv_getR (pc := 49) (ci := 12) (C := R_Book) (T := F_Book) (N := 65) B 54 rfl rfl (by decide) i_Book (B.2.2.2.1 _ k_1903) rfl ((congrFun (congrFun r_hz 74) 54).trans (hb 74 54 _ rfl)) d_Book_run_49 ?_
            refine mv_aload_n (pc := 52) B d_Book_run_52 rfl 0 rfl ?_
            refine mv_getR (pc := 53) (ci := 12) (C := R_Book) (T := F_Book) (N := 65) B 41 rfl rfl (by decide) i_Book (B.2.2.2.1 _ k_1890) rfl ((congrFun (congrFun r_hz 74) 41).trans (hb 74 41 _ rfl)) d_Book_run_53 ?_
            refine mv_iload_n (pc := 56) B d_Book_run_56 rfl 1 rfl ?_
            obtain ⟨q3, hf⟩ := xvi_e hf
            refine mv_iald (pc := 57) B rfl q3 d_Book_run_57 ?_
            refine mv_aload_n (pc := 58) B d_Book_run_58 rfl 0 rfl ?_
            refine mv_aload_n (pc := 59) B d_Book_run_59 rfl 0 rfl ?_
            refine mv_getR (pc := 60) (ci := 12) (C := R_Book) (T := F_Book) (N := 65) B 42 rfl rfl (by decide) i_Book (B.2.2.2.1 _ k_1891) rfl ((congrFun (congrFun r_hz 74) 42).trans (hb 74 42 _ rfl)) d_Book_run_60 ?_
            refine mv_iload_n (pc := 63) B d_Book_run_63 rfl 1 rfl ?_
            obtain ⟨q4, hf⟩ := xvi_e hf
            refine mv_iald (pc := 64) B rfl q4 d_Book_run_64 ?_
            obtain ⟨u6, g5, eg5, hf⟩ := xhb_e hf
            refine mv_callVl (pc := 65) (n := 1) (ci := 12) (C := R_Book) B (mK_ok sk sv) hNs rfl rfl ((recE_x l hi 1900).1 _ _ _ _ (xrw r_hz hb) eg5) rfl (ma_goodc kc_Book_eval) (B.2.2.2.1 _ k_2500) (B.2.2.2.1 _ k_2502) (B.2.2.2.1 _ ks_131) (B.2.2.2.1 _ k_13) ⟨by decide +kernel, by decide +kernel, by decide +kernel⟩ rfl d_Book_run_65 rfl (Nat.le_of_ble_eq_true rfl) ⟨by first | decide | (dsimp only; omega), by first | decide | (dsimp only; omega)⟩ ⟨Nat.le_refl _, Nat.le_refl _⟩ ⟨Nat.le_refl _, Nat.le_refl _⟩ (mv_noH hno _) (fun w65 σ65 h65 => ?_)
            obtain ⟨rfl, rfl, s_g5⟩ := h65
            have r_g5 : mv_r g5 = mv_r h := s_g5.trans r_hz
            obtain ⟨q7, hf⟩ := xvi_e hf
            refine mv_last (pc := 68) B rfl q7 d_Book_run_68 ?_
            refine mvh_hp (R9 := mv_r h) hf r_g5 (fun g8 hf r_g8 => ?_)
            refine mv_goto (pc := 69) (tgt := 131) B d_Book_run_69 rfl ?_
            refine mv_lpick [0, 1] rfl ?_
            exact jn131 _ _ r_g8 hf
          have hf := xif_f h19n14 hf
          refine ⟨fun h19 => ?_, fun h19n15 => ?_⟩
          · skip
            have hf := xif_t h19 hf
            show mv_V _ _ _ _ _ _ _ _ _ _ _ _ _ _ _ _ 72 _ _
            refine mv_aload_n (pc := 72) B d_Book_run_72 rfl 0 rfl ?_
            refine mv_aload_n (pc := 73) B d_Book_run_73 rfl 0 rfl ?_
            refine mv_getR (pc := 74) (ci := 12) (C := R_Book) (T := F_Book) (N := 65) B 42 rfl rfl (by decide) i_Book (B.2.2.2.1 _ k_1891) rfl ((congrFun (congrFun r_hz 74) 42).trans (hb 74 42 _ rfl)) d_Book_run_74 ?_
            refine mv_iload_n (pc := 77) B d_Book_run_77 rfl 1 rfl ?_
            obtain ⟨q9, hf⟩ := xvi_e hf
            refine mv_iald (pc := 78) B rfl q9 d_Book_run_78 ?_
            obtain ⟨u11, g10, eg10, hf⟩ := xhb_e hf
            refine mv_callVl (pc := 79) (n := 1) (ci := 12) (C := R_Book) B (mK_ok sk sv) hNs rfl rfl ((recE_x l hi 1900).1 _ _ _ _ (xrw r_hz hb) eg10) rfl (ma_goodc kc_Book_eval) (B.2.2.2.1 _ k_2500) (B.2.2.2.1 _ k_2502) (B.2.2.2.1 _ ks_131) (B.2.2.2.1 _ k_13) ⟨by decide +kernel, by decide +kernel, by decide +kernel⟩ rfl d_Book_run_79 rfl (Nat.le_of_ble_eq_true rfl) ⟨by first | decide | (dsimp only; omega), by first | decide | (dsimp only; omega)⟩ ⟨Nat.le_refl _, Nat.le_refl _⟩ ⟨Nat.le_refl _, Nat.le_refl _⟩ (mv_noH hno _) (fun w79 σ79 h79 => ?_)
            obtain ⟨rfl, rfl, s_g10⟩ := h79
            have r_g10 : mv_r g10 = mv_r h := s_g10.trans r_hz
            refine mv_lstore_n (pc := 82) B d_Book_run_82 rfl (by decide) rfl ?_
            refine mv_aload_n (pc := 83) B d_Book_run_83 rfl 1 rfl ?_
            refine mv_getI (pc := 84) (ci := 12) (C := R_Book) (T := F_Book) (N := 65) B 53 rfl rfl (by decide) i_Book (B.2.2.2.1 _ k_1902) rfl d_Book_run_84 ?_
            refine mv_if_ne (pc := 87) (tgt := 131) B d_Book_run_87 rfl (fun h87 => ?_) (fun h87 => ?_)
            · skip
              have hf := xif_f h87 hf
              refine mv_lpick [1, 2] rfl ?_
              exact jn131 _ _ r_g10 hf
            · skip
              have hf := xif_t h87 hf
              refine mv_aload_n (pc := 90) B d_Book_run_90 rfl 1 rfl ?_
              refine mv_aload_n (pc := 91) B d_Book_run_91 rfl 1 rfl ?_
              refine mv_getR (pc := 92) (ci := 12) (C := R_Book) (T := F_Book) (N := 65) B 41 rfl rfl (by decide) i_Book (B.2.2.2.1 _ k_1890) rfl ((congrFun (congrFun r_g10 74) 41).trans (hb 74 41 _ rfl)) d_Book_run_92 ?_
              refine mv_iload_n (pc := 95) B d_Book_run_95 rfl 2 rfl ?_
              obtain ⟨q12, hf⟩ := xvi_e hf
              refine mv_iald (pc := 96) B rfl q12 d_Book_run_96 ?_
              refine mv_iconst (pc := 97) (v := 0) B d_Book_run_97 (by decide) ?_
              refine mv_lload_n (pc := 98) B d_Book_run_98 rfl 0 rfl ?_
              obtain ⟨g13, eg13, hf⟩ := xhv_e hf
              refine mv_callVv (pc := 99) (n := 3) (ci := 12) (C := R_Book) B (mK_ok sk sv) hNs rfl rfl (ch_Book_write_x l hi _ (xrw r_g10 hb) _ _ _ eg13) rfl (ma_goodc kc_Book_write) (B.2.2.2.1 _ k_2542) (B.2.2.2.1 _ k_2544) (B.2.2.2.1 _ ks_137) (B.2.2.2.1 _ k_13) ⟨by decide +kernel, by decide +kernel, by decide +kernel⟩ rfl d_Book_run_99 rfl (Nat.le_of_ble_eq_true rfl) ⟨by first | decide | (dsimp only; omega), by first | decide | (dsimp only; omega)⟩ ⟨Nat.le_refl _, Nat.le_refl _⟩ ⟨Nat.le_refl _, Nat.le_refl _⟩ (mv_noH hno _) (fun σ99 h99 => ?_)
              obtain ⟨rfl, s_g13⟩ := h99
              have r_g13 : mv_r g13 = mv_r h := s_g13.trans r_g10
              refine mv_goto (pc := 102) (tgt := 131) B d_Book_run_102 rfl ?_
              refine mv_lpick [1, 2] rfl ?_
              exact jn131 _ _ r_g13 hf
          have hf := xif_f h19n15 hf
          refine ⟨fun h19 => ?_, fun h19n16 => ?_⟩
          · skip
            have hf := xif_t h19 hf
            show mv_V _ _ _ _ _ _ _ _ _ _ _ _ _ _ _ _ 105 _ _
            refine mv_aload_n (pc := 105) B d_Book_run_105 rfl 0 rfl ?_
            refine mv_iload_n (pc := 106) B d_Book_run_106 rfl 1 rfl ?_
            obtain ⟨g15, eg15, hf⟩ := xhv_e hf
            refine mv_callVv (pc := 107) (n := 1) (ci := 12) (C := R_Book) B (mK_ok sk sv) hNs rfl rfl (ch_Book_setCell_x l hi _ (xrw r_hz hb) _ eg15) rfl (ma_goodc kc_Book_setCell) (B.2.2.2.1 _ k_2546) (B.2.2.2.1 _ k_2548) (B.2.2.2.1 _ ks_138) (B.2.2.2.1 _ k_13) ⟨by decide +kernel, by decide +kernel, by decide +kernel⟩ rfl d_Book_run_107 rfl (Nat.le_of_ble_eq_true rfl) ⟨by first | decide | (dsimp only; omega), by first | decide | (dsimp only; omega)⟩ ⟨Nat.le_refl _, Nat.le_refl _⟩ ⟨Nat.le_refl _, Nat.le_refl _⟩ (mv_noH hno _) (fun σ107 h107 => ?_)
            obtain ⟨rfl, s_g15⟩ := h107
            have r_g15 : mv_r g15 = mv_r h := s_g15.trans r_hz
            refine mv_goto (pc := 110) (tgt := 131) B d_Book_run_110 rfl ?_
            refine mv_lpick [0, 1] rfl ?_
            exact jn131 _ _ r_g15 hf
          have hf := xif_f h19n16 hf
          refine ⟨fun h19 => ?_, fun h19n17 => ?_⟩
          · skip
            have hf := xif_t h19 hf
            show mv_V _ _ _ _ _ _ _ _ _ _ _ _ _ _ _ _ 113 _ _
            refine mv_aload_n (pc := 113) B d_Book_run_113 rfl 0 rfl ?_
            refine mv_aload_n (pc := 114) B d_Book_run_114 rfl 0 rfl ?_
            refine mv_getR (pc := 115) (ci := 12) (C := R_Book) (T := F_Book) (N := 65) B 41 rfl rfl (by decide) i_Book (B.2.2.2.1 _ k_1890) rfl ((congrFun (congrFun r_hz 74) 41).trans (hb 74 41 _ rfl)) d_Book_run_115 ?_
            refine mv_iload_n (pc := 118) B d_Book_run_118 rfl 1 rfl ?_
            obtain ⟨q17, hf⟩ := xvi_e hf
            refine mv_iald (pc := 119) B rfl q17 d_Book_run_119 ?_
            refine mv_putI (pc := 120) (ci := 12) (C := R_Book) (T := F_Book) (N := 65) B 53 rfl rfl (by decide) i_Book t_Book_ok n_Book (B.2.2.2.1 _ k_1902) rfl rfl rfl rfl d_Book_run_120 ?_
            refine mvh_hp (R9 := mv_r h) hf r_hz (fun g18 hf r_g18 => ?_)
            refine mv_goto (pc := 123) (tgt := 131) B d_Book_run_123 rfl ?_
            refine mv_lpick [0, 1] rfl ?_
            exact jn131 _ _ r_g18 hf
          have hf := xif_f h19n17 hf
          show mv_V _ _ _ _ _ _ _ _ _ _ _ _ _ _ _ _ 126 _ _
          refine mv_aload_n (pc := 126) B d_Book_run_126 rfl 0 rfl ?_
          refine mv_iload_n (pc := 127) B d_Book_run_127 rfl 1 rfl ?_
          obtain ⟨g19, eg19, hf⟩ := xhv_e hf
          refine mv_callVv (pc := 128) (n := 1) (ci := 12) (C := R_Book) B (mK_ok sk sv) hNs rfl rfl (ih.2 _ _ _ (xrw r_hz hb) eg19) rfl (ma_goodc kc_Book_branch) (B.2.2.2.1 _ k_2550) (B.2.2.2.1 _ k_2552) (B.2.2.2.1 _ ks_139) (B.2.2.2.1 _ k_13) ⟨by decide +kernel, by decide +kernel, by decide +kernel⟩ rfl d_Book_run_128 rfl (Nat.le_of_ble_eq_true rfl) ⟨by first | decide | (dsimp only; omega), by first | decide | (dsimp only; omega)⟩ ⟨Nat.le_refl _, Nat.le_refl _⟩ ⟨Nat.le_refl _, Nat.le_refl _⟩ (mv_noH hno _) (fun σ128 h128 => ?_)
          obtain ⟨rfl, s_g19⟩ := h128
          have r_g19 : mv_r g19 = mv_r h := s_g19.trans r_hz
          refine mv_lpick [0, 1] rfl ?_
          exact jn131 _ _ r_g19 hf
  unfold f_Book_run at hf
  refine mv_iload_n (pc := 0) B d_Book_run_0 rfl 1 rfl ?_
  refine mv_istore_n (pc := 1) B d_Book_run_1 rfl (by decide) rfl ?_
  refine mv_lpick [1, 0] rfl ?_
  exact lp2 _ _ _ rfl hf
set_option maxHeartbeats 4000000 in
set_option maxRecDepth 100000 in
theorem cr_Book_branch_x (l : Launch) {dA : FieldType → ClassId} {D : va_G} {al : Nat → Nat} {ext : mv_Sh} {sk sv : Nat → Nat} (hi : mv_inj (mg dA D al ext)) (nn : Nat) (ih : RecU l dA D al ext sk sv 74 nn) (h : mv_H) (hb : mh (mv_r h))  (a0 : Int32) {rg : mv_H} (hf : f_Book_branch 74 (f_BookU 74 nn) h a0 = some rg) : mv_C l y_Book_branch (Cond.code y_Book_branch b_Book_branch 5 (Option.none : Option Jvm.ClassFile.FieldType) :: ma) ({ frames := nn + 1 + 1913, cells := 0, slots := 0, locals := 60 * (nn + 1) + 54220 }) (mg dA D al ext) (mK sk sv) [.ref (al 74), .int a0] h (mv_Rv (fun σ1 => rg = σ1 ∧ mv_r σ1 = mv_r h)) := by
  refine mv_C.ofV (cc := b_Book_branch) (nL := 5) (ret := (Option.none : Option Jvm.ClassFile.FieldType)) (by decide +kernel) rfl hi (Nat.le_of_ble_eq_true rfl) ?_
  intro p e s m below meth c B hNs hr hnm hno
  have jn84 : ∀ (x4 : Int32) (hz : mv_H), mv_r hz = mv_r h → f_Book_branch_84 74 (f_BookU 74 nn) x4 hz = some rg → mv_V p l e ({ frames := nn + 1 + 1913, cells := 0, slots := 0, locals := 60 * (nn + 1) + 54220 }) s m ([.ref (al 74), .int a0] : List Value).toArray below meth c (mg dA D al ext) 5 0 0 (mv_Q (mg dA D al ext) below s 0 0 (mv_Rv (fun σ1 => rg = σ1 ∧ mv_r σ1 = mv_r h))) hz 84 [(0, .ref (al 74)), (4, .int x4)] [] := by
    intro x4 hz r_hz hf
    unfold f_Book_branch_84 at hf
    refine mv_aload_n (pc := 84) B d_Book_branch_84 rfl 0 rfl ?_
    refine mv_iload (pc := 85) B d_Book_branch_85 1 rfl ?_
    obtain ⟨g1, eg1, hf⟩ := xhv_e hf
    refine mv_callVv (pc := 87) (n := 1) (ci := 12) (C := R_Book) B (mK_ok sk sv) hNs rfl rfl (ih.1 _ _ _ (xrw r_hz hb) eg1) rfl (ma_goodc kc_Book_run) (B.2.2.2.1 _ k_2496) (B.2.2.2.1 _ k_2498) (B.2.2.2.1 _ ks_130) (B.2.2.2.1 _ k_13) ⟨by decide +kernel, by decide +kernel, by decide +kernel⟩ rfl d_Book_branch_87 rfl (Nat.le_of_ble_eq_true rfl) ⟨by first | decide | (dsimp only; omega), by first | decide | (dsimp only; omega)⟩ ⟨Nat.le_refl _, Nat.le_refl _⟩ ⟨Nat.le_refl _, Nat.le_refl _⟩ (mv_noH hno _) (fun σ87 h87 => ?_)
    obtain ⟨rfl, s_g1⟩ := h87
    have r_g1 : mv_r g1 = mv_r h := s_g1.trans r_hz
    exact mv_vret (pc := 90) B hr d_Book_branch_90 (Nat.le_refl _) (Nat.le_refl _) ⟨rfl, xrh_v hf r_g1⟩
  have lp2 : ∀ (nn2 : Nat) (x2 : Int32) (hz : mv_H), mv_r hz = mv_r h → f_Book_branch_2 74 (f_BookU 74 nn) nn2 x2 hz = some rg → mv_V p l e ({ frames := nn + 1 + 1913, cells := 0, slots := 0, locals := 60 * (nn + 1) + 54220 }) s m ([.ref (al 74), .int a0] : List Value).toArray below meth c (mg dA D al ext) 5 0 0 (mv_Q (mg dA D al ext) below s 0 0 (mv_Rv (fun σ1 => rg = σ1 ∧ mv_r σ1 = mv_r h))) hz 2 [(0, .ref (al 74)), (2, .int x2)] [] := by
    intro nn2
    induction nn2 with
    | zero => intro x2 hz r_hz hf; cases hf
    | succ nn2 ih2 =>
      intro x2 hz r_hz hf
      have jn26 : ∀ (x2 : Int32) (y0 : Int32) (hz : mv_H), mv_r hz = mv_r h → f_Book_branch_26 74 (f_BookU 74 nn) (f_Book_branch_2 74 (f_BookU 74 nn) nn2) x2 y0 hz = some rg → mv_V p l e ({ frames := nn + 1 + 1913, cells := 0, slots := 0, locals := 60 * (nn + 1) + 54220 }) s m ([.ref (al 74), .int a0] : List Value).toArray below meth c (mg dA D al ext) 5 0 0 (mv_Q (mg dA D al ext) below s 0 0 (mv_Rv (fun σ1 => rg = σ1 ∧ mv_r σ1 = mv_r h))) hz 26 [(0, .ref (al 74)), (2, .int x2)] [.int y0] := by
        intro x2 y0 hz r_hz hf
        unfold f_Book_branch_26 at hf
        refine mv_istore_n (pc := 26) B d_Book_branch_26 rfl (by decide) rfl ?_
        refine mv_aload_n (pc := 27) B d_Book_branch_27 rfl 1 rfl ?_
        refine mv_getI (pc := 28) (ci := 12) (C := R_Book) (T := F_Book) (N := 65) B 53 rfl rfl (by decide) i_Book (B.2.2.2.1 _ k_1902) rfl d_Book_branch_28 ?_
        refine mv_if_eq (pc := 31) (tgt := 35) B d_Book_branch_31 rfl (fun h31 => ?_) (fun h31 => ?_)
        · skip
          have hf := xif_t h31 hf
          refine mv_iload_n (pc := 35) B d_Book_branch_35 rfl 0 rfl ?_
          refine mv_if_eq (pc := 36) (tgt := 50) B d_Book_branch_36 rfl (fun h36 => ?_) (fun h36 => ?_)
          · skip
            have hf := xif_t h36 hf
            refine mv_aload_n (pc := 50) B d_Book_branch_50 rfl 1 rfl ?_
            refine mv_getR (pc := 51) (ci := 12) (C := R_Book) (T := F_Book) (N := 65) B 43 rfl rfl (by decide) i_Book (B.2.2.2.1 _ k_1892) rfl ((congrFun (congrFun r_hz 74) 43).trans (hb 74 43 _ rfl)) d_Book_branch_51 ?_
            refine mv_iload_n (pc := 54) B d_Book_branch_54 rfl 2 rfl ?_
            obtain ⟨q3, hf⟩ := xvi_e hf
            refine mv_iald (pc := 55) B rfl q3 d_Book_branch_55 ?_
            refine mv_istore (pc := 56) B d_Book_branch_56 (by decide) rfl ?_
            refine mv_iload (pc := 58) B d_Book_branch_58 0 rfl ?_
            refine mv_if_lt (pc := 60) (tgt := 84) B d_Book_branch_60 rfl (fun h60 => ?_) (fun h60 => ?_)
            · skip
              have hf := xif_t h60 hf
              refine mv_lpick [2, 0] rfl ?_
              exact jn84 _ _ r_hz hf
            · skip
              have hf := xif_f h60 hf
              refine mv_aload_n (pc := 63) B d_Book_branch_63 rfl 2 rfl ?_
              refine mv_getR (pc := 64) (ci := 12) (C := R_Book) (T := F_Book) (N := 65) B 40 rfl rfl (by decide) i_Book (B.2.2.2.1 _ k_1889) rfl ((congrFun (congrFun r_hz 74) 40).trans (hb 74 40 _ rfl)) d_Book_branch_64 ?_
              refine mv_iload (pc := 67) B d_Book_branch_67 0 rfl ?_
              obtain ⟨q4, hf⟩ := xvi_e hf
              refine mv_iald (pc := 69) B rfl q4 d_Book_branch_69 ?_
              refine mv_bipush (pc := 70) (v := 18) B d_Book_branch_70 (by decide) ?_
              refine mv_icmp_ne (pc := 72) (tgt := 84) B d_Book_branch_72 rfl (fun h72 => ?_) (fun h72 => ?_)
              · skip
                have hf := xif_f h72 hf
                refine mv_lpick [2, 0] rfl ?_
                exact jn84 _ _ r_hz hf
              · skip
                have hf := xif_t h72 hf
                refine mv_aload_n (pc := 75) B d_Book_branch_75 rfl 2 rfl ?_
                refine mv_getR (pc := 76) (ci := 12) (C := R_Book) (T := F_Book) (N := 65) B 47 rfl rfl (by decide) i_Book (B.2.2.2.1 _ k_1896) rfl ((congrFun (congrFun r_hz 74) 47).trans (hb 74 47 _ rfl)) d_Book_branch_76 ?_
                refine mv_iload_n (pc := 79) B d_Book_branch_79 rfl 3 rfl ?_
                obtain ⟨q5, hf⟩ := xvi_e hf
                refine mv_zald (pc := 80) B rfl q5 d_Book_branch_80 ?_
                refine mv_if_ne (pc := 81) (tgt := 91) B d_Book_branch_81 rfl (fun h81 => ?_) (fun h81 => ?_)
                · skip
                  have hf := xif_f h81 hf
                  refine mv_iload (pc := 91) B d_Book_branch_91 0 rfl ?_
                  refine mv_istore_n (pc := 93) B d_Book_branch_93 rfl (by decide) rfl ?_
                  refine mv_goto (pc := 94) (tgt := 2) B d_Book_branch_94 rfl ?_
                  refine mv_lpick [3, 0] rfl ?_
                  exact ih2 _ _ r_hz hf
                · skip
                  have hf := xif_t h81 hf
                  refine mv_lpick [2, 0] rfl ?_
                  exact jn84 _ _ r_hz hf
          · skip
            have hf := xif_f h36 hf
            refine mv_aload_n (pc := 39) B d_Book_branch_39 rfl 1 rfl ?_
            refine mv_aload_n (pc := 40) B d_Book_branch_40 rfl 1 rfl ?_
            refine mv_getR (pc := 41) (ci := 12) (C := R_Book) (T := F_Book) (N := 65) B 42 rfl rfl (by decide) i_Book (B.2.2.2.1 _ k_1891) rfl ((congrFun (congrFun r_hz 74) 42).trans (hb 74 42 _ rfl)) d_Book_branch_41 ?_
            refine mv_iload_n (pc := 44) B d_Book_branch_44 rfl 2 rfl ?_
            obtain ⟨q6, hf⟩ := xvi_e hf
            refine mv_iald (pc := 45) B rfl q6 d_Book_branch_45 ?_
            obtain ⟨g7, eg7, hf⟩ := xhv_e hf
            refine mv_callVv (pc := 46) (n := 1) (ci := 12) (C := R_Book) B (mK_ok sk sv) hNs rfl rfl (ih.1 _ _ _ (xrw r_hz hb) eg7) rfl (ma_goodc kc_Book_run) (B.2.2.2.1 _ k_2496) (B.2.2.2.1 _ k_2498) (B.2.2.2.1 _ ks_130) (B.2.2.2.1 _ k_13) ⟨by decide +kernel, by decide +kernel, by decide +kernel⟩ rfl d_Book_branch_46 rfl (Nat.le_of_ble_eq_true rfl) ⟨by first | decide | (dsimp only; omega), by first | decide | (dsimp only; omega)⟩ ⟨Nat.le_refl _, Nat.le_refl _⟩ ⟨Nat.le_refl _, Nat.le_refl _⟩ (mv_noH hno _) (fun σ46 h46 => ?_)
            obtain ⟨rfl, s_g7⟩ := h46
            have r_g7 : mv_r g7 = mv_r h := s_g7.trans r_hz
            exact mv_vret (pc := 49) B hr d_Book_branch_49 (Nat.le_refl _) (Nat.le_refl _) ⟨rfl, xrh_v hf r_g7⟩
        · skip
          have hf := xif_f h31 hf
          exact mv_vret (pc := 34) B hr d_Book_branch_34 (Nat.le_refl _) (Nat.le_refl _) ⟨rfl, xrh_v hf r_hz⟩
      have hf : fF_Book_branch_2 74 (f_BookU 74 nn) (f_Book_branch_2 74 (f_BookU 74 nn) nn2) x2 hz = some rg := hf
      unfold fF_Book_branch_2 at hf
      refine mv_iload_n (pc := 2) B d_Book_branch_2 rfl 1 rfl ?_
      refine mv_if_lt (pc := 3) (tgt := 97) B d_Book_branch_3 rfl (fun h3 => ?_) (fun h3 => ?_)
      · skip
        have hf := xif_t h3 hf
        exact mv_vret (pc := 97) B hr d_Book_branch_97 (Nat.le_refl _) (Nat.le_refl _) ⟨rfl, xrh_v hf r_hz⟩
      · skip
        have hf := xif_f h3 hf
        refine mv_aload_n (pc := 6) B d_Book_branch_6 rfl 0 rfl ?_
        refine mv_aload_n (pc := 7) B d_Book_branch_7 rfl 0 rfl ?_
        refine mv_getR (pc := 8) (ci := 12) (C := R_Book) (T := F_Book) (N := 65) B 41 rfl rfl (by decide) i_Book (B.2.2.2.1 _ k_1890) rfl ((congrFun (congrFun r_hz 74) 41).trans (hb 74 41 _ rfl)) d_Book_branch_8 ?_
        refine mv_iload_n (pc := 11) B d_Book_branch_11 rfl 1 rfl ?_
        obtain ⟨q9, hf⟩ := xvi_e hf
        refine mv_iald (pc := 12) B rfl q9 d_Book_branch_12 ?_
        obtain ⟨u11, g10, eg10, hf⟩ := xhb_e hf
        refine mv_callVl (pc := 13) (n := 1) (ci := 12) (C := R_Book) B (mK_ok sk sv) hNs rfl rfl ((recE_x l hi 1900).1 _ _ _ _ (xrw r_hz hb) eg10) rfl (ma_goodc kc_Book_eval) (B.2.2.2.1 _ k_2500) (B.2.2.2.1 _ k_2502) (B.2.2.2.1 _ ks_131) (B.2.2.2.1 _ k_13) ⟨by decide +kernel, by decide +kernel, by decide +kernel⟩ rfl d_Book_branch_13 rfl (Nat.le_of_ble_eq_true rfl) ⟨by first | decide | (dsimp only; omega), by first | decide | (dsimp only; omega)⟩ ⟨Nat.le_refl _, Nat.le_refl _⟩ ⟨Nat.le_refl _, Nat.le_refl _⟩ (mv_noH hno _) (fun w13 σ13 h13 => ?_)
        obtain ⟨rfl, rfl, s_g10⟩ := h13
        have r_g10 : mv_r g10 = mv_r h := s_g10.trans r_hz
        refine mv_lconst (pc := 16) (v := 0) B d_Book_branch_16 (by decide) ?_
        refine mv_lcmp (pc := 17) B d_Book_branch_17 ?_
        refine mv_if_eq (pc := 18) (tgt := 25) B d_Book_branch_18 rfl (fun h18 => ?_) (fun h18 => ?_)
        · skip
          have hf := xif_t h18 hf
          refine mv_iconst (pc := 25) (v := 0) B d_Book_branch_25 (by decide) ?_
          refine mv_lpick [0, 1] rfl ?_
          exact jn26 _ _ _ r_g10 hf
        · skip
          have hf := xif_f h18 hf
          refine mv_iconst (pc := 21) (v := 1) B d_Book_branch_21 (by decide) ?_
          refine mv_goto (pc := 22) (tgt := 26) B d_Book_branch_22 rfl ?_
          refine mv_lpick [0, 1] rfl ?_
          exact jn26 _ _ _ r_g10 hf
  unfold f_Book_branch at hf
  refine mv_iload_n (pc := 0) B d_Book_branch_0 rfl 1 rfl ?_
  refine mv_istore_n (pc := 1) B d_Book_branch_1 rfl (by decide) rfl ?_
  refine mv_lpick [1, 0] rfl ?_
  exact lp2 _ _ _ rfl hf
theorem recU_0x (l : Launch) {dA : FieldType → ClassId} {D : va_G} {al : Nat → Nat} {ext : mv_Sh} {sk sv : Nat → Nat} (hi : mv_inj (mg dA D al ext)) : RecU l dA D al ext sk sv 74 0 := ⟨(fun a h rg hb hf => by cases hf), (fun a h rg hb hf => by cases hf)⟩
theorem recU_1x (l : Launch) {dA : FieldType → ClassId} {D : va_G} {al : Nat → Nat} {ext : mv_Sh} {sk sv : Nat → Nat} (hi : mv_inj (mg dA D al ext)) (nn : Nat) (ih : RecU l dA D al ext sk sv 74 nn) : RecU l dA D al ext sk sv 74 (nn + 1) := ⟨(fun a h rg hb hf => cr_Book_run_x l hi nn ih h hb a (by rw [f_BookU] at hf; exact hf)), (fun a h rg hb hf => cr_Book_branch_x l hi nn ih h hb a (by rw [f_BookU] at hf; exact hf))⟩
theorem recU_x (l : Launch) {dA : FieldType → ClassId} {D : va_G} {al : Nat → Nat} {ext : mv_Sh} {sk sv : Nat → Nat} (hi : mv_inj (mg dA D al ext)) : ∀ nn, RecU l dA D al ext sk sv 74 nn := by
  intro nn
  induction nn with
  | zero => exact recU_0x l hi
  | succ nn ih => exact recU_1x l hi nn ih
set_option maxHeartbeats 4000000 in
set_option maxRecDepth 100000 in
theorem cr_Book_run_y (l : Launch) {dA : FieldType → ClassId} {D : va_G} {al : Nat → Nat} {ext : mv_Sh} {sk sv : Nat → Nat} (hi : mv_inj (mg dA D al ext)) (nn : Nat) (ih : RecU l dA D al ext sk sv 108 nn) (h : mv_H) (hb : mh (mv_r h))  (a0 : Int32) {rg : mv_H} (hf : f_Book_run 108 (f_BookU 108 nn) h a0 = some rg) : mv_C l y_Book_run (Cond.code y_Book_run b_Book_run 5 (Option.none : Option Jvm.ClassFile.FieldType) :: ma) ({ frames := nn + 1 + 1913, cells := 0, slots := 0, locals := 60 * (nn + 1) + 54220 }) (mg dA D al ext) (mK sk sv) [.ref (al 108), .int a0] h (mv_Rv (fun σ1 => rg = σ1 ∧ mv_r σ1 = mv_r h)) := by
  refine mv_C.ofV (cc := b_Book_run) (nL := 5) (ret := (Option.none : Option Jvm.ClassFile.FieldType)) (by decide +kernel) rfl hi (Nat.le_of_ble_eq_true rfl) ?_
  intro p e s m below meth c B hNs hr hnm hno
  have lp2 : ∀ (nn2 : Nat) (x2 : Int32) (hz : mv_H), mv_r hz = mv_r h → f_Book_run_2 108 (f_BookU 108 nn) nn2 x2 hz = some rg → mv_V p l e ({ frames := nn + 1 + 1913, cells := 0, slots := 0, locals := 60 * (nn + 1) + 54220 }) s m ([.ref (al 108), .int a0] : List Value).toArray below meth c (mg dA D al ext) 5 0 0 (mv_Q (mg dA D al ext) below s 0 0 (mv_Rv (fun σ1 => rg = σ1 ∧ mv_r σ1 = mv_r h))) hz 2 [(0, .ref (al 108)), (2, .int x2)] [] := by
    intro nn2
    induction nn2 with
    | zero => intro x2 hz r_hz hf; cases hf
    | succ nn2 ih2 =>
      intro x2 hz r_hz hf
      have jn131 : ∀ (x2 : Int32) (hz : mv_H), mv_r hz = mv_r h → f_Book_run_131 108 (f_BookU 108 nn) (f_Book_run_2 108 (f_BookU 108 nn) nn2) x2 hz = some rg → mv_V p l e ({ frames := nn + 1 + 1913, cells := 0, slots := 0, locals := 60 * (nn + 1) + 54220 }) s m ([.ref (al 108), .int a0] : List Value).toArray below meth c (mg dA D al ext) 5 0 0 (mv_Q (mg dA D al ext) below s 0 0 (mv_Rv (fun σ1 => rg = σ1 ∧ mv_r σ1 = mv_r h))) hz 131 [(0, .ref (al 108)), (2, .int x2)] [] := by
        intro x2 hz r_hz hf
        unfold f_Book_run_131 at hf
        refine mv_aload_n (pc := 131) B d_Book_run_131 rfl 0 rfl ?_
        refine mv_getR (pc := 132) (ci := 12) (C := R_Book) (T := F_Book) (N := 65) B 44 rfl rfl (by decide) i_Book (B.2.2.2.1 _ k_1893) rfl ((congrFun (congrFun r_hz 108) 44).trans (hb 108 44 _ rfl)) d_Book_run_132 ?_
        refine mv_iload_n (pc := 135) B d_Book_run_135 rfl 1 rfl ?_
        obtain ⟨q1, hf⟩ := xvi_e hf
        refine mv_iald (pc := 136) B rfl q1 d_Book_run_136 ?_
        refine mv_istore_n (pc := 137) B d_Book_run_137 rfl (by decide) rfl ?_
        refine mv_goto (pc := 138) (tgt := 2) B d_Book_run_138 rfl ?_
        refine mv_lpick [1, 0] rfl ?_
        exact ih2 _ _ r_hz hf
      have hf : fF_Book_run_2 108 (f_BookU 108 nn) (f_Book_run_2 108 (f_BookU 108 nn) nn2) x2 hz = some rg := hf
      unfold fF_Book_run_2 at hf
      refine mv_iload_n (pc := 2) B d_Book_run_2 rfl 1 rfl ?_
      refine mv_if_lt (pc := 3) (tgt := 141) B d_Book_run_3 rfl (fun h3 => ?_) (fun h3 => ?_)
      · skip
        have hf := xif_t h3 hf
        exact mv_vret (pc := 141) B hr d_Book_run_141 (Nat.le_refl _) (Nat.le_refl _) ⟨rfl, xrh_v hf r_hz⟩
      · skip
        have hf := xif_f h3 hf
        refine mv_aload_n (pc := 6) B d_Book_run_6 rfl 0 rfl ?_
        refine mv_getI (pc := 7) (ci := 12) (C := R_Book) (T := F_Book) (N := 65) B 53 rfl rfl (by decide) i_Book (B.2.2.2.1 _ k_1902) rfl d_Book_run_7 ?_
        refine mv_if_ne (pc := 10) (tgt := 141) B d_Book_run_10 rfl (fun h10 => ?_) (fun h10 => ?_)
        · skip
          have hf := xif_f h10 hf
          exact mv_vret (pc := 141) B hr d_Book_run_141 (Nat.le_refl _) (Nat.le_refl _) ⟨rfl, xrh_v hf r_hz⟩
        · skip
          have hf := xif_t h10 hf
          refine mv_aload_n (pc := 13) B d_Book_run_13 rfl 0 rfl ?_
          refine mv_getR (pc := 14) (ci := 12) (C := R_Book) (T := F_Book) (N := 65) B 40 rfl rfl (by decide) i_Book (B.2.2.2.1 _ k_1889) rfl ((congrFun (congrFun r_hz 108) 40).trans (hb 108 40 _ rfl)) d_Book_run_14 ?_
          refine mv_iload_n (pc := 17) B d_Book_run_17 rfl 1 rfl ?_
          obtain ⟨q2, hf⟩ := xvi_e hf
          refine mv_iald (pc := 18) B rfl q2 d_Book_run_18 ?_
          refine mv_tsw (pc := 19) B d_Book_run_19 (by decide) (by decide) ?_
          refine ⟨fun h19 => ?_, fun h19n14 => ?_⟩
          · skip
            have hf := xif_t h19 hf
            show mv_V _ _ _ _ _ _ _ _ _ _ _ _ _ _ _ _ 48 _ _
            refine mv_aload_n (pc := 48) B d_Book_run_48 rfl 0 rfl ?_
            refine mv_getR (pc := 49) (ci := 12) (C := R_Book) (T := F_Book) (N := 65) B 54 rfl rfl (by decide) i_Book (B.2.2.2.1 _ k_1903) rfl ((congrFun (congrFun r_hz 108) 54).trans (hb 108 54 _ rfl)) d_Book_run_49 ?_
            refine mv_aload_n (pc := 52) B d_Book_run_52 rfl 0 rfl ?_
            refine mv_getR (pc := 53) (ci := 12) (C := R_Book) (T := F_Book) (N := 65) B 41 rfl rfl (by decide) i_Book (B.2.2.2.1 _ k_1890) rfl ((congrFun (congrFun r_hz 108) 41).trans (hb 108 41 _ rfl)) d_Book_run_53 ?_
            refine mv_iload_n (pc := 56) B d_Book_run_56 rfl 1 rfl ?_
            obtain ⟨q3, hf⟩ := xvi_e hf
            refine mv_iald (pc := 57) B rfl q3 d_Book_run_57 ?_
            refine mv_aload_n (pc := 58) B d_Book_run_58 rfl 0 rfl ?_
            refine mv_aload_n (pc := 59) B d_Book_run_59 rfl 0 rfl ?_
            refine mv_getR (pc := 60) (ci := 12) (C := R_Book) (T := F_Book) (N := 65) B 42 rfl rfl (by decide) i_Book (B.2.2.2.1 _ k_1891) rfl ((congrFun (congrFun r_hz 108) 42).trans (hb 108 42 _ rfl)) d_Book_run_60 ?_
            refine mv_iload_n (pc := 63) B d_Book_run_63 rfl 1 rfl ?_
            obtain ⟨q4, hf⟩ := xvi_e hf
            refine mv_iald (pc := 64) B rfl q4 d_Book_run_64 ?_
            obtain ⟨u6, g5, eg5, hf⟩ := xhb_e hf
            refine mv_callVl (pc := 65) (n := 1) (ci := 12) (C := R_Book) B (mK_ok sk sv) hNs rfl rfl ((recE_y l hi 1900).1 _ _ _ _ (xrw r_hz hb) eg5) rfl (ma_goodc kc_Book_eval) (B.2.2.2.1 _ k_2500) (B.2.2.2.1 _ k_2502) (B.2.2.2.1 _ ks_131) (B.2.2.2.1 _ k_13) ⟨by decide +kernel, by decide +kernel, by decide +kernel⟩ rfl d_Book_run_65 rfl (Nat.le_of_ble_eq_true rfl) ⟨by first | decide | (dsimp only; omega), by first | decide | (dsimp only; omega)⟩ ⟨Nat.le_refl _, Nat.le_refl _⟩ ⟨Nat.le_refl _, Nat.le_refl _⟩ (mv_noH hno _) (fun w65 σ65 h65 => ?_)
            obtain ⟨rfl, rfl, s_g5⟩ := h65
            have r_g5 : mv_r g5 = mv_r h := s_g5.trans r_hz
            obtain ⟨q7, hf⟩ := xvi_e hf
            refine mv_last (pc := 68) B rfl q7 d_Book_run_68 ?_
            refine mvh_hp (R9 := mv_r h) hf r_g5 (fun g8 hf r_g8 => ?_)
            refine mv_goto (pc := 69) (tgt := 131) B d_Book_run_69 rfl ?_
            refine mv_lpick [0, 1] rfl ?_
            exact jn131 _ _ r_g8 hf
          have hf := xif_f h19n14 hf
          refine ⟨fun h19 => ?_, fun h19n15 => ?_⟩
          · skip
            have hf := xif_t h19 hf
            show mv_V _ _ _ _ _ _ _ _ _ _ _ _ _ _ _ _ 72 _ _
            refine mv_aload_n (pc := 72) B d_Book_run_72 rfl 0 rfl ?_
            refine mv_aload_n (pc := 73) B d_Book_run_73 rfl 0 rfl ?_
            refine mv_getR (pc := 74) (ci := 12) (C := R_Book) (T := F_Book) (N := 65) B 42 rfl rfl (by decide) i_Book (B.2.2.2.1 _ k_1891) rfl ((congrFun (congrFun r_hz 108) 42).trans (hb 108 42 _ rfl)) d_Book_run_74 ?_
            refine mv_iload_n (pc := 77) B d_Book_run_77 rfl 1 rfl ?_
            obtain ⟨q9, hf⟩ := xvi_e hf
            refine mv_iald (pc := 78) B rfl q9 d_Book_run_78 ?_
            obtain ⟨u11, g10, eg10, hf⟩ := xhb_e hf
            refine mv_callVl (pc := 79) (n := 1) (ci := 12) (C := R_Book) B (mK_ok sk sv) hNs rfl rfl ((recE_y l hi 1900).1 _ _ _ _ (xrw r_hz hb) eg10) rfl (ma_goodc kc_Book_eval) (B.2.2.2.1 _ k_2500) (B.2.2.2.1 _ k_2502) (B.2.2.2.1 _ ks_131) (B.2.2.2.1 _ k_13) ⟨by decide +kernel, by decide +kernel, by decide +kernel⟩ rfl d_Book_run_79 rfl (Nat.le_of_ble_eq_true rfl) ⟨by first | decide | (dsimp only; omega), by first | decide | (dsimp only; omega)⟩ ⟨Nat.le_refl _, Nat.le_refl _⟩ ⟨Nat.le_refl _, Nat.le_refl _⟩ (mv_noH hno _) (fun w79 σ79 h79 => ?_)
            obtain ⟨rfl, rfl, s_g10⟩ := h79
            have r_g10 : mv_r g10 = mv_r h := s_g10.trans r_hz
            refine mv_lstore_n (pc := 82) B d_Book_run_82 rfl (by decide) rfl ?_
            refine mv_aload_n (pc := 83) B d_Book_run_83 rfl 1 rfl ?_
            refine mv_getI (pc := 84) (ci := 12) (C := R_Book) (T := F_Book) (N := 65) B 53 rfl rfl (by decide) i_Book (B.2.2.2.1 _ k_1902) rfl d_Book_run_84 ?_
            refine mv_if_ne (pc := 87) (tgt := 131) B d_Book_run_87 rfl (fun h87 => ?_) (fun h87 => ?_)
            · skip
              have hf := xif_f h87 hf
              refine mv_lpick [1, 2] rfl ?_
              exact jn131 _ _ r_g10 hf
            · skip
              have hf := xif_t h87 hf
              refine mv_aload_n (pc := 90) B d_Book_run_90 rfl 1 rfl ?_
              refine mv_aload_n (pc := 91) B d_Book_run_91 rfl 1 rfl ?_
              refine mv_getR (pc := 92) (ci := 12) (C := R_Book) (T := F_Book) (N := 65) B 41 rfl rfl (by decide) i_Book (B.2.2.2.1 _ k_1890) rfl ((congrFun (congrFun r_g10 108) 41).trans (hb 108 41 _ rfl)) d_Book_run_92 ?_
              refine mv_iload_n (pc := 95) B d_Book_run_95 rfl 2 rfl ?_
              obtain ⟨q12, hf⟩ := xvi_e hf
              refine mv_iald (pc := 96) B rfl q12 d_Book_run_96 ?_
              refine mv_iconst (pc := 97) (v := 0) B d_Book_run_97 (by decide) ?_
              refine mv_lload_n (pc := 98) B d_Book_run_98 rfl 0 rfl ?_
              obtain ⟨g13, eg13, hf⟩ := xhv_e hf
              refine mv_callVv (pc := 99) (n := 3) (ci := 12) (C := R_Book) B (mK_ok sk sv) hNs rfl rfl (ch_Book_write_y l hi _ (xrw r_g10 hb) _ _ _ eg13) rfl (ma_goodc kc_Book_write) (B.2.2.2.1 _ k_2542) (B.2.2.2.1 _ k_2544) (B.2.2.2.1 _ ks_137) (B.2.2.2.1 _ k_13) ⟨by decide +kernel, by decide +kernel, by decide +kernel⟩ rfl d_Book_run_99 rfl (Nat.le_of_ble_eq_true rfl) ⟨by first | decide | (dsimp only; omega), by first | decide | (dsimp only; omega)⟩ ⟨Nat.le_refl _, Nat.le_refl _⟩ ⟨Nat.le_refl _, Nat.le_refl _⟩ (mv_noH hno _) (fun σ99 h99 => ?_)
              obtain ⟨rfl, s_g13⟩ := h99
              have r_g13 : mv_r g13 = mv_r h := s_g13.trans r_g10
              refine mv_goto (pc := 102) (tgt := 131) B d_Book_run_102 rfl ?_
              refine mv_lpick [1, 2] rfl ?_
              exact jn131 _ _ r_g13 hf
          have hf := xif_f h19n15 hf
          refine ⟨fun h19 => ?_, fun h19n16 => ?_⟩
          · skip
            have hf := xif_t h19 hf
            show mv_V _ _ _ _ _ _ _ _ _ _ _ _ _ _ _ _ 105 _ _
            refine mv_aload_n (pc := 105) B d_Book_run_105 rfl 0 rfl ?_
            refine mv_iload_n (pc := 106) B d_Book_run_106 rfl 1 rfl ?_
            obtain ⟨g15, eg15, hf⟩ := xhv_e hf
            refine mv_callVv (pc := 107) (n := 1) (ci := 12) (C := R_Book) B (mK_ok sk sv) hNs rfl rfl (ch_Book_setCell_y l hi _ (xrw r_hz hb) _ eg15) rfl (ma_goodc kc_Book_setCell) (B.2.2.2.1 _ k_2546) (B.2.2.2.1 _ k_2548) (B.2.2.2.1 _ ks_138) (B.2.2.2.1 _ k_13) ⟨by decide +kernel, by decide +kernel, by decide +kernel⟩ rfl d_Book_run_107 rfl (Nat.le_of_ble_eq_true rfl) ⟨by first | decide | (dsimp only; omega), by first | decide | (dsimp only; omega)⟩ ⟨Nat.le_refl _, Nat.le_refl _⟩ ⟨Nat.le_refl _, Nat.le_refl _⟩ (mv_noH hno _) (fun σ107 h107 => ?_)
            obtain ⟨rfl, s_g15⟩ := h107
            have r_g15 : mv_r g15 = mv_r h := s_g15.trans r_hz
            refine mv_goto (pc := 110) (tgt := 131) B d_Book_run_110 rfl ?_
            refine mv_lpick [0, 1] rfl ?_
            exact jn131 _ _ r_g15 hf
          have hf := xif_f h19n16 hf
          refine ⟨fun h19 => ?_, fun h19n17 => ?_⟩
          · skip
            have hf := xif_t h19 hf
            show mv_V _ _ _ _ _ _ _ _ _ _ _ _ _ _ _ _ 113 _ _
            refine mv_aload_n (pc := 113) B d_Book_run_113 rfl 0 rfl ?_
            refine mv_aload_n (pc := 114) B d_Book_run_114 rfl 0 rfl ?_
            refine mv_getR (pc := 115) (ci := 12) (C := R_Book) (T := F_Book) (N := 65) B 41 rfl rfl (by decide) i_Book (B.2.2.2.1 _ k_1890) rfl ((congrFun (congrFun r_hz 108) 41).trans (hb 108 41 _ rfl)) d_Book_run_115 ?_
            refine mv_iload_n (pc := 118) B d_Book_run_118 rfl 1 rfl ?_
            obtain ⟨q17, hf⟩ := xvi_e hf
            refine mv_iald (pc := 119) B rfl q17 d_Book_run_119 ?_
            refine mv_putI (pc := 120) (ci := 12) (C := R_Book) (T := F_Book) (N := 65) B 53 rfl rfl (by decide) i_Book t_Book_ok n_Book (B.2.2.2.1 _ k_1902) rfl rfl rfl rfl d_Book_run_120 ?_
            refine mvh_hp (R9 := mv_r h) hf r_hz (fun g18 hf r_g18 => ?_)
            refine mv_goto (pc := 123) (tgt := 131) B d_Book_run_123 rfl ?_
            refine mv_lpick [0, 1] rfl ?_
            exact jn131 _ _ r_g18 hf
          have hf := xif_f h19n17 hf
          show mv_V _ _ _ _ _ _ _ _ _ _ _ _ _ _ _ _ 126 _ _
          refine mv_aload_n (pc := 126) B d_Book_run_126 rfl 0 rfl ?_
          refine mv_iload_n (pc := 127) B d_Book_run_127 rfl 1 rfl ?_
          obtain ⟨g19, eg19, hf⟩ := xhv_e hf
          refine mv_callVv (pc := 128) (n := 1) (ci := 12) (C := R_Book) B (mK_ok sk sv) hNs rfl rfl (ih.2 _ _ _ (xrw r_hz hb) eg19) rfl (ma_goodc kc_Book_branch) (B.2.2.2.1 _ k_2550) (B.2.2.2.1 _ k_2552) (B.2.2.2.1 _ ks_139) (B.2.2.2.1 _ k_13) ⟨by decide +kernel, by decide +kernel, by decide +kernel⟩ rfl d_Book_run_128 rfl (Nat.le_of_ble_eq_true rfl) ⟨by first | decide | (dsimp only; omega), by first | decide | (dsimp only; omega)⟩ ⟨Nat.le_refl _, Nat.le_refl _⟩ ⟨Nat.le_refl _, Nat.le_refl _⟩ (mv_noH hno _) (fun σ128 h128 => ?_)
          obtain ⟨rfl, s_g19⟩ := h128
          have r_g19 : mv_r g19 = mv_r h := s_g19.trans r_hz
          refine mv_lpick [0, 1] rfl ?_
          exact jn131 _ _ r_g19 hf
  unfold f_Book_run at hf
  refine mv_iload_n (pc := 0) B d_Book_run_0 rfl 1 rfl ?_
  refine mv_istore_n (pc := 1) B d_Book_run_1 rfl (by decide) rfl ?_
  refine mv_lpick [1, 0] rfl ?_
  exact lp2 _ _ _ rfl hf
set_option maxHeartbeats 4000000 in
set_option maxRecDepth 100000 in
theorem cr_Book_branch_y (l : Launch) {dA : FieldType → ClassId} {D : va_G} {al : Nat → Nat} {ext : mv_Sh} {sk sv : Nat → Nat} (hi : mv_inj (mg dA D al ext)) (nn : Nat) (ih : RecU l dA D al ext sk sv 108 nn) (h : mv_H) (hb : mh (mv_r h))  (a0 : Int32) {rg : mv_H} (hf : f_Book_branch 108 (f_BookU 108 nn) h a0 = some rg) : mv_C l y_Book_branch (Cond.code y_Book_branch b_Book_branch 5 (Option.none : Option Jvm.ClassFile.FieldType) :: ma) ({ frames := nn + 1 + 1913, cells := 0, slots := 0, locals := 60 * (nn + 1) + 54220 }) (mg dA D al ext) (mK sk sv) [.ref (al 108), .int a0] h (mv_Rv (fun σ1 => rg = σ1 ∧ mv_r σ1 = mv_r h)) := by
  refine mv_C.ofV (cc := b_Book_branch) (nL := 5) (ret := (Option.none : Option Jvm.ClassFile.FieldType)) (by decide +kernel) rfl hi (Nat.le_of_ble_eq_true rfl) ?_
  intro p e s m below meth c B hNs hr hnm hno
  have jn84 : ∀ (x4 : Int32) (hz : mv_H), mv_r hz = mv_r h → f_Book_branch_84 108 (f_BookU 108 nn) x4 hz = some rg → mv_V p l e ({ frames := nn + 1 + 1913, cells := 0, slots := 0, locals := 60 * (nn + 1) + 54220 }) s m ([.ref (al 108), .int a0] : List Value).toArray below meth c (mg dA D al ext) 5 0 0 (mv_Q (mg dA D al ext) below s 0 0 (mv_Rv (fun σ1 => rg = σ1 ∧ mv_r σ1 = mv_r h))) hz 84 [(0, .ref (al 108)), (4, .int x4)] [] := by
    intro x4 hz r_hz hf
    unfold f_Book_branch_84 at hf
    refine mv_aload_n (pc := 84) B d_Book_branch_84 rfl 0 rfl ?_
    refine mv_iload (pc := 85) B d_Book_branch_85 1 rfl ?_
    obtain ⟨g1, eg1, hf⟩ := xhv_e hf
    refine mv_callVv (pc := 87) (n := 1) (ci := 12) (C := R_Book) B (mK_ok sk sv) hNs rfl rfl (ih.1 _ _ _ (xrw r_hz hb) eg1) rfl (ma_goodc kc_Book_run) (B.2.2.2.1 _ k_2496) (B.2.2.2.1 _ k_2498) (B.2.2.2.1 _ ks_130) (B.2.2.2.1 _ k_13) ⟨by decide +kernel, by decide +kernel, by decide +kernel⟩ rfl d_Book_branch_87 rfl (Nat.le_of_ble_eq_true rfl) ⟨by first | decide | (dsimp only; omega), by first | decide | (dsimp only; omega)⟩ ⟨Nat.le_refl _, Nat.le_refl _⟩ ⟨Nat.le_refl _, Nat.le_refl _⟩ (mv_noH hno _) (fun σ87 h87 => ?_)
    obtain ⟨rfl, s_g1⟩ := h87
    have r_g1 : mv_r g1 = mv_r h := s_g1.trans r_hz
    exact mv_vret (pc := 90) B hr d_Book_branch_90 (Nat.le_refl _) (Nat.le_refl _) ⟨rfl, xrh_v hf r_g1⟩
  have lp2 : ∀ (nn2 : Nat) (x2 : Int32) (hz : mv_H), mv_r hz = mv_r h → f_Book_branch_2 108 (f_BookU 108 nn) nn2 x2 hz = some rg → mv_V p l e ({ frames := nn + 1 + 1913, cells := 0, slots := 0, locals := 60 * (nn + 1) + 54220 }) s m ([.ref (al 108), .int a0] : List Value).toArray below meth c (mg dA D al ext) 5 0 0 (mv_Q (mg dA D al ext) below s 0 0 (mv_Rv (fun σ1 => rg = σ1 ∧ mv_r σ1 = mv_r h))) hz 2 [(0, .ref (al 108)), (2, .int x2)] [] := by
    intro nn2
    induction nn2 with
    | zero => intro x2 hz r_hz hf; cases hf
    | succ nn2 ih2 =>
      intro x2 hz r_hz hf
      have jn26 : ∀ (x2 : Int32) (y0 : Int32) (hz : mv_H), mv_r hz = mv_r h → f_Book_branch_26 108 (f_BookU 108 nn) (f_Book_branch_2 108 (f_BookU 108 nn) nn2) x2 y0 hz = some rg → mv_V p l e ({ frames := nn + 1 + 1913, cells := 0, slots := 0, locals := 60 * (nn + 1) + 54220 }) s m ([.ref (al 108), .int a0] : List Value).toArray below meth c (mg dA D al ext) 5 0 0 (mv_Q (mg dA D al ext) below s 0 0 (mv_Rv (fun σ1 => rg = σ1 ∧ mv_r σ1 = mv_r h))) hz 26 [(0, .ref (al 108)), (2, .int x2)] [.int y0] := by
        intro x2 y0 hz r_hz hf
        unfold f_Book_branch_26 at hf
        refine mv_istore_n (pc := 26) B d_Book_branch_26 rfl (by decide) rfl ?_
        refine mv_aload_n (pc := 27) B d_Book_branch_27 rfl 1 rfl ?_
        refine mv_getI (pc := 28) (ci := 12) (C := R_Book) (T := F_Book) (N := 65) B 53 rfl rfl (by decide) i_Book (B.2.2.2.1 _ k_1902) rfl d_Book_branch_28 ?_
        refine mv_if_eq (pc := 31) (tgt := 35) B d_Book_branch_31 rfl (fun h31 => ?_) (fun h31 => ?_)
        · skip
          have hf := xif_t h31 hf
          refine mv_iload_n (pc := 35) B d_Book_branch_35 rfl 0 rfl ?_
          refine mv_if_eq (pc := 36) (tgt := 50) B d_Book_branch_36 rfl (fun h36 => ?_) (fun h36 => ?_)
          · skip
            have hf := xif_t h36 hf
            refine mv_aload_n (pc := 50) B d_Book_branch_50 rfl 1 rfl ?_
            refine mv_getR (pc := 51) (ci := 12) (C := R_Book) (T := F_Book) (N := 65) B 43 rfl rfl (by decide) i_Book (B.2.2.2.1 _ k_1892) rfl ((congrFun (congrFun r_hz 108) 43).trans (hb 108 43 _ rfl)) d_Book_branch_51 ?_
            refine mv_iload_n (pc := 54) B d_Book_branch_54 rfl 2 rfl ?_
            obtain ⟨q3, hf⟩ := xvi_e hf
            refine mv_iald (pc := 55) B rfl q3 d_Book_branch_55 ?_
            refine mv_istore (pc := 56) B d_Book_branch_56 (by decide) rfl ?_
            refine mv_iload (pc := 58) B d_Book_branch_58 0 rfl ?_
            refine mv_if_lt (pc := 60) (tgt := 84) B d_Book_branch_60 rfl (fun h60 => ?_) (fun h60 => ?_)
            · skip
              have hf := xif_t h60 hf
              refine mv_lpick [2, 0] rfl ?_
              exact jn84 _ _ r_hz hf
            · skip
              have hf := xif_f h60 hf
              refine mv_aload_n (pc := 63) B d_Book_branch_63 rfl 2 rfl ?_
              refine mv_getR (pc := 64) (ci := 12) (C := R_Book) (T := F_Book) (N := 65) B 40 rfl rfl (by decide) i_Book (B.2.2.2.1 _ k_1889) rfl ((congrFun (congrFun r_hz 108) 40).trans (hb 108 40 _ rfl)) d_Book_branch_64 ?_
              refine mv_iload (pc := 67) B d_Book_branch_67 0 rfl ?_
              obtain ⟨q4, hf⟩ := xvi_e hf
              refine mv_iald (pc := 69) B rfl q4 d_Book_branch_69 ?_
              refine mv_bipush (pc := 70) (v := 18) B d_Book_branch_70 (by decide) ?_
              refine mv_icmp_ne (pc := 72) (tgt := 84) B d_Book_branch_72 rfl (fun h72 => ?_) (fun h72 => ?_)
              · skip
                have hf := xif_f h72 hf
                refine mv_lpick [2, 0] rfl ?_
                exact jn84 _ _ r_hz hf
              · skip
                have hf := xif_t h72 hf
                refine mv_aload_n (pc := 75) B d_Book_branch_75 rfl 2 rfl ?_
                refine mv_getR (pc := 76) (ci := 12) (C := R_Book) (T := F_Book) (N := 65) B 47 rfl rfl (by decide) i_Book (B.2.2.2.1 _ k_1896) rfl ((congrFun (congrFun r_hz 108) 47).trans (hb 108 47 _ rfl)) d_Book_branch_76 ?_
                refine mv_iload_n (pc := 79) B d_Book_branch_79 rfl 3 rfl ?_
                obtain ⟨q5, hf⟩ := xvi_e hf
                refine mv_zald (pc := 80) B rfl q5 d_Book_branch_80 ?_
                refine mv_if_ne (pc := 81) (tgt := 91) B d_Book_branch_81 rfl (fun h81 => ?_) (fun h81 => ?_)
                · skip
                  have hf := xif_f h81 hf
                  refine mv_iload (pc := 91) B d_Book_branch_91 0 rfl ?_
                  refine mv_istore_n (pc := 93) B d_Book_branch_93 rfl (by decide) rfl ?_
                  refine mv_goto (pc := 94) (tgt := 2) B d_Book_branch_94 rfl ?_
                  refine mv_lpick [3, 0] rfl ?_
                  exact ih2 _ _ r_hz hf
                · skip
                  have hf := xif_t h81 hf
                  refine mv_lpick [2, 0] rfl ?_
                  exact jn84 _ _ r_hz hf
          · skip
            have hf := xif_f h36 hf
            refine mv_aload_n (pc := 39) B d_Book_branch_39 rfl 1 rfl ?_
            refine mv_aload_n (pc := 40) B d_Book_branch_40 rfl 1 rfl ?_
            refine mv_getR (pc := 41) (ci := 12) (C := R_Book) (T := F_Book) (N := 65) B 42 rfl rfl (by decide) i_Book (B.2.2.2.1 _ k_1891) rfl ((congrFun (congrFun r_hz 108) 42).trans (hb 108 42 _ rfl)) d_Book_branch_41 ?_
            refine mv_iload_n (pc := 44) B d_Book_branch_44 rfl 2 rfl ?_
            obtain ⟨q6, hf⟩ := xvi_e hf
            refine mv_iald (pc := 45) B rfl q6 d_Book_branch_45 ?_
            obtain ⟨g7, eg7, hf⟩ := xhv_e hf
            refine mv_callVv (pc := 46) (n := 1) (ci := 12) (C := R_Book) B (mK_ok sk sv) hNs rfl rfl (ih.1 _ _ _ (xrw r_hz hb) eg7) rfl (ma_goodc kc_Book_run) (B.2.2.2.1 _ k_2496) (B.2.2.2.1 _ k_2498) (B.2.2.2.1 _ ks_130) (B.2.2.2.1 _ k_13) ⟨by decide +kernel, by decide +kernel, by decide +kernel⟩ rfl d_Book_branch_46 rfl (Nat.le_of_ble_eq_true rfl) ⟨by first | decide | (dsimp only; omega), by first | decide | (dsimp only; omega)⟩ ⟨Nat.le_refl _, Nat.le_refl _⟩ ⟨Nat.le_refl _, Nat.le_refl _⟩ (mv_noH hno _) (fun σ46 h46 => ?_)
            obtain ⟨rfl, s_g7⟩ := h46
            have r_g7 : mv_r g7 = mv_r h := s_g7.trans r_hz
            exact mv_vret (pc := 49) B hr d_Book_branch_49 (Nat.le_refl _) (Nat.le_refl _) ⟨rfl, xrh_v hf r_g7⟩
        · skip
          have hf := xif_f h31 hf
          exact mv_vret (pc := 34) B hr d_Book_branch_34 (Nat.le_refl _) (Nat.le_refl _) ⟨rfl, xrh_v hf r_hz⟩
      have hf : fF_Book_branch_2 108 (f_BookU 108 nn) (f_Book_branch_2 108 (f_BookU 108 nn) nn2) x2 hz = some rg := hf
      unfold fF_Book_branch_2 at hf
      refine mv_iload_n (pc := 2) B d_Book_branch_2 rfl 1 rfl ?_
      refine mv_if_lt (pc := 3) (tgt := 97) B d_Book_branch_3 rfl (fun h3 => ?_) (fun h3 => ?_)
      · skip
        have hf := xif_t h3 hf
        exact mv_vret (pc := 97) B hr d_Book_branch_97 (Nat.le_refl _) (Nat.le_refl _) ⟨rfl, xrh_v hf r_hz⟩
      · skip
        have hf := xif_f h3 hf
        refine mv_aload_n (pc := 6) B d_Book_branch_6 rfl 0 rfl ?_
        refine mv_aload_n (pc := 7) B d_Book_branch_7 rfl 0 rfl ?_
        refine mv_getR (pc := 8) (ci := 12) (C := R_Book) (T := F_Book) (N := 65) B 41 rfl rfl (by decide) i_Book (B.2.2.2.1 _ k_1890) rfl ((congrFun (congrFun r_hz 108) 41).trans (hb 108 41 _ rfl)) d_Book_branch_8 ?_
        refine mv_iload_n (pc := 11) B d_Book_branch_11 rfl 1 rfl ?_
        obtain ⟨q9, hf⟩ := xvi_e hf
        refine mv_iald (pc := 12) B rfl q9 d_Book_branch_12 ?_
        obtain ⟨u11, g10, eg10, hf⟩ := xhb_e hf
        refine mv_callVl (pc := 13) (n := 1) (ci := 12) (C := R_Book) B (mK_ok sk sv) hNs rfl rfl ((recE_y l hi 1900).1 _ _ _ _ (xrw r_hz hb) eg10) rfl (ma_goodc kc_Book_eval) (B.2.2.2.1 _ k_2500) (B.2.2.2.1 _ k_2502) (B.2.2.2.1 _ ks_131) (B.2.2.2.1 _ k_13) ⟨by decide +kernel, by decide +kernel, by decide +kernel⟩ rfl d_Book_branch_13 rfl (Nat.le_of_ble_eq_true rfl) ⟨by first | decide | (dsimp only; omega), by first | decide | (dsimp only; omega)⟩ ⟨Nat.le_refl _, Nat.le_refl _⟩ ⟨Nat.le_refl _, Nat.le_refl _⟩ (mv_noH hno _) (fun w13 σ13 h13 => ?_)
        obtain ⟨rfl, rfl, s_g10⟩ := h13
        have r_g10 : mv_r g10 = mv_r h := s_g10.trans r_hz
        refine mv_lconst (pc := 16) (v := 0) B d_Book_branch_16 (by decide) ?_
        refine mv_lcmp (pc := 17) B d_Book_branch_17 ?_
        refine mv_if_eq (pc := 18) (tgt := 25) B d_Book_branch_18 rfl (fun h18 => ?_) (fun h18 => ?_)
        · skip
          have hf := xif_t h18 hf
          refine mv_iconst (pc := 25) (v := 0) B d_Book_branch_25 (by decide) ?_
          refine mv_lpick [0, 1] rfl ?_
          exact jn26 _ _ _ r_g10 hf
        · skip
          have hf := xif_f h18 hf
          refine mv_iconst (pc := 21) (v := 1) B d_Book_branch_21 (by decide) ?_
          refine mv_goto (pc := 22) (tgt := 26) B d_Book_branch_22 rfl ?_
          refine mv_lpick [0, 1] rfl ?_
          exact jn26 _ _ _ r_g10 hf
  unfold f_Book_branch at hf
  refine mv_iload_n (pc := 0) B d_Book_branch_0 rfl 1 rfl ?_
  refine mv_istore_n (pc := 1) B d_Book_branch_1 rfl (by decide) rfl ?_
  refine mv_lpick [1, 0] rfl ?_
  exact lp2 _ _ _ rfl hf
theorem recU_0y (l : Launch) {dA : FieldType → ClassId} {D : va_G} {al : Nat → Nat} {ext : mv_Sh} {sk sv : Nat → Nat} (hi : mv_inj (mg dA D al ext)) : RecU l dA D al ext sk sv 108 0 := ⟨(fun a h rg hb hf => by cases hf), (fun a h rg hb hf => by cases hf)⟩
theorem recU_1y (l : Launch) {dA : FieldType → ClassId} {D : va_G} {al : Nat → Nat} {ext : mv_Sh} {sk sv : Nat → Nat} (hi : mv_inj (mg dA D al ext)) (nn : Nat) (ih : RecU l dA D al ext sk sv 108 nn) : RecU l dA D al ext sk sv 108 (nn + 1) := ⟨(fun a h rg hb hf => cr_Book_run_y l hi nn ih h hb a (by rw [f_BookU] at hf; exact hf)), (fun a h rg hb hf => cr_Book_branch_y l hi nn ih h hb a (by rw [f_BookU] at hf; exact hf))⟩
theorem recU_y (l : Launch) {dA : FieldType → ClassId} {D : va_G} {al : Nat → Nat} {ext : mv_Sh} {sk sv : Nat → Nat} (hi : mv_inj (mg dA D al ext)) : ∀ nn, RecU l dA D al ext sk sv 108 nn := by
  intro nn
  induction nn with
  | zero => exact recU_0y l hi
  | succ nn ih => exact recU_1y l hi nn ih
def f_Book_fits_1_67 (P : Nat) (k3 : Int32 → Int64 → Int32 → mv_H → Option (Int32 × mv_H)) (x1 : Int32) (x2 : Int64) (x4 : Int32) (hz : mv_H) : Option (Int32 × mv_H) := k3 x1 x2 (x4 + 1) hz
def f_Book_fits_1_42 (P : Nat) (k3 : Int32 → Int64 → Int32 → mv_H → Option (Int32 × mv_H)) (x1 : Int32) (x2 : Int64) (x4 : Int32) (x5 : Int32) (hz : mv_H) : Option (Int32 × mv_H) := if (lg_cmp (((x5 - (48 : Int32))).toInt64) ((((x2).toUInt64 >>> (((((mv_i hz P 20) - (1 : Int32)) - x4)).toInt64.toUInt64 &&& Int64.toUInt64 63)).toInt64) &&& (1 : Int64))) = (0 : Int32) then (f_Book_fits_1_67 P k3 x1 x2 x4 hz) else (bif xzb (0 : Int32) then some ((0 : Int32), hz) else none)
def fF_Book_fits_1_3 (P : Nat) (k3 : Int32 → Int64 → Int32 → mv_H → Option (Int32 × mv_H)) (x1 : Int32) (x2 : Int64) (x4 : Int32) (hz : mv_H) : Option (Int32 × mv_H) := if (mv_i hz P 20) ≤ x4 then (bif xzb (1 : Int32) then some ((1 : Int32), hz) else none) else (bif xvi x1 4100 then bif xvi ((mv_a hz (P + 10) (x1).toNatClampNeg) + x4) 32768 then if (mv_a hz (P + 13) (((mv_a hz (P + 10) (x1).toNatClampNeg) + x4)).toNatClampNeg) = (48 : Int32) then (f_Book_fits_1_42 P k3 x1 x2 x4 (mv_a hz (P + 13) (((mv_a hz (P + 10) (x1).toNatClampNeg) + x4)).toNatClampNeg) hz) else (if (mv_a hz (P + 13) (((mv_a hz (P + 10) (x1).toNatClampNeg) + x4)).toNatClampNeg) = (49 : Int32) then (f_Book_fits_1_42 P k3 x1 x2 x4 (mv_a hz (P + 13) (((mv_a hz (P + 10) (x1).toNatClampNeg) + x4)).toNatClampNeg) hz) else (f_Book_fits_1_67 P k3 x1 x2 x4 hz)) else none else none)
def f_Book_fits_1_3 (P : Nat) : Nat → Int32 → Int64 → Int32 → mv_H → Option (Int32 × mv_H)
  | 0 => fun _ _ _ _ => none
  | nn + 1 => fF_Book_fits_1_3 P (f_Book_fits_1_3 P nn)
def f_Book_fits_1 (P : Nat) (h : mv_H) (a0 : Int32) (a1 : Int64) : Option (Int32 × mv_H) := f_Book_fits_1_3 P 200000 a0 a1 (0 : Int32) h
set_option maxHeartbeats 4000000 in
set_option maxRecDepth 100000 in
theorem ch_Book_fits_1_x (l : Launch) {dA : FieldType → ClassId} {D : va_G} {al : Nat → Nat} {ext : mv_Sh} {sk sv : Nat → Nat} (hi : mv_inj (mg dA D al ext)) (h : mv_H) (hb : mh (mv_r h))  (a0 : Int32) (a1 : Int64) {rv : Int32} {rg : mv_H} (hf : f_Book_fits_1 74 h a0 a1 = some (rv, rg)) : mv_C l y_Book_fits_1 (Cond.code y_Book_fits_1 b_Book_fits_1 6 (Option.some Jvm.ClassFile.FieldType.boolean) :: ma) ({ frames := 0, cells := 0, slots := 0, locals := 0 }) (mg dA D al ext) (mK sk sv) [.ref (al 74), .int a0, .long a1] h (mv_Ri (fun v σ1 => rv = v ∧ rg = σ1 ∧ mv_r σ1 = mv_r h)) := by
  refine mv_C.ofV (cc := b_Book_fits_1) (nL := 6) (ret := (Option.some Jvm.ClassFile.FieldType.boolean)) (by decide +kernel) rfl hi (Nat.le_of_ble_eq_true rfl) ?_
  intro p e s m below meth c B hNs hr hnm hno
  have lp3 : ∀ (nn3 : Nat) (x1 : Int32) (x2 : Int64) (x4 : Int32) (hz : mv_H), mv_r hz = mv_r h → f_Book_fits_1_3 74 nn3 x1 x2 x4 hz = some (rv, rg) → mv_V p l e ({ frames := 0, cells := 0, slots := 0, locals := 0 }) s m ([.ref (al 74), .int a0, .long a1] : List Value).toArray below meth c (mg dA D al ext) 6 0 0 (mv_Q (mg dA D al ext) below s 0 0 (mv_Ri (fun v σ1 => rv = v ∧ rg = σ1 ∧ mv_r σ1 = mv_r h))) hz 3 [(0, .ref (al 74)), (1, .int x1), (2, .long x2), (4, .int x4)] [] := by
    intro nn3
    induction nn3 with
    | zero => intro x1 x2 x4 hz r_hz hf; cases hf
    | succ nn3 ih3 =>
      intro x1 x2 x4 hz r_hz hf
      have jn67 : ∀ (x1 : Int32) (x2 : Int64) (x4 : Int32) (hz : mv_H), mv_r hz = mv_r h → f_Book_fits_1_67 74 (f_Book_fits_1_3 74 nn3) x1 x2 x4 hz = some (rv, rg) → mv_V p l e ({ frames := 0, cells := 0, slots := 0, locals := 0 }) s m ([.ref (al 74), .int a0, .long a1] : List Value).toArray below meth c (mg dA D al ext) 6 0 0 (mv_Q (mg dA D al ext) below s 0 0 (mv_Ri (fun v σ1 => rv = v ∧ rg = σ1 ∧ mv_r σ1 = mv_r h))) hz 67 [(0, .ref (al 74)), (1, .int x1), (2, .long x2), (4, .int x4)] [] := by
        intro x1 x2 x4 hz r_hz hf
        unfold f_Book_fits_1_67 at hf
        refine mv_iinc (pc := 67) (j := 3) (v := 1) B d_Book_fits_1_67 rfl (by decide) (by decide) rfl ?_
        refine mv_goto (pc := 70) (tgt := 3) B d_Book_fits_1_70 rfl ?_
        refine mv_lpick [1, 2, 3, 0] rfl ?_
        exact ih3 _ _ _ _ r_hz hf
      have jn42 : ∀ (x1 : Int32) (x2 : Int64) (x4 : Int32) (x5 : Int32) (hz : mv_H), mv_r hz = mv_r h → f_Book_fits_1_42 74 (f_Book_fits_1_3 74 nn3) x1 x2 x4 x5 hz = some (rv, rg) → mv_V p l e ({ frames := 0, cells := 0, slots := 0, locals := 0 }) s m ([.ref (al 74), .int a0, .long a1] : List Value).toArray below meth c (mg dA D al ext) 6 0 0 (mv_Q (mg dA D al ext) below s 0 0 (mv_Ri (fun v σ1 => rv = v ∧ rg = σ1 ∧ mv_r σ1 = mv_r h))) hz 42 [(0, .ref (al 74)), (1, .int x1), (2, .long x2), (4, .int x4), (5, .int x5)] [] := by
        intro x1 x2 x4 x5 hz r_hz hf
        unfold f_Book_fits_1_42 at hf
        refine mv_iload (pc := 42) B d_Book_fits_1_42 4 rfl ?_
        refine mv_bipush (pc := 44) (v := 48) B d_Book_fits_1_44 (by decide) ?_
        refine mv_isub (pc := 46) B d_Book_fits_1_46 ?_
        refine mv_i2l (pc := 47) B d_Book_fits_1_47 ?_
        refine mv_lload_n (pc := 48) B d_Book_fits_1_48 rfl 2 rfl ?_
        refine mv_aload_n (pc := 49) B d_Book_fits_1_49 rfl 0 rfl ?_
        refine mv_getI (pc := 50) (ci := 12) (C := R_Book) (T := F_Book) (N := 65) B 20 rfl rfl (by decide) i_Book (B.2.2.2.1 _ k_1865) rfl d_Book_fits_1_50 ?_
        refine mv_iconst (pc := 53) (v := 1) B d_Book_fits_1_53 (by decide) ?_
        refine mv_isub (pc := 54) B d_Book_fits_1_54 ?_
        refine mv_iload (pc := 55) B d_Book_fits_1_55 3 rfl ?_
        refine mv_isub (pc := 57) B d_Book_fits_1_57 ?_
        refine mv_lushr (pc := 58) B d_Book_fits_1_58 ?_
        refine mv_lconst (pc := 59) (v := 1) B d_Book_fits_1_59 (by decide) ?_
        refine mv_land (pc := 60) B d_Book_fits_1_60 ?_
        refine mv_lcmp (pc := 61) B d_Book_fits_1_61 ?_
        refine mv_if_eq (pc := 62) (tgt := 67) B d_Book_fits_1_62 rfl (fun h62 => ?_) (fun h62 => ?_)
        · skip
          have hf := xif_t h62 hf
          refine mv_lpick [0, 1, 2, 3] rfl ?_
          exact jn67 _ _ _ _ r_hz hf
        · skip
          have hf := xif_f h62 hf
          refine mv_iconst (pc := 65) (v := 0) B d_Book_fits_1_65 (by decide) ?_
          obtain ⟨q1, hf⟩ := xzb_e hf
          exact mv_iret (pc := 66) B hr (xzb_n q1) d_Book_fits_1_66 (Nat.le_refl _) (Nat.le_refl _) ⟨_, rfl, xrh_i hf r_hz⟩
      have hf : fF_Book_fits_1_3 74 (f_Book_fits_1_3 74 nn3) x1 x2 x4 hz = some (rv, rg) := hf
      unfold fF_Book_fits_1_3 at hf
      refine mv_iload (pc := 3) B d_Book_fits_1_3 3 rfl ?_
      refine mv_aload_n (pc := 5) B d_Book_fits_1_5 rfl 0 rfl ?_
      refine mv_getI (pc := 6) (ci := 12) (C := R_Book) (T := F_Book) (N := 65) B 20 rfl rfl (by decide) i_Book (B.2.2.2.1 _ k_1865) rfl d_Book_fits_1_6 ?_
      refine mv_icmp_ge (pc := 9) (tgt := 73) B d_Book_fits_1_9 rfl (fun h9 => ?_) (fun h9 => ?_)
      · skip
        have hf := xif_t h9 hf
        refine mv_iconst (pc := 73) (v := 1) B d_Book_fits_1_73 (by decide) ?_
        obtain ⟨q2, hf⟩ := xzb_e hf
        exact mv_iret (pc := 74) B hr (xzb_n q2) d_Book_fits_1_74 (Nat.le_refl _) (Nat.le_refl _) ⟨_, rfl, xrh_i hf r_hz⟩
      · skip
        have hf := xif_f h9 hf
        refine mv_aload_n (pc := 12) B d_Book_fits_1_12 rfl 0 rfl ?_
        refine mv_getR (pc := 13) (ci := 12) (C := R_Book) (T := F_Book) (N := 65) B 28 rfl rfl (by decide) i_Book (B.2.2.2.1 _ k_1873) rfl ((congrFun (congrFun r_hz 74) 28).trans (hb 74 28 _ rfl)) d_Book_fits_1_13 ?_
        refine mv_aload_n (pc := 16) B d_Book_fits_1_16 rfl 0 rfl ?_
        refine mv_getR (pc := 17) (ci := 12) (C := R_Book) (T := F_Book) (N := 65) B 25 rfl rfl (by decide) i_Book (B.2.2.2.1 _ k_1870) rfl ((congrFun (congrFun r_hz 74) 25).trans (hb 74 25 _ rfl)) d_Book_fits_1_17 ?_
        refine mv_iload_n (pc := 20) B d_Book_fits_1_20 rfl 1 rfl ?_
        obtain ⟨q3, hf⟩ := xvi_e hf
        refine mv_iald (pc := 21) B rfl q3 d_Book_fits_1_21 ?_
        refine mv_iload (pc := 22) B d_Book_fits_1_22 3 rfl ?_
        refine mv_iadd (pc := 24) B d_Book_fits_1_24 ?_
        obtain ⟨q4, hf⟩ := xvi_e hf
        refine mv_bald (pc := 25) B rfl q4 d_Book_fits_1_25 ?_
        refine mv_istore (pc := 26) B d_Book_fits_1_26 (by decide) rfl ?_
        refine mv_iload (pc := 28) B d_Book_fits_1_28 0 rfl ?_
        refine mv_bipush (pc := 30) (v := 48) B d_Book_fits_1_30 (by decide) ?_
        refine mv_icmp_eq (pc := 32) (tgt := 42) B d_Book_fits_1_32 rfl (fun h32 => ?_) (fun h32 => ?_)
        · skip
          have hf := xif_t h32 hf
          refine mv_lpick [1, 2, 3, 4, 0] rfl ?_
          exact jn42 _ _ _ _ _ r_hz hf
        · skip
          have hf := xif_f h32 hf
          refine mv_iload (pc := 35) B d_Book_fits_1_35 0 rfl ?_
          refine mv_bipush (pc := 37) (v := 49) B d_Book_fits_1_37 (by decide) ?_
          refine mv_icmp_ne (pc := 39) (tgt := 67) B d_Book_fits_1_39 rfl (fun h39 => ?_) (fun h39 => ?_)
          · skip
            have hf := xif_f h39 hf
            refine mv_lpick [1, 2, 3, 4] rfl ?_
            exact jn67 _ _ _ _ r_hz hf
          · skip
            have hf := xif_t h39 hf
            refine mv_lpick [1, 2, 3, 4, 0] rfl ?_
            exact jn42 _ _ _ _ _ r_hz hf
  unfold f_Book_fits_1 at hf
  refine mv_iconst (pc := 0) (v := 0) B d_Book_fits_1_0 (by decide) ?_
  refine mv_istore (pc := 1) B d_Book_fits_1_1 (by decide) rfl ?_
  refine mv_lpick [1, 2, 3, 0] rfl ?_
  exact lp3 _ _ _ _ _ rfl hf
set_option maxHeartbeats 4000000 in
set_option maxRecDepth 100000 in
theorem ch_Book_fits_1_y (l : Launch) {dA : FieldType → ClassId} {D : va_G} {al : Nat → Nat} {ext : mv_Sh} {sk sv : Nat → Nat} (hi : mv_inj (mg dA D al ext)) (h : mv_H) (hb : mh (mv_r h))  (a0 : Int32) (a1 : Int64) {rv : Int32} {rg : mv_H} (hf : f_Book_fits_1 108 h a0 a1 = some (rv, rg)) : mv_C l y_Book_fits_1 (Cond.code y_Book_fits_1 b_Book_fits_1 6 (Option.some Jvm.ClassFile.FieldType.boolean) :: ma) ({ frames := 0, cells := 0, slots := 0, locals := 0 }) (mg dA D al ext) (mK sk sv) [.ref (al 108), .int a0, .long a1] h (mv_Ri (fun v σ1 => rv = v ∧ rg = σ1 ∧ mv_r σ1 = mv_r h)) := by
  refine mv_C.ofV (cc := b_Book_fits_1) (nL := 6) (ret := (Option.some Jvm.ClassFile.FieldType.boolean)) (by decide +kernel) rfl hi (Nat.le_of_ble_eq_true rfl) ?_
  intro p e s m below meth c B hNs hr hnm hno
  have lp3 : ∀ (nn3 : Nat) (x1 : Int32) (x2 : Int64) (x4 : Int32) (hz : mv_H), mv_r hz = mv_r h → f_Book_fits_1_3 108 nn3 x1 x2 x4 hz = some (rv, rg) → mv_V p l e ({ frames := 0, cells := 0, slots := 0, locals := 0 }) s m ([.ref (al 108), .int a0, .long a1] : List Value).toArray below meth c (mg dA D al ext) 6 0 0 (mv_Q (mg dA D al ext) below s 0 0 (mv_Ri (fun v σ1 => rv = v ∧ rg = σ1 ∧ mv_r σ1 = mv_r h))) hz 3 [(0, .ref (al 108)), (1, .int x1), (2, .long x2), (4, .int x4)] [] := by
    intro nn3
    induction nn3 with
    | zero => intro x1 x2 x4 hz r_hz hf; cases hf
    | succ nn3 ih3 =>
      intro x1 x2 x4 hz r_hz hf
      have jn67 : ∀ (x1 : Int32) (x2 : Int64) (x4 : Int32) (hz : mv_H), mv_r hz = mv_r h → f_Book_fits_1_67 108 (f_Book_fits_1_3 108 nn3) x1 x2 x4 hz = some (rv, rg) → mv_V p l e ({ frames := 0, cells := 0, slots := 0, locals := 0 }) s m ([.ref (al 108), .int a0, .long a1] : List Value).toArray below meth c (mg dA D al ext) 6 0 0 (mv_Q (mg dA D al ext) below s 0 0 (mv_Ri (fun v σ1 => rv = v ∧ rg = σ1 ∧ mv_r σ1 = mv_r h))) hz 67 [(0, .ref (al 108)), (1, .int x1), (2, .long x2), (4, .int x4)] [] := by
        intro x1 x2 x4 hz r_hz hf
        unfold f_Book_fits_1_67 at hf
        refine mv_iinc (pc := 67) (j := 3) (v := 1) B d_Book_fits_1_67 rfl (by decide) (by decide) rfl ?_
        refine mv_goto (pc := 70) (tgt := 3) B d_Book_fits_1_70 rfl ?_
        refine mv_lpick [1, 2, 3, 0] rfl ?_
        exact ih3 _ _ _ _ r_hz hf
      have jn42 : ∀ (x1 : Int32) (x2 : Int64) (x4 : Int32) (x5 : Int32) (hz : mv_H), mv_r hz = mv_r h → f_Book_fits_1_42 108 (f_Book_fits_1_3 108 nn3) x1 x2 x4 x5 hz = some (rv, rg) → mv_V p l e ({ frames := 0, cells := 0, slots := 0, locals := 0 }) s m ([.ref (al 108), .int a0, .long a1] : List Value).toArray below meth c (mg dA D al ext) 6 0 0 (mv_Q (mg dA D al ext) below s 0 0 (mv_Ri (fun v σ1 => rv = v ∧ rg = σ1 ∧ mv_r σ1 = mv_r h))) hz 42 [(0, .ref (al 108)), (1, .int x1), (2, .long x2), (4, .int x4), (5, .int x5)] [] := by
        intro x1 x2 x4 x5 hz r_hz hf
        unfold f_Book_fits_1_42 at hf
        refine mv_iload (pc := 42) B d_Book_fits_1_42 4 rfl ?_
        refine mv_bipush (pc := 44) (v := 48) B d_Book_fits_1_44 (by decide) ?_
        refine mv_isub (pc := 46) B d_Book_fits_1_46 ?_
        refine mv_i2l (pc := 47) B d_Book_fits_1_47 ?_
        refine mv_lload_n (pc := 48) B d_Book_fits_1_48 rfl 2 rfl ?_
        refine mv_aload_n (pc := 49) B d_Book_fits_1_49 rfl 0 rfl ?_
        refine mv_getI (pc := 50) (ci := 12) (C := R_Book) (T := F_Book) (N := 65) B 20 rfl rfl (by decide) i_Book (B.2.2.2.1 _ k_1865) rfl d_Book_fits_1_50 ?_
        refine mv_iconst (pc := 53) (v := 1) B d_Book_fits_1_53 (by decide) ?_
        refine mv_isub (pc := 54) B d_Book_fits_1_54 ?_
        refine mv_iload (pc := 55) B d_Book_fits_1_55 3 rfl ?_
        refine mv_isub (pc := 57) B d_Book_fits_1_57 ?_
        refine mv_lushr (pc := 58) B d_Book_fits_1_58 ?_
        refine mv_lconst (pc := 59) (v := 1) B d_Book_fits_1_59 (by decide) ?_
        refine mv_land (pc := 60) B d_Book_fits_1_60 ?_
        refine mv_lcmp (pc := 61) B d_Book_fits_1_61 ?_
        refine mv_if_eq (pc := 62) (tgt := 67) B d_Book_fits_1_62 rfl (fun h62 => ?_) (fun h62 => ?_)
        · skip
          have hf := xif_t h62 hf
          refine mv_lpick [0, 1, 2, 3] rfl ?_
          exact jn67 _ _ _ _ r_hz hf
        · skip
          have hf := xif_f h62 hf
          refine mv_iconst (pc := 65) (v := 0) B d_Book_fits_1_65 (by decide) ?_
          obtain ⟨q1, hf⟩ := xzb_e hf
          exact mv_iret (pc := 66) B hr (xzb_n q1) d_Book_fits_1_66 (Nat.le_refl _) (Nat.le_refl _) ⟨_, rfl, xrh_i hf r_hz⟩
      have hf : fF_Book_fits_1_3 108 (f_Book_fits_1_3 108 nn3) x1 x2 x4 hz = some (rv, rg) := hf
      unfold fF_Book_fits_1_3 at hf
      refine mv_iload (pc := 3) B d_Book_fits_1_3 3 rfl ?_
      refine mv_aload_n (pc := 5) B d_Book_fits_1_5 rfl 0 rfl ?_
      refine mv_getI (pc := 6) (ci := 12) (C := R_Book) (T := F_Book) (N := 65) B 20 rfl rfl (by decide) i_Book (B.2.2.2.1 _ k_1865) rfl d_Book_fits_1_6 ?_
      refine mv_icmp_ge (pc := 9) (tgt := 73) B d_Book_fits_1_9 rfl (fun h9 => ?_) (fun h9 => ?_)
      · skip
        have hf := xif_t h9 hf
        refine mv_iconst (pc := 73) (v := 1) B d_Book_fits_1_73 (by decide) ?_
        obtain ⟨q2, hf⟩ := xzb_e hf
        exact mv_iret (pc := 74) B hr (xzb_n q2) d_Book_fits_1_74 (Nat.le_refl _) (Nat.le_refl _) ⟨_, rfl, xrh_i hf r_hz⟩
      · skip
        have hf := xif_f h9 hf
        refine mv_aload_n (pc := 12) B d_Book_fits_1_12 rfl 0 rfl ?_
        refine mv_getR (pc := 13) (ci := 12) (C := R_Book) (T := F_Book) (N := 65) B 28 rfl rfl (by decide) i_Book (B.2.2.2.1 _ k_1873) rfl ((congrFun (congrFun r_hz 108) 28).trans (hb 108 28 _ rfl)) d_Book_fits_1_13 ?_
        refine mv_aload_n (pc := 16) B d_Book_fits_1_16 rfl 0 rfl ?_
        refine mv_getR (pc := 17) (ci := 12) (C := R_Book) (T := F_Book) (N := 65) B 25 rfl rfl (by decide) i_Book (B.2.2.2.1 _ k_1870) rfl ((congrFun (congrFun r_hz 108) 25).trans (hb 108 25 _ rfl)) d_Book_fits_1_17 ?_
        refine mv_iload_n (pc := 20) B d_Book_fits_1_20 rfl 1 rfl ?_
        obtain ⟨q3, hf⟩ := xvi_e hf
        refine mv_iald (pc := 21) B rfl q3 d_Book_fits_1_21 ?_
        refine mv_iload (pc := 22) B d_Book_fits_1_22 3 rfl ?_
        refine mv_iadd (pc := 24) B d_Book_fits_1_24 ?_
        obtain ⟨q4, hf⟩ := xvi_e hf
        refine mv_bald (pc := 25) B rfl q4 d_Book_fits_1_25 ?_
        refine mv_istore (pc := 26) B d_Book_fits_1_26 (by decide) rfl ?_
        refine mv_iload (pc := 28) B d_Book_fits_1_28 0 rfl ?_
        refine mv_bipush (pc := 30) (v := 48) B d_Book_fits_1_30 (by decide) ?_
        refine mv_icmp_eq (pc := 32) (tgt := 42) B d_Book_fits_1_32 rfl (fun h32 => ?_) (fun h32 => ?_)
        · skip
          have hf := xif_t h32 hf
          refine mv_lpick [1, 2, 3, 4, 0] rfl ?_
          exact jn42 _ _ _ _ _ r_hz hf
        · skip
          have hf := xif_f h32 hf
          refine mv_iload (pc := 35) B d_Book_fits_1_35 0 rfl ?_
          refine mv_bipush (pc := 37) (v := 49) B d_Book_fits_1_37 (by decide) ?_
          refine mv_icmp_ne (pc := 39) (tgt := 67) B d_Book_fits_1_39 rfl (fun h39 => ?_) (fun h39 => ?_)
          · skip
            have hf := xif_f h39 hf
            refine mv_lpick [1, 2, 3, 4] rfl ?_
            exact jn67 _ _ _ _ r_hz hf
          · skip
            have hf := xif_t h39 hf
            refine mv_lpick [1, 2, 3, 4, 0] rfl ?_
            exact jn42 _ _ _ _ _ r_hz hf
  unfold f_Book_fits_1 at hf
  refine mv_iconst (pc := 0) (v := 0) B d_Book_fits_1_0 (by decide) ?_
  refine mv_istore (pc := 1) B d_Book_fits_1_1 (by decide) rfl ?_
  refine mv_lpick [1, 2, 3, 0] rfl ?_
  exact lp3 _ _ _ _ _ rfl hf
def f_Book_decode_45 (P : Nat) (k10 : Int64 → Int32 → Int32 → mv_H → Option (Int32 × mv_H)) (x1 : Int64) (x3 : Int32) (x4 : Int32) (hz : mv_H) : Option (Int32 × mv_H) := k10 x1 x3 (x4 + 1) hz
def f_Book_decode_42 (P : Nat) (k10 : Int64 → Int32 → Int32 → mv_H → Option (Int32 × mv_H)) (x1 : Int64) (x3 : Int32) (x4 : Int32) (hz : mv_H) : Option (Int32 × mv_H) := f_Book_decode_45 P k10 x1 (x3 + 1) x4 hz
def fF_Book_decode_10 (P : Nat) (k10 : Int64 → Int32 → Int32 → mv_H → Option (Int32 × mv_H)) (x1 : Int64) (x3 : Int32) (x4 : Int32) (hz : mv_H) : Option (Int32 × mv_H) := if (mv_i hz P 29) ≤ x4 then (some (x3, hz)) else (xhb (f_Book_fits_1 P hz x4 x1) fun u2 g1 => if u2 = (0 : Int32) then (f_Book_decode_45 P k10 x1 x3 x4 g1) else (if x3 = (0 : Int32) then (xk (mv_si g1 P 63 x4) fun g3 => f_Book_decode_42 P k10 x1 x3 x4 g3) else (f_Book_decode_42 P k10 x1 x3 x4 g1)))
def f_Book_decode_10 (P : Nat) : Nat → Int64 → Int32 → Int32 → mv_H → Option (Int32 × mv_H)
  | 0 => fun _ _ _ _ => none
  | nn + 1 => fF_Book_decode_10 P (f_Book_decode_10 P nn)
def f_Book_decode (P : Nat) (h : mv_H) (a0 : Int64) : Option (Int32 × mv_H) := xk (mv_si h P 63 (-1 : Int32)) fun g4 => f_Book_decode_10 P 200000 a0 (0 : Int32) (0 : Int32) g4
set_option maxHeartbeats 4000000 in
set_option maxRecDepth 100000 in
theorem ch_Book_decode_x (l : Launch) {dA : FieldType → ClassId} {D : va_G} {al : Nat → Nat} {ext : mv_Sh} {sk sv : Nat → Nat} (hi : mv_inj (mg dA D al ext)) (h : mv_H) (hb : mh (mv_r h))  (a0 : Int64) {rv : Int32} {rg : mv_H} (hf : f_Book_decode 74 h a0 = some (rv, rg)) : mv_C l y_Book_decode (Cond.code y_Book_decode b_Book_decode 5 (Option.some Jvm.ClassFile.FieldType.int) :: ma) ({ frames := 1, cells := 0, slots := 0, locals := 25 }) (mg dA D al ext) (mK sk sv) [.ref (al 74), .long a0] h (mv_Ri (fun v σ1 => rv = v ∧ rg = σ1 ∧ mv_r σ1 = mv_r h)) := by
  refine mv_C.ofV (cc := b_Book_decode) (nL := 5) (ret := (Option.some Jvm.ClassFile.FieldType.int)) (by decide +kernel) rfl hi (Nat.le_of_ble_eq_true rfl) ?_
  intro p e s m below meth c B hNs hr hnm hno
  have lp10 : ∀ (nn10 : Nat) (x1 : Int64) (x3 : Int32) (x4 : Int32) (hz : mv_H), mv_r hz = mv_r h → f_Book_decode_10 74 nn10 x1 x3 x4 hz = some (rv, rg) → mv_V p l e ({ frames := 1, cells := 0, slots := 0, locals := 25 }) s m ([.ref (al 74), .long a0] : List Value).toArray below meth c (mg dA D al ext) 5 0 0 (mv_Q (mg dA D al ext) below s 0 0 (mv_Ri (fun v σ1 => rv = v ∧ rg = σ1 ∧ mv_r σ1 = mv_r h))) hz 10 [(0, .ref (al 74)), (1, .long x1), (3, .int x3), (4, .int x4)] [] := by
    intro nn10
    induction nn10 with
    | zero => intro x1 x3 x4 hz r_hz hf; cases hf
    | succ nn10 ih10 =>
      intro x1 x3 x4 hz r_hz hf
      have jn45 : ∀ (x1 : Int64) (x3 : Int32) (x4 : Int32) (hz : mv_H), mv_r hz = mv_r h → f_Book_decode_45 74 (f_Book_decode_10 74 nn10) x1 x3 x4 hz = some (rv, rg) → mv_V p l e ({ frames := 1, cells := 0, slots := 0, locals := 25 }) s m ([.ref (al 74), .long a0] : List Value).toArray below meth c (mg dA D al ext) 5 0 0 (mv_Q (mg dA D al ext) below s 0 0 (mv_Ri (fun v σ1 => rv = v ∧ rg = σ1 ∧ mv_r σ1 = mv_r h))) hz 45 [(0, .ref (al 74)), (1, .long x1), (3, .int x3), (4, .int x4)] [] := by
        intro x1 x3 x4 hz r_hz hf
        unfold f_Book_decode_45 at hf
        refine mv_iinc (pc := 45) (j := 3) (v := 1) B d_Book_decode_45 rfl (by decide) (by decide) rfl ?_
        refine mv_goto (pc := 48) (tgt := 10) B d_Book_decode_48 rfl ?_
        refine mv_lpick [1, 2, 3, 0] rfl ?_
        exact ih10 _ _ _ _ r_hz hf
      have jn42 : ∀ (x1 : Int64) (x3 : Int32) (x4 : Int32) (hz : mv_H), mv_r hz = mv_r h → f_Book_decode_42 74 (f_Book_decode_10 74 nn10) x1 x3 x4 hz = some (rv, rg) → mv_V p l e ({ frames := 1, cells := 0, slots := 0, locals := 25 }) s m ([.ref (al 74), .long a0] : List Value).toArray below meth c (mg dA D al ext) 5 0 0 (mv_Q (mg dA D al ext) below s 0 0 (mv_Ri (fun v σ1 => rv = v ∧ rg = σ1 ∧ mv_r σ1 = mv_r h))) hz 42 [(0, .ref (al 74)), (1, .long x1), (3, .int x3), (4, .int x4)] [] := by
        intro x1 x3 x4 hz r_hz hf
        unfold f_Book_decode_42 at hf
        refine mv_iinc (pc := 42) (j := 2) (v := 1) B d_Book_decode_42 rfl (by decide) (by decide) rfl ?_
        refine mv_lpick [1, 2, 0, 3] rfl ?_
        exact jn45 _ _ _ _ r_hz hf
      have hf : fF_Book_decode_10 74 (f_Book_decode_10 74 nn10) x1 x3 x4 hz = some (rv, rg) := hf
      unfold fF_Book_decode_10 at hf
      refine mv_iload (pc := 10) B d_Book_decode_10 3 rfl ?_
      refine mv_aload_n (pc := 12) B d_Book_decode_12 rfl 0 rfl ?_
      refine mv_getI (pc := 13) (ci := 12) (C := R_Book) (T := F_Book) (N := 65) B 29 rfl rfl (by decide) i_Book (B.2.2.2.1 _ k_1874) rfl d_Book_decode_13 ?_
      refine mv_icmp_ge (pc := 16) (tgt := 51) B d_Book_decode_16 rfl (fun h16 => ?_) (fun h16 => ?_)
      · skip
        have hf := xif_t h16 hf
        refine mv_iload_n (pc := 51) B d_Book_decode_51 rfl 2 rfl ?_
        exact mv_iret (pc := 52) B hr rfl d_Book_decode_52 (Nat.le_refl _) (Nat.le_refl _) ⟨_, rfl, xrh_i hf r_hz⟩
      · skip
        have hf := xif_f h16 hf
        refine mv_aload_n (pc := 19) B d_Book_decode_19 rfl 0 rfl ?_
        refine mv_iload (pc := 20) B d_Book_decode_20 3 rfl ?_
        refine mv_lload_n (pc := 22) B d_Book_decode_22 rfl 1 rfl ?_
        obtain ⟨u2, g1, eg1, hf⟩ := xhb_e hf
        refine mv_callVi (pc := 23) (n := 2) (ci := 12) (C := R_Book) B (mK_ok sk sv) hNs rfl rfl (ch_Book_fits_1_x l hi _ (xrw r_hz hb) _ _ eg1) rfl (ma_goodc kc_Book_fits_1) (B.2.2.2.1 _ k_2374) (B.2.2.2.1 _ k_2375) (B.2.2.2.1 _ k_2376) (B.2.2.2.1 _ k_13) ⟨by decide +kernel, by decide +kernel, by decide +kernel⟩ rfl d_Book_decode_23 rfl (Nat.le_of_ble_eq_true rfl) ⟨by first | decide | (dsimp only; omega), by first | decide | (dsimp only; omega)⟩ ⟨Nat.le_refl _, Nat.le_refl _⟩ ⟨Nat.le_refl _, Nat.le_refl _⟩ (mv_noH hno _) (fun w23 σ23 h23 => ?_)
        obtain ⟨rfl, rfl, s_g1⟩ := h23
        have r_g1 : mv_r g1 = mv_r h := s_g1.trans r_hz
        refine mv_if_ne (pc := 26) (tgt := 32) B d_Book_decode_26 rfl (fun h26 => ?_) (fun h26 => ?_)
        · skip
          have hf := xif_f h26 hf
          refine mv_iload_n (pc := 32) B d_Book_decode_32 rfl 2 rfl ?_
          refine mv_if_ne (pc := 33) (tgt := 42) B d_Book_decode_33 rfl (fun h33 => ?_) (fun h33 => ?_)
          · skip
            have hf := xif_f h33 hf
            refine mv_lpick [0, 1, 2, 3] rfl ?_
            exact jn42 _ _ _ _ r_g1 hf
          · skip
            have hf := xif_t h33 hf
            refine mv_aload_n (pc := 36) B d_Book_decode_36 rfl 0 rfl ?_
            refine mv_iload (pc := 37) B d_Book_decode_37 3 rfl ?_
            refine mv_putI (pc := 39) (ci := 12) (C := R_Book) (T := F_Book) (N := 65) B 63 rfl rfl (by decide) i_Book t_Book_ok n_Book (B.2.2.2.1 _ k_1912) rfl rfl rfl rfl d_Book_decode_39 ?_
            refine mvh_hp (R9 := mv_r h) hf r_g1 (fun g3 hf r_g3 => ?_)
            refine mv_lpick [0, 1, 2, 3] rfl ?_
            exact jn42 _ _ _ _ r_g3 hf
        · skip
          have hf := xif_t h26 hf
          refine mv_goto (pc := 29) (tgt := 45) B d_Book_decode_29 rfl ?_
          refine mv_lpick [0, 1, 2, 3] rfl ?_
          exact jn45 _ _ _ _ r_g1 hf
  unfold f_Book_decode at hf
  refine mv_iconst (pc := 0) (v := 0) B d_Book_decode_0 (by decide) ?_
  refine mv_istore_n (pc := 1) B d_Book_decode_1 rfl (by decide) rfl ?_
  refine mv_aload_n (pc := 2) B d_Book_decode_2 rfl 1 rfl ?_
  refine mv_iconst (pc := 3) (v := -1) B d_Book_decode_3 (by decide) ?_
  refine mv_putI (pc := 4) (ci := 12) (C := R_Book) (T := F_Book) (N := 65) B 63 rfl rfl (by decide) i_Book t_Book_ok n_Book (B.2.2.2.1 _ k_1912) rfl rfl rfl rfl d_Book_decode_4 ?_
  refine mvh_hp (R9 := mv_r h) hf rfl (fun g4 hf r_g4 => ?_)
  refine mv_iconst (pc := 7) (v := 0) B d_Book_decode_7 (by decide) ?_
  refine mv_istore (pc := 8) B d_Book_decode_8 (by decide) rfl ?_
  refine mv_lpick [2, 3, 1, 0] rfl ?_
  exact lp10 _ _ _ _ _ r_g4 hf
set_option maxHeartbeats 4000000 in
set_option maxRecDepth 100000 in
theorem ch_Book_decode_y (l : Launch) {dA : FieldType → ClassId} {D : va_G} {al : Nat → Nat} {ext : mv_Sh} {sk sv : Nat → Nat} (hi : mv_inj (mg dA D al ext)) (h : mv_H) (hb : mh (mv_r h))  (a0 : Int64) {rv : Int32} {rg : mv_H} (hf : f_Book_decode 108 h a0 = some (rv, rg)) : mv_C l y_Book_decode (Cond.code y_Book_decode b_Book_decode 5 (Option.some Jvm.ClassFile.FieldType.int) :: ma) ({ frames := 1, cells := 0, slots := 0, locals := 25 }) (mg dA D al ext) (mK sk sv) [.ref (al 108), .long a0] h (mv_Ri (fun v σ1 => rv = v ∧ rg = σ1 ∧ mv_r σ1 = mv_r h)) := by
  refine mv_C.ofV (cc := b_Book_decode) (nL := 5) (ret := (Option.some Jvm.ClassFile.FieldType.int)) (by decide +kernel) rfl hi (Nat.le_of_ble_eq_true rfl) ?_
  intro p e s m below meth c B hNs hr hnm hno
  have lp10 : ∀ (nn10 : Nat) (x1 : Int64) (x3 : Int32) (x4 : Int32) (hz : mv_H), mv_r hz = mv_r h → f_Book_decode_10 108 nn10 x1 x3 x4 hz = some (rv, rg) → mv_V p l e ({ frames := 1, cells := 0, slots := 0, locals := 25 }) s m ([.ref (al 108), .long a0] : List Value).toArray below meth c (mg dA D al ext) 5 0 0 (mv_Q (mg dA D al ext) below s 0 0 (mv_Ri (fun v σ1 => rv = v ∧ rg = σ1 ∧ mv_r σ1 = mv_r h))) hz 10 [(0, .ref (al 108)), (1, .long x1), (3, .int x3), (4, .int x4)] [] := by
    intro nn10
    induction nn10 with
    | zero => intro x1 x3 x4 hz r_hz hf; cases hf
    | succ nn10 ih10 =>
      intro x1 x3 x4 hz r_hz hf
      have jn45 : ∀ (x1 : Int64) (x3 : Int32) (x4 : Int32) (hz : mv_H), mv_r hz = mv_r h → f_Book_decode_45 108 (f_Book_decode_10 108 nn10) x1 x3 x4 hz = some (rv, rg) → mv_V p l e ({ frames := 1, cells := 0, slots := 0, locals := 25 }) s m ([.ref (al 108), .long a0] : List Value).toArray below meth c (mg dA D al ext) 5 0 0 (mv_Q (mg dA D al ext) below s 0 0 (mv_Ri (fun v σ1 => rv = v ∧ rg = σ1 ∧ mv_r σ1 = mv_r h))) hz 45 [(0, .ref (al 108)), (1, .long x1), (3, .int x3), (4, .int x4)] [] := by
        intro x1 x3 x4 hz r_hz hf
        unfold f_Book_decode_45 at hf
        refine mv_iinc (pc := 45) (j := 3) (v := 1) B d_Book_decode_45 rfl (by decide) (by decide) rfl ?_
        refine mv_goto (pc := 48) (tgt := 10) B d_Book_decode_48 rfl ?_
        refine mv_lpick [1, 2, 3, 0] rfl ?_
        exact ih10 _ _ _ _ r_hz hf
      have jn42 : ∀ (x1 : Int64) (x3 : Int32) (x4 : Int32) (hz : mv_H), mv_r hz = mv_r h → f_Book_decode_42 108 (f_Book_decode_10 108 nn10) x1 x3 x4 hz = some (rv, rg) → mv_V p l e ({ frames := 1, cells := 0, slots := 0, locals := 25 }) s m ([.ref (al 108), .long a0] : List Value).toArray below meth c (mg dA D al ext) 5 0 0 (mv_Q (mg dA D al ext) below s 0 0 (mv_Ri (fun v σ1 => rv = v ∧ rg = σ1 ∧ mv_r σ1 = mv_r h))) hz 42 [(0, .ref (al 108)), (1, .long x1), (3, .int x3), (4, .int x4)] [] := by
        intro x1 x3 x4 hz r_hz hf
        unfold f_Book_decode_42 at hf
        refine mv_iinc (pc := 42) (j := 2) (v := 1) B d_Book_decode_42 rfl (by decide) (by decide) rfl ?_
        refine mv_lpick [1, 2, 0, 3] rfl ?_
        exact jn45 _ _ _ _ r_hz hf
      have hf : fF_Book_decode_10 108 (f_Book_decode_10 108 nn10) x1 x3 x4 hz = some (rv, rg) := hf
      unfold fF_Book_decode_10 at hf
      refine mv_iload (pc := 10) B d_Book_decode_10 3 rfl ?_
      refine mv_aload_n (pc := 12) B d_Book_decode_12 rfl 0 rfl ?_
      refine mv_getI (pc := 13) (ci := 12) (C := R_Book) (T := F_Book) (N := 65) B 29 rfl rfl (by decide) i_Book (B.2.2.2.1 _ k_1874) rfl d_Book_decode_13 ?_
      refine mv_icmp_ge (pc := 16) (tgt := 51) B d_Book_decode_16 rfl (fun h16 => ?_) (fun h16 => ?_)
      · skip
        have hf := xif_t h16 hf
        refine mv_iload_n (pc := 51) B d_Book_decode_51 rfl 2 rfl ?_
        exact mv_iret (pc := 52) B hr rfl d_Book_decode_52 (Nat.le_refl _) (Nat.le_refl _) ⟨_, rfl, xrh_i hf r_hz⟩
      · skip
        have hf := xif_f h16 hf
        refine mv_aload_n (pc := 19) B d_Book_decode_19 rfl 0 rfl ?_
        refine mv_iload (pc := 20) B d_Book_decode_20 3 rfl ?_
        refine mv_lload_n (pc := 22) B d_Book_decode_22 rfl 1 rfl ?_
        obtain ⟨u2, g1, eg1, hf⟩ := xhb_e hf
        refine mv_callVi (pc := 23) (n := 2) (ci := 12) (C := R_Book) B (mK_ok sk sv) hNs rfl rfl (ch_Book_fits_1_y l hi _ (xrw r_hz hb) _ _ eg1) rfl (ma_goodc kc_Book_fits_1) (B.2.2.2.1 _ k_2374) (B.2.2.2.1 _ k_2375) (B.2.2.2.1 _ k_2376) (B.2.2.2.1 _ k_13) ⟨by decide +kernel, by decide +kernel, by decide +kernel⟩ rfl d_Book_decode_23 rfl (Nat.le_of_ble_eq_true rfl) ⟨by first | decide | (dsimp only; omega), by first | decide | (dsimp only; omega)⟩ ⟨Nat.le_refl _, Nat.le_refl _⟩ ⟨Nat.le_refl _, Nat.le_refl _⟩ (mv_noH hno _) (fun w23 σ23 h23 => ?_)
        obtain ⟨rfl, rfl, s_g1⟩ := h23
        have r_g1 : mv_r g1 = mv_r h := s_g1.trans r_hz
        refine mv_if_ne (pc := 26) (tgt := 32) B d_Book_decode_26 rfl (fun h26 => ?_) (fun h26 => ?_)
        · skip
          have hf := xif_f h26 hf
          refine mv_iload_n (pc := 32) B d_Book_decode_32 rfl 2 rfl ?_
          refine mv_if_ne (pc := 33) (tgt := 42) B d_Book_decode_33 rfl (fun h33 => ?_) (fun h33 => ?_)
          · skip
            have hf := xif_f h33 hf
            refine mv_lpick [0, 1, 2, 3] rfl ?_
            exact jn42 _ _ _ _ r_g1 hf
          · skip
            have hf := xif_t h33 hf
            refine mv_aload_n (pc := 36) B d_Book_decode_36 rfl 0 rfl ?_
            refine mv_iload (pc := 37) B d_Book_decode_37 3 rfl ?_
            refine mv_putI (pc := 39) (ci := 12) (C := R_Book) (T := F_Book) (N := 65) B 63 rfl rfl (by decide) i_Book t_Book_ok n_Book (B.2.2.2.1 _ k_1912) rfl rfl rfl rfl d_Book_decode_39 ?_
            refine mvh_hp (R9 := mv_r h) hf r_g1 (fun g3 hf r_g3 => ?_)
            refine mv_lpick [0, 1, 2, 3] rfl ?_
            exact jn42 _ _ _ _ r_g3 hf
        · skip
          have hf := xif_t h26 hf
          refine mv_goto (pc := 29) (tgt := 45) B d_Book_decode_29 rfl ?_
          refine mv_lpick [0, 1, 2, 3] rfl ?_
          exact jn45 _ _ _ _ r_g1 hf
  unfold f_Book_decode at hf
  refine mv_iconst (pc := 0) (v := 0) B d_Book_decode_0 (by decide) ?_
  refine mv_istore_n (pc := 1) B d_Book_decode_1 rfl (by decide) rfl ?_
  refine mv_aload_n (pc := 2) B d_Book_decode_2 rfl 1 rfl ?_
  refine mv_iconst (pc := 3) (v := -1) B d_Book_decode_3 (by decide) ?_
  refine mv_putI (pc := 4) (ci := 12) (C := R_Book) (T := F_Book) (N := 65) B 63 rfl rfl (by decide) i_Book t_Book_ok n_Book (B.2.2.2.1 _ k_1912) rfl rfl rfl rfl d_Book_decode_4 ?_
  refine mvh_hp (R9 := mv_r h) hf rfl (fun g4 hf r_g4 => ?_)
  refine mv_iconst (pc := 7) (v := 0) B d_Book_decode_7 (by decide) ?_
  refine mv_istore (pc := 8) B d_Book_decode_8 (by decide) rfl ?_
  refine mv_lpick [2, 3, 1, 0] rfl ?_
  exact lp10 _ _ _ _ _ r_g4 hf
def f_Book_op (P : Nat) (h : mv_H) : Option (Int32 × mv_H) := some ((mv_i h P 63), h)
set_option maxHeartbeats 4000000 in
set_option maxRecDepth 100000 in
theorem ch_Book_op_x (l : Launch) {dA : FieldType → ClassId} {D : va_G} {al : Nat → Nat} {ext : mv_Sh} {sk sv : Nat → Nat} (hi : mv_inj (mg dA D al ext)) (h : mv_H) (hb : mh (mv_r h))  {rv : Int32} {rg : mv_H} (hf : f_Book_op 74 h = some (rv, rg)) : mv_C l y_Book_op (Cond.code y_Book_op b_Book_op 1 (Option.some Jvm.ClassFile.FieldType.int) :: ma) ({ frames := 0, cells := 0, slots := 0, locals := 0 }) (mg dA D al ext) (mK sk sv) [.ref (al 74)] h (mv_Ri (fun v σ1 => rv = v ∧ rg = σ1 ∧ mv_r σ1 = mv_r h)) := by
  refine mv_C.ofV (cc := b_Book_op) (nL := 1) (ret := (Option.some Jvm.ClassFile.FieldType.int)) (by decide +kernel) rfl hi (Nat.le_of_ble_eq_true rfl) ?_
  intro p e s m below meth c B hNs hr hnm hno
  unfold f_Book_op at hf
  refine mv_aload_n (pc := 0) B d_Book_op_0 rfl 0 rfl ?_
  refine mv_getI (pc := 1) (ci := 12) (C := R_Book) (T := F_Book) (N := 65) B 63 rfl rfl (by decide) i_Book (B.2.2.2.1 _ k_1912) rfl d_Book_op_1 ?_
  exact mv_iret (pc := 4) B hr rfl d_Book_op_4 (Nat.le_refl _) (Nat.le_refl _) ⟨_, rfl, xrh_i hf rfl⟩
set_option maxHeartbeats 4000000 in
set_option maxRecDepth 100000 in
theorem ch_Book_op_y (l : Launch) {dA : FieldType → ClassId} {D : va_G} {al : Nat → Nat} {ext : mv_Sh} {sk sv : Nat → Nat} (hi : mv_inj (mg dA D al ext)) (h : mv_H) (hb : mh (mv_r h))  {rv : Int32} {rg : mv_H} (hf : f_Book_op 108 h = some (rv, rg)) : mv_C l y_Book_op (Cond.code y_Book_op b_Book_op 1 (Option.some Jvm.ClassFile.FieldType.int) :: ma) ({ frames := 0, cells := 0, slots := 0, locals := 0 }) (mg dA D al ext) (mK sk sv) [.ref (al 108)] h (mv_Ri (fun v σ1 => rv = v ∧ rg = σ1 ∧ mv_r σ1 = mv_r h)) := by
  refine mv_C.ofV (cc := b_Book_op) (nL := 1) (ret := (Option.some Jvm.ClassFile.FieldType.int)) (by decide +kernel) rfl hi (Nat.le_of_ble_eq_true rfl) ?_
  intro p e s m below meth c B hNs hr hnm hno
  unfold f_Book_op at hf
  refine mv_aload_n (pc := 0) B d_Book_op_0 rfl 0 rfl ?_
  refine mv_getI (pc := 1) (ci := 12) (C := R_Book) (T := F_Book) (N := 65) B 63 rfl rfl (by decide) i_Book (B.2.2.2.1 _ k_1912) rfl d_Book_op_1 ?_
  exact mv_iret (pc := 4) B hr rfl d_Book_op_4 (Nat.le_refl _) (Nat.le_refl _) ⟨_, rfl, xrh_i hf rfl⟩
def f_Book_step_243 (P : Nat) (hz : mv_H) : Option (Int32 × mv_H) := some ((0 : Int32), hz)
def f_Book_step_187 (P : Nat) (k109 : Int32 → Int32 → mv_H → Option (Int32 × mv_H)) (x3 : Int32) (x4 : Int32) (hz : mv_H) : Option (Int32 × mv_H) := k109 x3 (x4 + 1) hz
def fF_Book_step_109 (P : Nat) (k109 : Int32 → Int32 → mv_H → Option (Int32 × mv_H)) (x3 : Int32) (x4 : Int32) (hz : mv_H) : Option (Int32 × mv_H) := if (mv_i hz P 61) ≤ x4 then (if (mv_i hz P 18) < (0 : Int32) then (f_Book_step_243 P  hz) else (if x3 = (0 : Int32) then (bif xvi (mv_i hz P 18) 4100 then bif xvi (mv_i hz P 18) 4100 then xhb (f_Book_cut hz ((mv_b hz (P + 27) ((mv_i hz P 18)).toNatClampNeg) + ((((mv_i hz P 20) / (8 : Int32))).toInt64)) (mv_a hz (P + 3) ((mv_i hz P 18)).toNatClampNeg)) fun u4 g3 => bif xvi (mv_i hz P 18) 4100 then xk (mv_sb g3 (P + 27) ((mv_i hz P 18)).toNatClampNeg u4) fun g6 => f_Book_step_243 P  g6 else none else none else none) else (f_Book_step_243 P  hz))) else (bif xvi x4 12000 then bif xvi (mv_a hz (P + 29) (x4).toNatClampNeg) 4100 then if (mv_a hz (P + 6) ((mv_a hz (P + 29) (x4).toNatClampNeg)).toNatClampNeg) = (0 : Int32) then (bif xvi x4 12000 then bif xvi x4 12000 then bif xvi (mv_a hz (P + 29) (x4).toNatClampNeg) 4100 then xk (mv_sb hz (P + 27) ((mv_a hz (P + 29) (x4).toNatClampNeg)).toNatClampNeg (mv_b hz (P + 32) (x4).toNatClampNeg)) fun g12 => f_Book_step_187 P k109 x3 x4 g12 else none else none else none) else (bif xvi x4 12000 then bif xvi (mv_a hz (P + 29) (x4).toNatClampNeg) 4100 then bif xvi x4 12000 then bif xvi x4 12000 then bif xvi ((mv_a hz (P + 5) ((mv_a hz (P + 29) (x4).toNatClampNeg)).toNatClampNeg) + (mv_a hz (P + 30) (x4).toNatClampNeg)) 65536 then xk (mv_sb hz (P + 28) (((mv_a hz (P + 5) ((mv_a hz (P + 29) (x4).toNatClampNeg)).toNatClampNeg) + (mv_a hz (P + 30) (x4).toNatClampNeg))).toNatClampNeg (mv_b hz (P + 32) (x4).toNatClampNeg)) fun g18 => f_Book_step_187 P k109 x3 x4 g18 else none else none else none else none else none) else none else none)
def f_Book_step_109 (P : Nat) : Nat → Int32 → Int32 → mv_H → Option (Int32 × mv_H)
  | 0 => fun _ _ _ => none
  | nn + 1 => fF_Book_step_109 P (f_Book_step_109 P nn)
def f_Book_step_98 (P : Nat) (k69 : Int32 → Int32 → mv_H → Option (Int32 × mv_H)) (x4 : Int32) (y0 : Int32) (y1 : Int32) (hz : mv_H) : Option (Int32 × mv_H) := k69 (y1 ||| y0) (x4 + 1) hz
def fF_Book_step_69 (P : Nat) (k69 : Int32 → Int32 → mv_H → Option (Int32 × mv_H)) (x3 : Int32) (x4 : Int32) (hz : mv_H) : Option (Int32 × mv_H) := if (mv_i hz P 61) ≤ x4 then (f_Book_step_109 P 200000 x3 (0 : Int32) hz) else (bif xvi x4 12000 then if (mv_a hz (P + 29) (x4).toNatClampNeg) = (mv_i hz P 18) then (f_Book_step_98 P k69 x4 (1 : Int32) x3 hz) else (f_Book_step_98 P k69 x4 (0 : Int32) x3 hz) else none)
def f_Book_step_69 (P : Nat) : Nat → Int32 → Int32 → mv_H → Option (Int32 × mv_H)
  | 0 => fun _ _ _ => none
  | nn + 1 => fF_Book_step_69 P (f_Book_step_69 P nn)
def f_Book_step_52 (P : Nat) (hz : mv_H) : Option (Int32 × mv_H) := if (mv_i hz P 53) = (0 : Int32) then (f_Book_step_69 P 200000 (0 : Int32) (0 : Int32) hz) else (some ((mv_i hz P 53), hz))
def f_Book_step_19 (P : Nat) (y0 : Int32) (hz : mv_H) : Option (Int32 × mv_H) := xk (mv_si hz P 53 y0) fun g20 => xk (mv_si g20 P 61 (0 : Int32)) fun g21 => xk (mv_si g21 P 62 (0 : Int32)) fun g22 => if (mv_i g22 P 53) = (0 : Int32) then (bif xvi (mv_i g22 P 63) 4100 then xhv (f_BookU P 126 0 (mv_a g22 (P + 11) ((mv_i g22 P 63)).toNatClampNeg) g22) fun g24 => f_Book_step_52 P  g24 else none) else (f_Book_step_52 P  g22)
def f_Book_step (P : Nat) (h : mv_H) (a0 : Int64) : Option (Int32 × mv_H) := xk (mv_sl h P 52 a0) fun g26 => if (0 : Int32) ≤ (mv_i g26 P 63) then (f_Book_step_19 P (0 : Int32) g26) else (f_Book_step_19 P (-2 : Int32) g26)
set_option maxHeartbeats 4000000 in
set_option maxRecDepth 100000 in
theorem ch_Book_step_x (l : Launch) {dA : FieldType → ClassId} {D : va_G} {al : Nat → Nat} {ext : mv_Sh} {sk sv : Nat → Nat} (hi : mv_inj (mg dA D al ext)) (h : mv_H) (hb : mh (mv_r h))  (a0 : Int64) {rv : Int32} {rg : mv_H} (hf : f_Book_step 74 h a0 = some (rv, rg)) : mv_C l y_Book_step (Cond.code y_Book_step b_Book_step 5 (Option.some Jvm.ClassFile.FieldType.int) :: ma) ({ frames := 2040, cells := 0, slots := 0, locals := 61804 }) (mg dA D al ext) (mK sk sv) [.ref (al 74), .long a0] h (mv_Ri (fun v σ1 => rv = v ∧ rg = σ1 ∧ mv_r σ1 = mv_r h)) := by
  refine mv_C.ofV (cc := b_Book_step) (nL := 5) (ret := (Option.some Jvm.ClassFile.FieldType.int)) (by decide +kernel) rfl hi (Nat.le_of_ble_eq_true rfl) ?_
  intro p e s m below meth c B hNs hr hnm hno
  have jn243 : ∀ (hz : mv_H), mv_r hz = mv_r h → f_Book_step_243 74  hz = some (rv, rg) → mv_V p l e ({ frames := 2040, cells := 0, slots := 0, locals := 61804 }) s m ([.ref (al 74), .long a0] : List Value).toArray below meth c (mg dA D al ext) 5 0 0 (mv_Q (mg dA D al ext) below s 0 0 (mv_Ri (fun v σ1 => rv = v ∧ rg = σ1 ∧ mv_r σ1 = mv_r h))) hz 243 [] [] := by
    intro  hz r_hz hf
    unfold f_Book_step_243 at hf
    refine mv_iconst (pc := 243) (v := 0) B d_Book_step_243 (by decide) ?_
    exact mv_iret (pc := 244) B hr rfl d_Book_step_244 (Nat.le_refl _) (Nat.le_refl _) ⟨_, rfl, xrh_i hf r_hz⟩
  have lp109 : ∀ (nn109 : Nat) (x3 : Int32) (x4 : Int32) (hz : mv_H), mv_r hz = mv_r h → f_Book_step_109 74 nn109 x3 x4 hz = some (rv, rg) → mv_V p l e ({ frames := 2040, cells := 0, slots := 0, locals := 61804 }) s m ([.ref (al 74), .long a0] : List Value).toArray below meth c (mg dA D al ext) 5 0 0 (mv_Q (mg dA D al ext) below s 0 0 (mv_Ri (fun v σ1 => rv = v ∧ rg = σ1 ∧ mv_r σ1 = mv_r h))) hz 109 [(0, .ref (al 74)), (3, .int x3), (4, .int x4)] [] := by
    intro nn109
    induction nn109 with
    | zero => intro x3 x4 hz r_hz hf; cases hf
    | succ nn109 ih109 =>
      intro x3 x4 hz r_hz hf
      have jn187 : ∀ (x3 : Int32) (x4 : Int32) (hz : mv_H), mv_r hz = mv_r h → f_Book_step_187 74 (f_Book_step_109 74 nn109) x3 x4 hz = some (rv, rg) → mv_V p l e ({ frames := 2040, cells := 0, slots := 0, locals := 61804 }) s m ([.ref (al 74), .long a0] : List Value).toArray below meth c (mg dA D al ext) 5 0 0 (mv_Q (mg dA D al ext) below s 0 0 (mv_Ri (fun v σ1 => rv = v ∧ rg = σ1 ∧ mv_r σ1 = mv_r h))) hz 187 [(0, .ref (al 74)), (3, .int x3), (4, .int x4)] [] := by
        intro x3 x4 hz r_hz hf
        unfold f_Book_step_187 at hf
        refine mv_iinc (pc := 187) (j := 2) (v := 1) B d_Book_step_187 rfl (by decide) (by decide) rfl ?_
        refine mv_goto (pc := 190) (tgt := 109) B d_Book_step_190 rfl ?_
        refine mv_lpick [1, 2, 0] rfl ?_
        exact ih109 _ _ _ r_hz hf
      have hf : fF_Book_step_109 74 (f_Book_step_109 74 nn109) x3 x4 hz = some (rv, rg) := hf
      unfold fF_Book_step_109 at hf
      refine mv_iload (pc := 109) B d_Book_step_109 2 rfl ?_
      refine mv_aload_n (pc := 111) B d_Book_step_111 rfl 0 rfl ?_
      refine mv_getI (pc := 112) (ci := 12) (C := R_Book) (T := F_Book) (N := 65) B 61 rfl rfl (by decide) i_Book (B.2.2.2.1 _ k_1910) rfl d_Book_step_112 ?_
      refine mv_icmp_ge (pc := 115) (tgt := 193) B d_Book_step_115 rfl (fun h115 => ?_) (fun h115 => ?_)
      · skip
        have hf := xif_t h115 hf
        refine mv_aload_n (pc := 193) B d_Book_step_193 rfl 0 rfl ?_
        refine mv_getI (pc := 194) (ci := 12) (C := R_Book) (T := F_Book) (N := 65) B 18 rfl rfl (by decide) i_Book (B.2.2.2.1 _ k_1862) rfl d_Book_step_194 ?_
        refine mv_if_lt (pc := 197) (tgt := 243) B d_Book_step_197 rfl (fun h197 => ?_) (fun h197 => ?_)
        · skip
          have hf := xif_t h197 hf
          refine mv_lpick [] rfl ?_
          exact jn243  _ r_hz hf
        · skip
          have hf := xif_f h197 hf
          refine mv_iload_n (pc := 200) B d_Book_step_200 rfl 1 rfl ?_
          refine mv_if_ne (pc := 201) (tgt := 243) B d_Book_step_201 rfl (fun h201 => ?_) (fun h201 => ?_)
          · skip
            have hf := xif_f h201 hf
            refine mv_lpick [] rfl ?_
            exact jn243  _ r_hz hf
          · skip
            have hf := xif_t h201 hf
            refine mv_aload_n (pc := 204) B d_Book_step_204 rfl 0 rfl ?_
            refine mv_getR (pc := 205) (ci := 12) (C := R_Book) (T := F_Book) (N := 65) B 55 rfl rfl (by decide) i_Book (B.2.2.2.1 _ k_1904) rfl ((congrFun (congrFun r_hz 74) 55).trans (hb 74 55 _ rfl)) d_Book_step_205 ?_
            refine mv_aload_n (pc := 208) B d_Book_step_208 rfl 0 rfl ?_
            refine mv_getI (pc := 209) (ci := 12) (C := R_Book) (T := F_Book) (N := 65) B 18 rfl rfl (by decide) i_Book (B.2.2.2.1 _ k_1862) rfl d_Book_step_209 ?_
            refine mv_aload_n (pc := 212) B d_Book_step_212 rfl 0 rfl ?_
            refine mv_getR (pc := 213) (ci := 12) (C := R_Book) (T := F_Book) (N := 65) B 55 rfl rfl (by decide) i_Book (B.2.2.2.1 _ k_1904) rfl ((congrFun (congrFun r_hz 74) 55).trans (hb 74 55 _ rfl)) d_Book_step_213 ?_
            refine mv_aload_n (pc := 216) B d_Book_step_216 rfl 0 rfl ?_
            refine mv_getI (pc := 217) (ci := 12) (C := R_Book) (T := F_Book) (N := 65) B 18 rfl rfl (by decide) i_Book (B.2.2.2.1 _ k_1862) rfl d_Book_step_217 ?_
            obtain ⟨q1, hf⟩ := xvi_e hf
            refine mv_lald (pc := 220) B rfl q1 d_Book_step_220 ?_
            refine mv_aload_n (pc := 221) B d_Book_step_221 rfl 0 rfl ?_
            refine mv_getI (pc := 222) (ci := 12) (C := R_Book) (T := F_Book) (N := 65) B 20 rfl rfl (by decide) i_Book (B.2.2.2.1 _ k_1865) rfl d_Book_step_222 ?_
            refine mv_bipush (pc := 225) (v := 8) B d_Book_step_225 (by decide) ?_
            refine mv_idiv (pc := 227) B d_Book_step_227 (by decide) ?_
            refine mv_i2l (pc := 228) B d_Book_step_228 ?_
            refine mv_ladd (pc := 229) B d_Book_step_229 ?_
            refine mv_aload_n (pc := 230) B d_Book_step_230 rfl 0 rfl ?_
            refine mv_getR (pc := 231) (ci := 12) (C := R_Book) (T := F_Book) (N := 65) B 12 rfl rfl (by decide) i_Book (B.2.2.2.1 _ k_1855) rfl ((congrFun (congrFun r_hz 74) 12).trans (hb 74 12 _ rfl)) d_Book_step_231 ?_
            refine mv_aload_n (pc := 234) B d_Book_step_234 rfl 0 rfl ?_
            refine mv_getI (pc := 235) (ci := 12) (C := R_Book) (T := F_Book) (N := 65) B 18 rfl rfl (by decide) i_Book (B.2.2.2.1 _ k_1862) rfl d_Book_step_235 ?_
            obtain ⟨q2, hf⟩ := xvi_e hf
            refine mv_iald (pc := 238) B rfl q2 d_Book_step_238 ?_
            obtain ⟨u4, g3, eg3, hf⟩ := xhb_e hf
            refine mv_callSl (pc := 239) (n := 2) B (mK_ok sk sv) hNs (ch_Book_cut l hi _ _ _ eg3) rfl (ma_goodc kc_Book_cut) (B.2.2.2.1 _ k_2427) (B.2.2.2.1 _ k_2428) (B.2.2.2.1 _ k_13) ⟨by decide +kernel, by decide +kernel, by decide +kernel⟩ rfl d_Book_step_239 rfl (Nat.le_of_ble_eq_true rfl) ⟨by first | decide | (dsimp only; omega), by first | decide | (dsimp only; omega)⟩ ⟨Nat.le_refl _, Nat.le_refl _⟩ ⟨Nat.le_refl _, Nat.le_refl _⟩ (mv_noH hno _) (fun w239 σ239 h239 => ?_)
            obtain ⟨rfl, rfl, s_g3⟩ := h239
            have r_g3 : mv_r g3 = mv_r h := s_g3.trans r_hz
            obtain ⟨q5, hf⟩ := xvi_e hf
            refine mv_last (pc := 242) B rfl q5 d_Book_step_242 ?_
            refine mvh_hp (R9 := mv_r h) hf r_g3 (fun g6 hf r_g6 => ?_)
            refine mv_lpick [] rfl ?_
            exact jn243  _ r_g6 hf
      · skip
        have hf := xif_f h115 hf
        refine mv_aload_n (pc := 118) B d_Book_step_118 rfl 0 rfl ?_
        refine mv_getR (pc := 119) (ci := 12) (C := R_Book) (T := F_Book) (N := 65) B 15 rfl rfl (by decide) i_Book (B.2.2.2.1 _ k_1858) rfl ((congrFun (congrFun r_hz 74) 15).trans (hb 74 15 _ rfl)) d_Book_step_119 ?_
        refine mv_aload_n (pc := 122) B d_Book_step_122 rfl 0 rfl ?_
        refine mv_getR (pc := 123) (ci := 12) (C := R_Book) (T := F_Book) (N := 65) B 57 rfl rfl (by decide) i_Book (B.2.2.2.1 _ k_1906) rfl ((congrFun (congrFun r_hz 74) 57).trans (hb 74 57 _ rfl)) d_Book_step_123 ?_
        refine mv_iload (pc := 126) B d_Book_step_126 2 rfl ?_
        obtain ⟨q7, hf⟩ := xvi_e hf
        refine mv_iald (pc := 128) B rfl q7 d_Book_step_128 ?_
        obtain ⟨q8, hf⟩ := xvi_e hf
        refine mv_zald (pc := 129) B rfl q8 d_Book_step_129 ?_
        refine mv_if_eq (pc := 130) (tgt := 168) B d_Book_step_130 rfl (fun h130 => ?_) (fun h130 => ?_)
        · skip
          have hf := xif_t h130 hf
          refine mv_aload_n (pc := 168) B d_Book_step_168 rfl 0 rfl ?_
          refine mv_getR (pc := 169) (ci := 12) (C := R_Book) (T := F_Book) (N := 65) B 55 rfl rfl (by decide) i_Book (B.2.2.2.1 _ k_1904) rfl ((congrFun (congrFun r_hz 74) 55).trans (hb 74 55 _ rfl)) d_Book_step_169 ?_
          refine mv_aload_n (pc := 172) B d_Book_step_172 rfl 0 rfl ?_
          refine mv_getR (pc := 173) (ci := 12) (C := R_Book) (T := F_Book) (N := 65) B 57 rfl rfl (by decide) i_Book (B.2.2.2.1 _ k_1906) rfl ((congrFun (congrFun r_hz 74) 57).trans (hb 74 57 _ rfl)) d_Book_step_173 ?_
          refine mv_iload (pc := 176) B d_Book_step_176 2 rfl ?_
          obtain ⟨q9, hf⟩ := xvi_e hf
          refine mv_iald (pc := 178) B rfl q9 d_Book_step_178 ?_
          refine mv_aload_n (pc := 179) B d_Book_step_179 rfl 0 rfl ?_
          refine mv_getR (pc := 180) (ci := 12) (C := R_Book) (T := F_Book) (N := 65) B 60 rfl rfl (by decide) i_Book (B.2.2.2.1 _ k_1909) rfl ((congrFun (congrFun r_hz 74) 60).trans (hb 74 60 _ rfl)) d_Book_step_180 ?_
          refine mv_iload (pc := 183) B d_Book_step_183 2 rfl ?_
          obtain ⟨q10, hf⟩ := xvi_e hf
          refine mv_lald (pc := 185) B rfl q10 d_Book_step_185 ?_
          obtain ⟨q11, hf⟩ := xvi_e hf
          refine mv_last (pc := 186) B rfl q11 d_Book_step_186 ?_
          refine mvh_hp (R9 := mv_r h) hf r_hz (fun g12 hf r_g12 => ?_)
          refine mv_lpick [0, 1, 2] rfl ?_
          exact jn187 _ _ _ r_g12 hf
        · skip
          have hf := xif_f h130 hf
          refine mv_aload_n (pc := 133) B d_Book_step_133 rfl 0 rfl ?_
          refine mv_getR (pc := 134) (ci := 12) (C := R_Book) (T := F_Book) (N := 65) B 56 rfl rfl (by decide) i_Book (B.2.2.2.1 _ k_1905) rfl ((congrFun (congrFun r_hz 74) 56).trans (hb 74 56 _ rfl)) d_Book_step_134 ?_
          refine mv_aload_n (pc := 137) B d_Book_step_137 rfl 0 rfl ?_
          refine mv_getR (pc := 138) (ci := 12) (C := R_Book) (T := F_Book) (N := 65) B 14 rfl rfl (by decide) i_Book (B.2.2.2.1 _ k_1857) rfl ((congrFun (congrFun r_hz 74) 14).trans (hb 74 14 _ rfl)) d_Book_step_138 ?_
          refine mv_aload_n (pc := 141) B d_Book_step_141 rfl 0 rfl ?_
          refine mv_getR (pc := 142) (ci := 12) (C := R_Book) (T := F_Book) (N := 65) B 57 rfl rfl (by decide) i_Book (B.2.2.2.1 _ k_1906) rfl ((congrFun (congrFun r_hz 74) 57).trans (hb 74 57 _ rfl)) d_Book_step_142 ?_
          refine mv_iload (pc := 145) B d_Book_step_145 2 rfl ?_
          obtain ⟨q13, hf⟩ := xvi_e hf
          refine mv_iald (pc := 147) B rfl q13 d_Book_step_147 ?_
          obtain ⟨q14, hf⟩ := xvi_e hf
          refine mv_iald (pc := 148) B rfl q14 d_Book_step_148 ?_
          refine mv_aload_n (pc := 149) B d_Book_step_149 rfl 0 rfl ?_
          refine mv_getR (pc := 150) (ci := 12) (C := R_Book) (T := F_Book) (N := 65) B 58 rfl rfl (by decide) i_Book (B.2.2.2.1 _ k_1907) rfl ((congrFun (congrFun r_hz 74) 58).trans (hb 74 58 _ rfl)) d_Book_step_150 ?_
          refine mv_iload (pc := 153) B d_Book_step_153 2 rfl ?_
          obtain ⟨q15, hf⟩ := xvi_e hf
          refine mv_iald (pc := 155) B rfl q15 d_Book_step_155 ?_
          refine mv_iadd (pc := 156) B d_Book_step_156 ?_
          refine mv_aload_n (pc := 157) B d_Book_step_157 rfl 0 rfl ?_
          refine mv_getR (pc := 158) (ci := 12) (C := R_Book) (T := F_Book) (N := 65) B 60 rfl rfl (by decide) i_Book (B.2.2.2.1 _ k_1909) rfl ((congrFun (congrFun r_hz 74) 60).trans (hb 74 60 _ rfl)) d_Book_step_158 ?_
          refine mv_iload (pc := 161) B d_Book_step_161 2 rfl ?_
          obtain ⟨q16, hf⟩ := xvi_e hf
          refine mv_lald (pc := 163) B rfl q16 d_Book_step_163 ?_
          obtain ⟨q17, hf⟩ := xvi_e hf
          refine mv_last (pc := 164) B rfl q17 d_Book_step_164 ?_
          refine mvh_hp (R9 := mv_r h) hf r_hz (fun g18 hf r_g18 => ?_)
          refine mv_goto (pc := 165) (tgt := 187) B d_Book_step_165 rfl ?_
          refine mv_lpick [0, 1, 2] rfl ?_
          exact jn187 _ _ _ r_g18 hf
  have lp69 : ∀ (nn69 : Nat) (x3 : Int32) (x4 : Int32) (hz : mv_H), mv_r hz = mv_r h → f_Book_step_69 74 nn69 x3 x4 hz = some (rv, rg) → mv_V p l e ({ frames := 2040, cells := 0, slots := 0, locals := 61804 }) s m ([.ref (al 74), .long a0] : List Value).toArray below meth c (mg dA D al ext) 5 0 0 (mv_Q (mg dA D al ext) below s 0 0 (mv_Ri (fun v σ1 => rv = v ∧ rg = σ1 ∧ mv_r σ1 = mv_r h))) hz 69 [(0, .ref (al 74)), (3, .int x3), (4, .int x4)] [] := by
    intro nn69
    induction nn69 with
    | zero => intro x3 x4 hz r_hz hf; cases hf
    | succ nn69 ih69 =>
      intro x3 x4 hz r_hz hf
      have jn98 : ∀ (x4 : Int32) (y0 : Int32) (y1 : Int32) (hz : mv_H), mv_r hz = mv_r h → f_Book_step_98 74 (f_Book_step_69 74 nn69) x4 y0 y1 hz = some (rv, rg) → mv_V p l e ({ frames := 2040, cells := 0, slots := 0, locals := 61804 }) s m ([.ref (al 74), .long a0] : List Value).toArray below meth c (mg dA D al ext) 5 0 0 (mv_Q (mg dA D al ext) below s 0 0 (mv_Ri (fun v σ1 => rv = v ∧ rg = σ1 ∧ mv_r σ1 = mv_r h))) hz 98 [(0, .ref (al 74)), (4, .int x4)] [.int y0, .int y1] := by
        intro x4 y0 y1 hz r_hz hf
        unfold f_Book_step_98 at hf
        refine mv_ior (pc := 98) B d_Book_step_98 ?_
        refine mv_istore_n (pc := 99) B d_Book_step_99 rfl (by decide) rfl ?_
        refine mv_iinc (pc := 100) (j := 2) (v := 1) B d_Book_step_100 rfl (by decide) (by decide) rfl ?_
        refine mv_goto (pc := 103) (tgt := 69) B d_Book_step_103 rfl ?_
        refine mv_lpick [2, 1, 0] rfl ?_
        exact ih69 _ _ _ r_hz hf
      have hf : fF_Book_step_69 74 (f_Book_step_69 74 nn69) x3 x4 hz = some (rv, rg) := hf
      unfold fF_Book_step_69 at hf
      refine mv_iload (pc := 69) B d_Book_step_69 2 rfl ?_
      refine mv_aload_n (pc := 71) B d_Book_step_71 rfl 0 rfl ?_
      refine mv_getI (pc := 72) (ci := 12) (C := R_Book) (T := F_Book) (N := 65) B 61 rfl rfl (by decide) i_Book (B.2.2.2.1 _ k_1910) rfl d_Book_step_72 ?_
      refine mv_icmp_ge (pc := 75) (tgt := 106) B d_Book_step_75 rfl (fun h75 => ?_) (fun h75 => ?_)
      · skip
        have hf := xif_t h75 hf
        refine mv_iconst (pc := 106) (v := 0) B d_Book_step_106 (by decide) ?_
        refine mv_istore (pc := 107) B d_Book_step_107 (by decide) rfl ?_
        refine mv_lpick [1, 2, 0] rfl ?_
        exact lp109 _ _ _ _ r_hz hf
      · skip
        have hf := xif_f h75 hf
        refine mv_iload_n (pc := 78) B d_Book_step_78 rfl 1 rfl ?_
        refine mv_aload_n (pc := 79) B d_Book_step_79 rfl 0 rfl ?_
        refine mv_getR (pc := 80) (ci := 12) (C := R_Book) (T := F_Book) (N := 65) B 57 rfl rfl (by decide) i_Book (B.2.2.2.1 _ k_1906) rfl ((congrFun (congrFun r_hz 74) 57).trans (hb 74 57 _ rfl)) d_Book_step_80 ?_
        refine mv_iload (pc := 83) B d_Book_step_83 2 rfl ?_
        obtain ⟨q19, hf⟩ := xvi_e hf
        refine mv_iald (pc := 85) B rfl q19 d_Book_step_85 ?_
        refine mv_aload_n (pc := 86) B d_Book_step_86 rfl 0 rfl ?_
        refine mv_getI (pc := 87) (ci := 12) (C := R_Book) (T := F_Book) (N := 65) B 18 rfl rfl (by decide) i_Book (B.2.2.2.1 _ k_1862) rfl d_Book_step_87 ?_
        refine mv_icmp_ne (pc := 90) (tgt := 97) B d_Book_step_90 rfl (fun h90 => ?_) (fun h90 => ?_)
        · skip
          have hf := xif_f h90 hf
          refine mv_iconst (pc := 97) (v := 0) B d_Book_step_97 (by decide) ?_
          refine mv_lpick [0, 2] rfl ?_
          exact jn98 _ _ _ _ r_hz hf
        · skip
          have hf := xif_t h90 hf
          refine mv_iconst (pc := 93) (v := 1) B d_Book_step_93 (by decide) ?_
          refine mv_goto (pc := 94) (tgt := 98) B d_Book_step_94 rfl ?_
          refine mv_lpick [0, 2] rfl ?_
          exact jn98 _ _ _ _ r_hz hf
  have jn52 : ∀ (hz : mv_H), mv_r hz = mv_r h → f_Book_step_52 74  hz = some (rv, rg) → mv_V p l e ({ frames := 2040, cells := 0, slots := 0, locals := 61804 }) s m ([.ref (al 74), .long a0] : List Value).toArray below meth c (mg dA D al ext) 5 0 0 (mv_Q (mg dA D al ext) below s 0 0 (mv_Ri (fun v σ1 => rv = v ∧ rg = σ1 ∧ mv_r σ1 = mv_r h))) hz 52 [(0, .ref (al 74))] [] := by
    intro  hz r_hz hf
    unfold f_Book_step_52 at hf
    refine mv_aload_n (pc := 52) B d_Book_step_52 rfl 0 rfl ?_
    refine mv_getI (pc := 53) (ci := 12) (C := R_Book) (T := F_Book) (N := 65) B 53 rfl rfl (by decide) i_Book (B.2.2.2.1 _ k_1902) rfl d_Book_step_53 ?_
    refine mv_if_eq (pc := 56) (tgt := 64) B d_Book_step_56 rfl (fun h56 => ?_) (fun h56 => ?_)
    · skip
      have hf := xif_t h56 hf
      refine mv_iconst (pc := 64) (v := 0) B d_Book_step_64 (by decide) ?_
      refine mv_istore_n (pc := 65) B d_Book_step_65 rfl (by decide) rfl ?_
      refine mv_iconst (pc := 66) (v := 0) B d_Book_step_66 (by decide) ?_
      refine mv_istore (pc := 67) B d_Book_step_67 (by decide) rfl ?_
      refine mv_lpick [2, 1, 0] rfl ?_
      exact lp69 _ _ _ _ r_hz hf
    · skip
      have hf := xif_f h56 hf
      refine mv_aload_n (pc := 59) B d_Book_step_59 rfl 0 rfl ?_
      refine mv_getI (pc := 60) (ci := 12) (C := R_Book) (T := F_Book) (N := 65) B 53 rfl rfl (by decide) i_Book (B.2.2.2.1 _ k_1902) rfl d_Book_step_60 ?_
      exact mv_iret (pc := 63) B hr rfl d_Book_step_63 (Nat.le_refl _) (Nat.le_refl _) ⟨_, rfl, xrh_i hf r_hz⟩
  have jn19 : ∀ (y0 : Int32) (hz : mv_H), mv_r hz = mv_r h → f_Book_step_19 74 y0 hz = some (rv, rg) → mv_V p l e ({ frames := 2040, cells := 0, slots := 0, locals := 61804 }) s m ([.ref (al 74), .long a0] : List Value).toArray below meth c (mg dA D al ext) 5 0 0 (mv_Q (mg dA D al ext) below s 0 0 (mv_Ri (fun v σ1 => rv = v ∧ rg = σ1 ∧ mv_r σ1 = mv_r h))) hz 19 [(0, .ref (al 74))] [.int y0, .ref (al 74)] := by
    intro y0 hz r_hz hf
    unfold f_Book_step_19 at hf
    refine mv_putI (pc := 19) (ci := 12) (C := R_Book) (T := F_Book) (N := 65) B 53 rfl rfl (by decide) i_Book t_Book_ok n_Book (B.2.2.2.1 _ k_1902) rfl rfl rfl rfl d_Book_step_19 ?_
    refine mvh_hp (R9 := mv_r h) hf r_hz (fun g20 hf r_g20 => ?_)
    refine mv_aload_n (pc := 22) B d_Book_step_22 rfl 0 rfl ?_
    refine mv_iconst (pc := 23) (v := 0) B d_Book_step_23 (by decide) ?_
    refine mv_putI (pc := 24) (ci := 12) (C := R_Book) (T := F_Book) (N := 65) B 61 rfl rfl (by decide) i_Book t_Book_ok n_Book (B.2.2.2.1 _ k_1910) rfl rfl rfl rfl d_Book_step_24 ?_
    refine mvh_hp (R9 := mv_r h) hf r_g20 (fun g21 hf r_g21 => ?_)
    refine mv_aload_n (pc := 27) B d_Book_step_27 rfl 0 rfl ?_
    refine mv_iconst (pc := 28) (v := 0) B d_Book_step_28 (by decide) ?_
    refine mv_putI (pc := 29) (ci := 12) (C := R_Book) (T := F_Book) (N := 65) B 62 rfl rfl (by decide) i_Book t_Book_ok n_Book (B.2.2.2.1 _ k_1911) rfl rfl rfl rfl d_Book_step_29 ?_
    refine mvh_hp (R9 := mv_r h) hf r_g21 (fun g22 hf r_g22 => ?_)
    refine mv_aload_n (pc := 32) B d_Book_step_32 rfl 0 rfl ?_
    refine mv_getI (pc := 33) (ci := 12) (C := R_Book) (T := F_Book) (N := 65) B 53 rfl rfl (by decide) i_Book (B.2.2.2.1 _ k_1902) rfl d_Book_step_33 ?_
    refine mv_if_ne (pc := 36) (tgt := 52) B d_Book_step_36 rfl (fun h36 => ?_) (fun h36 => ?_)
    · skip
      have hf := xif_f h36 hf
      refine mv_lpick [0] rfl ?_
      exact jn52  _ r_g22 hf
    · skip
      have hf := xif_t h36 hf
      refine mv_aload_n (pc := 39) B d_Book_step_39 rfl 0 rfl ?_
      refine mv_aload_n (pc := 40) B d_Book_step_40 rfl 0 rfl ?_
      refine mv_getR (pc := 41) (ci := 12) (C := R_Book) (T := F_Book) (N := 65) B 26 rfl rfl (by decide) i_Book (B.2.2.2.1 _ k_1871) rfl ((congrFun (congrFun r_g22 74) 26).trans (hb 74 26 _ rfl)) d_Book_step_41 ?_
      refine mv_aload_n (pc := 44) B d_Book_step_44 rfl 0 rfl ?_
      refine mv_getI (pc := 45) (ci := 12) (C := R_Book) (T := F_Book) (N := 65) B 63 rfl rfl (by decide) i_Book (B.2.2.2.1 _ k_1912) rfl d_Book_step_45 ?_
      obtain ⟨q23, hf⟩ := xvi_e hf
      refine mv_iald (pc := 48) B rfl q23 d_Book_step_48 ?_
      obtain ⟨g24, eg24, hf⟩ := xhv_e hf
      refine mv_callVv (pc := 49) (n := 1) (ci := 12) (C := R_Book) B (mK_ok sk sv) hNs rfl rfl ((recU_x l hi 126).1 _ _ _ (xrw r_g22 hb) eg24) rfl (ma_goodc kc_Book_run) (B.2.2.2.1 _ k_2496) (B.2.2.2.1 _ k_2498) (B.2.2.2.1 _ ks_130) (B.2.2.2.1 _ k_13) ⟨by decide +kernel, by decide +kernel, by decide +kernel⟩ rfl d_Book_step_49 rfl (Nat.le_of_ble_eq_true rfl) ⟨by first | decide | (dsimp only; omega), by first | decide | (dsimp only; omega)⟩ ⟨Nat.le_refl _, Nat.le_refl _⟩ ⟨Nat.le_refl _, Nat.le_refl _⟩ (mv_noH hno _) (fun σ49 h49 => ?_)
      obtain ⟨rfl, s_g24⟩ := h49
      have r_g24 : mv_r g24 = mv_r h := s_g24.trans r_g22
      refine mv_lpick [0] rfl ?_
      exact jn52  _ r_g24 hf
  unfold f_Book_step at hf
  refine mv_aload_n (pc := 0) B d_Book_step_0 rfl 0 rfl ?_
  refine mv_lload_n (pc := 1) B d_Book_step_1 rfl 1 rfl ?_
  refine mv_putL (pc := 2) (ci := 12) (C := R_Book) (T := F_Book) (N := 65) B 52 rfl rfl (by decide) i_Book t_Book_ok n_Book (B.2.2.2.1 _ k_1901) rfl rfl d_Book_step_2 ?_
  refine mvh_hp (R9 := mv_r h) hf rfl (fun g26 hf r_g26 => ?_)
  refine mv_aload_n (pc := 5) B d_Book_step_5 rfl 0 rfl ?_
  refine mv_aload_n (pc := 6) B d_Book_step_6 rfl 0 rfl ?_
  refine mv_getI (pc := 7) (ci := 12) (C := R_Book) (T := F_Book) (N := 65) B 63 rfl rfl (by decide) i_Book (B.2.2.2.1 _ k_1912) rfl d_Book_step_7 ?_
  refine mv_if_ge (pc := 10) (tgt := 18) B d_Book_step_10 rfl (fun h10 => ?_) (fun h10 => ?_)
  · skip
    have hf := xif_t h10 hf
    refine mv_iconst (pc := 18) (v := 0) B d_Book_step_18 (by decide) ?_
    refine mv_lpick [0] rfl ?_
    exact jn19 _ _ r_g26 hf
  · skip
    have hf := xif_f h10 hf
    refine mv_bipush (pc := 13) (v := -2) B d_Book_step_13 (by decide) ?_
    refine mv_goto (pc := 15) (tgt := 19) B d_Book_step_15 rfl ?_
    refine mv_lpick [0] rfl ?_
    exact jn19 _ _ r_g26 hf
set_option maxHeartbeats 4000000 in
set_option maxRecDepth 100000 in
theorem ch_Book_step_y (l : Launch) {dA : FieldType → ClassId} {D : va_G} {al : Nat → Nat} {ext : mv_Sh} {sk sv : Nat → Nat} (hi : mv_inj (mg dA D al ext)) (h : mv_H) (hb : mh (mv_r h))  (a0 : Int64) {rv : Int32} {rg : mv_H} (hf : f_Book_step 108 h a0 = some (rv, rg)) : mv_C l y_Book_step (Cond.code y_Book_step b_Book_step 5 (Option.some Jvm.ClassFile.FieldType.int) :: ma) ({ frames := 2040, cells := 0, slots := 0, locals := 61804 }) (mg dA D al ext) (mK sk sv) [.ref (al 108), .long a0] h (mv_Ri (fun v σ1 => rv = v ∧ rg = σ1 ∧ mv_r σ1 = mv_r h)) := by
  refine mv_C.ofV (cc := b_Book_step) (nL := 5) (ret := (Option.some Jvm.ClassFile.FieldType.int)) (by decide +kernel) rfl hi (Nat.le_of_ble_eq_true rfl) ?_
  intro p e s m below meth c B hNs hr hnm hno
  have jn243 : ∀ (hz : mv_H), mv_r hz = mv_r h → f_Book_step_243 108  hz = some (rv, rg) → mv_V p l e ({ frames := 2040, cells := 0, slots := 0, locals := 61804 }) s m ([.ref (al 108), .long a0] : List Value).toArray below meth c (mg dA D al ext) 5 0 0 (mv_Q (mg dA D al ext) below s 0 0 (mv_Ri (fun v σ1 => rv = v ∧ rg = σ1 ∧ mv_r σ1 = mv_r h))) hz 243 [] [] := by
    intro  hz r_hz hf
    unfold f_Book_step_243 at hf
    refine mv_iconst (pc := 243) (v := 0) B d_Book_step_243 (by decide) ?_
    exact mv_iret (pc := 244) B hr rfl d_Book_step_244 (Nat.le_refl _) (Nat.le_refl _) ⟨_, rfl, xrh_i hf r_hz⟩
  have lp109 : ∀ (nn109 : Nat) (x3 : Int32) (x4 : Int32) (hz : mv_H), mv_r hz = mv_r h → f_Book_step_109 108 nn109 x3 x4 hz = some (rv, rg) → mv_V p l e ({ frames := 2040, cells := 0, slots := 0, locals := 61804 }) s m ([.ref (al 108), .long a0] : List Value).toArray below meth c (mg dA D al ext) 5 0 0 (mv_Q (mg dA D al ext) below s 0 0 (mv_Ri (fun v σ1 => rv = v ∧ rg = σ1 ∧ mv_r σ1 = mv_r h))) hz 109 [(0, .ref (al 108)), (3, .int x3), (4, .int x4)] [] := by
    intro nn109
    induction nn109 with
    | zero => intro x3 x4 hz r_hz hf; cases hf
    | succ nn109 ih109 =>
      intro x3 x4 hz r_hz hf
      have jn187 : ∀ (x3 : Int32) (x4 : Int32) (hz : mv_H), mv_r hz = mv_r h → f_Book_step_187 108 (f_Book_step_109 108 nn109) x3 x4 hz = some (rv, rg) → mv_V p l e ({ frames := 2040, cells := 0, slots := 0, locals := 61804 }) s m ([.ref (al 108), .long a0] : List Value).toArray below meth c (mg dA D al ext) 5 0 0 (mv_Q (mg dA D al ext) below s 0 0 (mv_Ri (fun v σ1 => rv = v ∧ rg = σ1 ∧ mv_r σ1 = mv_r h))) hz 187 [(0, .ref (al 108)), (3, .int x3), (4, .int x4)] [] := by
        intro x3 x4 hz r_hz hf
        unfold f_Book_step_187 at hf
        refine mv_iinc (pc := 187) (j := 2) (v := 1) B d_Book_step_187 rfl (by decide) (by decide) rfl ?_
        refine mv_goto (pc := 190) (tgt := 109) B d_Book_step_190 rfl ?_
        refine mv_lpick [1, 2, 0] rfl ?_
        exact ih109 _ _ _ r_hz hf
      have hf : fF_Book_step_109 108 (f_Book_step_109 108 nn109) x3 x4 hz = some (rv, rg) := hf
      unfold fF_Book_step_109 at hf
      refine mv_iload (pc := 109) B d_Book_step_109 2 rfl ?_
      refine mv_aload_n (pc := 111) B d_Book_step_111 rfl 0 rfl ?_
      refine mv_getI (pc := 112) (ci := 12) (C := R_Book) (T := F_Book) (N := 65) B 61 rfl rfl (by decide) i_Book (B.2.2.2.1 _ k_1910) rfl d_Book_step_112 ?_
      refine mv_icmp_ge (pc := 115) (tgt := 193) B d_Book_step_115 rfl (fun h115 => ?_) (fun h115 => ?_)
      · skip
        have hf := xif_t h115 hf
        refine mv_aload_n (pc := 193) B d_Book_step_193 rfl 0 rfl ?_
        refine mv_getI (pc := 194) (ci := 12) (C := R_Book) (T := F_Book) (N := 65) B 18 rfl rfl (by decide) i_Book (B.2.2.2.1 _ k_1862) rfl d_Book_step_194 ?_
        refine mv_if_lt (pc := 197) (tgt := 243) B d_Book_step_197 rfl (fun h197 => ?_) (fun h197 => ?_)
        · skip
          have hf := xif_t h197 hf
          refine mv_lpick [] rfl ?_
          exact jn243  _ r_hz hf
        · skip
          have hf := xif_f h197 hf
          refine mv_iload_n (pc := 200) B d_Book_step_200 rfl 1 rfl ?_
          refine mv_if_ne (pc := 201) (tgt := 243) B d_Book_step_201 rfl (fun h201 => ?_) (fun h201 => ?_)
          · skip
            have hf := xif_f h201 hf
            refine mv_lpick [] rfl ?_
            exact jn243  _ r_hz hf
          · skip
            have hf := xif_t h201 hf
            refine mv_aload_n (pc := 204) B d_Book_step_204 rfl 0 rfl ?_
            refine mv_getR (pc := 205) (ci := 12) (C := R_Book) (T := F_Book) (N := 65) B 55 rfl rfl (by decide) i_Book (B.2.2.2.1 _ k_1904) rfl ((congrFun (congrFun r_hz 108) 55).trans (hb 108 55 _ rfl)) d_Book_step_205 ?_
            refine mv_aload_n (pc := 208) B d_Book_step_208 rfl 0 rfl ?_
            refine mv_getI (pc := 209) (ci := 12) (C := R_Book) (T := F_Book) (N := 65) B 18 rfl rfl (by decide) i_Book (B.2.2.2.1 _ k_1862) rfl d_Book_step_209 ?_
            refine mv_aload_n (pc := 212) B d_Book_step_212 rfl 0 rfl ?_
            refine mv_getR (pc := 213) (ci := 12) (C := R_Book) (T := F_Book) (N := 65) B 55 rfl rfl (by decide) i_Book (B.2.2.2.1 _ k_1904) rfl ((congrFun (congrFun r_hz 108) 55).trans (hb 108 55 _ rfl)) d_Book_step_213 ?_
            refine mv_aload_n (pc := 216) B d_Book_step_216 rfl 0 rfl ?_
            refine mv_getI (pc := 217) (ci := 12) (C := R_Book) (T := F_Book) (N := 65) B 18 rfl rfl (by decide) i_Book (B.2.2.2.1 _ k_1862) rfl d_Book_step_217 ?_
            obtain ⟨q1, hf⟩ := xvi_e hf
            refine mv_lald (pc := 220) B rfl q1 d_Book_step_220 ?_
            refine mv_aload_n (pc := 221) B d_Book_step_221 rfl 0 rfl ?_
            refine mv_getI (pc := 222) (ci := 12) (C := R_Book) (T := F_Book) (N := 65) B 20 rfl rfl (by decide) i_Book (B.2.2.2.1 _ k_1865) rfl d_Book_step_222 ?_
            refine mv_bipush (pc := 225) (v := 8) B d_Book_step_225 (by decide) ?_
            refine mv_idiv (pc := 227) B d_Book_step_227 (by decide) ?_
            refine mv_i2l (pc := 228) B d_Book_step_228 ?_
            refine mv_ladd (pc := 229) B d_Book_step_229 ?_
            refine mv_aload_n (pc := 230) B d_Book_step_230 rfl 0 rfl ?_
            refine mv_getR (pc := 231) (ci := 12) (C := R_Book) (T := F_Book) (N := 65) B 12 rfl rfl (by decide) i_Book (B.2.2.2.1 _ k_1855) rfl ((congrFun (congrFun r_hz 108) 12).trans (hb 108 12 _ rfl)) d_Book_step_231 ?_
            refine mv_aload_n (pc := 234) B d_Book_step_234 rfl 0 rfl ?_
            refine mv_getI (pc := 235) (ci := 12) (C := R_Book) (T := F_Book) (N := 65) B 18 rfl rfl (by decide) i_Book (B.2.2.2.1 _ k_1862) rfl d_Book_step_235 ?_
            obtain ⟨q2, hf⟩ := xvi_e hf
            refine mv_iald (pc := 238) B rfl q2 d_Book_step_238 ?_
            obtain ⟨u4, g3, eg3, hf⟩ := xhb_e hf
            refine mv_callSl (pc := 239) (n := 2) B (mK_ok sk sv) hNs (ch_Book_cut l hi _ _ _ eg3) rfl (ma_goodc kc_Book_cut) (B.2.2.2.1 _ k_2427) (B.2.2.2.1 _ k_2428) (B.2.2.2.1 _ k_13) ⟨by decide +kernel, by decide +kernel, by decide +kernel⟩ rfl d_Book_step_239 rfl (Nat.le_of_ble_eq_true rfl) ⟨by first | decide | (dsimp only; omega), by first | decide | (dsimp only; omega)⟩ ⟨Nat.le_refl _, Nat.le_refl _⟩ ⟨Nat.le_refl _, Nat.le_refl _⟩ (mv_noH hno _) (fun w239 σ239 h239 => ?_)
            obtain ⟨rfl, rfl, s_g3⟩ := h239
            have r_g3 : mv_r g3 = mv_r h := s_g3.trans r_hz
            obtain ⟨q5, hf⟩ := xvi_e hf
            refine mv_last (pc := 242) B rfl q5 d_Book_step_242 ?_
            refine mvh_hp (R9 := mv_r h) hf r_g3 (fun g6 hf r_g6 => ?_)
            refine mv_lpick [] rfl ?_
            exact jn243  _ r_g6 hf
      · skip
        have hf := xif_f h115 hf
        refine mv_aload_n (pc := 118) B d_Book_step_118 rfl 0 rfl ?_
        refine mv_getR (pc := 119) (ci := 12) (C := R_Book) (T := F_Book) (N := 65) B 15 rfl rfl (by decide) i_Book (B.2.2.2.1 _ k_1858) rfl ((congrFun (congrFun r_hz 108) 15).trans (hb 108 15 _ rfl)) d_Book_step_119 ?_
        refine mv_aload_n (pc := 122) B d_Book_step_122 rfl 0 rfl ?_
        refine mv_getR (pc := 123) (ci := 12) (C := R_Book) (T := F_Book) (N := 65) B 57 rfl rfl (by decide) i_Book (B.2.2.2.1 _ k_1906) rfl ((congrFun (congrFun r_hz 108) 57).trans (hb 108 57 _ rfl)) d_Book_step_123 ?_
        refine mv_iload (pc := 126) B d_Book_step_126 2 rfl ?_
        obtain ⟨q7, hf⟩ := xvi_e hf
        refine mv_iald (pc := 128) B rfl q7 d_Book_step_128 ?_
        obtain ⟨q8, hf⟩ := xvi_e hf
        refine mv_zald (pc := 129) B rfl q8 d_Book_step_129 ?_
        refine mv_if_eq (pc := 130) (tgt := 168) B d_Book_step_130 rfl (fun h130 => ?_) (fun h130 => ?_)
        · skip
          have hf := xif_t h130 hf
          refine mv_aload_n (pc := 168) B d_Book_step_168 rfl 0 rfl ?_
          refine mv_getR (pc := 169) (ci := 12) (C := R_Book) (T := F_Book) (N := 65) B 55 rfl rfl (by decide) i_Book (B.2.2.2.1 _ k_1904) rfl ((congrFun (congrFun r_hz 108) 55).trans (hb 108 55 _ rfl)) d_Book_step_169 ?_
          refine mv_aload_n (pc := 172) B d_Book_step_172 rfl 0 rfl ?_
          refine mv_getR (pc := 173) (ci := 12) (C := R_Book) (T := F_Book) (N := 65) B 57 rfl rfl (by decide) i_Book (B.2.2.2.1 _ k_1906) rfl ((congrFun (congrFun r_hz 108) 57).trans (hb 108 57 _ rfl)) d_Book_step_173 ?_
          refine mv_iload (pc := 176) B d_Book_step_176 2 rfl ?_
          obtain ⟨q9, hf⟩ := xvi_e hf
          refine mv_iald (pc := 178) B rfl q9 d_Book_step_178 ?_
          refine mv_aload_n (pc := 179) B d_Book_step_179 rfl 0 rfl ?_
          refine mv_getR (pc := 180) (ci := 12) (C := R_Book) (T := F_Book) (N := 65) B 60 rfl rfl (by decide) i_Book (B.2.2.2.1 _ k_1909) rfl ((congrFun (congrFun r_hz 108) 60).trans (hb 108 60 _ rfl)) d_Book_step_180 ?_
          refine mv_iload (pc := 183) B d_Book_step_183 2 rfl ?_
          obtain ⟨q10, hf⟩ := xvi_e hf
          refine mv_lald (pc := 185) B rfl q10 d_Book_step_185 ?_
          obtain ⟨q11, hf⟩ := xvi_e hf
          refine mv_last (pc := 186) B rfl q11 d_Book_step_186 ?_
          refine mvh_hp (R9 := mv_r h) hf r_hz (fun g12 hf r_g12 => ?_)
          refine mv_lpick [0, 1, 2] rfl ?_
          exact jn187 _ _ _ r_g12 hf
        · skip
          have hf := xif_f h130 hf
          refine mv_aload_n (pc := 133) B d_Book_step_133 rfl 0 rfl ?_
          refine mv_getR (pc := 134) (ci := 12) (C := R_Book) (T := F_Book) (N := 65) B 56 rfl rfl (by decide) i_Book (B.2.2.2.1 _ k_1905) rfl ((congrFun (congrFun r_hz 108) 56).trans (hb 108 56 _ rfl)) d_Book_step_134 ?_
          refine mv_aload_n (pc := 137) B d_Book_step_137 rfl 0 rfl ?_
          refine mv_getR (pc := 138) (ci := 12) (C := R_Book) (T := F_Book) (N := 65) B 14 rfl rfl (by decide) i_Book (B.2.2.2.1 _ k_1857) rfl ((congrFun (congrFun r_hz 108) 14).trans (hb 108 14 _ rfl)) d_Book_step_138 ?_
          refine mv_aload_n (pc := 141) B d_Book_step_141 rfl 0 rfl ?_
          refine mv_getR (pc := 142) (ci := 12) (C := R_Book) (T := F_Book) (N := 65) B 57 rfl rfl (by decide) i_Book (B.2.2.2.1 _ k_1906) rfl ((congrFun (congrFun r_hz 108) 57).trans (hb 108 57 _ rfl)) d_Book_step_142 ?_
          refine mv_iload (pc := 145) B d_Book_step_145 2 rfl ?_
          obtain ⟨q13, hf⟩ := xvi_e hf
          refine mv_iald (pc := 147) B rfl q13 d_Book_step_147 ?_
          obtain ⟨q14, hf⟩ := xvi_e hf
          refine mv_iald (pc := 148) B rfl q14 d_Book_step_148 ?_
          refine mv_aload_n (pc := 149) B d_Book_step_149 rfl 0 rfl ?_
          refine mv_getR (pc := 150) (ci := 12) (C := R_Book) (T := F_Book) (N := 65) B 58 rfl rfl (by decide) i_Book (B.2.2.2.1 _ k_1907) rfl ((congrFun (congrFun r_hz 108) 58).trans (hb 108 58 _ rfl)) d_Book_step_150 ?_
          refine mv_iload (pc := 153) B d_Book_step_153 2 rfl ?_
          obtain ⟨q15, hf⟩ := xvi_e hf
          refine mv_iald (pc := 155) B rfl q15 d_Book_step_155 ?_
          refine mv_iadd (pc := 156) B d_Book_step_156 ?_
          refine mv_aload_n (pc := 157) B d_Book_step_157 rfl 0 rfl ?_
          refine mv_getR (pc := 158) (ci := 12) (C := R_Book) (T := F_Book) (N := 65) B 60 rfl rfl (by decide) i_Book (B.2.2.2.1 _ k_1909) rfl ((congrFun (congrFun r_hz 108) 60).trans (hb 108 60 _ rfl)) d_Book_step_158 ?_
          refine mv_iload (pc := 161) B d_Book_step_161 2 rfl ?_
          obtain ⟨q16, hf⟩ := xvi_e hf
          refine mv_lald (pc := 163) B rfl q16 d_Book_step_163 ?_
          obtain ⟨q17, hf⟩ := xvi_e hf
          refine mv_last (pc := 164) B rfl q17 d_Book_step_164 ?_
          refine mvh_hp (R9 := mv_r h) hf r_hz (fun g18 hf r_g18 => ?_)
          refine mv_goto (pc := 165) (tgt := 187) B d_Book_step_165 rfl ?_
          refine mv_lpick [0, 1, 2] rfl ?_
          exact jn187 _ _ _ r_g18 hf
  have lp69 : ∀ (nn69 : Nat) (x3 : Int32) (x4 : Int32) (hz : mv_H), mv_r hz = mv_r h → f_Book_step_69 108 nn69 x3 x4 hz = some (rv, rg) → mv_V p l e ({ frames := 2040, cells := 0, slots := 0, locals := 61804 }) s m ([.ref (al 108), .long a0] : List Value).toArray below meth c (mg dA D al ext) 5 0 0 (mv_Q (mg dA D al ext) below s 0 0 (mv_Ri (fun v σ1 => rv = v ∧ rg = σ1 ∧ mv_r σ1 = mv_r h))) hz 69 [(0, .ref (al 108)), (3, .int x3), (4, .int x4)] [] := by
    intro nn69
    induction nn69 with
    | zero => intro x3 x4 hz r_hz hf; cases hf
    | succ nn69 ih69 =>
      intro x3 x4 hz r_hz hf
      have jn98 : ∀ (x4 : Int32) (y0 : Int32) (y1 : Int32) (hz : mv_H), mv_r hz = mv_r h → f_Book_step_98 108 (f_Book_step_69 108 nn69) x4 y0 y1 hz = some (rv, rg) → mv_V p l e ({ frames := 2040, cells := 0, slots := 0, locals := 61804 }) s m ([.ref (al 108), .long a0] : List Value).toArray below meth c (mg dA D al ext) 5 0 0 (mv_Q (mg dA D al ext) below s 0 0 (mv_Ri (fun v σ1 => rv = v ∧ rg = σ1 ∧ mv_r σ1 = mv_r h))) hz 98 [(0, .ref (al 108)), (4, .int x4)] [.int y0, .int y1] := by
        intro x4 y0 y1 hz r_hz hf
        unfold f_Book_step_98 at hf
        refine mv_ior (pc := 98) B d_Book_step_98 ?_
        refine mv_istore_n (pc := 99) B d_Book_step_99 rfl (by decide) rfl ?_
        refine mv_iinc (pc := 100) (j := 2) (v := 1) B d_Book_step_100 rfl (by decide) (by decide) rfl ?_
        refine mv_goto (pc := 103) (tgt := 69) B d_Book_step_103 rfl ?_
        refine mv_lpick [2, 1, 0] rfl ?_
        exact ih69 _ _ _ r_hz hf
      have hf : fF_Book_step_69 108 (f_Book_step_69 108 nn69) x3 x4 hz = some (rv, rg) := hf
      unfold fF_Book_step_69 at hf
      refine mv_iload (pc := 69) B d_Book_step_69 2 rfl ?_
      refine mv_aload_n (pc := 71) B d_Book_step_71 rfl 0 rfl ?_
      refine mv_getI (pc := 72) (ci := 12) (C := R_Book) (T := F_Book) (N := 65) B 61 rfl rfl (by decide) i_Book (B.2.2.2.1 _ k_1910) rfl d_Book_step_72 ?_
      refine mv_icmp_ge (pc := 75) (tgt := 106) B d_Book_step_75 rfl (fun h75 => ?_) (fun h75 => ?_)
      · skip
        have hf := xif_t h75 hf
        refine mv_iconst (pc := 106) (v := 0) B d_Book_step_106 (by decide) ?_
        refine mv_istore (pc := 107) B d_Book_step_107 (by decide) rfl ?_
        refine mv_lpick [1, 2, 0] rfl ?_
        exact lp109 _ _ _ _ r_hz hf
      · skip
        have hf := xif_f h75 hf
        refine mv_iload_n (pc := 78) B d_Book_step_78 rfl 1 rfl ?_
        refine mv_aload_n (pc := 79) B d_Book_step_79 rfl 0 rfl ?_
        refine mv_getR (pc := 80) (ci := 12) (C := R_Book) (T := F_Book) (N := 65) B 57 rfl rfl (by decide) i_Book (B.2.2.2.1 _ k_1906) rfl ((congrFun (congrFun r_hz 108) 57).trans (hb 108 57 _ rfl)) d_Book_step_80 ?_
        refine mv_iload (pc := 83) B d_Book_step_83 2 rfl ?_
        obtain ⟨q19, hf⟩ := xvi_e hf
        refine mv_iald (pc := 85) B rfl q19 d_Book_step_85 ?_
        refine mv_aload_n (pc := 86) B d_Book_step_86 rfl 0 rfl ?_
        refine mv_getI (pc := 87) (ci := 12) (C := R_Book) (T := F_Book) (N := 65) B 18 rfl rfl (by decide) i_Book (B.2.2.2.1 _ k_1862) rfl d_Book_step_87 ?_
        refine mv_icmp_ne (pc := 90) (tgt := 97) B d_Book_step_90 rfl (fun h90 => ?_) (fun h90 => ?_)
        · skip
          have hf := xif_f h90 hf
          refine mv_iconst (pc := 97) (v := 0) B d_Book_step_97 (by decide) ?_
          refine mv_lpick [0, 2] rfl ?_
          exact jn98 _ _ _ _ r_hz hf
        · skip
          have hf := xif_t h90 hf
          refine mv_iconst (pc := 93) (v := 1) B d_Book_step_93 (by decide) ?_
          refine mv_goto (pc := 94) (tgt := 98) B d_Book_step_94 rfl ?_
          refine mv_lpick [0, 2] rfl ?_
          exact jn98 _ _ _ _ r_hz hf
  have jn52 : ∀ (hz : mv_H), mv_r hz = mv_r h → f_Book_step_52 108  hz = some (rv, rg) → mv_V p l e ({ frames := 2040, cells := 0, slots := 0, locals := 61804 }) s m ([.ref (al 108), .long a0] : List Value).toArray below meth c (mg dA D al ext) 5 0 0 (mv_Q (mg dA D al ext) below s 0 0 (mv_Ri (fun v σ1 => rv = v ∧ rg = σ1 ∧ mv_r σ1 = mv_r h))) hz 52 [(0, .ref (al 108))] [] := by
    intro  hz r_hz hf
    unfold f_Book_step_52 at hf
    refine mv_aload_n (pc := 52) B d_Book_step_52 rfl 0 rfl ?_
    refine mv_getI (pc := 53) (ci := 12) (C := R_Book) (T := F_Book) (N := 65) B 53 rfl rfl (by decide) i_Book (B.2.2.2.1 _ k_1902) rfl d_Book_step_53 ?_
    refine mv_if_eq (pc := 56) (tgt := 64) B d_Book_step_56 rfl (fun h56 => ?_) (fun h56 => ?_)
    · skip
      have hf := xif_t h56 hf
      refine mv_iconst (pc := 64) (v := 0) B d_Book_step_64 (by decide) ?_
      refine mv_istore_n (pc := 65) B d_Book_step_65 rfl (by decide) rfl ?_
      refine mv_iconst (pc := 66) (v := 0) B d_Book_step_66 (by decide) ?_
      refine mv_istore (pc := 67) B d_Book_step_67 (by decide) rfl ?_
      refine mv_lpick [2, 1, 0] rfl ?_
      exact lp69 _ _ _ _ r_hz hf
    · skip
      have hf := xif_f h56 hf
      refine mv_aload_n (pc := 59) B d_Book_step_59 rfl 0 rfl ?_
      refine mv_getI (pc := 60) (ci := 12) (C := R_Book) (T := F_Book) (N := 65) B 53 rfl rfl (by decide) i_Book (B.2.2.2.1 _ k_1902) rfl d_Book_step_60 ?_
      exact mv_iret (pc := 63) B hr rfl d_Book_step_63 (Nat.le_refl _) (Nat.le_refl _) ⟨_, rfl, xrh_i hf r_hz⟩
  have jn19 : ∀ (y0 : Int32) (hz : mv_H), mv_r hz = mv_r h → f_Book_step_19 108 y0 hz = some (rv, rg) → mv_V p l e ({ frames := 2040, cells := 0, slots := 0, locals := 61804 }) s m ([.ref (al 108), .long a0] : List Value).toArray below meth c (mg dA D al ext) 5 0 0 (mv_Q (mg dA D al ext) below s 0 0 (mv_Ri (fun v σ1 => rv = v ∧ rg = σ1 ∧ mv_r σ1 = mv_r h))) hz 19 [(0, .ref (al 108))] [.int y0, .ref (al 108)] := by
    intro y0 hz r_hz hf
    unfold f_Book_step_19 at hf
    refine mv_putI (pc := 19) (ci := 12) (C := R_Book) (T := F_Book) (N := 65) B 53 rfl rfl (by decide) i_Book t_Book_ok n_Book (B.2.2.2.1 _ k_1902) rfl rfl rfl rfl d_Book_step_19 ?_
    refine mvh_hp (R9 := mv_r h) hf r_hz (fun g20 hf r_g20 => ?_)
    refine mv_aload_n (pc := 22) B d_Book_step_22 rfl 0 rfl ?_
    refine mv_iconst (pc := 23) (v := 0) B d_Book_step_23 (by decide) ?_
    refine mv_putI (pc := 24) (ci := 12) (C := R_Book) (T := F_Book) (N := 65) B 61 rfl rfl (by decide) i_Book t_Book_ok n_Book (B.2.2.2.1 _ k_1910) rfl rfl rfl rfl d_Book_step_24 ?_
    refine mvh_hp (R9 := mv_r h) hf r_g20 (fun g21 hf r_g21 => ?_)
    refine mv_aload_n (pc := 27) B d_Book_step_27 rfl 0 rfl ?_
    refine mv_iconst (pc := 28) (v := 0) B d_Book_step_28 (by decide) ?_
    refine mv_putI (pc := 29) (ci := 12) (C := R_Book) (T := F_Book) (N := 65) B 62 rfl rfl (by decide) i_Book t_Book_ok n_Book (B.2.2.2.1 _ k_1911) rfl rfl rfl rfl d_Book_step_29 ?_
    refine mvh_hp (R9 := mv_r h) hf r_g21 (fun g22 hf r_g22 => ?_)
    refine mv_aload_n (pc := 32) B d_Book_step_32 rfl 0 rfl ?_
    refine mv_getI (pc := 33) (ci := 12) (C := R_Book) (T := F_Book) (N := 65) B 53 rfl rfl (by decide) i_Book (B.2.2.2.1 _ k_1902) rfl d_Book_step_33 ?_
    refine mv_if_ne (pc := 36) (tgt := 52) B d_Book_step_36 rfl (fun h36 => ?_) (fun h36 => ?_)
    · skip
      have hf := xif_f h36 hf
      refine mv_lpick [0] rfl ?_
      exact jn52  _ r_g22 hf
    · skip
      have hf := xif_t h36 hf
      refine mv_aload_n (pc := 39) B d_Book_step_39 rfl 0 rfl ?_
      refine mv_aload_n (pc := 40) B d_Book_step_40 rfl 0 rfl ?_
      refine mv_getR (pc := 41) (ci := 12) (C := R_Book) (T := F_Book) (N := 65) B 26 rfl rfl (by decide) i_Book (B.2.2.2.1 _ k_1871) rfl ((congrFun (congrFun r_g22 108) 26).trans (hb 108 26 _ rfl)) d_Book_step_41 ?_
      refine mv_aload_n (pc := 44) B d_Book_step_44 rfl 0 rfl ?_
      refine mv_getI (pc := 45) (ci := 12) (C := R_Book) (T := F_Book) (N := 65) B 63 rfl rfl (by decide) i_Book (B.2.2.2.1 _ k_1912) rfl d_Book_step_45 ?_
      obtain ⟨q23, hf⟩ := xvi_e hf
      refine mv_iald (pc := 48) B rfl q23 d_Book_step_48 ?_
      obtain ⟨g24, eg24, hf⟩ := xhv_e hf
      refine mv_callVv (pc := 49) (n := 1) (ci := 12) (C := R_Book) B (mK_ok sk sv) hNs rfl rfl ((recU_y l hi 126).1 _ _ _ (xrw r_g22 hb) eg24) rfl (ma_goodc kc_Book_run) (B.2.2.2.1 _ k_2496) (B.2.2.2.1 _ k_2498) (B.2.2.2.1 _ ks_130) (B.2.2.2.1 _ k_13) ⟨by decide +kernel, by decide +kernel, by decide +kernel⟩ rfl d_Book_step_49 rfl (Nat.le_of_ble_eq_true rfl) ⟨by first | decide | (dsimp only; omega), by first | decide | (dsimp only; omega)⟩ ⟨Nat.le_refl _, Nat.le_refl _⟩ ⟨Nat.le_refl _, Nat.le_refl _⟩ (mv_noH hno _) (fun σ49 h49 => ?_)
      obtain ⟨rfl, s_g24⟩ := h49
      have r_g24 : mv_r g24 = mv_r h := s_g24.trans r_g22
      refine mv_lpick [0] rfl ?_
      exact jn52  _ r_g24 hf
  unfold f_Book_step at hf
  refine mv_aload_n (pc := 0) B d_Book_step_0 rfl 0 rfl ?_
  refine mv_lload_n (pc := 1) B d_Book_step_1 rfl 1 rfl ?_
  refine mv_putL (pc := 2) (ci := 12) (C := R_Book) (T := F_Book) (N := 65) B 52 rfl rfl (by decide) i_Book t_Book_ok n_Book (B.2.2.2.1 _ k_1901) rfl rfl d_Book_step_2 ?_
  refine mvh_hp (R9 := mv_r h) hf rfl (fun g26 hf r_g26 => ?_)
  refine mv_aload_n (pc := 5) B d_Book_step_5 rfl 0 rfl ?_
  refine mv_aload_n (pc := 6) B d_Book_step_6 rfl 0 rfl ?_
  refine mv_getI (pc := 7) (ci := 12) (C := R_Book) (T := F_Book) (N := 65) B 63 rfl rfl (by decide) i_Book (B.2.2.2.1 _ k_1912) rfl d_Book_step_7 ?_
  refine mv_if_ge (pc := 10) (tgt := 18) B d_Book_step_10 rfl (fun h10 => ?_) (fun h10 => ?_)
  · skip
    have hf := xif_t h10 hf
    refine mv_iconst (pc := 18) (v := 0) B d_Book_step_18 (by decide) ?_
    refine mv_lpick [0] rfl ?_
    exact jn19 _ _ r_g26 hf
  · skip
    have hf := xif_f h10 hf
    refine mv_bipush (pc := 13) (v := -2) B d_Book_step_13 (by decide) ?_
    refine mv_goto (pc := 15) (tgt := 19) B d_Book_step_15 rfl ?_
    refine mv_lpick [0] rfl ?_
    exact jn19 _ _ r_g26 hf
def fF_Book_fetchWord_50 (P : Nat) (k50 : Int64 → Int32 → mv_H → Option (Int32 × mv_H)) (x1 : Int64) (x4 : Int32) (hz : mv_H) : Option (Int32 × mv_H) := if x4 < (0 : Int32) then (bif xzb (1 : Int32) then some ((1 : Int32), hz) else none) else (bif xvi (mv_i hz P 21) 4100 then bif xvi (((mv_a hz (P + 5) ((mv_i hz P 21)).toNatClampNeg) + ((x1).toInt32)) + x4) 65536 then xk (mv_sl hz P 64 (((mv_l hz P 64) <<< (((8 : Int32)).toInt64 &&& 63)) ||| (mv_b hz (P + 28) ((((mv_a hz (P + 5) ((mv_i hz P 21)).toNatClampNeg) + ((x1).toInt32)) + x4)).toNatClampNeg))) fun g4 => k50 x1 (x4 + (-1)) g4 else none else none)
def f_Book_fetchWord_50 (P : Nat) : Nat → Int64 → Int32 → mv_H → Option (Int32 × mv_H)
  | 0 => fun _ _ _ => none
  | nn + 1 => fF_Book_fetchWord_50 P (f_Book_fetchWord_50 P nn)
def f_Book_fetchWord (P : Nat) (h : mv_H) : Option (Int32 × mv_H) := bif xvi (mv_i h P 18) 4100 then bif xvi (mv_i h P 21) 4100 then xhb (f_Model_in h (mv_b h (P + 27) ((mv_i h P 18)).toNatClampNeg) (0 : Int64) ((((mv_a h (P + 4) ((mv_i h P 21)).toNatClampNeg) - ((mv_i h P 20) / (8 : Int32)))).toInt64)) fun u8 g7 => if u8 = (0 : Int32) then (bif xzb (0 : Int32) then some ((0 : Int32), g7) else none) else (xk (mv_sl g7 P 64 (0 : Int64)) fun g9 => f_Book_fetchWord_50 P 200000 (mv_b h (P + 27) ((mv_i h P 18)).toNatClampNeg) (((mv_i h P 20) / (8 : Int32)) - (1 : Int32)) g9) else none else none
set_option maxHeartbeats 4000000 in
set_option maxRecDepth 100000 in
theorem ch_Book_fetchWord_x (l : Launch) {dA : FieldType → ClassId} {D : va_G} {al : Nat → Nat} {ext : mv_Sh} {sk sv : Nat → Nat} (hi : mv_inj (mg dA D al ext)) (h : mv_H) (hb : mh (mv_r h))  {rv : Int32} {rg : mv_H} (hf : f_Book_fetchWord 74 h = some (rv, rg)) : mv_C l y_Book_fetchWord (Cond.code y_Book_fetchWord b_Book_fetchWord 5 (Option.some Jvm.ClassFile.FieldType.boolean) :: ma) ({ frames := 1, cells := 0, slots := 0, locals := 25 }) (mg dA D al ext) (mK sk sv) [.ref (al 74)] h (mv_Ri (fun v σ1 => rv = v ∧ rg = σ1 ∧ mv_r σ1 = mv_r h)) := by
  refine mv_C.ofV (cc := b_Book_fetchWord) (nL := 5) (ret := (Option.some Jvm.ClassFile.FieldType.boolean)) (by decide +kernel) rfl hi (Nat.le_of_ble_eq_true rfl) ?_
  intro p e s m below meth c B hNs hr hnm hno
  have lp50 : ∀ (nn50 : Nat) (x1 : Int64) (x4 : Int32) (hz : mv_H), mv_r hz = mv_r h → f_Book_fetchWord_50 74 nn50 x1 x4 hz = some (rv, rg) → mv_V p l e ({ frames := 1, cells := 0, slots := 0, locals := 25 }) s m ([.ref (al 74)] : List Value).toArray below meth c (mg dA D al ext) 5 0 0 (mv_Q (mg dA D al ext) below s 0 0 (mv_Ri (fun v σ1 => rv = v ∧ rg = σ1 ∧ mv_r σ1 = mv_r h))) hz 50 [(0, .ref (al 74)), (1, .long x1), (4, .int x4)] [] := by
    intro nn50
    induction nn50 with
    | zero => intro x1 x4 hz r_hz hf; cases hf
    | succ nn50 ih50 =>
      intro x1 x4 hz r_hz hf
      have hf : fF_Book_fetchWord_50 74 (f_Book_fetchWord_50 74 nn50) x1 x4 hz = some (rv, rg) := hf
      unfold fF_Book_fetchWord_50 at hf
      refine mv_iload (pc := 50) B d_Book_fetchWord_50 2 rfl ?_
      refine mv_if_lt (pc := 52) (tgt := 93) B d_Book_fetchWord_52 rfl (fun h52 => ?_) (fun h52 => ?_)
      · skip
        have hf := xif_t h52 hf
        refine mv_iconst (pc := 93) (v := 1) B d_Book_fetchWord_93 (by decide) ?_
        obtain ⟨q1, hf⟩ := xzb_e hf
        exact mv_iret (pc := 94) B hr (xzb_n q1) d_Book_fetchWord_94 (Nat.le_refl _) (Nat.le_refl _) ⟨_, rfl, xrh_i hf r_hz⟩
      · skip
        have hf := xif_f h52 hf
        refine mv_aload_n (pc := 55) B d_Book_fetchWord_55 rfl 0 rfl ?_
        refine mv_aload_n (pc := 56) B d_Book_fetchWord_56 rfl 0 rfl ?_
        refine mv_getL (pc := 57) (ci := 12) (C := R_Book) (T := F_Book) (N := 65) B 64 rfl rfl (by decide) i_Book (B.2.2.2.1 _ k_1913) rfl d_Book_fetchWord_57 ?_
        refine mv_bipush (pc := 60) (v := 8) B d_Book_fetchWord_60 (by decide) ?_
        refine mv_lshl (pc := 62) B d_Book_fetchWord_62 ?_
        refine mv_aload_n (pc := 63) B d_Book_fetchWord_63 rfl 0 rfl ?_
        refine mv_getR (pc := 64) (ci := 12) (C := R_Book) (T := F_Book) (N := 65) B 56 rfl rfl (by decide) i_Book (B.2.2.2.1 _ k_1905) rfl ((congrFun (congrFun r_hz 74) 56).trans (hb 74 56 _ rfl)) d_Book_fetchWord_64 ?_
        refine mv_aload_n (pc := 67) B d_Book_fetchWord_67 rfl 0 rfl ?_
        refine mv_getR (pc := 68) (ci := 12) (C := R_Book) (T := F_Book) (N := 65) B 14 rfl rfl (by decide) i_Book (B.2.2.2.1 _ k_1857) rfl ((congrFun (congrFun r_hz 74) 14).trans (hb 74 14 _ rfl)) d_Book_fetchWord_68 ?_
        refine mv_aload_n (pc := 71) B d_Book_fetchWord_71 rfl 0 rfl ?_
        refine mv_getI (pc := 72) (ci := 12) (C := R_Book) (T := F_Book) (N := 65) B 21 rfl rfl (by decide) i_Book (B.2.2.2.1 _ k_1866) rfl d_Book_fetchWord_72 ?_
        obtain ⟨q2, hf⟩ := xvi_e hf
        refine mv_iald (pc := 75) B rfl q2 d_Book_fetchWord_75 ?_
        refine mv_lload_n (pc := 76) B d_Book_fetchWord_76 rfl 1 rfl ?_
        refine mv_l2i (pc := 77) B d_Book_fetchWord_77 ?_
        refine mv_iadd (pc := 78) B d_Book_fetchWord_78 ?_
        refine mv_iload (pc := 79) B d_Book_fetchWord_79 2 rfl ?_
        refine mv_iadd (pc := 81) B d_Book_fetchWord_81 ?_
        obtain ⟨q3, hf⟩ := xvi_e hf
        refine mv_lald (pc := 82) B rfl q3 d_Book_fetchWord_82 ?_
        refine mv_lor (pc := 83) B d_Book_fetchWord_83 ?_
        refine mv_putL (pc := 84) (ci := 12) (C := R_Book) (T := F_Book) (N := 65) B 64 rfl rfl (by decide) i_Book t_Book_ok n_Book (B.2.2.2.1 _ k_1913) rfl rfl d_Book_fetchWord_84 ?_
        refine mvh_hp (R9 := mv_r h) hf r_hz (fun g4 hf r_g4 => ?_)
        refine mv_iinc (pc := 87) (j := 2) (v := -1) B d_Book_fetchWord_87 rfl (by decide) (by decide) rfl ?_
        refine mv_goto (pc := 90) (tgt := 50) B d_Book_fetchWord_90 rfl ?_
        refine mv_lpick [1, 2, 0] rfl ?_
        exact ih50 _ _ _ r_g4 hf
  unfold f_Book_fetchWord at hf
  refine mv_aload_n (pc := 0) B d_Book_fetchWord_0 rfl 0 rfl ?_
  refine mv_getR (pc := 1) (ci := 12) (C := R_Book) (T := F_Book) (N := 65) B 55 rfl rfl (by decide) i_Book (B.2.2.2.1 _ k_1904) rfl (hb 74 55 _ rfl) d_Book_fetchWord_1 ?_
  refine mv_aload_n (pc := 4) B d_Book_fetchWord_4 rfl 0 rfl ?_
  refine mv_getI (pc := 5) (ci := 12) (C := R_Book) (T := F_Book) (N := 65) B 18 rfl rfl (by decide) i_Book (B.2.2.2.1 _ k_1862) rfl d_Book_fetchWord_5 ?_
  obtain ⟨q5, hf⟩ := xvi_e hf
  refine mv_lald (pc := 8) B rfl q5 d_Book_fetchWord_8 ?_
  refine mv_lstore_n (pc := 9) B d_Book_fetchWord_9 rfl (by decide) rfl ?_
  refine mv_aload_n (pc := 10) B d_Book_fetchWord_10 rfl 1 rfl ?_
  refine mv_getI (pc := 11) (ci := 12) (C := R_Book) (T := F_Book) (N := 65) B 20 rfl rfl (by decide) i_Book (B.2.2.2.1 _ k_1865) rfl d_Book_fetchWord_11 ?_
  refine mv_bipush (pc := 14) (v := 8) B d_Book_fetchWord_14 (by decide) ?_
  refine mv_idiv (pc := 16) B d_Book_fetchWord_16 (by decide) ?_
  refine mv_istore_n (pc := 17) B d_Book_fetchWord_17 rfl (by decide) rfl ?_
  refine mv_lload_n (pc := 18) B d_Book_fetchWord_18 rfl 1 rfl ?_
  refine mv_lconst (pc := 19) (v := 0) B d_Book_fetchWord_19 (by decide) ?_
  refine mv_aload_n (pc := 20) B d_Book_fetchWord_20 rfl 2 rfl ?_
  refine mv_getR (pc := 21) (ci := 12) (C := R_Book) (T := F_Book) (N := 65) B 13 rfl rfl (by decide) i_Book (B.2.2.2.1 _ k_1856) rfl (hb 74 13 _ rfl) d_Book_fetchWord_21 ?_
  refine mv_aload_n (pc := 24) B d_Book_fetchWord_24 rfl 2 rfl ?_
  refine mv_getI (pc := 25) (ci := 12) (C := R_Book) (T := F_Book) (N := 65) B 21 rfl rfl (by decide) i_Book (B.2.2.2.1 _ k_1866) rfl d_Book_fetchWord_25 ?_
  obtain ⟨q6, hf⟩ := xvi_e hf
  refine mv_iald (pc := 28) B rfl q6 d_Book_fetchWord_28 ?_
  refine mv_iload_n (pc := 29) B d_Book_fetchWord_29 rfl 0 rfl ?_
  refine mv_isub (pc := 30) B d_Book_fetchWord_30 ?_
  refine mv_i2l (pc := 31) B d_Book_fetchWord_31 ?_
  obtain ⟨u8, g7, eg7, hf⟩ := xhb_e hf
  refine mv_callSNi (pc := 32) (n := 3) B (mK_ok sk sv) hNs (ch_Model_in l hi _ _ _ _ eg7) rfl (ma_goodc kc_Model_in) (va_Nw.use rfl (hNs.1 _ (List.mem_of_getElem? (i := 7) rfl))) (B.2.2.2.1 _ k_2208) (B.2.2.2.1 _ k_12) ⟨by decide +kernel, by decide +kernel, by decide +kernel⟩ rfl d_Book_fetchWord_32 rfl (Nat.le_of_ble_eq_true rfl) ⟨by first | decide | (dsimp only; omega), by first | decide | (dsimp only; omega)⟩ ⟨Nat.le_refl _, Nat.le_refl _⟩ ⟨Nat.le_refl _, Nat.le_refl _⟩ (mv_noH hno _) (fun w32 σ32 h32 => ?_)
  obtain ⟨rfl, rfl, s_g7⟩ := h32
  have r_g7 : mv_r g7 = mv_r h := s_g7.trans rfl
  refine mv_if_ne (pc := 35) (tgt := 40) B d_Book_fetchWord_35 rfl (fun h35 => ?_) (fun h35 => ?_)
  · skip
    have hf := xif_f h35 hf
    refine mv_aload_n (pc := 40) B d_Book_fetchWord_40 rfl 2 rfl ?_
    refine mv_lconst (pc := 41) (v := 0) B d_Book_fetchWord_41 (by decide) ?_
    refine mv_putL (pc := 42) (ci := 12) (C := R_Book) (T := F_Book) (N := 65) B 64 rfl rfl (by decide) i_Book t_Book_ok n_Book (B.2.2.2.1 _ k_1913) rfl rfl d_Book_fetchWord_42 ?_
    refine mvh_hp (R9 := mv_r h) hf r_g7 (fun g9 hf r_g9 => ?_)
    refine mv_iload_n (pc := 45) B d_Book_fetchWord_45 rfl 0 rfl ?_
    refine mv_iconst (pc := 46) (v := 1) B d_Book_fetchWord_46 (by decide) ?_
    refine mv_isub (pc := 47) B d_Book_fetchWord_47 ?_
    refine mv_istore (pc := 48) B d_Book_fetchWord_48 (by decide) rfl ?_
    refine mv_lpick [3, 2, 0] rfl ?_
    exact lp50 _ _ _ _ r_g9 hf
  · skip
    have hf := xif_t h35 hf
    refine mv_iconst (pc := 38) (v := 0) B d_Book_fetchWord_38 (by decide) ?_
    obtain ⟨q10, hf⟩ := xzb_e hf
    exact mv_iret (pc := 39) B hr (xzb_n q10) d_Book_fetchWord_39 (Nat.le_refl _) (Nat.le_refl _) ⟨_, rfl, xrh_i hf r_g7⟩
set_option maxHeartbeats 4000000 in
set_option maxRecDepth 100000 in
theorem ch_Book_fetchWord_y (l : Launch) {dA : FieldType → ClassId} {D : va_G} {al : Nat → Nat} {ext : mv_Sh} {sk sv : Nat → Nat} (hi : mv_inj (mg dA D al ext)) (h : mv_H) (hb : mh (mv_r h))  {rv : Int32} {rg : mv_H} (hf : f_Book_fetchWord 108 h = some (rv, rg)) : mv_C l y_Book_fetchWord (Cond.code y_Book_fetchWord b_Book_fetchWord 5 (Option.some Jvm.ClassFile.FieldType.boolean) :: ma) ({ frames := 1, cells := 0, slots := 0, locals := 25 }) (mg dA D al ext) (mK sk sv) [.ref (al 108)] h (mv_Ri (fun v σ1 => rv = v ∧ rg = σ1 ∧ mv_r σ1 = mv_r h)) := by
  refine mv_C.ofV (cc := b_Book_fetchWord) (nL := 5) (ret := (Option.some Jvm.ClassFile.FieldType.boolean)) (by decide +kernel) rfl hi (Nat.le_of_ble_eq_true rfl) ?_
  intro p e s m below meth c B hNs hr hnm hno
  have lp50 : ∀ (nn50 : Nat) (x1 : Int64) (x4 : Int32) (hz : mv_H), mv_r hz = mv_r h → f_Book_fetchWord_50 108 nn50 x1 x4 hz = some (rv, rg) → mv_V p l e ({ frames := 1, cells := 0, slots := 0, locals := 25 }) s m ([.ref (al 108)] : List Value).toArray below meth c (mg dA D al ext) 5 0 0 (mv_Q (mg dA D al ext) below s 0 0 (mv_Ri (fun v σ1 => rv = v ∧ rg = σ1 ∧ mv_r σ1 = mv_r h))) hz 50 [(0, .ref (al 108)), (1, .long x1), (4, .int x4)] [] := by
    intro nn50
    induction nn50 with
    | zero => intro x1 x4 hz r_hz hf; cases hf
    | succ nn50 ih50 =>
      intro x1 x4 hz r_hz hf
      have hf : fF_Book_fetchWord_50 108 (f_Book_fetchWord_50 108 nn50) x1 x4 hz = some (rv, rg) := hf
      unfold fF_Book_fetchWord_50 at hf
      refine mv_iload (pc := 50) B d_Book_fetchWord_50 2 rfl ?_
      refine mv_if_lt (pc := 52) (tgt := 93) B d_Book_fetchWord_52 rfl (fun h52 => ?_) (fun h52 => ?_)
      · skip
        have hf := xif_t h52 hf
        refine mv_iconst (pc := 93) (v := 1) B d_Book_fetchWord_93 (by decide) ?_
        obtain ⟨q1, hf⟩ := xzb_e hf
        exact mv_iret (pc := 94) B hr (xzb_n q1) d_Book_fetchWord_94 (Nat.le_refl _) (Nat.le_refl _) ⟨_, rfl, xrh_i hf r_hz⟩
      · skip
        have hf := xif_f h52 hf
        refine mv_aload_n (pc := 55) B d_Book_fetchWord_55 rfl 0 rfl ?_
        refine mv_aload_n (pc := 56) B d_Book_fetchWord_56 rfl 0 rfl ?_
        refine mv_getL (pc := 57) (ci := 12) (C := R_Book) (T := F_Book) (N := 65) B 64 rfl rfl (by decide) i_Book (B.2.2.2.1 _ k_1913) rfl d_Book_fetchWord_57 ?_
        refine mv_bipush (pc := 60) (v := 8) B d_Book_fetchWord_60 (by decide) ?_
        refine mv_lshl (pc := 62) B d_Book_fetchWord_62 ?_
        refine mv_aload_n (pc := 63) B d_Book_fetchWord_63 rfl 0 rfl ?_
        refine mv_getR (pc := 64) (ci := 12) (C := R_Book) (T := F_Book) (N := 65) B 56 rfl rfl (by decide) i_Book (B.2.2.2.1 _ k_1905) rfl ((congrFun (congrFun r_hz 108) 56).trans (hb 108 56 _ rfl)) d_Book_fetchWord_64 ?_
        refine mv_aload_n (pc := 67) B d_Book_fetchWord_67 rfl 0 rfl ?_
        refine mv_getR (pc := 68) (ci := 12) (C := R_Book) (T := F_Book) (N := 65) B 14 rfl rfl (by decide) i_Book (B.2.2.2.1 _ k_1857) rfl ((congrFun (congrFun r_hz 108) 14).trans (hb 108 14 _ rfl)) d_Book_fetchWord_68 ?_
        refine mv_aload_n (pc := 71) B d_Book_fetchWord_71 rfl 0 rfl ?_
        refine mv_getI (pc := 72) (ci := 12) (C := R_Book) (T := F_Book) (N := 65) B 21 rfl rfl (by decide) i_Book (B.2.2.2.1 _ k_1866) rfl d_Book_fetchWord_72 ?_
        obtain ⟨q2, hf⟩ := xvi_e hf
        refine mv_iald (pc := 75) B rfl q2 d_Book_fetchWord_75 ?_
        refine mv_lload_n (pc := 76) B d_Book_fetchWord_76 rfl 1 rfl ?_
        refine mv_l2i (pc := 77) B d_Book_fetchWord_77 ?_
        refine mv_iadd (pc := 78) B d_Book_fetchWord_78 ?_
        refine mv_iload (pc := 79) B d_Book_fetchWord_79 2 rfl ?_
        refine mv_iadd (pc := 81) B d_Book_fetchWord_81 ?_
        obtain ⟨q3, hf⟩ := xvi_e hf
        refine mv_lald (pc := 82) B rfl q3 d_Book_fetchWord_82 ?_
        refine mv_lor (pc := 83) B d_Book_fetchWord_83 ?_
        refine mv_putL (pc := 84) (ci := 12) (C := R_Book) (T := F_Book) (N := 65) B 64 rfl rfl (by decide) i_Book t_Book_ok n_Book (B.2.2.2.1 _ k_1913) rfl rfl d_Book_fetchWord_84 ?_
        refine mvh_hp (R9 := mv_r h) hf r_hz (fun g4 hf r_g4 => ?_)
        refine mv_iinc (pc := 87) (j := 2) (v := -1) B d_Book_fetchWord_87 rfl (by decide) (by decide) rfl ?_
        refine mv_goto (pc := 90) (tgt := 50) B d_Book_fetchWord_90 rfl ?_
        refine mv_lpick [1, 2, 0] rfl ?_
        exact ih50 _ _ _ r_g4 hf
  unfold f_Book_fetchWord at hf
  refine mv_aload_n (pc := 0) B d_Book_fetchWord_0 rfl 0 rfl ?_
  refine mv_getR (pc := 1) (ci := 12) (C := R_Book) (T := F_Book) (N := 65) B 55 rfl rfl (by decide) i_Book (B.2.2.2.1 _ k_1904) rfl (hb 108 55 _ rfl) d_Book_fetchWord_1 ?_
  refine mv_aload_n (pc := 4) B d_Book_fetchWord_4 rfl 0 rfl ?_
  refine mv_getI (pc := 5) (ci := 12) (C := R_Book) (T := F_Book) (N := 65) B 18 rfl rfl (by decide) i_Book (B.2.2.2.1 _ k_1862) rfl d_Book_fetchWord_5 ?_
  obtain ⟨q5, hf⟩ := xvi_e hf
  refine mv_lald (pc := 8) B rfl q5 d_Book_fetchWord_8 ?_
  refine mv_lstore_n (pc := 9) B d_Book_fetchWord_9 rfl (by decide) rfl ?_
  refine mv_aload_n (pc := 10) B d_Book_fetchWord_10 rfl 1 rfl ?_
  refine mv_getI (pc := 11) (ci := 12) (C := R_Book) (T := F_Book) (N := 65) B 20 rfl rfl (by decide) i_Book (B.2.2.2.1 _ k_1865) rfl d_Book_fetchWord_11 ?_
  refine mv_bipush (pc := 14) (v := 8) B d_Book_fetchWord_14 (by decide) ?_
  refine mv_idiv (pc := 16) B d_Book_fetchWord_16 (by decide) ?_
  refine mv_istore_n (pc := 17) B d_Book_fetchWord_17 rfl (by decide) rfl ?_
  refine mv_lload_n (pc := 18) B d_Book_fetchWord_18 rfl 1 rfl ?_
  refine mv_lconst (pc := 19) (v := 0) B d_Book_fetchWord_19 (by decide) ?_
  refine mv_aload_n (pc := 20) B d_Book_fetchWord_20 rfl 2 rfl ?_
  refine mv_getR (pc := 21) (ci := 12) (C := R_Book) (T := F_Book) (N := 65) B 13 rfl rfl (by decide) i_Book (B.2.2.2.1 _ k_1856) rfl (hb 108 13 _ rfl) d_Book_fetchWord_21 ?_
  refine mv_aload_n (pc := 24) B d_Book_fetchWord_24 rfl 2 rfl ?_
  refine mv_getI (pc := 25) (ci := 12) (C := R_Book) (T := F_Book) (N := 65) B 21 rfl rfl (by decide) i_Book (B.2.2.2.1 _ k_1866) rfl d_Book_fetchWord_25 ?_
  obtain ⟨q6, hf⟩ := xvi_e hf
  refine mv_iald (pc := 28) B rfl q6 d_Book_fetchWord_28 ?_
  refine mv_iload_n (pc := 29) B d_Book_fetchWord_29 rfl 0 rfl ?_
  refine mv_isub (pc := 30) B d_Book_fetchWord_30 ?_
  refine mv_i2l (pc := 31) B d_Book_fetchWord_31 ?_
  obtain ⟨u8, g7, eg7, hf⟩ := xhb_e hf
  refine mv_callSNi (pc := 32) (n := 3) B (mK_ok sk sv) hNs (ch_Model_in l hi _ _ _ _ eg7) rfl (ma_goodc kc_Model_in) (va_Nw.use rfl (hNs.1 _ (List.mem_of_getElem? (i := 7) rfl))) (B.2.2.2.1 _ k_2208) (B.2.2.2.1 _ k_12) ⟨by decide +kernel, by decide +kernel, by decide +kernel⟩ rfl d_Book_fetchWord_32 rfl (Nat.le_of_ble_eq_true rfl) ⟨by first | decide | (dsimp only; omega), by first | decide | (dsimp only; omega)⟩ ⟨Nat.le_refl _, Nat.le_refl _⟩ ⟨Nat.le_refl _, Nat.le_refl _⟩ (mv_noH hno _) (fun w32 σ32 h32 => ?_)
  obtain ⟨rfl, rfl, s_g7⟩ := h32
  have r_g7 : mv_r g7 = mv_r h := s_g7.trans rfl
  refine mv_if_ne (pc := 35) (tgt := 40) B d_Book_fetchWord_35 rfl (fun h35 => ?_) (fun h35 => ?_)
  · skip
    have hf := xif_f h35 hf
    refine mv_aload_n (pc := 40) B d_Book_fetchWord_40 rfl 2 rfl ?_
    refine mv_lconst (pc := 41) (v := 0) B d_Book_fetchWord_41 (by decide) ?_
    refine mv_putL (pc := 42) (ci := 12) (C := R_Book) (T := F_Book) (N := 65) B 64 rfl rfl (by decide) i_Book t_Book_ok n_Book (B.2.2.2.1 _ k_1913) rfl rfl d_Book_fetchWord_42 ?_
    refine mvh_hp (R9 := mv_r h) hf r_g7 (fun g9 hf r_g9 => ?_)
    refine mv_iload_n (pc := 45) B d_Book_fetchWord_45 rfl 0 rfl ?_
    refine mv_iconst (pc := 46) (v := 1) B d_Book_fetchWord_46 (by decide) ?_
    refine mv_isub (pc := 47) B d_Book_fetchWord_47 ?_
    refine mv_istore (pc := 48) B d_Book_fetchWord_48 (by decide) rfl ?_
    refine mv_lpick [3, 2, 0] rfl ?_
    exact lp50 _ _ _ _ r_g9 hf
  · skip
    have hf := xif_t h35 hf
    refine mv_iconst (pc := 38) (v := 0) B d_Book_fetchWord_38 (by decide) ?_
    obtain ⟨q10, hf⟩ := xzb_e hf
    exact mv_iret (pc := 39) B hr (xzb_n q10) d_Book_fetchWord_39 (Nat.le_refl _) (Nat.le_refl _) ⟨_, rfl, xrh_i hf r_g7⟩
def f_Book_fetched (P : Nat) (h : mv_H) : Option (Int64 × mv_H) := some ((mv_l h P 64), h)
set_option maxHeartbeats 4000000 in
set_option maxRecDepth 100000 in
theorem ch_Book_fetched_x (l : Launch) {dA : FieldType → ClassId} {D : va_G} {al : Nat → Nat} {ext : mv_Sh} {sk sv : Nat → Nat} (hi : mv_inj (mg dA D al ext)) (h : mv_H) (hb : mh (mv_r h))  {rv : Int64} {rg : mv_H} (hf : f_Book_fetched 74 h = some (rv, rg)) : mv_C l y_Book_fetched (Cond.code y_Book_fetched b_Book_fetched 1 (Option.some Jvm.ClassFile.FieldType.long) :: ma) ({ frames := 0, cells := 0, slots := 0, locals := 0 }) (mg dA D al ext) (mK sk sv) [.ref (al 74)] h (mv_Rl (fun v σ1 => rv = v ∧ rg = σ1 ∧ mv_r σ1 = mv_r h)) := by
  refine mv_C.ofV (cc := b_Book_fetched) (nL := 1) (ret := (Option.some Jvm.ClassFile.FieldType.long)) (by decide +kernel) rfl hi (Nat.le_of_ble_eq_true rfl) ?_
  intro p e s m below meth c B hNs hr hnm hno
  unfold f_Book_fetched at hf
  refine mv_aload_n (pc := 0) B d_Book_fetched_0 rfl 0 rfl ?_
  refine mv_getL (pc := 1) (ci := 12) (C := R_Book) (T := F_Book) (N := 65) B 64 rfl rfl (by decide) i_Book (B.2.2.2.1 _ k_1913) rfl d_Book_fetched_1 ?_
  exact mv_lret (pc := 4) B hr d_Book_fetched_4 (Nat.le_refl _) (Nat.le_refl _) ⟨_, rfl, xrh_l hf rfl⟩
set_option maxHeartbeats 4000000 in
set_option maxRecDepth 100000 in
theorem ch_Book_fetched_y (l : Launch) {dA : FieldType → ClassId} {D : va_G} {al : Nat → Nat} {ext : mv_Sh} {sk sv : Nat → Nat} (hi : mv_inj (mg dA D al ext)) (h : mv_H) (hb : mh (mv_r h))  {rv : Int64} {rg : mv_H} (hf : f_Book_fetched 108 h = some (rv, rg)) : mv_C l y_Book_fetched (Cond.code y_Book_fetched b_Book_fetched 1 (Option.some Jvm.ClassFile.FieldType.long) :: ma) ({ frames := 0, cells := 0, slots := 0, locals := 0 }) (mg dA D al ext) (mK sk sv) [.ref (al 108)] h (mv_Rl (fun v σ1 => rv = v ∧ rg = σ1 ∧ mv_r σ1 = mv_r h)) := by
  refine mv_C.ofV (cc := b_Book_fetched) (nL := 1) (ret := (Option.some Jvm.ClassFile.FieldType.long)) (by decide +kernel) rfl hi (Nat.le_of_ble_eq_true rfl) ?_
  intro p e s m below meth c B hNs hr hnm hno
  unfold f_Book_fetched at hf
  refine mv_aload_n (pc := 0) B d_Book_fetched_0 rfl 0 rfl ?_
  refine mv_getL (pc := 1) (ci := 12) (C := R_Book) (T := F_Book) (N := 65) B 64 rfl rfl (by decide) i_Book (B.2.2.2.1 _ k_1913) rfl d_Book_fetched_1 ?_
  exact mv_lret (pc := 4) B hr d_Book_fetched_4 (Nat.le_refl _) (Nat.le_refl _) ⟨_, rfl, xrh_l hf rfl⟩
def f_Book_poke_41 (P : Nat) (x1 : Int32) (x2 : Int32) (x3 : Int64) (hz : mv_H) : Option mv_H := bif xvi x1 4100 then bif xvi x1 4100 then xhb (f_Book_cut hz x3 (mv_a hz (P + 3) (x1).toNatClampNeg)) fun u4 g3 => bif xvi ((mv_a hz (P + 5) (x1).toNatClampNeg) + x2) 65536 then xk (mv_sb g3 (P + 28) (((mv_a hz (P + 5) (x1).toNatClampNeg) + x2)).toNatClampNeg u4) fun g6 => some g6 else none else none else none
def f_Book_poke (P : Nat) (h : mv_H) (a0 : Int32) (a1 : Int32) (a2 : Int64) : Option mv_H := bif xvi a0 4100 then if (mv_a h (P + 6) (a0).toNatClampNeg) = (0 : Int32) then (bif xvi a0 4100 then xhb (f_Book_cut h a2 (mv_a h (P + 3) (a0).toNatClampNeg)) fun u11 g10 => bif xvi a0 4100 then xk (mv_sb g10 (P + 27) (a0).toNatClampNeg u11) fun g13 => some g13 else none else none) else (bif xvi a0 4100 then if (mv_a h (P + 7) (a0).toNatClampNeg) = (0 : Int32) then (f_Book_poke_41 P a0 a1 a2 h) else (if a1 ≤ (0 : Int32) then (some h) else (f_Book_poke_41 P a0 a1 a2 h)) else none) else none
set_option maxHeartbeats 4000000 in
set_option maxRecDepth 100000 in
theorem ch_Book_poke_x (l : Launch) {dA : FieldType → ClassId} {D : va_G} {al : Nat → Nat} {ext : mv_Sh} {sk sv : Nat → Nat} (hi : mv_inj (mg dA D al ext)) (h : mv_H) (hb : mh (mv_r h))  (a0 : Int32) (a1 : Int32) (a2 : Int64) {rg : mv_H} (hf : f_Book_poke 74 h a0 a1 a2 = some rg) : mv_C l y_Book_poke (Cond.code y_Book_poke b_Book_poke 5 (Option.none : Option Jvm.ClassFile.FieldType) :: ma) ({ frames := 1, cells := 0, slots := 0, locals := 22 }) (mg dA D al ext) (mK sk sv) [.ref (al 74), .int a0, .int a1, .long a2] h (mv_Rv (fun σ1 => rg = σ1 ∧ mv_r σ1 = mv_r h)) := by
  refine mv_C.ofV (cc := b_Book_poke) (nL := 5) (ret := (Option.none : Option Jvm.ClassFile.FieldType)) (by decide +kernel) rfl hi (Nat.le_of_ble_eq_true rfl) ?_
  intro p e s m below meth c B hNs hr hnm hno
  have jn41 : ∀ (x1 : Int32) (x2 : Int32) (x3 : Int64) (hz : mv_H), mv_r hz = mv_r h → f_Book_poke_41 74 x1 x2 x3 hz = some rg → mv_V p l e ({ frames := 1, cells := 0, slots := 0, locals := 22 }) s m ([.ref (al 74), .int a0, .int a1, .long a2] : List Value).toArray below meth c (mg dA D al ext) 5 0 0 (mv_Q (mg dA D al ext) below s 0 0 (mv_Rv (fun σ1 => rg = σ1 ∧ mv_r σ1 = mv_r h))) hz 41 [(0, .ref (al 74)), (1, .int x1), (2, .int x2), (3, .long x3)] [] := by
    intro x1 x2 x3 hz r_hz hf
    unfold f_Book_poke_41 at hf
    refine mv_aload_n (pc := 41) B d_Book_poke_41 rfl 0 rfl ?_
    refine mv_getR (pc := 42) (ci := 12) (C := R_Book) (T := F_Book) (N := 65) B 56 rfl rfl (by decide) i_Book (B.2.2.2.1 _ k_1905) rfl ((congrFun (congrFun r_hz 74) 56).trans (hb 74 56 _ rfl)) d_Book_poke_42 ?_
    refine mv_aload_n (pc := 45) B d_Book_poke_45 rfl 0 rfl ?_
    refine mv_getR (pc := 46) (ci := 12) (C := R_Book) (T := F_Book) (N := 65) B 14 rfl rfl (by decide) i_Book (B.2.2.2.1 _ k_1857) rfl ((congrFun (congrFun r_hz 74) 14).trans (hb 74 14 _ rfl)) d_Book_poke_46 ?_
    refine mv_iload_n (pc := 49) B d_Book_poke_49 rfl 1 rfl ?_
    obtain ⟨q1, hf⟩ := xvi_e hf
    refine mv_iald (pc := 50) B rfl q1 d_Book_poke_50 ?_
    refine mv_iload_n (pc := 51) B d_Book_poke_51 rfl 2 rfl ?_
    refine mv_iadd (pc := 52) B d_Book_poke_52 ?_
    refine mv_lload_n (pc := 53) B d_Book_poke_53 rfl 3 rfl ?_
    refine mv_aload_n (pc := 54) B d_Book_poke_54 rfl 0 rfl ?_
    refine mv_getR (pc := 55) (ci := 12) (C := R_Book) (T := F_Book) (N := 65) B 12 rfl rfl (by decide) i_Book (B.2.2.2.1 _ k_1855) rfl ((congrFun (congrFun r_hz 74) 12).trans (hb 74 12 _ rfl)) d_Book_poke_55 ?_
    refine mv_iload_n (pc := 58) B d_Book_poke_58 rfl 1 rfl ?_
    obtain ⟨q2, hf⟩ := xvi_e hf
    refine mv_iald (pc := 59) B rfl q2 d_Book_poke_59 ?_
    obtain ⟨u4, g3, eg3, hf⟩ := xhb_e hf
    refine mv_callSl (pc := 60) (n := 2) B (mK_ok sk sv) hNs (ch_Book_cut l hi _ _ _ eg3) rfl (ma_goodc kc_Book_cut) (B.2.2.2.1 _ k_2427) (B.2.2.2.1 _ k_2428) (B.2.2.2.1 _ k_13) ⟨by decide +kernel, by decide +kernel, by decide +kernel⟩ rfl d_Book_poke_60 rfl (Nat.le_of_ble_eq_true rfl) ⟨by first | decide | (dsimp only; omega), by first | decide | (dsimp only; omega)⟩ ⟨Nat.le_refl _, Nat.le_refl _⟩ ⟨Nat.le_refl _, Nat.le_refl _⟩ (mv_noH hno _) (fun w60 σ60 h60 => ?_)
    obtain ⟨rfl, rfl, s_g3⟩ := h60
    have r_g3 : mv_r g3 = mv_r h := s_g3.trans r_hz
    obtain ⟨q5, hf⟩ := xvi_e hf
    refine mv_last (pc := 63) B rfl q5 d_Book_poke_63 ?_
    refine mvh_hp (R9 := mv_r h) hf r_g3 (fun g6 hf r_g6 => ?_)
    exact mv_vret (pc := 64) B hr d_Book_poke_64 (Nat.le_refl _) (Nat.le_refl _) ⟨rfl, xrh_v hf r_g6⟩
  unfold f_Book_poke at hf
  refine mv_aload_n (pc := 0) B d_Book_poke_0 rfl 0 rfl ?_
  refine mv_getR (pc := 1) (ci := 12) (C := R_Book) (T := F_Book) (N := 65) B 15 rfl rfl (by decide) i_Book (B.2.2.2.1 _ k_1858) rfl (hb 74 15 _ rfl) d_Book_poke_1 ?_
  refine mv_iload_n (pc := 4) B d_Book_poke_4 rfl 1 rfl ?_
  obtain ⟨q7, hf⟩ := xvi_e hf
  refine mv_zald (pc := 5) B rfl q7 d_Book_poke_5 ?_
  refine mv_if_ne (pc := 6) (tgt := 28) B d_Book_poke_6 rfl (fun h6 => ?_) (fun h6 => ?_)
  · skip
    have hf := xif_f h6 hf
    refine mv_aload_n (pc := 28) B d_Book_poke_28 rfl 0 rfl ?_
    refine mv_getR (pc := 29) (ci := 12) (C := R_Book) (T := F_Book) (N := 65) B 16 rfl rfl (by decide) i_Book (B.2.2.2.1 _ k_1859) rfl (hb 74 16 _ rfl) d_Book_poke_29 ?_
    refine mv_iload_n (pc := 32) B d_Book_poke_32 rfl 1 rfl ?_
    obtain ⟨q8, hf⟩ := xvi_e hf
    refine mv_zald (pc := 33) B rfl q8 d_Book_poke_33 ?_
    refine mv_if_eq (pc := 34) (tgt := 41) B d_Book_poke_34 rfl (fun h34 => ?_) (fun h34 => ?_)
    · skip
      have hf := xif_t h34 hf
      refine mv_lpick [0, 1, 2, 3] rfl ?_
      exact jn41 _ _ _ _ rfl hf
    · skip
      have hf := xif_f h34 hf
      refine mv_iload_n (pc := 37) B d_Book_poke_37 rfl 2 rfl ?_
      refine mv_if_le (pc := 38) (tgt := 64) B d_Book_poke_38 rfl (fun h38 => ?_) (fun h38 => ?_)
      · skip
        have hf := xif_t h38 hf
        exact mv_vret (pc := 64) B hr d_Book_poke_64 (Nat.le_refl _) (Nat.le_refl _) ⟨rfl, xrh_v hf rfl⟩
      · skip
        have hf := xif_f h38 hf
        refine mv_lpick [0, 1, 2, 3] rfl ?_
        exact jn41 _ _ _ _ rfl hf
  · skip
    have hf := xif_t h6 hf
    refine mv_aload_n (pc := 9) B d_Book_poke_9 rfl 0 rfl ?_
    refine mv_getR (pc := 10) (ci := 12) (C := R_Book) (T := F_Book) (N := 65) B 55 rfl rfl (by decide) i_Book (B.2.2.2.1 _ k_1904) rfl (hb 74 55 _ rfl) d_Book_poke_10 ?_
    refine mv_iload_n (pc := 13) B d_Book_poke_13 rfl 1 rfl ?_
    refine mv_lload_n (pc := 14) B d_Book_poke_14 rfl 3 rfl ?_
    refine mv_aload_n (pc := 15) B d_Book_poke_15 rfl 0 rfl ?_
    refine mv_getR (pc := 16) (ci := 12) (C := R_Book) (T := F_Book) (N := 65) B 12 rfl rfl (by decide) i_Book (B.2.2.2.1 _ k_1855) rfl (hb 74 12 _ rfl) d_Book_poke_16 ?_
    refine mv_iload_n (pc := 19) B d_Book_poke_19 rfl 1 rfl ?_
    obtain ⟨q9, hf⟩ := xvi_e hf
    refine mv_iald (pc := 20) B rfl q9 d_Book_poke_20 ?_
    obtain ⟨u11, g10, eg10, hf⟩ := xhb_e hf
    refine mv_callSl (pc := 21) (n := 2) B (mK_ok sk sv) hNs (ch_Book_cut l hi _ _ _ eg10) rfl (ma_goodc kc_Book_cut) (B.2.2.2.1 _ k_2427) (B.2.2.2.1 _ k_2428) (B.2.2.2.1 _ k_13) ⟨by decide +kernel, by decide +kernel, by decide +kernel⟩ rfl d_Book_poke_21 rfl (Nat.le_of_ble_eq_true rfl) ⟨by first | decide | (dsimp only; omega), by first | decide | (dsimp only; omega)⟩ ⟨Nat.le_refl _, Nat.le_refl _⟩ ⟨Nat.le_refl _, Nat.le_refl _⟩ (mv_noH hno _) (fun w21 σ21 h21 => ?_)
    obtain ⟨rfl, rfl, s_g10⟩ := h21
    have r_g10 : mv_r g10 = mv_r h := s_g10.trans rfl
    obtain ⟨q12, hf⟩ := xvi_e hf
    refine mv_last (pc := 24) B rfl q12 d_Book_poke_24 ?_
    refine mvh_hp (R9 := mv_r h) hf r_g10 (fun g13 hf r_g13 => ?_)
    refine mv_goto (pc := 25) (tgt := 64) B d_Book_poke_25 rfl ?_
    exact mv_vret (pc := 64) B hr d_Book_poke_64 (Nat.le_refl _) (Nat.le_refl _) ⟨rfl, xrh_v hf r_g13⟩
set_option maxHeartbeats 4000000 in
set_option maxRecDepth 100000 in
theorem ch_Book_poke_y (l : Launch) {dA : FieldType → ClassId} {D : va_G} {al : Nat → Nat} {ext : mv_Sh} {sk sv : Nat → Nat} (hi : mv_inj (mg dA D al ext)) (h : mv_H) (hb : mh (mv_r h))  (a0 : Int32) (a1 : Int32) (a2 : Int64) {rg : mv_H} (hf : f_Book_poke 108 h a0 a1 a2 = some rg) : mv_C l y_Book_poke (Cond.code y_Book_poke b_Book_poke 5 (Option.none : Option Jvm.ClassFile.FieldType) :: ma) ({ frames := 1, cells := 0, slots := 0, locals := 22 }) (mg dA D al ext) (mK sk sv) [.ref (al 108), .int a0, .int a1, .long a2] h (mv_Rv (fun σ1 => rg = σ1 ∧ mv_r σ1 = mv_r h)) := by
  refine mv_C.ofV (cc := b_Book_poke) (nL := 5) (ret := (Option.none : Option Jvm.ClassFile.FieldType)) (by decide +kernel) rfl hi (Nat.le_of_ble_eq_true rfl) ?_
  intro p e s m below meth c B hNs hr hnm hno
  have jn41 : ∀ (x1 : Int32) (x2 : Int32) (x3 : Int64) (hz : mv_H), mv_r hz = mv_r h → f_Book_poke_41 108 x1 x2 x3 hz = some rg → mv_V p l e ({ frames := 1, cells := 0, slots := 0, locals := 22 }) s m ([.ref (al 108), .int a0, .int a1, .long a2] : List Value).toArray below meth c (mg dA D al ext) 5 0 0 (mv_Q (mg dA D al ext) below s 0 0 (mv_Rv (fun σ1 => rg = σ1 ∧ mv_r σ1 = mv_r h))) hz 41 [(0, .ref (al 108)), (1, .int x1), (2, .int x2), (3, .long x3)] [] := by
    intro x1 x2 x3 hz r_hz hf
    unfold f_Book_poke_41 at hf
    refine mv_aload_n (pc := 41) B d_Book_poke_41 rfl 0 rfl ?_
    refine mv_getR (pc := 42) (ci := 12) (C := R_Book) (T := F_Book) (N := 65) B 56 rfl rfl (by decide) i_Book (B.2.2.2.1 _ k_1905) rfl ((congrFun (congrFun r_hz 108) 56).trans (hb 108 56 _ rfl)) d_Book_poke_42 ?_
    refine mv_aload_n (pc := 45) B d_Book_poke_45 rfl 0 rfl ?_
    refine mv_getR (pc := 46) (ci := 12) (C := R_Book) (T := F_Book) (N := 65) B 14 rfl rfl (by decide) i_Book (B.2.2.2.1 _ k_1857) rfl ((congrFun (congrFun r_hz 108) 14).trans (hb 108 14 _ rfl)) d_Book_poke_46 ?_
    refine mv_iload_n (pc := 49) B d_Book_poke_49 rfl 1 rfl ?_
    obtain ⟨q1, hf⟩ := xvi_e hf
    refine mv_iald (pc := 50) B rfl q1 d_Book_poke_50 ?_
    refine mv_iload_n (pc := 51) B d_Book_poke_51 rfl 2 rfl ?_
    refine mv_iadd (pc := 52) B d_Book_poke_52 ?_
    refine mv_lload_n (pc := 53) B d_Book_poke_53 rfl 3 rfl ?_
    refine mv_aload_n (pc := 54) B d_Book_poke_54 rfl 0 rfl ?_
    refine mv_getR (pc := 55) (ci := 12) (C := R_Book) (T := F_Book) (N := 65) B 12 rfl rfl (by decide) i_Book (B.2.2.2.1 _ k_1855) rfl ((congrFun (congrFun r_hz 108) 12).trans (hb 108 12 _ rfl)) d_Book_poke_55 ?_
    refine mv_iload_n (pc := 58) B d_Book_poke_58 rfl 1 rfl ?_
    obtain ⟨q2, hf⟩ := xvi_e hf
    refine mv_iald (pc := 59) B rfl q2 d_Book_poke_59 ?_
    obtain ⟨u4, g3, eg3, hf⟩ := xhb_e hf
    refine mv_callSl (pc := 60) (n := 2) B (mK_ok sk sv) hNs (ch_Book_cut l hi _ _ _ eg3) rfl (ma_goodc kc_Book_cut) (B.2.2.2.1 _ k_2427) (B.2.2.2.1 _ k_2428) (B.2.2.2.1 _ k_13) ⟨by decide +kernel, by decide +kernel, by decide +kernel⟩ rfl d_Book_poke_60 rfl (Nat.le_of_ble_eq_true rfl) ⟨by first | decide | (dsimp only; omega), by first | decide | (dsimp only; omega)⟩ ⟨Nat.le_refl _, Nat.le_refl _⟩ ⟨Nat.le_refl _, Nat.le_refl _⟩ (mv_noH hno _) (fun w60 σ60 h60 => ?_)
    obtain ⟨rfl, rfl, s_g3⟩ := h60
    have r_g3 : mv_r g3 = mv_r h := s_g3.trans r_hz
    obtain ⟨q5, hf⟩ := xvi_e hf
    refine mv_last (pc := 63) B rfl q5 d_Book_poke_63 ?_
    refine mvh_hp (R9 := mv_r h) hf r_g3 (fun g6 hf r_g6 => ?_)
    exact mv_vret (pc := 64) B hr d_Book_poke_64 (Nat.le_refl _) (Nat.le_refl _) ⟨rfl, xrh_v hf r_g6⟩
  unfold f_Book_poke at hf
  refine mv_aload_n (pc := 0) B d_Book_poke_0 rfl 0 rfl ?_
  refine mv_getR (pc := 1) (ci := 12) (C := R_Book) (T := F_Book) (N := 65) B 15 rfl rfl (by decide) i_Book (B.2.2.2.1 _ k_1858) rfl (hb 108 15 _ rfl) d_Book_poke_1 ?_
  refine mv_iload_n (pc := 4) B d_Book_poke_4 rfl 1 rfl ?_
  obtain ⟨q7, hf⟩ := xvi_e hf
  refine mv_zald (pc := 5) B rfl q7 d_Book_poke_5 ?_
  refine mv_if_ne (pc := 6) (tgt := 28) B d_Book_poke_6 rfl (fun h6 => ?_) (fun h6 => ?_)
  · skip
    have hf := xif_f h6 hf
    refine mv_aload_n (pc := 28) B d_Book_poke_28 rfl 0 rfl ?_
    refine mv_getR (pc := 29) (ci := 12) (C := R_Book) (T := F_Book) (N := 65) B 16 rfl rfl (by decide) i_Book (B.2.2.2.1 _ k_1859) rfl (hb 108 16 _ rfl) d_Book_poke_29 ?_
    refine mv_iload_n (pc := 32) B d_Book_poke_32 rfl 1 rfl ?_
    obtain ⟨q8, hf⟩ := xvi_e hf
    refine mv_zald (pc := 33) B rfl q8 d_Book_poke_33 ?_
    refine mv_if_eq (pc := 34) (tgt := 41) B d_Book_poke_34 rfl (fun h34 => ?_) (fun h34 => ?_)
    · skip
      have hf := xif_t h34 hf
      refine mv_lpick [0, 1, 2, 3] rfl ?_
      exact jn41 _ _ _ _ rfl hf
    · skip
      have hf := xif_f h34 hf
      refine mv_iload_n (pc := 37) B d_Book_poke_37 rfl 2 rfl ?_
      refine mv_if_le (pc := 38) (tgt := 64) B d_Book_poke_38 rfl (fun h38 => ?_) (fun h38 => ?_)
      · skip
        have hf := xif_t h38 hf
        exact mv_vret (pc := 64) B hr d_Book_poke_64 (Nat.le_refl _) (Nat.le_refl _) ⟨rfl, xrh_v hf rfl⟩
      · skip
        have hf := xif_f h38 hf
        refine mv_lpick [0, 1, 2, 3] rfl ?_
        exact jn41 _ _ _ _ rfl hf
  · skip
    have hf := xif_t h6 hf
    refine mv_aload_n (pc := 9) B d_Book_poke_9 rfl 0 rfl ?_
    refine mv_getR (pc := 10) (ci := 12) (C := R_Book) (T := F_Book) (N := 65) B 55 rfl rfl (by decide) i_Book (B.2.2.2.1 _ k_1904) rfl (hb 108 55 _ rfl) d_Book_poke_10 ?_
    refine mv_iload_n (pc := 13) B d_Book_poke_13 rfl 1 rfl ?_
    refine mv_lload_n (pc := 14) B d_Book_poke_14 rfl 3 rfl ?_
    refine mv_aload_n (pc := 15) B d_Book_poke_15 rfl 0 rfl ?_
    refine mv_getR (pc := 16) (ci := 12) (C := R_Book) (T := F_Book) (N := 65) B 12 rfl rfl (by decide) i_Book (B.2.2.2.1 _ k_1855) rfl (hb 108 12 _ rfl) d_Book_poke_16 ?_
    refine mv_iload_n (pc := 19) B d_Book_poke_19 rfl 1 rfl ?_
    obtain ⟨q9, hf⟩ := xvi_e hf
    refine mv_iald (pc := 20) B rfl q9 d_Book_poke_20 ?_
    obtain ⟨u11, g10, eg10, hf⟩ := xhb_e hf
    refine mv_callSl (pc := 21) (n := 2) B (mK_ok sk sv) hNs (ch_Book_cut l hi _ _ _ eg10) rfl (ma_goodc kc_Book_cut) (B.2.2.2.1 _ k_2427) (B.2.2.2.1 _ k_2428) (B.2.2.2.1 _ k_13) ⟨by decide +kernel, by decide +kernel, by decide +kernel⟩ rfl d_Book_poke_21 rfl (Nat.le_of_ble_eq_true rfl) ⟨by first | decide | (dsimp only; omega), by first | decide | (dsimp only; omega)⟩ ⟨Nat.le_refl _, Nat.le_refl _⟩ ⟨Nat.le_refl _, Nat.le_refl _⟩ (mv_noH hno _) (fun w21 σ21 h21 => ?_)
    obtain ⟨rfl, rfl, s_g10⟩ := h21
    have r_g10 : mv_r g10 = mv_r h := s_g10.trans rfl
    obtain ⟨q12, hf⟩ := xvi_e hf
    refine mv_last (pc := 24) B rfl q12 d_Book_poke_24 ?_
    refine mvh_hp (R9 := mv_r h) hf r_g10 (fun g13 hf r_g13 => ?_)
    refine mv_goto (pc := 25) (tgt := 64) B d_Book_poke_25 rfl ?_
    exact mv_vret (pc := 64) B hr d_Book_poke_64 (Nat.le_refl _) (Nat.le_refl _) ⟨rfl, xrh_v hf r_g13⟩
def f_Book_peek (P : Nat) (h : mv_H) (a0 : Int32) (a1 : Int32) : Option (Int64 × mv_H) := bif xvi a0 4100 then if (mv_a h (P + 6) (a0).toNatClampNeg) = (0 : Int32) then (bif xvi a0 4100 then some ((mv_b h (P + 27) (a0).toNatClampNeg), h) else none) else (bif xvi a0 4100 then bif xvi ((mv_a h (P + 5) (a0).toNatClampNeg) + a1) 65536 then some ((mv_b h (P + 28) (((mv_a h (P + 5) (a0).toNatClampNeg) + a1)).toNatClampNeg), h) else none else none) else none
set_option maxHeartbeats 4000000 in
set_option maxRecDepth 100000 in
theorem ch_Book_peek_x (l : Launch) {dA : FieldType → ClassId} {D : va_G} {al : Nat → Nat} {ext : mv_Sh} {sk sv : Nat → Nat} (hi : mv_inj (mg dA D al ext)) (h : mv_H) (hb : mh (mv_r h))  (a0 : Int32) (a1 : Int32) {rv : Int64} {rg : mv_H} (hf : f_Book_peek 74 h a0 a1 = some (rv, rg)) : mv_C l y_Book_peek (Cond.code y_Book_peek b_Book_peek 3 (Option.some Jvm.ClassFile.FieldType.long) :: ma) ({ frames := 0, cells := 0, slots := 0, locals := 0 }) (mg dA D al ext) (mK sk sv) [.ref (al 74), .int a0, .int a1] h (mv_Rl (fun v σ1 => rv = v ∧ rg = σ1 ∧ mv_r σ1 = mv_r h)) := by
  refine mv_C.ofV (cc := b_Book_peek) (nL := 3) (ret := (Option.some Jvm.ClassFile.FieldType.long)) (by decide +kernel) rfl hi (Nat.le_of_ble_eq_true rfl) ?_
  intro p e s m below meth c B hNs hr hnm hno
  unfold f_Book_peek at hf
  refine mv_aload_n (pc := 0) B d_Book_peek_0 rfl 0 rfl ?_
  refine mv_getR (pc := 1) (ci := 12) (C := R_Book) (T := F_Book) (N := 65) B 15 rfl rfl (by decide) i_Book (B.2.2.2.1 _ k_1858) rfl (hb 74 15 _ rfl) d_Book_peek_1 ?_
  refine mv_iload_n (pc := 4) B d_Book_peek_4 rfl 1 rfl ?_
  obtain ⟨q1, hf⟩ := xvi_e hf
  refine mv_zald (pc := 5) B rfl q1 d_Book_peek_5 ?_
  refine mv_if_eq (pc := 6) (tgt := 25) B d_Book_peek_6 rfl (fun h6 => ?_) (fun h6 => ?_)
  · skip
    have hf := xif_t h6 hf
    refine mv_aload_n (pc := 25) B d_Book_peek_25 rfl 0 rfl ?_
    refine mv_getR (pc := 26) (ci := 12) (C := R_Book) (T := F_Book) (N := 65) B 55 rfl rfl (by decide) i_Book (B.2.2.2.1 _ k_1904) rfl (hb 74 55 _ rfl) d_Book_peek_26 ?_
    refine mv_iload_n (pc := 29) B d_Book_peek_29 rfl 1 rfl ?_
    obtain ⟨q2, hf⟩ := xvi_e hf
    refine mv_lald (pc := 30) B rfl q2 d_Book_peek_30 ?_
    exact mv_lret (pc := 31) B hr d_Book_peek_31 (Nat.le_refl _) (Nat.le_refl _) ⟨_, rfl, xrh_l hf rfl⟩
  · skip
    have hf := xif_f h6 hf
    refine mv_aload_n (pc := 9) B d_Book_peek_9 rfl 0 rfl ?_
    refine mv_getR (pc := 10) (ci := 12) (C := R_Book) (T := F_Book) (N := 65) B 56 rfl rfl (by decide) i_Book (B.2.2.2.1 _ k_1905) rfl (hb 74 56 _ rfl) d_Book_peek_10 ?_
    refine mv_aload_n (pc := 13) B d_Book_peek_13 rfl 0 rfl ?_
    refine mv_getR (pc := 14) (ci := 12) (C := R_Book) (T := F_Book) (N := 65) B 14 rfl rfl (by decide) i_Book (B.2.2.2.1 _ k_1857) rfl (hb 74 14 _ rfl) d_Book_peek_14 ?_
    refine mv_iload_n (pc := 17) B d_Book_peek_17 rfl 1 rfl ?_
    obtain ⟨q3, hf⟩ := xvi_e hf
    refine mv_iald (pc := 18) B rfl q3 d_Book_peek_18 ?_
    refine mv_iload_n (pc := 19) B d_Book_peek_19 rfl 2 rfl ?_
    refine mv_iadd (pc := 20) B d_Book_peek_20 ?_
    obtain ⟨q4, hf⟩ := xvi_e hf
    refine mv_lald (pc := 21) B rfl q4 d_Book_peek_21 ?_
    refine mv_goto (pc := 22) (tgt := 31) B d_Book_peek_22 rfl ?_
    exact mv_lret (pc := 31) B hr d_Book_peek_31 (Nat.le_refl _) (Nat.le_refl _) ⟨_, rfl, xrh_l hf rfl⟩
set_option maxHeartbeats 4000000 in
set_option maxRecDepth 100000 in
theorem ch_Book_peek_y (l : Launch) {dA : FieldType → ClassId} {D : va_G} {al : Nat → Nat} {ext : mv_Sh} {sk sv : Nat → Nat} (hi : mv_inj (mg dA D al ext)) (h : mv_H) (hb : mh (mv_r h))  (a0 : Int32) (a1 : Int32) {rv : Int64} {rg : mv_H} (hf : f_Book_peek 108 h a0 a1 = some (rv, rg)) : mv_C l y_Book_peek (Cond.code y_Book_peek b_Book_peek 3 (Option.some Jvm.ClassFile.FieldType.long) :: ma) ({ frames := 0, cells := 0, slots := 0, locals := 0 }) (mg dA D al ext) (mK sk sv) [.ref (al 108), .int a0, .int a1] h (mv_Rl (fun v σ1 => rv = v ∧ rg = σ1 ∧ mv_r σ1 = mv_r h)) := by
  refine mv_C.ofV (cc := b_Book_peek) (nL := 3) (ret := (Option.some Jvm.ClassFile.FieldType.long)) (by decide +kernel) rfl hi (Nat.le_of_ble_eq_true rfl) ?_
  intro p e s m below meth c B hNs hr hnm hno
  unfold f_Book_peek at hf
  refine mv_aload_n (pc := 0) B d_Book_peek_0 rfl 0 rfl ?_
  refine mv_getR (pc := 1) (ci := 12) (C := R_Book) (T := F_Book) (N := 65) B 15 rfl rfl (by decide) i_Book (B.2.2.2.1 _ k_1858) rfl (hb 108 15 _ rfl) d_Book_peek_1 ?_
  refine mv_iload_n (pc := 4) B d_Book_peek_4 rfl 1 rfl ?_
  obtain ⟨q1, hf⟩ := xvi_e hf
  refine mv_zald (pc := 5) B rfl q1 d_Book_peek_5 ?_
  refine mv_if_eq (pc := 6) (tgt := 25) B d_Book_peek_6 rfl (fun h6 => ?_) (fun h6 => ?_)
  · skip
    have hf := xif_t h6 hf
    refine mv_aload_n (pc := 25) B d_Book_peek_25 rfl 0 rfl ?_
    refine mv_getR (pc := 26) (ci := 12) (C := R_Book) (T := F_Book) (N := 65) B 55 rfl rfl (by decide) i_Book (B.2.2.2.1 _ k_1904) rfl (hb 108 55 _ rfl) d_Book_peek_26 ?_
    refine mv_iload_n (pc := 29) B d_Book_peek_29 rfl 1 rfl ?_
    obtain ⟨q2, hf⟩ := xvi_e hf
    refine mv_lald (pc := 30) B rfl q2 d_Book_peek_30 ?_
    exact mv_lret (pc := 31) B hr d_Book_peek_31 (Nat.le_refl _) (Nat.le_refl _) ⟨_, rfl, xrh_l hf rfl⟩
  · skip
    have hf := xif_f h6 hf
    refine mv_aload_n (pc := 9) B d_Book_peek_9 rfl 0 rfl ?_
    refine mv_getR (pc := 10) (ci := 12) (C := R_Book) (T := F_Book) (N := 65) B 56 rfl rfl (by decide) i_Book (B.2.2.2.1 _ k_1905) rfl (hb 108 56 _ rfl) d_Book_peek_10 ?_
    refine mv_aload_n (pc := 13) B d_Book_peek_13 rfl 0 rfl ?_
    refine mv_getR (pc := 14) (ci := 12) (C := R_Book) (T := F_Book) (N := 65) B 14 rfl rfl (by decide) i_Book (B.2.2.2.1 _ k_1857) rfl (hb 108 14 _ rfl) d_Book_peek_14 ?_
    refine mv_iload_n (pc := 17) B d_Book_peek_17 rfl 1 rfl ?_
    obtain ⟨q3, hf⟩ := xvi_e hf
    refine mv_iald (pc := 18) B rfl q3 d_Book_peek_18 ?_
    refine mv_iload_n (pc := 19) B d_Book_peek_19 rfl 2 rfl ?_
    refine mv_iadd (pc := 20) B d_Book_peek_20 ?_
    obtain ⟨q4, hf⟩ := xvi_e hf
    refine mv_lald (pc := 21) B rfl q4 d_Book_peek_21 ?_
    refine mv_goto (pc := 22) (tgt := 31) B d_Book_peek_22 rfl ?_
    exact mv_lret (pc := 31) B hr d_Book_peek_31 (Nat.le_refl _) (Nat.le_refl _) ⟨_, rfl, xrh_l hf rfl⟩
def f_Book_cellsOf (P : Nat) (h : mv_H) (a0 : Int32) : Option (Int32 × mv_H) := bif xvi a0 4100 then if (mv_a h (P + 6) (a0).toNatClampNeg) = (0 : Int32) then (some ((0 : Int32), h)) else (bif xvi a0 4100 then some ((mv_a h (P + 4) (a0).toNatClampNeg), h) else none) else none
set_option maxHeartbeats 4000000 in
set_option maxRecDepth 100000 in
theorem ch_Book_cellsOf_x (l : Launch) {dA : FieldType → ClassId} {D : va_G} {al : Nat → Nat} {ext : mv_Sh} {sk sv : Nat → Nat} (hi : mv_inj (mg dA D al ext)) (h : mv_H) (hb : mh (mv_r h))  (a0 : Int32) {rv : Int32} {rg : mv_H} (hf : f_Book_cellsOf 74 h a0 = some (rv, rg)) : mv_C l y_Book_cellsOf (Cond.code y_Book_cellsOf b_Book_cellsOf 2 (Option.some Jvm.ClassFile.FieldType.int) :: ma) ({ frames := 0, cells := 0, slots := 0, locals := 0 }) (mg dA D al ext) (mK sk sv) [.ref (al 74), .int a0] h (mv_Ri (fun v σ1 => rv = v ∧ rg = σ1 ∧ mv_r σ1 = mv_r h)) := by
  refine mv_C.ofV (cc := b_Book_cellsOf) (nL := 2) (ret := (Option.some Jvm.ClassFile.FieldType.int)) (by decide +kernel) rfl hi (Nat.le_of_ble_eq_true rfl) ?_
  intro p e s m below meth c B hNs hr hnm hno
  unfold f_Book_cellsOf at hf
  refine mv_aload_n (pc := 0) B d_Book_cellsOf_0 rfl 0 rfl ?_
  refine mv_getR (pc := 1) (ci := 12) (C := R_Book) (T := F_Book) (N := 65) B 15 rfl rfl (by decide) i_Book (B.2.2.2.1 _ k_1858) rfl (hb 74 15 _ rfl) d_Book_cellsOf_1 ?_
  refine mv_iload_n (pc := 4) B d_Book_cellsOf_4 rfl 1 rfl ?_
  obtain ⟨q1, hf⟩ := xvi_e hf
  refine mv_zald (pc := 5) B rfl q1 d_Book_cellsOf_5 ?_
  refine mv_if_eq (pc := 6) (tgt := 18) B d_Book_cellsOf_6 rfl (fun h6 => ?_) (fun h6 => ?_)
  · skip
    have hf := xif_t h6 hf
    refine mv_iconst (pc := 18) (v := 0) B d_Book_cellsOf_18 (by decide) ?_
    exact mv_iret (pc := 19) B hr rfl d_Book_cellsOf_19 (Nat.le_refl _) (Nat.le_refl _) ⟨_, rfl, xrh_i hf rfl⟩
  · skip
    have hf := xif_f h6 hf
    refine mv_aload_n (pc := 9) B d_Book_cellsOf_9 rfl 0 rfl ?_
    refine mv_getR (pc := 10) (ci := 12) (C := R_Book) (T := F_Book) (N := 65) B 13 rfl rfl (by decide) i_Book (B.2.2.2.1 _ k_1856) rfl (hb 74 13 _ rfl) d_Book_cellsOf_10 ?_
    refine mv_iload_n (pc := 13) B d_Book_cellsOf_13 rfl 1 rfl ?_
    obtain ⟨q2, hf⟩ := xvi_e hf
    refine mv_iald (pc := 14) B rfl q2 d_Book_cellsOf_14 ?_
    refine mv_goto (pc := 15) (tgt := 19) B d_Book_cellsOf_15 rfl ?_
    exact mv_iret (pc := 19) B hr rfl d_Book_cellsOf_19 (Nat.le_refl _) (Nat.le_refl _) ⟨_, rfl, xrh_i hf rfl⟩
set_option maxHeartbeats 4000000 in
set_option maxRecDepth 100000 in
theorem ch_Book_cellsOf_y (l : Launch) {dA : FieldType → ClassId} {D : va_G} {al : Nat → Nat} {ext : mv_Sh} {sk sv : Nat → Nat} (hi : mv_inj (mg dA D al ext)) (h : mv_H) (hb : mh (mv_r h))  (a0 : Int32) {rv : Int32} {rg : mv_H} (hf : f_Book_cellsOf 108 h a0 = some (rv, rg)) : mv_C l y_Book_cellsOf (Cond.code y_Book_cellsOf b_Book_cellsOf 2 (Option.some Jvm.ClassFile.FieldType.int) :: ma) ({ frames := 0, cells := 0, slots := 0, locals := 0 }) (mg dA D al ext) (mK sk sv) [.ref (al 108), .int a0] h (mv_Ri (fun v σ1 => rv = v ∧ rg = σ1 ∧ mv_r σ1 = mv_r h)) := by
  refine mv_C.ofV (cc := b_Book_cellsOf) (nL := 2) (ret := (Option.some Jvm.ClassFile.FieldType.int)) (by decide +kernel) rfl hi (Nat.le_of_ble_eq_true rfl) ?_
  intro p e s m below meth c B hNs hr hnm hno
  unfold f_Book_cellsOf at hf
  refine mv_aload_n (pc := 0) B d_Book_cellsOf_0 rfl 0 rfl ?_
  refine mv_getR (pc := 1) (ci := 12) (C := R_Book) (T := F_Book) (N := 65) B 15 rfl rfl (by decide) i_Book (B.2.2.2.1 _ k_1858) rfl (hb 108 15 _ rfl) d_Book_cellsOf_1 ?_
  refine mv_iload_n (pc := 4) B d_Book_cellsOf_4 rfl 1 rfl ?_
  obtain ⟨q1, hf⟩ := xvi_e hf
  refine mv_zald (pc := 5) B rfl q1 d_Book_cellsOf_5 ?_
  refine mv_if_eq (pc := 6) (tgt := 18) B d_Book_cellsOf_6 rfl (fun h6 => ?_) (fun h6 => ?_)
  · skip
    have hf := xif_t h6 hf
    refine mv_iconst (pc := 18) (v := 0) B d_Book_cellsOf_18 (by decide) ?_
    exact mv_iret (pc := 19) B hr rfl d_Book_cellsOf_19 (Nat.le_refl _) (Nat.le_refl _) ⟨_, rfl, xrh_i hf rfl⟩
  · skip
    have hf := xif_f h6 hf
    refine mv_aload_n (pc := 9) B d_Book_cellsOf_9 rfl 0 rfl ?_
    refine mv_getR (pc := 10) (ci := 12) (C := R_Book) (T := F_Book) (N := 65) B 13 rfl rfl (by decide) i_Book (B.2.2.2.1 _ k_1856) rfl (hb 108 13 _ rfl) d_Book_cellsOf_10 ?_
    refine mv_iload_n (pc := 13) B d_Book_cellsOf_13 rfl 1 rfl ?_
    obtain ⟨q2, hf⟩ := xvi_e hf
    refine mv_iald (pc := 14) B rfl q2 d_Book_cellsOf_14 ?_
    refine mv_goto (pc := 15) (tgt := 19) B d_Book_cellsOf_15 rfl ?_
    exact mv_iret (pc := 19) B hr rfl d_Book_cellsOf_19 (Nat.le_refl _) (Nat.le_refl _) ⟨_, rfl, xrh_i hf rfl⟩
def f_Book_widthOf (P : Nat) (h : mv_H) (a0 : Int32) : Option (Int32 × mv_H) := bif xvi a0 4100 then some ((mv_a h (P + 3) (a0).toNatClampNeg), h) else none
set_option maxHeartbeats 4000000 in
set_option maxRecDepth 100000 in
theorem ch_Book_widthOf_x (l : Launch) {dA : FieldType → ClassId} {D : va_G} {al : Nat → Nat} {ext : mv_Sh} {sk sv : Nat → Nat} (hi : mv_inj (mg dA D al ext)) (h : mv_H) (hb : mh (mv_r h))  (a0 : Int32) {rv : Int32} {rg : mv_H} (hf : f_Book_widthOf 74 h a0 = some (rv, rg)) : mv_C l y_Book_widthOf (Cond.code y_Book_widthOf b_Book_widthOf 2 (Option.some Jvm.ClassFile.FieldType.int) :: ma) ({ frames := 0, cells := 0, slots := 0, locals := 0 }) (mg dA D al ext) (mK sk sv) [.ref (al 74), .int a0] h (mv_Ri (fun v σ1 => rv = v ∧ rg = σ1 ∧ mv_r σ1 = mv_r h)) := by
  refine mv_C.ofV (cc := b_Book_widthOf) (nL := 2) (ret := (Option.some Jvm.ClassFile.FieldType.int)) (by decide +kernel) rfl hi (Nat.le_of_ble_eq_true rfl) ?_
  intro p e s m below meth c B hNs hr hnm hno
  unfold f_Book_widthOf at hf
  refine mv_aload_n (pc := 0) B d_Book_widthOf_0 rfl 0 rfl ?_
  refine mv_getR (pc := 1) (ci := 12) (C := R_Book) (T := F_Book) (N := 65) B 12 rfl rfl (by decide) i_Book (B.2.2.2.1 _ k_1855) rfl (hb 74 12 _ rfl) d_Book_widthOf_1 ?_
  refine mv_iload_n (pc := 4) B d_Book_widthOf_4 rfl 1 rfl ?_
  obtain ⟨q1, hf⟩ := xvi_e hf
  refine mv_iald (pc := 5) B rfl q1 d_Book_widthOf_5 ?_
  exact mv_iret (pc := 6) B hr rfl d_Book_widthOf_6 (Nat.le_refl _) (Nat.le_refl _) ⟨_, rfl, xrh_i hf rfl⟩
set_option maxHeartbeats 4000000 in
set_option maxRecDepth 100000 in
theorem ch_Book_widthOf_y (l : Launch) {dA : FieldType → ClassId} {D : va_G} {al : Nat → Nat} {ext : mv_Sh} {sk sv : Nat → Nat} (hi : mv_inj (mg dA D al ext)) (h : mv_H) (hb : mh (mv_r h))  (a0 : Int32) {rv : Int32} {rg : mv_H} (hf : f_Book_widthOf 108 h a0 = some (rv, rg)) : mv_C l y_Book_widthOf (Cond.code y_Book_widthOf b_Book_widthOf 2 (Option.some Jvm.ClassFile.FieldType.int) :: ma) ({ frames := 0, cells := 0, slots := 0, locals := 0 }) (mg dA D al ext) (mK sk sv) [.ref (al 108), .int a0] h (mv_Ri (fun v σ1 => rv = v ∧ rg = σ1 ∧ mv_r σ1 = mv_r h)) := by
  refine mv_C.ofV (cc := b_Book_widthOf) (nL := 2) (ret := (Option.some Jvm.ClassFile.FieldType.int)) (by decide +kernel) rfl hi (Nat.le_of_ble_eq_true rfl) ?_
  intro p e s m below meth c B hNs hr hnm hno
  unfold f_Book_widthOf at hf
  refine mv_aload_n (pc := 0) B d_Book_widthOf_0 rfl 0 rfl ?_
  refine mv_getR (pc := 1) (ci := 12) (C := R_Book) (T := F_Book) (N := 65) B 12 rfl rfl (by decide) i_Book (B.2.2.2.1 _ k_1855) rfl (hb 108 12 _ rfl) d_Book_widthOf_1 ?_
  refine mv_iload_n (pc := 4) B d_Book_widthOf_4 rfl 1 rfl ?_
  obtain ⟨q1, hf⟩ := xvi_e hf
  refine mv_iald (pc := 5) B rfl q1 d_Book_widthOf_5 ?_
  exact mv_iret (pc := 6) B hr rfl d_Book_widthOf_6 (Nat.le_refl _) (Nat.le_refl _) ⟨_, rfl, xrh_i hf rfl⟩
def f_Book_lengthOf (P : Nat) (h : mv_H) : Option (Int32 × mv_H) := some ((mv_i h P 20), h)
set_option maxHeartbeats 4000000 in
set_option maxRecDepth 100000 in
theorem ch_Book_lengthOf_x (l : Launch) {dA : FieldType → ClassId} {D : va_G} {al : Nat → Nat} {ext : mv_Sh} {sk sv : Nat → Nat} (hi : mv_inj (mg dA D al ext)) (h : mv_H) (hb : mh (mv_r h))  {rv : Int32} {rg : mv_H} (hf : f_Book_lengthOf 74 h = some (rv, rg)) : mv_C l y_Book_lengthOf (Cond.code y_Book_lengthOf b_Book_lengthOf 1 (Option.some Jvm.ClassFile.FieldType.int) :: ma) ({ frames := 0, cells := 0, slots := 0, locals := 0 }) (mg dA D al ext) (mK sk sv) [.ref (al 74)] h (mv_Ri (fun v σ1 => rv = v ∧ rg = σ1 ∧ mv_r σ1 = mv_r h)) := by
  refine mv_C.ofV (cc := b_Book_lengthOf) (nL := 1) (ret := (Option.some Jvm.ClassFile.FieldType.int)) (by decide +kernel) rfl hi (Nat.le_of_ble_eq_true rfl) ?_
  intro p e s m below meth c B hNs hr hnm hno
  unfold f_Book_lengthOf at hf
  refine mv_aload_n (pc := 0) B d_Book_lengthOf_0 rfl 0 rfl ?_
  refine mv_getI (pc := 1) (ci := 12) (C := R_Book) (T := F_Book) (N := 65) B 20 rfl rfl (by decide) i_Book (B.2.2.2.1 _ k_1865) rfl d_Book_lengthOf_1 ?_
  exact mv_iret (pc := 4) B hr rfl d_Book_lengthOf_4 (Nat.le_refl _) (Nat.le_refl _) ⟨_, rfl, xrh_i hf rfl⟩
set_option maxHeartbeats 4000000 in
set_option maxRecDepth 100000 in
theorem ch_Book_lengthOf_y (l : Launch) {dA : FieldType → ClassId} {D : va_G} {al : Nat → Nat} {ext : mv_Sh} {sk sv : Nat → Nat} (hi : mv_inj (mg dA D al ext)) (h : mv_H) (hb : mh (mv_r h))  {rv : Int32} {rg : mv_H} (hf : f_Book_lengthOf 108 h = some (rv, rg)) : mv_C l y_Book_lengthOf (Cond.code y_Book_lengthOf b_Book_lengthOf 1 (Option.some Jvm.ClassFile.FieldType.int) :: ma) ({ frames := 0, cells := 0, slots := 0, locals := 0 }) (mg dA D al ext) (mK sk sv) [.ref (al 108)] h (mv_Ri (fun v σ1 => rv = v ∧ rg = σ1 ∧ mv_r σ1 = mv_r h)) := by
  refine mv_C.ofV (cc := b_Book_lengthOf) (nL := 1) (ret := (Option.some Jvm.ClassFile.FieldType.int)) (by decide +kernel) rfl hi (Nat.le_of_ble_eq_true rfl) ?_
  intro p e s m below meth c B hNs hr hnm hno
  unfold f_Book_lengthOf at hf
  refine mv_aload_n (pc := 0) B d_Book_lengthOf_0 rfl 0 rfl ?_
  refine mv_getI (pc := 1) (ci := 12) (C := R_Book) (T := F_Book) (N := 65) B 20 rfl rfl (by decide) i_Book (B.2.2.2.1 _ k_1865) rfl d_Book_lengthOf_1 ?_
  exact mv_iret (pc := 4) B hr rfl d_Book_lengthOf_4 (Nat.le_refl _) (Nat.le_refl _) ⟨_, rfl, xrh_i hf rfl⟩
def f_Book_cellsOfAll (P : Nat) (h : mv_H) : Option (Int32 × mv_H) := some ((mv_i h P 19), h)
set_option maxHeartbeats 4000000 in
set_option maxRecDepth 100000 in
theorem ch_Book_cellsOfAll_x (l : Launch) {dA : FieldType → ClassId} {D : va_G} {al : Nat → Nat} {ext : mv_Sh} {sk sv : Nat → Nat} (hi : mv_inj (mg dA D al ext)) (h : mv_H) (hb : mh (mv_r h))  {rv : Int32} {rg : mv_H} (hf : f_Book_cellsOfAll 74 h = some (rv, rg)) : mv_C l y_Book_cellsOfAll (Cond.code y_Book_cellsOfAll b_Book_cellsOfAll 1 (Option.some Jvm.ClassFile.FieldType.int) :: ma) ({ frames := 0, cells := 0, slots := 0, locals := 0 }) (mg dA D al ext) (mK sk sv) [.ref (al 74)] h (mv_Ri (fun v σ1 => rv = v ∧ rg = σ1 ∧ mv_r σ1 = mv_r h)) := by
  refine mv_C.ofV (cc := b_Book_cellsOfAll) (nL := 1) (ret := (Option.some Jvm.ClassFile.FieldType.int)) (by decide +kernel) rfl hi (Nat.le_of_ble_eq_true rfl) ?_
  intro p e s m below meth c B hNs hr hnm hno
  unfold f_Book_cellsOfAll at hf
  refine mv_aload_n (pc := 0) B d_Book_cellsOfAll_0 rfl 0 rfl ?_
  refine mv_getI (pc := 1) (ci := 12) (C := R_Book) (T := F_Book) (N := 65) B 19 rfl rfl (by decide) i_Book (B.2.2.2.1 _ k_1864) rfl d_Book_cellsOfAll_1 ?_
  exact mv_iret (pc := 4) B hr rfl d_Book_cellsOfAll_4 (Nat.le_refl _) (Nat.le_refl _) ⟨_, rfl, xrh_i hf rfl⟩
set_option maxHeartbeats 4000000 in
set_option maxRecDepth 100000 in
theorem ch_Book_cellsOfAll_y (l : Launch) {dA : FieldType → ClassId} {D : va_G} {al : Nat → Nat} {ext : mv_Sh} {sk sv : Nat → Nat} (hi : mv_inj (mg dA D al ext)) (h : mv_H) (hb : mh (mv_r h))  {rv : Int32} {rg : mv_H} (hf : f_Book_cellsOfAll 108 h = some (rv, rg)) : mv_C l y_Book_cellsOfAll (Cond.code y_Book_cellsOfAll b_Book_cellsOfAll 1 (Option.some Jvm.ClassFile.FieldType.int) :: ma) ({ frames := 0, cells := 0, slots := 0, locals := 0 }) (mg dA D al ext) (mK sk sv) [.ref (al 108)] h (mv_Ri (fun v σ1 => rv = v ∧ rg = σ1 ∧ mv_r σ1 = mv_r h)) := by
  refine mv_C.ofV (cc := b_Book_cellsOfAll) (nL := 1) (ret := (Option.some Jvm.ClassFile.FieldType.int)) (by decide +kernel) rfl hi (Nat.le_of_ble_eq_true rfl) ?_
  intro p e s m below meth c B hNs hr hnm hno
  unfold f_Book_cellsOfAll at hf
  refine mv_aload_n (pc := 0) B d_Book_cellsOfAll_0 rfl 0 rfl ?_
  refine mv_getI (pc := 1) (ci := 12) (C := R_Book) (T := F_Book) (N := 65) B 19 rfl rfl (by decide) i_Book (B.2.2.2.1 _ k_1864) rfl d_Book_cellsOfAll_1 ?_
  exact mv_iret (pc := 4) B hr rfl d_Book_cellsOfAll_4 (Nat.le_refl _) (Nat.le_refl _) ⟨_, rfl, xrh_i hf rfl⟩
