/-! exact runs of the machine -/
def xnzJ (v : Int64) : Bool := !decide (v = 0)
theorem xnzJ_e {α : Type} {v : Int64} {A : Option α} {r : α} (h : (bif xnzJ v then A else none) = some r) : ¬ v = 0 ∧ A = some r := by
  cases e : xnzJ v
  · rw [e] at h; cases h
  · rw [e] at h
    unfold xnzJ at e
    exact ⟨fun z => (by rw [decide_eq_true z] at e; cases e), h⟩
def xnzI (v : Int32) : Bool := !decide (v = 0)
theorem xnzI_e {α : Type} {v : Int32} {A : Option α} {r : α} (h : (bif xnzI v then A else none) = some r) : ¬ v = 0 ∧ A = some r := by
  cases e : xnzI v
  · rw [e] at h; cases h
  · rw [e] at h
    unfold xnzI at e
    exact ⟨fun z => (by rw [decide_eq_true z] at e; cases e), h⟩
theorem xzb_f {v : Int32} (h : xzb v = true) : fits .boolean (.int v) = true := by
  unfold xzb at h
  rw [Bool.or_eq_true, decide_eq_true_eq, decide_eq_true_eq] at h
  rcases h with rfl | rfl <;> decide
def f_Bits_signed (h : mv_H) (a0 : Int64) (a1 : Int32) : Option (Int64 × mv_H) := some (((a0 <<< ((((64 : Int32) - a1)).toInt64 &&& 63)) >>> ((((64 : Int32) - a1)).toInt64 &&& 63)), h)
set_option maxHeartbeats 4000000 in
set_option maxRecDepth 100000 in
theorem ch_Bits_signed (l : Launch) {dA : FieldType → ClassId} {D : va_G} {al : Nat → Nat} {ext : mv_Sh} {sk sv : Nat → Nat} (hi : mv_inj (mg dA D al ext)) (h : mv_H)  (a0 : Int64) (a1 : Int32) {rv : Int64} {rg : mv_H} (hf : f_Bits_signed h a0 a1 = some (rv, rg)) : mv_C l y_Bits_signed (Cond.code y_Bits_signed b_Bits_signed 4 (Option.some Jvm.ClassFile.FieldType.long) :: ma) ({ frames := 0, cells := 0, slots := 0, locals := 0 }) (mg dA D al ext) (mK sk sv) [.long a0, .int a1] h (mv_Rl (fun v σ1 => rv = v ∧ rg = σ1 ∧ mv_r σ1 = mv_r h)) := by
  refine mv_C.ofV (cc := b_Bits_signed) (nL := 4) (ret := (Option.some Jvm.ClassFile.FieldType.long)) (by decide +kernel) rfl hi (Nat.le_of_ble_eq_true rfl) ?_
  intro p e s m below meth c B hNs hr hnm hno
  unfold f_Bits_signed at hf
  refine mv_bipush (pc := 0) (v := 64) B d_Bits_signed_0 (by decide) ?_
  refine mv_iload_n (pc := 2) B d_Bits_signed_2 rfl 1 rfl ?_
  refine mv_isub (pc := 3) B d_Bits_signed_3 ?_
  refine mv_istore_n (pc := 4) B d_Bits_signed_4 rfl (by decide) rfl ?_
  refine mv_lload_n (pc := 5) B d_Bits_signed_5 rfl 1 rfl ?_
  refine mv_iload_n (pc := 6) B d_Bits_signed_6 rfl 0 rfl ?_
  refine mv_lshl (pc := 7) B d_Bits_signed_7 ?_
  refine mv_iload_n (pc := 8) B d_Bits_signed_8 rfl 0 rfl ?_
  refine mv_lshr (pc := 9) B d_Bits_signed_9 ?_
  exact mv_lret (pc := 10) B hr d_Bits_signed_10 (Nat.le_refl _) (Nat.le_refl _) ⟨_, rfl, xrh_l hf rfl⟩
def f_Bits_gather_62 (x4 : Int64) (hz : mv_H) : Option (Int64 × mv_H) := some (x4, hz)
def f_Bits_gather_49 (k9 : Int64 → Int64 → Int64 → Int32 → mv_H → Option (Int64 × mv_H)) (x0 : Int64) (x4 : Int64) (x6 : Int64) (x8 : Int32) (x9 : Int64) (hz : mv_H) : Option (Int64 × mv_H) := k9 x0 x4 (x6 ^^^ x9) (x8 + 1) hz
def fF_Bits_gather_9 (k9 : Int64 → Int64 → Int64 → Int32 → mv_H → Option (Int64 × mv_H)) (x0 : Int64) (x4 : Int64) (x6 : Int64) (x8 : Int32) (hz : mv_H) : Option (Int64 × mv_H) := if (64 : Int32) ≤ x8 then (f_Bits_gather_62 x4 hz) else (if (lg_cmp x6 (0 : Int64)) = (0 : Int32) then (f_Bits_gather_62 x4 hz) else (if (lg_cmp (x0 &&& (x6 &&& ((-x6)))) (0 : Int64)) = (0 : Int32) then (f_Bits_gather_49 k9 x0 x4 x6 x8 (x6 &&& ((-x6))) hz) else (f_Bits_gather_49 k9 x0 (x4 ||| ((1 : Int64) <<< ((x8).toInt64 &&& 63))) x6 x8 (x6 &&& ((-x6))) hz)))
def f_Bits_gather_9 : Nat → Int64 → Int64 → Int64 → Int32 → mv_H → Option (Int64 × mv_H)
  | 0 => fun _ _ _ _ _ => none
  | nn + 1 => fF_Bits_gather_9 (f_Bits_gather_9 nn)
def f_Bits_gather (h : mv_H) (a0 : Int64) (a1 : Int64) : Option (Int64 × mv_H) := f_Bits_gather_9 200000 a0 (0 : Int64) a1 (0 : Int32) h
set_option maxHeartbeats 4000000 in
set_option maxRecDepth 100000 in
theorem ch_Bits_gather (l : Launch) {dA : FieldType → ClassId} {D : va_G} {al : Nat → Nat} {ext : mv_Sh} {sk sv : Nat → Nat} (hi : mv_inj (mg dA D al ext)) (h : mv_H)  (a0 : Int64) (a1 : Int64) {rv : Int64} {rg : mv_H} (hf : f_Bits_gather h a0 a1 = some (rv, rg)) : mv_C l y_Bits_gather (Cond.code y_Bits_gather b_Bits_gather 11 (Option.some Jvm.ClassFile.FieldType.long) :: ma) ({ frames := 0, cells := 0, slots := 0, locals := 0 }) (mg dA D al ext) (mK sk sv) [.long a0, .long a1] h (mv_Rl (fun v σ1 => rv = v ∧ rg = σ1 ∧ mv_r σ1 = mv_r h)) := by
  refine mv_C.ofV (cc := b_Bits_gather) (nL := 11) (ret := (Option.some Jvm.ClassFile.FieldType.long)) (by decide +kernel) rfl hi (Nat.le_of_ble_eq_true rfl) ?_
  intro p e s m below meth c B hNs hr hnm hno
  have jn62 : ∀ (x4 : Int64) (hz : mv_H), mv_r hz = mv_r h → f_Bits_gather_62 x4 hz = some (rv, rg) → mv_V p l e ({ frames := 0, cells := 0, slots := 0, locals := 0 }) s m ([.long a0, .long a1] : List Value).toArray below meth c (mg dA D al ext) 11 0 0 (mv_Q (mg dA D al ext) below s 0 0 (mv_Rl (fun v σ1 => rv = v ∧ rg = σ1 ∧ mv_r σ1 = mv_r h))) hz 62 [(4, .long x4)] [] := by
    intro x4 hz r_hz hf
    unfold f_Bits_gather_62 at hf
    refine mv_lload (pc := 62) B d_Bits_gather_62 0 rfl ?_
    exact mv_lret (pc := 64) B hr d_Bits_gather_64 (Nat.le_refl _) (Nat.le_refl _) ⟨_, rfl, xrh_l hf r_hz⟩
  have lp9 : ∀ (nn9 : Nat) (x0 : Int64) (x4 : Int64) (x6 : Int64) (x8 : Int32) (hz : mv_H), mv_r hz = mv_r h → f_Bits_gather_9 nn9 x0 x4 x6 x8 hz = some (rv, rg) → mv_V p l e ({ frames := 0, cells := 0, slots := 0, locals := 0 }) s m ([.long a0, .long a1] : List Value).toArray below meth c (mg dA D al ext) 11 0 0 (mv_Q (mg dA D al ext) below s 0 0 (mv_Rl (fun v σ1 => rv = v ∧ rg = σ1 ∧ mv_r σ1 = mv_r h))) hz 9 [(0, .long x0), (4, .long x4), (6, .long x6), (8, .int x8)] [] := by
    intro nn9
    induction nn9 with
    | zero => intro x0 x4 x6 x8 hz r_hz hf; cases hf
    | succ nn9 ih9 =>
      intro x0 x4 x6 x8 hz r_hz hf
      have jn49 : ∀ (x0 : Int64) (x4 : Int64) (x6 : Int64) (x8 : Int32) (x9 : Int64) (hz : mv_H), mv_r hz = mv_r h → f_Bits_gather_49 (f_Bits_gather_9 nn9) x0 x4 x6 x8 x9 hz = some (rv, rg) → mv_V p l e ({ frames := 0, cells := 0, slots := 0, locals := 0 }) s m ([.long a0, .long a1] : List Value).toArray below meth c (mg dA D al ext) 11 0 0 (mv_Q (mg dA D al ext) below s 0 0 (mv_Rl (fun v σ1 => rv = v ∧ rg = σ1 ∧ mv_r σ1 = mv_r h))) hz 49 [(0, .long x0), (4, .long x4), (6, .long x6), (8, .int x8), (9, .long x9)] [] := by
        intro x0 x4 x6 x8 x9 hz r_hz hf
        unfold f_Bits_gather_49 at hf
        refine mv_lload (pc := 49) B d_Bits_gather_49 2 rfl ?_
        refine mv_lload (pc := 51) B d_Bits_gather_51 4 rfl ?_
        refine mv_lxor (pc := 53) B d_Bits_gather_53 ?_
        refine mv_lstore (pc := 54) B d_Bits_gather_54 (by decide) rfl ?_
        refine mv_iinc (pc := 56) (j := 3) (v := 1) B d_Bits_gather_56 rfl (by decide) (by decide) rfl ?_
        refine mv_goto (pc := 59) (tgt := 9) B d_Bits_gather_59 rfl ?_
        refine mv_lpick [2, 3, 1, 0] rfl ?_
        exact ih9 _ _ _ _ _ r_hz hf
      have hf : fF_Bits_gather_9 (f_Bits_gather_9 nn9) x0 x4 x6 x8 hz = some (rv, rg) := hf
      unfold fF_Bits_gather_9 at hf
      refine mv_iload (pc := 9) B d_Bits_gather_9 3 rfl ?_
      refine mv_bipush (pc := 11) (v := 64) B d_Bits_gather_11 (by decide) ?_
      refine mv_icmp_ge (pc := 13) (tgt := 62) B d_Bits_gather_13 rfl (fun h13 => ?_) (fun h13 => ?_)
      · skip
        have hf := xif_t h13 hf
        refine mv_lpick [1] rfl ?_
        exact jn62 _ _ r_hz hf
      · skip
        have hf := xif_f h13 hf
        refine mv_lload (pc := 16) B d_Bits_gather_16 2 rfl ?_
        refine mv_lconst (pc := 18) (v := 0) B d_Bits_gather_18 (by decide) ?_
        refine mv_lcmp (pc := 19) B d_Bits_gather_19 ?_
        refine mv_if_eq (pc := 20) (tgt := 62) B d_Bits_gather_20 rfl (fun h20 => ?_) (fun h20 => ?_)
        · skip
          have hf := xif_t h20 hf
          refine mv_lpick [1] rfl ?_
          exact jn62 _ _ r_hz hf
        · skip
          have hf := xif_f h20 hf
          refine mv_lload (pc := 23) B d_Bits_gather_23 2 rfl ?_
          refine mv_lload (pc := 25) B d_Bits_gather_25 2 rfl ?_
          refine mv_lneg (pc := 27) B d_Bits_gather_27 ?_
          refine mv_land (pc := 28) B d_Bits_gather_28 ?_
          refine mv_lstore (pc := 29) B d_Bits_gather_29 (by decide) rfl ?_
          refine mv_lload_n (pc := 31) B d_Bits_gather_31 rfl 1 rfl ?_
          refine mv_lload (pc := 32) B d_Bits_gather_32 0 rfl ?_
          refine mv_land (pc := 34) B d_Bits_gather_34 ?_
          refine mv_lconst (pc := 35) (v := 0) B d_Bits_gather_35 (by decide) ?_
          refine mv_lcmp (pc := 36) B d_Bits_gather_36 ?_
          refine mv_if_eq (pc := 37) (tgt := 49) B d_Bits_gather_37 rfl (fun h37 => ?_) (fun h37 => ?_)
          · skip
            have hf := xif_t h37 hf
            refine mv_lpick [1, 2, 3, 4, 0] rfl ?_
            exact jn49 _ _ _ _ _ _ r_hz hf
          · skip
            have hf := xif_f h37 hf
            refine mv_lload (pc := 40) B d_Bits_gather_40 2 rfl ?_
            refine mv_lconst (pc := 42) (v := 1) B d_Bits_gather_42 (by decide) ?_
            refine mv_iload (pc := 43) B d_Bits_gather_43 4 rfl ?_
            refine mv_lshl (pc := 45) B d_Bits_gather_45 ?_
            refine mv_lor (pc := 46) B d_Bits_gather_46 ?_
            refine mv_lstore (pc := 47) B d_Bits_gather_47 (by decide) rfl ?_
            refine mv_lpick [2, 0, 3, 4, 1] rfl ?_
            exact jn49 _ _ _ _ _ _ r_hz hf
  unfold f_Bits_gather at hf
  refine mv_lconst (pc := 0) (v := 0) B d_Bits_gather_0 (by decide) ?_
  refine mv_lstore (pc := 1) B d_Bits_gather_1 (by decide) rfl ?_
  refine mv_lload_n (pc := 3) B d_Bits_gather_3 rfl 2 rfl ?_
  refine mv_lstore (pc := 4) B d_Bits_gather_4 (by decide) rfl ?_
  refine mv_iconst (pc := 6) (v := 0) B d_Bits_gather_6 (by decide) ?_
  refine mv_istore (pc := 7) B d_Bits_gather_7 (by decide) rfl ?_
  refine mv_lpick [3, 2, 1, 0] rfl ?_
  exact lp9 _ _ _ _ _ _ rfl hf
def f_Bits_divide (h : mv_H) (a0 : Int64) (a1 : Int64) : Option (Int64 × mv_H) := if (lg_cmp a1 (0 : Int64)) = (0 : Int32) then (some ((-1 : Int64), h)) else (if (0 : Int32) ≤ (lg_cmp a1 (0 : Int64)) then (if (lg_cmp a0 (0 : Int64)) < (0 : Int32) then (bif xnzJ a1 then xhb (f_Bits_below h (a0 - ((((((a0).toUInt64 >>> (((1 : Int32)).toInt64.toUInt64 &&& Int64.toUInt64 63)).toInt64) / a1) <<< (((1 : Int32)).toInt64 &&& 63)) * a1)) a1) fun v3 g2 => if v3 = (0 : Int32) then (some (((((((a0).toUInt64 >>> (((1 : Int32)).toInt64.toUInt64 &&& Int64.toUInt64 63)).toInt64) / a1) <<< (((1 : Int32)).toInt64 &&& 63)) + (1 : Int64)), g2)) else (some ((((((a0).toUInt64 >>> (((1 : Int32)).toInt64.toUInt64 &&& Int64.toUInt64 63)).toInt64) / a1) <<< (((1 : Int32)).toInt64 &&& 63)), g2)) else none) else (bif xnzJ a1 then some ((a0 / a1), h) else none)) else (xhb (f_Bits_below h a0 a1) fun v6 g5 => if v6 = (0 : Int32) then (some ((1 : Int64), g5)) else (some ((0 : Int64), g5))))
set_option maxHeartbeats 4000000 in
set_option maxRecDepth 100000 in
theorem ch_Bits_divide (l : Launch) {dA : FieldType → ClassId} {D : va_G} {al : Nat → Nat} {ext : mv_Sh} {sk sv : Nat → Nat} (hi : mv_inj (mg dA D al ext)) (h : mv_H)  (a0 : Int64) (a1 : Int64) {rv : Int64} {rg : mv_H} (hf : f_Bits_divide h a0 a1 = some (rv, rg)) : mv_C l y_Bits_divide (Cond.code y_Bits_divide b_Bits_divide 6 (Option.some Jvm.ClassFile.FieldType.long) :: ma) ({ frames := 1, cells := 0, slots := 0, locals := 23 }) (mg dA D al ext) (mK sk sv) [.long a0, .long a1] h (mv_Rl (fun v σ1 => rv = v ∧ rg = σ1 ∧ mv_r σ1 = mv_r h)) := by
  refine mv_C.ofV (cc := b_Bits_divide) (nL := 6) (ret := (Option.some Jvm.ClassFile.FieldType.long)) (by decide +kernel) rfl hi (Nat.le_of_ble_eq_true rfl) ?_
  intro p e s m below meth c B hNs hr hnm hno
  unfold f_Bits_divide at hf
  refine mv_lload_n (pc := 0) B d_Bits_divide_0 rfl 1 rfl ?_
  refine mv_lconst (pc := 1) (v := 0) B d_Bits_divide_1 (by decide) ?_
  refine mv_lcmp (pc := 2) B d_Bits_divide_2 ?_
  refine mv_if_ne (pc := 3) (tgt := 10) B d_Bits_divide_3 rfl (fun h3 => ?_) (fun h3 => ?_)
  · skip
    have hf := xif_f h3 hf
    refine mv_lload_n (pc := 10) B d_Bits_divide_10 rfl 1 rfl ?_
    refine mv_lconst (pc := 11) (v := 0) B d_Bits_divide_11 (by decide) ?_
    refine mv_lcmp (pc := 12) B d_Bits_divide_12 ?_
    refine mv_if_ge (pc := 13) (tgt := 30) B d_Bits_divide_13 rfl (fun h13 => ?_) (fun h13 => ?_)
    · skip
      have hf := xif_t h13 hf
      refine mv_lload_n (pc := 30) B d_Bits_divide_30 rfl 0 rfl ?_
      refine mv_lconst (pc := 31) (v := 0) B d_Bits_divide_31 (by decide) ?_
      refine mv_lcmp (pc := 32) B d_Bits_divide_32 ?_
      refine mv_if_lt (pc := 33) (tgt := 40) B d_Bits_divide_33 rfl (fun h33 => ?_) (fun h33 => ?_)
      · skip
        have hf := xif_t h33 hf
        refine mv_lload_n (pc := 40) B d_Bits_divide_40 rfl 0 rfl ?_
        refine mv_iconst (pc := 41) (v := 1) B d_Bits_divide_41 (by decide) ?_
        refine mv_lushr (pc := 42) B d_Bits_divide_42 ?_
        refine mv_lload_n (pc := 43) B d_Bits_divide_43 rfl 1 rfl ?_
        obtain ⟨q1, hf⟩ := xnzJ_e hf
        refine mv_ldiv (pc := 44) B d_Bits_divide_44 q1 ?_
        refine mv_iconst (pc := 45) (v := 1) B d_Bits_divide_45 (by decide) ?_
        refine mv_lshl (pc := 46) B d_Bits_divide_46 ?_
        refine mv_lstore (pc := 47) B d_Bits_divide_47 (by decide) rfl ?_
        refine mv_lload_n (pc := 49) B d_Bits_divide_49 rfl 1 rfl ?_
        refine mv_lload (pc := 50) B d_Bits_divide_50 0 rfl ?_
        refine mv_lload_n (pc := 52) B d_Bits_divide_52 rfl 2 rfl ?_
        refine mv_lmul (pc := 53) B d_Bits_divide_53 ?_
        refine mv_lsub (pc := 54) B d_Bits_divide_54 ?_
        refine mv_lload_n (pc := 55) B d_Bits_divide_55 rfl 2 rfl ?_
        obtain ⟨v3, g2, eg2, hf⟩ := xhb_e hf
        refine mv_callSi (pc := 56) (n := 2) B (mK_ok sk sv) hNs (ch_Bits_below l hi _ _ _ eg2) rfl (ma_goodc kc_Bits_below) (B.2.2.2.1 _ k_1621) (B.2.2.2.1 _ k_1474) (B.2.2.2.1 _ k_33) ⟨by decide +kernel, by decide +kernel, by decide +kernel⟩ rfl d_Bits_divide_56 rfl (Nat.le_of_ble_eq_true rfl) ⟨by decide, by decide⟩ ⟨by decide, by decide⟩ ⟨by decide, by decide⟩ (mv_noH hno _) (fun w56 σ56 h56 => ?_)
        obtain ⟨rfl, rfl, s_g2⟩ := h56
        have r_g2 : mv_r g2 = mv_r h := s_g2.trans rfl
        refine mv_if_eq (pc := 59) (tgt := 67) B d_Bits_divide_59 rfl (fun h59 => ?_) (fun h59 => ?_)
        · skip
          have hf := xif_t h59 hf
          refine mv_lload (pc := 67) B d_Bits_divide_67 0 rfl ?_
          refine mv_lconst (pc := 69) (v := 1) B d_Bits_divide_69 (by decide) ?_
          refine mv_ladd (pc := 70) B d_Bits_divide_70 ?_
          exact mv_lret (pc := 71) B hr d_Bits_divide_71 (Nat.le_refl _) (Nat.le_refl _) ⟨_, rfl, xrh_l hf r_g2⟩
        · skip
          have hf := xif_f h59 hf
          refine mv_lload (pc := 62) B d_Bits_divide_62 0 rfl ?_
          refine mv_goto (pc := 64) (tgt := 71) B d_Bits_divide_64 rfl ?_
          exact mv_lret (pc := 71) B hr d_Bits_divide_71 (Nat.le_refl _) (Nat.le_refl _) ⟨_, rfl, xrh_l hf r_g2⟩
      · skip
        have hf := xif_f h33 hf
        refine mv_lload_n (pc := 36) B d_Bits_divide_36 rfl 0 rfl ?_
        refine mv_lload_n (pc := 37) B d_Bits_divide_37 rfl 1 rfl ?_
        obtain ⟨q4, hf⟩ := xnzJ_e hf
        refine mv_ldiv (pc := 38) B d_Bits_divide_38 q4 ?_
        exact mv_lret (pc := 39) B hr d_Bits_divide_39 (Nat.le_refl _) (Nat.le_refl _) ⟨_, rfl, xrh_l hf rfl⟩
    · skip
      have hf := xif_f h13 hf
      refine mv_lload_n (pc := 16) B d_Bits_divide_16 rfl 0 rfl ?_
      refine mv_lload_n (pc := 17) B d_Bits_divide_17 rfl 1 rfl ?_
      obtain ⟨v6, g5, eg5, hf⟩ := xhb_e hf
      refine mv_callSi (pc := 18) (n := 2) B (mK_ok sk sv) hNs (ch_Bits_below l hi _ _ _ eg5) rfl (ma_goodc kc_Bits_below) (B.2.2.2.1 _ k_1621) (B.2.2.2.1 _ k_1474) (B.2.2.2.1 _ k_33) ⟨by decide +kernel, by decide +kernel, by decide +kernel⟩ rfl d_Bits_divide_18 rfl (Nat.le_of_ble_eq_true rfl) ⟨by decide, by decide⟩ ⟨by decide, by decide⟩ ⟨by decide, by decide⟩ (mv_noH hno _) (fun w18 σ18 h18 => ?_)
      obtain ⟨rfl, rfl, s_g5⟩ := h18
      have r_g5 : mv_r g5 = mv_r h := s_g5.trans rfl
      refine mv_if_eq (pc := 21) (tgt := 28) B d_Bits_divide_21 rfl (fun h21 => ?_) (fun h21 => ?_)
      · skip
        have hf := xif_t h21 hf
        refine mv_lconst (pc := 28) (v := 1) B d_Bits_divide_28 (by decide) ?_
        exact mv_lret (pc := 29) B hr d_Bits_divide_29 (Nat.le_refl _) (Nat.le_refl _) ⟨_, rfl, xrh_l hf r_g5⟩
      · skip
        have hf := xif_f h21 hf
        refine mv_lconst (pc := 24) (v := 0) B d_Bits_divide_24 (by decide) ?_
        refine mv_goto (pc := 25) (tgt := 29) B d_Bits_divide_25 rfl ?_
        exact mv_lret (pc := 29) B hr d_Bits_divide_29 (Nat.le_refl _) (Nat.le_refl _) ⟨_, rfl, xrh_l hf r_g5⟩
  · skip
    have hf := xif_t h3 hf
    refine mv_ldc2 (pc := 6) (v := -1) B (B.2.2.2.1 _ k_1439) d_Bits_divide_6 ?_
    exact mv_lret (pc := 9) B hr d_Bits_divide_9 (Nat.le_refl _) (Nat.le_refl _) ⟨_, rfl, xrh_l hf rfl⟩
def f_Bits_signedDivide (h : mv_H) (a0 : Int64) (a1 : Int64) : Option (Int64 × mv_H) := if (lg_cmp a1 (0 : Int64)) = (0 : Int32) then (some ((-1 : Int64), h)) else (bif xnzJ a1 then some ((a0 / a1), h) else none)
set_option maxHeartbeats 4000000 in
set_option maxRecDepth 100000 in
theorem ch_Bits_signedDivide (l : Launch) {dA : FieldType → ClassId} {D : va_G} {al : Nat → Nat} {ext : mv_Sh} {sk sv : Nat → Nat} (hi : mv_inj (mg dA D al ext)) (h : mv_H)  (a0 : Int64) (a1 : Int64) {rv : Int64} {rg : mv_H} (hf : f_Bits_signedDivide h a0 a1 = some (rv, rg)) : mv_C l y_Bits_signedDivide (Cond.code y_Bits_signedDivide b_Bits_signedDivide 4 (Option.some Jvm.ClassFile.FieldType.long) :: ma) ({ frames := 0, cells := 0, slots := 0, locals := 0 }) (mg dA D al ext) (mK sk sv) [.long a0, .long a1] h (mv_Rl (fun v σ1 => rv = v ∧ rg = σ1 ∧ mv_r σ1 = mv_r h)) := by
  refine mv_C.ofV (cc := b_Bits_signedDivide) (nL := 4) (ret := (Option.some Jvm.ClassFile.FieldType.long)) (by decide +kernel) rfl hi (Nat.le_of_ble_eq_true rfl) ?_
  intro p e s m below meth c B hNs hr hnm hno
  unfold f_Bits_signedDivide at hf
  refine mv_lload_n (pc := 0) B d_Bits_signedDivide_0 rfl 1 rfl ?_
  refine mv_lconst (pc := 1) (v := 0) B d_Bits_signedDivide_1 (by decide) ?_
  refine mv_lcmp (pc := 2) B d_Bits_signedDivide_2 ?_
  refine mv_if_ne (pc := 3) (tgt := 12) B d_Bits_signedDivide_3 rfl (fun h3 => ?_) (fun h3 => ?_)
  · skip
    have hf := xif_f h3 hf
    refine mv_lload_n (pc := 12) B d_Bits_signedDivide_12 rfl 0 rfl ?_
    refine mv_lload_n (pc := 13) B d_Bits_signedDivide_13 rfl 1 rfl ?_
    obtain ⟨q1, hf⟩ := xnzJ_e hf
    refine mv_ldiv (pc := 14) B d_Bits_signedDivide_14 q1 ?_
    exact mv_lret (pc := 15) B hr d_Bits_signedDivide_15 (Nat.le_refl _) (Nat.le_refl _) ⟨_, rfl, xrh_l hf rfl⟩
  · skip
    have hf := xif_t h3 hf
    refine mv_ldc2 (pc := 6) (v := -1) B (B.2.2.2.1 _ k_1439) d_Bits_signedDivide_6 ?_
    refine mv_goto (pc := 9) (tgt := 15) B d_Bits_signedDivide_9 rfl ?_
    exact mv_lret (pc := 15) B hr d_Bits_signedDivide_15 (Nat.le_refl _) (Nat.le_refl _) ⟨_, rfl, xrh_l hf rfl⟩
def f_Bits_signedRemain (h : mv_H) (a0 : Int64) (a1 : Int64) : Option (Int64 × mv_H) := if (lg_cmp a1 (0 : Int64)) = (0 : Int32) then (some (a0, h)) else (bif xnzJ a1 then some ((a0 - a0 / a1 * a1), h) else none)
set_option maxHeartbeats 4000000 in
set_option maxRecDepth 100000 in
theorem ch_Bits_signedRemain (l : Launch) {dA : FieldType → ClassId} {D : va_G} {al : Nat → Nat} {ext : mv_Sh} {sk sv : Nat → Nat} (hi : mv_inj (mg dA D al ext)) (h : mv_H)  (a0 : Int64) (a1 : Int64) {rv : Int64} {rg : mv_H} (hf : f_Bits_signedRemain h a0 a1 = some (rv, rg)) : mv_C l y_Bits_signedRemain (Cond.code y_Bits_signedRemain b_Bits_signedRemain 4 (Option.some Jvm.ClassFile.FieldType.long) :: ma) ({ frames := 0, cells := 0, slots := 0, locals := 0 }) (mg dA D al ext) (mK sk sv) [.long a0, .long a1] h (mv_Rl (fun v σ1 => rv = v ∧ rg = σ1 ∧ mv_r σ1 = mv_r h)) := by
  refine mv_C.ofV (cc := b_Bits_signedRemain) (nL := 4) (ret := (Option.some Jvm.ClassFile.FieldType.long)) (by decide +kernel) rfl hi (Nat.le_of_ble_eq_true rfl) ?_
  intro p e s m below meth c B hNs hr hnm hno
  unfold f_Bits_signedRemain at hf
  refine mv_lload_n (pc := 0) B d_Bits_signedRemain_0 rfl 1 rfl ?_
  refine mv_lconst (pc := 1) (v := 0) B d_Bits_signedRemain_1 (by decide) ?_
  refine mv_lcmp (pc := 2) B d_Bits_signedRemain_2 ?_
  refine mv_if_ne (pc := 3) (tgt := 10) B d_Bits_signedRemain_3 rfl (fun h3 => ?_) (fun h3 => ?_)
  · skip
    have hf := xif_f h3 hf
    refine mv_lload_n (pc := 10) B d_Bits_signedRemain_10 rfl 0 rfl ?_
    refine mv_lload_n (pc := 11) B d_Bits_signedRemain_11 rfl 1 rfl ?_
    obtain ⟨q1, hf⟩ := xnzJ_e hf
    refine mv_lrem (pc := 12) B d_Bits_signedRemain_12 q1 ?_
    exact mv_lret (pc := 13) B hr d_Bits_signedRemain_13 (Nat.le_refl _) (Nat.le_refl _) ⟨_, rfl, xrh_l hf rfl⟩
  · skip
    have hf := xif_t h3 hf
    refine mv_lload_n (pc := 6) B d_Bits_signedRemain_6 rfl 0 rfl ?_
    refine mv_goto (pc := 7) (tgt := 13) B d_Bits_signedRemain_7 rfl ?_
    exact mv_lret (pc := 13) B hr d_Bits_signedRemain_13 (Nat.le_refl _) (Nat.le_refl _) ⟨_, rfl, xrh_l hf rfl⟩
def f_Bits_shift_46 (y0 : Int32) (y1 : Int64) (hz : mv_H) : Option (Int64 × mv_H) := some ((y1 >>> ((y0).toInt64 &&& 63)), hz)
def f_Bits_shift_19 (x0 : Int32) (x1 : Int64) (x3 : Int64) (x5 : Int32) (y0 : Int32) (hz : mv_H) : Option (Int64 × mv_H) := if x0 = (216 : Int32) then (xhb (f_Bits_signed hz x1 x5) fun v2 g1 => if y0 = (0 : Int32) then (f_Bits_shift_46 ((x3).toInt32) v2 g1) else (f_Bits_shift_46 (63 : Int32) v2 g1)) else (if y0 = (0 : Int32) then (if x0 = (131 : Int32) then (some ((x1 <<< ((((x3).toInt32)).toInt64 &&& 63)), hz)) else (some ((((x1).toUInt64 >>> ((((x3).toInt32)).toInt64.toUInt64 &&& Int64.toUInt64 63)).toInt64), hz))) else (some ((0 : Int64), hz)))
def f_Bits_shift_14 (x0 : Int32) (x1 : Int64) (x3 : Int64) (x5 : Int32) (hz : mv_H) : Option (Int64 × mv_H) := f_Bits_shift_19 x0 x1 x3 x5 (1 : Int32) hz
def f_Bits_shift (h : mv_H) (a0 : Int32) (a1 : Int64) (a2 : Int64) (a3 : Int32) : Option (Int64 × mv_H) := if (lg_cmp a2 (0 : Int64)) < (0 : Int32) then (f_Bits_shift_14 a0 a1 a2 a3 h) else (if (lg_cmp a2 ((a3).toInt64)) < (0 : Int32) then (f_Bits_shift_19 a0 a1 a2 a3 (0 : Int32) h) else (f_Bits_shift_14 a0 a1 a2 a3 h))
set_option maxHeartbeats 4000000 in
set_option maxRecDepth 100000 in
theorem ch_Bits_shift (l : Launch) {dA : FieldType → ClassId} {D : va_G} {al : Nat → Nat} {ext : mv_Sh} {sk sv : Nat → Nat} (hi : mv_inj (mg dA D al ext)) (h : mv_H)  (a0 : Int32) (a1 : Int64) (a2 : Int64) (a3 : Int32) {rv : Int64} {rg : mv_H} (hf : f_Bits_shift h a0 a1 a2 a3 = some (rv, rg)) : mv_C l y_Bits_shift (Cond.code y_Bits_shift b_Bits_shift 7 (Option.some Jvm.ClassFile.FieldType.long) :: ma) ({ frames := 1, cells := 0, slots := 0, locals := 23 }) (mg dA D al ext) (mK sk sv) [.int a0, .long a1, .long a2, .int a3] h (mv_Rl (fun v σ1 => rv = v ∧ rg = σ1 ∧ mv_r σ1 = mv_r h)) := by
  refine mv_C.ofV (cc := b_Bits_shift) (nL := 7) (ret := (Option.some Jvm.ClassFile.FieldType.long)) (by decide +kernel) rfl hi (Nat.le_of_ble_eq_true rfl) ?_
  intro p e s m below meth c B hNs hr hnm hno
  have jn46 : ∀ (y0 : Int32) (y1 : Int64) (hz : mv_H), mv_r hz = mv_r h → f_Bits_shift_46 y0 y1 hz = some (rv, rg) → mv_V p l e ({ frames := 1, cells := 0, slots := 0, locals := 23 }) s m ([.int a0, .long a1, .long a2, .int a3] : List Value).toArray below meth c (mg dA D al ext) 7 0 0 (mv_Q (mg dA D al ext) below s 0 0 (mv_Rl (fun v σ1 => rv = v ∧ rg = σ1 ∧ mv_r σ1 = mv_r h))) hz 46 [] [.int y0, .long y1] := by
    intro y0 y1 hz r_hz hf
    unfold f_Bits_shift_46 at hf
    refine mv_lshr (pc := 46) B d_Bits_shift_46 ?_
    exact mv_lret (pc := 47) B hr d_Bits_shift_47 (Nat.le_refl _) (Nat.le_refl _) ⟨_, rfl, xrh_l hf r_hz⟩
  have jn19 : ∀ (x0 : Int32) (x1 : Int64) (x3 : Int64) (x5 : Int32) (y0 : Int32) (hz : mv_H), mv_r hz = mv_r h → f_Bits_shift_19 x0 x1 x3 x5 y0 hz = some (rv, rg) → mv_V p l e ({ frames := 1, cells := 0, slots := 0, locals := 23 }) s m ([.int a0, .long a1, .long a2, .int a3] : List Value).toArray below meth c (mg dA D al ext) 7 0 0 (mv_Q (mg dA D al ext) below s 0 0 (mv_Rl (fun v σ1 => rv = v ∧ rg = σ1 ∧ mv_r σ1 = mv_r h))) hz 19 [(0, .int x0), (1, .long x1), (3, .long x3), (5, .int x5)] [.int y0] := by
    intro x0 x1 x3 x5 y0 hz r_hz hf
    unfold f_Bits_shift_19 at hf
    refine mv_istore (pc := 19) B d_Bits_shift_19 (by decide) rfl ?_
    refine mv_iload_n (pc := 21) B d_Bits_shift_21 rfl 1 rfl ?_
    refine mv_sipush (pc := 22) (v := 216) B d_Bits_shift_22 (by decide) ?_
    refine mv_icmp_ne (pc := 25) (tgt := 48) B d_Bits_shift_25 rfl (fun h25 => ?_) (fun h25 => ?_)
    · skip
      have hf := xif_f h25 hf
      refine mv_iload (pc := 48) B d_Bits_shift_48 0 rfl ?_
      refine mv_if_eq (pc := 50) (tgt := 55) B d_Bits_shift_50 rfl (fun h50 => ?_) (fun h50 => ?_)
      · skip
        have hf := xif_t h50 hf
        refine mv_iload_n (pc := 55) B d_Bits_shift_55 rfl 1 rfl ?_
        refine mv_sipush (pc := 56) (v := 131) B d_Bits_shift_56 (by decide) ?_
        refine mv_icmp_ne (pc := 59) (tgt := 69) B d_Bits_shift_59 rfl (fun h59 => ?_) (fun h59 => ?_)
        · skip
          have hf := xif_f h59 hf
          refine mv_lload_n (pc := 69) B d_Bits_shift_69 rfl 2 rfl ?_
          refine mv_lload_n (pc := 70) B d_Bits_shift_70 rfl 3 rfl ?_
          refine mv_l2i (pc := 71) B d_Bits_shift_71 ?_
          refine mv_lushr (pc := 72) B d_Bits_shift_72 ?_
          exact mv_lret (pc := 73) B hr d_Bits_shift_73 (Nat.le_refl _) (Nat.le_refl _) ⟨_, rfl, xrh_l hf r_hz⟩
        · skip
          have hf := xif_t h59 hf
          refine mv_lload_n (pc := 62) B d_Bits_shift_62 rfl 2 rfl ?_
          refine mv_lload_n (pc := 63) B d_Bits_shift_63 rfl 3 rfl ?_
          refine mv_l2i (pc := 64) B d_Bits_shift_64 ?_
          refine mv_lshl (pc := 65) B d_Bits_shift_65 ?_
          refine mv_goto (pc := 66) (tgt := 73) B d_Bits_shift_66 rfl ?_
          exact mv_lret (pc := 73) B hr d_Bits_shift_73 (Nat.le_refl _) (Nat.le_refl _) ⟨_, rfl, xrh_l hf r_hz⟩
      · skip
        have hf := xif_f h50 hf
        refine mv_lconst (pc := 53) (v := 0) B d_Bits_shift_53 (by decide) ?_
        exact mv_lret (pc := 54) B hr d_Bits_shift_54 (Nat.le_refl _) (Nat.le_refl _) ⟨_, rfl, xrh_l hf r_hz⟩
    · skip
      have hf := xif_t h25 hf
      refine mv_lload_n (pc := 28) B d_Bits_shift_28 rfl 2 rfl ?_
      refine mv_iload (pc := 29) B d_Bits_shift_29 4 rfl ?_
      obtain ⟨v2, g1, eg1, hf⟩ := xhb_e hf
      refine mv_callSl (pc := 31) (n := 2) B (mK_ok sk sv) hNs (ch_Bits_signed l hi _ _ _ eg1) rfl (ma_goodc kc_Bits_signed) (B.2.2.2.1 _ k_1622) (B.2.2.2.1 _ k_1612) (B.2.2.2.1 _ k_33) ⟨by decide +kernel, by decide +kernel, by decide +kernel⟩ rfl d_Bits_shift_31 rfl (Nat.le_of_ble_eq_true rfl) ⟨by decide, by decide⟩ ⟨by decide, by decide⟩ ⟨by decide, by decide⟩ (mv_noH hno _) (fun w31 σ31 h31 => ?_)
      obtain ⟨rfl, rfl, s_g1⟩ := h31
      have r_g1 : mv_r g1 = mv_r h := s_g1.trans r_hz
      refine mv_iload (pc := 34) B d_Bits_shift_34 0 rfl ?_
      refine mv_if_eq (pc := 36) (tgt := 44) B d_Bits_shift_36 rfl (fun h36 => ?_) (fun h36 => ?_)
      · skip
        have hf := xif_t h36 hf
        refine mv_lload_n (pc := 44) B d_Bits_shift_44 rfl 3 rfl ?_
        refine mv_l2i (pc := 45) B d_Bits_shift_45 ?_
        refine mv_lpick [] rfl ?_
        exact jn46 _ _ _ r_g1 hf
      · skip
        have hf := xif_f h36 hf
        refine mv_bipush (pc := 39) (v := 63) B d_Bits_shift_39 (by decide) ?_
        refine mv_goto (pc := 41) (tgt := 46) B d_Bits_shift_41 rfl ?_
        refine mv_lpick [] rfl ?_
        exact jn46 _ _ _ r_g1 hf
  have jn14 : ∀ (x0 : Int32) (x1 : Int64) (x3 : Int64) (x5 : Int32) (hz : mv_H), mv_r hz = mv_r h → f_Bits_shift_14 x0 x1 x3 x5 hz = some (rv, rg) → mv_V p l e ({ frames := 1, cells := 0, slots := 0, locals := 23 }) s m ([.int a0, .long a1, .long a2, .int a3] : List Value).toArray below meth c (mg dA D al ext) 7 0 0 (mv_Q (mg dA D al ext) below s 0 0 (mv_Rl (fun v σ1 => rv = v ∧ rg = σ1 ∧ mv_r σ1 = mv_r h))) hz 14 [(0, .int x0), (1, .long x1), (3, .long x3), (5, .int x5)] [] := by
    intro x0 x1 x3 x5 hz r_hz hf
    unfold f_Bits_shift_14 at hf
    refine mv_iconst (pc := 14) (v := 1) B d_Bits_shift_14 (by decide) ?_
    refine mv_goto (pc := 15) (tgt := 19) B d_Bits_shift_15 rfl ?_
    refine mv_lpick [0, 1, 2, 3] rfl ?_
    exact jn19 _ _ _ _ _ _ r_hz hf
  unfold f_Bits_shift at hf
  refine mv_lload_n (pc := 0) B d_Bits_shift_0 rfl 2 rfl ?_
  refine mv_lconst (pc := 1) (v := 0) B d_Bits_shift_1 (by decide) ?_
  refine mv_lcmp (pc := 2) B d_Bits_shift_2 ?_
  refine mv_if_lt (pc := 3) (tgt := 14) B d_Bits_shift_3 rfl (fun h3 => ?_) (fun h3 => ?_)
  · skip
    have hf := xif_t h3 hf
    refine mv_lpick [0, 1, 2, 3] rfl ?_
    exact jn14 _ _ _ _ _ rfl hf
  · skip
    have hf := xif_f h3 hf
    refine mv_lload_n (pc := 6) B d_Bits_shift_6 rfl 2 rfl ?_
    refine mv_iload (pc := 7) B d_Bits_shift_7 3 rfl ?_
    refine mv_i2l (pc := 9) B d_Bits_shift_9 ?_
    refine mv_lcmp (pc := 10) B d_Bits_shift_10 ?_
    refine mv_if_lt (pc := 11) (tgt := 18) B d_Bits_shift_11 rfl (fun h11 => ?_) (fun h11 => ?_)
    · skip
      have hf := xif_t h11 hf
      refine mv_iconst (pc := 18) (v := 0) B d_Bits_shift_18 (by decide) ?_
      refine mv_lpick [0, 1, 2, 3] rfl ?_
      exact jn19 _ _ _ _ _ _ rfl hf
    · skip
      have hf := xif_f h11 hf
      refine mv_lpick [0, 1, 2, 3] rfl ?_
      exact jn14 _ _ _ _ _ rfl hf
def f_Bits_holds (h : mv_H) (a0 : Int32) (a1 : Int64) (a2 : Int64) (a3 : Int32) : Option (Int32 × mv_H) := if (a0).toInt = 60 then (xhb (f_Bits_below h a1 a2) fun v2 g1 => bif xzb v2 then some (v2, g1) else none) else (if (a0).toInt = 128 then (if (lg_cmp a1 a2) = (0 : Int32) then (bif xzb (1 : Int32) then some ((1 : Int32), h) else none) else (bif xzb (0 : Int32) then some ((0 : Int32), h) else none)) else (if (a0).toInt = 129 then (if (lg_cmp a1 a2) = (0 : Int32) then (bif xzb (0 : Int32) then some ((0 : Int32), h) else none) else (bif xzb (1 : Int32) then some ((1 : Int32), h) else none)) else (if (a0).toInt = 130 then (xhb (f_Bits_below h a2 a1) fun v9 g8 => if v9 = (0 : Int32) then (bif xzb (1 : Int32) then some ((1 : Int32), g8) else none) else (bif xzb (0 : Int32) then some ((0 : Int32), g8) else none)) else (xhb (f_Bits_signed h a1 a3) fun v13 g12 => xhb (f_Bits_signed g12 a2 a3) fun v15 g14 => if (0 : Int32) ≤ (lg_cmp v13 v15) then (bif xzb (0 : Int32) then some ((0 : Int32), g14) else none) else (bif xzb (1 : Int32) then some ((1 : Int32), g14) else none)))))
set_option maxHeartbeats 4000000 in
set_option maxRecDepth 100000 in
theorem ch_Bits_holds (l : Launch) {dA : FieldType → ClassId} {D : va_G} {al : Nat → Nat} {ext : mv_Sh} {sk sv : Nat → Nat} (hi : mv_inj (mg dA D al ext)) (h : mv_H)  (a0 : Int32) (a1 : Int64) (a2 : Int64) (a3 : Int32) {rv : Int32} {rg : mv_H} (hf : f_Bits_holds h a0 a1 a2 a3 = some (rv, rg)) : mv_C l y_Bits_holds (Cond.code y_Bits_holds b_Bits_holds 6 (Option.some Jvm.ClassFile.FieldType.boolean) :: ma) ({ frames := 1, cells := 0, slots := 0, locals := 23 }) (mg dA D al ext) (mK sk sv) [.int a0, .long a1, .long a2, .int a3] h (mv_Ri (fun v σ1 => rv = v ∧ rg = σ1 ∧ mv_r σ1 = mv_r h)) := by
  refine mv_C.ofV (cc := b_Bits_holds) (nL := 6) (ret := (Option.some Jvm.ClassFile.FieldType.boolean)) (by decide +kernel) rfl hi (Nat.le_of_ble_eq_true rfl) ?_
  intro p e s m below meth c B hNs hr hnm hno
  unfold f_Bits_holds at hf
  refine mv_iload_n (pc := 0) B d_Bits_holds_0 rfl 0 rfl ?_
  refine mv_lsw (pc := 1) B d_Bits_holds_1 (by decide) (by decide) ?_
  refine ⟨fun h1 => ?_, fun h1n60 => ?_⟩
  · skip
    have hf := xif_t h1 hf
    show mv_V _ _ _ _ _ _ _ _ _ _ _ _ _ _ _ _ 68 _ _
    refine mv_lload_n (pc := 68) B d_Bits_holds_68 rfl 1 rfl ?_
    refine mv_lload_n (pc := 69) B d_Bits_holds_69 rfl 2 rfl ?_
    obtain ⟨v2, g1, eg1, hf⟩ := xhb_e hf
    refine mv_callSi (pc := 70) (n := 2) B (mK_ok sk sv) hNs (ch_Bits_below l hi _ _ _ eg1) rfl (ma_goodc kc_Bits_below) (B.2.2.2.1 _ k_1621) (B.2.2.2.1 _ k_1474) (B.2.2.2.1 _ k_33) ⟨by decide +kernel, by decide +kernel, by decide +kernel⟩ rfl d_Bits_holds_70 rfl (Nat.le_of_ble_eq_true rfl) ⟨by decide, by decide⟩ ⟨by decide, by decide⟩ ⟨by decide, by decide⟩ (mv_noH hno _) (fun w70 σ70 h70 => ?_)
    obtain ⟨rfl, rfl, s_g1⟩ := h70
    have r_g1 : mv_r g1 = mv_r h := s_g1.trans rfl
    obtain ⟨q3, hf⟩ := xzb_e hf
    exact mv_iret (pc := 73) B hr (xzb_n q3) d_Bits_holds_73 (Nat.le_refl _) (Nat.le_refl _) ⟨_, rfl, xrh_i hf r_g1⟩
  have hf := xif_f h1n60 hf
  refine ⟨fun h1 => ?_, fun h1n128 => ?_⟩
  · skip
    have hf := xif_t h1 hf
    show mv_V _ _ _ _ _ _ _ _ _ _ _ _ _ _ _ _ 44 _ _
    refine mv_lload_n (pc := 44) B d_Bits_holds_44 rfl 1 rfl ?_
    refine mv_lload_n (pc := 45) B d_Bits_holds_45 rfl 2 rfl ?_
    refine mv_lcmp (pc := 46) B d_Bits_holds_46 ?_
    refine mv_if_ne (pc := 47) (tgt := 54) B d_Bits_holds_47 rfl (fun h47 => ?_) (fun h47 => ?_)
    · skip
      have hf := xif_f h47 hf
      refine mv_iconst (pc := 54) (v := 0) B d_Bits_holds_54 (by decide) ?_
      obtain ⟨q4, hf⟩ := xzb_e hf
      exact mv_iret (pc := 55) B hr (xzb_n q4) d_Bits_holds_55 (Nat.le_refl _) (Nat.le_refl _) ⟨_, rfl, xrh_i hf rfl⟩
    · skip
      have hf := xif_t h47 hf
      refine mv_iconst (pc := 50) (v := 1) B d_Bits_holds_50 (by decide) ?_
      refine mv_goto (pc := 51) (tgt := 55) B d_Bits_holds_51 rfl ?_
      obtain ⟨q5, hf⟩ := xzb_e hf
      exact mv_iret (pc := 55) B hr (xzb_n q5) d_Bits_holds_55 (Nat.le_refl _) (Nat.le_refl _) ⟨_, rfl, xrh_i hf rfl⟩
  have hf := xif_f h1n128 hf
  refine ⟨fun h1 => ?_, fun h1n129 => ?_⟩
  · skip
    have hf := xif_t h1 hf
    show mv_V _ _ _ _ _ _ _ _ _ _ _ _ _ _ _ _ 56 _ _
    refine mv_lload_n (pc := 56) B d_Bits_holds_56 rfl 1 rfl ?_
    refine mv_lload_n (pc := 57) B d_Bits_holds_57 rfl 2 rfl ?_
    refine mv_lcmp (pc := 58) B d_Bits_holds_58 ?_
    refine mv_if_eq (pc := 59) (tgt := 66) B d_Bits_holds_59 rfl (fun h59 => ?_) (fun h59 => ?_)
    · skip
      have hf := xif_t h59 hf
      refine mv_iconst (pc := 66) (v := 0) B d_Bits_holds_66 (by decide) ?_
      obtain ⟨q6, hf⟩ := xzb_e hf
      exact mv_iret (pc := 67) B hr (xzb_n q6) d_Bits_holds_67 (Nat.le_refl _) (Nat.le_refl _) ⟨_, rfl, xrh_i hf rfl⟩
    · skip
      have hf := xif_f h59 hf
      refine mv_iconst (pc := 62) (v := 1) B d_Bits_holds_62 (by decide) ?_
      refine mv_goto (pc := 63) (tgt := 67) B d_Bits_holds_63 rfl ?_
      obtain ⟨q7, hf⟩ := xzb_e hf
      exact mv_iret (pc := 67) B hr (xzb_n q7) d_Bits_holds_67 (Nat.le_refl _) (Nat.le_refl _) ⟨_, rfl, xrh_i hf rfl⟩
  have hf := xif_f h1n129 hf
  refine ⟨fun h1 => ?_, fun h1n130 => ?_⟩
  · skip
    have hf := xif_t h1 hf
    show mv_V _ _ _ _ _ _ _ _ _ _ _ _ _ _ _ _ 74 _ _
    refine mv_lload_n (pc := 74) B d_Bits_holds_74 rfl 2 rfl ?_
    refine mv_lload_n (pc := 75) B d_Bits_holds_75 rfl 1 rfl ?_
    obtain ⟨v9, g8, eg8, hf⟩ := xhb_e hf
    refine mv_callSi (pc := 76) (n := 2) B (mK_ok sk sv) hNs (ch_Bits_below l hi _ _ _ eg8) rfl (ma_goodc kc_Bits_below) (B.2.2.2.1 _ k_1621) (B.2.2.2.1 _ k_1474) (B.2.2.2.1 _ k_33) ⟨by decide +kernel, by decide +kernel, by decide +kernel⟩ rfl d_Bits_holds_76 rfl (Nat.le_of_ble_eq_true rfl) ⟨by decide, by decide⟩ ⟨by decide, by decide⟩ ⟨by decide, by decide⟩ (mv_noH hno _) (fun w76 σ76 h76 => ?_)
    obtain ⟨rfl, rfl, s_g8⟩ := h76
    have r_g8 : mv_r g8 = mv_r h := s_g8.trans rfl
    refine mv_if_ne (pc := 79) (tgt := 86) B d_Bits_holds_79 rfl (fun h79 => ?_) (fun h79 => ?_)
    · skip
      have hf := xif_f h79 hf
      refine mv_iconst (pc := 86) (v := 0) B d_Bits_holds_86 (by decide) ?_
      obtain ⟨q10, hf⟩ := xzb_e hf
      exact mv_iret (pc := 87) B hr (xzb_n q10) d_Bits_holds_87 (Nat.le_refl _) (Nat.le_refl _) ⟨_, rfl, xrh_i hf r_g8⟩
    · skip
      have hf := xif_t h79 hf
      refine mv_iconst (pc := 82) (v := 1) B d_Bits_holds_82 (by decide) ?_
      refine mv_goto (pc := 83) (tgt := 87) B d_Bits_holds_83 rfl ?_
      obtain ⟨q11, hf⟩ := xzb_e hf
      exact mv_iret (pc := 87) B hr (xzb_n q11) d_Bits_holds_87 (Nat.le_refl _) (Nat.le_refl _) ⟨_, rfl, xrh_i hf r_g8⟩
  have hf := xif_f h1n130 hf
  show mv_V _ _ _ _ _ _ _ _ _ _ _ _ _ _ _ _ 88 _ _
  refine mv_lload_n (pc := 88) B d_Bits_holds_88 rfl 1 rfl ?_
  refine mv_iload (pc := 89) B d_Bits_holds_89 3 rfl ?_
  obtain ⟨v13, g12, eg12, hf⟩ := xhb_e hf
  refine mv_callSl (pc := 91) (n := 2) B (mK_ok sk sv) hNs (ch_Bits_signed l hi _ _ _ eg12) rfl (ma_goodc kc_Bits_signed) (B.2.2.2.1 _ k_1622) (B.2.2.2.1 _ k_1612) (B.2.2.2.1 _ k_33) ⟨by decide +kernel, by decide +kernel, by decide +kernel⟩ rfl d_Bits_holds_91 rfl (Nat.le_of_ble_eq_true rfl) ⟨by decide, by decide⟩ ⟨by decide, by decide⟩ ⟨by decide, by decide⟩ (mv_noH hno _) (fun w91 σ91 h91 => ?_)
  obtain ⟨rfl, rfl, s_g12⟩ := h91
  have r_g12 : mv_r g12 = mv_r h := s_g12.trans rfl
  refine mv_lload_n (pc := 94) B d_Bits_holds_94 rfl 2 rfl ?_
  refine mv_iload (pc := 95) B d_Bits_holds_95 3 rfl ?_
  obtain ⟨v15, g14, eg14, hf⟩ := xhb_e hf
  refine mv_callSl (pc := 97) (n := 2) B (mK_ok sk sv) hNs (ch_Bits_signed l hi _ _ _ eg14) rfl (ma_goodc kc_Bits_signed) (B.2.2.2.1 _ k_1622) (B.2.2.2.1 _ k_1612) (B.2.2.2.1 _ k_33) ⟨by decide +kernel, by decide +kernel, by decide +kernel⟩ rfl d_Bits_holds_97 rfl (Nat.le_of_ble_eq_true rfl) ⟨by decide, by decide⟩ ⟨by decide, by decide⟩ ⟨by decide, by decide⟩ (mv_noH hno _) (fun w97 σ97 h97 => ?_)
  obtain ⟨rfl, rfl, s_g14⟩ := h97
  have r_g14 : mv_r g14 = mv_r h := s_g14.trans r_g12
  refine mv_lcmp (pc := 100) B d_Bits_holds_100 ?_
  refine mv_if_ge (pc := 101) (tgt := 108) B d_Bits_holds_101 rfl (fun h101 => ?_) (fun h101 => ?_)
  · skip
    have hf := xif_t h101 hf
    refine mv_iconst (pc := 108) (v := 0) B d_Bits_holds_108 (by decide) ?_
    obtain ⟨q16, hf⟩ := xzb_e hf
    exact mv_iret (pc := 109) B hr (xzb_n q16) d_Bits_holds_109 (Nat.le_refl _) (Nat.le_refl _) ⟨_, rfl, xrh_i hf r_g14⟩
  · skip
    have hf := xif_f h101 hf
    refine mv_iconst (pc := 104) (v := 1) B d_Bits_holds_104 (by decide) ?_
    refine mv_goto (pc := 105) (tgt := 109) B d_Bits_holds_105 rfl ?_
    obtain ⟨q17, hf⟩ := xzb_e hf
    exact mv_iret (pc := 109) B hr (xzb_n q17) d_Bits_holds_109 (Nat.le_refl _) (Nat.le_refl _) ⟨_, rfl, xrh_i hf r_g14⟩
def f_Bits_ofTwo_234 (x0 : Int32) (x1 : Int64) (x3 : Int64) (x5 : Int32) (hz : mv_H) : Option (Int64 × mv_H) := xhb (f_Bits_shift hz x0 x1 x3 x5) fun v2 g1 => xhb (f_Bits_mask g1 x5) fun v4 g3 => some ((v2 &&& v4), g3)
def f_Bits_ofTwo (h : mv_H) (a0 : Int32) (a1 : Int64) (a2 : Int64) (a3 : Int32) : Option (Int64 × mv_H) := if (a0).toInt = 37 then (if (lg_cmp a2 (0 : Int64)) = (0 : Int32) then (some (a1, h)) else (xhb (f_Bits_divide h a1 a2) fun v6 g5 => some ((a1 - (v6 * a2)), g5))) else (if (a0).toInt = 38 then (some ((a1 &&& a2), h)) else (if (a0).toInt = 42 then (xhb (f_Bits_mask h a3) fun v8 g7 => some (((a1 * a2) &&& v8), g7)) else (if (a0).toInt = 43 then (xhb (f_Bits_mask h a3) fun v10 g9 => some (((a1 + a2) &&& v10), g9)) else (if (a0).toInt = 45 then (xhb (f_Bits_mask h a3) fun v12 g11 => some (((a1 - a2) &&& v12), g11)) else (if (a0).toInt = 47 then (xhb (f_Bits_divide h a1 a2) fun v14 g13 => xhb (f_Bits_mask g13 a3) fun v16 g15 => some ((v14 &&& v16), g15)) else (if (a0).toInt = 94 then (some ((a1 ^^^ a2), h)) else (if (a0).toInt = 124 then (some ((a1 ||| a2), h)) else (if (a0).toInt = 131 then (f_Bits_ofTwo_234 a0 a1 a2 a3 h) else (if (a0).toInt = 132 then (f_Bits_ofTwo_234 a0 a1 a2 a3 h) else (if (a0).toInt = 214 then (xhb (f_Bits_signed h a1 a3) fun v18 g17 => xhb (f_Bits_signed g17 a2 a3) fun v20 g19 => xhb (f_Bits_signedDivide g19 v18 v20) fun v22 g21 => xhb (f_Bits_mask g21 a3) fun v24 g23 => some ((v22 &&& v24), g23)) else (if (a0).toInt = 215 then (xhb (f_Bits_signed h a1 a3) fun v26 g25 => xhb (f_Bits_signed g25 a2 a3) fun v28 g27 => xhb (f_Bits_signedRemain g27 v26 v28) fun v30 g29 => xhb (f_Bits_mask g29 a3) fun v32 g31 => some ((v30 &&& v32), g31)) else (if (a0).toInt = 216 then (f_Bits_ofTwo_234 a0 a1 a2 a3 h) else (xhb (f_Bits_holds h a0 a1 a2 a3) fun v34 g33 => if v34 = (0 : Int32) then (some ((0 : Int64), g33)) else (some ((1 : Int64), g33)))))))))))))))
set_option maxHeartbeats 4000000 in
set_option maxRecDepth 100000 in
theorem ch_Bits_ofTwo (l : Launch) {dA : FieldType → ClassId} {D : va_G} {al : Nat → Nat} {ext : mv_Sh} {sk sv : Nat → Nat} (hi : mv_inj (mg dA D al ext)) (h : mv_H)  (a0 : Int32) (a1 : Int64) (a2 : Int64) (a3 : Int32) {rv : Int64} {rg : mv_H} (hf : f_Bits_ofTwo h a0 a1 a2 a3 = some (rv, rg)) : mv_C l y_Bits_ofTwo (Cond.code y_Bits_ofTwo b_Bits_ofTwo 6 (Option.some Jvm.ClassFile.FieldType.long) :: ma) ({ frames := 2, cells := 0, slots := 0, locals := 49 }) (mg dA D al ext) (mK sk sv) [.int a0, .long a1, .long a2, .int a3] h (mv_Rl (fun v σ1 => rv = v ∧ rg = σ1 ∧ mv_r σ1 = mv_r h)) := by
  refine mv_C.ofV (cc := b_Bits_ofTwo) (nL := 6) (ret := (Option.some Jvm.ClassFile.FieldType.long)) (by decide +kernel) rfl hi (Nat.le_of_ble_eq_true rfl) ?_
  intro p e s m below meth c B hNs hr hnm hno
  have jn234 : ∀ (x0 : Int32) (x1 : Int64) (x3 : Int64) (x5 : Int32) (hz : mv_H), mv_r hz = mv_r h → f_Bits_ofTwo_234 x0 x1 x3 x5 hz = some (rv, rg) → mv_V p l e ({ frames := 2, cells := 0, slots := 0, locals := 49 }) s m ([.int a0, .long a1, .long a2, .int a3] : List Value).toArray below meth c (mg dA D al ext) 6 0 0 (mv_Q (mg dA D al ext) below s 0 0 (mv_Rl (fun v σ1 => rv = v ∧ rg = σ1 ∧ mv_r σ1 = mv_r h))) hz 234 [(0, .int x0), (1, .long x1), (3, .long x3), (5, .int x5)] [] := by
    intro x0 x1 x3 x5 hz r_hz hf
    unfold f_Bits_ofTwo_234 at hf
    refine mv_iload_n (pc := 234) B d_Bits_ofTwo_234 rfl 0 rfl ?_
    refine mv_lload_n (pc := 235) B d_Bits_ofTwo_235 rfl 1 rfl ?_
    refine mv_lload_n (pc := 236) B d_Bits_ofTwo_236 rfl 2 rfl ?_
    refine mv_iload (pc := 237) B d_Bits_ofTwo_237 3 rfl ?_
    obtain ⟨v2, g1, eg1, hf⟩ := xhb_e hf
    refine mv_callSl (pc := 239) (n := 4) B (mK_ok sk sv) hNs (ch_Bits_shift l hi _ _ _ _ _ eg1) rfl (ma_goodc kc_Bits_shift) (B.2.2.2.1 _ k_1629) (B.2.2.2.1 _ k_1630) (B.2.2.2.1 _ k_33) ⟨by decide +kernel, by decide +kernel, by decide +kernel⟩ rfl d_Bits_ofTwo_239 rfl (Nat.le_of_ble_eq_true rfl) ⟨by decide, by decide⟩ ⟨by decide, by decide⟩ ⟨by decide, by decide⟩ (mv_noH hno _) (fun w239 σ239 h239 => ?_)
    obtain ⟨rfl, rfl, s_g1⟩ := h239
    have r_g1 : mv_r g1 = mv_r h := s_g1.trans r_hz
    refine mv_iload (pc := 242) B d_Bits_ofTwo_242 3 rfl ?_
    obtain ⟨v4, g3, eg3, hf⟩ := xhb_e hf
    refine mv_callSl (pc := 244) (n := 1) B (mK_ok sk sv) hNs (ch_Bits_mask l hi _ _ eg3) rfl (ma_goodc kc_Bits_mask) (B.2.2.2.1 _ k_1617) (B.2.2.2.1 _ k_1437) (B.2.2.2.1 _ k_33) ⟨by decide +kernel, by decide +kernel, by decide +kernel⟩ rfl d_Bits_ofTwo_244 rfl (Nat.le_of_ble_eq_true rfl) ⟨by decide, by decide⟩ ⟨by decide, by decide⟩ ⟨by decide, by decide⟩ (mv_noH hno _) (fun w244 σ244 h244 => ?_)
    obtain ⟨rfl, rfl, s_g3⟩ := h244
    have r_g3 : mv_r g3 = mv_r h := s_g3.trans r_g1
    refine mv_land (pc := 247) B d_Bits_ofTwo_247 ?_
    exact mv_lret (pc := 248) B hr d_Bits_ofTwo_248 (Nat.le_refl _) (Nat.le_refl _) ⟨_, rfl, xrh_l hf r_g3⟩
  unfold f_Bits_ofTwo at hf
  refine mv_iload_n (pc := 0) B d_Bits_ofTwo_0 rfl 0 rfl ?_
  refine mv_lsw (pc := 1) B d_Bits_ofTwo_1 (by decide) (by decide) ?_
  refine ⟨fun h1 => ?_, fun h1n37 => ?_⟩
  · skip
    have hf := xif_t h1 hf
    show mv_V _ _ _ _ _ _ _ _ _ _ _ _ _ _ _ _ 170 _ _
    refine mv_lload_n (pc := 170) B d_Bits_ofTwo_170 rfl 2 rfl ?_
    refine mv_lconst (pc := 171) (v := 0) B d_Bits_ofTwo_171 (by decide) ?_
    refine mv_lcmp (pc := 172) B d_Bits_ofTwo_172 ?_
    refine mv_if_ne (pc := 173) (tgt := 180) B d_Bits_ofTwo_173 rfl (fun h173 => ?_) (fun h173 => ?_)
    · skip
      have hf := xif_f h173 hf
      refine mv_lload_n (pc := 180) B d_Bits_ofTwo_180 rfl 1 rfl ?_
      refine mv_lload_n (pc := 181) B d_Bits_ofTwo_181 rfl 1 rfl ?_
      refine mv_lload_n (pc := 182) B d_Bits_ofTwo_182 rfl 2 rfl ?_
      obtain ⟨v6, g5, eg5, hf⟩ := xhb_e hf
      refine mv_callSl (pc := 183) (n := 2) B (mK_ok sk sv) hNs (ch_Bits_divide l hi _ _ _ eg5) rfl (ma_goodc kc_Bits_divide) (B.2.2.2.1 _ k_1618) (B.2.2.2.1 _ k_1619) (B.2.2.2.1 _ k_33) ⟨by decide +kernel, by decide +kernel, by decide +kernel⟩ rfl d_Bits_ofTwo_183 rfl (Nat.le_of_ble_eq_true rfl) ⟨by decide, by decide⟩ ⟨by decide, by decide⟩ ⟨by decide, by decide⟩ (mv_noH hno _) (fun w183 σ183 h183 => ?_)
      obtain ⟨rfl, rfl, s_g5⟩ := h183
      have r_g5 : mv_r g5 = mv_r h := s_g5.trans rfl
      refine mv_lload_n (pc := 186) B d_Bits_ofTwo_186 rfl 2 rfl ?_
      refine mv_lmul (pc := 187) B d_Bits_ofTwo_187 ?_
      refine mv_lsub (pc := 188) B d_Bits_ofTwo_188 ?_
      exact mv_lret (pc := 189) B hr d_Bits_ofTwo_189 (Nat.le_refl _) (Nat.le_refl _) ⟨_, rfl, xrh_l hf r_g5⟩
    · skip
      have hf := xif_t h173 hf
      refine mv_lload_n (pc := 176) B d_Bits_ofTwo_176 rfl 1 rfl ?_
      refine mv_goto (pc := 177) (tgt := 189) B d_Bits_ofTwo_177 rfl ?_
      exact mv_lret (pc := 189) B hr d_Bits_ofTwo_189 (Nat.le_refl _) (Nat.le_refl _) ⟨_, rfl, xrh_l hf rfl⟩
  have hf := xif_f h1n37 hf
  refine ⟨fun h1 => ?_, fun h1n38 => ?_⟩
  · skip
    have hf := xif_t h1 hf
    show mv_V _ _ _ _ _ _ _ _ _ _ _ _ _ _ _ _ 124 _ _
    refine mv_lload_n (pc := 124) B d_Bits_ofTwo_124 rfl 1 rfl ?_
    refine mv_lload_n (pc := 125) B d_Bits_ofTwo_125 rfl 2 rfl ?_
    refine mv_land (pc := 126) B d_Bits_ofTwo_126 ?_
    exact mv_lret (pc := 127) B hr d_Bits_ofTwo_127 (Nat.le_refl _) (Nat.le_refl _) ⟨_, rfl, xrh_l hf rfl⟩
  have hf := xif_f h1n38 hf
  refine ⟨fun h1 => ?_, fun h1n42 => ?_⟩
  · skip
    have hf := xif_t h1 hf
    show mv_V _ _ _ _ _ _ _ _ _ _ _ _ _ _ _ _ 148 _ _
    refine mv_lload_n (pc := 148) B d_Bits_ofTwo_148 rfl 1 rfl ?_
    refine mv_lload_n (pc := 149) B d_Bits_ofTwo_149 rfl 2 rfl ?_
    refine mv_lmul (pc := 150) B d_Bits_ofTwo_150 ?_
    refine mv_iload (pc := 151) B d_Bits_ofTwo_151 3 rfl ?_
    obtain ⟨v8, g7, eg7, hf⟩ := xhb_e hf
    refine mv_callSl (pc := 153) (n := 1) B (mK_ok sk sv) hNs (ch_Bits_mask l hi _ _ eg7) rfl (ma_goodc kc_Bits_mask) (B.2.2.2.1 _ k_1617) (B.2.2.2.1 _ k_1437) (B.2.2.2.1 _ k_33) ⟨by decide +kernel, by decide +kernel, by decide +kernel⟩ rfl d_Bits_ofTwo_153 rfl (Nat.le_of_ble_eq_true rfl) ⟨by decide, by decide⟩ ⟨by decide, by decide⟩ ⟨by decide, by decide⟩ (mv_noH hno _) (fun w153 σ153 h153 => ?_)
    obtain ⟨rfl, rfl, s_g7⟩ := h153
    have r_g7 : mv_r g7 = mv_r h := s_g7.trans rfl
    refine mv_land (pc := 156) B d_Bits_ofTwo_156 ?_
    exact mv_lret (pc := 157) B hr d_Bits_ofTwo_157 (Nat.le_refl _) (Nat.le_refl _) ⟨_, rfl, xrh_l hf r_g7⟩
  have hf := xif_f h1n42 hf
  refine ⟨fun h1 => ?_, fun h1n43 => ?_⟩
  · skip
    have hf := xif_t h1 hf
    show mv_V _ _ _ _ _ _ _ _ _ _ _ _ _ _ _ _ 128 _ _
    refine mv_lload_n (pc := 128) B d_Bits_ofTwo_128 rfl 1 rfl ?_
    refine mv_lload_n (pc := 129) B d_Bits_ofTwo_129 rfl 2 rfl ?_
    refine mv_ladd (pc := 130) B d_Bits_ofTwo_130 ?_
    refine mv_iload (pc := 131) B d_Bits_ofTwo_131 3 rfl ?_
    obtain ⟨v10, g9, eg9, hf⟩ := xhb_e hf
    refine mv_callSl (pc := 133) (n := 1) B (mK_ok sk sv) hNs (ch_Bits_mask l hi _ _ eg9) rfl (ma_goodc kc_Bits_mask) (B.2.2.2.1 _ k_1617) (B.2.2.2.1 _ k_1437) (B.2.2.2.1 _ k_33) ⟨by decide +kernel, by decide +kernel, by decide +kernel⟩ rfl d_Bits_ofTwo_133 rfl (Nat.le_of_ble_eq_true rfl) ⟨by decide, by decide⟩ ⟨by decide, by decide⟩ ⟨by decide, by decide⟩ (mv_noH hno _) (fun w133 σ133 h133 => ?_)
    obtain ⟨rfl, rfl, s_g9⟩ := h133
    have r_g9 : mv_r g9 = mv_r h := s_g9.trans rfl
    refine mv_land (pc := 136) B d_Bits_ofTwo_136 ?_
    exact mv_lret (pc := 137) B hr d_Bits_ofTwo_137 (Nat.le_refl _) (Nat.le_refl _) ⟨_, rfl, xrh_l hf r_g9⟩
  have hf := xif_f h1n43 hf
  refine ⟨fun h1 => ?_, fun h1n45 => ?_⟩
  · skip
    have hf := xif_t h1 hf
    show mv_V _ _ _ _ _ _ _ _ _ _ _ _ _ _ _ _ 138 _ _
    refine mv_lload_n (pc := 138) B d_Bits_ofTwo_138 rfl 1 rfl ?_
    refine mv_lload_n (pc := 139) B d_Bits_ofTwo_139 rfl 2 rfl ?_
    refine mv_lsub (pc := 140) B d_Bits_ofTwo_140 ?_
    refine mv_iload (pc := 141) B d_Bits_ofTwo_141 3 rfl ?_
    obtain ⟨v12, g11, eg11, hf⟩ := xhb_e hf
    refine mv_callSl (pc := 143) (n := 1) B (mK_ok sk sv) hNs (ch_Bits_mask l hi _ _ eg11) rfl (ma_goodc kc_Bits_mask) (B.2.2.2.1 _ k_1617) (B.2.2.2.1 _ k_1437) (B.2.2.2.1 _ k_33) ⟨by decide +kernel, by decide +kernel, by decide +kernel⟩ rfl d_Bits_ofTwo_143 rfl (Nat.le_of_ble_eq_true rfl) ⟨by decide, by decide⟩ ⟨by decide, by decide⟩ ⟨by decide, by decide⟩ (mv_noH hno _) (fun w143 σ143 h143 => ?_)
    obtain ⟨rfl, rfl, s_g11⟩ := h143
    have r_g11 : mv_r g11 = mv_r h := s_g11.trans rfl
    refine mv_land (pc := 146) B d_Bits_ofTwo_146 ?_
    exact mv_lret (pc := 147) B hr d_Bits_ofTwo_147 (Nat.le_refl _) (Nat.le_refl _) ⟨_, rfl, xrh_l hf r_g11⟩
  have hf := xif_f h1n45 hf
  refine ⟨fun h1 => ?_, fun h1n47 => ?_⟩
  · skip
    have hf := xif_t h1 hf
    show mv_V _ _ _ _ _ _ _ _ _ _ _ _ _ _ _ _ 158 _ _
    refine mv_lload_n (pc := 158) B d_Bits_ofTwo_158 rfl 1 rfl ?_
    refine mv_lload_n (pc := 159) B d_Bits_ofTwo_159 rfl 2 rfl ?_
    obtain ⟨v14, g13, eg13, hf⟩ := xhb_e hf
    refine mv_callSl (pc := 160) (n := 2) B (mK_ok sk sv) hNs (ch_Bits_divide l hi _ _ _ eg13) rfl (ma_goodc kc_Bits_divide) (B.2.2.2.1 _ k_1618) (B.2.2.2.1 _ k_1619) (B.2.2.2.1 _ k_33) ⟨by decide +kernel, by decide +kernel, by decide +kernel⟩ rfl d_Bits_ofTwo_160 rfl (Nat.le_of_ble_eq_true rfl) ⟨by decide, by decide⟩ ⟨by decide, by decide⟩ ⟨by decide, by decide⟩ (mv_noH hno _) (fun w160 σ160 h160 => ?_)
    obtain ⟨rfl, rfl, s_g13⟩ := h160
    have r_g13 : mv_r g13 = mv_r h := s_g13.trans rfl
    refine mv_iload (pc := 163) B d_Bits_ofTwo_163 3 rfl ?_
    obtain ⟨v16, g15, eg15, hf⟩ := xhb_e hf
    refine mv_callSl (pc := 165) (n := 1) B (mK_ok sk sv) hNs (ch_Bits_mask l hi _ _ eg15) rfl (ma_goodc kc_Bits_mask) (B.2.2.2.1 _ k_1617) (B.2.2.2.1 _ k_1437) (B.2.2.2.1 _ k_33) ⟨by decide +kernel, by decide +kernel, by decide +kernel⟩ rfl d_Bits_ofTwo_165 rfl (Nat.le_of_ble_eq_true rfl) ⟨by decide, by decide⟩ ⟨by decide, by decide⟩ ⟨by decide, by decide⟩ (mv_noH hno _) (fun w165 σ165 h165 => ?_)
    obtain ⟨rfl, rfl, s_g15⟩ := h165
    have r_g15 : mv_r g15 = mv_r h := s_g15.trans r_g13
    refine mv_land (pc := 168) B d_Bits_ofTwo_168 ?_
    exact mv_lret (pc := 169) B hr d_Bits_ofTwo_169 (Nat.le_refl _) (Nat.le_refl _) ⟨_, rfl, xrh_l hf r_g15⟩
  have hf := xif_f h1n47 hf
  refine ⟨fun h1 => ?_, fun h1n94 => ?_⟩
  · skip
    have hf := xif_t h1 hf
    show mv_V _ _ _ _ _ _ _ _ _ _ _ _ _ _ _ _ 120 _ _
    refine mv_lload_n (pc := 120) B d_Bits_ofTwo_120 rfl 1 rfl ?_
    refine mv_lload_n (pc := 121) B d_Bits_ofTwo_121 rfl 2 rfl ?_
    refine mv_lxor (pc := 122) B d_Bits_ofTwo_122 ?_
    exact mv_lret (pc := 123) B hr d_Bits_ofTwo_123 (Nat.le_refl _) (Nat.le_refl _) ⟨_, rfl, xrh_l hf rfl⟩
  have hf := xif_f h1n94 hf
  refine ⟨fun h1 => ?_, fun h1n124 => ?_⟩
  · skip
    have hf := xif_t h1 hf
    show mv_V _ _ _ _ _ _ _ _ _ _ _ _ _ _ _ _ 116 _ _
    refine mv_lload_n (pc := 116) B d_Bits_ofTwo_116 rfl 1 rfl ?_
    refine mv_lload_n (pc := 117) B d_Bits_ofTwo_117 rfl 2 rfl ?_
    refine mv_lor (pc := 118) B d_Bits_ofTwo_118 ?_
    exact mv_lret (pc := 119) B hr d_Bits_ofTwo_119 (Nat.le_refl _) (Nat.le_refl _) ⟨_, rfl, xrh_l hf rfl⟩
  have hf := xif_f h1n124 hf
  refine ⟨fun h1 => ?_, fun h1n131 => ?_⟩
  · skip
    have hf := xif_t h1 hf
    show mv_V _ _ _ _ _ _ _ _ _ _ _ _ _ _ _ _ 234 _ _
    refine mv_lpick [0, 1, 2, 3] rfl ?_
    exact jn234 _ _ _ _ _ rfl hf
  have hf := xif_f h1n131 hf
  refine ⟨fun h1 => ?_, fun h1n132 => ?_⟩
  · skip
    have hf := xif_t h1 hf
    show mv_V _ _ _ _ _ _ _ _ _ _ _ _ _ _ _ _ 234 _ _
    refine mv_lpick [0, 1, 2, 3] rfl ?_
    exact jn234 _ _ _ _ _ rfl hf
  have hf := xif_f h1n132 hf
  refine ⟨fun h1 => ?_, fun h1n214 => ?_⟩
  · skip
    have hf := xif_t h1 hf
    show mv_V _ _ _ _ _ _ _ _ _ _ _ _ _ _ _ _ 190 _ _
    refine mv_lload_n (pc := 190) B d_Bits_ofTwo_190 rfl 1 rfl ?_
    refine mv_iload (pc := 191) B d_Bits_ofTwo_191 3 rfl ?_
    obtain ⟨v18, g17, eg17, hf⟩ := xhb_e hf
    refine mv_callSl (pc := 193) (n := 2) B (mK_ok sk sv) hNs (ch_Bits_signed l hi _ _ _ eg17) rfl (ma_goodc kc_Bits_signed) (B.2.2.2.1 _ k_1622) (B.2.2.2.1 _ k_1612) (B.2.2.2.1 _ k_33) ⟨by decide +kernel, by decide +kernel, by decide +kernel⟩ rfl d_Bits_ofTwo_193 rfl (Nat.le_of_ble_eq_true rfl) ⟨by decide, by decide⟩ ⟨by decide, by decide⟩ ⟨by decide, by decide⟩ (mv_noH hno _) (fun w193 σ193 h193 => ?_)
    obtain ⟨rfl, rfl, s_g17⟩ := h193
    have r_g17 : mv_r g17 = mv_r h := s_g17.trans rfl
    refine mv_lload_n (pc := 196) B d_Bits_ofTwo_196 rfl 2 rfl ?_
    refine mv_iload (pc := 197) B d_Bits_ofTwo_197 3 rfl ?_
    obtain ⟨v20, g19, eg19, hf⟩ := xhb_e hf
    refine mv_callSl (pc := 199) (n := 2) B (mK_ok sk sv) hNs (ch_Bits_signed l hi _ _ _ eg19) rfl (ma_goodc kc_Bits_signed) (B.2.2.2.1 _ k_1622) (B.2.2.2.1 _ k_1612) (B.2.2.2.1 _ k_33) ⟨by decide +kernel, by decide +kernel, by decide +kernel⟩ rfl d_Bits_ofTwo_199 rfl (Nat.le_of_ble_eq_true rfl) ⟨by decide, by decide⟩ ⟨by decide, by decide⟩ ⟨by decide, by decide⟩ (mv_noH hno _) (fun w199 σ199 h199 => ?_)
    obtain ⟨rfl, rfl, s_g19⟩ := h199
    have r_g19 : mv_r g19 = mv_r h := s_g19.trans r_g17
    obtain ⟨v22, g21, eg21, hf⟩ := xhb_e hf
    refine mv_callSl (pc := 202) (n := 2) B (mK_ok sk sv) hNs (ch_Bits_signedDivide l hi _ _ _ eg21) rfl (ma_goodc kc_Bits_signedDivide) (B.2.2.2.1 _ k_1623) (B.2.2.2.1 _ k_1624) (B.2.2.2.1 _ k_33) ⟨by decide +kernel, by decide +kernel, by decide +kernel⟩ rfl d_Bits_ofTwo_202 rfl (Nat.le_of_ble_eq_true rfl) ⟨by decide, by decide⟩ ⟨by decide, by decide⟩ ⟨by decide, by decide⟩ (mv_noH hno _) (fun w202 σ202 h202 => ?_)
    obtain ⟨rfl, rfl, s_g21⟩ := h202
    have r_g21 : mv_r g21 = mv_r h := s_g21.trans r_g19
    refine mv_iload (pc := 205) B d_Bits_ofTwo_205 3 rfl ?_
    obtain ⟨v24, g23, eg23, hf⟩ := xhb_e hf
    refine mv_callSl (pc := 207) (n := 1) B (mK_ok sk sv) hNs (ch_Bits_mask l hi _ _ eg23) rfl (ma_goodc kc_Bits_mask) (B.2.2.2.1 _ k_1617) (B.2.2.2.1 _ k_1437) (B.2.2.2.1 _ k_33) ⟨by decide +kernel, by decide +kernel, by decide +kernel⟩ rfl d_Bits_ofTwo_207 rfl (Nat.le_of_ble_eq_true rfl) ⟨by decide, by decide⟩ ⟨by decide, by decide⟩ ⟨by decide, by decide⟩ (mv_noH hno _) (fun w207 σ207 h207 => ?_)
    obtain ⟨rfl, rfl, s_g23⟩ := h207
    have r_g23 : mv_r g23 = mv_r h := s_g23.trans r_g21
    refine mv_land (pc := 210) B d_Bits_ofTwo_210 ?_
    exact mv_lret (pc := 211) B hr d_Bits_ofTwo_211 (Nat.le_refl _) (Nat.le_refl _) ⟨_, rfl, xrh_l hf r_g23⟩
  have hf := xif_f h1n214 hf
  refine ⟨fun h1 => ?_, fun h1n215 => ?_⟩
  · skip
    have hf := xif_t h1 hf
    show mv_V _ _ _ _ _ _ _ _ _ _ _ _ _ _ _ _ 212 _ _
    refine mv_lload_n (pc := 212) B d_Bits_ofTwo_212 rfl 1 rfl ?_
    refine mv_iload (pc := 213) B d_Bits_ofTwo_213 3 rfl ?_
    obtain ⟨v26, g25, eg25, hf⟩ := xhb_e hf
    refine mv_callSl (pc := 215) (n := 2) B (mK_ok sk sv) hNs (ch_Bits_signed l hi _ _ _ eg25) rfl (ma_goodc kc_Bits_signed) (B.2.2.2.1 _ k_1622) (B.2.2.2.1 _ k_1612) (B.2.2.2.1 _ k_33) ⟨by decide +kernel, by decide +kernel, by decide +kernel⟩ rfl d_Bits_ofTwo_215 rfl (Nat.le_of_ble_eq_true rfl) ⟨by decide, by decide⟩ ⟨by decide, by decide⟩ ⟨by decide, by decide⟩ (mv_noH hno _) (fun w215 σ215 h215 => ?_)
    obtain ⟨rfl, rfl, s_g25⟩ := h215
    have r_g25 : mv_r g25 = mv_r h := s_g25.trans rfl
    refine mv_lload_n (pc := 218) B d_Bits_ofTwo_218 rfl 2 rfl ?_
    refine mv_iload (pc := 219) B d_Bits_ofTwo_219 3 rfl ?_
    obtain ⟨v28, g27, eg27, hf⟩ := xhb_e hf
    refine mv_callSl (pc := 221) (n := 2) B (mK_ok sk sv) hNs (ch_Bits_signed l hi _ _ _ eg27) rfl (ma_goodc kc_Bits_signed) (B.2.2.2.1 _ k_1622) (B.2.2.2.1 _ k_1612) (B.2.2.2.1 _ k_33) ⟨by decide +kernel, by decide +kernel, by decide +kernel⟩ rfl d_Bits_ofTwo_221 rfl (Nat.le_of_ble_eq_true rfl) ⟨by decide, by decide⟩ ⟨by decide, by decide⟩ ⟨by decide, by decide⟩ (mv_noH hno _) (fun w221 σ221 h221 => ?_)
    obtain ⟨rfl, rfl, s_g27⟩ := h221
    have r_g27 : mv_r g27 = mv_r h := s_g27.trans r_g25
    obtain ⟨v30, g29, eg29, hf⟩ := xhb_e hf
    refine mv_callSl (pc := 224) (n := 2) B (mK_ok sk sv) hNs (ch_Bits_signedRemain l hi _ _ _ eg29) rfl (ma_goodc kc_Bits_signedRemain) (B.2.2.2.1 _ k_1626) (B.2.2.2.1 _ k_1627) (B.2.2.2.1 _ k_33) ⟨by decide +kernel, by decide +kernel, by decide +kernel⟩ rfl d_Bits_ofTwo_224 rfl (Nat.le_of_ble_eq_true rfl) ⟨by decide, by decide⟩ ⟨by decide, by decide⟩ ⟨by decide, by decide⟩ (mv_noH hno _) (fun w224 σ224 h224 => ?_)
    obtain ⟨rfl, rfl, s_g29⟩ := h224
    have r_g29 : mv_r g29 = mv_r h := s_g29.trans r_g27
    refine mv_iload (pc := 227) B d_Bits_ofTwo_227 3 rfl ?_
    obtain ⟨v32, g31, eg31, hf⟩ := xhb_e hf
    refine mv_callSl (pc := 229) (n := 1) B (mK_ok sk sv) hNs (ch_Bits_mask l hi _ _ eg31) rfl (ma_goodc kc_Bits_mask) (B.2.2.2.1 _ k_1617) (B.2.2.2.1 _ k_1437) (B.2.2.2.1 _ k_33) ⟨by decide +kernel, by decide +kernel, by decide +kernel⟩ rfl d_Bits_ofTwo_229 rfl (Nat.le_of_ble_eq_true rfl) ⟨by decide, by decide⟩ ⟨by decide, by decide⟩ ⟨by decide, by decide⟩ (mv_noH hno _) (fun w229 σ229 h229 => ?_)
    obtain ⟨rfl, rfl, s_g31⟩ := h229
    have r_g31 : mv_r g31 = mv_r h := s_g31.trans r_g29
    refine mv_land (pc := 232) B d_Bits_ofTwo_232 ?_
    exact mv_lret (pc := 233) B hr d_Bits_ofTwo_233 (Nat.le_refl _) (Nat.le_refl _) ⟨_, rfl, xrh_l hf r_g31⟩
  have hf := xif_f h1n215 hf
  refine ⟨fun h1 => ?_, fun h1n216 => ?_⟩
  · skip
    have hf := xif_t h1 hf
    show mv_V _ _ _ _ _ _ _ _ _ _ _ _ _ _ _ _ 234 _ _
    refine mv_lpick [0, 1, 2, 3] rfl ?_
    exact jn234 _ _ _ _ _ rfl hf
  have hf := xif_f h1n216 hf
  show mv_V _ _ _ _ _ _ _ _ _ _ _ _ _ _ _ _ 249 _ _
  refine mv_iload_n (pc := 249) B d_Bits_ofTwo_249 rfl 0 rfl ?_
  refine mv_lload_n (pc := 250) B d_Bits_ofTwo_250 rfl 1 rfl ?_
  refine mv_lload_n (pc := 251) B d_Bits_ofTwo_251 rfl 2 rfl ?_
  refine mv_iload (pc := 252) B d_Bits_ofTwo_252 3 rfl ?_
  obtain ⟨v34, g33, eg33, hf⟩ := xhb_e hf
  refine mv_callSi (pc := 254) (n := 4) B (mK_ok sk sv) hNs (ch_Bits_holds l hi _ _ _ _ _ eg33) rfl (ma_goodc kc_Bits_holds) (B.2.2.2.1 _ k_1632) (B.2.2.2.1 _ k_1633) (B.2.2.2.1 _ k_33) ⟨by decide +kernel, by decide +kernel, by decide +kernel⟩ rfl d_Bits_ofTwo_254 rfl (Nat.le_of_ble_eq_true rfl) ⟨by decide, by decide⟩ ⟨by decide, by decide⟩ ⟨by decide, by decide⟩ (mv_noH hno _) (fun w254 σ254 h254 => ?_)
  obtain ⟨rfl, rfl, s_g33⟩ := h254
  have r_g33 : mv_r g33 = mv_r h := s_g33.trans rfl
  refine mv_if_eq (pc := 257) (tgt := 264) B d_Bits_ofTwo_257 rfl (fun h257 => ?_) (fun h257 => ?_)
  · skip
    have hf := xif_t h257 hf
    refine mv_lconst (pc := 264) (v := 0) B d_Bits_ofTwo_264 (by decide) ?_
    exact mv_lret (pc := 265) B hr d_Bits_ofTwo_265 (Nat.le_refl _) (Nat.le_refl _) ⟨_, rfl, xrh_l hf r_g33⟩
  · skip
    have hf := xif_f h257 hf
    refine mv_lconst (pc := 260) (v := 1) B d_Bits_ofTwo_260 (by decide) ?_
    refine mv_goto (pc := 261) (tgt := 265) B d_Bits_ofTwo_261 rfl ?_
    exact mv_lret (pc := 265) B hr d_Bits_ofTwo_265 (Nat.le_refl _) (Nat.le_refl _) ⟨_, rfl, xrh_l hf r_g33⟩
def f_Tree_leafOf_59 (P : Nat) (x3 : Int32) (hz : mv_H) : Option (Int32 × mv_H) := some (x3, hz)
def f_Tree_leafOf_52 (P : Nat) (k5 : Int64 → Int32 → Int32 → mv_H → Option (Int32 × mv_H)) (x1 : Int64) (x4 : Int32) (y0 : Int32) (hz : mv_H) : Option (Int32 × mv_H) := k5 x1 y0 (x4 + 1) hz
def fF_Tree_leafOf_5 (P : Nat) (k5 : Int64 → Int32 → Int32 → mv_H → Option (Int32 × mv_H)) (x1 : Int64) (x3 : Int32) (x4 : Int32) (hz : mv_H) : Option (Int32 × mv_H) := if (64 : Int32) < x4 then (f_Tree_leafOf_59 P x3 hz) else (bif xvi x3 1025 then if (mv_a hz (P + 13) (x3).toNatClampNeg) = (-1 : Int32) then (f_Tree_leafOf_59 P x3 hz) else (bif xvi x3 1025 then if (lg_cmp ((((x1).toUInt64 >>> (((mv_a hz (P + 13) (x3).toNatClampNeg)).toInt64.toUInt64 &&& Int64.toUInt64 63)).toInt64) &&& (1 : Int64)) (0 : Int64)) = (0 : Int32) then (bif xvi x3 1025 then f_Tree_leafOf_52 P k5 x1 x4 (mv_a hz (P + 14) (x3).toNatClampNeg) hz else none) else (bif xvi x3 1025 then f_Tree_leafOf_52 P k5 x1 x4 (mv_a hz (P + 15) (x3).toNatClampNeg) hz else none) else none) else none)
def f_Tree_leafOf_5 (P : Nat) : Nat → Int64 → Int32 → Int32 → mv_H → Option (Int32 × mv_H)
  | 0 => fun _ _ _ _ => none
  | nn + 1 => fF_Tree_leafOf_5 P (f_Tree_leafOf_5 P nn)
def f_Tree_leafOf (P : Nat) (h : mv_H) (a0 : Int64) : Option (Int32 × mv_H) := f_Tree_leafOf_5 P 200000 a0 (0 : Int32) (0 : Int32) h
set_option maxHeartbeats 4000000 in
set_option maxRecDepth 100000 in
theorem ch_Tree_leafOf_a (l : Launch) {dA : FieldType → ClassId} {D : va_G} {al : Nat → Nat} {ext : mv_Sh} {sk sv : Nat → Nat} (hi : mv_inj (mg dA D al ext)) (h : mv_H) (hb : Rf 32 (mv_r h))  (a0 : Int64) {rv : Int32} {rg : mv_H} (hf : f_Tree_leafOf 32 h a0 = some (rv, rg)) : mv_C l y_Tree_leafOf (Cond.code y_Tree_leafOf b_Tree_leafOf 5 (Option.some Jvm.ClassFile.FieldType.int) :: ma) ({ frames := 0, cells := 0, slots := 0, locals := 0 }) (mg dA D al ext) (mK sk sv) [.ref (al 43), .long a0] h (mv_Ri (fun v σ1 => rv = v ∧ rg = σ1 ∧ mv_r σ1 = mv_r h)) := by
  refine mv_C.ofV (cc := b_Tree_leafOf) (nL := 5) (ret := (Option.some Jvm.ClassFile.FieldType.int)) (by decide +kernel) rfl hi (Nat.le_of_ble_eq_true rfl) ?_
  intro p e s m below meth c B hNs hr hnm hno
  have jn59 : ∀ (x3 : Int32) (hz : mv_H), mv_r hz = mv_r h → f_Tree_leafOf_59 32 x3 hz = some (rv, rg) → mv_V p l e ({ frames := 0, cells := 0, slots := 0, locals := 0 }) s m ([.ref (al 43), .long a0] : List Value).toArray below meth c (mg dA D al ext) 5 0 0 (mv_Q (mg dA D al ext) below s 0 0 (mv_Ri (fun v σ1 => rv = v ∧ rg = σ1 ∧ mv_r σ1 = mv_r h))) hz 59 [(3, .int x3)] [] := by
    intro x3 hz r_hz hf
    unfold f_Tree_leafOf_59 at hf
    refine mv_iload_n (pc := 59) B d_Tree_leafOf_59 rfl 0 rfl ?_
    exact mv_iret (pc := 60) B hr rfl d_Tree_leafOf_60 (Nat.le_refl _) (Nat.le_refl _) ⟨_, rfl, xrh_i hf r_hz⟩
  have lp5 : ∀ (nn5 : Nat) (x1 : Int64) (x3 : Int32) (x4 : Int32) (hz : mv_H), mv_r hz = mv_r h → f_Tree_leafOf_5 32 nn5 x1 x3 x4 hz = some (rv, rg) → mv_V p l e ({ frames := 0, cells := 0, slots := 0, locals := 0 }) s m ([.ref (al 43), .long a0] : List Value).toArray below meth c (mg dA D al ext) 5 0 0 (mv_Q (mg dA D al ext) below s 0 0 (mv_Ri (fun v σ1 => rv = v ∧ rg = σ1 ∧ mv_r σ1 = mv_r h))) hz 5 [(0, .ref (al 43)), (1, .long x1), (3, .int x3), (4, .int x4)] [] := by
    intro nn5
    induction nn5 with
    | zero => intro x1 x3 x4 hz r_hz hf; cases hf
    | succ nn5 ih5 =>
      intro x1 x3 x4 hz r_hz hf
      have jn52 : ∀ (x1 : Int64) (x4 : Int32) (y0 : Int32) (hz : mv_H), mv_r hz = mv_r h → f_Tree_leafOf_52 32 (f_Tree_leafOf_5 32 nn5) x1 x4 y0 hz = some (rv, rg) → mv_V p l e ({ frames := 0, cells := 0, slots := 0, locals := 0 }) s m ([.ref (al 43), .long a0] : List Value).toArray below meth c (mg dA D al ext) 5 0 0 (mv_Q (mg dA D al ext) below s 0 0 (mv_Ri (fun v σ1 => rv = v ∧ rg = σ1 ∧ mv_r σ1 = mv_r h))) hz 52 [(0, .ref (al 43)), (1, .long x1), (4, .int x4)] [.int y0] := by
        intro x1 x4 y0 hz r_hz hf
        unfold f_Tree_leafOf_52 at hf
        refine mv_istore_n (pc := 52) B d_Tree_leafOf_52 rfl (by decide) rfl ?_
        refine mv_iinc (pc := 53) (j := 3) (v := 1) B d_Tree_leafOf_53 rfl (by decide) (by decide) rfl ?_
        refine mv_goto (pc := 56) (tgt := 5) B d_Tree_leafOf_56 rfl ?_
        refine mv_lpick [2, 3, 1, 0] rfl ?_
        exact ih5 _ _ _ _ r_hz hf
      have hf : fF_Tree_leafOf_5 32 (f_Tree_leafOf_5 32 nn5) x1 x3 x4 hz = some (rv, rg) := hf
      unfold fF_Tree_leafOf_5 at hf
      refine mv_iload (pc := 5) B d_Tree_leafOf_5 3 rfl ?_
      refine mv_bipush (pc := 7) (v := 64) B d_Tree_leafOf_7 (by decide) ?_
      refine mv_icmp_gt (pc := 9) (tgt := 59) B d_Tree_leafOf_9 rfl (fun h9 => ?_) (fun h9 => ?_)
      · skip
        have hf := xif_t h9 hf
        refine mv_lpick [2] rfl ?_
        exact jn59 _ _ r_hz hf
      · skip
        have hf := xif_f h9 hf
        refine mv_aload_n (pc := 12) B d_Tree_leafOf_12 rfl 0 rfl ?_
        refine mv_getR (pc := 13) (ci := 8) (C := R_Tree) (T := F_Tree) (N := 5) B 1 rfl rfl (by decide) i_Tree (B.2.2.2.1 _ k_293) rfl ((congrFun (congrFun r_hz 43) 1).trans (hb.2.1 43 1 45 rfl)) d_Tree_leafOf_13 ?_
        refine mv_iload_n (pc := 16) B d_Tree_leafOf_16 rfl 2 rfl ?_
        obtain ⟨q1, hf⟩ := xvi_e hf
        refine mv_iald (pc := 17) B rfl q1 d_Tree_leafOf_17 ?_
        refine mv_iconst (pc := 18) (v := -1) B d_Tree_leafOf_18 (by decide) ?_
        refine mv_icmp_eq (pc := 19) (tgt := 59) B d_Tree_leafOf_19 rfl (fun h19 => ?_) (fun h19 => ?_)
        · skip
          have hf := xif_t h19 hf
          refine mv_lpick [2] rfl ?_
          exact jn59 _ _ r_hz hf
        · skip
          have hf := xif_f h19 hf
          refine mv_lload_n (pc := 22) B d_Tree_leafOf_22 rfl 1 rfl ?_
          refine mv_aload_n (pc := 23) B d_Tree_leafOf_23 rfl 0 rfl ?_
          refine mv_getR (pc := 24) (ci := 8) (C := R_Tree) (T := F_Tree) (N := 5) B 1 rfl rfl (by decide) i_Tree (B.2.2.2.1 _ k_293) rfl ((congrFun (congrFun r_hz 43) 1).trans (hb.2.1 43 1 45 rfl)) d_Tree_leafOf_24 ?_
          refine mv_iload_n (pc := 27) B d_Tree_leafOf_27 rfl 2 rfl ?_
          obtain ⟨q2, hf⟩ := xvi_e hf
          refine mv_iald (pc := 28) B rfl q2 d_Tree_leafOf_28 ?_
          refine mv_lushr (pc := 29) B d_Tree_leafOf_29 ?_
          refine mv_lconst (pc := 30) (v := 1) B d_Tree_leafOf_30 (by decide) ?_
          refine mv_land (pc := 31) B d_Tree_leafOf_31 ?_
          refine mv_lconst (pc := 32) (v := 0) B d_Tree_leafOf_32 (by decide) ?_
          refine mv_lcmp (pc := 33) B d_Tree_leafOf_33 ?_
          refine mv_if_ne (pc := 34) (tgt := 46) B d_Tree_leafOf_34 rfl (fun h34 => ?_) (fun h34 => ?_)
          · skip
            have hf := xif_f h34 hf
            refine mv_aload_n (pc := 46) B d_Tree_leafOf_46 rfl 0 rfl ?_
            refine mv_getR (pc := 47) (ci := 8) (C := R_Tree) (T := F_Tree) (N := 5) B 3 rfl rfl (by decide) i_Tree (B.2.2.2.1 _ k_296) rfl ((congrFun (congrFun r_hz 43) 3).trans (hb.2.1 43 3 47 rfl)) d_Tree_leafOf_47 ?_
            refine mv_iload_n (pc := 50) B d_Tree_leafOf_50 rfl 2 rfl ?_
            obtain ⟨q3, hf⟩ := xvi_e hf
            refine mv_iald (pc := 51) B rfl q3 d_Tree_leafOf_51 ?_
            refine mv_lpick [0, 1, 3] rfl ?_
            exact jn52 _ _ _ _ r_hz hf
          · skip
            have hf := xif_t h34 hf
            refine mv_aload_n (pc := 37) B d_Tree_leafOf_37 rfl 0 rfl ?_
            refine mv_getR (pc := 38) (ci := 8) (C := R_Tree) (T := F_Tree) (N := 5) B 2 rfl rfl (by decide) i_Tree (B.2.2.2.1 _ k_294) rfl ((congrFun (congrFun r_hz 43) 2).trans (hb.2.1 43 2 46 rfl)) d_Tree_leafOf_38 ?_
            refine mv_iload_n (pc := 41) B d_Tree_leafOf_41 rfl 2 rfl ?_
            obtain ⟨q4, hf⟩ := xvi_e hf
            refine mv_iald (pc := 42) B rfl q4 d_Tree_leafOf_42 ?_
            refine mv_goto (pc := 43) (tgt := 52) B d_Tree_leafOf_43 rfl ?_
            refine mv_lpick [0, 1, 3] rfl ?_
            exact jn52 _ _ _ _ r_hz hf
  unfold f_Tree_leafOf at hf
  refine mv_iconst (pc := 0) (v := 0) B d_Tree_leafOf_0 (by decide) ?_
  refine mv_istore_n (pc := 1) B d_Tree_leafOf_1 rfl (by decide) rfl ?_
  refine mv_iconst (pc := 2) (v := 0) B d_Tree_leafOf_2 (by decide) ?_
  refine mv_istore (pc := 3) B d_Tree_leafOf_3 (by decide) rfl ?_
  refine mv_lpick [2, 3, 1, 0] rfl ?_
  exact lp5 _ _ _ _ _ rfl hf
set_option maxHeartbeats 4000000 in
set_option maxRecDepth 100000 in
theorem ch_Tree_leafOf_b (l : Launch) {dA : FieldType → ClassId} {D : va_G} {al : Nat → Nat} {ext : mv_Sh} {sk sv : Nat → Nat} (hi : mv_inj (mg dA D al ext)) (h : mv_H) (hb : Rf 48 (mv_r h))  (a0 : Int64) {rv : Int32} {rg : mv_H} (hf : f_Tree_leafOf 48 h a0 = some (rv, rg)) : mv_C l y_Tree_leafOf (Cond.code y_Tree_leafOf b_Tree_leafOf 5 (Option.some Jvm.ClassFile.FieldType.int) :: ma) ({ frames := 0, cells := 0, slots := 0, locals := 0 }) (mg dA D al ext) (mK sk sv) [.ref (al 59), .long a0] h (mv_Ri (fun v σ1 => rv = v ∧ rg = σ1 ∧ mv_r σ1 = mv_r h)) := by
  refine mv_C.ofV (cc := b_Tree_leafOf) (nL := 5) (ret := (Option.some Jvm.ClassFile.FieldType.int)) (by decide +kernel) rfl hi (Nat.le_of_ble_eq_true rfl) ?_
  intro p e s m below meth c B hNs hr hnm hno
  have jn59 : ∀ (x3 : Int32) (hz : mv_H), mv_r hz = mv_r h → f_Tree_leafOf_59 48 x3 hz = some (rv, rg) → mv_V p l e ({ frames := 0, cells := 0, slots := 0, locals := 0 }) s m ([.ref (al 59), .long a0] : List Value).toArray below meth c (mg dA D al ext) 5 0 0 (mv_Q (mg dA D al ext) below s 0 0 (mv_Ri (fun v σ1 => rv = v ∧ rg = σ1 ∧ mv_r σ1 = mv_r h))) hz 59 [(3, .int x3)] [] := by
    intro x3 hz r_hz hf
    unfold f_Tree_leafOf_59 at hf
    refine mv_iload_n (pc := 59) B d_Tree_leafOf_59 rfl 0 rfl ?_
    exact mv_iret (pc := 60) B hr rfl d_Tree_leafOf_60 (Nat.le_refl _) (Nat.le_refl _) ⟨_, rfl, xrh_i hf r_hz⟩
  have lp5 : ∀ (nn5 : Nat) (x1 : Int64) (x3 : Int32) (x4 : Int32) (hz : mv_H), mv_r hz = mv_r h → f_Tree_leafOf_5 48 nn5 x1 x3 x4 hz = some (rv, rg) → mv_V p l e ({ frames := 0, cells := 0, slots := 0, locals := 0 }) s m ([.ref (al 59), .long a0] : List Value).toArray below meth c (mg dA D al ext) 5 0 0 (mv_Q (mg dA D al ext) below s 0 0 (mv_Ri (fun v σ1 => rv = v ∧ rg = σ1 ∧ mv_r σ1 = mv_r h))) hz 5 [(0, .ref (al 59)), (1, .long x1), (3, .int x3), (4, .int x4)] [] := by
    intro nn5
    induction nn5 with
    | zero => intro x1 x3 x4 hz r_hz hf; cases hf
    | succ nn5 ih5 =>
      intro x1 x3 x4 hz r_hz hf
      have jn52 : ∀ (x1 : Int64) (x4 : Int32) (y0 : Int32) (hz : mv_H), mv_r hz = mv_r h → f_Tree_leafOf_52 48 (f_Tree_leafOf_5 48 nn5) x1 x4 y0 hz = some (rv, rg) → mv_V p l e ({ frames := 0, cells := 0, slots := 0, locals := 0 }) s m ([.ref (al 59), .long a0] : List Value).toArray below meth c (mg dA D al ext) 5 0 0 (mv_Q (mg dA D al ext) below s 0 0 (mv_Ri (fun v σ1 => rv = v ∧ rg = σ1 ∧ mv_r σ1 = mv_r h))) hz 52 [(0, .ref (al 59)), (1, .long x1), (4, .int x4)] [.int y0] := by
        intro x1 x4 y0 hz r_hz hf
        unfold f_Tree_leafOf_52 at hf
        refine mv_istore_n (pc := 52) B d_Tree_leafOf_52 rfl (by decide) rfl ?_
        refine mv_iinc (pc := 53) (j := 3) (v := 1) B d_Tree_leafOf_53 rfl (by decide) (by decide) rfl ?_
        refine mv_goto (pc := 56) (tgt := 5) B d_Tree_leafOf_56 rfl ?_
        refine mv_lpick [2, 3, 1, 0] rfl ?_
        exact ih5 _ _ _ _ r_hz hf
      have hf : fF_Tree_leafOf_5 48 (f_Tree_leafOf_5 48 nn5) x1 x3 x4 hz = some (rv, rg) := hf
      unfold fF_Tree_leafOf_5 at hf
      refine mv_iload (pc := 5) B d_Tree_leafOf_5 3 rfl ?_
      refine mv_bipush (pc := 7) (v := 64) B d_Tree_leafOf_7 (by decide) ?_
      refine mv_icmp_gt (pc := 9) (tgt := 59) B d_Tree_leafOf_9 rfl (fun h9 => ?_) (fun h9 => ?_)
      · skip
        have hf := xif_t h9 hf
        refine mv_lpick [2] rfl ?_
        exact jn59 _ _ r_hz hf
      · skip
        have hf := xif_f h9 hf
        refine mv_aload_n (pc := 12) B d_Tree_leafOf_12 rfl 0 rfl ?_
        refine mv_getR (pc := 13) (ci := 8) (C := R_Tree) (T := F_Tree) (N := 5) B 1 rfl rfl (by decide) i_Tree (B.2.2.2.1 _ k_293) rfl ((congrFun (congrFun r_hz 59) 1).trans (hb.2.1 59 1 61 rfl)) d_Tree_leafOf_13 ?_
        refine mv_iload_n (pc := 16) B d_Tree_leafOf_16 rfl 2 rfl ?_
        obtain ⟨q1, hf⟩ := xvi_e hf
        refine mv_iald (pc := 17) B rfl q1 d_Tree_leafOf_17 ?_
        refine mv_iconst (pc := 18) (v := -1) B d_Tree_leafOf_18 (by decide) ?_
        refine mv_icmp_eq (pc := 19) (tgt := 59) B d_Tree_leafOf_19 rfl (fun h19 => ?_) (fun h19 => ?_)
        · skip
          have hf := xif_t h19 hf
          refine mv_lpick [2] rfl ?_
          exact jn59 _ _ r_hz hf
        · skip
          have hf := xif_f h19 hf
          refine mv_lload_n (pc := 22) B d_Tree_leafOf_22 rfl 1 rfl ?_
          refine mv_aload_n (pc := 23) B d_Tree_leafOf_23 rfl 0 rfl ?_
          refine mv_getR (pc := 24) (ci := 8) (C := R_Tree) (T := F_Tree) (N := 5) B 1 rfl rfl (by decide) i_Tree (B.2.2.2.1 _ k_293) rfl ((congrFun (congrFun r_hz 59) 1).trans (hb.2.1 59 1 61 rfl)) d_Tree_leafOf_24 ?_
          refine mv_iload_n (pc := 27) B d_Tree_leafOf_27 rfl 2 rfl ?_
          obtain ⟨q2, hf⟩ := xvi_e hf
          refine mv_iald (pc := 28) B rfl q2 d_Tree_leafOf_28 ?_
          refine mv_lushr (pc := 29) B d_Tree_leafOf_29 ?_
          refine mv_lconst (pc := 30) (v := 1) B d_Tree_leafOf_30 (by decide) ?_
          refine mv_land (pc := 31) B d_Tree_leafOf_31 ?_
          refine mv_lconst (pc := 32) (v := 0) B d_Tree_leafOf_32 (by decide) ?_
          refine mv_lcmp (pc := 33) B d_Tree_leafOf_33 ?_
          refine mv_if_ne (pc := 34) (tgt := 46) B d_Tree_leafOf_34 rfl (fun h34 => ?_) (fun h34 => ?_)
          · skip
            have hf := xif_f h34 hf
            refine mv_aload_n (pc := 46) B d_Tree_leafOf_46 rfl 0 rfl ?_
            refine mv_getR (pc := 47) (ci := 8) (C := R_Tree) (T := F_Tree) (N := 5) B 3 rfl rfl (by decide) i_Tree (B.2.2.2.1 _ k_296) rfl ((congrFun (congrFun r_hz 59) 3).trans (hb.2.1 59 3 63 rfl)) d_Tree_leafOf_47 ?_
            refine mv_iload_n (pc := 50) B d_Tree_leafOf_50 rfl 2 rfl ?_
            obtain ⟨q3, hf⟩ := xvi_e hf
            refine mv_iald (pc := 51) B rfl q3 d_Tree_leafOf_51 ?_
            refine mv_lpick [0, 1, 3] rfl ?_
            exact jn52 _ _ _ _ r_hz hf
          · skip
            have hf := xif_t h34 hf
            refine mv_aload_n (pc := 37) B d_Tree_leafOf_37 rfl 0 rfl ?_
            refine mv_getR (pc := 38) (ci := 8) (C := R_Tree) (T := F_Tree) (N := 5) B 2 rfl rfl (by decide) i_Tree (B.2.2.2.1 _ k_294) rfl ((congrFun (congrFun r_hz 59) 2).trans (hb.2.1 59 2 62 rfl)) d_Tree_leafOf_38 ?_
            refine mv_iload_n (pc := 41) B d_Tree_leafOf_41 rfl 2 rfl ?_
            obtain ⟨q4, hf⟩ := xvi_e hf
            refine mv_iald (pc := 42) B rfl q4 d_Tree_leafOf_42 ?_
            refine mv_goto (pc := 43) (tgt := 52) B d_Tree_leafOf_43 rfl ?_
            refine mv_lpick [0, 1, 3] rfl ?_
            exact jn52 _ _ _ _ r_hz hf
  unfold f_Tree_leafOf at hf
  refine mv_iconst (pc := 0) (v := 0) B d_Tree_leafOf_0 (by decide) ?_
  refine mv_istore_n (pc := 1) B d_Tree_leafOf_1 rfl (by decide) rfl ?_
  refine mv_iconst (pc := 2) (v := 0) B d_Tree_leafOf_2 (by decide) ?_
  refine mv_istore (pc := 3) B d_Tree_leafOf_3 (by decide) rfl ?_
  refine mv_lpick [2, 3, 1, 0] rfl ?_
  exact lp5 _ _ _ _ _ rfl hf
def f_Machine_push (P : Nat) (h : mv_H) (a0 : Int64) : Option mv_H := bif xvi (mv_i h 64 4) 1024 then xk (mv_sb h 67 ((mv_i h 64 4)).toNatClampNeg a0) fun g2 => xk (mv_si g2 64 4 ((mv_i g2 64 4) + (1 : Int32))) fun g3 => some g3 else none
set_option maxHeartbeats 4000000 in
set_option maxRecDepth 100000 in
theorem ch_Machine_push_a (l : Launch) {dA : FieldType → ClassId} {D : va_G} {al : Nat → Nat} {ext : mv_Sh} {sk sv : Nat → Nat} (hi : mv_inj (mg dA D al ext)) (h : mv_H) (hb : Rf 32 (mv_r h))  (a0 : Int64) {rg : mv_H} (hf : f_Machine_push 32 h a0 = some rg) : mv_C l y_Machine_push (Cond.code y_Machine_push b_Machine_push 3 (Option.none : Option Jvm.ClassFile.FieldType) :: ma) ({ frames := 0, cells := 0, slots := 0, locals := 0 }) (mg dA D al ext) (mK sk sv) [.ref (al 64), .long a0] h (mv_Rv (fun σ1 => rg = σ1 ∧ mv_r σ1 = mv_r h)) := by
  refine mv_C.ofV (cc := b_Machine_push) (nL := 3) (ret := (Option.none : Option Jvm.ClassFile.FieldType)) (by decide +kernel) rfl hi (Nat.le_of_ble_eq_true rfl) ?_
  intro p e s m below meth c B hNs hr hnm hno
  unfold f_Machine_push at hf
  refine mv_aload_n (pc := 0) B d_Machine_push_0 rfl 0 rfl ?_
  refine mv_getR (pc := 1) (ci := 9) (C := R_Machine) (T := F_Machine) (N := 13) B 3 rfl rfl (by decide) i_Machine (B.2.2.2.1 _ k_445) rfl (hb.1 64 3 _ rfl) d_Machine_push_1 ?_
  refine mv_aload_n (pc := 4) B d_Machine_push_4 rfl 0 rfl ?_
  refine mv_getI (pc := 5) (ci := 9) (C := R_Machine) (T := F_Machine) (N := 13) B 4 rfl rfl (by decide) i_Machine (B.2.2.2.1 _ k_446) rfl d_Machine_push_5 ?_
  refine mv_lload_n (pc := 8) B d_Machine_push_8 rfl 1 rfl ?_
  obtain ⟨q1, hf⟩ := xvi_e hf
  refine mv_last (pc := 9) B rfl q1 d_Machine_push_9 ?_
  refine mvh_hp (R9 := mv_r h) hf rfl (fun g2 hf r_g2 => ?_)
  refine mv_aload_n (pc := 10) B d_Machine_push_10 rfl 0 rfl ?_
  refine mv_dup (pc := 11) B d_Machine_push_11 rfl ?_
  refine mv_getI (pc := 12) (ci := 9) (C := R_Machine) (T := F_Machine) (N := 13) B 4 rfl rfl (by decide) i_Machine (B.2.2.2.1 _ k_446) rfl d_Machine_push_12 ?_
  refine mv_iconst (pc := 15) (v := 1) B d_Machine_push_15 (by decide) ?_
  refine mv_iadd (pc := 16) B d_Machine_push_16 ?_
  refine mv_putI (pc := 17) (ci := 9) (C := R_Machine) (T := F_Machine) (N := 13) B 4 rfl rfl (by decide) i_Machine t_Machine_ok n_Machine (B.2.2.2.1 _ k_446) rfl rfl rfl rfl d_Machine_push_17 ?_
  refine mvh_hp (R9 := mv_r h) hf r_g2 (fun g3 hf r_g3 => ?_)
  exact mv_vret (pc := 20) B hr d_Machine_push_20 (Nat.le_refl _) (Nat.le_refl _) ⟨rfl, xrh_v hf r_g3⟩
set_option maxHeartbeats 4000000 in
set_option maxRecDepth 100000 in
theorem ch_Machine_push_b (l : Launch) {dA : FieldType → ClassId} {D : va_G} {al : Nat → Nat} {ext : mv_Sh} {sk sv : Nat → Nat} (hi : mv_inj (mg dA D al ext)) (h : mv_H) (hb : Rf 48 (mv_r h))  (a0 : Int64) {rg : mv_H} (hf : f_Machine_push 48 h a0 = some rg) : mv_C l y_Machine_push (Cond.code y_Machine_push b_Machine_push 3 (Option.none : Option Jvm.ClassFile.FieldType) :: ma) ({ frames := 0, cells := 0, slots := 0, locals := 0 }) (mg dA D al ext) (mK sk sv) [.ref (al 64), .long a0] h (mv_Rv (fun σ1 => rg = σ1 ∧ mv_r σ1 = mv_r h)) := by
  refine mv_C.ofV (cc := b_Machine_push) (nL := 3) (ret := (Option.none : Option Jvm.ClassFile.FieldType)) (by decide +kernel) rfl hi (Nat.le_of_ble_eq_true rfl) ?_
  intro p e s m below meth c B hNs hr hnm hno
  unfold f_Machine_push at hf
  refine mv_aload_n (pc := 0) B d_Machine_push_0 rfl 0 rfl ?_
  refine mv_getR (pc := 1) (ci := 9) (C := R_Machine) (T := F_Machine) (N := 13) B 3 rfl rfl (by decide) i_Machine (B.2.2.2.1 _ k_445) rfl (hb.1 64 3 _ rfl) d_Machine_push_1 ?_
  refine mv_aload_n (pc := 4) B d_Machine_push_4 rfl 0 rfl ?_
  refine mv_getI (pc := 5) (ci := 9) (C := R_Machine) (T := F_Machine) (N := 13) B 4 rfl rfl (by decide) i_Machine (B.2.2.2.1 _ k_446) rfl d_Machine_push_5 ?_
  refine mv_lload_n (pc := 8) B d_Machine_push_8 rfl 1 rfl ?_
  obtain ⟨q1, hf⟩ := xvi_e hf
  refine mv_last (pc := 9) B rfl q1 d_Machine_push_9 ?_
  refine mvh_hp (R9 := mv_r h) hf rfl (fun g2 hf r_g2 => ?_)
  refine mv_aload_n (pc := 10) B d_Machine_push_10 rfl 0 rfl ?_
  refine mv_dup (pc := 11) B d_Machine_push_11 rfl ?_
  refine mv_getI (pc := 12) (ci := 9) (C := R_Machine) (T := F_Machine) (N := 13) B 4 rfl rfl (by decide) i_Machine (B.2.2.2.1 _ k_446) rfl d_Machine_push_12 ?_
  refine mv_iconst (pc := 15) (v := 1) B d_Machine_push_15 (by decide) ?_
  refine mv_iadd (pc := 16) B d_Machine_push_16 ?_
  refine mv_putI (pc := 17) (ci := 9) (C := R_Machine) (T := F_Machine) (N := 13) B 4 rfl rfl (by decide) i_Machine t_Machine_ok n_Machine (B.2.2.2.1 _ k_446) rfl rfl rfl rfl d_Machine_push_17 ?_
  refine mvh_hp (R9 := mv_r h) hf r_g2 (fun g3 hf r_g3 => ?_)
  exact mv_vret (pc := 20) B hr d_Machine_push_20 (Nat.le_refl _) (Nat.le_refl _) ⟨rfl, xrh_v hf r_g3⟩
def f_Machine_pop (P : Nat) (h : mv_H) : Option (Int64 × mv_H) := xk (mv_si h 64 4 ((mv_i h 64 4) - (1 : Int32))) fun g1 => bif xvi (mv_i g1 64 4) 1024 then some ((mv_b g1 67 ((mv_i g1 64 4)).toNatClampNeg), g1) else none
set_option maxHeartbeats 4000000 in
set_option maxRecDepth 100000 in
theorem ch_Machine_pop_a (l : Launch) {dA : FieldType → ClassId} {D : va_G} {al : Nat → Nat} {ext : mv_Sh} {sk sv : Nat → Nat} (hi : mv_inj (mg dA D al ext)) (h : mv_H) (hb : Rf 32 (mv_r h))  {rv : Int64} {rg : mv_H} (hf : f_Machine_pop 32 h = some (rv, rg)) : mv_C l y_Machine_pop (Cond.code y_Machine_pop b_Machine_pop 1 (Option.some Jvm.ClassFile.FieldType.long) :: ma) ({ frames := 0, cells := 0, slots := 0, locals := 0 }) (mg dA D al ext) (mK sk sv) [.ref (al 64)] h (mv_Rl (fun v σ1 => rv = v ∧ rg = σ1 ∧ mv_r σ1 = mv_r h)) := by
  refine mv_C.ofV (cc := b_Machine_pop) (nL := 1) (ret := (Option.some Jvm.ClassFile.FieldType.long)) (by decide +kernel) rfl hi (Nat.le_of_ble_eq_true rfl) ?_
  intro p e s m below meth c B hNs hr hnm hno
  unfold f_Machine_pop at hf
  refine mv_aload_n (pc := 0) B d_Machine_pop_0 rfl 0 rfl ?_
  refine mv_dup (pc := 1) B d_Machine_pop_1 rfl ?_
  refine mv_getI (pc := 2) (ci := 9) (C := R_Machine) (T := F_Machine) (N := 13) B 4 rfl rfl (by decide) i_Machine (B.2.2.2.1 _ k_446) rfl d_Machine_pop_2 ?_
  refine mv_iconst (pc := 5) (v := 1) B d_Machine_pop_5 (by decide) ?_
  refine mv_isub (pc := 6) B d_Machine_pop_6 ?_
  refine mv_putI (pc := 7) (ci := 9) (C := R_Machine) (T := F_Machine) (N := 13) B 4 rfl rfl (by decide) i_Machine t_Machine_ok n_Machine (B.2.2.2.1 _ k_446) rfl rfl rfl rfl d_Machine_pop_7 ?_
  refine mvh_hp (R9 := mv_r h) hf rfl (fun g1 hf r_g1 => ?_)
  refine mv_aload_n (pc := 10) B d_Machine_pop_10 rfl 0 rfl ?_
  refine mv_getR (pc := 11) (ci := 9) (C := R_Machine) (T := F_Machine) (N := 13) B 3 rfl rfl (by decide) i_Machine (B.2.2.2.1 _ k_445) rfl ((congrFun (congrFun r_g1 64) 3).trans (hb.1 64 3 _ rfl)) d_Machine_pop_11 ?_
  refine mv_aload_n (pc := 14) B d_Machine_pop_14 rfl 0 rfl ?_
  refine mv_getI (pc := 15) (ci := 9) (C := R_Machine) (T := F_Machine) (N := 13) B 4 rfl rfl (by decide) i_Machine (B.2.2.2.1 _ k_446) rfl d_Machine_pop_15 ?_
  obtain ⟨q2, hf⟩ := xvi_e hf
  refine mv_lald (pc := 18) B rfl q2 d_Machine_pop_18 ?_
  exact mv_lret (pc := 19) B hr d_Machine_pop_19 (Nat.le_refl _) (Nat.le_refl _) ⟨_, rfl, xrh_l hf r_g1⟩
set_option maxHeartbeats 4000000 in
set_option maxRecDepth 100000 in
theorem ch_Machine_pop_b (l : Launch) {dA : FieldType → ClassId} {D : va_G} {al : Nat → Nat} {ext : mv_Sh} {sk sv : Nat → Nat} (hi : mv_inj (mg dA D al ext)) (h : mv_H) (hb : Rf 48 (mv_r h))  {rv : Int64} {rg : mv_H} (hf : f_Machine_pop 48 h = some (rv, rg)) : mv_C l y_Machine_pop (Cond.code y_Machine_pop b_Machine_pop 1 (Option.some Jvm.ClassFile.FieldType.long) :: ma) ({ frames := 0, cells := 0, slots := 0, locals := 0 }) (mg dA D al ext) (mK sk sv) [.ref (al 64)] h (mv_Rl (fun v σ1 => rv = v ∧ rg = σ1 ∧ mv_r σ1 = mv_r h)) := by
  refine mv_C.ofV (cc := b_Machine_pop) (nL := 1) (ret := (Option.some Jvm.ClassFile.FieldType.long)) (by decide +kernel) rfl hi (Nat.le_of_ble_eq_true rfl) ?_
  intro p e s m below meth c B hNs hr hnm hno
  unfold f_Machine_pop at hf
  refine mv_aload_n (pc := 0) B d_Machine_pop_0 rfl 0 rfl ?_
  refine mv_dup (pc := 1) B d_Machine_pop_1 rfl ?_
  refine mv_getI (pc := 2) (ci := 9) (C := R_Machine) (T := F_Machine) (N := 13) B 4 rfl rfl (by decide) i_Machine (B.2.2.2.1 _ k_446) rfl d_Machine_pop_2 ?_
  refine mv_iconst (pc := 5) (v := 1) B d_Machine_pop_5 (by decide) ?_
  refine mv_isub (pc := 6) B d_Machine_pop_6 ?_
  refine mv_putI (pc := 7) (ci := 9) (C := R_Machine) (T := F_Machine) (N := 13) B 4 rfl rfl (by decide) i_Machine t_Machine_ok n_Machine (B.2.2.2.1 _ k_446) rfl rfl rfl rfl d_Machine_pop_7 ?_
  refine mvh_hp (R9 := mv_r h) hf rfl (fun g1 hf r_g1 => ?_)
  refine mv_aload_n (pc := 10) B d_Machine_pop_10 rfl 0 rfl ?_
  refine mv_getR (pc := 11) (ci := 9) (C := R_Machine) (T := F_Machine) (N := 13) B 3 rfl rfl (by decide) i_Machine (B.2.2.2.1 _ k_445) rfl ((congrFun (congrFun r_g1 64) 3).trans (hb.1 64 3 _ rfl)) d_Machine_pop_11 ?_
  refine mv_aload_n (pc := 14) B d_Machine_pop_14 rfl 0 rfl ?_
  refine mv_getI (pc := 15) (ci := 9) (C := R_Machine) (T := F_Machine) (N := 13) B 4 rfl rfl (by decide) i_Machine (B.2.2.2.1 _ k_446) rfl d_Machine_pop_15 ?_
  obtain ⟨q2, hf⟩ := xvi_e hf
  refine mv_lald (pc := 18) B rfl q2 d_Machine_pop_18 ?_
  exact mv_lret (pc := 19) B hr d_Machine_pop_19 (Nat.le_refl _) (Nat.le_refl _) ⟨_, rfl, xrh_l hf r_g1⟩
def f_Machine_put_16 (P : Nat) (x1 : Int32) (x2 : Int32) (x3 : Int64) (hz : mv_H) : Option mv_H := bif xvi x1 64 then bif xvi x1 64 then xhb (f_Bits_mask hz (mv_a hz (P + 1) (x1).toNatClampNeg)) fun v4 g3 => bif xvi ((mv_a hz (P + 3) (x1).toNatClampNeg) + x2) 65600 then xk (mv_sb g3 65 (((mv_a hz (P + 3) (x1).toNatClampNeg) + x2)).toNatClampNeg (x3 &&& v4)) fun g6 => some g6 else none else none else none
def f_Machine_put (P : Nat) (h : mv_H) (a0 : Int32) (a1 : Int32) (a2 : Int64) : Option mv_H := if (0 : Int32) < a1 then (f_Machine_put_16 P a0 a1 a2 h) else (bif xvi a0 64 then if (mv_a h (P + 4) (a0).toNatClampNeg) = (0 : Int32) then (f_Machine_put_16 P a0 a1 a2 h) else (some h) else none)
set_option maxHeartbeats 4000000 in
set_option maxRecDepth 100000 in
theorem ch_Machine_put_a (l : Launch) {dA : FieldType → ClassId} {D : va_G} {al : Nat → Nat} {ext : mv_Sh} {sk sv : Nat → Nat} (hi : mv_inj (mg dA D al ext)) (h : mv_H) (hb : Rf 32 (mv_r h))  (a0 : Int32) (a1 : Int32) (a2 : Int64) {rg : mv_H} (hf : f_Machine_put 32 h a0 a1 a2 = some rg) : mv_C l y_Machine_put (Cond.code y_Machine_put b_Machine_put 5 (Option.none : Option Jvm.ClassFile.FieldType) :: ma) ({ frames := 1, cells := 0, slots := 0, locals := 20 }) (mg dA D al ext) (mK sk sv) [.ref (al 64), .int a0, .int a1, .long a2] h (mv_Rv (fun σ1 => rg = σ1 ∧ mv_r σ1 = mv_r h)) := by
  refine mv_C.ofV (cc := b_Machine_put) (nL := 5) (ret := (Option.none : Option Jvm.ClassFile.FieldType)) (by decide +kernel) rfl hi (Nat.le_of_ble_eq_true rfl) ?_
  intro p e s m below meth c B hNs hr hnm hno
  have jn16 : ∀ (x1 : Int32) (x2 : Int32) (x3 : Int64) (hz : mv_H), mv_r hz = mv_r h → f_Machine_put_16 32 x1 x2 x3 hz = some rg → mv_V p l e ({ frames := 1, cells := 0, slots := 0, locals := 20 }) s m ([.ref (al 64), .int a0, .int a1, .long a2] : List Value).toArray below meth c (mg dA D al ext) 5 0 0 (mv_Q (mg dA D al ext) below s 0 0 (mv_Rv (fun σ1 => rg = σ1 ∧ mv_r σ1 = mv_r h))) hz 16 [(0, .ref (al 64)), (1, .int x1), (2, .int x2), (3, .long x3)] [] := by
    intro x1 x2 x3 hz r_hz hf
    unfold f_Machine_put_16 at hf
    refine mv_aload_n (pc := 16) B d_Machine_put_16 rfl 0 rfl ?_
    refine mv_getR (pc := 17) (ci := 9) (C := R_Machine) (T := F_Machine) (N := 13) B 1 rfl rfl (by decide) i_Machine (B.2.2.2.1 _ k_442) rfl ((congrFun (congrFun r_hz 64) 1).trans (hb.1 64 1 _ rfl)) d_Machine_put_17 ?_
    refine mv_aload_n (pc := 20) B d_Machine_put_20 rfl 0 rfl ?_
    refine mv_getR (pc := 21) (ci := 9) (C := R_Machine) (T := F_Machine) (N := 13) B 0 rfl rfl (by decide) i_Machine (B.2.2.2.1 _ k_440) rfl ((congrFun (congrFun r_hz 64) 0).trans hb.2.2) d_Machine_put_21 ?_
    refine mv_getR (pc := 24) (ci := 7) (C := R_Program) (T := F_Program) (N := 19) B 4 rfl rfl (by decide) i_Program (B.2.2.2.1 _ k_327) rfl ((congrFun (congrFun r_hz 32) 4).trans (hb.2.1 32 4 35 rfl)) d_Machine_put_24 ?_
    refine mv_iload_n (pc := 27) B d_Machine_put_27 rfl 1 rfl ?_
    obtain ⟨q1, hf⟩ := xvi_e hf
    refine mv_iald (pc := 28) B rfl q1 d_Machine_put_28 ?_
    refine mv_iload_n (pc := 29) B d_Machine_put_29 rfl 2 rfl ?_
    refine mv_iadd (pc := 30) B d_Machine_put_30 ?_
    refine mv_lload_n (pc := 31) B d_Machine_put_31 rfl 3 rfl ?_
    refine mv_aload_n (pc := 32) B d_Machine_put_32 rfl 0 rfl ?_
    refine mv_getR (pc := 33) (ci := 9) (C := R_Machine) (T := F_Machine) (N := 13) B 0 rfl rfl (by decide) i_Machine (B.2.2.2.1 _ k_440) rfl ((congrFun (congrFun r_hz 64) 0).trans hb.2.2) d_Machine_put_33 ?_
    refine mv_getR (pc := 36) (ci := 7) (C := R_Program) (T := F_Program) (N := 19) B 2 rfl rfl (by decide) i_Program (B.2.2.2.1 _ k_319) rfl ((congrFun (congrFun r_hz 32) 2).trans (hb.2.1 32 2 33 rfl)) d_Machine_put_36 ?_
    refine mv_iload_n (pc := 39) B d_Machine_put_39 rfl 1 rfl ?_
    obtain ⟨q2, hf⟩ := xvi_e hf
    refine mv_iald (pc := 40) B rfl q2 d_Machine_put_40 ?_
    obtain ⟨v4, g3, eg3, hf⟩ := xhb_e hf
    refine mv_callSl (pc := 41) (n := 1) B (mK_ok sk sv) hNs (ch_Bits_mask l hi _ _ eg3) rfl (ma_goodc kc_Bits_mask) (B.2.2.2.1 _ k_1604) (B.2.2.2.1 _ k_1437) (B.2.2.2.1 _ k_33) ⟨by decide +kernel, by decide +kernel, by decide +kernel⟩ rfl d_Machine_put_41 rfl (Nat.le_of_ble_eq_true rfl) ⟨by decide, by decide⟩ ⟨by decide, by decide⟩ ⟨by decide, by decide⟩ (mv_noH hno _) (fun w41 σ41 h41 => ?_)
    obtain ⟨rfl, rfl, s_g3⟩ := h41
    have r_g3 : mv_r g3 = mv_r h := s_g3.trans r_hz
    refine mv_land (pc := 44) B d_Machine_put_44 ?_
    obtain ⟨q5, hf⟩ := xvi_e hf
    refine mv_last (pc := 45) B rfl q5 d_Machine_put_45 ?_
    refine mvh_hp (R9 := mv_r h) hf r_g3 (fun g6 hf r_g6 => ?_)
    exact mv_vret (pc := 46) B hr d_Machine_put_46 (Nat.le_refl _) (Nat.le_refl _) ⟨rfl, xrh_v hf r_g6⟩
  unfold f_Machine_put at hf
  refine mv_iload_n (pc := 0) B d_Machine_put_0 rfl 2 rfl ?_
  refine mv_if_gt (pc := 1) (tgt := 16) B d_Machine_put_1 rfl (fun h1 => ?_) (fun h1 => ?_)
  · skip
    have hf := xif_t h1 hf
    refine mv_lpick [0, 1, 2, 3] rfl ?_
    exact jn16 _ _ _ _ rfl hf
  · skip
    have hf := xif_f h1 hf
    refine mv_aload_n (pc := 4) B d_Machine_put_4 rfl 0 rfl ?_
    refine mv_getR (pc := 5) (ci := 9) (C := R_Machine) (T := F_Machine) (N := 13) B 0 rfl rfl (by decide) i_Machine (B.2.2.2.1 _ k_440) rfl hb.2.2 d_Machine_put_5 ?_
    refine mv_getR (pc := 8) (ci := 7) (C := R_Program) (T := F_Program) (N := 19) B 5 rfl rfl (by decide) i_Program (B.2.2.2.1 _ k_331) rfl (hb.2.1 32 5 36 rfl) d_Machine_put_8 ?_
    refine mv_iload_n (pc := 11) B d_Machine_put_11 rfl 1 rfl ?_
    obtain ⟨q7, hf⟩ := xvi_e hf
    refine mv_zald (pc := 12) B rfl q7 d_Machine_put_12 ?_
    refine mv_if_ne (pc := 13) (tgt := 46) B d_Machine_put_13 rfl (fun h13 => ?_) (fun h13 => ?_)
    · skip
      have hf := xif_f h13 hf
      exact mv_vret (pc := 46) B hr d_Machine_put_46 (Nat.le_refl _) (Nat.le_refl _) ⟨rfl, xrh_v hf rfl⟩
    · skip
      have hf := xif_t h13 hf
      refine mv_lpick [0, 1, 2, 3] rfl ?_
      exact jn16 _ _ _ _ rfl hf
set_option maxHeartbeats 4000000 in
set_option maxRecDepth 100000 in
theorem ch_Machine_put_b (l : Launch) {dA : FieldType → ClassId} {D : va_G} {al : Nat → Nat} {ext : mv_Sh} {sk sv : Nat → Nat} (hi : mv_inj (mg dA D al ext)) (h : mv_H) (hb : Rf 48 (mv_r h))  (a0 : Int32) (a1 : Int32) (a2 : Int64) {rg : mv_H} (hf : f_Machine_put 48 h a0 a1 a2 = some rg) : mv_C l y_Machine_put (Cond.code y_Machine_put b_Machine_put 5 (Option.none : Option Jvm.ClassFile.FieldType) :: ma) ({ frames := 1, cells := 0, slots := 0, locals := 20 }) (mg dA D al ext) (mK sk sv) [.ref (al 64), .int a0, .int a1, .long a2] h (mv_Rv (fun σ1 => rg = σ1 ∧ mv_r σ1 = mv_r h)) := by
  refine mv_C.ofV (cc := b_Machine_put) (nL := 5) (ret := (Option.none : Option Jvm.ClassFile.FieldType)) (by decide +kernel) rfl hi (Nat.le_of_ble_eq_true rfl) ?_
  intro p e s m below meth c B hNs hr hnm hno
  have jn16 : ∀ (x1 : Int32) (x2 : Int32) (x3 : Int64) (hz : mv_H), mv_r hz = mv_r h → f_Machine_put_16 48 x1 x2 x3 hz = some rg → mv_V p l e ({ frames := 1, cells := 0, slots := 0, locals := 20 }) s m ([.ref (al 64), .int a0, .int a1, .long a2] : List Value).toArray below meth c (mg dA D al ext) 5 0 0 (mv_Q (mg dA D al ext) below s 0 0 (mv_Rv (fun σ1 => rg = σ1 ∧ mv_r σ1 = mv_r h))) hz 16 [(0, .ref (al 64)), (1, .int x1), (2, .int x2), (3, .long x3)] [] := by
    intro x1 x2 x3 hz r_hz hf
    unfold f_Machine_put_16 at hf
    refine mv_aload_n (pc := 16) B d_Machine_put_16 rfl 0 rfl ?_
    refine mv_getR (pc := 17) (ci := 9) (C := R_Machine) (T := F_Machine) (N := 13) B 1 rfl rfl (by decide) i_Machine (B.2.2.2.1 _ k_442) rfl ((congrFun (congrFun r_hz 64) 1).trans (hb.1 64 1 _ rfl)) d_Machine_put_17 ?_
    refine mv_aload_n (pc := 20) B d_Machine_put_20 rfl 0 rfl ?_
    refine mv_getR (pc := 21) (ci := 9) (C := R_Machine) (T := F_Machine) (N := 13) B 0 rfl rfl (by decide) i_Machine (B.2.2.2.1 _ k_440) rfl ((congrFun (congrFun r_hz 64) 0).trans hb.2.2) d_Machine_put_21 ?_
    refine mv_getR (pc := 24) (ci := 7) (C := R_Program) (T := F_Program) (N := 19) B 4 rfl rfl (by decide) i_Program (B.2.2.2.1 _ k_327) rfl ((congrFun (congrFun r_hz 48) 4).trans (hb.2.1 48 4 51 rfl)) d_Machine_put_24 ?_
    refine mv_iload_n (pc := 27) B d_Machine_put_27 rfl 1 rfl ?_
    obtain ⟨q1, hf⟩ := xvi_e hf
    refine mv_iald (pc := 28) B rfl q1 d_Machine_put_28 ?_
    refine mv_iload_n (pc := 29) B d_Machine_put_29 rfl 2 rfl ?_
    refine mv_iadd (pc := 30) B d_Machine_put_30 ?_
    refine mv_lload_n (pc := 31) B d_Machine_put_31 rfl 3 rfl ?_
    refine mv_aload_n (pc := 32) B d_Machine_put_32 rfl 0 rfl ?_
    refine mv_getR (pc := 33) (ci := 9) (C := R_Machine) (T := F_Machine) (N := 13) B 0 rfl rfl (by decide) i_Machine (B.2.2.2.1 _ k_440) rfl ((congrFun (congrFun r_hz 64) 0).trans hb.2.2) d_Machine_put_33 ?_
    refine mv_getR (pc := 36) (ci := 7) (C := R_Program) (T := F_Program) (N := 19) B 2 rfl rfl (by decide) i_Program (B.2.2.2.1 _ k_319) rfl ((congrFun (congrFun r_hz 48) 2).trans (hb.2.1 48 2 49 rfl)) d_Machine_put_36 ?_
    refine mv_iload_n (pc := 39) B d_Machine_put_39 rfl 1 rfl ?_
    obtain ⟨q2, hf⟩ := xvi_e hf
    refine mv_iald (pc := 40) B rfl q2 d_Machine_put_40 ?_
    obtain ⟨v4, g3, eg3, hf⟩ := xhb_e hf
    refine mv_callSl (pc := 41) (n := 1) B (mK_ok sk sv) hNs (ch_Bits_mask l hi _ _ eg3) rfl (ma_goodc kc_Bits_mask) (B.2.2.2.1 _ k_1604) (B.2.2.2.1 _ k_1437) (B.2.2.2.1 _ k_33) ⟨by decide +kernel, by decide +kernel, by decide +kernel⟩ rfl d_Machine_put_41 rfl (Nat.le_of_ble_eq_true rfl) ⟨by decide, by decide⟩ ⟨by decide, by decide⟩ ⟨by decide, by decide⟩ (mv_noH hno _) (fun w41 σ41 h41 => ?_)
    obtain ⟨rfl, rfl, s_g3⟩ := h41
    have r_g3 : mv_r g3 = mv_r h := s_g3.trans r_hz
    refine mv_land (pc := 44) B d_Machine_put_44 ?_
    obtain ⟨q5, hf⟩ := xvi_e hf
    refine mv_last (pc := 45) B rfl q5 d_Machine_put_45 ?_
    refine mvh_hp (R9 := mv_r h) hf r_g3 (fun g6 hf r_g6 => ?_)
    exact mv_vret (pc := 46) B hr d_Machine_put_46 (Nat.le_refl _) (Nat.le_refl _) ⟨rfl, xrh_v hf r_g6⟩
  unfold f_Machine_put at hf
  refine mv_iload_n (pc := 0) B d_Machine_put_0 rfl 2 rfl ?_
  refine mv_if_gt (pc := 1) (tgt := 16) B d_Machine_put_1 rfl (fun h1 => ?_) (fun h1 => ?_)
  · skip
    have hf := xif_t h1 hf
    refine mv_lpick [0, 1, 2, 3] rfl ?_
    exact jn16 _ _ _ _ rfl hf
  · skip
    have hf := xif_f h1 hf
    refine mv_aload_n (pc := 4) B d_Machine_put_4 rfl 0 rfl ?_
    refine mv_getR (pc := 5) (ci := 9) (C := R_Machine) (T := F_Machine) (N := 13) B 0 rfl rfl (by decide) i_Machine (B.2.2.2.1 _ k_440) rfl hb.2.2 d_Machine_put_5 ?_
    refine mv_getR (pc := 8) (ci := 7) (C := R_Program) (T := F_Program) (N := 19) B 5 rfl rfl (by decide) i_Program (B.2.2.2.1 _ k_331) rfl (hb.2.1 48 5 52 rfl) d_Machine_put_8 ?_
    refine mv_iload_n (pc := 11) B d_Machine_put_11 rfl 1 rfl ?_
    obtain ⟨q7, hf⟩ := xvi_e hf
    refine mv_zald (pc := 12) B rfl q7 d_Machine_put_12 ?_
    refine mv_if_ne (pc := 13) (tgt := 46) B d_Machine_put_13 rfl (fun h13 => ?_) (fun h13 => ?_)
    · skip
      have hf := xif_f h13 hf
      exact mv_vret (pc := 46) B hr d_Machine_put_46 (Nat.le_refl _) (Nat.le_refl _) ⟨rfl, xrh_v hf rfl⟩
    · skip
      have hf := xif_t h13 hf
      refine mv_lpick [0, 1, 2, 3] rfl ?_
      exact jn16 _ _ _ _ rfl hf
def f_Machine_assign (P : Nat) (h : mv_H) (a0 : Int32) (a1 : Int32) (a2 : Int64) : Option mv_H := bif xvi a0 64 then bif xvi (mv_i h 64 7) 8193 then xk (mv_sa h 68 ((mv_i h 64 7)).toNatClampNeg ((mv_a h (P + 3) (a0).toNatClampNeg) + a1)) fun g3 => bif xvi ((mv_a h (P + 3) (a0).toNatClampNeg) + a1) 65600 then bif xvi (mv_i g3 64 7) 8193 then xk (mv_sb g3 69 ((mv_i g3 64 7)).toNatClampNeg (mv_b g3 65 (((mv_a h (P + 3) (a0).toNatClampNeg) + a1)).toNatClampNeg)) fun g6 => xk (mv_si g6 64 7 ((mv_i g6 64 7) + (1 : Int32))) fun g7 => xhv (f_Machine_put P g7 a0 a1 a2) fun g8 => some g8 else none else none else none else none
set_option maxHeartbeats 4000000 in
set_option maxRecDepth 100000 in
theorem ch_Machine_assign_a (l : Launch) {dA : FieldType → ClassId} {D : va_G} {al : Nat → Nat} {ext : mv_Sh} {sk sv : Nat → Nat} (hi : mv_inj (mg dA D al ext)) (h : mv_H) (hb : Rf 32 (mv_r h))  (a0 : Int32) (a1 : Int32) (a2 : Int64) {rg : mv_H} (hf : f_Machine_assign 32 h a0 a1 a2 = some rg) : mv_C l y_Machine_assign (Cond.code y_Machine_assign b_Machine_assign 6 (Option.none : Option Jvm.ClassFile.FieldType) :: ma) ({ frames := 2, cells := 0, slots := 0, locals := 44 }) (mg dA D al ext) (mK sk sv) [.ref (al 64), .int a0, .int a1, .long a2] h (mv_Rv (fun σ1 => rg = σ1 ∧ mv_r σ1 = mv_r h)) := by
  refine mv_C.ofV (cc := b_Machine_assign) (nL := 6) (ret := (Option.none : Option Jvm.ClassFile.FieldType)) (by decide +kernel) rfl hi (Nat.le_of_ble_eq_true rfl) ?_
  intro p e s m below meth c B hNs hr hnm hno
  unfold f_Machine_assign at hf
  refine mv_aload_n (pc := 0) B d_Machine_assign_0 rfl 0 rfl ?_
  refine mv_getR (pc := 1) (ci := 9) (C := R_Machine) (T := F_Machine) (N := 13) B 0 rfl rfl (by decide) i_Machine (B.2.2.2.1 _ k_440) rfl hb.2.2 d_Machine_assign_1 ?_
  refine mv_getR (pc := 4) (ci := 7) (C := R_Program) (T := F_Program) (N := 19) B 4 rfl rfl (by decide) i_Program (B.2.2.2.1 _ k_327) rfl (hb.2.1 32 4 35 rfl) d_Machine_assign_4 ?_
  refine mv_iload_n (pc := 7) B d_Machine_assign_7 rfl 1 rfl ?_
  obtain ⟨q1, hf⟩ := xvi_e hf
  refine mv_iald (pc := 8) B rfl q1 d_Machine_assign_8 ?_
  refine mv_iload_n (pc := 9) B d_Machine_assign_9 rfl 2 rfl ?_
  refine mv_iadd (pc := 10) B d_Machine_assign_10 ?_
  refine mv_istore (pc := 11) B d_Machine_assign_11 (by decide) rfl ?_
  refine mv_aload_n (pc := 13) B d_Machine_assign_13 rfl 1 rfl ?_
  refine mv_getR (pc := 14) (ci := 9) (C := R_Machine) (T := F_Machine) (N := 13) B 5 rfl rfl (by decide) i_Machine (B.2.2.2.1 _ k_447) rfl (hb.1 64 5 _ rfl) d_Machine_assign_14 ?_
  refine mv_aload_n (pc := 17) B d_Machine_assign_17 rfl 1 rfl ?_
  refine mv_getI (pc := 18) (ci := 9) (C := R_Machine) (T := F_Machine) (N := 13) B 7 rfl rfl (by decide) i_Machine (B.2.2.2.1 _ k_449) rfl d_Machine_assign_18 ?_
  refine mv_iload (pc := 21) B d_Machine_assign_21 0 rfl ?_
  obtain ⟨q2, hf⟩ := xvi_e hf
  refine mv_iast (pc := 23) B rfl q2 d_Machine_assign_23 ?_
  refine mvh_hp (R9 := mv_r h) hf rfl (fun g3 hf r_g3 => ?_)
  refine mv_aload_n (pc := 24) B d_Machine_assign_24 rfl 1 rfl ?_
  refine mv_getR (pc := 25) (ci := 9) (C := R_Machine) (T := F_Machine) (N := 13) B 6 rfl rfl (by decide) i_Machine (B.2.2.2.1 _ k_448) rfl ((congrFun (congrFun r_g3 64) 6).trans (hb.1 64 6 _ rfl)) d_Machine_assign_25 ?_
  refine mv_aload_n (pc := 28) B d_Machine_assign_28 rfl 1 rfl ?_
  refine mv_getI (pc := 29) (ci := 9) (C := R_Machine) (T := F_Machine) (N := 13) B 7 rfl rfl (by decide) i_Machine (B.2.2.2.1 _ k_449) rfl d_Machine_assign_29 ?_
  refine mv_aload_n (pc := 32) B d_Machine_assign_32 rfl 1 rfl ?_
  refine mv_getR (pc := 33) (ci := 9) (C := R_Machine) (T := F_Machine) (N := 13) B 1 rfl rfl (by decide) i_Machine (B.2.2.2.1 _ k_442) rfl ((congrFun (congrFun r_g3 64) 1).trans (hb.1 64 1 _ rfl)) d_Machine_assign_33 ?_
  refine mv_iload (pc := 36) B d_Machine_assign_36 0 rfl ?_
  obtain ⟨q4, hf⟩ := xvi_e hf
  refine mv_lald (pc := 38) B rfl q4 d_Machine_assign_38 ?_
  obtain ⟨q5, hf⟩ := xvi_e hf
  refine mv_last (pc := 39) B rfl q5 d_Machine_assign_39 ?_
  refine mvh_hp (R9 := mv_r h) hf r_g3 (fun g6 hf r_g6 => ?_)
  refine mv_aload_n (pc := 40) B d_Machine_assign_40 rfl 1 rfl ?_
  refine mv_dup (pc := 41) B d_Machine_assign_41 rfl ?_
  refine mv_getI (pc := 42) (ci := 9) (C := R_Machine) (T := F_Machine) (N := 13) B 7 rfl rfl (by decide) i_Machine (B.2.2.2.1 _ k_449) rfl d_Machine_assign_42 ?_
  refine mv_iconst (pc := 45) (v := 1) B d_Machine_assign_45 (by decide) ?_
  refine mv_iadd (pc := 46) B d_Machine_assign_46 ?_
  refine mv_putI (pc := 47) (ci := 9) (C := R_Machine) (T := F_Machine) (N := 13) B 7 rfl rfl (by decide) i_Machine t_Machine_ok n_Machine (B.2.2.2.1 _ k_449) rfl rfl rfl rfl d_Machine_assign_47 ?_
  refine mvh_hp (R9 := mv_r h) hf r_g6 (fun g7 hf r_g7 => ?_)
  refine mv_aload_n (pc := 50) B d_Machine_assign_50 rfl 1 rfl ?_
  refine mv_iload_n (pc := 51) B d_Machine_assign_51 rfl 2 rfl ?_
  refine mv_iload_n (pc := 52) B d_Machine_assign_52 rfl 3 rfl ?_
  refine mv_lload_n (pc := 53) B d_Machine_assign_53 rfl 4 rfl ?_
  obtain ⟨g8, eg8, hf⟩ := xhv_e hf
  refine mv_callVv (pc := 54) (n := 3) (ci := 9) (C := R_Machine) B (mK_ok sk sv) hNs rfl rfl (ch_Machine_put_a l hi _ (xrw r_g7 hb) _ _ _ eg8) rfl (ma_goodc kc_Machine_put) (B.2.2.2.1 _ k_1600) (B.2.2.2.1 _ k_1601) (B.2.2.2.1 _ k_1602) (B.2.2.2.1 _ k_11) ⟨by decide +kernel, by decide +kernel, by decide +kernel⟩ rfl d_Machine_assign_54 rfl (Nat.le_of_ble_eq_true rfl) ⟨by decide, by decide⟩ ⟨by decide, by decide⟩ ⟨by decide, by decide⟩ (mv_noH hno _) (fun σ54 h54 => ?_)
  obtain ⟨rfl, s_g8⟩ := h54
  have r_g8 : mv_r g8 = mv_r h := s_g8.trans r_g7
  exact mv_vret (pc := 57) B hr d_Machine_assign_57 (Nat.le_refl _) (Nat.le_refl _) ⟨rfl, xrh_v hf r_g8⟩
set_option maxHeartbeats 4000000 in
set_option maxRecDepth 100000 in
theorem ch_Machine_assign_b (l : Launch) {dA : FieldType → ClassId} {D : va_G} {al : Nat → Nat} {ext : mv_Sh} {sk sv : Nat → Nat} (hi : mv_inj (mg dA D al ext)) (h : mv_H) (hb : Rf 48 (mv_r h))  (a0 : Int32) (a1 : Int32) (a2 : Int64) {rg : mv_H} (hf : f_Machine_assign 48 h a0 a1 a2 = some rg) : mv_C l y_Machine_assign (Cond.code y_Machine_assign b_Machine_assign 6 (Option.none : Option Jvm.ClassFile.FieldType) :: ma) ({ frames := 2, cells := 0, slots := 0, locals := 44 }) (mg dA D al ext) (mK sk sv) [.ref (al 64), .int a0, .int a1, .long a2] h (mv_Rv (fun σ1 => rg = σ1 ∧ mv_r σ1 = mv_r h)) := by
  refine mv_C.ofV (cc := b_Machine_assign) (nL := 6) (ret := (Option.none : Option Jvm.ClassFile.FieldType)) (by decide +kernel) rfl hi (Nat.le_of_ble_eq_true rfl) ?_
  intro p e s m below meth c B hNs hr hnm hno
  unfold f_Machine_assign at hf
  refine mv_aload_n (pc := 0) B d_Machine_assign_0 rfl 0 rfl ?_
  refine mv_getR (pc := 1) (ci := 9) (C := R_Machine) (T := F_Machine) (N := 13) B 0 rfl rfl (by decide) i_Machine (B.2.2.2.1 _ k_440) rfl hb.2.2 d_Machine_assign_1 ?_
  refine mv_getR (pc := 4) (ci := 7) (C := R_Program) (T := F_Program) (N := 19) B 4 rfl rfl (by decide) i_Program (B.2.2.2.1 _ k_327) rfl (hb.2.1 48 4 51 rfl) d_Machine_assign_4 ?_
  refine mv_iload_n (pc := 7) B d_Machine_assign_7 rfl 1 rfl ?_
  obtain ⟨q1, hf⟩ := xvi_e hf
  refine mv_iald (pc := 8) B rfl q1 d_Machine_assign_8 ?_
  refine mv_iload_n (pc := 9) B d_Machine_assign_9 rfl 2 rfl ?_
  refine mv_iadd (pc := 10) B d_Machine_assign_10 ?_
  refine mv_istore (pc := 11) B d_Machine_assign_11 (by decide) rfl ?_
  refine mv_aload_n (pc := 13) B d_Machine_assign_13 rfl 1 rfl ?_
  refine mv_getR (pc := 14) (ci := 9) (C := R_Machine) (T := F_Machine) (N := 13) B 5 rfl rfl (by decide) i_Machine (B.2.2.2.1 _ k_447) rfl (hb.1 64 5 _ rfl) d_Machine_assign_14 ?_
  refine mv_aload_n (pc := 17) B d_Machine_assign_17 rfl 1 rfl ?_
  refine mv_getI (pc := 18) (ci := 9) (C := R_Machine) (T := F_Machine) (N := 13) B 7 rfl rfl (by decide) i_Machine (B.2.2.2.1 _ k_449) rfl d_Machine_assign_18 ?_
  refine mv_iload (pc := 21) B d_Machine_assign_21 0 rfl ?_
  obtain ⟨q2, hf⟩ := xvi_e hf
  refine mv_iast (pc := 23) B rfl q2 d_Machine_assign_23 ?_
  refine mvh_hp (R9 := mv_r h) hf rfl (fun g3 hf r_g3 => ?_)
  refine mv_aload_n (pc := 24) B d_Machine_assign_24 rfl 1 rfl ?_
  refine mv_getR (pc := 25) (ci := 9) (C := R_Machine) (T := F_Machine) (N := 13) B 6 rfl rfl (by decide) i_Machine (B.2.2.2.1 _ k_448) rfl ((congrFun (congrFun r_g3 64) 6).trans (hb.1 64 6 _ rfl)) d_Machine_assign_25 ?_
  refine mv_aload_n (pc := 28) B d_Machine_assign_28 rfl 1 rfl ?_
  refine mv_getI (pc := 29) (ci := 9) (C := R_Machine) (T := F_Machine) (N := 13) B 7 rfl rfl (by decide) i_Machine (B.2.2.2.1 _ k_449) rfl d_Machine_assign_29 ?_
  refine mv_aload_n (pc := 32) B d_Machine_assign_32 rfl 1 rfl ?_
  refine mv_getR (pc := 33) (ci := 9) (C := R_Machine) (T := F_Machine) (N := 13) B 1 rfl rfl (by decide) i_Machine (B.2.2.2.1 _ k_442) rfl ((congrFun (congrFun r_g3 64) 1).trans (hb.1 64 1 _ rfl)) d_Machine_assign_33 ?_
  refine mv_iload (pc := 36) B d_Machine_assign_36 0 rfl ?_
  obtain ⟨q4, hf⟩ := xvi_e hf
  refine mv_lald (pc := 38) B rfl q4 d_Machine_assign_38 ?_
  obtain ⟨q5, hf⟩ := xvi_e hf
  refine mv_last (pc := 39) B rfl q5 d_Machine_assign_39 ?_
  refine mvh_hp (R9 := mv_r h) hf r_g3 (fun g6 hf r_g6 => ?_)
  refine mv_aload_n (pc := 40) B d_Machine_assign_40 rfl 1 rfl ?_
  refine mv_dup (pc := 41) B d_Machine_assign_41 rfl ?_
  refine mv_getI (pc := 42) (ci := 9) (C := R_Machine) (T := F_Machine) (N := 13) B 7 rfl rfl (by decide) i_Machine (B.2.2.2.1 _ k_449) rfl d_Machine_assign_42 ?_
  refine mv_iconst (pc := 45) (v := 1) B d_Machine_assign_45 (by decide) ?_
  refine mv_iadd (pc := 46) B d_Machine_assign_46 ?_
  refine mv_putI (pc := 47) (ci := 9) (C := R_Machine) (T := F_Machine) (N := 13) B 7 rfl rfl (by decide) i_Machine t_Machine_ok n_Machine (B.2.2.2.1 _ k_449) rfl rfl rfl rfl d_Machine_assign_47 ?_
  refine mvh_hp (R9 := mv_r h) hf r_g6 (fun g7 hf r_g7 => ?_)
  refine mv_aload_n (pc := 50) B d_Machine_assign_50 rfl 1 rfl ?_
  refine mv_iload_n (pc := 51) B d_Machine_assign_51 rfl 2 rfl ?_
  refine mv_iload_n (pc := 52) B d_Machine_assign_52 rfl 3 rfl ?_
  refine mv_lload_n (pc := 53) B d_Machine_assign_53 rfl 4 rfl ?_
  obtain ⟨g8, eg8, hf⟩ := xhv_e hf
  refine mv_callVv (pc := 54) (n := 3) (ci := 9) (C := R_Machine) B (mK_ok sk sv) hNs rfl rfl (ch_Machine_put_b l hi _ (xrw r_g7 hb) _ _ _ eg8) rfl (ma_goodc kc_Machine_put) (B.2.2.2.1 _ k_1600) (B.2.2.2.1 _ k_1601) (B.2.2.2.1 _ k_1602) (B.2.2.2.1 _ k_11) ⟨by decide +kernel, by decide +kernel, by decide +kernel⟩ rfl d_Machine_assign_54 rfl (Nat.le_of_ble_eq_true rfl) ⟨by decide, by decide⟩ ⟨by decide, by decide⟩ ⟨by decide, by decide⟩ (mv_noH hno _) (fun σ54 h54 => ?_)
  obtain ⟨rfl, s_g8⟩ := h54
  have r_g8 : mv_r g8 = mv_r h := s_g8.trans r_g7
  exact mv_vret (pc := 57) B hr d_Machine_assign_57 (Nat.le_refl _) (Nat.le_refl _) ⟨rfl, xrh_v hf r_g8⟩
def f_Machine_ofCell_88 (P : Nat) (hz : mv_H) : Option (Int32 × mv_H) := bif xzb (1 : Int32) then some ((1 : Int32), hz) else none
def f_Machine_ofCell_45 (P : Nat) (hz : mv_H) : Option (Int32 × mv_H) := bif xzb (0 : Int32) then some ((0 : Int32), hz) else none
def f_Machine_ofCell_15 (P : Nat) (x1 : Int32) (x2 : Int32) (y0 : Int64) (hz : mv_H) : Option (Int32 × mv_H) := xhb (f_Machine_pop P hz) fun v4 g3 => if (lg_cmp v4 (0 : Int64)) < (0 : Int32) then (f_Machine_ofCell_45 P  g3) else (bif xvi x2 64 then if (lg_cmp v4 (((mv_a g3 (P + 2) (x2).toNatClampNeg)).toInt64)) < (0 : Int32) then (if x1 = (315 : Int32) then (xhv (f_Machine_assign P g3 x2 ((v4).toInt32) y0) fun g9 => f_Machine_ofCell_88 P  g9) else (bif xvi x2 64 then bif xvi ((mv_a g3 (P + 3) (x2).toNatClampNeg) + ((v4).toInt32)) 65600 then xhv (f_Machine_push P g3 (mv_b g3 65 (((mv_a g3 (P + 3) (x2).toNatClampNeg) + ((v4).toInt32))).toNatClampNeg)) fun g8 => f_Machine_ofCell_88 P  g8 else none else none)) else (f_Machine_ofCell_45 P  g3) else none)
def f_Machine_ofCell (P : Nat) (h : mv_H) (a0 : Int32) (a1 : Int32) : Option (Int32 × mv_H) := if a0 = (315 : Int32) then (xhb (f_Machine_pop P h) fun v11 g10 => f_Machine_ofCell_15 P a0 a1 v11 g10) else (f_Machine_ofCell_15 P a0 a1 (0 : Int64) h)
set_option maxHeartbeats 4000000 in
set_option maxRecDepth 100000 in
theorem ch_Machine_ofCell_a (l : Launch) {dA : FieldType → ClassId} {D : va_G} {al : Nat → Nat} {ext : mv_Sh} {sk sv : Nat → Nat} (hi : mv_inj (mg dA D al ext)) (h : mv_H) (hb : Rf 32 (mv_r h))  (a0 : Int32) (a1 : Int32) {rv : Int32} {rg : mv_H} (hf : f_Machine_ofCell 32 h a0 a1 = some (rv, rg)) : mv_C l y_Machine_ofCell (Cond.code y_Machine_ofCell b_Machine_ofCell 7 (Option.some Jvm.ClassFile.FieldType.boolean) :: ma) ({ frames := 3, cells := 0, slots := 0, locals := 69 }) (mg dA D al ext) (mK sk sv) [.ref (al 64), .int a0, .int a1] h (mv_Ri (fun v σ1 => rv = v ∧ rg = σ1 ∧ mv_r σ1 = mv_r h)) := by
  refine mv_C.ofV (cc := b_Machine_ofCell) (nL := 7) (ret := (Option.some Jvm.ClassFile.FieldType.boolean)) (by decide +kernel) rfl hi (Nat.le_of_ble_eq_true rfl) ?_
  intro p e s m below meth c B hNs hr hnm hno
  have jn88 : ∀ (hz : mv_H), mv_r hz = mv_r h → f_Machine_ofCell_88 32  hz = some (rv, rg) → mv_V p l e ({ frames := 3, cells := 0, slots := 0, locals := 69 }) s m ([.ref (al 64), .int a0, .int a1] : List Value).toArray below meth c (mg dA D al ext) 7 0 0 (mv_Q (mg dA D al ext) below s 0 0 (mv_Ri (fun v σ1 => rv = v ∧ rg = σ1 ∧ mv_r σ1 = mv_r h))) hz 88 [] [] := by
    intro  hz r_hz hf
    unfold f_Machine_ofCell_88 at hf
    refine mv_iconst (pc := 88) (v := 1) B d_Machine_ofCell_88 (by decide) ?_
    obtain ⟨q1, hf⟩ := xzb_e hf
    exact mv_iret (pc := 89) B hr (xzb_n q1) d_Machine_ofCell_89 (Nat.le_refl _) (Nat.le_refl _) ⟨_, rfl, xrh_i hf r_hz⟩
  have jn45 : ∀ (hz : mv_H), mv_r hz = mv_r h → f_Machine_ofCell_45 32  hz = some (rv, rg) → mv_V p l e ({ frames := 3, cells := 0, slots := 0, locals := 69 }) s m ([.ref (al 64), .int a0, .int a1] : List Value).toArray below meth c (mg dA D al ext) 7 0 0 (mv_Q (mg dA D al ext) below s 0 0 (mv_Ri (fun v σ1 => rv = v ∧ rg = σ1 ∧ mv_r σ1 = mv_r h))) hz 45 [] [] := by
    intro  hz r_hz hf
    unfold f_Machine_ofCell_45 at hf
    refine mv_iconst (pc := 45) (v := 0) B d_Machine_ofCell_45 (by decide) ?_
    obtain ⟨q2, hf⟩ := xzb_e hf
    exact mv_iret (pc := 46) B hr (xzb_n q2) d_Machine_ofCell_46 (Nat.le_refl _) (Nat.le_refl _) ⟨_, rfl, xrh_i hf r_hz⟩
  have jn15 : ∀ (x1 : Int32) (x2 : Int32) (y0 : Int64) (hz : mv_H), mv_r hz = mv_r h → f_Machine_ofCell_15 32 x1 x2 y0 hz = some (rv, rg) → mv_V p l e ({ frames := 3, cells := 0, slots := 0, locals := 69 }) s m ([.ref (al 64), .int a0, .int a1] : List Value).toArray below meth c (mg dA D al ext) 7 0 0 (mv_Q (mg dA D al ext) below s 0 0 (mv_Ri (fun v σ1 => rv = v ∧ rg = σ1 ∧ mv_r σ1 = mv_r h))) hz 15 [(0, .ref (al 64)), (1, .int x1), (2, .int x2)] [.long y0] := by
    intro x1 x2 y0 hz r_hz hf
    unfold f_Machine_ofCell_15 at hf
    refine mv_lstore_n (pc := 15) B d_Machine_ofCell_15 rfl (by decide) rfl ?_
    refine mv_aload_n (pc := 16) B d_Machine_ofCell_16 rfl 1 rfl ?_
    obtain ⟨v4, g3, eg3, hf⟩ := xhb_e hf
    refine mv_callVl (pc := 17) (n := 0) (ci := 9) (C := R_Machine) B (mK_ok sk sv) hNs rfl rfl (ch_Machine_pop_a l hi _ (xrw r_hz hb) eg3) rfl (ma_goodc kc_Machine_pop) (B.2.2.2.1 _ k_1592) (B.2.2.2.1 _ k_1594) (B.2.2.2.1 _ ks_72) (B.2.2.2.1 _ k_11) ⟨by decide +kernel, by decide +kernel, by decide +kernel⟩ rfl d_Machine_ofCell_17 rfl (Nat.le_of_ble_eq_true rfl) ⟨by decide, by decide⟩ ⟨by decide, by decide⟩ ⟨by decide, by decide⟩ (mv_noH hno _) (fun w17 σ17 h17 => ?_)
    obtain ⟨rfl, rfl, s_g3⟩ := h17
    have r_g3 : mv_r g3 = mv_r h := s_g3.trans r_hz
    refine mv_lstore (pc := 20) B d_Machine_ofCell_20 (by decide) rfl ?_
    refine mv_lload (pc := 22) B d_Machine_ofCell_22 0 rfl ?_
    refine mv_lconst (pc := 24) (v := 0) B d_Machine_ofCell_24 (by decide) ?_
    refine mv_lcmp (pc := 25) B d_Machine_ofCell_25 ?_
    refine mv_if_lt (pc := 26) (tgt := 45) B d_Machine_ofCell_26 rfl (fun h26 => ?_) (fun h26 => ?_)
    · skip
      have hf := xif_t h26 hf
      refine mv_lpick [] rfl ?_
      exact jn45  _ r_g3 hf
    · skip
      have hf := xif_f h26 hf
      refine mv_lload (pc := 29) B d_Machine_ofCell_29 0 rfl ?_
      refine mv_aload_n (pc := 31) B d_Machine_ofCell_31 rfl 2 rfl ?_
      refine mv_getR (pc := 32) (ci := 9) (C := R_Machine) (T := F_Machine) (N := 13) B 0 rfl rfl (by decide) i_Machine (B.2.2.2.1 _ k_440) rfl ((congrFun (congrFun r_g3 64) 0).trans hb.2.2) d_Machine_ofCell_32 ?_
      refine mv_getR (pc := 35) (ci := 7) (C := R_Program) (T := F_Program) (N := 19) B 3 rfl rfl (by decide) i_Program (B.2.2.2.1 _ k_324) rfl ((congrFun (congrFun r_g3 32) 3).trans (hb.2.1 32 3 34 rfl)) d_Machine_ofCell_35 ?_
      refine mv_iload_n (pc := 38) B d_Machine_ofCell_38 rfl 4 rfl ?_
      obtain ⟨q5, hf⟩ := xvi_e hf
      refine mv_iald (pc := 39) B rfl q5 d_Machine_ofCell_39 ?_
      refine mv_i2l (pc := 40) B d_Machine_ofCell_40 ?_
      refine mv_lcmp (pc := 41) B d_Machine_ofCell_41 ?_
      refine mv_if_lt (pc := 42) (tgt := 47) B d_Machine_ofCell_42 rfl (fun h42 => ?_) (fun h42 => ?_)
      · skip
        have hf := xif_t h42 hf
        refine mv_iload_n (pc := 47) B d_Machine_ofCell_47 rfl 3 rfl ?_
        refine mv_sipush (pc := 48) (v := 315) B d_Machine_ofCell_48 (by decide) ?_
        refine mv_icmp_ne (pc := 51) (tgt := 66) B d_Machine_ofCell_51 rfl (fun h51 => ?_) (fun h51 => ?_)
        · skip
          have hf := xif_f h51 hf
          refine mv_aload_n (pc := 66) B d_Machine_ofCell_66 rfl 2 rfl ?_
          refine mv_aload_n (pc := 67) B d_Machine_ofCell_67 rfl 2 rfl ?_
          refine mv_getR (pc := 68) (ci := 9) (C := R_Machine) (T := F_Machine) (N := 13) B 1 rfl rfl (by decide) i_Machine (B.2.2.2.1 _ k_442) rfl ((congrFun (congrFun r_g3 64) 1).trans (hb.1 64 1 _ rfl)) d_Machine_ofCell_68 ?_
          refine mv_aload_n (pc := 71) B d_Machine_ofCell_71 rfl 2 rfl ?_
          refine mv_getR (pc := 72) (ci := 9) (C := R_Machine) (T := F_Machine) (N := 13) B 0 rfl rfl (by decide) i_Machine (B.2.2.2.1 _ k_440) rfl ((congrFun (congrFun r_g3 64) 0).trans hb.2.2) d_Machine_ofCell_72 ?_
          refine mv_getR (pc := 75) (ci := 7) (C := R_Program) (T := F_Program) (N := 19) B 4 rfl rfl (by decide) i_Program (B.2.2.2.1 _ k_327) rfl ((congrFun (congrFun r_g3 32) 4).trans (hb.2.1 32 4 35 rfl)) d_Machine_ofCell_75 ?_
          refine mv_iload_n (pc := 78) B d_Machine_ofCell_78 rfl 4 rfl ?_
          obtain ⟨q6, hf⟩ := xvi_e hf
          refine mv_iald (pc := 79) B rfl q6 d_Machine_ofCell_79 ?_
          refine mv_lload (pc := 80) B d_Machine_ofCell_80 0 rfl ?_
          refine mv_l2i (pc := 82) B d_Machine_ofCell_82 ?_
          refine mv_iadd (pc := 83) B d_Machine_ofCell_83 ?_
          obtain ⟨q7, hf⟩ := xvi_e hf
          refine mv_lald (pc := 84) B rfl q7 d_Machine_ofCell_84 ?_
          obtain ⟨g8, eg8, hf⟩ := xhv_e hf
          refine mv_callVv (pc := 85) (n := 1) (ci := 9) (C := R_Machine) B (mK_ok sk sv) hNs rfl rfl (ch_Machine_push_a l hi _ (xrw r_g3 hb) _ eg8) rfl (ma_goodc kc_Machine_push) (B.2.2.2.1 _ k_1584) (B.2.2.2.1 _ k_1586) (B.2.2.2.1 _ ks_70) (B.2.2.2.1 _ k_11) ⟨by decide +kernel, by decide +kernel, by decide +kernel⟩ rfl d_Machine_ofCell_85 rfl (Nat.le_of_ble_eq_true rfl) ⟨by decide, by decide⟩ ⟨by decide, by decide⟩ ⟨by decide, by decide⟩ (mv_noH hno _) (fun σ85 h85 => ?_)
          obtain ⟨rfl, s_g8⟩ := h85
          have r_g8 : mv_r g8 = mv_r h := s_g8.trans r_g3
          refine mv_lpick [] rfl ?_
          exact jn88  _ r_g8 hf
        · skip
          have hf := xif_t h51 hf
          refine mv_aload_n (pc := 54) B d_Machine_ofCell_54 rfl 2 rfl ?_
          refine mv_iload_n (pc := 55) B d_Machine_ofCell_55 rfl 4 rfl ?_
          refine mv_lload (pc := 56) B d_Machine_ofCell_56 0 rfl ?_
          refine mv_l2i (pc := 58) B d_Machine_ofCell_58 ?_
          refine mv_lload_n (pc := 59) B d_Machine_ofCell_59 rfl 1 rfl ?_
          obtain ⟨g9, eg9, hf⟩ := xhv_e hf
          refine mv_callVv (pc := 60) (n := 3) (ci := 9) (C := R_Machine) B (mK_ok sk sv) hNs rfl rfl (ch_Machine_assign_a l hi _ (xrw r_g3 hb) _ _ _ eg9) rfl (ma_goodc kc_Machine_assign) (B.2.2.2.1 _ k_1596) (B.2.2.2.1 _ k_1598) (B.2.2.2.1 _ ks_73) (B.2.2.2.1 _ k_11) ⟨by decide +kernel, by decide +kernel, by decide +kernel⟩ rfl d_Machine_ofCell_60 rfl (Nat.le_of_ble_eq_true rfl) ⟨by decide, by decide⟩ ⟨by decide, by decide⟩ ⟨by decide, by decide⟩ (mv_noH hno _) (fun σ60 h60 => ?_)
          obtain ⟨rfl, s_g9⟩ := h60
          have r_g9 : mv_r g9 = mv_r h := s_g9.trans r_g3
          refine mv_goto (pc := 63) (tgt := 88) B d_Machine_ofCell_63 rfl ?_
          refine mv_lpick [] rfl ?_
          exact jn88  _ r_g9 hf
      · skip
        have hf := xif_f h42 hf
        refine mv_lpick [] rfl ?_
        exact jn45  _ r_g3 hf
  unfold f_Machine_ofCell at hf
  refine mv_iload_n (pc := 0) B d_Machine_ofCell_0 rfl 1 rfl ?_
  refine mv_sipush (pc := 1) (v := 315) B d_Machine_ofCell_1 (by decide) ?_
  refine mv_icmp_ne (pc := 4) (tgt := 14) B d_Machine_ofCell_4 rfl (fun h4 => ?_) (fun h4 => ?_)
  · skip
    have hf := xif_f h4 hf
    refine mv_lconst (pc := 14) (v := 0) B d_Machine_ofCell_14 (by decide) ?_
    refine mv_lpick [0, 1, 2] rfl ?_
    exact jn15 _ _ _ _ rfl hf
  · skip
    have hf := xif_t h4 hf
    refine mv_aload_n (pc := 7) B d_Machine_ofCell_7 rfl 0 rfl ?_
    obtain ⟨v11, g10, eg10, hf⟩ := xhb_e hf
    refine mv_callVl (pc := 8) (n := 0) (ci := 9) (C := R_Machine) B (mK_ok sk sv) hNs rfl rfl (ch_Machine_pop_a l hi _ (hb) eg10) rfl (ma_goodc kc_Machine_pop) (B.2.2.2.1 _ k_1592) (B.2.2.2.1 _ k_1594) (B.2.2.2.1 _ ks_72) (B.2.2.2.1 _ k_11) ⟨by decide +kernel, by decide +kernel, by decide +kernel⟩ rfl d_Machine_ofCell_8 rfl (Nat.le_of_ble_eq_true rfl) ⟨by decide, by decide⟩ ⟨by decide, by decide⟩ ⟨by decide, by decide⟩ (mv_noH hno _) (fun w8 σ8 h8 => ?_)
    obtain ⟨rfl, rfl, s_g10⟩ := h8
    have r_g10 : mv_r g10 = mv_r h := s_g10.trans rfl
    refine mv_goto (pc := 11) (tgt := 15) B d_Machine_ofCell_11 rfl ?_
    refine mv_lpick [0, 1, 2] rfl ?_
    exact jn15 _ _ _ _ r_g10 hf
set_option maxHeartbeats 4000000 in
set_option maxRecDepth 100000 in
theorem ch_Machine_ofCell_b (l : Launch) {dA : FieldType → ClassId} {D : va_G} {al : Nat → Nat} {ext : mv_Sh} {sk sv : Nat → Nat} (hi : mv_inj (mg dA D al ext)) (h : mv_H) (hb : Rf 48 (mv_r h))  (a0 : Int32) (a1 : Int32) {rv : Int32} {rg : mv_H} (hf : f_Machine_ofCell 48 h a0 a1 = some (rv, rg)) : mv_C l y_Machine_ofCell (Cond.code y_Machine_ofCell b_Machine_ofCell 7 (Option.some Jvm.ClassFile.FieldType.boolean) :: ma) ({ frames := 3, cells := 0, slots := 0, locals := 69 }) (mg dA D al ext) (mK sk sv) [.ref (al 64), .int a0, .int a1] h (mv_Ri (fun v σ1 => rv = v ∧ rg = σ1 ∧ mv_r σ1 = mv_r h)) := by
  refine mv_C.ofV (cc := b_Machine_ofCell) (nL := 7) (ret := (Option.some Jvm.ClassFile.FieldType.boolean)) (by decide +kernel) rfl hi (Nat.le_of_ble_eq_true rfl) ?_
  intro p e s m below meth c B hNs hr hnm hno
  have jn88 : ∀ (hz : mv_H), mv_r hz = mv_r h → f_Machine_ofCell_88 48  hz = some (rv, rg) → mv_V p l e ({ frames := 3, cells := 0, slots := 0, locals := 69 }) s m ([.ref (al 64), .int a0, .int a1] : List Value).toArray below meth c (mg dA D al ext) 7 0 0 (mv_Q (mg dA D al ext) below s 0 0 (mv_Ri (fun v σ1 => rv = v ∧ rg = σ1 ∧ mv_r σ1 = mv_r h))) hz 88 [] [] := by
    intro  hz r_hz hf
    unfold f_Machine_ofCell_88 at hf
    refine mv_iconst (pc := 88) (v := 1) B d_Machine_ofCell_88 (by decide) ?_
    obtain ⟨q1, hf⟩ := xzb_e hf
    exact mv_iret (pc := 89) B hr (xzb_n q1) d_Machine_ofCell_89 (Nat.le_refl _) (Nat.le_refl _) ⟨_, rfl, xrh_i hf r_hz⟩
  have jn45 : ∀ (hz : mv_H), mv_r hz = mv_r h → f_Machine_ofCell_45 48  hz = some (rv, rg) → mv_V p l e ({ frames := 3, cells := 0, slots := 0, locals := 69 }) s m ([.ref (al 64), .int a0, .int a1] : List Value).toArray below meth c (mg dA D al ext) 7 0 0 (mv_Q (mg dA D al ext) below s 0 0 (mv_Ri (fun v σ1 => rv = v ∧ rg = σ1 ∧ mv_r σ1 = mv_r h))) hz 45 [] [] := by
    intro  hz r_hz hf
    unfold f_Machine_ofCell_45 at hf
    refine mv_iconst (pc := 45) (v := 0) B d_Machine_ofCell_45 (by decide) ?_
    obtain ⟨q2, hf⟩ := xzb_e hf
    exact mv_iret (pc := 46) B hr (xzb_n q2) d_Machine_ofCell_46 (Nat.le_refl _) (Nat.le_refl _) ⟨_, rfl, xrh_i hf r_hz⟩
  have jn15 : ∀ (x1 : Int32) (x2 : Int32) (y0 : Int64) (hz : mv_H), mv_r hz = mv_r h → f_Machine_ofCell_15 48 x1 x2 y0 hz = some (rv, rg) → mv_V p l e ({ frames := 3, cells := 0, slots := 0, locals := 69 }) s m ([.ref (al 64), .int a0, .int a1] : List Value).toArray below meth c (mg dA D al ext) 7 0 0 (mv_Q (mg dA D al ext) below s 0 0 (mv_Ri (fun v σ1 => rv = v ∧ rg = σ1 ∧ mv_r σ1 = mv_r h))) hz 15 [(0, .ref (al 64)), (1, .int x1), (2, .int x2)] [.long y0] := by
    intro x1 x2 y0 hz r_hz hf
    unfold f_Machine_ofCell_15 at hf
    refine mv_lstore_n (pc := 15) B d_Machine_ofCell_15 rfl (by decide) rfl ?_
    refine mv_aload_n (pc := 16) B d_Machine_ofCell_16 rfl 1 rfl ?_
    obtain ⟨v4, g3, eg3, hf⟩ := xhb_e hf
    refine mv_callVl (pc := 17) (n := 0) (ci := 9) (C := R_Machine) B (mK_ok sk sv) hNs rfl rfl (ch_Machine_pop_b l hi _ (xrw r_hz hb) eg3) rfl (ma_goodc kc_Machine_pop) (B.2.2.2.1 _ k_1592) (B.2.2.2.1 _ k_1594) (B.2.2.2.1 _ ks_72) (B.2.2.2.1 _ k_11) ⟨by decide +kernel, by decide +kernel, by decide +kernel⟩ rfl d_Machine_ofCell_17 rfl (Nat.le_of_ble_eq_true rfl) ⟨by decide, by decide⟩ ⟨by decide, by decide⟩ ⟨by decide, by decide⟩ (mv_noH hno _) (fun w17 σ17 h17 => ?_)
    obtain ⟨rfl, rfl, s_g3⟩ := h17
    have r_g3 : mv_r g3 = mv_r h := s_g3.trans r_hz
    refine mv_lstore (pc := 20) B d_Machine_ofCell_20 (by decide) rfl ?_
    refine mv_lload (pc := 22) B d_Machine_ofCell_22 0 rfl ?_
    refine mv_lconst (pc := 24) (v := 0) B d_Machine_ofCell_24 (by decide) ?_
    refine mv_lcmp (pc := 25) B d_Machine_ofCell_25 ?_
    refine mv_if_lt (pc := 26) (tgt := 45) B d_Machine_ofCell_26 rfl (fun h26 => ?_) (fun h26 => ?_)
    · skip
      have hf := xif_t h26 hf
      refine mv_lpick [] rfl ?_
      exact jn45  _ r_g3 hf
    · skip
      have hf := xif_f h26 hf
      refine mv_lload (pc := 29) B d_Machine_ofCell_29 0 rfl ?_
      refine mv_aload_n (pc := 31) B d_Machine_ofCell_31 rfl 2 rfl ?_
      refine mv_getR (pc := 32) (ci := 9) (C := R_Machine) (T := F_Machine) (N := 13) B 0 rfl rfl (by decide) i_Machine (B.2.2.2.1 _ k_440) rfl ((congrFun (congrFun r_g3 64) 0).trans hb.2.2) d_Machine_ofCell_32 ?_
      refine mv_getR (pc := 35) (ci := 7) (C := R_Program) (T := F_Program) (N := 19) B 3 rfl rfl (by decide) i_Program (B.2.2.2.1 _ k_324) rfl ((congrFun (congrFun r_g3 48) 3).trans (hb.2.1 48 3 50 rfl)) d_Machine_ofCell_35 ?_
      refine mv_iload_n (pc := 38) B d_Machine_ofCell_38 rfl 4 rfl ?_
      obtain ⟨q5, hf⟩ := xvi_e hf
      refine mv_iald (pc := 39) B rfl q5 d_Machine_ofCell_39 ?_
      refine mv_i2l (pc := 40) B d_Machine_ofCell_40 ?_
      refine mv_lcmp (pc := 41) B d_Machine_ofCell_41 ?_
      refine mv_if_lt (pc := 42) (tgt := 47) B d_Machine_ofCell_42 rfl (fun h42 => ?_) (fun h42 => ?_)
      · skip
        have hf := xif_t h42 hf
        refine mv_iload_n (pc := 47) B d_Machine_ofCell_47 rfl 3 rfl ?_
        refine mv_sipush (pc := 48) (v := 315) B d_Machine_ofCell_48 (by decide) ?_
        refine mv_icmp_ne (pc := 51) (tgt := 66) B d_Machine_ofCell_51 rfl (fun h51 => ?_) (fun h51 => ?_)
        · skip
          have hf := xif_f h51 hf
          refine mv_aload_n (pc := 66) B d_Machine_ofCell_66 rfl 2 rfl ?_
          refine mv_aload_n (pc := 67) B d_Machine_ofCell_67 rfl 2 rfl ?_
          refine mv_getR (pc := 68) (ci := 9) (C := R_Machine) (T := F_Machine) (N := 13) B 1 rfl rfl (by decide) i_Machine (B.2.2.2.1 _ k_442) rfl ((congrFun (congrFun r_g3 64) 1).trans (hb.1 64 1 _ rfl)) d_Machine_ofCell_68 ?_
          refine mv_aload_n (pc := 71) B d_Machine_ofCell_71 rfl 2 rfl ?_
          refine mv_getR (pc := 72) (ci := 9) (C := R_Machine) (T := F_Machine) (N := 13) B 0 rfl rfl (by decide) i_Machine (B.2.2.2.1 _ k_440) rfl ((congrFun (congrFun r_g3 64) 0).trans hb.2.2) d_Machine_ofCell_72 ?_
          refine mv_getR (pc := 75) (ci := 7) (C := R_Program) (T := F_Program) (N := 19) B 4 rfl rfl (by decide) i_Program (B.2.2.2.1 _ k_327) rfl ((congrFun (congrFun r_g3 48) 4).trans (hb.2.1 48 4 51 rfl)) d_Machine_ofCell_75 ?_
          refine mv_iload_n (pc := 78) B d_Machine_ofCell_78 rfl 4 rfl ?_
          obtain ⟨q6, hf⟩ := xvi_e hf
          refine mv_iald (pc := 79) B rfl q6 d_Machine_ofCell_79 ?_
          refine mv_lload (pc := 80) B d_Machine_ofCell_80 0 rfl ?_
          refine mv_l2i (pc := 82) B d_Machine_ofCell_82 ?_
          refine mv_iadd (pc := 83) B d_Machine_ofCell_83 ?_
          obtain ⟨q7, hf⟩ := xvi_e hf
          refine mv_lald (pc := 84) B rfl q7 d_Machine_ofCell_84 ?_
          obtain ⟨g8, eg8, hf⟩ := xhv_e hf
          refine mv_callVv (pc := 85) (n := 1) (ci := 9) (C := R_Machine) B (mK_ok sk sv) hNs rfl rfl (ch_Machine_push_b l hi _ (xrw r_g3 hb) _ eg8) rfl (ma_goodc kc_Machine_push) (B.2.2.2.1 _ k_1584) (B.2.2.2.1 _ k_1586) (B.2.2.2.1 _ ks_70) (B.2.2.2.1 _ k_11) ⟨by decide +kernel, by decide +kernel, by decide +kernel⟩ rfl d_Machine_ofCell_85 rfl (Nat.le_of_ble_eq_true rfl) ⟨by decide, by decide⟩ ⟨by decide, by decide⟩ ⟨by decide, by decide⟩ (mv_noH hno _) (fun σ85 h85 => ?_)
          obtain ⟨rfl, s_g8⟩ := h85
          have r_g8 : mv_r g8 = mv_r h := s_g8.trans r_g3
          refine mv_lpick [] rfl ?_
          exact jn88  _ r_g8 hf
        · skip
          have hf := xif_t h51 hf
          refine mv_aload_n (pc := 54) B d_Machine_ofCell_54 rfl 2 rfl ?_
          refine mv_iload_n (pc := 55) B d_Machine_ofCell_55 rfl 4 rfl ?_
          refine mv_lload (pc := 56) B d_Machine_ofCell_56 0 rfl ?_
          refine mv_l2i (pc := 58) B d_Machine_ofCell_58 ?_
          refine mv_lload_n (pc := 59) B d_Machine_ofCell_59 rfl 1 rfl ?_
          obtain ⟨g9, eg9, hf⟩ := xhv_e hf
          refine mv_callVv (pc := 60) (n := 3) (ci := 9) (C := R_Machine) B (mK_ok sk sv) hNs rfl rfl (ch_Machine_assign_b l hi _ (xrw r_g3 hb) _ _ _ eg9) rfl (ma_goodc kc_Machine_assign) (B.2.2.2.1 _ k_1596) (B.2.2.2.1 _ k_1598) (B.2.2.2.1 _ ks_73) (B.2.2.2.1 _ k_11) ⟨by decide +kernel, by decide +kernel, by decide +kernel⟩ rfl d_Machine_ofCell_60 rfl (Nat.le_of_ble_eq_true rfl) ⟨by decide, by decide⟩ ⟨by decide, by decide⟩ ⟨by decide, by decide⟩ (mv_noH hno _) (fun σ60 h60 => ?_)
          obtain ⟨rfl, s_g9⟩ := h60
          have r_g9 : mv_r g9 = mv_r h := s_g9.trans r_g3
          refine mv_goto (pc := 63) (tgt := 88) B d_Machine_ofCell_63 rfl ?_
          refine mv_lpick [] rfl ?_
          exact jn88  _ r_g9 hf
      · skip
        have hf := xif_f h42 hf
        refine mv_lpick [] rfl ?_
        exact jn45  _ r_g3 hf
  unfold f_Machine_ofCell at hf
  refine mv_iload_n (pc := 0) B d_Machine_ofCell_0 rfl 1 rfl ?_
  refine mv_sipush (pc := 1) (v := 315) B d_Machine_ofCell_1 (by decide) ?_
  refine mv_icmp_ne (pc := 4) (tgt := 14) B d_Machine_ofCell_4 rfl (fun h4 => ?_) (fun h4 => ?_)
  · skip
    have hf := xif_f h4 hf
    refine mv_lconst (pc := 14) (v := 0) B d_Machine_ofCell_14 (by decide) ?_
    refine mv_lpick [0, 1, 2] rfl ?_
    exact jn15 _ _ _ _ rfl hf
  · skip
    have hf := xif_t h4 hf
    refine mv_aload_n (pc := 7) B d_Machine_ofCell_7 rfl 0 rfl ?_
    obtain ⟨v11, g10, eg10, hf⟩ := xhb_e hf
    refine mv_callVl (pc := 8) (n := 0) (ci := 9) (C := R_Machine) B (mK_ok sk sv) hNs rfl rfl (ch_Machine_pop_b l hi _ (hb) eg10) rfl (ma_goodc kc_Machine_pop) (B.2.2.2.1 _ k_1592) (B.2.2.2.1 _ k_1594) (B.2.2.2.1 _ ks_72) (B.2.2.2.1 _ k_11) ⟨by decide +kernel, by decide +kernel, by decide +kernel⟩ rfl d_Machine_ofCell_8 rfl (Nat.le_of_ble_eq_true rfl) ⟨by decide, by decide⟩ ⟨by decide, by decide⟩ ⟨by decide, by decide⟩ (mv_noH hno _) (fun w8 σ8 h8 => ?_)
    obtain ⟨rfl, rfl, s_g10⟩ := h8
    have r_g10 : mv_r g10 = mv_r h := s_g10.trans rfl
    refine mv_goto (pc := 11) (tgt := 15) B d_Machine_ofCell_11 rfl ?_
    refine mv_lpick [0, 1, 2] rfl ?_
    exact jn15 _ _ _ _ r_g10 hf
def f_Machine_work_279 (P : Nat) (x1 : Int32) (x2 : Int64) (hz : mv_H) : Option mv_H := xhb (f_Machine_pop P hz) fun v2 g1 => xhb (f_Machine_pop P g1) fun v4 g3 => xhb (f_Bits_ofTwo g3 x1 v4 v2 ((x2).toInt32)) fun v6 g5 => xhv (f_Machine_push P g5 v6) fun g7 => some g7
def f_Machine_work_183 (P : Nat) (x2 : Int64) (hz : mv_H) : Option mv_H := xhb (f_Machine_pop P hz) fun v9 g8 => xhv (f_Machine_push P g8 ((v9 ^^^ (-1 : Int64)) &&& x2)) fun g10 => some g10
def f_Machine_work_152 (P : Nat) (x2 : Int64) (y0 : Int32) (hz : mv_H) : Option mv_H := bif xzb y0 then xk (mv_si hz 64 8 y0) fun g12 => xhb (f_Machine_pop P g12) fun v14 g13 => xhv (f_Machine_assign P g13 ((x2).toInt32) (0 : Int32) v14) fun g15 => some g15 else none
def f_Machine_work_147 (P : Nat) (x2 : Int64) (hz : mv_H) : Option mv_H := f_Machine_work_152 P x2 (1 : Int32) hz
def f_Machine_work (P : Nat) (h : mv_H) (a0 : Int32) (a1 : Int64) : Option mv_H := if (a0).toInt = 300 then (xhv (f_Machine_push P h a1) fun g16 => some g16) else (if (a0).toInt = 301 then (f_Machine_work_279 P a0 a1 h) else (if (a0).toInt = 302 then (bif xvi ((a1).toInt32) 64 then xhv (f_Machine_push P h (mv_b h 66 (((a1).toInt32)).toNatClampNeg)) fun g18 => some g18 else none) else (if (a0).toInt = 303 then (bif xvi ((a1).toInt32) 65600 then xhv (f_Machine_push P h (mv_b h 65 (((a1).toInt32)).toNatClampNeg)) fun g20 => some g20 else none) else (if (a0).toInt = 304 then (f_Machine_work_279 P a0 a1 h) else (if (a0).toInt = 305 then (xhb (f_Machine_pop P h) fun v22 g21 => xhv (f_Machine_push P g21 (((-v22)) &&& a1)) fun g23 => some g23) else (if (a0).toInt = 306 then (f_Machine_work_183 P a1 h) else (if (a0).toInt = 307 then (f_Machine_work_183 P a1 h) else (if (a0).toInt = 308 then (xhb (f_Machine_pop P h) fun v25 g24 => xhb (f_Bits_mask g24 (((a1 >>> (((8 : Int32)).toInt64 &&& 63))).toInt32)) fun v27 g26 => xhv (f_Machine_push P g26 ((((v25).toUInt64 >>> (((((a1 &&& (255 : Int64))).toInt32)).toInt64.toUInt64 &&& Int64.toUInt64 63)).toInt64) &&& v27)) fun g28 => some g28) else (if (a0).toInt = 309 then (xhb (f_Machine_pop P h) fun v30 g29 => xhb (f_Machine_pop P g29) fun v32 g31 => xhv (f_Machine_push P g31 ((v32 <<< ((((a1).toInt32)).toInt64 &&& 63)) ||| v30)) fun g33 => some g33) else (if (a0).toInt = 310 then (xhb (f_Machine_pop P h) fun v35 g34 => xhb (f_Bits_signed g34 v35 (((a1 &&& (255 : Int64))).toInt32)) fun v37 g36 => xhb (f_Bits_mask g36 (((a1 >>> (((8 : Int32)).toInt64 &&& 63))).toInt32)) fun v39 g38 => xhv (f_Machine_push P g38 (v37 &&& v39)) fun g40 => some g40) else (if (a0).toInt = 311 then (f_Machine_work_279 P a0 a1 h) else (if (a0).toInt = 312 then (f_Machine_work_279 P a0 a1 h) else (if (a0).toInt = 313 then (xhb (f_Machine_pop P h) fun v42 g41 => bif xvi ((a1).toInt32) 64 then xk (mv_sb g41 66 (((a1).toInt32)).toNatClampNeg v42) fun g44 => some g44 else none) else (if (a0).toInt = 314 then (if (mv_i h 64 8) = (0 : Int32) then (if (lg_cmp a1 (((mv_i h P 8)).toInt64)) = (0 : Int32) then (f_Machine_work_147 P a1 h) else (f_Machine_work_152 P a1 (0 : Int32) h)) else (f_Machine_work_147 P a1 h)) else (f_Machine_work_279 P a0 a1 h)))))))))))))))
set_option maxHeartbeats 4000000 in
set_option maxRecDepth 100000 in
theorem ch_Machine_work_a (l : Launch) {dA : FieldType → ClassId} {D : va_G} {al : Nat → Nat} {ext : mv_Sh} {sk sv : Nat → Nat} (hi : mv_inj (mg dA D al ext)) (h : mv_H) (hb : Rf 32 (mv_r h))  (a0 : Int32) (a1 : Int64) {rg : mv_H} (hf : f_Machine_work 32 h a0 a1 = some rg) : mv_C l y_Machine_work (Cond.code y_Machine_work b_Machine_work 8 (Option.none : Option Jvm.ClassFile.FieldType) :: ma) ({ frames := 3, cells := 0, slots := 0, locals := 74 }) (mg dA D al ext) (mK sk sv) [.ref (al 64), .int a0, .long a1] h (mv_Rv (fun σ1 => rg = σ1 ∧ mv_r σ1 = mv_r h)) := by
  refine mv_C.ofV (cc := b_Machine_work) (nL := 8) (ret := (Option.none : Option Jvm.ClassFile.FieldType)) (by decide +kernel) rfl hi (Nat.le_of_ble_eq_true rfl) ?_
  intro p e s m below meth c B hNs hr hnm hno
  have jn279 : ∀ (x1 : Int32) (x2 : Int64) (hz : mv_H), mv_r hz = mv_r h → f_Machine_work_279 32 x1 x2 hz = some rg → mv_V p l e ({ frames := 3, cells := 0, slots := 0, locals := 74 }) s m ([.ref (al 64), .int a0, .long a1] : List Value).toArray below meth c (mg dA D al ext) 8 0 0 (mv_Q (mg dA D al ext) below s 0 0 (mv_Rv (fun σ1 => rg = σ1 ∧ mv_r σ1 = mv_r h))) hz 279 [(0, .ref (al 64)), (1, .int x1), (2, .long x2)] [] := by
    intro x1 x2 hz r_hz hf
    unfold f_Machine_work_279 at hf
    refine mv_aload_n (pc := 279) B d_Machine_work_279 rfl 0 rfl ?_
    obtain ⟨v2, g1, eg1, hf⟩ := xhb_e hf
    refine mv_callVl (pc := 280) (n := 0) (ci := 9) (C := R_Machine) B (mK_ok sk sv) hNs rfl rfl (ch_Machine_pop_a l hi _ (xrw r_hz hb) eg1) rfl (ma_goodc kc_Machine_pop) (B.2.2.2.1 _ k_1592) (B.2.2.2.1 _ k_1594) (B.2.2.2.1 _ ks_72) (B.2.2.2.1 _ k_11) ⟨by decide +kernel, by decide +kernel, by decide +kernel⟩ rfl d_Machine_work_280 rfl (Nat.le_of_ble_eq_true rfl) ⟨by decide, by decide⟩ ⟨by decide, by decide⟩ ⟨by decide, by decide⟩ (mv_noH hno _) (fun w280 σ280 h280 => ?_)
    obtain ⟨rfl, rfl, s_g1⟩ := h280
    have r_g1 : mv_r g1 = mv_r h := s_g1.trans r_hz
    refine mv_lstore (pc := 283) B d_Machine_work_283 (by decide) rfl ?_
    refine mv_aload_n (pc := 285) B d_Machine_work_285 rfl 1 rfl ?_
    refine mv_iload_n (pc := 286) B d_Machine_work_286 rfl 2 rfl ?_
    refine mv_aload_n (pc := 287) B d_Machine_work_287 rfl 1 rfl ?_
    obtain ⟨v4, g3, eg3, hf⟩ := xhb_e hf
    refine mv_callVl (pc := 288) (n := 0) (ci := 9) (C := R_Machine) B (mK_ok sk sv) hNs rfl rfl (ch_Machine_pop_a l hi _ (xrw r_g1 hb) eg3) rfl (ma_goodc kc_Machine_pop) (B.2.2.2.1 _ k_1592) (B.2.2.2.1 _ k_1594) (B.2.2.2.1 _ ks_72) (B.2.2.2.1 _ k_11) ⟨by decide +kernel, by decide +kernel, by decide +kernel⟩ rfl d_Machine_work_288 rfl (Nat.le_of_ble_eq_true rfl) ⟨by decide, by decide⟩ ⟨by decide, by decide⟩ ⟨by decide, by decide⟩ (mv_noH hno _) (fun w288 σ288 h288 => ?_)
    obtain ⟨rfl, rfl, s_g3⟩ := h288
    have r_g3 : mv_r g3 = mv_r h := s_g3.trans r_g1
    refine mv_lload (pc := 291) B d_Machine_work_291 0 rfl ?_
    refine mv_lload_n (pc := 293) B d_Machine_work_293 rfl 3 rfl ?_
    refine mv_l2i (pc := 294) B d_Machine_work_294 ?_
    obtain ⟨v6, g5, eg5, hf⟩ := xhb_e hf
    refine mv_callSl (pc := 295) (n := 4) B (mK_ok sk sv) hNs (ch_Bits_ofTwo l hi _ _ _ _ _ eg5) rfl (ma_goodc kc_Bits_ofTwo) (B.2.2.2.1 _ k_1614) (B.2.2.2.1 _ k_1615) (B.2.2.2.1 _ k_33) ⟨by decide +kernel, by decide +kernel, by decide +kernel⟩ rfl d_Machine_work_295 rfl (Nat.le_of_ble_eq_true rfl) ⟨by decide, by decide⟩ ⟨by decide, by decide⟩ ⟨by decide, by decide⟩ (mv_noH hno _) (fun w295 σ295 h295 => ?_)
    obtain ⟨rfl, rfl, s_g5⟩ := h295
    have r_g5 : mv_r g5 = mv_r h := s_g5.trans r_g3
    obtain ⟨g7, eg7, hf⟩ := xhv_e hf
    refine mv_callVv (pc := 298) (n := 1) (ci := 9) (C := R_Machine) B (mK_ok sk sv) hNs rfl rfl (ch_Machine_push_a l hi _ (xrw r_g5 hb) _ eg7) rfl (ma_goodc kc_Machine_push) (B.2.2.2.1 _ k_1584) (B.2.2.2.1 _ k_1586) (B.2.2.2.1 _ ks_70) (B.2.2.2.1 _ k_11) ⟨by decide +kernel, by decide +kernel, by decide +kernel⟩ rfl d_Machine_work_298 rfl (Nat.le_of_ble_eq_true rfl) ⟨by decide, by decide⟩ ⟨by decide, by decide⟩ ⟨by decide, by decide⟩ (mv_noH hno _) (fun σ298 h298 => ?_)
    obtain ⟨rfl, s_g7⟩ := h298
    have r_g7 : mv_r g7 = mv_r h := s_g7.trans r_g5
    exact mv_vret (pc := 301) B hr d_Machine_work_301 (Nat.le_refl _) (Nat.le_refl _) ⟨rfl, xrh_v hf r_g7⟩
  have jn183 : ∀ (x2 : Int64) (hz : mv_H), mv_r hz = mv_r h → f_Machine_work_183 32 x2 hz = some rg → mv_V p l e ({ frames := 3, cells := 0, slots := 0, locals := 74 }) s m ([.ref (al 64), .int a0, .long a1] : List Value).toArray below meth c (mg dA D al ext) 8 0 0 (mv_Q (mg dA D al ext) below s 0 0 (mv_Rv (fun σ1 => rg = σ1 ∧ mv_r σ1 = mv_r h))) hz 183 [(0, .ref (al 64)), (2, .long x2)] [] := by
    intro x2 hz r_hz hf
    unfold f_Machine_work_183 at hf
    refine mv_aload_n (pc := 183) B d_Machine_work_183 rfl 0 rfl ?_
    refine mv_aload_n (pc := 184) B d_Machine_work_184 rfl 0 rfl ?_
    obtain ⟨v9, g8, eg8, hf⟩ := xhb_e hf
    refine mv_callVl (pc := 185) (n := 0) (ci := 9) (C := R_Machine) B (mK_ok sk sv) hNs rfl rfl (ch_Machine_pop_a l hi _ (xrw r_hz hb) eg8) rfl (ma_goodc kc_Machine_pop) (B.2.2.2.1 _ k_1592) (B.2.2.2.1 _ k_1594) (B.2.2.2.1 _ ks_72) (B.2.2.2.1 _ k_11) ⟨by decide +kernel, by decide +kernel, by decide +kernel⟩ rfl d_Machine_work_185 rfl (Nat.le_of_ble_eq_true rfl) ⟨by decide, by decide⟩ ⟨by decide, by decide⟩ ⟨by decide, by decide⟩ (mv_noH hno _) (fun w185 σ185 h185 => ?_)
    obtain ⟨rfl, rfl, s_g8⟩ := h185
    have r_g8 : mv_r g8 = mv_r h := s_g8.trans r_hz
    refine mv_ldc2 (pc := 188) (v := -1) B (B.2.2.2.1 _ k_1609) d_Machine_work_188 ?_
    refine mv_lxor (pc := 191) B d_Machine_work_191 ?_
    refine mv_lload_n (pc := 192) B d_Machine_work_192 rfl 1 rfl ?_
    refine mv_land (pc := 193) B d_Machine_work_193 ?_
    obtain ⟨g10, eg10, hf⟩ := xhv_e hf
    refine mv_callVv (pc := 194) (n := 1) (ci := 9) (C := R_Machine) B (mK_ok sk sv) hNs rfl rfl (ch_Machine_push_a l hi _ (xrw r_g8 hb) _ eg10) rfl (ma_goodc kc_Machine_push) (B.2.2.2.1 _ k_1584) (B.2.2.2.1 _ k_1586) (B.2.2.2.1 _ ks_70) (B.2.2.2.1 _ k_11) ⟨by decide +kernel, by decide +kernel, by decide +kernel⟩ rfl d_Machine_work_194 rfl (Nat.le_of_ble_eq_true rfl) ⟨by decide, by decide⟩ ⟨by decide, by decide⟩ ⟨by decide, by decide⟩ (mv_noH hno _) (fun σ194 h194 => ?_)
    obtain ⟨rfl, s_g10⟩ := h194
    have r_g10 : mv_r g10 = mv_r h := s_g10.trans r_g8
    refine mv_goto (pc := 197) (tgt := 301) B d_Machine_work_197 rfl ?_
    exact mv_vret (pc := 301) B hr d_Machine_work_301 (Nat.le_refl _) (Nat.le_refl _) ⟨rfl, xrh_v hf r_g10⟩
  have jn152 : ∀ (x2 : Int64) (y0 : Int32) (hz : mv_H), mv_r hz = mv_r h → f_Machine_work_152 32 x2 y0 hz = some rg → mv_V p l e ({ frames := 3, cells := 0, slots := 0, locals := 74 }) s m ([.ref (al 64), .int a0, .long a1] : List Value).toArray below meth c (mg dA D al ext) 8 0 0 (mv_Q (mg dA D al ext) below s 0 0 (mv_Rv (fun σ1 => rg = σ1 ∧ mv_r σ1 = mv_r h))) hz 152 [(0, .ref (al 64)), (2, .long x2)] [.int y0, .ref (al 64)] := by
    intro x2 y0 hz r_hz hf
    unfold f_Machine_work_152 at hf
    obtain ⟨q11, hf⟩ := xzb_e hf
    refine mv_putI (pc := 152) (ci := 9) (C := R_Machine) (T := F_Machine) (N := 13) B 8 rfl rfl (by decide) i_Machine t_Machine_ok n_Machine (B.2.2.2.1 _ k_450) rfl rfl (xzb_n q11) (xzb_f q11) d_Machine_work_152 ?_
    refine mvh_hp (R9 := mv_r h) hf r_hz (fun g12 hf r_g12 => ?_)
    refine mv_aload_n (pc := 155) B d_Machine_work_155 rfl 0 rfl ?_
    refine mv_lload_n (pc := 156) B d_Machine_work_156 rfl 1 rfl ?_
    refine mv_l2i (pc := 157) B d_Machine_work_157 ?_
    refine mv_iconst (pc := 158) (v := 0) B d_Machine_work_158 (by decide) ?_
    refine mv_aload_n (pc := 159) B d_Machine_work_159 rfl 0 rfl ?_
    obtain ⟨v14, g13, eg13, hf⟩ := xhb_e hf
    refine mv_callVl (pc := 160) (n := 0) (ci := 9) (C := R_Machine) B (mK_ok sk sv) hNs rfl rfl (ch_Machine_pop_a l hi _ (xrw r_g12 hb) eg13) rfl (ma_goodc kc_Machine_pop) (B.2.2.2.1 _ k_1592) (B.2.2.2.1 _ k_1594) (B.2.2.2.1 _ ks_72) (B.2.2.2.1 _ k_11) ⟨by decide +kernel, by decide +kernel, by decide +kernel⟩ rfl d_Machine_work_160 rfl (Nat.le_of_ble_eq_true rfl) ⟨by decide, by decide⟩ ⟨by decide, by decide⟩ ⟨by decide, by decide⟩ (mv_noH hno _) (fun w160 σ160 h160 => ?_)
    obtain ⟨rfl, rfl, s_g13⟩ := h160
    have r_g13 : mv_r g13 = mv_r h := s_g13.trans r_g12
    obtain ⟨g15, eg15, hf⟩ := xhv_e hf
    refine mv_callVv (pc := 163) (n := 3) (ci := 9) (C := R_Machine) B (mK_ok sk sv) hNs rfl rfl (ch_Machine_assign_a l hi _ (xrw r_g13 hb) _ _ _ eg15) rfl (ma_goodc kc_Machine_assign) (B.2.2.2.1 _ k_1596) (B.2.2.2.1 _ k_1598) (B.2.2.2.1 _ ks_73) (B.2.2.2.1 _ k_11) ⟨by decide +kernel, by decide +kernel, by decide +kernel⟩ rfl d_Machine_work_163 rfl (Nat.le_of_ble_eq_true rfl) ⟨by decide, by decide⟩ ⟨by decide, by decide⟩ ⟨by decide, by decide⟩ (mv_noH hno _) (fun σ163 h163 => ?_)
    obtain ⟨rfl, s_g15⟩ := h163
    have r_g15 : mv_r g15 = mv_r h := s_g15.trans r_g13
    refine mv_goto (pc := 166) (tgt := 301) B d_Machine_work_166 rfl ?_
    exact mv_vret (pc := 301) B hr d_Machine_work_301 (Nat.le_refl _) (Nat.le_refl _) ⟨rfl, xrh_v hf r_g15⟩
  have jn147 : ∀ (x2 : Int64) (hz : mv_H), mv_r hz = mv_r h → f_Machine_work_147 32 x2 hz = some rg → mv_V p l e ({ frames := 3, cells := 0, slots := 0, locals := 74 }) s m ([.ref (al 64), .int a0, .long a1] : List Value).toArray below meth c (mg dA D al ext) 8 0 0 (mv_Q (mg dA D al ext) below s 0 0 (mv_Rv (fun σ1 => rg = σ1 ∧ mv_r σ1 = mv_r h))) hz 147 [(0, .ref (al 64)), (2, .long x2)] [.ref (al 64)] := by
    intro x2 hz r_hz hf
    unfold f_Machine_work_147 at hf
    refine mv_iconst (pc := 147) (v := 1) B d_Machine_work_147 (by decide) ?_
    refine mv_goto (pc := 148) (tgt := 152) B d_Machine_work_148 rfl ?_
    refine mv_lpick [0, 1] rfl ?_
    exact jn152 _ _ _ r_hz hf
  unfold f_Machine_work at hf
  refine mv_iload_n (pc := 0) B d_Machine_work_0 rfl 1 rfl ?_
  refine mv_tsw (pc := 1) B d_Machine_work_1 (by decide) (by decide) ?_
  refine ⟨fun h1 => ?_, fun h1n300 => ?_⟩
  · skip
    have hf := xif_t h1 hf
    show mv_V _ _ _ _ _ _ _ _ _ _ _ _ _ _ _ _ 76 _ _
    refine mv_aload_n (pc := 76) B d_Machine_work_76 rfl 0 rfl ?_
    refine mv_lload_n (pc := 77) B d_Machine_work_77 rfl 2 rfl ?_
    obtain ⟨g16, eg16, hf⟩ := xhv_e hf
    refine mv_callVv (pc := 78) (n := 1) (ci := 9) (C := R_Machine) B (mK_ok sk sv) hNs rfl rfl (ch_Machine_push_a l hi _ (hb) _ eg16) rfl (ma_goodc kc_Machine_push) (B.2.2.2.1 _ k_1584) (B.2.2.2.1 _ k_1586) (B.2.2.2.1 _ ks_70) (B.2.2.2.1 _ k_11) ⟨by decide +kernel, by decide +kernel, by decide +kernel⟩ rfl d_Machine_work_78 rfl (Nat.le_of_ble_eq_true rfl) ⟨by decide, by decide⟩ ⟨by decide, by decide⟩ ⟨by decide, by decide⟩ (mv_noH hno _) (fun σ78 h78 => ?_)
    obtain ⟨rfl, s_g16⟩ := h78
    have r_g16 : mv_r g16 = mv_r h := s_g16.trans rfl
    refine mv_goto (pc := 81) (tgt := 301) B d_Machine_work_81 rfl ?_
    exact mv_vret (pc := 301) B hr d_Machine_work_301 (Nat.le_refl _) (Nat.le_refl _) ⟨rfl, xrh_v hf r_g16⟩
  have hf := xif_f h1n300 hf
  refine ⟨fun h1 => ?_, fun h1n301 => ?_⟩
  · skip
    have hf := xif_t h1 hf
    show mv_V _ _ _ _ _ _ _ _ _ _ _ _ _ _ _ _ 279 _ _
    refine mv_lpick [0, 1, 2] rfl ?_
    exact jn279 _ _ _ rfl hf
  have hf := xif_f h1n301 hf
  refine ⟨fun h1 => ?_, fun h1n302 => ?_⟩
  · skip
    have hf := xif_t h1 hf
    show mv_V _ _ _ _ _ _ _ _ _ _ _ _ _ _ _ _ 84 _ _
    refine mv_aload_n (pc := 84) B d_Machine_work_84 rfl 0 rfl ?_
    refine mv_aload_n (pc := 85) B d_Machine_work_85 rfl 0 rfl ?_
    refine mv_getR (pc := 86) (ci := 9) (C := R_Machine) (T := F_Machine) (N := 13) B 2 rfl rfl (by decide) i_Machine (B.2.2.2.1 _ k_444) rfl (hb.1 64 2 _ rfl) d_Machine_work_86 ?_
    refine mv_lload_n (pc := 89) B d_Machine_work_89 rfl 2 rfl ?_
    refine mv_l2i (pc := 90) B d_Machine_work_90 ?_
    obtain ⟨q17, hf⟩ := xvi_e hf
    refine mv_lald (pc := 91) B rfl q17 d_Machine_work_91 ?_
    obtain ⟨g18, eg18, hf⟩ := xhv_e hf
    refine mv_callVv (pc := 92) (n := 1) (ci := 9) (C := R_Machine) B (mK_ok sk sv) hNs rfl rfl (ch_Machine_push_a l hi _ (hb) _ eg18) rfl (ma_goodc kc_Machine_push) (B.2.2.2.1 _ k_1584) (B.2.2.2.1 _ k_1586) (B.2.2.2.1 _ ks_70) (B.2.2.2.1 _ k_11) ⟨by decide +kernel, by decide +kernel, by decide +kernel⟩ rfl d_Machine_work_92 rfl (Nat.le_of_ble_eq_true rfl) ⟨by decide, by decide⟩ ⟨by decide, by decide⟩ ⟨by decide, by decide⟩ (mv_noH hno _) (fun σ92 h92 => ?_)
    obtain ⟨rfl, s_g18⟩ := h92
    have r_g18 : mv_r g18 = mv_r h := s_g18.trans rfl
    refine mv_goto (pc := 95) (tgt := 301) B d_Machine_work_95 rfl ?_
    exact mv_vret (pc := 301) B hr d_Machine_work_301 (Nat.le_refl _) (Nat.le_refl _) ⟨rfl, xrh_v hf r_g18⟩
  have hf := xif_f h1n302 hf
  refine ⟨fun h1 => ?_, fun h1n303 => ?_⟩
  · skip
    have hf := xif_t h1 hf
    show mv_V _ _ _ _ _ _ _ _ _ _ _ _ _ _ _ _ 98 _ _
    refine mv_aload_n (pc := 98) B d_Machine_work_98 rfl 0 rfl ?_
    refine mv_aload_n (pc := 99) B d_Machine_work_99 rfl 0 rfl ?_
    refine mv_getR (pc := 100) (ci := 9) (C := R_Machine) (T := F_Machine) (N := 13) B 1 rfl rfl (by decide) i_Machine (B.2.2.2.1 _ k_442) rfl (hb.1 64 1 _ rfl) d_Machine_work_100 ?_
    refine mv_lload_n (pc := 103) B d_Machine_work_103 rfl 2 rfl ?_
    refine mv_l2i (pc := 104) B d_Machine_work_104 ?_
    obtain ⟨q19, hf⟩ := xvi_e hf
    refine mv_lald (pc := 105) B rfl q19 d_Machine_work_105 ?_
    obtain ⟨g20, eg20, hf⟩ := xhv_e hf
    refine mv_callVv (pc := 106) (n := 1) (ci := 9) (C := R_Machine) B (mK_ok sk sv) hNs rfl rfl (ch_Machine_push_a l hi _ (hb) _ eg20) rfl (ma_goodc kc_Machine_push) (B.2.2.2.1 _ k_1584) (B.2.2.2.1 _ k_1586) (B.2.2.2.1 _ ks_70) (B.2.2.2.1 _ k_11) ⟨by decide +kernel, by decide +kernel, by decide +kernel⟩ rfl d_Machine_work_106 rfl (Nat.le_of_ble_eq_true rfl) ⟨by decide, by decide⟩ ⟨by decide, by decide⟩ ⟨by decide, by decide⟩ (mv_noH hno _) (fun σ106 h106 => ?_)
    obtain ⟨rfl, s_g20⟩ := h106
    have r_g20 : mv_r g20 = mv_r h := s_g20.trans rfl
    refine mv_goto (pc := 109) (tgt := 301) B d_Machine_work_109 rfl ?_
    exact mv_vret (pc := 301) B hr d_Machine_work_301 (Nat.le_refl _) (Nat.le_refl _) ⟨rfl, xrh_v hf r_g20⟩
  have hf := xif_f h1n303 hf
  refine ⟨fun h1 => ?_, fun h1n304 => ?_⟩
  · skip
    have hf := xif_t h1 hf
    show mv_V _ _ _ _ _ _ _ _ _ _ _ _ _ _ _ _ 279 _ _
    refine mv_lpick [0, 1, 2] rfl ?_
    exact jn279 _ _ _ rfl hf
  have hf := xif_f h1n304 hf
  refine ⟨fun h1 => ?_, fun h1n305 => ?_⟩
  · skip
    have hf := xif_t h1 hf
    show mv_V _ _ _ _ _ _ _ _ _ _ _ _ _ _ _ _ 169 _ _
    refine mv_aload_n (pc := 169) B d_Machine_work_169 rfl 0 rfl ?_
    refine mv_aload_n (pc := 170) B d_Machine_work_170 rfl 0 rfl ?_
    obtain ⟨v22, g21, eg21, hf⟩ := xhb_e hf
    refine mv_callVl (pc := 171) (n := 0) (ci := 9) (C := R_Machine) B (mK_ok sk sv) hNs rfl rfl (ch_Machine_pop_a l hi _ (hb) eg21) rfl (ma_goodc kc_Machine_pop) (B.2.2.2.1 _ k_1592) (B.2.2.2.1 _ k_1594) (B.2.2.2.1 _ ks_72) (B.2.2.2.1 _ k_11) ⟨by decide +kernel, by decide +kernel, by decide +kernel⟩ rfl d_Machine_work_171 rfl (Nat.le_of_ble_eq_true rfl) ⟨by decide, by decide⟩ ⟨by decide, by decide⟩ ⟨by decide, by decide⟩ (mv_noH hno _) (fun w171 σ171 h171 => ?_)
    obtain ⟨rfl, rfl, s_g21⟩ := h171
    have r_g21 : mv_r g21 = mv_r h := s_g21.trans rfl
    refine mv_lneg (pc := 174) B d_Machine_work_174 ?_
    refine mv_lload_n (pc := 175) B d_Machine_work_175 rfl 2 rfl ?_
    refine mv_land (pc := 176) B d_Machine_work_176 ?_
    obtain ⟨g23, eg23, hf⟩ := xhv_e hf
    refine mv_callVv (pc := 177) (n := 1) (ci := 9) (C := R_Machine) B (mK_ok sk sv) hNs rfl rfl (ch_Machine_push_a l hi _ (xrw r_g21 hb) _ eg23) rfl (ma_goodc kc_Machine_push) (B.2.2.2.1 _ k_1584) (B.2.2.2.1 _ k_1586) (B.2.2.2.1 _ ks_70) (B.2.2.2.1 _ k_11) ⟨by decide +kernel, by decide +kernel, by decide +kernel⟩ rfl d_Machine_work_177 rfl (Nat.le_of_ble_eq_true rfl) ⟨by decide, by decide⟩ ⟨by decide, by decide⟩ ⟨by decide, by decide⟩ (mv_noH hno _) (fun σ177 h177 => ?_)
    obtain ⟨rfl, s_g23⟩ := h177
    have r_g23 : mv_r g23 = mv_r h := s_g23.trans r_g21
    refine mv_goto (pc := 180) (tgt := 301) B d_Machine_work_180 rfl ?_
    exact mv_vret (pc := 301) B hr d_Machine_work_301 (Nat.le_refl _) (Nat.le_refl _) ⟨rfl, xrh_v hf r_g23⟩
  have hf := xif_f h1n305 hf
  refine ⟨fun h1 => ?_, fun h1n306 => ?_⟩
  · skip
    have hf := xif_t h1 hf
    show mv_V _ _ _ _ _ _ _ _ _ _ _ _ _ _ _ _ 183 _ _
    refine mv_lpick [0, 2] rfl ?_
    exact jn183 _ _ rfl hf
  have hf := xif_f h1n306 hf
  refine ⟨fun h1 => ?_, fun h1n307 => ?_⟩
  · skip
    have hf := xif_t h1 hf
    show mv_V _ _ _ _ _ _ _ _ _ _ _ _ _ _ _ _ 183 _ _
    refine mv_lpick [0, 2] rfl ?_
    exact jn183 _ _ rfl hf
  have hf := xif_f h1n307 hf
  refine ⟨fun h1 => ?_, fun h1n308 => ?_⟩
  · skip
    have hf := xif_t h1 hf
    show mv_V _ _ _ _ _ _ _ _ _ _ _ _ _ _ _ _ 200 _ _
    refine mv_aload_n (pc := 200) B d_Machine_work_200 rfl 0 rfl ?_
    refine mv_aload_n (pc := 201) B d_Machine_work_201 rfl 0 rfl ?_
    obtain ⟨v25, g24, eg24, hf⟩ := xhb_e hf
    refine mv_callVl (pc := 202) (n := 0) (ci := 9) (C := R_Machine) B (mK_ok sk sv) hNs rfl rfl (ch_Machine_pop_a l hi _ (hb) eg24) rfl (ma_goodc kc_Machine_pop) (B.2.2.2.1 _ k_1592) (B.2.2.2.1 _ k_1594) (B.2.2.2.1 _ ks_72) (B.2.2.2.1 _ k_11) ⟨by decide +kernel, by decide +kernel, by decide +kernel⟩ rfl d_Machine_work_202 rfl (Nat.le_of_ble_eq_true rfl) ⟨by decide, by decide⟩ ⟨by decide, by decide⟩ ⟨by decide, by decide⟩ (mv_noH hno _) (fun w202 σ202 h202 => ?_)
    obtain ⟨rfl, rfl, s_g24⟩ := h202
    have r_g24 : mv_r g24 = mv_r h := s_g24.trans rfl
    refine mv_lload_n (pc := 205) B d_Machine_work_205 rfl 2 rfl ?_
    refine mv_ldc2 (pc := 206) (v := 255) B (B.2.2.2.1 _ k_1610) d_Machine_work_206 ?_
    refine mv_land (pc := 209) B d_Machine_work_209 ?_
    refine mv_l2i (pc := 210) B d_Machine_work_210 ?_
    refine mv_lushr (pc := 211) B d_Machine_work_211 ?_
    refine mv_lload_n (pc := 212) B d_Machine_work_212 rfl 2 rfl ?_
    refine mv_bipush (pc := 213) (v := 8) B d_Machine_work_213 (by decide) ?_
    refine mv_lshr (pc := 215) B d_Machine_work_215 ?_
    refine mv_l2i (pc := 216) B d_Machine_work_216 ?_
    obtain ⟨v27, g26, eg26, hf⟩ := xhb_e hf
    refine mv_callSl (pc := 217) (n := 1) B (mK_ok sk sv) hNs (ch_Bits_mask l hi _ _ eg26) rfl (ma_goodc kc_Bits_mask) (B.2.2.2.1 _ k_1604) (B.2.2.2.1 _ k_1437) (B.2.2.2.1 _ k_33) ⟨by decide +kernel, by decide +kernel, by decide +kernel⟩ rfl d_Machine_work_217 rfl (Nat.le_of_ble_eq_true rfl) ⟨by decide, by decide⟩ ⟨by decide, by decide⟩ ⟨by decide, by decide⟩ (mv_noH hno _) (fun w217 σ217 h217 => ?_)
    obtain ⟨rfl, rfl, s_g26⟩ := h217
    have r_g26 : mv_r g26 = mv_r h := s_g26.trans r_g24
    refine mv_land (pc := 220) B d_Machine_work_220 ?_
    obtain ⟨g28, eg28, hf⟩ := xhv_e hf
    refine mv_callVv (pc := 221) (n := 1) (ci := 9) (C := R_Machine) B (mK_ok sk sv) hNs rfl rfl (ch_Machine_push_a l hi _ (xrw r_g26 hb) _ eg28) rfl (ma_goodc kc_Machine_push) (B.2.2.2.1 _ k_1584) (B.2.2.2.1 _ k_1586) (B.2.2.2.1 _ ks_70) (B.2.2.2.1 _ k_11) ⟨by decide +kernel, by decide +kernel, by decide +kernel⟩ rfl d_Machine_work_221 rfl (Nat.le_of_ble_eq_true rfl) ⟨by decide, by decide⟩ ⟨by decide, by decide⟩ ⟨by decide, by decide⟩ (mv_noH hno _) (fun σ221 h221 => ?_)
    obtain ⟨rfl, s_g28⟩ := h221
    have r_g28 : mv_r g28 = mv_r h := s_g28.trans r_g26
    refine mv_goto (pc := 224) (tgt := 301) B d_Machine_work_224 rfl ?_
    exact mv_vret (pc := 301) B hr d_Machine_work_301 (Nat.le_refl _) (Nat.le_refl _) ⟨rfl, xrh_v hf r_g28⟩
  have hf := xif_f h1n308 hf
  refine ⟨fun h1 => ?_, fun h1n309 => ?_⟩
  · skip
    have hf := xif_t h1 hf
    show mv_V _ _ _ _ _ _ _ _ _ _ _ _ _ _ _ _ 256 _ _
    refine mv_aload_n (pc := 256) B d_Machine_work_256 rfl 0 rfl ?_
    obtain ⟨v30, g29, eg29, hf⟩ := xhb_e hf
    refine mv_callVl (pc := 257) (n := 0) (ci := 9) (C := R_Machine) B (mK_ok sk sv) hNs rfl rfl (ch_Machine_pop_a l hi _ (hb) eg29) rfl (ma_goodc kc_Machine_pop) (B.2.2.2.1 _ k_1592) (B.2.2.2.1 _ k_1594) (B.2.2.2.1 _ ks_72) (B.2.2.2.1 _ k_11) ⟨by decide +kernel, by decide +kernel, by decide +kernel⟩ rfl d_Machine_work_257 rfl (Nat.le_of_ble_eq_true rfl) ⟨by decide, by decide⟩ ⟨by decide, by decide⟩ ⟨by decide, by decide⟩ (mv_noH hno _) (fun w257 σ257 h257 => ?_)
    obtain ⟨rfl, rfl, s_g29⟩ := h257
    have r_g29 : mv_r g29 = mv_r h := s_g29.trans rfl
    refine mv_lstore (pc := 260) B d_Machine_work_260 (by decide) rfl ?_
    refine mv_aload_n (pc := 262) B d_Machine_work_262 rfl 1 rfl ?_
    refine mv_aload_n (pc := 263) B d_Machine_work_263 rfl 1 rfl ?_
    obtain ⟨v32, g31, eg31, hf⟩ := xhb_e hf
    refine mv_callVl (pc := 264) (n := 0) (ci := 9) (C := R_Machine) B (mK_ok sk sv) hNs rfl rfl (ch_Machine_pop_a l hi _ (xrw r_g29 hb) eg31) rfl (ma_goodc kc_Machine_pop) (B.2.2.2.1 _ k_1592) (B.2.2.2.1 _ k_1594) (B.2.2.2.1 _ ks_72) (B.2.2.2.1 _ k_11) ⟨by decide +kernel, by decide +kernel, by decide +kernel⟩ rfl d_Machine_work_264 rfl (Nat.le_of_ble_eq_true rfl) ⟨by decide, by decide⟩ ⟨by decide, by decide⟩ ⟨by decide, by decide⟩ (mv_noH hno _) (fun w264 σ264 h264 => ?_)
    obtain ⟨rfl, rfl, s_g31⟩ := h264
    have r_g31 : mv_r g31 = mv_r h := s_g31.trans r_g29
    refine mv_lload_n (pc := 267) B d_Machine_work_267 rfl 3 rfl ?_
    refine mv_l2i (pc := 268) B d_Machine_work_268 ?_
    refine mv_lshl (pc := 269) B d_Machine_work_269 ?_
    refine mv_lload (pc := 270) B d_Machine_work_270 0 rfl ?_
    refine mv_lor (pc := 272) B d_Machine_work_272 ?_
    obtain ⟨g33, eg33, hf⟩ := xhv_e hf
    refine mv_callVv (pc := 273) (n := 1) (ci := 9) (C := R_Machine) B (mK_ok sk sv) hNs rfl rfl (ch_Machine_push_a l hi _ (xrw r_g31 hb) _ eg33) rfl (ma_goodc kc_Machine_push) (B.2.2.2.1 _ k_1584) (B.2.2.2.1 _ k_1586) (B.2.2.2.1 _ ks_70) (B.2.2.2.1 _ k_11) ⟨by decide +kernel, by decide +kernel, by decide +kernel⟩ rfl d_Machine_work_273 rfl (Nat.le_of_ble_eq_true rfl) ⟨by decide, by decide⟩ ⟨by decide, by decide⟩ ⟨by decide, by decide⟩ (mv_noH hno _) (fun σ273 h273 => ?_)
    obtain ⟨rfl, s_g33⟩ := h273
    have r_g33 : mv_r g33 = mv_r h := s_g33.trans r_g31
    refine mv_goto (pc := 276) (tgt := 301) B d_Machine_work_276 rfl ?_
    exact mv_vret (pc := 301) B hr d_Machine_work_301 (Nat.le_refl _) (Nat.le_refl _) ⟨rfl, xrh_v hf r_g33⟩
  have hf := xif_f h1n309 hf
  refine ⟨fun h1 => ?_, fun h1n310 => ?_⟩
  · skip
    have hf := xif_t h1 hf
    show mv_V _ _ _ _ _ _ _ _ _ _ _ _ _ _ _ _ 227 _ _
    refine mv_aload_n (pc := 227) B d_Machine_work_227 rfl 0 rfl ?_
    refine mv_aload_n (pc := 228) B d_Machine_work_228 rfl 0 rfl ?_
    obtain ⟨v35, g34, eg34, hf⟩ := xhb_e hf
    refine mv_callVl (pc := 229) (n := 0) (ci := 9) (C := R_Machine) B (mK_ok sk sv) hNs rfl rfl (ch_Machine_pop_a l hi _ (hb) eg34) rfl (ma_goodc kc_Machine_pop) (B.2.2.2.1 _ k_1592) (B.2.2.2.1 _ k_1594) (B.2.2.2.1 _ ks_72) (B.2.2.2.1 _ k_11) ⟨by decide +kernel, by decide +kernel, by decide +kernel⟩ rfl d_Machine_work_229 rfl (Nat.le_of_ble_eq_true rfl) ⟨by decide, by decide⟩ ⟨by decide, by decide⟩ ⟨by decide, by decide⟩ (mv_noH hno _) (fun w229 σ229 h229 => ?_)
    obtain ⟨rfl, rfl, s_g34⟩ := h229
    have r_g34 : mv_r g34 = mv_r h := s_g34.trans rfl
    refine mv_lload_n (pc := 232) B d_Machine_work_232 rfl 2 rfl ?_
    refine mv_ldc2 (pc := 233) (v := 255) B (B.2.2.2.1 _ k_1610) d_Machine_work_233 ?_
    refine mv_land (pc := 236) B d_Machine_work_236 ?_
    refine mv_l2i (pc := 237) B d_Machine_work_237 ?_
    obtain ⟨v37, g36, eg36, hf⟩ := xhb_e hf
    refine mv_callSl (pc := 238) (n := 2) B (mK_ok sk sv) hNs (ch_Bits_signed l hi _ _ _ eg36) rfl (ma_goodc kc_Bits_signed) (B.2.2.2.1 _ k_1611) (B.2.2.2.1 _ k_1612) (B.2.2.2.1 _ k_33) ⟨by decide +kernel, by decide +kernel, by decide +kernel⟩ rfl d_Machine_work_238 rfl (Nat.le_of_ble_eq_true rfl) ⟨by decide, by decide⟩ ⟨by decide, by decide⟩ ⟨by decide, by decide⟩ (mv_noH hno _) (fun w238 σ238 h238 => ?_)
    obtain ⟨rfl, rfl, s_g36⟩ := h238
    have r_g36 : mv_r g36 = mv_r h := s_g36.trans r_g34
    refine mv_lload_n (pc := 241) B d_Machine_work_241 rfl 2 rfl ?_
    refine mv_bipush (pc := 242) (v := 8) B d_Machine_work_242 (by decide) ?_
    refine mv_lshr (pc := 244) B d_Machine_work_244 ?_
    refine mv_l2i (pc := 245) B d_Machine_work_245 ?_
    obtain ⟨v39, g38, eg38, hf⟩ := xhb_e hf
    refine mv_callSl (pc := 246) (n := 1) B (mK_ok sk sv) hNs (ch_Bits_mask l hi _ _ eg38) rfl (ma_goodc kc_Bits_mask) (B.2.2.2.1 _ k_1604) (B.2.2.2.1 _ k_1437) (B.2.2.2.1 _ k_33) ⟨by decide +kernel, by decide +kernel, by decide +kernel⟩ rfl d_Machine_work_246 rfl (Nat.le_of_ble_eq_true rfl) ⟨by decide, by decide⟩ ⟨by decide, by decide⟩ ⟨by decide, by decide⟩ (mv_noH hno _) (fun w246 σ246 h246 => ?_)
    obtain ⟨rfl, rfl, s_g38⟩ := h246
    have r_g38 : mv_r g38 = mv_r h := s_g38.trans r_g36
    refine mv_land (pc := 249) B d_Machine_work_249 ?_
    obtain ⟨g40, eg40, hf⟩ := xhv_e hf
    refine mv_callVv (pc := 250) (n := 1) (ci := 9) (C := R_Machine) B (mK_ok sk sv) hNs rfl rfl (ch_Machine_push_a l hi _ (xrw r_g38 hb) _ eg40) rfl (ma_goodc kc_Machine_push) (B.2.2.2.1 _ k_1584) (B.2.2.2.1 _ k_1586) (B.2.2.2.1 _ ks_70) (B.2.2.2.1 _ k_11) ⟨by decide +kernel, by decide +kernel, by decide +kernel⟩ rfl d_Machine_work_250 rfl (Nat.le_of_ble_eq_true rfl) ⟨by decide, by decide⟩ ⟨by decide, by decide⟩ ⟨by decide, by decide⟩ (mv_noH hno _) (fun σ250 h250 => ?_)
    obtain ⟨rfl, s_g40⟩ := h250
    have r_g40 : mv_r g40 = mv_r h := s_g40.trans r_g38
    refine mv_goto (pc := 253) (tgt := 301) B d_Machine_work_253 rfl ?_
    exact mv_vret (pc := 301) B hr d_Machine_work_301 (Nat.le_refl _) (Nat.le_refl _) ⟨rfl, xrh_v hf r_g40⟩
  have hf := xif_f h1n310 hf
  refine ⟨fun h1 => ?_, fun h1n311 => ?_⟩
  · skip
    have hf := xif_t h1 hf
    show mv_V _ _ _ _ _ _ _ _ _ _ _ _ _ _ _ _ 279 _ _
    refine mv_lpick [0, 1, 2] rfl ?_
    exact jn279 _ _ _ rfl hf
  have hf := xif_f h1n311 hf
  refine ⟨fun h1 => ?_, fun h1n312 => ?_⟩
  · skip
    have hf := xif_t h1 hf
    show mv_V _ _ _ _ _ _ _ _ _ _ _ _ _ _ _ _ 279 _ _
    refine mv_lpick [0, 1, 2] rfl ?_
    exact jn279 _ _ _ rfl hf
  have hf := xif_f h1n312 hf
  refine ⟨fun h1 => ?_, fun h1n313 => ?_⟩
  · skip
    have hf := xif_t h1 hf
    show mv_V _ _ _ _ _ _ _ _ _ _ _ _ _ _ _ _ 112 _ _
    refine mv_aload_n (pc := 112) B d_Machine_work_112 rfl 0 rfl ?_
    refine mv_getR (pc := 113) (ci := 9) (C := R_Machine) (T := F_Machine) (N := 13) B 2 rfl rfl (by decide) i_Machine (B.2.2.2.1 _ k_444) rfl (hb.1 64 2 _ rfl) d_Machine_work_113 ?_
    refine mv_lload_n (pc := 116) B d_Machine_work_116 rfl 2 rfl ?_
    refine mv_l2i (pc := 117) B d_Machine_work_117 ?_
    refine mv_aload_n (pc := 118) B d_Machine_work_118 rfl 0 rfl ?_
    obtain ⟨v42, g41, eg41, hf⟩ := xhb_e hf
    refine mv_callVl (pc := 119) (n := 0) (ci := 9) (C := R_Machine) B (mK_ok sk sv) hNs rfl rfl (ch_Machine_pop_a l hi _ (hb) eg41) rfl (ma_goodc kc_Machine_pop) (B.2.2.2.1 _ k_1592) (B.2.2.2.1 _ k_1594) (B.2.2.2.1 _ ks_72) (B.2.2.2.1 _ k_11) ⟨by decide +kernel, by decide +kernel, by decide +kernel⟩ rfl d_Machine_work_119 rfl (Nat.le_of_ble_eq_true rfl) ⟨by decide, by decide⟩ ⟨by decide, by decide⟩ ⟨by decide, by decide⟩ (mv_noH hno _) (fun w119 σ119 h119 => ?_)
    obtain ⟨rfl, rfl, s_g41⟩ := h119
    have r_g41 : mv_r g41 = mv_r h := s_g41.trans rfl
    obtain ⟨q43, hf⟩ := xvi_e hf
    refine mv_last (pc := 122) B rfl q43 d_Machine_work_122 ?_
    refine mvh_hp (R9 := mv_r h) hf r_g41 (fun g44 hf r_g44 => ?_)
    refine mv_goto (pc := 123) (tgt := 301) B d_Machine_work_123 rfl ?_
    exact mv_vret (pc := 301) B hr d_Machine_work_301 (Nat.le_refl _) (Nat.le_refl _) ⟨rfl, xrh_v hf r_g44⟩
  have hf := xif_f h1n313 hf
  refine ⟨fun h1 => ?_, fun h1n314 => ?_⟩
  · skip
    have hf := xif_t h1 hf
    show mv_V _ _ _ _ _ _ _ _ _ _ _ _ _ _ _ _ 126 _ _
    refine mv_aload_n (pc := 126) B d_Machine_work_126 rfl 0 rfl ?_
    refine mv_aload_n (pc := 127) B d_Machine_work_127 rfl 0 rfl ?_
    refine mv_getI (pc := 128) (ci := 9) (C := R_Machine) (T := F_Machine) (N := 13) B 8 rfl rfl (by decide) i_Machine (B.2.2.2.1 _ k_450) rfl d_Machine_work_128 ?_
    refine mv_if_ne (pc := 131) (tgt := 147) B d_Machine_work_131 rfl (fun h131 => ?_) (fun h131 => ?_)
    · skip
      have hf := xif_f h131 hf
      refine mv_lpick [0, 2] rfl ?_
      exact jn147 _ _ rfl hf
    · skip
      have hf := xif_t h131 hf
      refine mv_lload_n (pc := 134) B d_Machine_work_134 rfl 2 rfl ?_
      refine mv_aload_n (pc := 135) B d_Machine_work_135 rfl 0 rfl ?_
      refine mv_getR (pc := 136) (ci := 9) (C := R_Machine) (T := F_Machine) (N := 13) B 0 rfl rfl (by decide) i_Machine (B.2.2.2.1 _ k_440) rfl hb.2.2 d_Machine_work_136 ?_
      refine mv_getI (pc := 139) (ci := 7) (C := R_Program) (T := F_Program) (N := 19) B 8 rfl rfl (by decide) i_Program (B.2.2.2.1 _ k_338) rfl d_Machine_work_139 ?_
      refine mv_i2l (pc := 142) B d_Machine_work_142 ?_
      refine mv_lcmp (pc := 143) B d_Machine_work_143 ?_
      refine mv_if_ne (pc := 144) (tgt := 151) B d_Machine_work_144 rfl (fun h144 => ?_) (fun h144 => ?_)
      · skip
        have hf := xif_f h144 hf
        refine mv_iconst (pc := 151) (v := 0) B d_Machine_work_151 (by decide) ?_
        refine mv_lpick [0, 2] rfl ?_
        exact jn152 _ _ _ rfl hf
      · skip
        have hf := xif_t h144 hf
        refine mv_lpick [0, 2] rfl ?_
        exact jn147 _ _ rfl hf
  have hf := xif_f h1n314 hf
  show mv_V _ _ _ _ _ _ _ _ _ _ _ _ _ _ _ _ 279 _ _
  refine mv_lpick [0, 1, 2] rfl ?_
  exact jn279 _ _ _ rfl hf
set_option maxHeartbeats 4000000 in
set_option maxRecDepth 100000 in
theorem ch_Machine_work_b (l : Launch) {dA : FieldType → ClassId} {D : va_G} {al : Nat → Nat} {ext : mv_Sh} {sk sv : Nat → Nat} (hi : mv_inj (mg dA D al ext)) (h : mv_H) (hb : Rf 48 (mv_r h))  (a0 : Int32) (a1 : Int64) {rg : mv_H} (hf : f_Machine_work 48 h a0 a1 = some rg) : mv_C l y_Machine_work (Cond.code y_Machine_work b_Machine_work 8 (Option.none : Option Jvm.ClassFile.FieldType) :: ma) ({ frames := 3, cells := 0, slots := 0, locals := 74 }) (mg dA D al ext) (mK sk sv) [.ref (al 64), .int a0, .long a1] h (mv_Rv (fun σ1 => rg = σ1 ∧ mv_r σ1 = mv_r h)) := by
  refine mv_C.ofV (cc := b_Machine_work) (nL := 8) (ret := (Option.none : Option Jvm.ClassFile.FieldType)) (by decide +kernel) rfl hi (Nat.le_of_ble_eq_true rfl) ?_
  intro p e s m below meth c B hNs hr hnm hno
  have jn279 : ∀ (x1 : Int32) (x2 : Int64) (hz : mv_H), mv_r hz = mv_r h → f_Machine_work_279 48 x1 x2 hz = some rg → mv_V p l e ({ frames := 3, cells := 0, slots := 0, locals := 74 }) s m ([.ref (al 64), .int a0, .long a1] : List Value).toArray below meth c (mg dA D al ext) 8 0 0 (mv_Q (mg dA D al ext) below s 0 0 (mv_Rv (fun σ1 => rg = σ1 ∧ mv_r σ1 = mv_r h))) hz 279 [(0, .ref (al 64)), (1, .int x1), (2, .long x2)] [] := by
    intro x1 x2 hz r_hz hf
    unfold f_Machine_work_279 at hf
    refine mv_aload_n (pc := 279) B d_Machine_work_279 rfl 0 rfl ?_
    obtain ⟨v2, g1, eg1, hf⟩ := xhb_e hf
    refine mv_callVl (pc := 280) (n := 0) (ci := 9) (C := R_Machine) B (mK_ok sk sv) hNs rfl rfl (ch_Machine_pop_b l hi _ (xrw r_hz hb) eg1) rfl (ma_goodc kc_Machine_pop) (B.2.2.2.1 _ k_1592) (B.2.2.2.1 _ k_1594) (B.2.2.2.1 _ ks_72) (B.2.2.2.1 _ k_11) ⟨by decide +kernel, by decide +kernel, by decide +kernel⟩ rfl d_Machine_work_280 rfl (Nat.le_of_ble_eq_true rfl) ⟨by decide, by decide⟩ ⟨by decide, by decide⟩ ⟨by decide, by decide⟩ (mv_noH hno _) (fun w280 σ280 h280 => ?_)
    obtain ⟨rfl, rfl, s_g1⟩ := h280
    have r_g1 : mv_r g1 = mv_r h := s_g1.trans r_hz
    refine mv_lstore (pc := 283) B d_Machine_work_283 (by decide) rfl ?_
    refine mv_aload_n (pc := 285) B d_Machine_work_285 rfl 1 rfl ?_
    refine mv_iload_n (pc := 286) B d_Machine_work_286 rfl 2 rfl ?_
    refine mv_aload_n (pc := 287) B d_Machine_work_287 rfl 1 rfl ?_
    obtain ⟨v4, g3, eg3, hf⟩ := xhb_e hf
    refine mv_callVl (pc := 288) (n := 0) (ci := 9) (C := R_Machine) B (mK_ok sk sv) hNs rfl rfl (ch_Machine_pop_b l hi _ (xrw r_g1 hb) eg3) rfl (ma_goodc kc_Machine_pop) (B.2.2.2.1 _ k_1592) (B.2.2.2.1 _ k_1594) (B.2.2.2.1 _ ks_72) (B.2.2.2.1 _ k_11) ⟨by decide +kernel, by decide +kernel, by decide +kernel⟩ rfl d_Machine_work_288 rfl (Nat.le_of_ble_eq_true rfl) ⟨by decide, by decide⟩ ⟨by decide, by decide⟩ ⟨by decide, by decide⟩ (mv_noH hno _) (fun w288 σ288 h288 => ?_)
    obtain ⟨rfl, rfl, s_g3⟩ := h288
    have r_g3 : mv_r g3 = mv_r h := s_g3.trans r_g1
    refine mv_lload (pc := 291) B d_Machine_work_291 0 rfl ?_
    refine mv_lload_n (pc := 293) B d_Machine_work_293 rfl 3 rfl ?_
    refine mv_l2i (pc := 294) B d_Machine_work_294 ?_
    obtain ⟨v6, g5, eg5, hf⟩ := xhb_e hf
    refine mv_callSl (pc := 295) (n := 4) B (mK_ok sk sv) hNs (ch_Bits_ofTwo l hi _ _ _ _ _ eg5) rfl (ma_goodc kc_Bits_ofTwo) (B.2.2.2.1 _ k_1614) (B.2.2.2.1 _ k_1615) (B.2.2.2.1 _ k_33) ⟨by decide +kernel, by decide +kernel, by decide +kernel⟩ rfl d_Machine_work_295 rfl (Nat.le_of_ble_eq_true rfl) ⟨by decide, by decide⟩ ⟨by decide, by decide⟩ ⟨by decide, by decide⟩ (mv_noH hno _) (fun w295 σ295 h295 => ?_)
    obtain ⟨rfl, rfl, s_g5⟩ := h295
    have r_g5 : mv_r g5 = mv_r h := s_g5.trans r_g3
    obtain ⟨g7, eg7, hf⟩ := xhv_e hf
    refine mv_callVv (pc := 298) (n := 1) (ci := 9) (C := R_Machine) B (mK_ok sk sv) hNs rfl rfl (ch_Machine_push_b l hi _ (xrw r_g5 hb) _ eg7) rfl (ma_goodc kc_Machine_push) (B.2.2.2.1 _ k_1584) (B.2.2.2.1 _ k_1586) (B.2.2.2.1 _ ks_70) (B.2.2.2.1 _ k_11) ⟨by decide +kernel, by decide +kernel, by decide +kernel⟩ rfl d_Machine_work_298 rfl (Nat.le_of_ble_eq_true rfl) ⟨by decide, by decide⟩ ⟨by decide, by decide⟩ ⟨by decide, by decide⟩ (mv_noH hno _) (fun σ298 h298 => ?_)
    obtain ⟨rfl, s_g7⟩ := h298
    have r_g7 : mv_r g7 = mv_r h := s_g7.trans r_g5
    exact mv_vret (pc := 301) B hr d_Machine_work_301 (Nat.le_refl _) (Nat.le_refl _) ⟨rfl, xrh_v hf r_g7⟩
  have jn183 : ∀ (x2 : Int64) (hz : mv_H), mv_r hz = mv_r h → f_Machine_work_183 48 x2 hz = some rg → mv_V p l e ({ frames := 3, cells := 0, slots := 0, locals := 74 }) s m ([.ref (al 64), .int a0, .long a1] : List Value).toArray below meth c (mg dA D al ext) 8 0 0 (mv_Q (mg dA D al ext) below s 0 0 (mv_Rv (fun σ1 => rg = σ1 ∧ mv_r σ1 = mv_r h))) hz 183 [(0, .ref (al 64)), (2, .long x2)] [] := by
    intro x2 hz r_hz hf
    unfold f_Machine_work_183 at hf
    refine mv_aload_n (pc := 183) B d_Machine_work_183 rfl 0 rfl ?_
    refine mv_aload_n (pc := 184) B d_Machine_work_184 rfl 0 rfl ?_
    obtain ⟨v9, g8, eg8, hf⟩ := xhb_e hf
    refine mv_callVl (pc := 185) (n := 0) (ci := 9) (C := R_Machine) B (mK_ok sk sv) hNs rfl rfl (ch_Machine_pop_b l hi _ (xrw r_hz hb) eg8) rfl (ma_goodc kc_Machine_pop) (B.2.2.2.1 _ k_1592) (B.2.2.2.1 _ k_1594) (B.2.2.2.1 _ ks_72) (B.2.2.2.1 _ k_11) ⟨by decide +kernel, by decide +kernel, by decide +kernel⟩ rfl d_Machine_work_185 rfl (Nat.le_of_ble_eq_true rfl) ⟨by decide, by decide⟩ ⟨by decide, by decide⟩ ⟨by decide, by decide⟩ (mv_noH hno _) (fun w185 σ185 h185 => ?_)
    obtain ⟨rfl, rfl, s_g8⟩ := h185
    have r_g8 : mv_r g8 = mv_r h := s_g8.trans r_hz
    refine mv_ldc2 (pc := 188) (v := -1) B (B.2.2.2.1 _ k_1609) d_Machine_work_188 ?_
    refine mv_lxor (pc := 191) B d_Machine_work_191 ?_
    refine mv_lload_n (pc := 192) B d_Machine_work_192 rfl 1 rfl ?_
    refine mv_land (pc := 193) B d_Machine_work_193 ?_
    obtain ⟨g10, eg10, hf⟩ := xhv_e hf
    refine mv_callVv (pc := 194) (n := 1) (ci := 9) (C := R_Machine) B (mK_ok sk sv) hNs rfl rfl (ch_Machine_push_b l hi _ (xrw r_g8 hb) _ eg10) rfl (ma_goodc kc_Machine_push) (B.2.2.2.1 _ k_1584) (B.2.2.2.1 _ k_1586) (B.2.2.2.1 _ ks_70) (B.2.2.2.1 _ k_11) ⟨by decide +kernel, by decide +kernel, by decide +kernel⟩ rfl d_Machine_work_194 rfl (Nat.le_of_ble_eq_true rfl) ⟨by decide, by decide⟩ ⟨by decide, by decide⟩ ⟨by decide, by decide⟩ (mv_noH hno _) (fun σ194 h194 => ?_)
    obtain ⟨rfl, s_g10⟩ := h194
    have r_g10 : mv_r g10 = mv_r h := s_g10.trans r_g8
    refine mv_goto (pc := 197) (tgt := 301) B d_Machine_work_197 rfl ?_
    exact mv_vret (pc := 301) B hr d_Machine_work_301 (Nat.le_refl _) (Nat.le_refl _) ⟨rfl, xrh_v hf r_g10⟩
  have jn152 : ∀ (x2 : Int64) (y0 : Int32) (hz : mv_H), mv_r hz = mv_r h → f_Machine_work_152 48 x2 y0 hz = some rg → mv_V p l e ({ frames := 3, cells := 0, slots := 0, locals := 74 }) s m ([.ref (al 64), .int a0, .long a1] : List Value).toArray below meth c (mg dA D al ext) 8 0 0 (mv_Q (mg dA D al ext) below s 0 0 (mv_Rv (fun σ1 => rg = σ1 ∧ mv_r σ1 = mv_r h))) hz 152 [(0, .ref (al 64)), (2, .long x2)] [.int y0, .ref (al 64)] := by
    intro x2 y0 hz r_hz hf
    unfold f_Machine_work_152 at hf
    obtain ⟨q11, hf⟩ := xzb_e hf
    refine mv_putI (pc := 152) (ci := 9) (C := R_Machine) (T := F_Machine) (N := 13) B 8 rfl rfl (by decide) i_Machine t_Machine_ok n_Machine (B.2.2.2.1 _ k_450) rfl rfl (xzb_n q11) (xzb_f q11) d_Machine_work_152 ?_
    refine mvh_hp (R9 := mv_r h) hf r_hz (fun g12 hf r_g12 => ?_)
    refine mv_aload_n (pc := 155) B d_Machine_work_155 rfl 0 rfl ?_
    refine mv_lload_n (pc := 156) B d_Machine_work_156 rfl 1 rfl ?_
    refine mv_l2i (pc := 157) B d_Machine_work_157 ?_
    refine mv_iconst (pc := 158) (v := 0) B d_Machine_work_158 (by decide) ?_
    refine mv_aload_n (pc := 159) B d_Machine_work_159 rfl 0 rfl ?_
    obtain ⟨v14, g13, eg13, hf⟩ := xhb_e hf
    refine mv_callVl (pc := 160) (n := 0) (ci := 9) (C := R_Machine) B (mK_ok sk sv) hNs rfl rfl (ch_Machine_pop_b l hi _ (xrw r_g12 hb) eg13) rfl (ma_goodc kc_Machine_pop) (B.2.2.2.1 _ k_1592) (B.2.2.2.1 _ k_1594) (B.2.2.2.1 _ ks_72) (B.2.2.2.1 _ k_11) ⟨by decide +kernel, by decide +kernel, by decide +kernel⟩ rfl d_Machine_work_160 rfl (Nat.le_of_ble_eq_true rfl) ⟨by decide, by decide⟩ ⟨by decide, by decide⟩ ⟨by decide, by decide⟩ (mv_noH hno _) (fun w160 σ160 h160 => ?_)
    obtain ⟨rfl, rfl, s_g13⟩ := h160
    have r_g13 : mv_r g13 = mv_r h := s_g13.trans r_g12
    obtain ⟨g15, eg15, hf⟩ := xhv_e hf
    refine mv_callVv (pc := 163) (n := 3) (ci := 9) (C := R_Machine) B (mK_ok sk sv) hNs rfl rfl (ch_Machine_assign_b l hi _ (xrw r_g13 hb) _ _ _ eg15) rfl (ma_goodc kc_Machine_assign) (B.2.2.2.1 _ k_1596) (B.2.2.2.1 _ k_1598) (B.2.2.2.1 _ ks_73) (B.2.2.2.1 _ k_11) ⟨by decide +kernel, by decide +kernel, by decide +kernel⟩ rfl d_Machine_work_163 rfl (Nat.le_of_ble_eq_true rfl) ⟨by decide, by decide⟩ ⟨by decide, by decide⟩ ⟨by decide, by decide⟩ (mv_noH hno _) (fun σ163 h163 => ?_)
    obtain ⟨rfl, s_g15⟩ := h163
    have r_g15 : mv_r g15 = mv_r h := s_g15.trans r_g13
    refine mv_goto (pc := 166) (tgt := 301) B d_Machine_work_166 rfl ?_
    exact mv_vret (pc := 301) B hr d_Machine_work_301 (Nat.le_refl _) (Nat.le_refl _) ⟨rfl, xrh_v hf r_g15⟩
  have jn147 : ∀ (x2 : Int64) (hz : mv_H), mv_r hz = mv_r h → f_Machine_work_147 48 x2 hz = some rg → mv_V p l e ({ frames := 3, cells := 0, slots := 0, locals := 74 }) s m ([.ref (al 64), .int a0, .long a1] : List Value).toArray below meth c (mg dA D al ext) 8 0 0 (mv_Q (mg dA D al ext) below s 0 0 (mv_Rv (fun σ1 => rg = σ1 ∧ mv_r σ1 = mv_r h))) hz 147 [(0, .ref (al 64)), (2, .long x2)] [.ref (al 64)] := by
    intro x2 hz r_hz hf
    unfold f_Machine_work_147 at hf
    refine mv_iconst (pc := 147) (v := 1) B d_Machine_work_147 (by decide) ?_
    refine mv_goto (pc := 148) (tgt := 152) B d_Machine_work_148 rfl ?_
    refine mv_lpick [0, 1] rfl ?_
    exact jn152 _ _ _ r_hz hf
  unfold f_Machine_work at hf
  refine mv_iload_n (pc := 0) B d_Machine_work_0 rfl 1 rfl ?_
  refine mv_tsw (pc := 1) B d_Machine_work_1 (by decide) (by decide) ?_
  refine ⟨fun h1 => ?_, fun h1n300 => ?_⟩
  · skip
    have hf := xif_t h1 hf
    show mv_V _ _ _ _ _ _ _ _ _ _ _ _ _ _ _ _ 76 _ _
    refine mv_aload_n (pc := 76) B d_Machine_work_76 rfl 0 rfl ?_
    refine mv_lload_n (pc := 77) B d_Machine_work_77 rfl 2 rfl ?_
    obtain ⟨g16, eg16, hf⟩ := xhv_e hf
    refine mv_callVv (pc := 78) (n := 1) (ci := 9) (C := R_Machine) B (mK_ok sk sv) hNs rfl rfl (ch_Machine_push_b l hi _ (hb) _ eg16) rfl (ma_goodc kc_Machine_push) (B.2.2.2.1 _ k_1584) (B.2.2.2.1 _ k_1586) (B.2.2.2.1 _ ks_70) (B.2.2.2.1 _ k_11) ⟨by decide +kernel, by decide +kernel, by decide +kernel⟩ rfl d_Machine_work_78 rfl (Nat.le_of_ble_eq_true rfl) ⟨by decide, by decide⟩ ⟨by decide, by decide⟩ ⟨by decide, by decide⟩ (mv_noH hno _) (fun σ78 h78 => ?_)
    obtain ⟨rfl, s_g16⟩ := h78
    have r_g16 : mv_r g16 = mv_r h := s_g16.trans rfl
    refine mv_goto (pc := 81) (tgt := 301) B d_Machine_work_81 rfl ?_
    exact mv_vret (pc := 301) B hr d_Machine_work_301 (Nat.le_refl _) (Nat.le_refl _) ⟨rfl, xrh_v hf r_g16⟩
  have hf := xif_f h1n300 hf
  refine ⟨fun h1 => ?_, fun h1n301 => ?_⟩
  · skip
    have hf := xif_t h1 hf
    show mv_V _ _ _ _ _ _ _ _ _ _ _ _ _ _ _ _ 279 _ _
    refine mv_lpick [0, 1, 2] rfl ?_
    exact jn279 _ _ _ rfl hf
  have hf := xif_f h1n301 hf
  refine ⟨fun h1 => ?_, fun h1n302 => ?_⟩
  · skip
    have hf := xif_t h1 hf
    show mv_V _ _ _ _ _ _ _ _ _ _ _ _ _ _ _ _ 84 _ _
    refine mv_aload_n (pc := 84) B d_Machine_work_84 rfl 0 rfl ?_
    refine mv_aload_n (pc := 85) B d_Machine_work_85 rfl 0 rfl ?_
    refine mv_getR (pc := 86) (ci := 9) (C := R_Machine) (T := F_Machine) (N := 13) B 2 rfl rfl (by decide) i_Machine (B.2.2.2.1 _ k_444) rfl (hb.1 64 2 _ rfl) d_Machine_work_86 ?_
    refine mv_lload_n (pc := 89) B d_Machine_work_89 rfl 2 rfl ?_
    refine mv_l2i (pc := 90) B d_Machine_work_90 ?_
    obtain ⟨q17, hf⟩ := xvi_e hf
    refine mv_lald (pc := 91) B rfl q17 d_Machine_work_91 ?_
    obtain ⟨g18, eg18, hf⟩ := xhv_e hf
    refine mv_callVv (pc := 92) (n := 1) (ci := 9) (C := R_Machine) B (mK_ok sk sv) hNs rfl rfl (ch_Machine_push_b l hi _ (hb) _ eg18) rfl (ma_goodc kc_Machine_push) (B.2.2.2.1 _ k_1584) (B.2.2.2.1 _ k_1586) (B.2.2.2.1 _ ks_70) (B.2.2.2.1 _ k_11) ⟨by decide +kernel, by decide +kernel, by decide +kernel⟩ rfl d_Machine_work_92 rfl (Nat.le_of_ble_eq_true rfl) ⟨by decide, by decide⟩ ⟨by decide, by decide⟩ ⟨by decide, by decide⟩ (mv_noH hno _) (fun σ92 h92 => ?_)
    obtain ⟨rfl, s_g18⟩ := h92
    have r_g18 : mv_r g18 = mv_r h := s_g18.trans rfl
    refine mv_goto (pc := 95) (tgt := 301) B d_Machine_work_95 rfl ?_
    exact mv_vret (pc := 301) B hr d_Machine_work_301 (Nat.le_refl _) (Nat.le_refl _) ⟨rfl, xrh_v hf r_g18⟩
  have hf := xif_f h1n302 hf
  refine ⟨fun h1 => ?_, fun h1n303 => ?_⟩
  · skip
    have hf := xif_t h1 hf
    show mv_V _ _ _ _ _ _ _ _ _ _ _ _ _ _ _ _ 98 _ _
    refine mv_aload_n (pc := 98) B d_Machine_work_98 rfl 0 rfl ?_
    refine mv_aload_n (pc := 99) B d_Machine_work_99 rfl 0 rfl ?_
    refine mv_getR (pc := 100) (ci := 9) (C := R_Machine) (T := F_Machine) (N := 13) B 1 rfl rfl (by decide) i_Machine (B.2.2.2.1 _ k_442) rfl (hb.1 64 1 _ rfl) d_Machine_work_100 ?_
    refine mv_lload_n (pc := 103) B d_Machine_work_103 rfl 2 rfl ?_
    refine mv_l2i (pc := 104) B d_Machine_work_104 ?_
    obtain ⟨q19, hf⟩ := xvi_e hf
    refine mv_lald (pc := 105) B rfl q19 d_Machine_work_105 ?_
    obtain ⟨g20, eg20, hf⟩ := xhv_e hf
    refine mv_callVv (pc := 106) (n := 1) (ci := 9) (C := R_Machine) B (mK_ok sk sv) hNs rfl rfl (ch_Machine_push_b l hi _ (hb) _ eg20) rfl (ma_goodc kc_Machine_push) (B.2.2.2.1 _ k_1584) (B.2.2.2.1 _ k_1586) (B.2.2.2.1 _ ks_70) (B.2.2.2.1 _ k_11) ⟨by decide +kernel, by decide +kernel, by decide +kernel⟩ rfl d_Machine_work_106 rfl (Nat.le_of_ble_eq_true rfl) ⟨by decide, by decide⟩ ⟨by decide, by decide⟩ ⟨by decide, by decide⟩ (mv_noH hno _) (fun σ106 h106 => ?_)
    obtain ⟨rfl, s_g20⟩ := h106
    have r_g20 : mv_r g20 = mv_r h := s_g20.trans rfl
    refine mv_goto (pc := 109) (tgt := 301) B d_Machine_work_109 rfl ?_
    exact mv_vret (pc := 301) B hr d_Machine_work_301 (Nat.le_refl _) (Nat.le_refl _) ⟨rfl, xrh_v hf r_g20⟩
  have hf := xif_f h1n303 hf
  refine ⟨fun h1 => ?_, fun h1n304 => ?_⟩
  · skip
    have hf := xif_t h1 hf
    show mv_V _ _ _ _ _ _ _ _ _ _ _ _ _ _ _ _ 279 _ _
    refine mv_lpick [0, 1, 2] rfl ?_
    exact jn279 _ _ _ rfl hf
  have hf := xif_f h1n304 hf
  refine ⟨fun h1 => ?_, fun h1n305 => ?_⟩
  · skip
    have hf := xif_t h1 hf
    show mv_V _ _ _ _ _ _ _ _ _ _ _ _ _ _ _ _ 169 _ _
    refine mv_aload_n (pc := 169) B d_Machine_work_169 rfl 0 rfl ?_
    refine mv_aload_n (pc := 170) B d_Machine_work_170 rfl 0 rfl ?_
    obtain ⟨v22, g21, eg21, hf⟩ := xhb_e hf
    refine mv_callVl (pc := 171) (n := 0) (ci := 9) (C := R_Machine) B (mK_ok sk sv) hNs rfl rfl (ch_Machine_pop_b l hi _ (hb) eg21) rfl (ma_goodc kc_Machine_pop) (B.2.2.2.1 _ k_1592) (B.2.2.2.1 _ k_1594) (B.2.2.2.1 _ ks_72) (B.2.2.2.1 _ k_11) ⟨by decide +kernel, by decide +kernel, by decide +kernel⟩ rfl d_Machine_work_171 rfl (Nat.le_of_ble_eq_true rfl) ⟨by decide, by decide⟩ ⟨by decide, by decide⟩ ⟨by decide, by decide⟩ (mv_noH hno _) (fun w171 σ171 h171 => ?_)
    obtain ⟨rfl, rfl, s_g21⟩ := h171
    have r_g21 : mv_r g21 = mv_r h := s_g21.trans rfl
    refine mv_lneg (pc := 174) B d_Machine_work_174 ?_
    refine mv_lload_n (pc := 175) B d_Machine_work_175 rfl 2 rfl ?_
    refine mv_land (pc := 176) B d_Machine_work_176 ?_
    obtain ⟨g23, eg23, hf⟩ := xhv_e hf
    refine mv_callVv (pc := 177) (n := 1) (ci := 9) (C := R_Machine) B (mK_ok sk sv) hNs rfl rfl (ch_Machine_push_b l hi _ (xrw r_g21 hb) _ eg23) rfl (ma_goodc kc_Machine_push) (B.2.2.2.1 _ k_1584) (B.2.2.2.1 _ k_1586) (B.2.2.2.1 _ ks_70) (B.2.2.2.1 _ k_11) ⟨by decide +kernel, by decide +kernel, by decide +kernel⟩ rfl d_Machine_work_177 rfl (Nat.le_of_ble_eq_true rfl) ⟨by decide, by decide⟩ ⟨by decide, by decide⟩ ⟨by decide, by decide⟩ (mv_noH hno _) (fun σ177 h177 => ?_)
    obtain ⟨rfl, s_g23⟩ := h177
    have r_g23 : mv_r g23 = mv_r h := s_g23.trans r_g21
    refine mv_goto (pc := 180) (tgt := 301) B d_Machine_work_180 rfl ?_
    exact mv_vret (pc := 301) B hr d_Machine_work_301 (Nat.le_refl _) (Nat.le_refl _) ⟨rfl, xrh_v hf r_g23⟩
  have hf := xif_f h1n305 hf
  refine ⟨fun h1 => ?_, fun h1n306 => ?_⟩
  · skip
    have hf := xif_t h1 hf
    show mv_V _ _ _ _ _ _ _ _ _ _ _ _ _ _ _ _ 183 _ _
    refine mv_lpick [0, 2] rfl ?_
    exact jn183 _ _ rfl hf
  have hf := xif_f h1n306 hf
  refine ⟨fun h1 => ?_, fun h1n307 => ?_⟩
  · skip
    have hf := xif_t h1 hf
    show mv_V _ _ _ _ _ _ _ _ _ _ _ _ _ _ _ _ 183 _ _
    refine mv_lpick [0, 2] rfl ?_
    exact jn183 _ _ rfl hf
  have hf := xif_f h1n307 hf
  refine ⟨fun h1 => ?_, fun h1n308 => ?_⟩
  · skip
    have hf := xif_t h1 hf
    show mv_V _ _ _ _ _ _ _ _ _ _ _ _ _ _ _ _ 200 _ _
    refine mv_aload_n (pc := 200) B d_Machine_work_200 rfl 0 rfl ?_
    refine mv_aload_n (pc := 201) B d_Machine_work_201 rfl 0 rfl ?_
    obtain ⟨v25, g24, eg24, hf⟩ := xhb_e hf
    refine mv_callVl (pc := 202) (n := 0) (ci := 9) (C := R_Machine) B (mK_ok sk sv) hNs rfl rfl (ch_Machine_pop_b l hi _ (hb) eg24) rfl (ma_goodc kc_Machine_pop) (B.2.2.2.1 _ k_1592) (B.2.2.2.1 _ k_1594) (B.2.2.2.1 _ ks_72) (B.2.2.2.1 _ k_11) ⟨by decide +kernel, by decide +kernel, by decide +kernel⟩ rfl d_Machine_work_202 rfl (Nat.le_of_ble_eq_true rfl) ⟨by decide, by decide⟩ ⟨by decide, by decide⟩ ⟨by decide, by decide⟩ (mv_noH hno _) (fun w202 σ202 h202 => ?_)
    obtain ⟨rfl, rfl, s_g24⟩ := h202
    have r_g24 : mv_r g24 = mv_r h := s_g24.trans rfl
    refine mv_lload_n (pc := 205) B d_Machine_work_205 rfl 2 rfl ?_
    refine mv_ldc2 (pc := 206) (v := 255) B (B.2.2.2.1 _ k_1610) d_Machine_work_206 ?_
    refine mv_land (pc := 209) B d_Machine_work_209 ?_
    refine mv_l2i (pc := 210) B d_Machine_work_210 ?_
    refine mv_lushr (pc := 211) B d_Machine_work_211 ?_
    refine mv_lload_n (pc := 212) B d_Machine_work_212 rfl 2 rfl ?_
    refine mv_bipush (pc := 213) (v := 8) B d_Machine_work_213 (by decide) ?_
    refine mv_lshr (pc := 215) B d_Machine_work_215 ?_
    refine mv_l2i (pc := 216) B d_Machine_work_216 ?_
    obtain ⟨v27, g26, eg26, hf⟩ := xhb_e hf
    refine mv_callSl (pc := 217) (n := 1) B (mK_ok sk sv) hNs (ch_Bits_mask l hi _ _ eg26) rfl (ma_goodc kc_Bits_mask) (B.2.2.2.1 _ k_1604) (B.2.2.2.1 _ k_1437) (B.2.2.2.1 _ k_33) ⟨by decide +kernel, by decide +kernel, by decide +kernel⟩ rfl d_Machine_work_217 rfl (Nat.le_of_ble_eq_true rfl) ⟨by decide, by decide⟩ ⟨by decide, by decide⟩ ⟨by decide, by decide⟩ (mv_noH hno _) (fun w217 σ217 h217 => ?_)
    obtain ⟨rfl, rfl, s_g26⟩ := h217
    have r_g26 : mv_r g26 = mv_r h := s_g26.trans r_g24
    refine mv_land (pc := 220) B d_Machine_work_220 ?_
    obtain ⟨g28, eg28, hf⟩ := xhv_e hf
    refine mv_callVv (pc := 221) (n := 1) (ci := 9) (C := R_Machine) B (mK_ok sk sv) hNs rfl rfl (ch_Machine_push_b l hi _ (xrw r_g26 hb) _ eg28) rfl (ma_goodc kc_Machine_push) (B.2.2.2.1 _ k_1584) (B.2.2.2.1 _ k_1586) (B.2.2.2.1 _ ks_70) (B.2.2.2.1 _ k_11) ⟨by decide +kernel, by decide +kernel, by decide +kernel⟩ rfl d_Machine_work_221 rfl (Nat.le_of_ble_eq_true rfl) ⟨by decide, by decide⟩ ⟨by decide, by decide⟩ ⟨by decide, by decide⟩ (mv_noH hno _) (fun σ221 h221 => ?_)
    obtain ⟨rfl, s_g28⟩ := h221
    have r_g28 : mv_r g28 = mv_r h := s_g28.trans r_g26
    refine mv_goto (pc := 224) (tgt := 301) B d_Machine_work_224 rfl ?_
    exact mv_vret (pc := 301) B hr d_Machine_work_301 (Nat.le_refl _) (Nat.le_refl _) ⟨rfl, xrh_v hf r_g28⟩
  have hf := xif_f h1n308 hf
  refine ⟨fun h1 => ?_, fun h1n309 => ?_⟩
  · skip
    have hf := xif_t h1 hf
    show mv_V _ _ _ _ _ _ _ _ _ _ _ _ _ _ _ _ 256 _ _
    refine mv_aload_n (pc := 256) B d_Machine_work_256 rfl 0 rfl ?_
    obtain ⟨v30, g29, eg29, hf⟩ := xhb_e hf
    refine mv_callVl (pc := 257) (n := 0) (ci := 9) (C := R_Machine) B (mK_ok sk sv) hNs rfl rfl (ch_Machine_pop_b l hi _ (hb) eg29) rfl (ma_goodc kc_Machine_pop) (B.2.2.2.1 _ k_1592) (B.2.2.2.1 _ k_1594) (B.2.2.2.1 _ ks_72) (B.2.2.2.1 _ k_11) ⟨by decide +kernel, by decide +kernel, by decide +kernel⟩ rfl d_Machine_work_257 rfl (Nat.le_of_ble_eq_true rfl) ⟨by decide, by decide⟩ ⟨by decide, by decide⟩ ⟨by decide, by decide⟩ (mv_noH hno _) (fun w257 σ257 h257 => ?_)
    obtain ⟨rfl, rfl, s_g29⟩ := h257
    have r_g29 : mv_r g29 = mv_r h := s_g29.trans rfl
    refine mv_lstore (pc := 260) B d_Machine_work_260 (by decide) rfl ?_
    refine mv_aload_n (pc := 262) B d_Machine_work_262 rfl 1 rfl ?_
    refine mv_aload_n (pc := 263) B d_Machine_work_263 rfl 1 rfl ?_
    obtain ⟨v32, g31, eg31, hf⟩ := xhb_e hf
    refine mv_callVl (pc := 264) (n := 0) (ci := 9) (C := R_Machine) B (mK_ok sk sv) hNs rfl rfl (ch_Machine_pop_b l hi _ (xrw r_g29 hb) eg31) rfl (ma_goodc kc_Machine_pop) (B.2.2.2.1 _ k_1592) (B.2.2.2.1 _ k_1594) (B.2.2.2.1 _ ks_72) (B.2.2.2.1 _ k_11) ⟨by decide +kernel, by decide +kernel, by decide +kernel⟩ rfl d_Machine_work_264 rfl (Nat.le_of_ble_eq_true rfl) ⟨by decide, by decide⟩ ⟨by decide, by decide⟩ ⟨by decide, by decide⟩ (mv_noH hno _) (fun w264 σ264 h264 => ?_)
    obtain ⟨rfl, rfl, s_g31⟩ := h264
    have r_g31 : mv_r g31 = mv_r h := s_g31.trans r_g29
    refine mv_lload_n (pc := 267) B d_Machine_work_267 rfl 3 rfl ?_
    refine mv_l2i (pc := 268) B d_Machine_work_268 ?_
    refine mv_lshl (pc := 269) B d_Machine_work_269 ?_
    refine mv_lload (pc := 270) B d_Machine_work_270 0 rfl ?_
    refine mv_lor (pc := 272) B d_Machine_work_272 ?_
    obtain ⟨g33, eg33, hf⟩ := xhv_e hf
    refine mv_callVv (pc := 273) (n := 1) (ci := 9) (C := R_Machine) B (mK_ok sk sv) hNs rfl rfl (ch_Machine_push_b l hi _ (xrw r_g31 hb) _ eg33) rfl (ma_goodc kc_Machine_push) (B.2.2.2.1 _ k_1584) (B.2.2.2.1 _ k_1586) (B.2.2.2.1 _ ks_70) (B.2.2.2.1 _ k_11) ⟨by decide +kernel, by decide +kernel, by decide +kernel⟩ rfl d_Machine_work_273 rfl (Nat.le_of_ble_eq_true rfl) ⟨by decide, by decide⟩ ⟨by decide, by decide⟩ ⟨by decide, by decide⟩ (mv_noH hno _) (fun σ273 h273 => ?_)
    obtain ⟨rfl, s_g33⟩ := h273
    have r_g33 : mv_r g33 = mv_r h := s_g33.trans r_g31
    refine mv_goto (pc := 276) (tgt := 301) B d_Machine_work_276 rfl ?_
    exact mv_vret (pc := 301) B hr d_Machine_work_301 (Nat.le_refl _) (Nat.le_refl _) ⟨rfl, xrh_v hf r_g33⟩
  have hf := xif_f h1n309 hf
  refine ⟨fun h1 => ?_, fun h1n310 => ?_⟩
  · skip
    have hf := xif_t h1 hf
    show mv_V _ _ _ _ _ _ _ _ _ _ _ _ _ _ _ _ 227 _ _
    refine mv_aload_n (pc := 227) B d_Machine_work_227 rfl 0 rfl ?_
    refine mv_aload_n (pc := 228) B d_Machine_work_228 rfl 0 rfl ?_
    obtain ⟨v35, g34, eg34, hf⟩ := xhb_e hf
    refine mv_callVl (pc := 229) (n := 0) (ci := 9) (C := R_Machine) B (mK_ok sk sv) hNs rfl rfl (ch_Machine_pop_b l hi _ (hb) eg34) rfl (ma_goodc kc_Machine_pop) (B.2.2.2.1 _ k_1592) (B.2.2.2.1 _ k_1594) (B.2.2.2.1 _ ks_72) (B.2.2.2.1 _ k_11) ⟨by decide +kernel, by decide +kernel, by decide +kernel⟩ rfl d_Machine_work_229 rfl (Nat.le_of_ble_eq_true rfl) ⟨by decide, by decide⟩ ⟨by decide, by decide⟩ ⟨by decide, by decide⟩ (mv_noH hno _) (fun w229 σ229 h229 => ?_)
    obtain ⟨rfl, rfl, s_g34⟩ := h229
    have r_g34 : mv_r g34 = mv_r h := s_g34.trans rfl
    refine mv_lload_n (pc := 232) B d_Machine_work_232 rfl 2 rfl ?_
    refine mv_ldc2 (pc := 233) (v := 255) B (B.2.2.2.1 _ k_1610) d_Machine_work_233 ?_
    refine mv_land (pc := 236) B d_Machine_work_236 ?_
    refine mv_l2i (pc := 237) B d_Machine_work_237 ?_
    obtain ⟨v37, g36, eg36, hf⟩ := xhb_e hf
    refine mv_callSl (pc := 238) (n := 2) B (mK_ok sk sv) hNs (ch_Bits_signed l hi _ _ _ eg36) rfl (ma_goodc kc_Bits_signed) (B.2.2.2.1 _ k_1611) (B.2.2.2.1 _ k_1612) (B.2.2.2.1 _ k_33) ⟨by decide +kernel, by decide +kernel, by decide +kernel⟩ rfl d_Machine_work_238 rfl (Nat.le_of_ble_eq_true rfl) ⟨by decide, by decide⟩ ⟨by decide, by decide⟩ ⟨by decide, by decide⟩ (mv_noH hno _) (fun w238 σ238 h238 => ?_)
    obtain ⟨rfl, rfl, s_g36⟩ := h238
    have r_g36 : mv_r g36 = mv_r h := s_g36.trans r_g34
    refine mv_lload_n (pc := 241) B d_Machine_work_241 rfl 2 rfl ?_
    refine mv_bipush (pc := 242) (v := 8) B d_Machine_work_242 (by decide) ?_
    refine mv_lshr (pc := 244) B d_Machine_work_244 ?_
    refine mv_l2i (pc := 245) B d_Machine_work_245 ?_
    obtain ⟨v39, g38, eg38, hf⟩ := xhb_e hf
    refine mv_callSl (pc := 246) (n := 1) B (mK_ok sk sv) hNs (ch_Bits_mask l hi _ _ eg38) rfl (ma_goodc kc_Bits_mask) (B.2.2.2.1 _ k_1604) (B.2.2.2.1 _ k_1437) (B.2.2.2.1 _ k_33) ⟨by decide +kernel, by decide +kernel, by decide +kernel⟩ rfl d_Machine_work_246 rfl (Nat.le_of_ble_eq_true rfl) ⟨by decide, by decide⟩ ⟨by decide, by decide⟩ ⟨by decide, by decide⟩ (mv_noH hno _) (fun w246 σ246 h246 => ?_)
    obtain ⟨rfl, rfl, s_g38⟩ := h246
    have r_g38 : mv_r g38 = mv_r h := s_g38.trans r_g36
    refine mv_land (pc := 249) B d_Machine_work_249 ?_
    obtain ⟨g40, eg40, hf⟩ := xhv_e hf
    refine mv_callVv (pc := 250) (n := 1) (ci := 9) (C := R_Machine) B (mK_ok sk sv) hNs rfl rfl (ch_Machine_push_b l hi _ (xrw r_g38 hb) _ eg40) rfl (ma_goodc kc_Machine_push) (B.2.2.2.1 _ k_1584) (B.2.2.2.1 _ k_1586) (B.2.2.2.1 _ ks_70) (B.2.2.2.1 _ k_11) ⟨by decide +kernel, by decide +kernel, by decide +kernel⟩ rfl d_Machine_work_250 rfl (Nat.le_of_ble_eq_true rfl) ⟨by decide, by decide⟩ ⟨by decide, by decide⟩ ⟨by decide, by decide⟩ (mv_noH hno _) (fun σ250 h250 => ?_)
    obtain ⟨rfl, s_g40⟩ := h250
    have r_g40 : mv_r g40 = mv_r h := s_g40.trans r_g38
    refine mv_goto (pc := 253) (tgt := 301) B d_Machine_work_253 rfl ?_
    exact mv_vret (pc := 301) B hr d_Machine_work_301 (Nat.le_refl _) (Nat.le_refl _) ⟨rfl, xrh_v hf r_g40⟩
  have hf := xif_f h1n310 hf
  refine ⟨fun h1 => ?_, fun h1n311 => ?_⟩
  · skip
    have hf := xif_t h1 hf
    show mv_V _ _ _ _ _ _ _ _ _ _ _ _ _ _ _ _ 279 _ _
    refine mv_lpick [0, 1, 2] rfl ?_
    exact jn279 _ _ _ rfl hf
  have hf := xif_f h1n311 hf
  refine ⟨fun h1 => ?_, fun h1n312 => ?_⟩
  · skip
    have hf := xif_t h1 hf
    show mv_V _ _ _ _ _ _ _ _ _ _ _ _ _ _ _ _ 279 _ _
    refine mv_lpick [0, 1, 2] rfl ?_
    exact jn279 _ _ _ rfl hf
  have hf := xif_f h1n312 hf
  refine ⟨fun h1 => ?_, fun h1n313 => ?_⟩
  · skip
    have hf := xif_t h1 hf
    show mv_V _ _ _ _ _ _ _ _ _ _ _ _ _ _ _ _ 112 _ _
    refine mv_aload_n (pc := 112) B d_Machine_work_112 rfl 0 rfl ?_
    refine mv_getR (pc := 113) (ci := 9) (C := R_Machine) (T := F_Machine) (N := 13) B 2 rfl rfl (by decide) i_Machine (B.2.2.2.1 _ k_444) rfl (hb.1 64 2 _ rfl) d_Machine_work_113 ?_
    refine mv_lload_n (pc := 116) B d_Machine_work_116 rfl 2 rfl ?_
    refine mv_l2i (pc := 117) B d_Machine_work_117 ?_
    refine mv_aload_n (pc := 118) B d_Machine_work_118 rfl 0 rfl ?_
    obtain ⟨v42, g41, eg41, hf⟩ := xhb_e hf
    refine mv_callVl (pc := 119) (n := 0) (ci := 9) (C := R_Machine) B (mK_ok sk sv) hNs rfl rfl (ch_Machine_pop_b l hi _ (hb) eg41) rfl (ma_goodc kc_Machine_pop) (B.2.2.2.1 _ k_1592) (B.2.2.2.1 _ k_1594) (B.2.2.2.1 _ ks_72) (B.2.2.2.1 _ k_11) ⟨by decide +kernel, by decide +kernel, by decide +kernel⟩ rfl d_Machine_work_119 rfl (Nat.le_of_ble_eq_true rfl) ⟨by decide, by decide⟩ ⟨by decide, by decide⟩ ⟨by decide, by decide⟩ (mv_noH hno _) (fun w119 σ119 h119 => ?_)
    obtain ⟨rfl, rfl, s_g41⟩ := h119
    have r_g41 : mv_r g41 = mv_r h := s_g41.trans rfl
    obtain ⟨q43, hf⟩ := xvi_e hf
    refine mv_last (pc := 122) B rfl q43 d_Machine_work_122 ?_
    refine mvh_hp (R9 := mv_r h) hf r_g41 (fun g44 hf r_g44 => ?_)
    refine mv_goto (pc := 123) (tgt := 301) B d_Machine_work_123 rfl ?_
    exact mv_vret (pc := 301) B hr d_Machine_work_301 (Nat.le_refl _) (Nat.le_refl _) ⟨rfl, xrh_v hf r_g44⟩
  have hf := xif_f h1n313 hf
  refine ⟨fun h1 => ?_, fun h1n314 => ?_⟩
  · skip
    have hf := xif_t h1 hf
    show mv_V _ _ _ _ _ _ _ _ _ _ _ _ _ _ _ _ 126 _ _
    refine mv_aload_n (pc := 126) B d_Machine_work_126 rfl 0 rfl ?_
    refine mv_aload_n (pc := 127) B d_Machine_work_127 rfl 0 rfl ?_
    refine mv_getI (pc := 128) (ci := 9) (C := R_Machine) (T := F_Machine) (N := 13) B 8 rfl rfl (by decide) i_Machine (B.2.2.2.1 _ k_450) rfl d_Machine_work_128 ?_
    refine mv_if_ne (pc := 131) (tgt := 147) B d_Machine_work_131 rfl (fun h131 => ?_) (fun h131 => ?_)
    · skip
      have hf := xif_f h131 hf
      refine mv_lpick [0, 2] rfl ?_
      exact jn147 _ _ rfl hf
    · skip
      have hf := xif_t h131 hf
      refine mv_lload_n (pc := 134) B d_Machine_work_134 rfl 2 rfl ?_
      refine mv_aload_n (pc := 135) B d_Machine_work_135 rfl 0 rfl ?_
      refine mv_getR (pc := 136) (ci := 9) (C := R_Machine) (T := F_Machine) (N := 13) B 0 rfl rfl (by decide) i_Machine (B.2.2.2.1 _ k_440) rfl hb.2.2 d_Machine_work_136 ?_
      refine mv_getI (pc := 139) (ci := 7) (C := R_Program) (T := F_Program) (N := 19) B 8 rfl rfl (by decide) i_Program (B.2.2.2.1 _ k_338) rfl d_Machine_work_139 ?_
      refine mv_i2l (pc := 142) B d_Machine_work_142 ?_
      refine mv_lcmp (pc := 143) B d_Machine_work_143 ?_
      refine mv_if_ne (pc := 144) (tgt := 151) B d_Machine_work_144 rfl (fun h144 => ?_) (fun h144 => ?_)
      · skip
        have hf := xif_f h144 hf
        refine mv_iconst (pc := 151) (v := 0) B d_Machine_work_151 (by decide) ?_
        refine mv_lpick [0, 2] rfl ?_
        exact jn152 _ _ _ rfl hf
      · skip
        have hf := xif_t h144 hf
        refine mv_lpick [0, 2] rfl ?_
        exact jn147 _ _ rfl hf
  have hf := xif_f h1n314 hf
  show mv_V _ _ _ _ _ _ _ _ _ _ _ _ _ _ _ _ 279 _ _
  refine mv_lpick [0, 1, 2] rfl ?_
  exact jn279 _ _ _ rfl hf
def f_Machine_perform_241 (P : Nat) (hz : mv_H) : Option (Int32 × mv_H) := some ((0 : Int32), hz)
def f_Machine_perform_235 (P : Nat) (k11 : Int64 → Int32 → Int32 → mv_H → Option (Int32 × mv_H)) (x2 : Int64) (x4 : Int32) (x5 : Int32) (hz : mv_H) : Option (Int32 × mv_H) := k11 x2 x4 (x5 + 1) hz
def f_Machine_perform_227 (P : Nat) (k11 : Int64 → Int32 → Int32 → mv_H → Option (Int32 × mv_H)) (x2 : Int64) (x4 : Int32) (x5 : Int32) (x6 : Int32) (x7 : Int64) (hz : mv_H) : Option (Int32 × mv_H) := xhv (f_Machine_work P hz x6 x7) fun g1 => f_Machine_perform_235 P k11 x2 x4 x5 g1
def f_Machine_perform_212 (P : Nat) (k11 : Int64 → Int32 → Int32 → mv_H → Option (Int32 × mv_H)) (x2 : Int64) (x4 : Int32) (x5 : Int32) (x6 : Int32) (x7 : Int64) (hz : mv_H) : Option (Int32 × mv_H) := xhb (f_Machine_ofCell P hz x6 ((x7).toInt32)) fun v3 g2 => if v3 = (0 : Int32) then (some ((-3 : Int32), g2)) else (f_Machine_perform_235 P k11 x2 x4 x5 g2)
def f_Machine_perform_194 (P : Nat) (k11 : Int64 → Int32 → Int32 → mv_H → Option (Int32 × mv_H)) (x2 : Int64) (x5 : Int32) (y0 : Int32) (hz : mv_H) : Option (Int32 × mv_H) := f_Machine_perform_235 P k11 x2 y0 x5 hz
def fF_Machine_perform_11 (P : Nat) (k11 : Int64 → Int32 → Int32 → mv_H → Option (Int32 × mv_H)) (x2 : Int64) (x4 : Int32) (x5 : Int32) (hz : mv_H) : Option (Int32 × mv_H) := if (mv_i hz P 17) ≤ x5 then (f_Machine_perform_241 P  hz) else (if (mv_i hz P 17) ≤ x4 then (f_Machine_perform_241 P  hz) else (bif xvi x4 32768 then bif xvi x4 32768 then if ((mv_a hz (P + 9) (x4).toNatClampNeg)).toInt = 301 then (xhb (f_Bits_gather hz x2 (mv_b hz (P + 10) (x4).toNatClampNeg)) fun v7 g6 => xhv (f_Machine_push P g6 v7) fun g8 => f_Machine_perform_235 P k11 x2 (x4 + 1) x5 g8) else (if ((mv_a hz (P + 9) (x4).toNatClampNeg)).toInt = 302 then (f_Machine_perform_227 P k11 x2 (x4 + 1) x5 (mv_a hz (P + 9) (x4).toNatClampNeg) (mv_b hz (P + 10) (x4).toNatClampNeg) hz) else (if ((mv_a hz (P + 9) (x4).toNatClampNeg)).toInt = 303 then (f_Machine_perform_227 P k11 x2 (x4 + 1) x5 (mv_a hz (P + 9) (x4).toNatClampNeg) (mv_b hz (P + 10) (x4).toNatClampNeg) hz) else (if ((mv_a hz (P + 9) (x4).toNatClampNeg)).toInt = 304 then (f_Machine_perform_212 P k11 x2 (x4 + 1) x5 (mv_a hz (P + 9) (x4).toNatClampNeg) (mv_b hz (P + 10) (x4).toNatClampNeg) hz) else (if ((mv_a hz (P + 9) (x4).toNatClampNeg)).toInt = 305 then (f_Machine_perform_227 P k11 x2 (x4 + 1) x5 (mv_a hz (P + 9) (x4).toNatClampNeg) (mv_b hz (P + 10) (x4).toNatClampNeg) hz) else (if ((mv_a hz (P + 9) (x4).toNatClampNeg)).toInt = 306 then (f_Machine_perform_227 P k11 x2 (x4 + 1) x5 (mv_a hz (P + 9) (x4).toNatClampNeg) (mv_b hz (P + 10) (x4).toNatClampNeg) hz) else (if ((mv_a hz (P + 9) (x4).toNatClampNeg)).toInt = 307 then (f_Machine_perform_227 P k11 x2 (x4 + 1) x5 (mv_a hz (P + 9) (x4).toNatClampNeg) (mv_b hz (P + 10) (x4).toNatClampNeg) hz) else (if ((mv_a hz (P + 9) (x4).toNatClampNeg)).toInt = 308 then (f_Machine_perform_227 P k11 x2 (x4 + 1) x5 (mv_a hz (P + 9) (x4).toNatClampNeg) (mv_b hz (P + 10) (x4).toNatClampNeg) hz) else (if ((mv_a hz (P + 9) (x4).toNatClampNeg)).toInt = 309 then (f_Machine_perform_227 P k11 x2 (x4 + 1) x5 (mv_a hz (P + 9) (x4).toNatClampNeg) (mv_b hz (P + 10) (x4).toNatClampNeg) hz) else (if ((mv_a hz (P + 9) (x4).toNatClampNeg)).toInt = 310 then (f_Machine_perform_227 P k11 x2 (x4 + 1) x5 (mv_a hz (P + 9) (x4).toNatClampNeg) (mv_b hz (P + 10) (x4).toNatClampNeg) hz) else (if ((mv_a hz (P + 9) (x4).toNatClampNeg)).toInt = 311 then (f_Machine_perform_235 P k11 x2 (((mv_b hz (P + 10) (x4).toNatClampNeg)).toInt32) x5 hz) else (if ((mv_a hz (P + 9) (x4).toNatClampNeg)).toInt = 312 then (xk (mv_si hz 64 4 ((mv_i hz 64 4) - (1 : Int32))) fun g9 => bif xvi (mv_i g9 64 4) 1024 then if (lg_cmp (mv_b g9 67 ((mv_i g9 64 4)).toNatClampNeg) (0 : Int64)) = (0 : Int32) then (f_Machine_perform_194 P k11 x2 x5 (((mv_b hz (P + 10) (x4).toNatClampNeg)).toInt32) g9) else (f_Machine_perform_194 P k11 x2 x5 (x4 + 1) g9) else none) else (if ((mv_a hz (P + 9) (x4).toNatClampNeg)).toInt = 313 then (f_Machine_perform_227 P k11 x2 (x4 + 1) x5 (mv_a hz (P + 9) (x4).toNatClampNeg) (mv_b hz (P + 10) (x4).toNatClampNeg) hz) else (if ((mv_a hz (P + 9) (x4).toNatClampNeg)).toInt = 314 then (f_Machine_perform_227 P k11 x2 (x4 + 1) x5 (mv_a hz (P + 9) (x4).toNatClampNeg) (mv_b hz (P + 10) (x4).toNatClampNeg) hz) else (if ((mv_a hz (P + 9) (x4).toNatClampNeg)).toInt = 315 then (f_Machine_perform_212 P k11 x2 (x4 + 1) x5 (mv_a hz (P + 9) (x4).toNatClampNeg) (mv_b hz (P + 10) (x4).toNatClampNeg) hz) else (if ((mv_a hz (P + 9) (x4).toNatClampNeg)).toInt = 316 then (some ((((mv_b hz (P + 10) (x4).toNatClampNeg)).toInt32), hz)) else (if ((mv_a hz (P + 9) (x4).toNatClampNeg)).toInt = 317 then (some ((0 : Int32), hz)) else (f_Machine_perform_227 P k11 x2 (x4 + 1) x5 (mv_a hz (P + 9) (x4).toNatClampNeg) (mv_b hz (P + 10) (x4).toNatClampNeg) hz))))))))))))))))) else none else none))
def f_Machine_perform_11 (P : Nat) : Nat → Int64 → Int32 → Int32 → mv_H → Option (Int32 × mv_H)
  | 0 => fun _ _ _ _ => none
  | nn + 1 => fF_Machine_perform_11 P (f_Machine_perform_11 P nn)
def f_Machine_perform (P : Nat) (h : mv_H) (a0 : Int32) (a1 : Int64) : Option (Int32 × mv_H) := xk (mv_si h 64 4 (0 : Int32)) fun g11 => f_Machine_perform_11 P 200000 a1 a0 (0 : Int32) g11
set_option maxHeartbeats 4000000 in
set_option maxRecDepth 100000 in
theorem ch_Machine_perform_a (l : Launch) {dA : FieldType → ClassId} {D : va_G} {al : Nat → Nat} {ext : mv_Sh} {sk sv : Nat → Nat} (hi : mv_inj (mg dA D al ext)) (h : mv_H) (hb : Rf 32 (mv_r h))  (a0 : Int32) (a1 : Int64) {rv : Int32} {rg : mv_H} (hf : f_Machine_perform 32 h a0 a1 = some (rv, rg)) : mv_C l y_Machine_perform (Cond.code y_Machine_perform b_Machine_perform 9 (Option.some Jvm.ClassFile.FieldType.int) :: ma) ({ frames := 4, cells := 0, slots := 0, locals := 101 }) (mg dA D al ext) (mK sk sv) [.ref (al 64), .int a0, .long a1] h (mv_Ri (fun v σ1 => rv = v ∧ rg = σ1 ∧ mv_r σ1 = mv_r h)) := by
  refine mv_C.ofV (cc := b_Machine_perform) (nL := 9) (ret := (Option.some Jvm.ClassFile.FieldType.int)) (by decide +kernel) rfl hi (Nat.le_of_ble_eq_true rfl) ?_
  intro p e s m below meth c B hNs hr hnm hno
  have jn241 : ∀ (hz : mv_H), mv_r hz = mv_r h → f_Machine_perform_241 32  hz = some (rv, rg) → mv_V p l e ({ frames := 4, cells := 0, slots := 0, locals := 101 }) s m ([.ref (al 64), .int a0, .long a1] : List Value).toArray below meth c (mg dA D al ext) 9 0 0 (mv_Q (mg dA D al ext) below s 0 0 (mv_Ri (fun v σ1 => rv = v ∧ rg = σ1 ∧ mv_r σ1 = mv_r h))) hz 241 [] [] := by
    intro  hz r_hz hf
    unfold f_Machine_perform_241 at hf
    refine mv_iconst (pc := 241) (v := 0) B d_Machine_perform_241 (by decide) ?_
    exact mv_iret (pc := 242) B hr rfl d_Machine_perform_242 (Nat.le_refl _) (Nat.le_refl _) ⟨_, rfl, xrh_i hf r_hz⟩
  have lp11 : ∀ (nn11 : Nat) (x2 : Int64) (x4 : Int32) (x5 : Int32) (hz : mv_H), mv_r hz = mv_r h → f_Machine_perform_11 32 nn11 x2 x4 x5 hz = some (rv, rg) → mv_V p l e ({ frames := 4, cells := 0, slots := 0, locals := 101 }) s m ([.ref (al 64), .int a0, .long a1] : List Value).toArray below meth c (mg dA D al ext) 9 0 0 (mv_Q (mg dA D al ext) below s 0 0 (mv_Ri (fun v σ1 => rv = v ∧ rg = σ1 ∧ mv_r σ1 = mv_r h))) hz 11 [(0, .ref (al 64)), (2, .long x2), (4, .int x4), (5, .int x5)] [] := by
    intro nn11
    induction nn11 with
    | zero => intro x2 x4 x5 hz r_hz hf; cases hf
    | succ nn11 ih11 =>
      intro x2 x4 x5 hz r_hz hf
      have jn235 : ∀ (x2 : Int64) (x4 : Int32) (x5 : Int32) (hz : mv_H), mv_r hz = mv_r h → f_Machine_perform_235 32 (f_Machine_perform_11 32 nn11) x2 x4 x5 hz = some (rv, rg) → mv_V p l e ({ frames := 4, cells := 0, slots := 0, locals := 101 }) s m ([.ref (al 64), .int a0, .long a1] : List Value).toArray below meth c (mg dA D al ext) 9 0 0 (mv_Q (mg dA D al ext) below s 0 0 (mv_Ri (fun v σ1 => rv = v ∧ rg = σ1 ∧ mv_r σ1 = mv_r h))) hz 235 [(0, .ref (al 64)), (2, .long x2), (4, .int x4), (5, .int x5)] [] := by
        intro x2 x4 x5 hz r_hz hf
        unfold f_Machine_perform_235 at hf
        refine mv_iinc (pc := 235) (j := 3) (v := 1) B d_Machine_perform_235 rfl (by decide) (by decide) rfl ?_
        refine mv_goto (pc := 238) (tgt := 11) B d_Machine_perform_238 rfl ?_
        refine mv_lpick [1, 2, 3, 0] rfl ?_
        exact ih11 _ _ _ _ r_hz hf
      have jn227 : ∀ (x2 : Int64) (x4 : Int32) (x5 : Int32) (x6 : Int32) (x7 : Int64) (hz : mv_H), mv_r hz = mv_r h → f_Machine_perform_227 32 (f_Machine_perform_11 32 nn11) x2 x4 x5 x6 x7 hz = some (rv, rg) → mv_V p l e ({ frames := 4, cells := 0, slots := 0, locals := 101 }) s m ([.ref (al 64), .int a0, .long a1] : List Value).toArray below meth c (mg dA D al ext) 9 0 0 (mv_Q (mg dA D al ext) below s 0 0 (mv_Ri (fun v σ1 => rv = v ∧ rg = σ1 ∧ mv_r σ1 = mv_r h))) hz 227 [(0, .ref (al 64)), (2, .long x2), (4, .int x4), (5, .int x5), (6, .int x6), (7, .long x7)] [] := by
        intro x2 x4 x5 x6 x7 hz r_hz hf
        unfold f_Machine_perform_227 at hf
        refine mv_aload_n (pc := 227) B d_Machine_perform_227 rfl 0 rfl ?_
        refine mv_iload (pc := 228) B d_Machine_perform_228 4 rfl ?_
        refine mv_lload (pc := 230) B d_Machine_perform_230 5 rfl ?_
        obtain ⟨g1, eg1, hf⟩ := xhv_e hf
        refine mv_callVv (pc := 232) (n := 2) (ci := 9) (C := R_Machine) B (mK_ok sk sv) hNs rfl rfl (ch_Machine_work_a l hi _ (xrw r_hz hb) _ _ eg1) rfl (ma_goodc kc_Machine_work) (B.2.2.2.1 _ k_1605) (B.2.2.2.1 _ k_1607) (B.2.2.2.1 _ ks_74) (B.2.2.2.1 _ k_11) ⟨by decide +kernel, by decide +kernel, by decide +kernel⟩ rfl d_Machine_perform_232 rfl (Nat.le_of_ble_eq_true rfl) ⟨by decide, by decide⟩ ⟨by decide, by decide⟩ ⟨by decide, by decide⟩ (mv_noH hno _) (fun σ232 h232 => ?_)
        obtain ⟨rfl, s_g1⟩ := h232
        have r_g1 : mv_r g1 = mv_r h := s_g1.trans r_hz
        refine mv_lpick [0, 1, 2, 3] rfl ?_
        exact jn235 _ _ _ _ r_g1 hf
      have jn212 : ∀ (x2 : Int64) (x4 : Int32) (x5 : Int32) (x6 : Int32) (x7 : Int64) (hz : mv_H), mv_r hz = mv_r h → f_Machine_perform_212 32 (f_Machine_perform_11 32 nn11) x2 x4 x5 x6 x7 hz = some (rv, rg) → mv_V p l e ({ frames := 4, cells := 0, slots := 0, locals := 101 }) s m ([.ref (al 64), .int a0, .long a1] : List Value).toArray below meth c (mg dA D al ext) 9 0 0 (mv_Q (mg dA D al ext) below s 0 0 (mv_Ri (fun v σ1 => rv = v ∧ rg = σ1 ∧ mv_r σ1 = mv_r h))) hz 212 [(0, .ref (al 64)), (2, .long x2), (4, .int x4), (5, .int x5), (6, .int x6), (7, .long x7)] [] := by
        intro x2 x4 x5 x6 x7 hz r_hz hf
        unfold f_Machine_perform_212 at hf
        refine mv_aload_n (pc := 212) B d_Machine_perform_212 rfl 0 rfl ?_
        refine mv_iload (pc := 213) B d_Machine_perform_213 4 rfl ?_
        refine mv_lload (pc := 215) B d_Machine_perform_215 5 rfl ?_
        refine mv_l2i (pc := 217) B d_Machine_perform_217 ?_
        obtain ⟨v3, g2, eg2, hf⟩ := xhb_e hf
        refine mv_callVi (pc := 218) (n := 2) (ci := 9) (C := R_Machine) B (mK_ok sk sv) hNs rfl rfl (ch_Machine_ofCell_a l hi _ (xrw r_hz hb) _ _ eg2) rfl (ma_goodc kc_Machine_ofCell) (B.2.2.2.1 _ k_1588) (B.2.2.2.1 _ k_1590) (B.2.2.2.1 _ ks_71) (B.2.2.2.1 _ k_11) ⟨by decide +kernel, by decide +kernel, by decide +kernel⟩ rfl d_Machine_perform_218 rfl (Nat.le_of_ble_eq_true rfl) ⟨by decide, by decide⟩ ⟨by decide, by decide⟩ ⟨by decide, by decide⟩ (mv_noH hno _) (fun w218 σ218 h218 => ?_)
        obtain ⟨rfl, rfl, s_g2⟩ := h218
        have r_g2 : mv_r g2 = mv_r h := s_g2.trans r_hz
        refine mv_if_ne (pc := 221) (tgt := 235) B d_Machine_perform_221 rfl (fun h221 => ?_) (fun h221 => ?_)
        · skip
          have hf := xif_f h221 hf
          refine mv_lpick [0, 1, 2, 3] rfl ?_
          exact jn235 _ _ _ _ r_g2 hf
        · skip
          have hf := xif_t h221 hf
          refine mv_bipush (pc := 224) (v := -3) B d_Machine_perform_224 (by decide) ?_
          exact mv_iret (pc := 226) B hr rfl d_Machine_perform_226 (Nat.le_refl _) (Nat.le_refl _) ⟨_, rfl, xrh_i hf r_g2⟩
      have jn194 : ∀ (x2 : Int64) (x5 : Int32) (y0 : Int32) (hz : mv_H), mv_r hz = mv_r h → f_Machine_perform_194 32 (f_Machine_perform_11 32 nn11) x2 x5 y0 hz = some (rv, rg) → mv_V p l e ({ frames := 4, cells := 0, slots := 0, locals := 101 }) s m ([.ref (al 64), .int a0, .long a1] : List Value).toArray below meth c (mg dA D al ext) 9 0 0 (mv_Q (mg dA D al ext) below s 0 0 (mv_Ri (fun v σ1 => rv = v ∧ rg = σ1 ∧ mv_r σ1 = mv_r h))) hz 194 [(0, .ref (al 64)), (2, .long x2), (5, .int x5)] [.int y0] := by
        intro x2 x5 y0 hz r_hz hf
        unfold f_Machine_perform_194 at hf
        refine mv_istore (pc := 194) B d_Machine_perform_194 (by decide) rfl ?_
        refine mv_goto (pc := 196) (tgt := 235) B d_Machine_perform_196 rfl ?_
        refine mv_lpick [1, 2, 0, 3] rfl ?_
        exact jn235 _ _ _ _ r_hz hf
      have hf : fF_Machine_perform_11 32 (f_Machine_perform_11 32 nn11) x2 x4 x5 hz = some (rv, rg) := hf
      unfold fF_Machine_perform_11 at hf
      refine mv_iload (pc := 11) B d_Machine_perform_11 3 rfl ?_
      refine mv_aload_n (pc := 13) B d_Machine_perform_13 rfl 0 rfl ?_
      refine mv_getR (pc := 14) (ci := 9) (C := R_Machine) (T := F_Machine) (N := 13) B 0 rfl rfl (by decide) i_Machine (B.2.2.2.1 _ k_440) rfl ((congrFun (congrFun r_hz 64) 0).trans hb.2.2) d_Machine_perform_14 ?_
      refine mv_getI (pc := 17) (ci := 7) (C := R_Program) (T := F_Program) (N := 19) B 17 rfl rfl (by decide) i_Program (B.2.2.2.1 _ k_362) rfl d_Machine_perform_17 ?_
      refine mv_icmp_ge (pc := 20) (tgt := 241) B d_Machine_perform_20 rfl (fun h20 => ?_) (fun h20 => ?_)
      · skip
        have hf := xif_t h20 hf
        refine mv_lpick [] rfl ?_
        exact jn241  _ r_hz hf
      · skip
        have hf := xif_f h20 hf
        refine mv_iload (pc := 23) B d_Machine_perform_23 2 rfl ?_
        refine mv_aload_n (pc := 25) B d_Machine_perform_25 rfl 0 rfl ?_
        refine mv_getR (pc := 26) (ci := 9) (C := R_Machine) (T := F_Machine) (N := 13) B 0 rfl rfl (by decide) i_Machine (B.2.2.2.1 _ k_440) rfl ((congrFun (congrFun r_hz 64) 0).trans hb.2.2) d_Machine_perform_26 ?_
        refine mv_getI (pc := 29) (ci := 7) (C := R_Program) (T := F_Program) (N := 19) B 17 rfl rfl (by decide) i_Program (B.2.2.2.1 _ k_362) rfl d_Machine_perform_29 ?_
        refine mv_icmp_ge (pc := 32) (tgt := 241) B d_Machine_perform_32 rfl (fun h32 => ?_) (fun h32 => ?_)
        · skip
          have hf := xif_t h32 hf
          refine mv_lpick [] rfl ?_
          exact jn241  _ r_hz hf
        · skip
          have hf := xif_f h32 hf
          refine mv_aload_n (pc := 35) B d_Machine_perform_35 rfl 0 rfl ?_
          refine mv_getR (pc := 36) (ci := 9) (C := R_Machine) (T := F_Machine) (N := 13) B 0 rfl rfl (by decide) i_Machine (B.2.2.2.1 _ k_440) rfl ((congrFun (congrFun r_hz 64) 0).trans hb.2.2) d_Machine_perform_36 ?_
          refine mv_getR (pc := 39) (ci := 7) (C := R_Program) (T := F_Program) (N := 19) B 15 rfl rfl (by decide) i_Program (B.2.2.2.1 _ k_358) rfl ((congrFun (congrFun r_hz 32) 15).trans (hb.2.1 32 15 41 rfl)) d_Machine_perform_39 ?_
          refine mv_iload (pc := 42) B d_Machine_perform_42 2 rfl ?_
          obtain ⟨q4, hf⟩ := xvi_e hf
          refine mv_iald (pc := 44) B rfl q4 d_Machine_perform_44 ?_
          refine mv_istore (pc := 45) B d_Machine_perform_45 (by decide) rfl ?_
          refine mv_aload_n (pc := 47) B d_Machine_perform_47 rfl 1 rfl ?_
          refine mv_getR (pc := 48) (ci := 9) (C := R_Machine) (T := F_Machine) (N := 13) B 0 rfl rfl (by decide) i_Machine (B.2.2.2.1 _ k_440) rfl ((congrFun (congrFun r_hz 64) 0).trans hb.2.2) d_Machine_perform_48 ?_
          refine mv_getR (pc := 51) (ci := 7) (C := R_Program) (T := F_Program) (N := 19) B 16 rfl rfl (by decide) i_Program (B.2.2.2.1 _ k_360) rfl ((congrFun (congrFun r_hz 32) 16).trans (hb.2.1 32 16 42 rfl)) d_Machine_perform_51 ?_
          refine mv_iload (pc := 54) B d_Machine_perform_54 3 rfl ?_
          obtain ⟨q5, hf⟩ := xvi_e hf
          refine mv_lald (pc := 56) B rfl q5 d_Machine_perform_56 ?_
          refine mv_lstore (pc := 57) B d_Machine_perform_57 (by decide) rfl ?_
          refine mv_iinc (pc := 59) (j := 4) (v := 1) B d_Machine_perform_59 rfl (by decide) (by decide) rfl ?_
          refine mv_iload (pc := 62) B d_Machine_perform_62 2 rfl ?_
          refine mv_tsw (pc := 64) B d_Machine_perform_64 (by decide) (by decide) ?_
          refine ⟨fun h64 => ?_, fun h64n301 => ?_⟩
          · skip
            have hf := xif_t h64 hf
            show mv_V _ _ _ _ _ _ _ _ _ _ _ _ _ _ _ _ 199 _ _
            refine mv_aload_n (pc := 199) B d_Machine_perform_199 rfl 3 rfl ?_
            refine mv_lload_n (pc := 200) B d_Machine_perform_200 rfl 4 rfl ?_
            refine mv_lload (pc := 201) B d_Machine_perform_201 1 rfl ?_
            obtain ⟨v7, g6, eg6, hf⟩ := xhb_e hf
            refine mv_callSl (pc := 203) (n := 2) B (mK_ok sk sv) hNs (ch_Bits_gather l hi _ _ _ eg6) rfl (ma_goodc kc_Bits_gather) (B.2.2.2.1 _ k_1581) (B.2.2.2.1 _ k_1582) (B.2.2.2.1 _ k_33) ⟨by decide +kernel, by decide +kernel, by decide +kernel⟩ rfl d_Machine_perform_203 rfl (Nat.le_of_ble_eq_true rfl) ⟨by decide, by decide⟩ ⟨by decide, by decide⟩ ⟨by decide, by decide⟩ (mv_noH hno _) (fun w203 σ203 h203 => ?_)
            obtain ⟨rfl, rfl, s_g6⟩ := h203
            have r_g6 : mv_r g6 = mv_r h := s_g6.trans r_hz
            obtain ⟨g8, eg8, hf⟩ := xhv_e hf
            refine mv_callVv (pc := 206) (n := 1) (ci := 9) (C := R_Machine) B (mK_ok sk sv) hNs rfl rfl (ch_Machine_push_a l hi _ (xrw r_g6 hb) _ eg8) rfl (ma_goodc kc_Machine_push) (B.2.2.2.1 _ k_1584) (B.2.2.2.1 _ k_1586) (B.2.2.2.1 _ ks_70) (B.2.2.2.1 _ k_11) ⟨by decide +kernel, by decide +kernel, by decide +kernel⟩ rfl d_Machine_perform_206 rfl (Nat.le_of_ble_eq_true rfl) ⟨by decide, by decide⟩ ⟨by decide, by decide⟩ ⟨by decide, by decide⟩ (mv_noH hno _) (fun σ206 h206 => ?_)
            obtain ⟨rfl, s_g8⟩ := h206
            have r_g8 : mv_r g8 = mv_r h := s_g8.trans r_g6
            refine mv_goto (pc := 209) (tgt := 235) B d_Machine_perform_209 rfl ?_
            refine mv_lpick [3, 4, 0, 5] rfl ?_
            exact jn235 _ _ _ _ r_g8 hf
          have hf := xif_f h64n301 hf
          refine ⟨fun h64 => ?_, fun h64n302 => ?_⟩
          · skip
            have hf := xif_t h64 hf
            show mv_V _ _ _ _ _ _ _ _ _ _ _ _ _ _ _ _ 227 _ _
            refine mv_lpick [3, 4, 0, 5, 2, 1] rfl ?_
            exact jn227 _ _ _ _ _ _ r_hz hf
          have hf := xif_f h64n302 hf
          refine ⟨fun h64 => ?_, fun h64n303 => ?_⟩
          · skip
            have hf := xif_t h64 hf
            show mv_V _ _ _ _ _ _ _ _ _ _ _ _ _ _ _ _ 227 _ _
            refine mv_lpick [3, 4, 0, 5, 2, 1] rfl ?_
            exact jn227 _ _ _ _ _ _ r_hz hf
          have hf := xif_f h64n303 hf
          refine ⟨fun h64 => ?_, fun h64n304 => ?_⟩
          · skip
            have hf := xif_t h64 hf
            show mv_V _ _ _ _ _ _ _ _ _ _ _ _ _ _ _ _ 212 _ _
            refine mv_lpick [3, 4, 0, 5, 2, 1] rfl ?_
            exact jn212 _ _ _ _ _ _ r_hz hf
          have hf := xif_f h64n304 hf
          refine ⟨fun h64 => ?_, fun h64n305 => ?_⟩
          · skip
            have hf := xif_t h64 hf
            show mv_V _ _ _ _ _ _ _ _ _ _ _ _ _ _ _ _ 227 _ _
            refine mv_lpick [3, 4, 0, 5, 2, 1] rfl ?_
            exact jn227 _ _ _ _ _ _ r_hz hf
          have hf := xif_f h64n305 hf
          refine ⟨fun h64 => ?_, fun h64n306 => ?_⟩
          · skip
            have hf := xif_t h64 hf
            show mv_V _ _ _ _ _ _ _ _ _ _ _ _ _ _ _ _ 227 _ _
            refine mv_lpick [3, 4, 0, 5, 2, 1] rfl ?_
            exact jn227 _ _ _ _ _ _ r_hz hf
          have hf := xif_f h64n306 hf
          refine ⟨fun h64 => ?_, fun h64n307 => ?_⟩
          · skip
            have hf := xif_t h64 hf
            show mv_V _ _ _ _ _ _ _ _ _ _ _ _ _ _ _ _ 227 _ _
            refine mv_lpick [3, 4, 0, 5, 2, 1] rfl ?_
            exact jn227 _ _ _ _ _ _ r_hz hf
          have hf := xif_f h64n307 hf
          refine ⟨fun h64 => ?_, fun h64n308 => ?_⟩
          · skip
            have hf := xif_t h64 hf
            show mv_V _ _ _ _ _ _ _ _ _ _ _ _ _ _ _ _ 227 _ _
            refine mv_lpick [3, 4, 0, 5, 2, 1] rfl ?_
            exact jn227 _ _ _ _ _ _ r_hz hf
          have hf := xif_f h64n308 hf
          refine ⟨fun h64 => ?_, fun h64n309 => ?_⟩
          · skip
            have hf := xif_t h64 hf
            show mv_V _ _ _ _ _ _ _ _ _ _ _ _ _ _ _ _ 227 _ _
            refine mv_lpick [3, 4, 0, 5, 2, 1] rfl ?_
            exact jn227 _ _ _ _ _ _ r_hz hf
          have hf := xif_f h64n309 hf
          refine ⟨fun h64 => ?_, fun h64n310 => ?_⟩
          · skip
            have hf := xif_t h64 hf
            show mv_V _ _ _ _ _ _ _ _ _ _ _ _ _ _ _ _ 227 _ _
            refine mv_lpick [3, 4, 0, 5, 2, 1] rfl ?_
            exact jn227 _ _ _ _ _ _ r_hz hf
          have hf := xif_f h64n310 hf
          refine ⟨fun h64 => ?_, fun h64n311 => ?_⟩
          · skip
            have hf := xif_t h64 hf
            show mv_V _ _ _ _ _ _ _ _ _ _ _ _ _ _ _ _ 154 _ _
            refine mv_lload (pc := 154) B d_Machine_perform_154 1 rfl ?_
            refine mv_l2i (pc := 156) B d_Machine_perform_156 ?_
            refine mv_istore (pc := 157) B d_Machine_perform_157 (by decide) rfl ?_
            refine mv_goto (pc := 159) (tgt := 235) B d_Machine_perform_159 rfl ?_
            refine mv_lpick [3, 4, 0, 5] rfl ?_
            exact jn235 _ _ _ _ r_hz hf
          have hf := xif_f h64n311 hf
          refine ⟨fun h64 => ?_, fun h64n312 => ?_⟩
          · skip
            have hf := xif_t h64 hf
            show mv_V _ _ _ _ _ _ _ _ _ _ _ _ _ _ _ _ 162 _ _
            refine mv_aload_n (pc := 162) B d_Machine_perform_162 rfl 3 rfl ?_
            refine mv_dup (pc := 163) B d_Machine_perform_163 rfl ?_
            refine mv_getI (pc := 164) (ci := 9) (C := R_Machine) (T := F_Machine) (N := 13) B 4 rfl rfl (by decide) i_Machine (B.2.2.2.1 _ k_446) rfl d_Machine_perform_164 ?_
            refine mv_iconst (pc := 167) (v := 1) B d_Machine_perform_167 (by decide) ?_
            refine mv_isub (pc := 168) B d_Machine_perform_168 ?_
            refine mv_putI (pc := 169) (ci := 9) (C := R_Machine) (T := F_Machine) (N := 13) B 4 rfl rfl (by decide) i_Machine t_Machine_ok n_Machine (B.2.2.2.1 _ k_446) rfl rfl rfl rfl d_Machine_perform_169 ?_
            refine mvh_hp (R9 := mv_r h) hf r_hz (fun g9 hf r_g9 => ?_)
            refine mv_aload_n (pc := 172) B d_Machine_perform_172 rfl 3 rfl ?_
            refine mv_getR (pc := 173) (ci := 9) (C := R_Machine) (T := F_Machine) (N := 13) B 3 rfl rfl (by decide) i_Machine (B.2.2.2.1 _ k_445) rfl ((congrFun (congrFun r_g9 64) 3).trans (hb.1 64 3 _ rfl)) d_Machine_perform_173 ?_
            refine mv_aload_n (pc := 176) B d_Machine_perform_176 rfl 3 rfl ?_
            refine mv_getI (pc := 177) (ci := 9) (C := R_Machine) (T := F_Machine) (N := 13) B 4 rfl rfl (by decide) i_Machine (B.2.2.2.1 _ k_446) rfl d_Machine_perform_177 ?_
            obtain ⟨q10, hf⟩ := xvi_e hf
            refine mv_lald (pc := 180) B rfl q10 d_Machine_perform_180 ?_
            refine mv_lconst (pc := 181) (v := 0) B d_Machine_perform_181 (by decide) ?_
            refine mv_lcmp (pc := 182) B d_Machine_perform_182 ?_
            refine mv_if_ne (pc := 183) (tgt := 192) B d_Machine_perform_183 rfl (fun h183 => ?_) (fun h183 => ?_)
            · skip
              have hf := xif_f h183 hf
              refine mv_iload (pc := 192) B d_Machine_perform_192 0 rfl ?_
              refine mv_lpick [3, 4, 5] rfl ?_
              exact jn194 _ _ _ _ r_g9 hf
            · skip
              have hf := xif_t h183 hf
              refine mv_lload (pc := 186) B d_Machine_perform_186 1 rfl ?_
              refine mv_l2i (pc := 188) B d_Machine_perform_188 ?_
              refine mv_goto (pc := 189) (tgt := 194) B d_Machine_perform_189 rfl ?_
              refine mv_lpick [3, 4, 5] rfl ?_
              exact jn194 _ _ _ _ r_g9 hf
          have hf := xif_f h64n312 hf
          refine ⟨fun h64 => ?_, fun h64n313 => ?_⟩
          · skip
            have hf := xif_t h64 hf
            show mv_V _ _ _ _ _ _ _ _ _ _ _ _ _ _ _ _ 227 _ _
            refine mv_lpick [3, 4, 0, 5, 2, 1] rfl ?_
            exact jn227 _ _ _ _ _ _ r_hz hf
          have hf := xif_f h64n313 hf
          refine ⟨fun h64 => ?_, fun h64n314 => ?_⟩
          · skip
            have hf := xif_t h64 hf
            show mv_V _ _ _ _ _ _ _ _ _ _ _ _ _ _ _ _ 227 _ _
            refine mv_lpick [3, 4, 0, 5, 2, 1] rfl ?_
            exact jn227 _ _ _ _ _ _ r_hz hf
          have hf := xif_f h64n314 hf
          refine ⟨fun h64 => ?_, fun h64n315 => ?_⟩
          · skip
            have hf := xif_t h64 hf
            show mv_V _ _ _ _ _ _ _ _ _ _ _ _ _ _ _ _ 212 _ _
            refine mv_lpick [3, 4, 0, 5, 2, 1] rfl ?_
            exact jn212 _ _ _ _ _ _ r_hz hf
          have hf := xif_f h64n315 hf
          refine ⟨fun h64 => ?_, fun h64n316 => ?_⟩
          · skip
            have hf := xif_t h64 hf
            show mv_V _ _ _ _ _ _ _ _ _ _ _ _ _ _ _ _ 150 _ _
            refine mv_lload (pc := 150) B d_Machine_perform_150 1 rfl ?_
            refine mv_l2i (pc := 152) B d_Machine_perform_152 ?_
            exact mv_iret (pc := 153) B hr rfl d_Machine_perform_153 (Nat.le_refl _) (Nat.le_refl _) ⟨_, rfl, xrh_i hf r_hz⟩
          have hf := xif_f h64n316 hf
          refine ⟨fun h64 => ?_, fun h64n317 => ?_⟩
          · skip
            have hf := xif_t h64 hf
            show mv_V _ _ _ _ _ _ _ _ _ _ _ _ _ _ _ _ 148 _ _
            refine mv_iconst (pc := 148) (v := 0) B d_Machine_perform_148 (by decide) ?_
            exact mv_iret (pc := 149) B hr rfl d_Machine_perform_149 (Nat.le_refl _) (Nat.le_refl _) ⟨_, rfl, xrh_i hf r_hz⟩
          have hf := xif_f h64n317 hf
          show mv_V _ _ _ _ _ _ _ _ _ _ _ _ _ _ _ _ 227 _ _
          refine mv_lpick [3, 4, 0, 5, 2, 1] rfl ?_
          exact jn227 _ _ _ _ _ _ r_hz hf
  unfold f_Machine_perform at hf
  refine mv_aload_n (pc := 0) B d_Machine_perform_0 rfl 0 rfl ?_
  refine mv_iconst (pc := 1) (v := 0) B d_Machine_perform_1 (by decide) ?_
  refine mv_putI (pc := 2) (ci := 9) (C := R_Machine) (T := F_Machine) (N := 13) B 4 rfl rfl (by decide) i_Machine t_Machine_ok n_Machine (B.2.2.2.1 _ k_446) rfl rfl rfl rfl d_Machine_perform_2 ?_
  refine mvh_hp (R9 := mv_r h) hf rfl (fun g11 hf r_g11 => ?_)
  refine mv_iload_n (pc := 5) B d_Machine_perform_5 rfl 1 rfl ?_
  refine mv_istore (pc := 6) B d_Machine_perform_6 (by decide) rfl ?_
  refine mv_iconst (pc := 8) (v := 0) B d_Machine_perform_8 (by decide) ?_
  refine mv_istore (pc := 9) B d_Machine_perform_9 (by decide) rfl ?_
  refine mv_lpick [2, 4, 1, 0] rfl ?_
  exact lp11 _ _ _ _ _ r_g11 hf
set_option maxHeartbeats 4000000 in
set_option maxRecDepth 100000 in
theorem ch_Machine_perform_b (l : Launch) {dA : FieldType → ClassId} {D : va_G} {al : Nat → Nat} {ext : mv_Sh} {sk sv : Nat → Nat} (hi : mv_inj (mg dA D al ext)) (h : mv_H) (hb : Rf 48 (mv_r h))  (a0 : Int32) (a1 : Int64) {rv : Int32} {rg : mv_H} (hf : f_Machine_perform 48 h a0 a1 = some (rv, rg)) : mv_C l y_Machine_perform (Cond.code y_Machine_perform b_Machine_perform 9 (Option.some Jvm.ClassFile.FieldType.int) :: ma) ({ frames := 4, cells := 0, slots := 0, locals := 101 }) (mg dA D al ext) (mK sk sv) [.ref (al 64), .int a0, .long a1] h (mv_Ri (fun v σ1 => rv = v ∧ rg = σ1 ∧ mv_r σ1 = mv_r h)) := by
  refine mv_C.ofV (cc := b_Machine_perform) (nL := 9) (ret := (Option.some Jvm.ClassFile.FieldType.int)) (by decide +kernel) rfl hi (Nat.le_of_ble_eq_true rfl) ?_
  intro p e s m below meth c B hNs hr hnm hno
  have jn241 : ∀ (hz : mv_H), mv_r hz = mv_r h → f_Machine_perform_241 48  hz = some (rv, rg) → mv_V p l e ({ frames := 4, cells := 0, slots := 0, locals := 101 }) s m ([.ref (al 64), .int a0, .long a1] : List Value).toArray below meth c (mg dA D al ext) 9 0 0 (mv_Q (mg dA D al ext) below s 0 0 (mv_Ri (fun v σ1 => rv = v ∧ rg = σ1 ∧ mv_r σ1 = mv_r h))) hz 241 [] [] := by
    intro  hz r_hz hf
    unfold f_Machine_perform_241 at hf
    refine mv_iconst (pc := 241) (v := 0) B d_Machine_perform_241 (by decide) ?_
    exact mv_iret (pc := 242) B hr rfl d_Machine_perform_242 (Nat.le_refl _) (Nat.le_refl _) ⟨_, rfl, xrh_i hf r_hz⟩
  have lp11 : ∀ (nn11 : Nat) (x2 : Int64) (x4 : Int32) (x5 : Int32) (hz : mv_H), mv_r hz = mv_r h → f_Machine_perform_11 48 nn11 x2 x4 x5 hz = some (rv, rg) → mv_V p l e ({ frames := 4, cells := 0, slots := 0, locals := 101 }) s m ([.ref (al 64), .int a0, .long a1] : List Value).toArray below meth c (mg dA D al ext) 9 0 0 (mv_Q (mg dA D al ext) below s 0 0 (mv_Ri (fun v σ1 => rv = v ∧ rg = σ1 ∧ mv_r σ1 = mv_r h))) hz 11 [(0, .ref (al 64)), (2, .long x2), (4, .int x4), (5, .int x5)] [] := by
    intro nn11
    induction nn11 with
    | zero => intro x2 x4 x5 hz r_hz hf; cases hf
    | succ nn11 ih11 =>
      intro x2 x4 x5 hz r_hz hf
      have jn235 : ∀ (x2 : Int64) (x4 : Int32) (x5 : Int32) (hz : mv_H), mv_r hz = mv_r h → f_Machine_perform_235 48 (f_Machine_perform_11 48 nn11) x2 x4 x5 hz = some (rv, rg) → mv_V p l e ({ frames := 4, cells := 0, slots := 0, locals := 101 }) s m ([.ref (al 64), .int a0, .long a1] : List Value).toArray below meth c (mg dA D al ext) 9 0 0 (mv_Q (mg dA D al ext) below s 0 0 (mv_Ri (fun v σ1 => rv = v ∧ rg = σ1 ∧ mv_r σ1 = mv_r h))) hz 235 [(0, .ref (al 64)), (2, .long x2), (4, .int x4), (5, .int x5)] [] := by
        intro x2 x4 x5 hz r_hz hf
        unfold f_Machine_perform_235 at hf
        refine mv_iinc (pc := 235) (j := 3) (v := 1) B d_Machine_perform_235 rfl (by decide) (by decide) rfl ?_
        refine mv_goto (pc := 238) (tgt := 11) B d_Machine_perform_238 rfl ?_
        refine mv_lpick [1, 2, 3, 0] rfl ?_
        exact ih11 _ _ _ _ r_hz hf
      have jn227 : ∀ (x2 : Int64) (x4 : Int32) (x5 : Int32) (x6 : Int32) (x7 : Int64) (hz : mv_H), mv_r hz = mv_r h → f_Machine_perform_227 48 (f_Machine_perform_11 48 nn11) x2 x4 x5 x6 x7 hz = some (rv, rg) → mv_V p l e ({ frames := 4, cells := 0, slots := 0, locals := 101 }) s m ([.ref (al 64), .int a0, .long a1] : List Value).toArray below meth c (mg dA D al ext) 9 0 0 (mv_Q (mg dA D al ext) below s 0 0 (mv_Ri (fun v σ1 => rv = v ∧ rg = σ1 ∧ mv_r σ1 = mv_r h))) hz 227 [(0, .ref (al 64)), (2, .long x2), (4, .int x4), (5, .int x5), (6, .int x6), (7, .long x7)] [] := by
        intro x2 x4 x5 x6 x7 hz r_hz hf
        unfold f_Machine_perform_227 at hf
        refine mv_aload_n (pc := 227) B d_Machine_perform_227 rfl 0 rfl ?_
        refine mv_iload (pc := 228) B d_Machine_perform_228 4 rfl ?_
        refine mv_lload (pc := 230) B d_Machine_perform_230 5 rfl ?_
        obtain ⟨g1, eg1, hf⟩ := xhv_e hf
        refine mv_callVv (pc := 232) (n := 2) (ci := 9) (C := R_Machine) B (mK_ok sk sv) hNs rfl rfl (ch_Machine_work_b l hi _ (xrw r_hz hb) _ _ eg1) rfl (ma_goodc kc_Machine_work) (B.2.2.2.1 _ k_1605) (B.2.2.2.1 _ k_1607) (B.2.2.2.1 _ ks_74) (B.2.2.2.1 _ k_11) ⟨by decide +kernel, by decide +kernel, by decide +kernel⟩ rfl d_Machine_perform_232 rfl (Nat.le_of_ble_eq_true rfl) ⟨by decide, by decide⟩ ⟨by decide, by decide⟩ ⟨by decide, by decide⟩ (mv_noH hno _) (fun σ232 h232 => ?_)
        obtain ⟨rfl, s_g1⟩ := h232
        have r_g1 : mv_r g1 = mv_r h := s_g1.trans r_hz
        refine mv_lpick [0, 1, 2, 3] rfl ?_
        exact jn235 _ _ _ _ r_g1 hf
      have jn212 : ∀ (x2 : Int64) (x4 : Int32) (x5 : Int32) (x6 : Int32) (x7 : Int64) (hz : mv_H), mv_r hz = mv_r h → f_Machine_perform_212 48 (f_Machine_perform_11 48 nn11) x2 x4 x5 x6 x7 hz = some (rv, rg) → mv_V p l e ({ frames := 4, cells := 0, slots := 0, locals := 101 }) s m ([.ref (al 64), .int a0, .long a1] : List Value).toArray below meth c (mg dA D al ext) 9 0 0 (mv_Q (mg dA D al ext) below s 0 0 (mv_Ri (fun v σ1 => rv = v ∧ rg = σ1 ∧ mv_r σ1 = mv_r h))) hz 212 [(0, .ref (al 64)), (2, .long x2), (4, .int x4), (5, .int x5), (6, .int x6), (7, .long x7)] [] := by
        intro x2 x4 x5 x6 x7 hz r_hz hf
        unfold f_Machine_perform_212 at hf
        refine mv_aload_n (pc := 212) B d_Machine_perform_212 rfl 0 rfl ?_
        refine mv_iload (pc := 213) B d_Machine_perform_213 4 rfl ?_
        refine mv_lload (pc := 215) B d_Machine_perform_215 5 rfl ?_
        refine mv_l2i (pc := 217) B d_Machine_perform_217 ?_
        obtain ⟨v3, g2, eg2, hf⟩ := xhb_e hf
        refine mv_callVi (pc := 218) (n := 2) (ci := 9) (C := R_Machine) B (mK_ok sk sv) hNs rfl rfl (ch_Machine_ofCell_b l hi _ (xrw r_hz hb) _ _ eg2) rfl (ma_goodc kc_Machine_ofCell) (B.2.2.2.1 _ k_1588) (B.2.2.2.1 _ k_1590) (B.2.2.2.1 _ ks_71) (B.2.2.2.1 _ k_11) ⟨by decide +kernel, by decide +kernel, by decide +kernel⟩ rfl d_Machine_perform_218 rfl (Nat.le_of_ble_eq_true rfl) ⟨by decide, by decide⟩ ⟨by decide, by decide⟩ ⟨by decide, by decide⟩ (mv_noH hno _) (fun w218 σ218 h218 => ?_)
        obtain ⟨rfl, rfl, s_g2⟩ := h218
        have r_g2 : mv_r g2 = mv_r h := s_g2.trans r_hz
        refine mv_if_ne (pc := 221) (tgt := 235) B d_Machine_perform_221 rfl (fun h221 => ?_) (fun h221 => ?_)
        · skip
          have hf := xif_f h221 hf
          refine mv_lpick [0, 1, 2, 3] rfl ?_
          exact jn235 _ _ _ _ r_g2 hf
        · skip
          have hf := xif_t h221 hf
          refine mv_bipush (pc := 224) (v := -3) B d_Machine_perform_224 (by decide) ?_
          exact mv_iret (pc := 226) B hr rfl d_Machine_perform_226 (Nat.le_refl _) (Nat.le_refl _) ⟨_, rfl, xrh_i hf r_g2⟩
      have jn194 : ∀ (x2 : Int64) (x5 : Int32) (y0 : Int32) (hz : mv_H), mv_r hz = mv_r h → f_Machine_perform_194 48 (f_Machine_perform_11 48 nn11) x2 x5 y0 hz = some (rv, rg) → mv_V p l e ({ frames := 4, cells := 0, slots := 0, locals := 101 }) s m ([.ref (al 64), .int a0, .long a1] : List Value).toArray below meth c (mg dA D al ext) 9 0 0 (mv_Q (mg dA D al ext) below s 0 0 (mv_Ri (fun v σ1 => rv = v ∧ rg = σ1 ∧ mv_r σ1 = mv_r h))) hz 194 [(0, .ref (al 64)), (2, .long x2), (5, .int x5)] [.int y0] := by
        intro x2 x5 y0 hz r_hz hf
        unfold f_Machine_perform_194 at hf
        refine mv_istore (pc := 194) B d_Machine_perform_194 (by decide) rfl ?_
        refine mv_goto (pc := 196) (tgt := 235) B d_Machine_perform_196 rfl ?_
        refine mv_lpick [1, 2, 0, 3] rfl ?_
        exact jn235 _ _ _ _ r_hz hf
      have hf : fF_Machine_perform_11 48 (f_Machine_perform_11 48 nn11) x2 x4 x5 hz = some (rv, rg) := hf
      unfold fF_Machine_perform_11 at hf
      refine mv_iload (pc := 11) B d_Machine_perform_11 3 rfl ?_
      refine mv_aload_n (pc := 13) B d_Machine_perform_13 rfl 0 rfl ?_
      refine mv_getR (pc := 14) (ci := 9) (C := R_Machine) (T := F_Machine) (N := 13) B 0 rfl rfl (by decide) i_Machine (B.2.2.2.1 _ k_440) rfl ((congrFun (congrFun r_hz 64) 0).trans hb.2.2) d_Machine_perform_14 ?_
      refine mv_getI (pc := 17) (ci := 7) (C := R_Program) (T := F_Program) (N := 19) B 17 rfl rfl (by decide) i_Program (B.2.2.2.1 _ k_362) rfl d_Machine_perform_17 ?_
      refine mv_icmp_ge (pc := 20) (tgt := 241) B d_Machine_perform_20 rfl (fun h20 => ?_) (fun h20 => ?_)
      · skip
        have hf := xif_t h20 hf
        refine mv_lpick [] rfl ?_
        exact jn241  _ r_hz hf
      · skip
        have hf := xif_f h20 hf
        refine mv_iload (pc := 23) B d_Machine_perform_23 2 rfl ?_
        refine mv_aload_n (pc := 25) B d_Machine_perform_25 rfl 0 rfl ?_
        refine mv_getR (pc := 26) (ci := 9) (C := R_Machine) (T := F_Machine) (N := 13) B 0 rfl rfl (by decide) i_Machine (B.2.2.2.1 _ k_440) rfl ((congrFun (congrFun r_hz 64) 0).trans hb.2.2) d_Machine_perform_26 ?_
        refine mv_getI (pc := 29) (ci := 7) (C := R_Program) (T := F_Program) (N := 19) B 17 rfl rfl (by decide) i_Program (B.2.2.2.1 _ k_362) rfl d_Machine_perform_29 ?_
        refine mv_icmp_ge (pc := 32) (tgt := 241) B d_Machine_perform_32 rfl (fun h32 => ?_) (fun h32 => ?_)
        · skip
          have hf := xif_t h32 hf
          refine mv_lpick [] rfl ?_
          exact jn241  _ r_hz hf
        · skip
          have hf := xif_f h32 hf
          refine mv_aload_n (pc := 35) B d_Machine_perform_35 rfl 0 rfl ?_
          refine mv_getR (pc := 36) (ci := 9) (C := R_Machine) (T := F_Machine) (N := 13) B 0 rfl rfl (by decide) i_Machine (B.2.2.2.1 _ k_440) rfl ((congrFun (congrFun r_hz 64) 0).trans hb.2.2) d_Machine_perform_36 ?_
          refine mv_getR (pc := 39) (ci := 7) (C := R_Program) (T := F_Program) (N := 19) B 15 rfl rfl (by decide) i_Program (B.2.2.2.1 _ k_358) rfl ((congrFun (congrFun r_hz 48) 15).trans (hb.2.1 48 15 57 rfl)) d_Machine_perform_39 ?_
          refine mv_iload (pc := 42) B d_Machine_perform_42 2 rfl ?_
          obtain ⟨q4, hf⟩ := xvi_e hf
          refine mv_iald (pc := 44) B rfl q4 d_Machine_perform_44 ?_
          refine mv_istore (pc := 45) B d_Machine_perform_45 (by decide) rfl ?_
          refine mv_aload_n (pc := 47) B d_Machine_perform_47 rfl 1 rfl ?_
          refine mv_getR (pc := 48) (ci := 9) (C := R_Machine) (T := F_Machine) (N := 13) B 0 rfl rfl (by decide) i_Machine (B.2.2.2.1 _ k_440) rfl ((congrFun (congrFun r_hz 64) 0).trans hb.2.2) d_Machine_perform_48 ?_
          refine mv_getR (pc := 51) (ci := 7) (C := R_Program) (T := F_Program) (N := 19) B 16 rfl rfl (by decide) i_Program (B.2.2.2.1 _ k_360) rfl ((congrFun (congrFun r_hz 48) 16).trans (hb.2.1 48 16 58 rfl)) d_Machine_perform_51 ?_
          refine mv_iload (pc := 54) B d_Machine_perform_54 3 rfl ?_
          obtain ⟨q5, hf⟩ := xvi_e hf
          refine mv_lald (pc := 56) B rfl q5 d_Machine_perform_56 ?_
          refine mv_lstore (pc := 57) B d_Machine_perform_57 (by decide) rfl ?_
          refine mv_iinc (pc := 59) (j := 4) (v := 1) B d_Machine_perform_59 rfl (by decide) (by decide) rfl ?_
          refine mv_iload (pc := 62) B d_Machine_perform_62 2 rfl ?_
          refine mv_tsw (pc := 64) B d_Machine_perform_64 (by decide) (by decide) ?_
          refine ⟨fun h64 => ?_, fun h64n301 => ?_⟩
          · skip
            have hf := xif_t h64 hf
            show mv_V _ _ _ _ _ _ _ _ _ _ _ _ _ _ _ _ 199 _ _
            refine mv_aload_n (pc := 199) B d_Machine_perform_199 rfl 3 rfl ?_
            refine mv_lload_n (pc := 200) B d_Machine_perform_200 rfl 4 rfl ?_
            refine mv_lload (pc := 201) B d_Machine_perform_201 1 rfl ?_
            obtain ⟨v7, g6, eg6, hf⟩ := xhb_e hf
            refine mv_callSl (pc := 203) (n := 2) B (mK_ok sk sv) hNs (ch_Bits_gather l hi _ _ _ eg6) rfl (ma_goodc kc_Bits_gather) (B.2.2.2.1 _ k_1581) (B.2.2.2.1 _ k_1582) (B.2.2.2.1 _ k_33) ⟨by decide +kernel, by decide +kernel, by decide +kernel⟩ rfl d_Machine_perform_203 rfl (Nat.le_of_ble_eq_true rfl) ⟨by decide, by decide⟩ ⟨by decide, by decide⟩ ⟨by decide, by decide⟩ (mv_noH hno _) (fun w203 σ203 h203 => ?_)
            obtain ⟨rfl, rfl, s_g6⟩ := h203
            have r_g6 : mv_r g6 = mv_r h := s_g6.trans r_hz
            obtain ⟨g8, eg8, hf⟩ := xhv_e hf
            refine mv_callVv (pc := 206) (n := 1) (ci := 9) (C := R_Machine) B (mK_ok sk sv) hNs rfl rfl (ch_Machine_push_b l hi _ (xrw r_g6 hb) _ eg8) rfl (ma_goodc kc_Machine_push) (B.2.2.2.1 _ k_1584) (B.2.2.2.1 _ k_1586) (B.2.2.2.1 _ ks_70) (B.2.2.2.1 _ k_11) ⟨by decide +kernel, by decide +kernel, by decide +kernel⟩ rfl d_Machine_perform_206 rfl (Nat.le_of_ble_eq_true rfl) ⟨by decide, by decide⟩ ⟨by decide, by decide⟩ ⟨by decide, by decide⟩ (mv_noH hno _) (fun σ206 h206 => ?_)
            obtain ⟨rfl, s_g8⟩ := h206
            have r_g8 : mv_r g8 = mv_r h := s_g8.trans r_g6
            refine mv_goto (pc := 209) (tgt := 235) B d_Machine_perform_209 rfl ?_
            refine mv_lpick [3, 4, 0, 5] rfl ?_
            exact jn235 _ _ _ _ r_g8 hf
          have hf := xif_f h64n301 hf
          refine ⟨fun h64 => ?_, fun h64n302 => ?_⟩
          · skip
            have hf := xif_t h64 hf
            show mv_V _ _ _ _ _ _ _ _ _ _ _ _ _ _ _ _ 227 _ _
            refine mv_lpick [3, 4, 0, 5, 2, 1] rfl ?_
            exact jn227 _ _ _ _ _ _ r_hz hf
          have hf := xif_f h64n302 hf
          refine ⟨fun h64 => ?_, fun h64n303 => ?_⟩
          · skip
            have hf := xif_t h64 hf
            show mv_V _ _ _ _ _ _ _ _ _ _ _ _ _ _ _ _ 227 _ _
            refine mv_lpick [3, 4, 0, 5, 2, 1] rfl ?_
            exact jn227 _ _ _ _ _ _ r_hz hf
          have hf := xif_f h64n303 hf
          refine ⟨fun h64 => ?_, fun h64n304 => ?_⟩
          · skip
            have hf := xif_t h64 hf
            show mv_V _ _ _ _ _ _ _ _ _ _ _ _ _ _ _ _ 212 _ _
            refine mv_lpick [3, 4, 0, 5, 2, 1] rfl ?_
            exact jn212 _ _ _ _ _ _ r_hz hf
          have hf := xif_f h64n304 hf
          refine ⟨fun h64 => ?_, fun h64n305 => ?_⟩
          · skip
            have hf := xif_t h64 hf
            show mv_V _ _ _ _ _ _ _ _ _ _ _ _ _ _ _ _ 227 _ _
            refine mv_lpick [3, 4, 0, 5, 2, 1] rfl ?_
            exact jn227 _ _ _ _ _ _ r_hz hf
          have hf := xif_f h64n305 hf
          refine ⟨fun h64 => ?_, fun h64n306 => ?_⟩
          · skip
            have hf := xif_t h64 hf
            show mv_V _ _ _ _ _ _ _ _ _ _ _ _ _ _ _ _ 227 _ _
            refine mv_lpick [3, 4, 0, 5, 2, 1] rfl ?_
            exact jn227 _ _ _ _ _ _ r_hz hf
          have hf := xif_f h64n306 hf
          refine ⟨fun h64 => ?_, fun h64n307 => ?_⟩
          · skip
            have hf := xif_t h64 hf
            show mv_V _ _ _ _ _ _ _ _ _ _ _ _ _ _ _ _ 227 _ _
            refine mv_lpick [3, 4, 0, 5, 2, 1] rfl ?_
            exact jn227 _ _ _ _ _ _ r_hz hf
          have hf := xif_f h64n307 hf
          refine ⟨fun h64 => ?_, fun h64n308 => ?_⟩
          · skip
            have hf := xif_t h64 hf
            show mv_V _ _ _ _ _ _ _ _ _ _ _ _ _ _ _ _ 227 _ _
            refine mv_lpick [3, 4, 0, 5, 2, 1] rfl ?_
            exact jn227 _ _ _ _ _ _ r_hz hf
          have hf := xif_f h64n308 hf
          refine ⟨fun h64 => ?_, fun h64n309 => ?_⟩
          · skip
            have hf := xif_t h64 hf
            show mv_V _ _ _ _ _ _ _ _ _ _ _ _ _ _ _ _ 227 _ _
            refine mv_lpick [3, 4, 0, 5, 2, 1] rfl ?_
            exact jn227 _ _ _ _ _ _ r_hz hf
          have hf := xif_f h64n309 hf
          refine ⟨fun h64 => ?_, fun h64n310 => ?_⟩
          · skip
            have hf := xif_t h64 hf
            show mv_V _ _ _ _ _ _ _ _ _ _ _ _ _ _ _ _ 227 _ _
            refine mv_lpick [3, 4, 0, 5, 2, 1] rfl ?_
            exact jn227 _ _ _ _ _ _ r_hz hf
          have hf := xif_f h64n310 hf
          refine ⟨fun h64 => ?_, fun h64n311 => ?_⟩
          · skip
            have hf := xif_t h64 hf
            show mv_V _ _ _ _ _ _ _ _ _ _ _ _ _ _ _ _ 154 _ _
            refine mv_lload (pc := 154) B d_Machine_perform_154 1 rfl ?_
            refine mv_l2i (pc := 156) B d_Machine_perform_156 ?_
            refine mv_istore (pc := 157) B d_Machine_perform_157 (by decide) rfl ?_
            refine mv_goto (pc := 159) (tgt := 235) B d_Machine_perform_159 rfl ?_
            refine mv_lpick [3, 4, 0, 5] rfl ?_
            exact jn235 _ _ _ _ r_hz hf
          have hf := xif_f h64n311 hf
          refine ⟨fun h64 => ?_, fun h64n312 => ?_⟩
          · skip
            have hf := xif_t h64 hf
            show mv_V _ _ _ _ _ _ _ _ _ _ _ _ _ _ _ _ 162 _ _
            refine mv_aload_n (pc := 162) B d_Machine_perform_162 rfl 3 rfl ?_
            refine mv_dup (pc := 163) B d_Machine_perform_163 rfl ?_
            refine mv_getI (pc := 164) (ci := 9) (C := R_Machine) (T := F_Machine) (N := 13) B 4 rfl rfl (by decide) i_Machine (B.2.2.2.1 _ k_446) rfl d_Machine_perform_164 ?_
            refine mv_iconst (pc := 167) (v := 1) B d_Machine_perform_167 (by decide) ?_
            refine mv_isub (pc := 168) B d_Machine_perform_168 ?_
            refine mv_putI (pc := 169) (ci := 9) (C := R_Machine) (T := F_Machine) (N := 13) B 4 rfl rfl (by decide) i_Machine t_Machine_ok n_Machine (B.2.2.2.1 _ k_446) rfl rfl rfl rfl d_Machine_perform_169 ?_
            refine mvh_hp (R9 := mv_r h) hf r_hz (fun g9 hf r_g9 => ?_)
            refine mv_aload_n (pc := 172) B d_Machine_perform_172 rfl 3 rfl ?_
            refine mv_getR (pc := 173) (ci := 9) (C := R_Machine) (T := F_Machine) (N := 13) B 3 rfl rfl (by decide) i_Machine (B.2.2.2.1 _ k_445) rfl ((congrFun (congrFun r_g9 64) 3).trans (hb.1 64 3 _ rfl)) d_Machine_perform_173 ?_
            refine mv_aload_n (pc := 176) B d_Machine_perform_176 rfl 3 rfl ?_
            refine mv_getI (pc := 177) (ci := 9) (C := R_Machine) (T := F_Machine) (N := 13) B 4 rfl rfl (by decide) i_Machine (B.2.2.2.1 _ k_446) rfl d_Machine_perform_177 ?_
            obtain ⟨q10, hf⟩ := xvi_e hf
            refine mv_lald (pc := 180) B rfl q10 d_Machine_perform_180 ?_
            refine mv_lconst (pc := 181) (v := 0) B d_Machine_perform_181 (by decide) ?_
            refine mv_lcmp (pc := 182) B d_Machine_perform_182 ?_
            refine mv_if_ne (pc := 183) (tgt := 192) B d_Machine_perform_183 rfl (fun h183 => ?_) (fun h183 => ?_)
            · skip
              have hf := xif_f h183 hf
              refine mv_iload (pc := 192) B d_Machine_perform_192 0 rfl ?_
              refine mv_lpick [3, 4, 5] rfl ?_
              exact jn194 _ _ _ _ r_g9 hf
            · skip
              have hf := xif_t h183 hf
              refine mv_lload (pc := 186) B d_Machine_perform_186 1 rfl ?_
              refine mv_l2i (pc := 188) B d_Machine_perform_188 ?_
              refine mv_goto (pc := 189) (tgt := 194) B d_Machine_perform_189 rfl ?_
              refine mv_lpick [3, 4, 5] rfl ?_
              exact jn194 _ _ _ _ r_g9 hf
          have hf := xif_f h64n312 hf
          refine ⟨fun h64 => ?_, fun h64n313 => ?_⟩
          · skip
            have hf := xif_t h64 hf
            show mv_V _ _ _ _ _ _ _ _ _ _ _ _ _ _ _ _ 227 _ _
            refine mv_lpick [3, 4, 0, 5, 2, 1] rfl ?_
            exact jn227 _ _ _ _ _ _ r_hz hf
          have hf := xif_f h64n313 hf
          refine ⟨fun h64 => ?_, fun h64n314 => ?_⟩
          · skip
            have hf := xif_t h64 hf
            show mv_V _ _ _ _ _ _ _ _ _ _ _ _ _ _ _ _ 227 _ _
            refine mv_lpick [3, 4, 0, 5, 2, 1] rfl ?_
            exact jn227 _ _ _ _ _ _ r_hz hf
          have hf := xif_f h64n314 hf
          refine ⟨fun h64 => ?_, fun h64n315 => ?_⟩
          · skip
            have hf := xif_t h64 hf
            show mv_V _ _ _ _ _ _ _ _ _ _ _ _ _ _ _ _ 212 _ _
            refine mv_lpick [3, 4, 0, 5, 2, 1] rfl ?_
            exact jn212 _ _ _ _ _ _ r_hz hf
          have hf := xif_f h64n315 hf
          refine ⟨fun h64 => ?_, fun h64n316 => ?_⟩
          · skip
            have hf := xif_t h64 hf
            show mv_V _ _ _ _ _ _ _ _ _ _ _ _ _ _ _ _ 150 _ _
            refine mv_lload (pc := 150) B d_Machine_perform_150 1 rfl ?_
            refine mv_l2i (pc := 152) B d_Machine_perform_152 ?_
            exact mv_iret (pc := 153) B hr rfl d_Machine_perform_153 (Nat.le_refl _) (Nat.le_refl _) ⟨_, rfl, xrh_i hf r_hz⟩
          have hf := xif_f h64n316 hf
          refine ⟨fun h64 => ?_, fun h64n317 => ?_⟩
          · skip
            have hf := xif_t h64 hf
            show mv_V _ _ _ _ _ _ _ _ _ _ _ _ _ _ _ _ 148 _ _
            refine mv_iconst (pc := 148) (v := 0) B d_Machine_perform_148 (by decide) ?_
            exact mv_iret (pc := 149) B hr rfl d_Machine_perform_149 (Nat.le_refl _) (Nat.le_refl _) ⟨_, rfl, xrh_i hf r_hz⟩
          have hf := xif_f h64n317 hf
          show mv_V _ _ _ _ _ _ _ _ _ _ _ _ _ _ _ _ 227 _ _
          refine mv_lpick [3, 4, 0, 5, 2, 1] rfl ?_
          exact jn227 _ _ _ _ _ _ r_hz hf
  unfold f_Machine_perform at hf
  refine mv_aload_n (pc := 0) B d_Machine_perform_0 rfl 0 rfl ?_
  refine mv_iconst (pc := 1) (v := 0) B d_Machine_perform_1 (by decide) ?_
  refine mv_putI (pc := 2) (ci := 9) (C := R_Machine) (T := F_Machine) (N := 13) B 4 rfl rfl (by decide) i_Machine t_Machine_ok n_Machine (B.2.2.2.1 _ k_446) rfl rfl rfl rfl d_Machine_perform_2 ?_
  refine mvh_hp (R9 := mv_r h) hf rfl (fun g11 hf r_g11 => ?_)
  refine mv_iload_n (pc := 5) B d_Machine_perform_5 rfl 1 rfl ?_
  refine mv_istore (pc := 6) B d_Machine_perform_6 (by decide) rfl ?_
  refine mv_iconst (pc := 8) (v := 0) B d_Machine_perform_8 (by decide) ?_
  refine mv_istore (pc := 9) B d_Machine_perform_9 (by decide) rfl ?_
  refine mv_lpick [2, 4, 1, 0] rfl ?_
  exact lp11 _ _ _ _ _ r_g11 hf
def f_Machine_goForth (P : Nat) (h : mv_H) : Option mv_H := if (mv_i h P 8) < (0 : Int32) then (some h) else (if (mv_i h 64 8) = (0 : Int32) then (bif xvi (mv_i h P 8) 64 then bif xvi (mv_a h (P + 3) ((mv_i h P 8)).toNatClampNeg) 65600 then xhv (f_Machine_put P h (mv_i h P 8) (0 : Int32) ((mv_b h 65 ((mv_a h (P + 3) ((mv_i h P 8)).toNatClampNeg)).toNatClampNeg) + ((((mv_i h P 0) / (8 : Int32))).toInt64))) fun g3 => some g3 else none else none) else (some h))
set_option maxHeartbeats 4000000 in
set_option maxRecDepth 100000 in
theorem ch_Machine_goForth_a (l : Launch) {dA : FieldType → ClassId} {D : va_G} {al : Nat → Nat} {ext : mv_Sh} {sk sv : Nat → Nat} (hi : mv_inj (mg dA D al ext)) (h : mv_H) (hb : Rf 32 (mv_r h))  {rg : mv_H} (hf : f_Machine_goForth 32 h = some rg) : mv_C l y_Machine_goForth (Cond.code y_Machine_goForth b_Machine_goForth 2 (Option.none : Option Jvm.ClassFile.FieldType) :: ma) ({ frames := 2, cells := 0, slots := 0, locals := 44 }) (mg dA D al ext) (mK sk sv) [.ref (al 64)] h (mv_Rv (fun σ1 => rg = σ1 ∧ mv_r σ1 = mv_r h)) := by
  refine mv_C.ofV (cc := b_Machine_goForth) (nL := 2) (ret := (Option.none : Option Jvm.ClassFile.FieldType)) (by decide +kernel) rfl hi (Nat.le_of_ble_eq_true rfl) ?_
  intro p e s m below meth c B hNs hr hnm hno
  unfold f_Machine_goForth at hf
  refine mv_aload_n (pc := 0) B d_Machine_goForth_0 rfl 0 rfl ?_
  refine mv_getR (pc := 1) (ci := 9) (C := R_Machine) (T := F_Machine) (N := 13) B 0 rfl rfl (by decide) i_Machine (B.2.2.2.1 _ k_440) rfl hb.2.2 d_Machine_goForth_1 ?_
  refine mv_getI (pc := 4) (ci := 7) (C := R_Program) (T := F_Program) (N := 19) B 8 rfl rfl (by decide) i_Program (B.2.2.2.1 _ k_338) rfl d_Machine_goForth_4 ?_
  refine mv_istore_n (pc := 7) B d_Machine_goForth_7 rfl (by decide) rfl ?_
  refine mv_iload_n (pc := 8) B d_Machine_goForth_8 rfl 0 rfl ?_
  refine mv_if_lt (pc := 9) (tgt := 51) B d_Machine_goForth_9 rfl (fun h9 => ?_) (fun h9 => ?_)
  · skip
    have hf := xif_t h9 hf
    exact mv_vret (pc := 51) B hr d_Machine_goForth_51 (Nat.le_refl _) (Nat.le_refl _) ⟨rfl, xrh_v hf rfl⟩
  · skip
    have hf := xif_f h9 hf
    refine mv_aload_n (pc := 12) B d_Machine_goForth_12 rfl 1 rfl ?_
    refine mv_getI (pc := 13) (ci := 9) (C := R_Machine) (T := F_Machine) (N := 13) B 8 rfl rfl (by decide) i_Machine (B.2.2.2.1 _ k_450) rfl d_Machine_goForth_13 ?_
    refine mv_if_ne (pc := 16) (tgt := 51) B d_Machine_goForth_16 rfl (fun h16 => ?_) (fun h16 => ?_)
    · skip
      have hf := xif_f h16 hf
      exact mv_vret (pc := 51) B hr d_Machine_goForth_51 (Nat.le_refl _) (Nat.le_refl _) ⟨rfl, xrh_v hf rfl⟩
    · skip
      have hf := xif_t h16 hf
      refine mv_aload_n (pc := 19) B d_Machine_goForth_19 rfl 1 rfl ?_
      refine mv_iload_n (pc := 20) B d_Machine_goForth_20 rfl 0 rfl ?_
      refine mv_iconst (pc := 21) (v := 0) B d_Machine_goForth_21 (by decide) ?_
      refine mv_aload_n (pc := 22) B d_Machine_goForth_22 rfl 1 rfl ?_
      refine mv_getR (pc := 23) (ci := 9) (C := R_Machine) (T := F_Machine) (N := 13) B 1 rfl rfl (by decide) i_Machine (B.2.2.2.1 _ k_442) rfl (hb.1 64 1 _ rfl) d_Machine_goForth_23 ?_
      refine mv_aload_n (pc := 26) B d_Machine_goForth_26 rfl 1 rfl ?_
      refine mv_getR (pc := 27) (ci := 9) (C := R_Machine) (T := F_Machine) (N := 13) B 0 rfl rfl (by decide) i_Machine (B.2.2.2.1 _ k_440) rfl hb.2.2 d_Machine_goForth_27 ?_
      refine mv_getR (pc := 30) (ci := 7) (C := R_Program) (T := F_Program) (N := 19) B 4 rfl rfl (by decide) i_Program (B.2.2.2.1 _ k_327) rfl (hb.2.1 32 4 35 rfl) d_Machine_goForth_30 ?_
      refine mv_iload_n (pc := 33) B d_Machine_goForth_33 rfl 0 rfl ?_
      obtain ⟨q1, hf⟩ := xvi_e hf
      refine mv_iald (pc := 34) B rfl q1 d_Machine_goForth_34 ?_
      obtain ⟨q2, hf⟩ := xvi_e hf
      refine mv_lald (pc := 35) B rfl q2 d_Machine_goForth_35 ?_
      refine mv_aload_n (pc := 36) B d_Machine_goForth_36 rfl 1 rfl ?_
      refine mv_getR (pc := 37) (ci := 9) (C := R_Machine) (T := F_Machine) (N := 13) B 0 rfl rfl (by decide) i_Machine (B.2.2.2.1 _ k_440) rfl hb.2.2 d_Machine_goForth_37 ?_
      refine mv_getI (pc := 40) (ci := 7) (C := R_Program) (T := F_Program) (N := 19) B 0 rfl rfl (by decide) i_Program (B.2.2.2.1 _ k_312) rfl d_Machine_goForth_40 ?_
      refine mv_bipush (pc := 43) (v := 8) B d_Machine_goForth_43 (by decide) ?_
      refine mv_idiv (pc := 45) B d_Machine_goForth_45 (by decide) ?_
      refine mv_i2l (pc := 46) B d_Machine_goForth_46 ?_
      refine mv_ladd (pc := 47) B d_Machine_goForth_47 ?_
      obtain ⟨g3, eg3, hf⟩ := xhv_e hf
      refine mv_callVv (pc := 48) (n := 3) (ci := 9) (C := R_Machine) B (mK_ok sk sv) hNs rfl rfl (ch_Machine_put_a l hi _ (hb) _ _ _ eg3) rfl (ma_goodc kc_Machine_put) (B.2.2.2.1 _ k_1600) (B.2.2.2.1 _ k_1601) (B.2.2.2.1 _ k_1602) (B.2.2.2.1 _ k_11) ⟨by decide +kernel, by decide +kernel, by decide +kernel⟩ rfl d_Machine_goForth_48 rfl (Nat.le_of_ble_eq_true rfl) ⟨by decide, by decide⟩ ⟨by decide, by decide⟩ ⟨by decide, by decide⟩ (mv_noH hno _) (fun σ48 h48 => ?_)
      obtain ⟨rfl, s_g3⟩ := h48
      have r_g3 : mv_r g3 = mv_r h := s_g3.trans rfl
      exact mv_vret (pc := 51) B hr d_Machine_goForth_51 (Nat.le_refl _) (Nat.le_refl _) ⟨rfl, xrh_v hf r_g3⟩
set_option maxHeartbeats 4000000 in
set_option maxRecDepth 100000 in
theorem ch_Machine_goForth_b (l : Launch) {dA : FieldType → ClassId} {D : va_G} {al : Nat → Nat} {ext : mv_Sh} {sk sv : Nat → Nat} (hi : mv_inj (mg dA D al ext)) (h : mv_H) (hb : Rf 48 (mv_r h))  {rg : mv_H} (hf : f_Machine_goForth 48 h = some rg) : mv_C l y_Machine_goForth (Cond.code y_Machine_goForth b_Machine_goForth 2 (Option.none : Option Jvm.ClassFile.FieldType) :: ma) ({ frames := 2, cells := 0, slots := 0, locals := 44 }) (mg dA D al ext) (mK sk sv) [.ref (al 64)] h (mv_Rv (fun σ1 => rg = σ1 ∧ mv_r σ1 = mv_r h)) := by
  refine mv_C.ofV (cc := b_Machine_goForth) (nL := 2) (ret := (Option.none : Option Jvm.ClassFile.FieldType)) (by decide +kernel) rfl hi (Nat.le_of_ble_eq_true rfl) ?_
  intro p e s m below meth c B hNs hr hnm hno
  unfold f_Machine_goForth at hf
  refine mv_aload_n (pc := 0) B d_Machine_goForth_0 rfl 0 rfl ?_
  refine mv_getR (pc := 1) (ci := 9) (C := R_Machine) (T := F_Machine) (N := 13) B 0 rfl rfl (by decide) i_Machine (B.2.2.2.1 _ k_440) rfl hb.2.2 d_Machine_goForth_1 ?_
  refine mv_getI (pc := 4) (ci := 7) (C := R_Program) (T := F_Program) (N := 19) B 8 rfl rfl (by decide) i_Program (B.2.2.2.1 _ k_338) rfl d_Machine_goForth_4 ?_
  refine mv_istore_n (pc := 7) B d_Machine_goForth_7 rfl (by decide) rfl ?_
  refine mv_iload_n (pc := 8) B d_Machine_goForth_8 rfl 0 rfl ?_
  refine mv_if_lt (pc := 9) (tgt := 51) B d_Machine_goForth_9 rfl (fun h9 => ?_) (fun h9 => ?_)
  · skip
    have hf := xif_t h9 hf
    exact mv_vret (pc := 51) B hr d_Machine_goForth_51 (Nat.le_refl _) (Nat.le_refl _) ⟨rfl, xrh_v hf rfl⟩
  · skip
    have hf := xif_f h9 hf
    refine mv_aload_n (pc := 12) B d_Machine_goForth_12 rfl 1 rfl ?_
    refine mv_getI (pc := 13) (ci := 9) (C := R_Machine) (T := F_Machine) (N := 13) B 8 rfl rfl (by decide) i_Machine (B.2.2.2.1 _ k_450) rfl d_Machine_goForth_13 ?_
    refine mv_if_ne (pc := 16) (tgt := 51) B d_Machine_goForth_16 rfl (fun h16 => ?_) (fun h16 => ?_)
    · skip
      have hf := xif_f h16 hf
      exact mv_vret (pc := 51) B hr d_Machine_goForth_51 (Nat.le_refl _) (Nat.le_refl _) ⟨rfl, xrh_v hf rfl⟩
    · skip
      have hf := xif_t h16 hf
      refine mv_aload_n (pc := 19) B d_Machine_goForth_19 rfl 1 rfl ?_
      refine mv_iload_n (pc := 20) B d_Machine_goForth_20 rfl 0 rfl ?_
      refine mv_iconst (pc := 21) (v := 0) B d_Machine_goForth_21 (by decide) ?_
      refine mv_aload_n (pc := 22) B d_Machine_goForth_22 rfl 1 rfl ?_
      refine mv_getR (pc := 23) (ci := 9) (C := R_Machine) (T := F_Machine) (N := 13) B 1 rfl rfl (by decide) i_Machine (B.2.2.2.1 _ k_442) rfl (hb.1 64 1 _ rfl) d_Machine_goForth_23 ?_
      refine mv_aload_n (pc := 26) B d_Machine_goForth_26 rfl 1 rfl ?_
      refine mv_getR (pc := 27) (ci := 9) (C := R_Machine) (T := F_Machine) (N := 13) B 0 rfl rfl (by decide) i_Machine (B.2.2.2.1 _ k_440) rfl hb.2.2 d_Machine_goForth_27 ?_
      refine mv_getR (pc := 30) (ci := 7) (C := R_Program) (T := F_Program) (N := 19) B 4 rfl rfl (by decide) i_Program (B.2.2.2.1 _ k_327) rfl (hb.2.1 48 4 51 rfl) d_Machine_goForth_30 ?_
      refine mv_iload_n (pc := 33) B d_Machine_goForth_33 rfl 0 rfl ?_
      obtain ⟨q1, hf⟩ := xvi_e hf
      refine mv_iald (pc := 34) B rfl q1 d_Machine_goForth_34 ?_
      obtain ⟨q2, hf⟩ := xvi_e hf
      refine mv_lald (pc := 35) B rfl q2 d_Machine_goForth_35 ?_
      refine mv_aload_n (pc := 36) B d_Machine_goForth_36 rfl 1 rfl ?_
      refine mv_getR (pc := 37) (ci := 9) (C := R_Machine) (T := F_Machine) (N := 13) B 0 rfl rfl (by decide) i_Machine (B.2.2.2.1 _ k_440) rfl hb.2.2 d_Machine_goForth_37 ?_
      refine mv_getI (pc := 40) (ci := 7) (C := R_Program) (T := F_Program) (N := 19) B 0 rfl rfl (by decide) i_Program (B.2.2.2.1 _ k_312) rfl d_Machine_goForth_40 ?_
      refine mv_bipush (pc := 43) (v := 8) B d_Machine_goForth_43 (by decide) ?_
      refine mv_idiv (pc := 45) B d_Machine_goForth_45 (by decide) ?_
      refine mv_i2l (pc := 46) B d_Machine_goForth_46 ?_
      refine mv_ladd (pc := 47) B d_Machine_goForth_47 ?_
      obtain ⟨g3, eg3, hf⟩ := xhv_e hf
      refine mv_callVv (pc := 48) (n := 3) (ci := 9) (C := R_Machine) B (mK_ok sk sv) hNs rfl rfl (ch_Machine_put_b l hi _ (hb) _ _ _ eg3) rfl (ma_goodc kc_Machine_put) (B.2.2.2.1 _ k_1600) (B.2.2.2.1 _ k_1601) (B.2.2.2.1 _ k_1602) (B.2.2.2.1 _ k_11) ⟨by decide +kernel, by decide +kernel, by decide +kernel⟩ rfl d_Machine_goForth_48 rfl (Nat.le_of_ble_eq_true rfl) ⟨by decide, by decide⟩ ⟨by decide, by decide⟩ ⟨by decide, by decide⟩ (mv_noH hno _) (fun σ48 h48 => ?_)
      obtain ⟨rfl, s_g3⟩ := h48
      have r_g3 : mv_r g3 = mv_r h := s_g3.trans rfl
      exact mv_vret (pc := 51) B hr d_Machine_goForth_51 (Nat.le_refl _) (Nat.le_refl _) ⟨rfl, xrh_v hf r_g3⟩
def fF_Machine_undo_7 (P : Nat) (k7 : Int32 → mv_H → Option mv_H) (x1 : Int32) (hz : mv_H) : Option mv_H := if x1 < (0 : Int32) then (some hz) else (bif xvi x1 8193 then bif xvi x1 8193 then bif xvi (mv_a hz 68 (x1).toNatClampNeg) 65600 then xk (mv_sb hz 65 ((mv_a hz 68 (x1).toNatClampNeg)).toNatClampNeg (mv_b hz 69 (x1).toNatClampNeg)) fun g4 => k7 (x1 + (-1)) g4 else none else none else none)
def f_Machine_undo_7 (P : Nat) : Nat → Int32 → mv_H → Option mv_H
  | 0 => fun _ _ => none
  | nn + 1 => fF_Machine_undo_7 P (f_Machine_undo_7 P nn)
def f_Machine_undo (P : Nat) (h : mv_H) : Option mv_H := f_Machine_undo_7 P 200000 ((mv_i h 64 7) - (1 : Int32)) h
set_option maxHeartbeats 4000000 in
set_option maxRecDepth 100000 in
theorem ch_Machine_undo_a (l : Launch) {dA : FieldType → ClassId} {D : va_G} {al : Nat → Nat} {ext : mv_Sh} {sk sv : Nat → Nat} (hi : mv_inj (mg dA D al ext)) (h : mv_H) (hb : Rf 32 (mv_r h))  {rg : mv_H} (hf : f_Machine_undo 32 h = some rg) : mv_C l y_Machine_undo (Cond.code y_Machine_undo b_Machine_undo 2 (Option.none : Option Jvm.ClassFile.FieldType) :: ma) ({ frames := 0, cells := 0, slots := 0, locals := 0 }) (mg dA D al ext) (mK sk sv) [.ref (al 64)] h (mv_Rv (fun σ1 => rg = σ1 ∧ mv_r σ1 = mv_r h)) := by
  refine mv_C.ofV (cc := b_Machine_undo) (nL := 2) (ret := (Option.none : Option Jvm.ClassFile.FieldType)) (by decide +kernel) rfl hi (Nat.le_of_ble_eq_true rfl) ?_
  intro p e s m below meth c B hNs hr hnm hno
  have lp7 : ∀ (nn7 : Nat) (x1 : Int32) (hz : mv_H), mv_r hz = mv_r h → f_Machine_undo_7 32 nn7 x1 hz = some rg → mv_V p l e ({ frames := 0, cells := 0, slots := 0, locals := 0 }) s m ([.ref (al 64)] : List Value).toArray below meth c (mg dA D al ext) 2 0 0 (mv_Q (mg dA D al ext) below s 0 0 (mv_Rv (fun σ1 => rg = σ1 ∧ mv_r σ1 = mv_r h))) hz 7 [(0, .ref (al 64)), (1, .int x1)] [] := by
    intro nn7
    induction nn7 with
    | zero => intro x1 hz r_hz hf; cases hf
    | succ nn7 ih7 =>
      intro x1 hz r_hz hf
      have hf : fF_Machine_undo_7 32 (f_Machine_undo_7 32 nn7) x1 hz = some rg := hf
      unfold fF_Machine_undo_7 at hf
      refine mv_iload_n (pc := 7) B d_Machine_undo_7 rfl 1 rfl ?_
      refine mv_if_lt (pc := 8) (tgt := 34) B d_Machine_undo_8 rfl (fun h8 => ?_) (fun h8 => ?_)
      · skip
        have hf := xif_t h8 hf
        exact mv_vret (pc := 34) B hr d_Machine_undo_34 (Nat.le_refl _) (Nat.le_refl _) ⟨rfl, xrh_v hf r_hz⟩
      · skip
        have hf := xif_f h8 hf
        refine mv_aload_n (pc := 11) B d_Machine_undo_11 rfl 0 rfl ?_
        refine mv_getR (pc := 12) (ci := 9) (C := R_Machine) (T := F_Machine) (N := 13) B 1 rfl rfl (by decide) i_Machine (B.2.2.2.1 _ k_442) rfl ((congrFun (congrFun r_hz 64) 1).trans (hb.1 64 1 _ rfl)) d_Machine_undo_12 ?_
        refine mv_aload_n (pc := 15) B d_Machine_undo_15 rfl 0 rfl ?_
        refine mv_getR (pc := 16) (ci := 9) (C := R_Machine) (T := F_Machine) (N := 13) B 5 rfl rfl (by decide) i_Machine (B.2.2.2.1 _ k_447) rfl ((congrFun (congrFun r_hz 64) 5).trans (hb.1 64 5 _ rfl)) d_Machine_undo_16 ?_
        refine mv_iload_n (pc := 19) B d_Machine_undo_19 rfl 1 rfl ?_
        obtain ⟨q1, hf⟩ := xvi_e hf
        refine mv_iald (pc := 20) B rfl q1 d_Machine_undo_20 ?_
        refine mv_aload_n (pc := 21) B d_Machine_undo_21 rfl 0 rfl ?_
        refine mv_getR (pc := 22) (ci := 9) (C := R_Machine) (T := F_Machine) (N := 13) B 6 rfl rfl (by decide) i_Machine (B.2.2.2.1 _ k_448) rfl ((congrFun (congrFun r_hz 64) 6).trans (hb.1 64 6 _ rfl)) d_Machine_undo_22 ?_
        refine mv_iload_n (pc := 25) B d_Machine_undo_25 rfl 1 rfl ?_
        obtain ⟨q2, hf⟩ := xvi_e hf
        refine mv_lald (pc := 26) B rfl q2 d_Machine_undo_26 ?_
        obtain ⟨q3, hf⟩ := xvi_e hf
        refine mv_last (pc := 27) B rfl q3 d_Machine_undo_27 ?_
        refine mvh_hp (R9 := mv_r h) hf r_hz (fun g4 hf r_g4 => ?_)
        refine mv_iinc (pc := 28) (j := 1) (v := -1) B d_Machine_undo_28 rfl (by decide) (by decide) rfl ?_
        refine mv_goto (pc := 31) (tgt := 7) B d_Machine_undo_31 rfl ?_
        refine mv_lpick [1, 0] rfl ?_
        exact ih7 _ _ r_g4 hf
  unfold f_Machine_undo at hf
  refine mv_aload_n (pc := 0) B d_Machine_undo_0 rfl 0 rfl ?_
  refine mv_getI (pc := 1) (ci := 9) (C := R_Machine) (T := F_Machine) (N := 13) B 7 rfl rfl (by decide) i_Machine (B.2.2.2.1 _ k_449) rfl d_Machine_undo_1 ?_
  refine mv_iconst (pc := 4) (v := 1) B d_Machine_undo_4 (by decide) ?_
  refine mv_isub (pc := 5) B d_Machine_undo_5 ?_
  refine mv_istore_n (pc := 6) B d_Machine_undo_6 rfl (by decide) rfl ?_
  refine mv_lpick [1, 0] rfl ?_
  exact lp7 _ _ _ rfl hf
set_option maxHeartbeats 4000000 in
set_option maxRecDepth 100000 in
theorem ch_Machine_undo_b (l : Launch) {dA : FieldType → ClassId} {D : va_G} {al : Nat → Nat} {ext : mv_Sh} {sk sv : Nat → Nat} (hi : mv_inj (mg dA D al ext)) (h : mv_H) (hb : Rf 48 (mv_r h))  {rg : mv_H} (hf : f_Machine_undo 48 h = some rg) : mv_C l y_Machine_undo (Cond.code y_Machine_undo b_Machine_undo 2 (Option.none : Option Jvm.ClassFile.FieldType) :: ma) ({ frames := 0, cells := 0, slots := 0, locals := 0 }) (mg dA D al ext) (mK sk sv) [.ref (al 64)] h (mv_Rv (fun σ1 => rg = σ1 ∧ mv_r σ1 = mv_r h)) := by
  refine mv_C.ofV (cc := b_Machine_undo) (nL := 2) (ret := (Option.none : Option Jvm.ClassFile.FieldType)) (by decide +kernel) rfl hi (Nat.le_of_ble_eq_true rfl) ?_
  intro p e s m below meth c B hNs hr hnm hno
  have lp7 : ∀ (nn7 : Nat) (x1 : Int32) (hz : mv_H), mv_r hz = mv_r h → f_Machine_undo_7 48 nn7 x1 hz = some rg → mv_V p l e ({ frames := 0, cells := 0, slots := 0, locals := 0 }) s m ([.ref (al 64)] : List Value).toArray below meth c (mg dA D al ext) 2 0 0 (mv_Q (mg dA D al ext) below s 0 0 (mv_Rv (fun σ1 => rg = σ1 ∧ mv_r σ1 = mv_r h))) hz 7 [(0, .ref (al 64)), (1, .int x1)] [] := by
    intro nn7
    induction nn7 with
    | zero => intro x1 hz r_hz hf; cases hf
    | succ nn7 ih7 =>
      intro x1 hz r_hz hf
      have hf : fF_Machine_undo_7 48 (f_Machine_undo_7 48 nn7) x1 hz = some rg := hf
      unfold fF_Machine_undo_7 at hf
      refine mv_iload_n (pc := 7) B d_Machine_undo_7 rfl 1 rfl ?_
      refine mv_if_lt (pc := 8) (tgt := 34) B d_Machine_undo_8 rfl (fun h8 => ?_) (fun h8 => ?_)
      · skip
        have hf := xif_t h8 hf
        exact mv_vret (pc := 34) B hr d_Machine_undo_34 (Nat.le_refl _) (Nat.le_refl _) ⟨rfl, xrh_v hf r_hz⟩
      · skip
        have hf := xif_f h8 hf
        refine mv_aload_n (pc := 11) B d_Machine_undo_11 rfl 0 rfl ?_
        refine mv_getR (pc := 12) (ci := 9) (C := R_Machine) (T := F_Machine) (N := 13) B 1 rfl rfl (by decide) i_Machine (B.2.2.2.1 _ k_442) rfl ((congrFun (congrFun r_hz 64) 1).trans (hb.1 64 1 _ rfl)) d_Machine_undo_12 ?_
        refine mv_aload_n (pc := 15) B d_Machine_undo_15 rfl 0 rfl ?_
        refine mv_getR (pc := 16) (ci := 9) (C := R_Machine) (T := F_Machine) (N := 13) B 5 rfl rfl (by decide) i_Machine (B.2.2.2.1 _ k_447) rfl ((congrFun (congrFun r_hz 64) 5).trans (hb.1 64 5 _ rfl)) d_Machine_undo_16 ?_
        refine mv_iload_n (pc := 19) B d_Machine_undo_19 rfl 1 rfl ?_
        obtain ⟨q1, hf⟩ := xvi_e hf
        refine mv_iald (pc := 20) B rfl q1 d_Machine_undo_20 ?_
        refine mv_aload_n (pc := 21) B d_Machine_undo_21 rfl 0 rfl ?_
        refine mv_getR (pc := 22) (ci := 9) (C := R_Machine) (T := F_Machine) (N := 13) B 6 rfl rfl (by decide) i_Machine (B.2.2.2.1 _ k_448) rfl ((congrFun (congrFun r_hz 64) 6).trans (hb.1 64 6 _ rfl)) d_Machine_undo_22 ?_
        refine mv_iload_n (pc := 25) B d_Machine_undo_25 rfl 1 rfl ?_
        obtain ⟨q2, hf⟩ := xvi_e hf
        refine mv_lald (pc := 26) B rfl q2 d_Machine_undo_26 ?_
        obtain ⟨q3, hf⟩ := xvi_e hf
        refine mv_last (pc := 27) B rfl q3 d_Machine_undo_27 ?_
        refine mvh_hp (R9 := mv_r h) hf r_hz (fun g4 hf r_g4 => ?_)
        refine mv_iinc (pc := 28) (j := 1) (v := -1) B d_Machine_undo_28 rfl (by decide) (by decide) rfl ?_
        refine mv_goto (pc := 31) (tgt := 7) B d_Machine_undo_31 rfl ?_
        refine mv_lpick [1, 0] rfl ?_
        exact ih7 _ _ r_g4 hf
  unfold f_Machine_undo at hf
  refine mv_aload_n (pc := 0) B d_Machine_undo_0 rfl 0 rfl ?_
  refine mv_getI (pc := 1) (ci := 9) (C := R_Machine) (T := F_Machine) (N := 13) B 7 rfl rfl (by decide) i_Machine (B.2.2.2.1 _ k_449) rfl d_Machine_undo_1 ?_
  refine mv_iconst (pc := 4) (v := 1) B d_Machine_undo_4 (by decide) ?_
  refine mv_isub (pc := 5) B d_Machine_undo_5 ?_
  refine mv_istore_n (pc := 6) B d_Machine_undo_6 rfl (by decide) rfl ?_
  refine mv_lpick [1, 0] rfl ?_
  exact lp7 _ _ _ rfl hf
def f_Machine_opOf_96 (P : Nat) (k27 : Int64 → Int32 → Int32 → Int32 → mv_H → Option (Int32 × mv_H)) (x1 : Int64) (x4 : Int32) (x5 : Int32) (x6 : Int32) (hz : mv_H) : Option (Int32 × mv_H) := k27 x1 x4 x5 (x6 + 1) hz
def fF_Machine_opOf_27 (P : Nat) (k27 : Int64 → Int32 → Int32 → Int32 → mv_H → Option (Int32 × mv_H)) (x1 : Int64) (x4 : Int32) (x5 : Int32) (x6 : Int32) (hz : mv_H) : Option (Int32 × mv_H) := bif xvi x4 1025 then if (mv_a hz (P + 15) (x4).toNatClampNeg) ≤ x6 then (some (x5, hz)) else (bif xvi x6 512 then bif xvi (mv_a hz (P + 12) (x6).toNatClampNeg) 512 then bif xvi (mv_a hz (P + 12) (x6).toNatClampNeg) 512 then if (lg_cmp (x1 &&& (mv_b hz (P + 5) ((mv_a hz (P + 12) (x6).toNatClampNeg)).toNatClampNeg)) (mv_b hz (P + 6) ((mv_a hz (P + 12) (x6).toNatClampNeg)).toNatClampNeg)) = (0 : Int32) then (if x5 < (0 : Int32) then (f_Machine_opOf_96 P k27 x1 x4 (mv_a hz (P + 12) (x6).toNatClampNeg) x6 hz) else (xk (mv_si hz 64 12 ((mv_i hz 64 12) + (1 : Int32))) fun g5 => f_Machine_opOf_96 P k27 x1 x4 x5 x6 g5)) else (f_Machine_opOf_96 P k27 x1 x4 x5 x6 hz) else none else none else none) else none
def f_Machine_opOf_27 (P : Nat) : Nat → Int64 → Int32 → Int32 → Int32 → mv_H → Option (Int32 × mv_H)
  | 0 => fun _ _ _ _ _ => none
  | nn + 1 => fF_Machine_opOf_27 P (f_Machine_opOf_27 P nn)
def f_Machine_opOf (P : Nat) (h : mv_H) (a0 : Int64) : Option (Int32 × mv_H) := xhb (f_Tree_leafOf P h a0) fun v7 g6 => bif xvi v7 1025 then f_Machine_opOf_27 P 200000 a0 v7 (-1 : Int32) (mv_a g6 (P + 14) (v7).toNatClampNeg) g6 else none
set_option maxHeartbeats 4000000 in
set_option maxRecDepth 100000 in
theorem ch_Machine_opOf_a (l : Launch) {dA : FieldType → ClassId} {D : va_G} {al : Nat → Nat} {ext : mv_Sh} {sk sv : Nat → Nat} (hi : mv_inj (mg dA D al ext)) (h : mv_H) (hb : Rf 32 (mv_r h))  (a0 : Int64) {rv : Int32} {rg : mv_H} (hf : f_Machine_opOf 32 h a0 = some (rv, rg)) : mv_C l y_Machine_opOf (Cond.code y_Machine_opOf b_Machine_opOf 8 (Option.some Jvm.ClassFile.FieldType.int) :: ma) ({ frames := 1, cells := 0, slots := 0, locals := 24 }) (mg dA D al ext) (mK sk sv) [.ref (al 64), .long a0] h (mv_Ri (fun v σ1 => rv = v ∧ rg = σ1 ∧ mv_r σ1 = mv_r h)) := by
  refine mv_C.ofV (cc := b_Machine_opOf) (nL := 8) (ret := (Option.some Jvm.ClassFile.FieldType.int)) (by decide +kernel) rfl hi (Nat.le_of_ble_eq_true rfl) ?_
  intro p e s m below meth c B hNs hr hnm hno
  have lp27 : ∀ (nn27 : Nat) (x1 : Int64) (x4 : Int32) (x5 : Int32) (x6 : Int32) (hz : mv_H), mv_r hz = mv_r h → f_Machine_opOf_27 32 nn27 x1 x4 x5 x6 hz = some (rv, rg) → mv_V p l e ({ frames := 1, cells := 0, slots := 0, locals := 24 }) s m ([.ref (al 64), .long a0] : List Value).toArray below meth c (mg dA D al ext) 8 0 0 (mv_Q (mg dA D al ext) below s 0 0 (mv_Ri (fun v σ1 => rv = v ∧ rg = σ1 ∧ mv_r σ1 = mv_r h))) hz 27 [(0, .ref (al 64)), (1, .long x1), (3, .ref (al 43)), (4, .int x4), (5, .int x5), (6, .int x6)] [] := by
    intro nn27
    induction nn27 with
    | zero => intro x1 x4 x5 x6 hz r_hz hf; cases hf
    | succ nn27 ih27 =>
      intro x1 x4 x5 x6 hz r_hz hf
      have jn96 : ∀ (x1 : Int64) (x4 : Int32) (x5 : Int32) (x6 : Int32) (hz : mv_H), mv_r hz = mv_r h → f_Machine_opOf_96 32 (f_Machine_opOf_27 32 nn27) x1 x4 x5 x6 hz = some (rv, rg) → mv_V p l e ({ frames := 1, cells := 0, slots := 0, locals := 24 }) s m ([.ref (al 64), .long a0] : List Value).toArray below meth c (mg dA D al ext) 8 0 0 (mv_Q (mg dA D al ext) below s 0 0 (mv_Ri (fun v σ1 => rv = v ∧ rg = σ1 ∧ mv_r σ1 = mv_r h))) hz 96 [(0, .ref (al 64)), (1, .long x1), (3, .ref (al 43)), (4, .int x4), (5, .int x5), (6, .int x6)] [] := by
        intro x1 x4 x5 x6 hz r_hz hf
        unfold f_Machine_opOf_96 at hf
        refine mv_iinc (pc := 96) (j := 5) (v := 1) B d_Machine_opOf_96 rfl (by decide) (by decide) rfl ?_
        refine mv_goto (pc := 99) (tgt := 27) B d_Machine_opOf_99 rfl ?_
        refine mv_lpick [1, 2, 3, 4, 5, 0] rfl ?_
        exact ih27 _ _ _ _ _ r_hz hf
      have hf : fF_Machine_opOf_27 32 (f_Machine_opOf_27 32 nn27) x1 x4 x5 x6 hz = some (rv, rg) := hf
      unfold fF_Machine_opOf_27 at hf
      refine mv_iload (pc := 27) B d_Machine_opOf_27 5 rfl ?_
      refine mv_aload_n (pc := 29) B d_Machine_opOf_29 rfl 2 rfl ?_
      refine mv_getR (pc := 30) (ci := 8) (C := R_Tree) (T := F_Tree) (N := 5) B 3 rfl rfl (by decide) i_Tree (B.2.2.2.1 _ k_297) rfl ((congrFun (congrFun r_hz 43) 3).trans (hb.2.1 43 3 47 rfl)) d_Machine_opOf_30 ?_
      refine mv_iload (pc := 33) B d_Machine_opOf_33 3 rfl ?_
      obtain ⟨q1, hf⟩ := xvi_e hf
      refine mv_iald (pc := 35) B rfl q1 d_Machine_opOf_35 ?_
      refine mv_icmp_ge (pc := 36) (tgt := 102) B d_Machine_opOf_36 rfl (fun h36 => ?_) (fun h36 => ?_)
      · skip
        have hf := xif_t h36 hf
        refine mv_iload (pc := 102) B d_Machine_opOf_102 4 rfl ?_
        exact mv_iret (pc := 104) B hr rfl d_Machine_opOf_104 (Nat.le_refl _) (Nat.le_refl _) ⟨_, rfl, xrh_i hf r_hz⟩
      · skip
        have hf := xif_f h36 hf
        refine mv_aload_n (pc := 39) B d_Machine_opOf_39 rfl 2 rfl ?_
        refine mv_getR (pc := 40) (ci := 8) (C := R_Tree) (T := F_Tree) (N := 5) B 0 rfl rfl (by decide) i_Tree (B.2.2.2.1 _ k_292) rfl ((congrFun (congrFun r_hz 43) 0).trans (hb.2.1 43 0 44 rfl)) d_Machine_opOf_40 ?_
        refine mv_iload (pc := 43) B d_Machine_opOf_43 5 rfl ?_
        obtain ⟨q2, hf⟩ := xvi_e hf
        refine mv_iald (pc := 45) B rfl q2 d_Machine_opOf_45 ?_
        refine mv_istore (pc := 46) B d_Machine_opOf_46 (by decide) rfl ?_
        refine mv_lload_n (pc := 48) B d_Machine_opOf_48 rfl 2 rfl ?_
        refine mv_aload_n (pc := 49) B d_Machine_opOf_49 rfl 1 rfl ?_
        refine mv_getR (pc := 50) (ci := 9) (C := R_Machine) (T := F_Machine) (N := 13) B 0 rfl rfl (by decide) i_Machine (B.2.2.2.1 _ k_440) rfl ((congrFun (congrFun r_hz 64) 0).trans hb.2.2) d_Machine_opOf_50 ?_
        refine mv_getR (pc := 53) (ci := 7) (C := R_Program) (T := F_Program) (N := 19) B 11 rfl rfl (by decide) i_Program (B.2.2.2.1 _ k_350) rfl ((congrFun (congrFun r_hz 32) 11).trans (hb.2.1 32 11 37 rfl)) d_Machine_opOf_53 ?_
        refine mv_iload (pc := 56) B d_Machine_opOf_56 0 rfl ?_
        obtain ⟨q3, hf⟩ := xvi_e hf
        refine mv_lald (pc := 58) B rfl q3 d_Machine_opOf_58 ?_
        refine mv_land (pc := 59) B d_Machine_opOf_59 ?_
        refine mv_aload_n (pc := 60) B d_Machine_opOf_60 rfl 1 rfl ?_
        refine mv_getR (pc := 61) (ci := 9) (C := R_Machine) (T := F_Machine) (N := 13) B 0 rfl rfl (by decide) i_Machine (B.2.2.2.1 _ k_440) rfl ((congrFun (congrFun r_hz 64) 0).trans hb.2.2) d_Machine_opOf_61 ?_
        refine mv_getR (pc := 64) (ci := 7) (C := R_Program) (T := F_Program) (N := 19) B 12 rfl rfl (by decide) i_Program (B.2.2.2.1 _ k_353) rfl ((congrFun (congrFun r_hz 32) 12).trans (hb.2.1 32 12 38 rfl)) d_Machine_opOf_64 ?_
        refine mv_iload (pc := 67) B d_Machine_opOf_67 0 rfl ?_
        obtain ⟨q4, hf⟩ := xvi_e hf
        refine mv_lald (pc := 69) B rfl q4 d_Machine_opOf_69 ?_
        refine mv_lcmp (pc := 70) B d_Machine_opOf_70 ?_
        refine mv_if_ne (pc := 71) (tgt := 96) B d_Machine_opOf_71 rfl (fun h71 => ?_) (fun h71 => ?_)
        · skip
          have hf := xif_f h71 hf
          refine mv_lpick [1, 2, 3, 4, 5, 6] rfl ?_
          exact jn96 _ _ _ _ _ r_hz hf
        · skip
          have hf := xif_t h71 hf
          refine mv_iload (pc := 74) B d_Machine_opOf_74 5 rfl ?_
          refine mv_if_lt (pc := 76) (tgt := 92) B d_Machine_opOf_76 rfl (fun h76 => ?_) (fun h76 => ?_)
          · skip
            have hf := xif_t h76 hf
            refine mv_iload (pc := 92) B d_Machine_opOf_92 0 rfl ?_
            refine mv_istore (pc := 94) B d_Machine_opOf_94 (by decide) rfl ?_
            refine mv_lpick [2, 3, 4, 5, 0, 6] rfl ?_
            exact jn96 _ _ _ _ _ r_hz hf
          · skip
            have hf := xif_f h76 hf
            refine mv_aload_n (pc := 79) B d_Machine_opOf_79 rfl 1 rfl ?_
            refine mv_dup (pc := 80) B d_Machine_opOf_80 rfl ?_
            refine mv_getI (pc := 81) (ci := 9) (C := R_Machine) (T := F_Machine) (N := 13) B 12 rfl rfl (by decide) i_Machine (B.2.2.2.1 _ k_457) rfl d_Machine_opOf_81 ?_
            refine mv_iconst (pc := 84) (v := 1) B d_Machine_opOf_84 (by decide) ?_
            refine mv_iadd (pc := 85) B d_Machine_opOf_85 ?_
            refine mv_putI (pc := 86) (ci := 9) (C := R_Machine) (T := F_Machine) (N := 13) B 12 rfl rfl (by decide) i_Machine t_Machine_ok n_Machine (B.2.2.2.1 _ k_457) rfl rfl rfl rfl d_Machine_opOf_86 ?_
            refine mvh_hp (R9 := mv_r h) hf r_hz (fun g5 hf r_g5 => ?_)
            refine mv_goto (pc := 89) (tgt := 96) B d_Machine_opOf_89 rfl ?_
            refine mv_lpick [1, 2, 3, 4, 5, 6] rfl ?_
            exact jn96 _ _ _ _ _ r_g5 hf
  unfold f_Machine_opOf at hf
  refine mv_aload_n (pc := 0) B d_Machine_opOf_0 rfl 0 rfl ?_
  refine mv_getR (pc := 1) (ci := 9) (C := R_Machine) (T := F_Machine) (N := 13) B 0 rfl rfl (by decide) i_Machine (B.2.2.2.1 _ k_440) rfl hb.2.2 d_Machine_opOf_1 ?_
  refine mv_getR (pc := 4) (ci := 7) (C := R_Program) (T := F_Program) (N := 19) B 18 rfl rfl (by decide) i_Program (B.2.2.2.1 _ k_366) rfl (hb.2.1 32 18 43 rfl) d_Machine_opOf_4 ?_
  refine mv_astore_n (pc := 7) B d_Machine_opOf_7 rfl (by decide) rfl ?_
  refine mv_aload_n (pc := 8) B d_Machine_opOf_8 rfl 0 rfl ?_
  refine mv_lload_n (pc := 9) B d_Machine_opOf_9 rfl 2 rfl ?_
  obtain ⟨v7, g6, eg6, hf⟩ := xhb_e hf
  refine mv_callVi (pc := 10) (n := 1) (ci := 8) (C := R_Tree) B (mK_ok sk sv) hNs rfl rfl (ch_Tree_leafOf_a l hi _ (hb) _ eg6) rfl (ma_goodc kc_Tree_leafOf) (B.2.2.2.1 _ k_1564) (B.2.2.2.1 _ k_1565) (B.2.2.2.1 _ k_1566) (B.2.2.2.1 _ k_9) ⟨by decide +kernel, by decide +kernel, by decide +kernel⟩ rfl d_Machine_opOf_10 rfl (Nat.le_of_ble_eq_true rfl) ⟨by decide, by decide⟩ ⟨by decide, by decide⟩ ⟨by decide, by decide⟩ (mv_noH hno _) (fun w10 σ10 h10 => ?_)
  obtain ⟨rfl, rfl, s_g6⟩ := h10
  have r_g6 : mv_r g6 = mv_r h := s_g6.trans rfl
  refine mv_istore (pc := 13) B d_Machine_opOf_13 (by decide) rfl ?_
  refine mv_iconst (pc := 15) (v := -1) B d_Machine_opOf_15 (by decide) ?_
  refine mv_istore (pc := 16) B d_Machine_opOf_16 (by decide) rfl ?_
  refine mv_aload_n (pc := 18) B d_Machine_opOf_18 rfl 2 rfl ?_
  refine mv_getR (pc := 19) (ci := 8) (C := R_Tree) (T := F_Tree) (N := 5) B 2 rfl rfl (by decide) i_Tree (B.2.2.2.1 _ k_295) rfl ((congrFun (congrFun r_g6 43) 2).trans (hb.2.1 43 2 46 rfl)) d_Machine_opOf_19 ?_
  refine mv_iload (pc := 22) B d_Machine_opOf_22 1 rfl ?_
  obtain ⟨q8, hf⟩ := xvi_e hf
  refine mv_iald (pc := 24) B rfl q8 d_Machine_opOf_24 ?_
  refine mv_istore (pc := 25) B d_Machine_opOf_25 (by decide) rfl ?_
  refine mv_lpick [4, 5, 3, 2, 1, 0] rfl ?_
  exact lp27 _ _ _ _ _ _ r_g6 hf
set_option maxHeartbeats 4000000 in
set_option maxRecDepth 100000 in
theorem ch_Machine_opOf_b (l : Launch) {dA : FieldType → ClassId} {D : va_G} {al : Nat → Nat} {ext : mv_Sh} {sk sv : Nat → Nat} (hi : mv_inj (mg dA D al ext)) (h : mv_H) (hb : Rf 48 (mv_r h))  (a0 : Int64) {rv : Int32} {rg : mv_H} (hf : f_Machine_opOf 48 h a0 = some (rv, rg)) : mv_C l y_Machine_opOf (Cond.code y_Machine_opOf b_Machine_opOf 8 (Option.some Jvm.ClassFile.FieldType.int) :: ma) ({ frames := 1, cells := 0, slots := 0, locals := 24 }) (mg dA D al ext) (mK sk sv) [.ref (al 64), .long a0] h (mv_Ri (fun v σ1 => rv = v ∧ rg = σ1 ∧ mv_r σ1 = mv_r h)) := by
  refine mv_C.ofV (cc := b_Machine_opOf) (nL := 8) (ret := (Option.some Jvm.ClassFile.FieldType.int)) (by decide +kernel) rfl hi (Nat.le_of_ble_eq_true rfl) ?_
  intro p e s m below meth c B hNs hr hnm hno
  have lp27 : ∀ (nn27 : Nat) (x1 : Int64) (x4 : Int32) (x5 : Int32) (x6 : Int32) (hz : mv_H), mv_r hz = mv_r h → f_Machine_opOf_27 48 nn27 x1 x4 x5 x6 hz = some (rv, rg) → mv_V p l e ({ frames := 1, cells := 0, slots := 0, locals := 24 }) s m ([.ref (al 64), .long a0] : List Value).toArray below meth c (mg dA D al ext) 8 0 0 (mv_Q (mg dA D al ext) below s 0 0 (mv_Ri (fun v σ1 => rv = v ∧ rg = σ1 ∧ mv_r σ1 = mv_r h))) hz 27 [(0, .ref (al 64)), (1, .long x1), (3, .ref (al 59)), (4, .int x4), (5, .int x5), (6, .int x6)] [] := by
    intro nn27
    induction nn27 with
    | zero => intro x1 x4 x5 x6 hz r_hz hf; cases hf
    | succ nn27 ih27 =>
      intro x1 x4 x5 x6 hz r_hz hf
      have jn96 : ∀ (x1 : Int64) (x4 : Int32) (x5 : Int32) (x6 : Int32) (hz : mv_H), mv_r hz = mv_r h → f_Machine_opOf_96 48 (f_Machine_opOf_27 48 nn27) x1 x4 x5 x6 hz = some (rv, rg) → mv_V p l e ({ frames := 1, cells := 0, slots := 0, locals := 24 }) s m ([.ref (al 64), .long a0] : List Value).toArray below meth c (mg dA D al ext) 8 0 0 (mv_Q (mg dA D al ext) below s 0 0 (mv_Ri (fun v σ1 => rv = v ∧ rg = σ1 ∧ mv_r σ1 = mv_r h))) hz 96 [(0, .ref (al 64)), (1, .long x1), (3, .ref (al 59)), (4, .int x4), (5, .int x5), (6, .int x6)] [] := by
        intro x1 x4 x5 x6 hz r_hz hf
        unfold f_Machine_opOf_96 at hf
        refine mv_iinc (pc := 96) (j := 5) (v := 1) B d_Machine_opOf_96 rfl (by decide) (by decide) rfl ?_
        refine mv_goto (pc := 99) (tgt := 27) B d_Machine_opOf_99 rfl ?_
        refine mv_lpick [1, 2, 3, 4, 5, 0] rfl ?_
        exact ih27 _ _ _ _ _ r_hz hf
      have hf : fF_Machine_opOf_27 48 (f_Machine_opOf_27 48 nn27) x1 x4 x5 x6 hz = some (rv, rg) := hf
      unfold fF_Machine_opOf_27 at hf
      refine mv_iload (pc := 27) B d_Machine_opOf_27 5 rfl ?_
      refine mv_aload_n (pc := 29) B d_Machine_opOf_29 rfl 2 rfl ?_
      refine mv_getR (pc := 30) (ci := 8) (C := R_Tree) (T := F_Tree) (N := 5) B 3 rfl rfl (by decide) i_Tree (B.2.2.2.1 _ k_297) rfl ((congrFun (congrFun r_hz 59) 3).trans (hb.2.1 59 3 63 rfl)) d_Machine_opOf_30 ?_
      refine mv_iload (pc := 33) B d_Machine_opOf_33 3 rfl ?_
      obtain ⟨q1, hf⟩ := xvi_e hf
      refine mv_iald (pc := 35) B rfl q1 d_Machine_opOf_35 ?_
      refine mv_icmp_ge (pc := 36) (tgt := 102) B d_Machine_opOf_36 rfl (fun h36 => ?_) (fun h36 => ?_)
      · skip
        have hf := xif_t h36 hf
        refine mv_iload (pc := 102) B d_Machine_opOf_102 4 rfl ?_
        exact mv_iret (pc := 104) B hr rfl d_Machine_opOf_104 (Nat.le_refl _) (Nat.le_refl _) ⟨_, rfl, xrh_i hf r_hz⟩
      · skip
        have hf := xif_f h36 hf
        refine mv_aload_n (pc := 39) B d_Machine_opOf_39 rfl 2 rfl ?_
        refine mv_getR (pc := 40) (ci := 8) (C := R_Tree) (T := F_Tree) (N := 5) B 0 rfl rfl (by decide) i_Tree (B.2.2.2.1 _ k_292) rfl ((congrFun (congrFun r_hz 59) 0).trans (hb.2.1 59 0 60 rfl)) d_Machine_opOf_40 ?_
        refine mv_iload (pc := 43) B d_Machine_opOf_43 5 rfl ?_
        obtain ⟨q2, hf⟩ := xvi_e hf
        refine mv_iald (pc := 45) B rfl q2 d_Machine_opOf_45 ?_
        refine mv_istore (pc := 46) B d_Machine_opOf_46 (by decide) rfl ?_
        refine mv_lload_n (pc := 48) B d_Machine_opOf_48 rfl 2 rfl ?_
        refine mv_aload_n (pc := 49) B d_Machine_opOf_49 rfl 1 rfl ?_
        refine mv_getR (pc := 50) (ci := 9) (C := R_Machine) (T := F_Machine) (N := 13) B 0 rfl rfl (by decide) i_Machine (B.2.2.2.1 _ k_440) rfl ((congrFun (congrFun r_hz 64) 0).trans hb.2.2) d_Machine_opOf_50 ?_
        refine mv_getR (pc := 53) (ci := 7) (C := R_Program) (T := F_Program) (N := 19) B 11 rfl rfl (by decide) i_Program (B.2.2.2.1 _ k_350) rfl ((congrFun (congrFun r_hz 48) 11).trans (hb.2.1 48 11 53 rfl)) d_Machine_opOf_53 ?_
        refine mv_iload (pc := 56) B d_Machine_opOf_56 0 rfl ?_
        obtain ⟨q3, hf⟩ := xvi_e hf
        refine mv_lald (pc := 58) B rfl q3 d_Machine_opOf_58 ?_
        refine mv_land (pc := 59) B d_Machine_opOf_59 ?_
        refine mv_aload_n (pc := 60) B d_Machine_opOf_60 rfl 1 rfl ?_
        refine mv_getR (pc := 61) (ci := 9) (C := R_Machine) (T := F_Machine) (N := 13) B 0 rfl rfl (by decide) i_Machine (B.2.2.2.1 _ k_440) rfl ((congrFun (congrFun r_hz 64) 0).trans hb.2.2) d_Machine_opOf_61 ?_
        refine mv_getR (pc := 64) (ci := 7) (C := R_Program) (T := F_Program) (N := 19) B 12 rfl rfl (by decide) i_Program (B.2.2.2.1 _ k_353) rfl ((congrFun (congrFun r_hz 48) 12).trans (hb.2.1 48 12 54 rfl)) d_Machine_opOf_64 ?_
        refine mv_iload (pc := 67) B d_Machine_opOf_67 0 rfl ?_
        obtain ⟨q4, hf⟩ := xvi_e hf
        refine mv_lald (pc := 69) B rfl q4 d_Machine_opOf_69 ?_
        refine mv_lcmp (pc := 70) B d_Machine_opOf_70 ?_
        refine mv_if_ne (pc := 71) (tgt := 96) B d_Machine_opOf_71 rfl (fun h71 => ?_) (fun h71 => ?_)
        · skip
          have hf := xif_f h71 hf
          refine mv_lpick [1, 2, 3, 4, 5, 6] rfl ?_
          exact jn96 _ _ _ _ _ r_hz hf
        · skip
          have hf := xif_t h71 hf
          refine mv_iload (pc := 74) B d_Machine_opOf_74 5 rfl ?_
          refine mv_if_lt (pc := 76) (tgt := 92) B d_Machine_opOf_76 rfl (fun h76 => ?_) (fun h76 => ?_)
          · skip
            have hf := xif_t h76 hf
            refine mv_iload (pc := 92) B d_Machine_opOf_92 0 rfl ?_
            refine mv_istore (pc := 94) B d_Machine_opOf_94 (by decide) rfl ?_
            refine mv_lpick [2, 3, 4, 5, 0, 6] rfl ?_
            exact jn96 _ _ _ _ _ r_hz hf
          · skip
            have hf := xif_f h76 hf
            refine mv_aload_n (pc := 79) B d_Machine_opOf_79 rfl 1 rfl ?_
            refine mv_dup (pc := 80) B d_Machine_opOf_80 rfl ?_
            refine mv_getI (pc := 81) (ci := 9) (C := R_Machine) (T := F_Machine) (N := 13) B 12 rfl rfl (by decide) i_Machine (B.2.2.2.1 _ k_457) rfl d_Machine_opOf_81 ?_
            refine mv_iconst (pc := 84) (v := 1) B d_Machine_opOf_84 (by decide) ?_
            refine mv_iadd (pc := 85) B d_Machine_opOf_85 ?_
            refine mv_putI (pc := 86) (ci := 9) (C := R_Machine) (T := F_Machine) (N := 13) B 12 rfl rfl (by decide) i_Machine t_Machine_ok n_Machine (B.2.2.2.1 _ k_457) rfl rfl rfl rfl d_Machine_opOf_86 ?_
            refine mvh_hp (R9 := mv_r h) hf r_hz (fun g5 hf r_g5 => ?_)
            refine mv_goto (pc := 89) (tgt := 96) B d_Machine_opOf_89 rfl ?_
            refine mv_lpick [1, 2, 3, 4, 5, 6] rfl ?_
            exact jn96 _ _ _ _ _ r_g5 hf
  unfold f_Machine_opOf at hf
  refine mv_aload_n (pc := 0) B d_Machine_opOf_0 rfl 0 rfl ?_
  refine mv_getR (pc := 1) (ci := 9) (C := R_Machine) (T := F_Machine) (N := 13) B 0 rfl rfl (by decide) i_Machine (B.2.2.2.1 _ k_440) rfl hb.2.2 d_Machine_opOf_1 ?_
  refine mv_getR (pc := 4) (ci := 7) (C := R_Program) (T := F_Program) (N := 19) B 18 rfl rfl (by decide) i_Program (B.2.2.2.1 _ k_366) rfl (hb.2.1 48 18 59 rfl) d_Machine_opOf_4 ?_
  refine mv_astore_n (pc := 7) B d_Machine_opOf_7 rfl (by decide) rfl ?_
  refine mv_aload_n (pc := 8) B d_Machine_opOf_8 rfl 0 rfl ?_
  refine mv_lload_n (pc := 9) B d_Machine_opOf_9 rfl 2 rfl ?_
  obtain ⟨v7, g6, eg6, hf⟩ := xhb_e hf
  refine mv_callVi (pc := 10) (n := 1) (ci := 8) (C := R_Tree) B (mK_ok sk sv) hNs rfl rfl (ch_Tree_leafOf_b l hi _ (hb) _ eg6) rfl (ma_goodc kc_Tree_leafOf) (B.2.2.2.1 _ k_1564) (B.2.2.2.1 _ k_1565) (B.2.2.2.1 _ k_1566) (B.2.2.2.1 _ k_9) ⟨by decide +kernel, by decide +kernel, by decide +kernel⟩ rfl d_Machine_opOf_10 rfl (Nat.le_of_ble_eq_true rfl) ⟨by decide, by decide⟩ ⟨by decide, by decide⟩ ⟨by decide, by decide⟩ (mv_noH hno _) (fun w10 σ10 h10 => ?_)
  obtain ⟨rfl, rfl, s_g6⟩ := h10
  have r_g6 : mv_r g6 = mv_r h := s_g6.trans rfl
  refine mv_istore (pc := 13) B d_Machine_opOf_13 (by decide) rfl ?_
  refine mv_iconst (pc := 15) (v := -1) B d_Machine_opOf_15 (by decide) ?_
  refine mv_istore (pc := 16) B d_Machine_opOf_16 (by decide) rfl ?_
  refine mv_aload_n (pc := 18) B d_Machine_opOf_18 rfl 2 rfl ?_
  refine mv_getR (pc := 19) (ci := 8) (C := R_Tree) (T := F_Tree) (N := 5) B 2 rfl rfl (by decide) i_Tree (B.2.2.2.1 _ k_295) rfl ((congrFun (congrFun r_g6 59) 2).trans (hb.2.1 59 2 62 rfl)) d_Machine_opOf_19 ?_
  refine mv_iload (pc := 22) B d_Machine_opOf_22 1 rfl ?_
  obtain ⟨q8, hf⟩ := xvi_e hf
  refine mv_iald (pc := 24) B rfl q8 d_Machine_opOf_24 ?_
  refine mv_istore (pc := 25) B d_Machine_opOf_25 (by decide) rfl ?_
  refine mv_lpick [4, 5, 3, 2, 1, 0] rfl ?_
  exact lp27 _ _ _ _ _ _ r_g6 hf
def f_Machine_oneWith_40 (P : Nat) (y0 : Int32) (hz : mv_H) : Option mv_H := xk (mv_si hz 64 9 y0) fun g1 => if (mv_i g1 64 9) = (0 : Int32) then (xhv (f_Machine_goForth P g1) fun g4 => xk (mv_si g4 64 10 ((mv_i g4 64 10) + (1 : Int32))) fun g5 => some g5) else (xhv (f_Machine_undo P g1) fun g2 => xk (mv_si g2 64 11 ((mv_i g2 64 11) + (1 : Int32))) fun g3 => some g3)
def f_Machine_oneWith (P : Nat) (h : mv_H) (a0 : Int64) : Option mv_H := xk (mv_si h 64 7 (0 : Int32)) fun g6 => bif xzb (0 : Int32) then xk (mv_si g6 64 8 (0 : Int32)) fun g8 => xhb (f_Machine_opOf P g8 a0) fun v10 g9 => if (0 : Int32) ≤ v10 then (bif xvi v10 512 then xhb (f_Machine_perform P g9 (mv_a g9 (P + 7) (v10).toNatClampNeg) a0) fun v13 g12 => f_Machine_oneWith_40 P v13 g12 else none) else (f_Machine_oneWith_40 P (-2 : Int32) g9) else none
set_option maxHeartbeats 4000000 in
set_option maxRecDepth 100000 in
theorem ch_Machine_oneWith_a (l : Launch) {dA : FieldType → ClassId} {D : va_G} {al : Nat → Nat} {ext : mv_Sh} {sk sv : Nat → Nat} (hi : mv_inj (mg dA D al ext)) (h : mv_H) (hb : Rf 32 (mv_r h))  (a0 : Int64) {rg : mv_H} (hf : f_Machine_oneWith 32 h a0 = some rg) : mv_C l y_Machine_oneWith (Cond.code y_Machine_oneWith b_Machine_oneWith 4 (Option.none : Option Jvm.ClassFile.FieldType) :: ma) ({ frames := 5, cells := 0, slots := 0, locals := 129 }) (mg dA D al ext) (mK sk sv) [.ref (al 64), .long a0] h (mv_Rv (fun σ1 => rg = σ1 ∧ mv_r σ1 = mv_r h)) := by
  refine mv_C.ofV (cc := b_Machine_oneWith) (nL := 4) (ret := (Option.none : Option Jvm.ClassFile.FieldType)) (by decide +kernel) rfl hi (Nat.le_of_ble_eq_true rfl) ?_
  intro p e s m below meth c B hNs hr hnm hno
  have jn40 : ∀ (y0 : Int32) (hz : mv_H), mv_r hz = mv_r h → f_Machine_oneWith_40 32 y0 hz = some rg → mv_V p l e ({ frames := 5, cells := 0, slots := 0, locals := 129 }) s m ([.ref (al 64), .long a0] : List Value).toArray below meth c (mg dA D al ext) 4 0 0 (mv_Q (mg dA D al ext) below s 0 0 (mv_Rv (fun σ1 => rg = σ1 ∧ mv_r σ1 = mv_r h))) hz 40 [(0, .ref (al 64))] [.int y0, .ref (al 64)] := by
    intro y0 hz r_hz hf
    unfold f_Machine_oneWith_40 at hf
    refine mv_putI (pc := 40) (ci := 9) (C := R_Machine) (T := F_Machine) (N := 13) B 9 rfl rfl (by decide) i_Machine t_Machine_ok n_Machine (B.2.2.2.1 _ k_451) rfl rfl rfl rfl d_Machine_oneWith_40 ?_
    refine mvh_hp (R9 := mv_r h) hf r_hz (fun g1 hf r_g1 => ?_)
    refine mv_aload_n (pc := 43) B d_Machine_oneWith_43 rfl 0 rfl ?_
    refine mv_getI (pc := 44) (ci := 9) (C := R_Machine) (T := F_Machine) (N := 13) B 9 rfl rfl (by decide) i_Machine (B.2.2.2.1 _ k_451) rfl d_Machine_oneWith_44 ?_
    refine mv_if_ne (pc := 47) (tgt := 67) B d_Machine_oneWith_47 rfl (fun h47 => ?_) (fun h47 => ?_)
    · skip
      have hf := xif_f h47 hf
      refine mv_aload_n (pc := 67) B d_Machine_oneWith_67 rfl 0 rfl ?_
      obtain ⟨g2, eg2, hf⟩ := xhv_e hf
      refine mv_callVv (pc := 68) (n := 0) (ci := 9) (C := R_Machine) B (mK_ok sk sv) hNs rfl rfl (ch_Machine_undo_a l hi _ (xrw r_g1 hb) eg2) rfl (ma_goodc kc_Machine_undo) (B.2.2.2.1 _ k_1639) (B.2.2.2.1 _ k_1641) (B.2.2.2.1 _ ks_76) (B.2.2.2.1 _ k_11) ⟨by decide +kernel, by decide +kernel, by decide +kernel⟩ rfl d_Machine_oneWith_68 rfl (Nat.le_of_ble_eq_true rfl) ⟨by decide, by decide⟩ ⟨by decide, by decide⟩ ⟨by decide, by decide⟩ (mv_noH hno _) (fun σ68 h68 => ?_)
      obtain ⟨rfl, s_g2⟩ := h68
      have r_g2 : mv_r g2 = mv_r h := s_g2.trans r_g1
      refine mv_aload_n (pc := 71) B d_Machine_oneWith_71 rfl 0 rfl ?_
      refine mv_dup (pc := 72) B d_Machine_oneWith_72 rfl ?_
      refine mv_getI (pc := 73) (ci := 9) (C := R_Machine) (T := F_Machine) (N := 13) B 11 rfl rfl (by decide) i_Machine (B.2.2.2.1 _ k_455) rfl d_Machine_oneWith_73 ?_
      refine mv_iconst (pc := 76) (v := 1) B d_Machine_oneWith_76 (by decide) ?_
      refine mv_iadd (pc := 77) B d_Machine_oneWith_77 ?_
      refine mv_putI (pc := 78) (ci := 9) (C := R_Machine) (T := F_Machine) (N := 13) B 11 rfl rfl (by decide) i_Machine t_Machine_ok n_Machine (B.2.2.2.1 _ k_455) rfl rfl rfl rfl d_Machine_oneWith_78 ?_
      refine mvh_hp (R9 := mv_r h) hf r_g2 (fun g3 hf r_g3 => ?_)
      exact mv_vret (pc := 81) B hr d_Machine_oneWith_81 (Nat.le_refl _) (Nat.le_refl _) ⟨rfl, xrh_v hf r_g3⟩
    · skip
      have hf := xif_t h47 hf
      refine mv_aload_n (pc := 50) B d_Machine_oneWith_50 rfl 0 rfl ?_
      obtain ⟨g4, eg4, hf⟩ := xhv_e hf
      refine mv_callVv (pc := 51) (n := 0) (ci := 9) (C := R_Machine) B (mK_ok sk sv) hNs rfl rfl (ch_Machine_goForth_a l hi _ (xrw r_g1 hb) eg4) rfl (ma_goodc kc_Machine_goForth) (B.2.2.2.1 _ k_1635) (B.2.2.2.1 _ k_1637) (B.2.2.2.1 _ ks_75) (B.2.2.2.1 _ k_11) ⟨by decide +kernel, by decide +kernel, by decide +kernel⟩ rfl d_Machine_oneWith_51 rfl (Nat.le_of_ble_eq_true rfl) ⟨by decide, by decide⟩ ⟨by decide, by decide⟩ ⟨by decide, by decide⟩ (mv_noH hno _) (fun σ51 h51 => ?_)
      obtain ⟨rfl, s_g4⟩ := h51
      have r_g4 : mv_r g4 = mv_r h := s_g4.trans r_g1
      refine mv_aload_n (pc := 54) B d_Machine_oneWith_54 rfl 0 rfl ?_
      refine mv_dup (pc := 55) B d_Machine_oneWith_55 rfl ?_
      refine mv_getI (pc := 56) (ci := 9) (C := R_Machine) (T := F_Machine) (N := 13) B 10 rfl rfl (by decide) i_Machine (B.2.2.2.1 _ k_453) rfl d_Machine_oneWith_56 ?_
      refine mv_iconst (pc := 59) (v := 1) B d_Machine_oneWith_59 (by decide) ?_
      refine mv_iadd (pc := 60) B d_Machine_oneWith_60 ?_
      refine mv_putI (pc := 61) (ci := 9) (C := R_Machine) (T := F_Machine) (N := 13) B 10 rfl rfl (by decide) i_Machine t_Machine_ok n_Machine (B.2.2.2.1 _ k_453) rfl rfl rfl rfl d_Machine_oneWith_61 ?_
      refine mvh_hp (R9 := mv_r h) hf r_g4 (fun g5 hf r_g5 => ?_)
      refine mv_goto (pc := 64) (tgt := 81) B d_Machine_oneWith_64 rfl ?_
      exact mv_vret (pc := 81) B hr d_Machine_oneWith_81 (Nat.le_refl _) (Nat.le_refl _) ⟨rfl, xrh_v hf r_g5⟩
  unfold f_Machine_oneWith at hf
  refine mv_aload_n (pc := 0) B d_Machine_oneWith_0 rfl 0 rfl ?_
  refine mv_iconst (pc := 1) (v := 0) B d_Machine_oneWith_1 (by decide) ?_
  refine mv_putI (pc := 2) (ci := 9) (C := R_Machine) (T := F_Machine) (N := 13) B 7 rfl rfl (by decide) i_Machine t_Machine_ok n_Machine (B.2.2.2.1 _ k_449) rfl rfl rfl rfl d_Machine_oneWith_2 ?_
  refine mvh_hp (R9 := mv_r h) hf rfl (fun g6 hf r_g6 => ?_)
  refine mv_aload_n (pc := 5) B d_Machine_oneWith_5 rfl 0 rfl ?_
  refine mv_iconst (pc := 6) (v := 0) B d_Machine_oneWith_6 (by decide) ?_
  obtain ⟨q7, hf⟩ := xzb_e hf
  refine mv_putI (pc := 7) (ci := 9) (C := R_Machine) (T := F_Machine) (N := 13) B 8 rfl rfl (by decide) i_Machine t_Machine_ok n_Machine (B.2.2.2.1 _ k_450) rfl rfl (xzb_n q7) (xzb_f q7) d_Machine_oneWith_7 ?_
  refine mvh_hp (R9 := mv_r h) hf r_g6 (fun g8 hf r_g8 => ?_)
  refine mv_aload_n (pc := 10) B d_Machine_oneWith_10 rfl 0 rfl ?_
  refine mv_lload_n (pc := 11) B d_Machine_oneWith_11 rfl 1 rfl ?_
  obtain ⟨v10, g9, eg9, hf⟩ := xhb_e hf
  refine mv_callVi (pc := 12) (n := 1) (ci := 9) (C := R_Machine) B (mK_ok sk sv) hNs rfl rfl (ch_Machine_opOf_a l hi _ (xrw r_g8 hb) _ eg9) rfl (ma_goodc kc_Machine_opOf) (B.2.2.2.1 _ k_1576) (B.2.2.2.1 _ k_1561) (B.2.2.2.1 _ k_1562) (B.2.2.2.1 _ k_11) ⟨by decide +kernel, by decide +kernel, by decide +kernel⟩ rfl d_Machine_oneWith_12 rfl (Nat.le_of_ble_eq_true rfl) ⟨by decide, by decide⟩ ⟨by decide, by decide⟩ ⟨by decide, by decide⟩ (mv_noH hno _) (fun w12 σ12 h12 => ?_)
  obtain ⟨rfl, rfl, s_g9⟩ := h12
  have r_g9 : mv_r g9 = mv_r h := s_g9.trans r_g8
  refine mv_istore_n (pc := 15) B d_Machine_oneWith_15 rfl (by decide) rfl ?_
  refine mv_aload_n (pc := 16) B d_Machine_oneWith_16 rfl 1 rfl ?_
  refine mv_iload_n (pc := 17) B d_Machine_oneWith_17 rfl 0 rfl ?_
  refine mv_if_ge (pc := 18) (tgt := 26) B d_Machine_oneWith_18 rfl (fun h18 => ?_) (fun h18 => ?_)
  · skip
    have hf := xif_t h18 hf
    refine mv_aload_n (pc := 26) B d_Machine_oneWith_26 rfl 1 rfl ?_
    refine mv_aload_n (pc := 27) B d_Machine_oneWith_27 rfl 1 rfl ?_
    refine mv_getR (pc := 28) (ci := 9) (C := R_Machine) (T := F_Machine) (N := 13) B 0 rfl rfl (by decide) i_Machine (B.2.2.2.1 _ k_440) rfl ((congrFun (congrFun r_g9 64) 0).trans hb.2.2) d_Machine_oneWith_28 ?_
    refine mv_getR (pc := 31) (ci := 7) (C := R_Program) (T := F_Program) (N := 19) B 13 rfl rfl (by decide) i_Program (B.2.2.2.1 _ k_355) rfl ((congrFun (congrFun r_g9 32) 13).trans (hb.2.1 32 13 39 rfl)) d_Machine_oneWith_31 ?_
    refine mv_iload_n (pc := 34) B d_Machine_oneWith_34 rfl 0 rfl ?_
    obtain ⟨q11, hf⟩ := xvi_e hf
    refine mv_iald (pc := 35) B rfl q11 d_Machine_oneWith_35 ?_
    refine mv_lload_n (pc := 36) B d_Machine_oneWith_36 rfl 2 rfl ?_
    obtain ⟨v13, g12, eg12, hf⟩ := xhb_e hf
    refine mv_callVi (pc := 37) (n := 2) (ci := 9) (C := R_Machine) B (mK_ok sk sv) hNs rfl rfl (ch_Machine_perform_a l hi _ (xrw r_g9 hb) _ _ eg12) rfl (ma_goodc kc_Machine_perform) (B.2.2.2.1 _ k_1577) (B.2.2.2.1 _ k_1579) (B.2.2.2.1 _ ks_69) (B.2.2.2.1 _ k_11) ⟨by decide +kernel, by decide +kernel, by decide +kernel⟩ rfl d_Machine_oneWith_37 rfl (Nat.le_of_ble_eq_true rfl) ⟨by decide, by decide⟩ ⟨by decide, by decide⟩ ⟨by decide, by decide⟩ (mv_noH hno _) (fun w37 σ37 h37 => ?_)
    obtain ⟨rfl, rfl, s_g12⟩ := h37
    have r_g12 : mv_r g12 = mv_r h := s_g12.trans r_g9
    refine mv_lpick [1] rfl ?_
    exact jn40 _ _ r_g12 hf
  · skip
    have hf := xif_f h18 hf
    refine mv_bipush (pc := 21) (v := -2) B d_Machine_oneWith_21 (by decide) ?_
    refine mv_goto (pc := 23) (tgt := 40) B d_Machine_oneWith_23 rfl ?_
    refine mv_lpick [1] rfl ?_
    exact jn40 _ _ r_g9 hf
set_option maxHeartbeats 4000000 in
set_option maxRecDepth 100000 in
theorem ch_Machine_oneWith_b (l : Launch) {dA : FieldType → ClassId} {D : va_G} {al : Nat → Nat} {ext : mv_Sh} {sk sv : Nat → Nat} (hi : mv_inj (mg dA D al ext)) (h : mv_H) (hb : Rf 48 (mv_r h))  (a0 : Int64) {rg : mv_H} (hf : f_Machine_oneWith 48 h a0 = some rg) : mv_C l y_Machine_oneWith (Cond.code y_Machine_oneWith b_Machine_oneWith 4 (Option.none : Option Jvm.ClassFile.FieldType) :: ma) ({ frames := 5, cells := 0, slots := 0, locals := 129 }) (mg dA D al ext) (mK sk sv) [.ref (al 64), .long a0] h (mv_Rv (fun σ1 => rg = σ1 ∧ mv_r σ1 = mv_r h)) := by
  refine mv_C.ofV (cc := b_Machine_oneWith) (nL := 4) (ret := (Option.none : Option Jvm.ClassFile.FieldType)) (by decide +kernel) rfl hi (Nat.le_of_ble_eq_true rfl) ?_
  intro p e s m below meth c B hNs hr hnm hno
  have jn40 : ∀ (y0 : Int32) (hz : mv_H), mv_r hz = mv_r h → f_Machine_oneWith_40 48 y0 hz = some rg → mv_V p l e ({ frames := 5, cells := 0, slots := 0, locals := 129 }) s m ([.ref (al 64), .long a0] : List Value).toArray below meth c (mg dA D al ext) 4 0 0 (mv_Q (mg dA D al ext) below s 0 0 (mv_Rv (fun σ1 => rg = σ1 ∧ mv_r σ1 = mv_r h))) hz 40 [(0, .ref (al 64))] [.int y0, .ref (al 64)] := by
    intro y0 hz r_hz hf
    unfold f_Machine_oneWith_40 at hf
    refine mv_putI (pc := 40) (ci := 9) (C := R_Machine) (T := F_Machine) (N := 13) B 9 rfl rfl (by decide) i_Machine t_Machine_ok n_Machine (B.2.2.2.1 _ k_451) rfl rfl rfl rfl d_Machine_oneWith_40 ?_
    refine mvh_hp (R9 := mv_r h) hf r_hz (fun g1 hf r_g1 => ?_)
    refine mv_aload_n (pc := 43) B d_Machine_oneWith_43 rfl 0 rfl ?_
    refine mv_getI (pc := 44) (ci := 9) (C := R_Machine) (T := F_Machine) (N := 13) B 9 rfl rfl (by decide) i_Machine (B.2.2.2.1 _ k_451) rfl d_Machine_oneWith_44 ?_
    refine mv_if_ne (pc := 47) (tgt := 67) B d_Machine_oneWith_47 rfl (fun h47 => ?_) (fun h47 => ?_)
    · skip
      have hf := xif_f h47 hf
      refine mv_aload_n (pc := 67) B d_Machine_oneWith_67 rfl 0 rfl ?_
      obtain ⟨g2, eg2, hf⟩ := xhv_e hf
      refine mv_callVv (pc := 68) (n := 0) (ci := 9) (C := R_Machine) B (mK_ok sk sv) hNs rfl rfl (ch_Machine_undo_b l hi _ (xrw r_g1 hb) eg2) rfl (ma_goodc kc_Machine_undo) (B.2.2.2.1 _ k_1639) (B.2.2.2.1 _ k_1641) (B.2.2.2.1 _ ks_76) (B.2.2.2.1 _ k_11) ⟨by decide +kernel, by decide +kernel, by decide +kernel⟩ rfl d_Machine_oneWith_68 rfl (Nat.le_of_ble_eq_true rfl) ⟨by decide, by decide⟩ ⟨by decide, by decide⟩ ⟨by decide, by decide⟩ (mv_noH hno _) (fun σ68 h68 => ?_)
      obtain ⟨rfl, s_g2⟩ := h68
      have r_g2 : mv_r g2 = mv_r h := s_g2.trans r_g1
      refine mv_aload_n (pc := 71) B d_Machine_oneWith_71 rfl 0 rfl ?_
      refine mv_dup (pc := 72) B d_Machine_oneWith_72 rfl ?_
      refine mv_getI (pc := 73) (ci := 9) (C := R_Machine) (T := F_Machine) (N := 13) B 11 rfl rfl (by decide) i_Machine (B.2.2.2.1 _ k_455) rfl d_Machine_oneWith_73 ?_
      refine mv_iconst (pc := 76) (v := 1) B d_Machine_oneWith_76 (by decide) ?_
      refine mv_iadd (pc := 77) B d_Machine_oneWith_77 ?_
      refine mv_putI (pc := 78) (ci := 9) (C := R_Machine) (T := F_Machine) (N := 13) B 11 rfl rfl (by decide) i_Machine t_Machine_ok n_Machine (B.2.2.2.1 _ k_455) rfl rfl rfl rfl d_Machine_oneWith_78 ?_
      refine mvh_hp (R9 := mv_r h) hf r_g2 (fun g3 hf r_g3 => ?_)
      exact mv_vret (pc := 81) B hr d_Machine_oneWith_81 (Nat.le_refl _) (Nat.le_refl _) ⟨rfl, xrh_v hf r_g3⟩
    · skip
      have hf := xif_t h47 hf
      refine mv_aload_n (pc := 50) B d_Machine_oneWith_50 rfl 0 rfl ?_
      obtain ⟨g4, eg4, hf⟩ := xhv_e hf
      refine mv_callVv (pc := 51) (n := 0) (ci := 9) (C := R_Machine) B (mK_ok sk sv) hNs rfl rfl (ch_Machine_goForth_b l hi _ (xrw r_g1 hb) eg4) rfl (ma_goodc kc_Machine_goForth) (B.2.2.2.1 _ k_1635) (B.2.2.2.1 _ k_1637) (B.2.2.2.1 _ ks_75) (B.2.2.2.1 _ k_11) ⟨by decide +kernel, by decide +kernel, by decide +kernel⟩ rfl d_Machine_oneWith_51 rfl (Nat.le_of_ble_eq_true rfl) ⟨by decide, by decide⟩ ⟨by decide, by decide⟩ ⟨by decide, by decide⟩ (mv_noH hno _) (fun σ51 h51 => ?_)
      obtain ⟨rfl, s_g4⟩ := h51
      have r_g4 : mv_r g4 = mv_r h := s_g4.trans r_g1
      refine mv_aload_n (pc := 54) B d_Machine_oneWith_54 rfl 0 rfl ?_
      refine mv_dup (pc := 55) B d_Machine_oneWith_55 rfl ?_
      refine mv_getI (pc := 56) (ci := 9) (C := R_Machine) (T := F_Machine) (N := 13) B 10 rfl rfl (by decide) i_Machine (B.2.2.2.1 _ k_453) rfl d_Machine_oneWith_56 ?_
      refine mv_iconst (pc := 59) (v := 1) B d_Machine_oneWith_59 (by decide) ?_
      refine mv_iadd (pc := 60) B d_Machine_oneWith_60 ?_
      refine mv_putI (pc := 61) (ci := 9) (C := R_Machine) (T := F_Machine) (N := 13) B 10 rfl rfl (by decide) i_Machine t_Machine_ok n_Machine (B.2.2.2.1 _ k_453) rfl rfl rfl rfl d_Machine_oneWith_61 ?_
      refine mvh_hp (R9 := mv_r h) hf r_g4 (fun g5 hf r_g5 => ?_)
      refine mv_goto (pc := 64) (tgt := 81) B d_Machine_oneWith_64 rfl ?_
      exact mv_vret (pc := 81) B hr d_Machine_oneWith_81 (Nat.le_refl _) (Nat.le_refl _) ⟨rfl, xrh_v hf r_g5⟩
  unfold f_Machine_oneWith at hf
  refine mv_aload_n (pc := 0) B d_Machine_oneWith_0 rfl 0 rfl ?_
  refine mv_iconst (pc := 1) (v := 0) B d_Machine_oneWith_1 (by decide) ?_
  refine mv_putI (pc := 2) (ci := 9) (C := R_Machine) (T := F_Machine) (N := 13) B 7 rfl rfl (by decide) i_Machine t_Machine_ok n_Machine (B.2.2.2.1 _ k_449) rfl rfl rfl rfl d_Machine_oneWith_2 ?_
  refine mvh_hp (R9 := mv_r h) hf rfl (fun g6 hf r_g6 => ?_)
  refine mv_aload_n (pc := 5) B d_Machine_oneWith_5 rfl 0 rfl ?_
  refine mv_iconst (pc := 6) (v := 0) B d_Machine_oneWith_6 (by decide) ?_
  obtain ⟨q7, hf⟩ := xzb_e hf
  refine mv_putI (pc := 7) (ci := 9) (C := R_Machine) (T := F_Machine) (N := 13) B 8 rfl rfl (by decide) i_Machine t_Machine_ok n_Machine (B.2.2.2.1 _ k_450) rfl rfl (xzb_n q7) (xzb_f q7) d_Machine_oneWith_7 ?_
  refine mvh_hp (R9 := mv_r h) hf r_g6 (fun g8 hf r_g8 => ?_)
  refine mv_aload_n (pc := 10) B d_Machine_oneWith_10 rfl 0 rfl ?_
  refine mv_lload_n (pc := 11) B d_Machine_oneWith_11 rfl 1 rfl ?_
  obtain ⟨v10, g9, eg9, hf⟩ := xhb_e hf
  refine mv_callVi (pc := 12) (n := 1) (ci := 9) (C := R_Machine) B (mK_ok sk sv) hNs rfl rfl (ch_Machine_opOf_b l hi _ (xrw r_g8 hb) _ eg9) rfl (ma_goodc kc_Machine_opOf) (B.2.2.2.1 _ k_1576) (B.2.2.2.1 _ k_1561) (B.2.2.2.1 _ k_1562) (B.2.2.2.1 _ k_11) ⟨by decide +kernel, by decide +kernel, by decide +kernel⟩ rfl d_Machine_oneWith_12 rfl (Nat.le_of_ble_eq_true rfl) ⟨by decide, by decide⟩ ⟨by decide, by decide⟩ ⟨by decide, by decide⟩ (mv_noH hno _) (fun w12 σ12 h12 => ?_)
  obtain ⟨rfl, rfl, s_g9⟩ := h12
  have r_g9 : mv_r g9 = mv_r h := s_g9.trans r_g8
  refine mv_istore_n (pc := 15) B d_Machine_oneWith_15 rfl (by decide) rfl ?_
  refine mv_aload_n (pc := 16) B d_Machine_oneWith_16 rfl 1 rfl ?_
  refine mv_iload_n (pc := 17) B d_Machine_oneWith_17 rfl 0 rfl ?_
  refine mv_if_ge (pc := 18) (tgt := 26) B d_Machine_oneWith_18 rfl (fun h18 => ?_) (fun h18 => ?_)
  · skip
    have hf := xif_t h18 hf
    refine mv_aload_n (pc := 26) B d_Machine_oneWith_26 rfl 1 rfl ?_
    refine mv_aload_n (pc := 27) B d_Machine_oneWith_27 rfl 1 rfl ?_
    refine mv_getR (pc := 28) (ci := 9) (C := R_Machine) (T := F_Machine) (N := 13) B 0 rfl rfl (by decide) i_Machine (B.2.2.2.1 _ k_440) rfl ((congrFun (congrFun r_g9 64) 0).trans hb.2.2) d_Machine_oneWith_28 ?_
    refine mv_getR (pc := 31) (ci := 7) (C := R_Program) (T := F_Program) (N := 19) B 13 rfl rfl (by decide) i_Program (B.2.2.2.1 _ k_355) rfl ((congrFun (congrFun r_g9 48) 13).trans (hb.2.1 48 13 55 rfl)) d_Machine_oneWith_31 ?_
    refine mv_iload_n (pc := 34) B d_Machine_oneWith_34 rfl 0 rfl ?_
    obtain ⟨q11, hf⟩ := xvi_e hf
    refine mv_iald (pc := 35) B rfl q11 d_Machine_oneWith_35 ?_
    refine mv_lload_n (pc := 36) B d_Machine_oneWith_36 rfl 2 rfl ?_
    obtain ⟨v13, g12, eg12, hf⟩ := xhb_e hf
    refine mv_callVi (pc := 37) (n := 2) (ci := 9) (C := R_Machine) B (mK_ok sk sv) hNs rfl rfl (ch_Machine_perform_b l hi _ (xrw r_g9 hb) _ _ eg12) rfl (ma_goodc kc_Machine_perform) (B.2.2.2.1 _ k_1577) (B.2.2.2.1 _ k_1579) (B.2.2.2.1 _ ks_69) (B.2.2.2.1 _ k_11) ⟨by decide +kernel, by decide +kernel, by decide +kernel⟩ rfl d_Machine_oneWith_37 rfl (Nat.le_of_ble_eq_true rfl) ⟨by decide, by decide⟩ ⟨by decide, by decide⟩ ⟨by decide, by decide⟩ (mv_noH hno _) (fun w37 σ37 h37 => ?_)
    obtain ⟨rfl, rfl, s_g12⟩ := h37
    have r_g12 : mv_r g12 = mv_r h := s_g12.trans r_g9
    refine mv_lpick [1] rfl ?_
    exact jn40 _ _ r_g12 hf
  · skip
    have hf := xif_f h18 hf
    refine mv_bipush (pc := 21) (v := -2) B d_Machine_oneWith_21 (by decide) ?_
    refine mv_goto (pc := 23) (tgt := 40) B d_Machine_oneWith_23 rfl ?_
    refine mv_lpick [1] rfl ?_
    exact jn40 _ _ r_g9 hf
def fF_Machine_wordAt_7 (P : Nat) (k7 : Int32 → Int64 → Int32 → mv_H → Option (Int64 × mv_H)) (x1 : Int32) (x3 : Int64) (x5 : Int32) (hz : mv_H) : Option (Int64 × mv_H) := if x5 < (0 : Int32) then (some (x3, hz)) else (bif xvi (x1 + x5) 65600 then k7 x1 ((x3 <<< (((8 : Int32)).toInt64 &&& 63)) ||| (mv_b hz 65 ((x1 + x5)).toNatClampNeg)) (x5 + (-1)) hz else none)
def f_Machine_wordAt_7 (P : Nat) : Nat → Int32 → Int64 → Int32 → mv_H → Option (Int64 × mv_H)
  | 0 => fun _ _ _ _ => none
  | nn + 1 => fF_Machine_wordAt_7 P (f_Machine_wordAt_7 P nn)
def f_Machine_wordAt (P : Nat) (h : mv_H) (a0 : Int32) (a1 : Int32) : Option (Int64 × mv_H) := f_Machine_wordAt_7 P 200000 a0 (0 : Int64) (a1 - (1 : Int32)) h
set_option maxHeartbeats 4000000 in
set_option maxRecDepth 100000 in
theorem ch_Machine_wordAt_a (l : Launch) {dA : FieldType → ClassId} {D : va_G} {al : Nat → Nat} {ext : mv_Sh} {sk sv : Nat → Nat} (hi : mv_inj (mg dA D al ext)) (h : mv_H) (hb : Rf 32 (mv_r h))  (a0 : Int32) (a1 : Int32) {rv : Int64} {rg : mv_H} (hf : f_Machine_wordAt 32 h a0 a1 = some (rv, rg)) : mv_C l y_Machine_wordAt (Cond.code y_Machine_wordAt b_Machine_wordAt 6 (Option.some Jvm.ClassFile.FieldType.long) :: ma) ({ frames := 0, cells := 0, slots := 0, locals := 0 }) (mg dA D al ext) (mK sk sv) [.ref (al 64), .int a0, .int a1] h (mv_Rl (fun v σ1 => rv = v ∧ rg = σ1 ∧ mv_r σ1 = mv_r h)) := by
  refine mv_C.ofV (cc := b_Machine_wordAt) (nL := 6) (ret := (Option.some Jvm.ClassFile.FieldType.long)) (by decide +kernel) rfl hi (Nat.le_of_ble_eq_true rfl) ?_
  intro p e s m below meth c B hNs hr hnm hno
  have lp7 : ∀ (nn7 : Nat) (x1 : Int32) (x3 : Int64) (x5 : Int32) (hz : mv_H), mv_r hz = mv_r h → f_Machine_wordAt_7 32 nn7 x1 x3 x5 hz = some (rv, rg) → mv_V p l e ({ frames := 0, cells := 0, slots := 0, locals := 0 }) s m ([.ref (al 64), .int a0, .int a1] : List Value).toArray below meth c (mg dA D al ext) 6 0 0 (mv_Q (mg dA D al ext) below s 0 0 (mv_Rl (fun v σ1 => rv = v ∧ rg = σ1 ∧ mv_r σ1 = mv_r h))) hz 7 [(0, .ref (al 64)), (1, .int x1), (3, .long x3), (5, .int x5)] [] := by
    intro nn7
    induction nn7 with
    | zero => intro x1 x3 x5 hz r_hz hf; cases hf
    | succ nn7 ih7 =>
      intro x1 x3 x5 hz r_hz hf
      have hf : fF_Machine_wordAt_7 32 (f_Machine_wordAt_7 32 nn7) x1 x3 x5 hz = some (rv, rg) := hf
      unfold fF_Machine_wordAt_7 at hf
      refine mv_iload (pc := 7) B d_Machine_wordAt_7 3 rfl ?_
      refine mv_if_lt (pc := 9) (tgt := 33) B d_Machine_wordAt_9 rfl (fun h9 => ?_) (fun h9 => ?_)
      · skip
        have hf := xif_t h9 hf
        refine mv_lload_n (pc := 33) B d_Machine_wordAt_33 rfl 2 rfl ?_
        exact mv_lret (pc := 34) B hr d_Machine_wordAt_34 (Nat.le_refl _) (Nat.le_refl _) ⟨_, rfl, xrh_l hf r_hz⟩
      · skip
        have hf := xif_f h9 hf
        refine mv_lload_n (pc := 12) B d_Machine_wordAt_12 rfl 2 rfl ?_
        refine mv_bipush (pc := 13) (v := 8) B d_Machine_wordAt_13 (by decide) ?_
        refine mv_lshl (pc := 15) B d_Machine_wordAt_15 ?_
        refine mv_aload_n (pc := 16) B d_Machine_wordAt_16 rfl 0 rfl ?_
        refine mv_getR (pc := 17) (ci := 9) (C := R_Machine) (T := F_Machine) (N := 13) B 1 rfl rfl (by decide) i_Machine (B.2.2.2.1 _ k_442) rfl ((congrFun (congrFun r_hz 64) 1).trans (hb.1 64 1 _ rfl)) d_Machine_wordAt_17 ?_
        refine mv_iload_n (pc := 20) B d_Machine_wordAt_20 rfl 1 rfl ?_
        refine mv_iload (pc := 21) B d_Machine_wordAt_21 3 rfl ?_
        refine mv_iadd (pc := 23) B d_Machine_wordAt_23 ?_
        obtain ⟨q1, hf⟩ := xvi_e hf
        refine mv_lald (pc := 24) B rfl q1 d_Machine_wordAt_24 ?_
        refine mv_lor (pc := 25) B d_Machine_wordAt_25 ?_
        refine mv_lstore_n (pc := 26) B d_Machine_wordAt_26 rfl (by decide) rfl ?_
        refine mv_iinc (pc := 27) (j := 3) (v := -1) B d_Machine_wordAt_27 rfl (by decide) (by decide) rfl ?_
        refine mv_goto (pc := 30) (tgt := 7) B d_Machine_wordAt_30 rfl ?_
        refine mv_lpick [2, 3, 1, 0] rfl ?_
        exact ih7 _ _ _ _ r_hz hf
  unfold f_Machine_wordAt at hf
  refine mv_lconst (pc := 0) (v := 0) B d_Machine_wordAt_0 (by decide) ?_
  refine mv_lstore_n (pc := 1) B d_Machine_wordAt_1 rfl (by decide) rfl ?_
  refine mv_iload_n (pc := 2) B d_Machine_wordAt_2 rfl 3 rfl ?_
  refine mv_iconst (pc := 3) (v := 1) B d_Machine_wordAt_3 (by decide) ?_
  refine mv_isub (pc := 4) B d_Machine_wordAt_4 ?_
  refine mv_istore (pc := 5) B d_Machine_wordAt_5 (by decide) rfl ?_
  refine mv_lpick [2, 3, 1, 0] rfl ?_
  exact lp7 _ _ _ _ _ rfl hf
set_option maxHeartbeats 4000000 in
set_option maxRecDepth 100000 in
theorem ch_Machine_wordAt_b (l : Launch) {dA : FieldType → ClassId} {D : va_G} {al : Nat → Nat} {ext : mv_Sh} {sk sv : Nat → Nat} (hi : mv_inj (mg dA D al ext)) (h : mv_H) (hb : Rf 48 (mv_r h))  (a0 : Int32) (a1 : Int32) {rv : Int64} {rg : mv_H} (hf : f_Machine_wordAt 48 h a0 a1 = some (rv, rg)) : mv_C l y_Machine_wordAt (Cond.code y_Machine_wordAt b_Machine_wordAt 6 (Option.some Jvm.ClassFile.FieldType.long) :: ma) ({ frames := 0, cells := 0, slots := 0, locals := 0 }) (mg dA D al ext) (mK sk sv) [.ref (al 64), .int a0, .int a1] h (mv_Rl (fun v σ1 => rv = v ∧ rg = σ1 ∧ mv_r σ1 = mv_r h)) := by
  refine mv_C.ofV (cc := b_Machine_wordAt) (nL := 6) (ret := (Option.some Jvm.ClassFile.FieldType.long)) (by decide +kernel) rfl hi (Nat.le_of_ble_eq_true rfl) ?_
  intro p e s m below meth c B hNs hr hnm hno
  have lp7 : ∀ (nn7 : Nat) (x1 : Int32) (x3 : Int64) (x5 : Int32) (hz : mv_H), mv_r hz = mv_r h → f_Machine_wordAt_7 48 nn7 x1 x3 x5 hz = some (rv, rg) → mv_V p l e ({ frames := 0, cells := 0, slots := 0, locals := 0 }) s m ([.ref (al 64), .int a0, .int a1] : List Value).toArray below meth c (mg dA D al ext) 6 0 0 (mv_Q (mg dA D al ext) below s 0 0 (mv_Rl (fun v σ1 => rv = v ∧ rg = σ1 ∧ mv_r σ1 = mv_r h))) hz 7 [(0, .ref (al 64)), (1, .int x1), (3, .long x3), (5, .int x5)] [] := by
    intro nn7
    induction nn7 with
    | zero => intro x1 x3 x5 hz r_hz hf; cases hf
    | succ nn7 ih7 =>
      intro x1 x3 x5 hz r_hz hf
      have hf : fF_Machine_wordAt_7 48 (f_Machine_wordAt_7 48 nn7) x1 x3 x5 hz = some (rv, rg) := hf
      unfold fF_Machine_wordAt_7 at hf
      refine mv_iload (pc := 7) B d_Machine_wordAt_7 3 rfl ?_
      refine mv_if_lt (pc := 9) (tgt := 33) B d_Machine_wordAt_9 rfl (fun h9 => ?_) (fun h9 => ?_)
      · skip
        have hf := xif_t h9 hf
        refine mv_lload_n (pc := 33) B d_Machine_wordAt_33 rfl 2 rfl ?_
        exact mv_lret (pc := 34) B hr d_Machine_wordAt_34 (Nat.le_refl _) (Nat.le_refl _) ⟨_, rfl, xrh_l hf r_hz⟩
      · skip
        have hf := xif_f h9 hf
        refine mv_lload_n (pc := 12) B d_Machine_wordAt_12 rfl 2 rfl ?_
        refine mv_bipush (pc := 13) (v := 8) B d_Machine_wordAt_13 (by decide) ?_
        refine mv_lshl (pc := 15) B d_Machine_wordAt_15 ?_
        refine mv_aload_n (pc := 16) B d_Machine_wordAt_16 rfl 0 rfl ?_
        refine mv_getR (pc := 17) (ci := 9) (C := R_Machine) (T := F_Machine) (N := 13) B 1 rfl rfl (by decide) i_Machine (B.2.2.2.1 _ k_442) rfl ((congrFun (congrFun r_hz 64) 1).trans (hb.1 64 1 _ rfl)) d_Machine_wordAt_17 ?_
        refine mv_iload_n (pc := 20) B d_Machine_wordAt_20 rfl 1 rfl ?_
        refine mv_iload (pc := 21) B d_Machine_wordAt_21 3 rfl ?_
        refine mv_iadd (pc := 23) B d_Machine_wordAt_23 ?_
        obtain ⟨q1, hf⟩ := xvi_e hf
        refine mv_lald (pc := 24) B rfl q1 d_Machine_wordAt_24 ?_
        refine mv_lor (pc := 25) B d_Machine_wordAt_25 ?_
        refine mv_lstore_n (pc := 26) B d_Machine_wordAt_26 rfl (by decide) rfl ?_
        refine mv_iinc (pc := 27) (j := 3) (v := -1) B d_Machine_wordAt_27 rfl (by decide) (by decide) rfl ?_
        refine mv_goto (pc := 30) (tgt := 7) B d_Machine_wordAt_30 rfl ?_
        refine mv_lpick [2, 3, 1, 0] rfl ?_
        exact ih7 _ _ _ _ r_hz hf
  unfold f_Machine_wordAt at hf
  refine mv_lconst (pc := 0) (v := 0) B d_Machine_wordAt_0 (by decide) ?_
  refine mv_lstore_n (pc := 1) B d_Machine_wordAt_1 rfl (by decide) rfl ?_
  refine mv_iload_n (pc := 2) B d_Machine_wordAt_2 rfl 3 rfl ?_
  refine mv_iconst (pc := 3) (v := 1) B d_Machine_wordAt_3 (by decide) ?_
  refine mv_isub (pc := 4) B d_Machine_wordAt_4 ?_
  refine mv_istore (pc := 5) B d_Machine_wordAt_5 (by decide) rfl ?_
  refine mv_lpick [2, 3, 1, 0] rfl ?_
  exact lp7 _ _ _ _ _ rfl hf
def f_Machine_many_115 (P : Nat) (k22 : Int32 → Int32 → Int32 → Int32 → mv_H → Option (Int32 × mv_H)) (x1 : Int32) (x2 : Int32) (x3 : Int32) (x4 : Int32) (hz : mv_H) : Option (Int32 × mv_H) := if (mv_i hz 64 9) = (0 : Int32) then (k22 x1 x2 x3 (x4 + 1) hz) else (some (x4, hz))
def f_Machine_many_75 (P : Nat) (k22 : Int32 → Int32 → Int32 → Int32 → mv_H → Option (Int32 × mv_H)) (x1 : Int32) (x2 : Int32) (x3 : Int32) (x4 : Int32) (hz : mv_H) : Option (Int32 × mv_H) := xk (mv_si hz 64 9 (-1 : Int32)) fun g1 => xk (mv_si g1 64 11 ((mv_i g1 64 11) + (1 : Int32))) fun g2 => f_Machine_many_115 P k22 x1 x2 x3 x4 g2
def fF_Machine_many_22 (P : Nat) (k22 : Int32 → Int32 → Int32 → Int32 → mv_H → Option (Int32 × mv_H)) (x1 : Int32) (x2 : Int32) (x3 : Int32) (x4 : Int32) (hz : mv_H) : Option (Int32 × mv_H) := if x1 ≤ x4 then (some (x1, hz)) else (bif xvi (mv_i hz P 8) 64 then bif xvi (mv_a hz (P + 3) ((mv_i hz P 8)).toNatClampNeg) 65600 then if (lg_cmp (mv_b hz 65 ((mv_a hz (P + 3) ((mv_i hz P 8)).toNatClampNeg)).toNatClampNeg) (0 : Int64)) < (0 : Int32) then (f_Machine_many_75 P k22 x1 x2 x3 x4 hz) else (bif xvi x3 64 then if (lg_cmp (mv_b hz 65 ((mv_a hz (P + 3) ((mv_i hz P 8)).toNatClampNeg)).toNatClampNeg) ((((mv_a hz (P + 2) (x3).toNatClampNeg) - x2)).toInt64)) ≤ (0 : Int32) then (bif xvi x3 64 then xhb (f_Machine_wordAt P hz ((mv_a hz (P + 3) (x3).toNatClampNeg) + (((mv_b hz 65 ((mv_a hz (P + 3) ((mv_i hz P 8)).toNatClampNeg)).toNatClampNeg)).toInt32)) x2) fun v8 g7 => xhv (f_Machine_oneWith P g7 v8) fun g9 => f_Machine_many_115 P k22 x1 x2 x3 x4 g9 else none) else (f_Machine_many_75 P k22 x1 x2 x3 x4 hz) else none) else none else none)
def f_Machine_many_22 (P : Nat) : Nat → Int32 → Int32 → Int32 → Int32 → mv_H → Option (Int32 × mv_H)
  | 0 => fun _ _ _ _ _ => none
  | nn + 1 => fF_Machine_many_22 P (f_Machine_many_22 P nn)
def f_Machine_many (P : Nat) (h : mv_H) (a0 : Int32) : Option (Int32 × mv_H) := f_Machine_many_22 P 200000 a0 ((mv_i h P 0) / (8 : Int32)) (mv_i h P 9) (0 : Int32) h
set_option maxHeartbeats 4000000 in
set_option maxRecDepth 100000 in
theorem ch_Machine_many_a (l : Launch) {dA : FieldType → ClassId} {D : va_G} {al : Nat → Nat} {ext : mv_Sh} {sk sv : Nat → Nat} (hi : mv_inj (mg dA D al ext)) (h : mv_H) (hb : Rf 32 (mv_r h))  (a0 : Int32) {rv : Int32} {rg : mv_H} (hf : f_Machine_many 32 h a0 = some (rv, rg)) : mv_C l y_Machine_many (Cond.code y_Machine_many b_Machine_many 7 (Option.some Jvm.ClassFile.FieldType.int) :: ma) ({ frames := 6, cells := 0, slots := 0, locals := 152 }) (mg dA D al ext) (mK sk sv) [.ref (al 64), .int a0] h (mv_Ri (fun v σ1 => rv = v ∧ rg = σ1 ∧ mv_r σ1 = mv_r h)) := by
  refine mv_C.ofV (cc := b_Machine_many) (nL := 7) (ret := (Option.some Jvm.ClassFile.FieldType.int)) (by decide +kernel) rfl hi (Nat.le_of_ble_eq_true rfl) ?_
  intro p e s m below meth c B hNs hr hnm hno
  have lp22 : ∀ (nn22 : Nat) (x1 : Int32) (x2 : Int32) (x3 : Int32) (x4 : Int32) (hz : mv_H), mv_r hz = mv_r h → f_Machine_many_22 32 nn22 x1 x2 x3 x4 hz = some (rv, rg) → mv_V p l e ({ frames := 6, cells := 0, slots := 0, locals := 152 }) s m ([.ref (al 64), .int a0] : List Value).toArray below meth c (mg dA D al ext) 7 0 0 (mv_Q (mg dA D al ext) below s 0 0 (mv_Ri (fun v σ1 => rv = v ∧ rg = σ1 ∧ mv_r σ1 = mv_r h))) hz 22 [(0, .ref (al 64)), (1, .int x1), (2, .int x2), (3, .int x3), (4, .int x4)] [] := by
    intro nn22
    induction nn22 with
    | zero => intro x1 x2 x3 x4 hz r_hz hf; cases hf
    | succ nn22 ih22 =>
      intro x1 x2 x3 x4 hz r_hz hf
      have jn115 : ∀ (x1 : Int32) (x2 : Int32) (x3 : Int32) (x4 : Int32) (hz : mv_H), mv_r hz = mv_r h → f_Machine_many_115 32 (f_Machine_many_22 32 nn22) x1 x2 x3 x4 hz = some (rv, rg) → mv_V p l e ({ frames := 6, cells := 0, slots := 0, locals := 152 }) s m ([.ref (al 64), .int a0] : List Value).toArray below meth c (mg dA D al ext) 7 0 0 (mv_Q (mg dA D al ext) below s 0 0 (mv_Ri (fun v σ1 => rv = v ∧ rg = σ1 ∧ mv_r σ1 = mv_r h))) hz 115 [(0, .ref (al 64)), (1, .int x1), (2, .int x2), (3, .int x3), (4, .int x4)] [] := by
        intro x1 x2 x3 x4 hz r_hz hf
        unfold f_Machine_many_115 at hf
        refine mv_aload_n (pc := 115) B d_Machine_many_115 rfl 0 rfl ?_
        refine mv_getI (pc := 116) (ci := 9) (C := R_Machine) (T := F_Machine) (N := 13) B 9 rfl rfl (by decide) i_Machine (B.2.2.2.1 _ k_451) rfl d_Machine_many_116 ?_
        refine mv_if_eq (pc := 119) (tgt := 125) B d_Machine_many_119 rfl (fun h119 => ?_) (fun h119 => ?_)
        · skip
          have hf := xif_t h119 hf
          refine mv_iinc (pc := 125) (j := 4) (v := 1) B d_Machine_many_125 rfl (by decide) (by decide) rfl ?_
          refine mv_goto (pc := 128) (tgt := 22) B d_Machine_many_128 rfl ?_
          refine mv_lpick [1, 2, 3, 4, 0] rfl ?_
          exact ih22 _ _ _ _ _ r_hz hf
        · skip
          have hf := xif_f h119 hf
          refine mv_iload (pc := 122) B d_Machine_many_122 4 rfl ?_
          exact mv_iret (pc := 124) B hr rfl d_Machine_many_124 (Nat.le_refl _) (Nat.le_refl _) ⟨_, rfl, xrh_i hf r_hz⟩
      have jn75 : ∀ (x1 : Int32) (x2 : Int32) (x3 : Int32) (x4 : Int32) (hz : mv_H), mv_r hz = mv_r h → f_Machine_many_75 32 (f_Machine_many_22 32 nn22) x1 x2 x3 x4 hz = some (rv, rg) → mv_V p l e ({ frames := 6, cells := 0, slots := 0, locals := 152 }) s m ([.ref (al 64), .int a0] : List Value).toArray below meth c (mg dA D al ext) 7 0 0 (mv_Q (mg dA D al ext) below s 0 0 (mv_Ri (fun v σ1 => rv = v ∧ rg = σ1 ∧ mv_r σ1 = mv_r h))) hz 75 [(0, .ref (al 64)), (1, .int x1), (2, .int x2), (3, .int x3), (4, .int x4)] [] := by
        intro x1 x2 x3 x4 hz r_hz hf
        unfold f_Machine_many_75 at hf
        refine mv_aload_n (pc := 75) B d_Machine_many_75 rfl 0 rfl ?_
        refine mv_iconst (pc := 76) (v := -1) B d_Machine_many_76 (by decide) ?_
        refine mv_putI (pc := 77) (ci := 9) (C := R_Machine) (T := F_Machine) (N := 13) B 9 rfl rfl (by decide) i_Machine t_Machine_ok n_Machine (B.2.2.2.1 _ k_451) rfl rfl rfl rfl d_Machine_many_77 ?_
        refine mvh_hp (R9 := mv_r h) hf r_hz (fun g1 hf r_g1 => ?_)
        refine mv_aload_n (pc := 80) B d_Machine_many_80 rfl 0 rfl ?_
        refine mv_dup (pc := 81) B d_Machine_many_81 rfl ?_
        refine mv_getI (pc := 82) (ci := 9) (C := R_Machine) (T := F_Machine) (N := 13) B 11 rfl rfl (by decide) i_Machine (B.2.2.2.1 _ k_455) rfl d_Machine_many_82 ?_
        refine mv_iconst (pc := 85) (v := 1) B d_Machine_many_85 (by decide) ?_
        refine mv_iadd (pc := 86) B d_Machine_many_86 ?_
        refine mv_putI (pc := 87) (ci := 9) (C := R_Machine) (T := F_Machine) (N := 13) B 11 rfl rfl (by decide) i_Machine t_Machine_ok n_Machine (B.2.2.2.1 _ k_455) rfl rfl rfl rfl d_Machine_many_87 ?_
        refine mvh_hp (R9 := mv_r h) hf r_g1 (fun g2 hf r_g2 => ?_)
        refine mv_goto (pc := 90) (tgt := 115) B d_Machine_many_90 rfl ?_
        refine mv_lpick [0, 1, 2, 3, 4] rfl ?_
        exact jn115 _ _ _ _ _ r_g2 hf
      have hf : fF_Machine_many_22 32 (f_Machine_many_22 32 nn22) x1 x2 x3 x4 hz = some (rv, rg) := hf
      unfold fF_Machine_many_22 at hf
      refine mv_iload (pc := 22) B d_Machine_many_22 4 rfl ?_
      refine mv_iload_n (pc := 24) B d_Machine_many_24 rfl 1 rfl ?_
      refine mv_icmp_ge (pc := 25) (tgt := 131) B d_Machine_many_25 rfl (fun h25 => ?_) (fun h25 => ?_)
      · skip
        have hf := xif_t h25 hf
        refine mv_iload_n (pc := 131) B d_Machine_many_131 rfl 1 rfl ?_
        exact mv_iret (pc := 132) B hr rfl d_Machine_many_132 (Nat.le_refl _) (Nat.le_refl _) ⟨_, rfl, xrh_i hf r_hz⟩
      · skip
        have hf := xif_f h25 hf
        refine mv_aload_n (pc := 28) B d_Machine_many_28 rfl 0 rfl ?_
        refine mv_getR (pc := 29) (ci := 9) (C := R_Machine) (T := F_Machine) (N := 13) B 1 rfl rfl (by decide) i_Machine (B.2.2.2.1 _ k_442) rfl ((congrFun (congrFun r_hz 64) 1).trans (hb.1 64 1 _ rfl)) d_Machine_many_29 ?_
        refine mv_aload_n (pc := 32) B d_Machine_many_32 rfl 0 rfl ?_
        refine mv_getR (pc := 33) (ci := 9) (C := R_Machine) (T := F_Machine) (N := 13) B 0 rfl rfl (by decide) i_Machine (B.2.2.2.1 _ k_440) rfl ((congrFun (congrFun r_hz 64) 0).trans hb.2.2) d_Machine_many_33 ?_
        refine mv_getR (pc := 36) (ci := 7) (C := R_Program) (T := F_Program) (N := 19) B 4 rfl rfl (by decide) i_Program (B.2.2.2.1 _ k_327) rfl ((congrFun (congrFun r_hz 32) 4).trans (hb.2.1 32 4 35 rfl)) d_Machine_many_36 ?_
        refine mv_aload_n (pc := 39) B d_Machine_many_39 rfl 0 rfl ?_
        refine mv_getR (pc := 40) (ci := 9) (C := R_Machine) (T := F_Machine) (N := 13) B 0 rfl rfl (by decide) i_Machine (B.2.2.2.1 _ k_440) rfl ((congrFun (congrFun r_hz 64) 0).trans hb.2.2) d_Machine_many_40 ?_
        refine mv_getI (pc := 43) (ci := 7) (C := R_Program) (T := F_Program) (N := 19) B 8 rfl rfl (by decide) i_Program (B.2.2.2.1 _ k_338) rfl d_Machine_many_43 ?_
        obtain ⟨q3, hf⟩ := xvi_e hf
        refine mv_iald (pc := 46) B rfl q3 d_Machine_many_46 ?_
        obtain ⟨q4, hf⟩ := xvi_e hf
        refine mv_lald (pc := 47) B rfl q4 d_Machine_many_47 ?_
        refine mv_lstore (pc := 48) B d_Machine_many_48 (by decide) rfl ?_
        refine mv_lload (pc := 50) B d_Machine_many_50 0 rfl ?_
        refine mv_lconst (pc := 52) (v := 0) B d_Machine_many_52 (by decide) ?_
        refine mv_lcmp (pc := 53) B d_Machine_many_53 ?_
        refine mv_if_lt (pc := 54) (tgt := 75) B d_Machine_many_54 rfl (fun h54 => ?_) (fun h54 => ?_)
        · skip
          have hf := xif_t h54 hf
          refine mv_lpick [1, 2, 3, 4, 5] rfl ?_
          exact jn75 _ _ _ _ _ r_hz hf
        · skip
          have hf := xif_f h54 hf
          refine mv_lload (pc := 57) B d_Machine_many_57 0 rfl ?_
          refine mv_aload_n (pc := 59) B d_Machine_many_59 rfl 1 rfl ?_
          refine mv_getR (pc := 60) (ci := 9) (C := R_Machine) (T := F_Machine) (N := 13) B 0 rfl rfl (by decide) i_Machine (B.2.2.2.1 _ k_440) rfl ((congrFun (congrFun r_hz 64) 0).trans hb.2.2) d_Machine_many_60 ?_
          refine mv_getR (pc := 63) (ci := 7) (C := R_Program) (T := F_Program) (N := 19) B 3 rfl rfl (by decide) i_Program (B.2.2.2.1 _ k_324) rfl ((congrFun (congrFun r_hz 32) 3).trans (hb.2.1 32 3 34 rfl)) d_Machine_many_63 ?_
          refine mv_iload_n (pc := 66) B d_Machine_many_66 rfl 4 rfl ?_
          obtain ⟨q5, hf⟩ := xvi_e hf
          refine mv_iald (pc := 67) B rfl q5 d_Machine_many_67 ?_
          refine mv_iload_n (pc := 68) B d_Machine_many_68 rfl 3 rfl ?_
          refine mv_isub (pc := 69) B d_Machine_many_69 ?_
          refine mv_i2l (pc := 70) B d_Machine_many_70 ?_
          refine mv_lcmp (pc := 71) B d_Machine_many_71 ?_
          refine mv_if_le (pc := 72) (tgt := 93) B d_Machine_many_72 rfl (fun h72 => ?_) (fun h72 => ?_)
          · skip
            have hf := xif_t h72 hf
            refine mv_aload_n (pc := 93) B d_Machine_many_93 rfl 1 rfl ?_
            refine mv_aload_n (pc := 94) B d_Machine_many_94 rfl 1 rfl ?_
            refine mv_aload_n (pc := 95) B d_Machine_many_95 rfl 1 rfl ?_
            refine mv_getR (pc := 96) (ci := 9) (C := R_Machine) (T := F_Machine) (N := 13) B 0 rfl rfl (by decide) i_Machine (B.2.2.2.1 _ k_440) rfl ((congrFun (congrFun r_hz 64) 0).trans hb.2.2) d_Machine_many_96 ?_
            refine mv_getR (pc := 99) (ci := 7) (C := R_Program) (T := F_Program) (N := 19) B 4 rfl rfl (by decide) i_Program (B.2.2.2.1 _ k_327) rfl ((congrFun (congrFun r_hz 32) 4).trans (hb.2.1 32 4 35 rfl)) d_Machine_many_99 ?_
            refine mv_iload_n (pc := 102) B d_Machine_many_102 rfl 4 rfl ?_
            obtain ⟨q6, hf⟩ := xvi_e hf
            refine mv_iald (pc := 103) B rfl q6 d_Machine_many_103 ?_
            refine mv_lload (pc := 104) B d_Machine_many_104 0 rfl ?_
            refine mv_l2i (pc := 106) B d_Machine_many_106 ?_
            refine mv_iadd (pc := 107) B d_Machine_many_107 ?_
            refine mv_iload_n (pc := 108) B d_Machine_many_108 rfl 3 rfl ?_
            obtain ⟨v8, g7, eg7, hf⟩ := xhb_e hf
            refine mv_callVl (pc := 109) (n := 2) (ci := 9) (C := R_Machine) B (mK_ok sk sv) hNs rfl rfl (ch_Machine_wordAt_a l hi _ (xrw r_hz hb) _ _ eg7) rfl (ma_goodc kc_Machine_wordAt) (B.2.2.2.1 _ k_1797) (B.2.2.2.1 _ k_1799) (B.2.2.2.1 _ ks_78) (B.2.2.2.1 _ k_11) ⟨by decide +kernel, by decide +kernel, by decide +kernel⟩ rfl d_Machine_many_109 rfl (Nat.le_of_ble_eq_true rfl) ⟨by decide, by decide⟩ ⟨by decide, by decide⟩ ⟨by decide, by decide⟩ (mv_noH hno _) (fun w109 σ109 h109 => ?_)
            obtain ⟨rfl, rfl, s_g7⟩ := h109
            have r_g7 : mv_r g7 = mv_r h := s_g7.trans r_hz
            obtain ⟨g9, eg9, hf⟩ := xhv_e hf
            refine mv_callVv (pc := 112) (n := 1) (ci := 9) (C := R_Machine) B (mK_ok sk sv) hNs rfl rfl (ch_Machine_oneWith_a l hi _ (xrw r_g7 hb) _ eg9) rfl (ma_goodc kc_Machine_oneWith) (B.2.2.2.1 _ k_1801) (B.2.2.2.1 _ k_1573) (B.2.2.2.1 _ k_1574) (B.2.2.2.1 _ k_11) ⟨by decide +kernel, by decide +kernel, by decide +kernel⟩ rfl d_Machine_many_112 rfl (Nat.le_of_ble_eq_true rfl) ⟨by decide, by decide⟩ ⟨by decide, by decide⟩ ⟨by decide, by decide⟩ (mv_noH hno _) (fun σ112 h112 => ?_)
            obtain ⟨rfl, s_g9⟩ := h112
            have r_g9 : mv_r g9 = mv_r h := s_g9.trans r_g7
            refine mv_lpick [1, 2, 3, 4, 5] rfl ?_
            exact jn115 _ _ _ _ _ r_g9 hf
          · skip
            have hf := xif_f h72 hf
            refine mv_lpick [1, 2, 3, 4, 5] rfl ?_
            exact jn75 _ _ _ _ _ r_hz hf
  unfold f_Machine_many at hf
  refine mv_aload_n (pc := 0) B d_Machine_many_0 rfl 0 rfl ?_
  refine mv_getR (pc := 1) (ci := 9) (C := R_Machine) (T := F_Machine) (N := 13) B 0 rfl rfl (by decide) i_Machine (B.2.2.2.1 _ k_440) rfl hb.2.2 d_Machine_many_1 ?_
  refine mv_getI (pc := 4) (ci := 7) (C := R_Program) (T := F_Program) (N := 19) B 0 rfl rfl (by decide) i_Program (B.2.2.2.1 _ k_312) rfl d_Machine_many_4 ?_
  refine mv_bipush (pc := 7) (v := 8) B d_Machine_many_7 (by decide) ?_
  refine mv_idiv (pc := 9) B d_Machine_many_9 (by decide) ?_
  refine mv_istore_n (pc := 10) B d_Machine_many_10 rfl (by decide) rfl ?_
  refine mv_aload_n (pc := 11) B d_Machine_many_11 rfl 1 rfl ?_
  refine mv_getR (pc := 12) (ci := 9) (C := R_Machine) (T := F_Machine) (N := 13) B 0 rfl rfl (by decide) i_Machine (B.2.2.2.1 _ k_440) rfl hb.2.2 d_Machine_many_12 ?_
  refine mv_getI (pc := 15) (ci := 7) (C := R_Program) (T := F_Program) (N := 19) B 9 rfl rfl (by decide) i_Program (B.2.2.2.1 _ k_341) rfl d_Machine_many_15 ?_
  refine mv_istore_n (pc := 18) B d_Machine_many_18 rfl (by decide) rfl ?_
  refine mv_iconst (pc := 19) (v := 0) B d_Machine_many_19 (by decide) ?_
  refine mv_istore (pc := 20) B d_Machine_many_20 (by decide) rfl ?_
  refine mv_lpick [3, 4, 2, 1, 0] rfl ?_
  exact lp22 _ _ _ _ _ _ rfl hf
set_option maxHeartbeats 4000000 in
set_option maxRecDepth 100000 in
theorem ch_Machine_many_b (l : Launch) {dA : FieldType → ClassId} {D : va_G} {al : Nat → Nat} {ext : mv_Sh} {sk sv : Nat → Nat} (hi : mv_inj (mg dA D al ext)) (h : mv_H) (hb : Rf 48 (mv_r h))  (a0 : Int32) {rv : Int32} {rg : mv_H} (hf : f_Machine_many 48 h a0 = some (rv, rg)) : mv_C l y_Machine_many (Cond.code y_Machine_many b_Machine_many 7 (Option.some Jvm.ClassFile.FieldType.int) :: ma) ({ frames := 6, cells := 0, slots := 0, locals := 152 }) (mg dA D al ext) (mK sk sv) [.ref (al 64), .int a0] h (mv_Ri (fun v σ1 => rv = v ∧ rg = σ1 ∧ mv_r σ1 = mv_r h)) := by
  refine mv_C.ofV (cc := b_Machine_many) (nL := 7) (ret := (Option.some Jvm.ClassFile.FieldType.int)) (by decide +kernel) rfl hi (Nat.le_of_ble_eq_true rfl) ?_
  intro p e s m below meth c B hNs hr hnm hno
  have lp22 : ∀ (nn22 : Nat) (x1 : Int32) (x2 : Int32) (x3 : Int32) (x4 : Int32) (hz : mv_H), mv_r hz = mv_r h → f_Machine_many_22 48 nn22 x1 x2 x3 x4 hz = some (rv, rg) → mv_V p l e ({ frames := 6, cells := 0, slots := 0, locals := 152 }) s m ([.ref (al 64), .int a0] : List Value).toArray below meth c (mg dA D al ext) 7 0 0 (mv_Q (mg dA D al ext) below s 0 0 (mv_Ri (fun v σ1 => rv = v ∧ rg = σ1 ∧ mv_r σ1 = mv_r h))) hz 22 [(0, .ref (al 64)), (1, .int x1), (2, .int x2), (3, .int x3), (4, .int x4)] [] := by
    intro nn22
    induction nn22 with
    | zero => intro x1 x2 x3 x4 hz r_hz hf; cases hf
    | succ nn22 ih22 =>
      intro x1 x2 x3 x4 hz r_hz hf
      have jn115 : ∀ (x1 : Int32) (x2 : Int32) (x3 : Int32) (x4 : Int32) (hz : mv_H), mv_r hz = mv_r h → f_Machine_many_115 48 (f_Machine_many_22 48 nn22) x1 x2 x3 x4 hz = some (rv, rg) → mv_V p l e ({ frames := 6, cells := 0, slots := 0, locals := 152 }) s m ([.ref (al 64), .int a0] : List Value).toArray below meth c (mg dA D al ext) 7 0 0 (mv_Q (mg dA D al ext) below s 0 0 (mv_Ri (fun v σ1 => rv = v ∧ rg = σ1 ∧ mv_r σ1 = mv_r h))) hz 115 [(0, .ref (al 64)), (1, .int x1), (2, .int x2), (3, .int x3), (4, .int x4)] [] := by
        intro x1 x2 x3 x4 hz r_hz hf
        unfold f_Machine_many_115 at hf
        refine mv_aload_n (pc := 115) B d_Machine_many_115 rfl 0 rfl ?_
        refine mv_getI (pc := 116) (ci := 9) (C := R_Machine) (T := F_Machine) (N := 13) B 9 rfl rfl (by decide) i_Machine (B.2.2.2.1 _ k_451) rfl d_Machine_many_116 ?_
        refine mv_if_eq (pc := 119) (tgt := 125) B d_Machine_many_119 rfl (fun h119 => ?_) (fun h119 => ?_)
        · skip
          have hf := xif_t h119 hf
          refine mv_iinc (pc := 125) (j := 4) (v := 1) B d_Machine_many_125 rfl (by decide) (by decide) rfl ?_
          refine mv_goto (pc := 128) (tgt := 22) B d_Machine_many_128 rfl ?_
          refine mv_lpick [1, 2, 3, 4, 0] rfl ?_
          exact ih22 _ _ _ _ _ r_hz hf
        · skip
          have hf := xif_f h119 hf
          refine mv_iload (pc := 122) B d_Machine_many_122 4 rfl ?_
          exact mv_iret (pc := 124) B hr rfl d_Machine_many_124 (Nat.le_refl _) (Nat.le_refl _) ⟨_, rfl, xrh_i hf r_hz⟩
      have jn75 : ∀ (x1 : Int32) (x2 : Int32) (x3 : Int32) (x4 : Int32) (hz : mv_H), mv_r hz = mv_r h → f_Machine_many_75 48 (f_Machine_many_22 48 nn22) x1 x2 x3 x4 hz = some (rv, rg) → mv_V p l e ({ frames := 6, cells := 0, slots := 0, locals := 152 }) s m ([.ref (al 64), .int a0] : List Value).toArray below meth c (mg dA D al ext) 7 0 0 (mv_Q (mg dA D al ext) below s 0 0 (mv_Ri (fun v σ1 => rv = v ∧ rg = σ1 ∧ mv_r σ1 = mv_r h))) hz 75 [(0, .ref (al 64)), (1, .int x1), (2, .int x2), (3, .int x3), (4, .int x4)] [] := by
        intro x1 x2 x3 x4 hz r_hz hf
        unfold f_Machine_many_75 at hf
        refine mv_aload_n (pc := 75) B d_Machine_many_75 rfl 0 rfl ?_
        refine mv_iconst (pc := 76) (v := -1) B d_Machine_many_76 (by decide) ?_
        refine mv_putI (pc := 77) (ci := 9) (C := R_Machine) (T := F_Machine) (N := 13) B 9 rfl rfl (by decide) i_Machine t_Machine_ok n_Machine (B.2.2.2.1 _ k_451) rfl rfl rfl rfl d_Machine_many_77 ?_
        refine mvh_hp (R9 := mv_r h) hf r_hz (fun g1 hf r_g1 => ?_)
        refine mv_aload_n (pc := 80) B d_Machine_many_80 rfl 0 rfl ?_
        refine mv_dup (pc := 81) B d_Machine_many_81 rfl ?_
        refine mv_getI (pc := 82) (ci := 9) (C := R_Machine) (T := F_Machine) (N := 13) B 11 rfl rfl (by decide) i_Machine (B.2.2.2.1 _ k_455) rfl d_Machine_many_82 ?_
        refine mv_iconst (pc := 85) (v := 1) B d_Machine_many_85 (by decide) ?_
        refine mv_iadd (pc := 86) B d_Machine_many_86 ?_
        refine mv_putI (pc := 87) (ci := 9) (C := R_Machine) (T := F_Machine) (N := 13) B 11 rfl rfl (by decide) i_Machine t_Machine_ok n_Machine (B.2.2.2.1 _ k_455) rfl rfl rfl rfl d_Machine_many_87 ?_
        refine mvh_hp (R9 := mv_r h) hf r_g1 (fun g2 hf r_g2 => ?_)
        refine mv_goto (pc := 90) (tgt := 115) B d_Machine_many_90 rfl ?_
        refine mv_lpick [0, 1, 2, 3, 4] rfl ?_
        exact jn115 _ _ _ _ _ r_g2 hf
      have hf : fF_Machine_many_22 48 (f_Machine_many_22 48 nn22) x1 x2 x3 x4 hz = some (rv, rg) := hf
      unfold fF_Machine_many_22 at hf
      refine mv_iload (pc := 22) B d_Machine_many_22 4 rfl ?_
      refine mv_iload_n (pc := 24) B d_Machine_many_24 rfl 1 rfl ?_
      refine mv_icmp_ge (pc := 25) (tgt := 131) B d_Machine_many_25 rfl (fun h25 => ?_) (fun h25 => ?_)
      · skip
        have hf := xif_t h25 hf
        refine mv_iload_n (pc := 131) B d_Machine_many_131 rfl 1 rfl ?_
        exact mv_iret (pc := 132) B hr rfl d_Machine_many_132 (Nat.le_refl _) (Nat.le_refl _) ⟨_, rfl, xrh_i hf r_hz⟩
      · skip
        have hf := xif_f h25 hf
        refine mv_aload_n (pc := 28) B d_Machine_many_28 rfl 0 rfl ?_
        refine mv_getR (pc := 29) (ci := 9) (C := R_Machine) (T := F_Machine) (N := 13) B 1 rfl rfl (by decide) i_Machine (B.2.2.2.1 _ k_442) rfl ((congrFun (congrFun r_hz 64) 1).trans (hb.1 64 1 _ rfl)) d_Machine_many_29 ?_
        refine mv_aload_n (pc := 32) B d_Machine_many_32 rfl 0 rfl ?_
        refine mv_getR (pc := 33) (ci := 9) (C := R_Machine) (T := F_Machine) (N := 13) B 0 rfl rfl (by decide) i_Machine (B.2.2.2.1 _ k_440) rfl ((congrFun (congrFun r_hz 64) 0).trans hb.2.2) d_Machine_many_33 ?_
        refine mv_getR (pc := 36) (ci := 7) (C := R_Program) (T := F_Program) (N := 19) B 4 rfl rfl (by decide) i_Program (B.2.2.2.1 _ k_327) rfl ((congrFun (congrFun r_hz 48) 4).trans (hb.2.1 48 4 51 rfl)) d_Machine_many_36 ?_
        refine mv_aload_n (pc := 39) B d_Machine_many_39 rfl 0 rfl ?_
        refine mv_getR (pc := 40) (ci := 9) (C := R_Machine) (T := F_Machine) (N := 13) B 0 rfl rfl (by decide) i_Machine (B.2.2.2.1 _ k_440) rfl ((congrFun (congrFun r_hz 64) 0).trans hb.2.2) d_Machine_many_40 ?_
        refine mv_getI (pc := 43) (ci := 7) (C := R_Program) (T := F_Program) (N := 19) B 8 rfl rfl (by decide) i_Program (B.2.2.2.1 _ k_338) rfl d_Machine_many_43 ?_
        obtain ⟨q3, hf⟩ := xvi_e hf
        refine mv_iald (pc := 46) B rfl q3 d_Machine_many_46 ?_
        obtain ⟨q4, hf⟩ := xvi_e hf
        refine mv_lald (pc := 47) B rfl q4 d_Machine_many_47 ?_
        refine mv_lstore (pc := 48) B d_Machine_many_48 (by decide) rfl ?_
        refine mv_lload (pc := 50) B d_Machine_many_50 0 rfl ?_
        refine mv_lconst (pc := 52) (v := 0) B d_Machine_many_52 (by decide) ?_
        refine mv_lcmp (pc := 53) B d_Machine_many_53 ?_
        refine mv_if_lt (pc := 54) (tgt := 75) B d_Machine_many_54 rfl (fun h54 => ?_) (fun h54 => ?_)
        · skip
          have hf := xif_t h54 hf
          refine mv_lpick [1, 2, 3, 4, 5] rfl ?_
          exact jn75 _ _ _ _ _ r_hz hf
        · skip
          have hf := xif_f h54 hf
          refine mv_lload (pc := 57) B d_Machine_many_57 0 rfl ?_
          refine mv_aload_n (pc := 59) B d_Machine_many_59 rfl 1 rfl ?_
          refine mv_getR (pc := 60) (ci := 9) (C := R_Machine) (T := F_Machine) (N := 13) B 0 rfl rfl (by decide) i_Machine (B.2.2.2.1 _ k_440) rfl ((congrFun (congrFun r_hz 64) 0).trans hb.2.2) d_Machine_many_60 ?_
          refine mv_getR (pc := 63) (ci := 7) (C := R_Program) (T := F_Program) (N := 19) B 3 rfl rfl (by decide) i_Program (B.2.2.2.1 _ k_324) rfl ((congrFun (congrFun r_hz 48) 3).trans (hb.2.1 48 3 50 rfl)) d_Machine_many_63 ?_
          refine mv_iload_n (pc := 66) B d_Machine_many_66 rfl 4 rfl ?_
          obtain ⟨q5, hf⟩ := xvi_e hf
          refine mv_iald (pc := 67) B rfl q5 d_Machine_many_67 ?_
          refine mv_iload_n (pc := 68) B d_Machine_many_68 rfl 3 rfl ?_
          refine mv_isub (pc := 69) B d_Machine_many_69 ?_
          refine mv_i2l (pc := 70) B d_Machine_many_70 ?_
          refine mv_lcmp (pc := 71) B d_Machine_many_71 ?_
          refine mv_if_le (pc := 72) (tgt := 93) B d_Machine_many_72 rfl (fun h72 => ?_) (fun h72 => ?_)
          · skip
            have hf := xif_t h72 hf
            refine mv_aload_n (pc := 93) B d_Machine_many_93 rfl 1 rfl ?_
            refine mv_aload_n (pc := 94) B d_Machine_many_94 rfl 1 rfl ?_
            refine mv_aload_n (pc := 95) B d_Machine_many_95 rfl 1 rfl ?_
            refine mv_getR (pc := 96) (ci := 9) (C := R_Machine) (T := F_Machine) (N := 13) B 0 rfl rfl (by decide) i_Machine (B.2.2.2.1 _ k_440) rfl ((congrFun (congrFun r_hz 64) 0).trans hb.2.2) d_Machine_many_96 ?_
            refine mv_getR (pc := 99) (ci := 7) (C := R_Program) (T := F_Program) (N := 19) B 4 rfl rfl (by decide) i_Program (B.2.2.2.1 _ k_327) rfl ((congrFun (congrFun r_hz 48) 4).trans (hb.2.1 48 4 51 rfl)) d_Machine_many_99 ?_
            refine mv_iload_n (pc := 102) B d_Machine_many_102 rfl 4 rfl ?_
            obtain ⟨q6, hf⟩ := xvi_e hf
            refine mv_iald (pc := 103) B rfl q6 d_Machine_many_103 ?_
            refine mv_lload (pc := 104) B d_Machine_many_104 0 rfl ?_
            refine mv_l2i (pc := 106) B d_Machine_many_106 ?_
            refine mv_iadd (pc := 107) B d_Machine_many_107 ?_
            refine mv_iload_n (pc := 108) B d_Machine_many_108 rfl 3 rfl ?_
            obtain ⟨v8, g7, eg7, hf⟩ := xhb_e hf
            refine mv_callVl (pc := 109) (n := 2) (ci := 9) (C := R_Machine) B (mK_ok sk sv) hNs rfl rfl (ch_Machine_wordAt_b l hi _ (xrw r_hz hb) _ _ eg7) rfl (ma_goodc kc_Machine_wordAt) (B.2.2.2.1 _ k_1797) (B.2.2.2.1 _ k_1799) (B.2.2.2.1 _ ks_78) (B.2.2.2.1 _ k_11) ⟨by decide +kernel, by decide +kernel, by decide +kernel⟩ rfl d_Machine_many_109 rfl (Nat.le_of_ble_eq_true rfl) ⟨by decide, by decide⟩ ⟨by decide, by decide⟩ ⟨by decide, by decide⟩ (mv_noH hno _) (fun w109 σ109 h109 => ?_)
            obtain ⟨rfl, rfl, s_g7⟩ := h109
            have r_g7 : mv_r g7 = mv_r h := s_g7.trans r_hz
            obtain ⟨g9, eg9, hf⟩ := xhv_e hf
            refine mv_callVv (pc := 112) (n := 1) (ci := 9) (C := R_Machine) B (mK_ok sk sv) hNs rfl rfl (ch_Machine_oneWith_b l hi _ (xrw r_g7 hb) _ eg9) rfl (ma_goodc kc_Machine_oneWith) (B.2.2.2.1 _ k_1801) (B.2.2.2.1 _ k_1573) (B.2.2.2.1 _ k_1574) (B.2.2.2.1 _ k_11) ⟨by decide +kernel, by decide +kernel, by decide +kernel⟩ rfl d_Machine_many_112 rfl (Nat.le_of_ble_eq_true rfl) ⟨by decide, by decide⟩ ⟨by decide, by decide⟩ ⟨by decide, by decide⟩ (mv_noH hno _) (fun σ112 h112 => ?_)
            obtain ⟨rfl, s_g9⟩ := h112
            have r_g9 : mv_r g9 = mv_r h := s_g9.trans r_g7
            refine mv_lpick [1, 2, 3, 4, 5] rfl ?_
            exact jn115 _ _ _ _ _ r_g9 hf
          · skip
            have hf := xif_f h72 hf
            refine mv_lpick [1, 2, 3, 4, 5] rfl ?_
            exact jn75 _ _ _ _ _ r_hz hf
  unfold f_Machine_many at hf
  refine mv_aload_n (pc := 0) B d_Machine_many_0 rfl 0 rfl ?_
  refine mv_getR (pc := 1) (ci := 9) (C := R_Machine) (T := F_Machine) (N := 13) B 0 rfl rfl (by decide) i_Machine (B.2.2.2.1 _ k_440) rfl hb.2.2 d_Machine_many_1 ?_
  refine mv_getI (pc := 4) (ci := 7) (C := R_Program) (T := F_Program) (N := 19) B 0 rfl rfl (by decide) i_Program (B.2.2.2.1 _ k_312) rfl d_Machine_many_4 ?_
  refine mv_bipush (pc := 7) (v := 8) B d_Machine_many_7 (by decide) ?_
  refine mv_idiv (pc := 9) B d_Machine_many_9 (by decide) ?_
  refine mv_istore_n (pc := 10) B d_Machine_many_10 rfl (by decide) rfl ?_
  refine mv_aload_n (pc := 11) B d_Machine_many_11 rfl 1 rfl ?_
  refine mv_getR (pc := 12) (ci := 9) (C := R_Machine) (T := F_Machine) (N := 13) B 0 rfl rfl (by decide) i_Machine (B.2.2.2.1 _ k_440) rfl hb.2.2 d_Machine_many_12 ?_
  refine mv_getI (pc := 15) (ci := 7) (C := R_Program) (T := F_Program) (N := 19) B 9 rfl rfl (by decide) i_Program (B.2.2.2.1 _ k_341) rfl d_Machine_many_15 ?_
  refine mv_istore_n (pc := 18) B d_Machine_many_18 rfl (by decide) rfl ?_
  refine mv_iconst (pc := 19) (v := 0) B d_Machine_many_19 (by decide) ?_
  refine mv_istore (pc := 20) B d_Machine_many_20 (by decide) rfl ?_
  refine mv_lpick [3, 4, 2, 1, 0] rfl ?_
  exact lp22 _ _ _ _ _ _ rfl hf
