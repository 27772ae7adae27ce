/-! exact runs over abstract heaps: the reference's Book, what does not call itself -/
def xt2 {α : Type} (o : Option Int32) (g : mv_H) (f : Int32 → mv_H → Option (Option α × mv_H)) : Option (Option α × mv_H) := match o with
  | none => some (none, g)
  | some v => f v g
def xtb {α : Type} (o : Option (Option Int32 × mv_H)) (f : Int32 → mv_H → Option (Option α × mv_H)) : Option (Option α × mv_H) := match o with
  | none => none
  | some x => xt2 x.1 x.2 f
theorem xtb_e {α : Type} {o : Option (Option Int32 × mv_H)} {f : Int32 → mv_H → Option (Option α × mv_H)} {r : Option α × mv_H} (h : xtb o f = some r) : ∃ ov g, o = some (ov, g) ∧ xt2 ov g f = some r := by
  cases o with
  | none => cases h
  | some x => exact ⟨x.1, x.2, rfl, h⟩
theorem xt2_s {α : Type} {v : Int32} {g : mv_H} {f : Int32 → mv_H → Option (Option α × mv_H)} {r : Option (Option α × mv_H)} (h : xt2 (some v) g f = r) : f v g = r := h
theorem xth {α : Type} {ov : Option Int32} {g τ h0 : mv_H} {f : Int32 → mv_H → Option (Option α × mv_H)} {rv : Option α} {rg : mv_H} {R : Nat → Nat → Option Nat} (hf : xt2 ov g f = some (rv, rg)) (h : ov = none ∧ g = τ ∧ mv_r τ = mv_r h0) (r : mv_r h0 = R) : rv = none ∧ rg = τ ∧ mv_r τ = R := by
  obtain ⟨rfl, rfl, e⟩ := h
  cases hf
  exact ⟨rfl, rfl, e.trans r⟩
theorem xrt_i {t : Int32} {rv : Option Int32} {h rg : mv_H} {R : Nat → Nat → Option Nat} (hf : some (some t, h) = some (rv, rg)) (r : mv_r h = R) : rv = some t ∧ rg = h ∧ mv_r h = R := by cases hf; exact ⟨rfl, rfl, r⟩
theorem xrt_t {rv : Option Int32} {h rg : mv_H} {R : Nat → Nat → Option Nat} (hf : some (none, h) = some (rv, rg)) (r : mv_r h = R) : rv = none ∧ rg = h ∧ mv_r h = R := by cases hf; exact ⟨rfl, rfl, r⟩
def f_Model_in_17 (hz : mv_H) : Option (Int32 × mv_H) := bif xzb (0 : Int32) then some ((0 : Int32), hz) else none
def f_Model_in (h : mv_H) (a0 : Int64) (a1 : Int64) (a2 : Int64) : Option (Int32 × mv_H) := if (lg_cmp a0 a1) < (0 : Int32) then (f_Model_in_17  h) else (if (0 : Int32) < (lg_cmp a0 a2) then (f_Model_in_17  h) else (bif xzb (1 : Int32) then some ((1 : Int32), h) else none))
set_option maxHeartbeats 4000000 in
set_option maxRecDepth 100000 in
theorem ch_Model_in (l : Launch) {dA : FieldType → ClassId} {D : va_G} {al : Nat → Nat} {ext : mv_Sh} {sk sv : Nat → Nat} (hi : mv_inj (mg dA D al ext)) (h : mv_H)  (a0 : Int64) (a1 : Int64) (a2 : Int64) {rv : Int32} {rg : mv_H} (hf : f_Model_in h a0 a1 a2 = some (rv, rg)) : mv_C l y_Model_in (Cond.code y_Model_in b_Model_in 6 (Option.some Jvm.ClassFile.FieldType.boolean) :: ma) ({ frames := 0, cells := 0, slots := 0, locals := 0 }) (mg dA D al ext) (mK sk sv) [.long a0, .long a1, .long a2] h (mv_Ri (fun v σ1 => rv = v ∧ rg = σ1 ∧ mv_r σ1 = mv_r h)) := by
  refine mv_C.ofV (cc := b_Model_in) (nL := 6) (ret := (Option.some Jvm.ClassFile.FieldType.boolean)) (by decide +kernel) rfl hi (Nat.le_of_ble_eq_true rfl) ?_
  intro p e s m below meth c B hNs hr hnm hno
  have jn17 : ∀ (hz : mv_H), mv_r hz = mv_r h → f_Model_in_17  hz = some (rv, rg) → mv_V p l e ({ frames := 0, cells := 0, slots := 0, locals := 0 }) s m ([.long a0, .long a1, .long a2] : List Value).toArray below meth c (mg dA D al ext) 6 0 0 (mv_Q (mg dA D al ext) below s 0 0 (mv_Ri (fun v σ1 => rv = v ∧ rg = σ1 ∧ mv_r σ1 = mv_r h))) hz 17 [] [] := by
    intro  hz r_hz hf
    unfold f_Model_in_17 at hf
    refine mv_iconst (pc := 17) (v := 0) B d_Model_in_17 (by decide) ?_
    obtain ⟨q1, hf⟩ := xzb_e hf
    exact mv_iret (pc := 18) B hr (xzb_n q1) d_Model_in_18 (Nat.le_refl _) (Nat.le_refl _) ⟨_, rfl, xrh_i hf r_hz⟩
  unfold f_Model_in at hf
  refine mv_lload_n (pc := 0) B d_Model_in_0 rfl 0 rfl ?_
  refine mv_lload_n (pc := 1) B d_Model_in_1 rfl 1 rfl ?_
  refine mv_lcmp (pc := 2) B d_Model_in_2 ?_
  refine mv_if_lt (pc := 3) (tgt := 17) B d_Model_in_3 rfl (fun h3 => ?_) (fun h3 => ?_)
  · skip
    have hf := xif_t h3 hf
    refine mv_lpick [] rfl ?_
    exact jn17  _ rfl hf
  · skip
    have hf := xif_f h3 hf
    refine mv_lload_n (pc := 6) B d_Model_in_6 rfl 0 rfl ?_
    refine mv_lload (pc := 7) B d_Model_in_7 2 rfl ?_
    refine mv_lcmp (pc := 9) B d_Model_in_9 ?_
    refine mv_if_gt (pc := 10) (tgt := 17) B d_Model_in_10 rfl (fun h10 => ?_) (fun h10 => ?_)
    · skip
      have hf := xif_t h10 hf
      refine mv_lpick [] rfl ?_
      exact jn17  _ rfl hf
    · skip
      have hf := xif_f h10 hf
      refine mv_iconst (pc := 13) (v := 1) B d_Model_in_13 (by decide) ?_
      refine mv_goto (pc := 14) (tgt := 18) B d_Model_in_14 rfl ?_
      obtain ⟨q2, hf⟩ := xzb_e hf
      exact mv_iret (pc := 18) B hr (xzb_n q2) d_Model_in_18 (Nat.le_refl _) (Nat.le_refl _) ⟨_, rfl, xrh_i hf rfl⟩
def f_Book_letter_30 (hz : mv_H) : Option (Int32 × mv_H) := bif xzb (1 : Int32) then some ((1 : Int32), hz) else none
def f_Book_letter_24 (x0 : Int32) (hz : mv_H) : Option (Int32 × mv_H) := if x0 = (95 : Int32) then (f_Book_letter_30  hz) else (bif xzb (0 : Int32) then some ((0 : Int32), hz) else none)
def f_Book_letter_12 (x0 : Int32) (hz : mv_H) : Option (Int32 × mv_H) := if x0 < (65 : Int32) then (f_Book_letter_24 x0 hz) else (if x0 ≤ (90 : Int32) then (f_Book_letter_30  hz) else (f_Book_letter_24 x0 hz))
def f_Book_letter (h : mv_H) (a0 : Int32) : Option (Int32 × mv_H) := if a0 < (97 : Int32) then (f_Book_letter_12 a0 h) else (if a0 ≤ (122 : Int32) then (f_Book_letter_30  h) else (f_Book_letter_12 a0 h))
set_option maxHeartbeats 4000000 in
set_option maxRecDepth 100000 in
theorem ch_Book_letter (l : Launch) {dA : FieldType → ClassId} {D : va_G} {al : Nat → Nat} {ext : mv_Sh} {sk sv : Nat → Nat} (hi : mv_inj (mg dA D al ext)) (h : mv_H)  (a0 : Int32) {rv : Int32} {rg : mv_H} (hf : f_Book_letter h a0 = some (rv, rg)) : mv_C l y_Book_letter (Cond.code y_Book_letter b_Book_letter 1 (Option.some Jvm.ClassFile.FieldType.boolean) :: ma) ({ frames := 0, cells := 0, slots := 0, locals := 0 }) (mg dA D al ext) (mK sk sv) [.int a0] h (mv_Ri (fun v σ1 => rv = v ∧ rg = σ1 ∧ mv_r σ1 = mv_r h)) := by
  refine mv_C.ofV (cc := b_Book_letter) (nL := 1) (ret := (Option.some Jvm.ClassFile.FieldType.boolean)) (by decide +kernel) rfl hi (Nat.le_of_ble_eq_true rfl) ?_
  intro p e s m below meth c B hNs hr hnm hno
  have jn30 : ∀ (hz : mv_H), mv_r hz = mv_r h → f_Book_letter_30  hz = some (rv, rg) → mv_V p l e ({ frames := 0, cells := 0, slots := 0, locals := 0 }) s m ([.int a0] : List Value).toArray below meth c (mg dA D al ext) 1 0 0 (mv_Q (mg dA D al ext) below s 0 0 (mv_Ri (fun v σ1 => rv = v ∧ rg = σ1 ∧ mv_r σ1 = mv_r h))) hz 30 [] [] := by
    intro  hz r_hz hf
    unfold f_Book_letter_30 at hf
    refine mv_iconst (pc := 30) (v := 1) B d_Book_letter_30 (by decide) ?_
    refine mv_goto (pc := 31) (tgt := 35) B d_Book_letter_31 rfl ?_
    obtain ⟨q1, hf⟩ := xzb_e hf
    exact mv_iret (pc := 35) B hr (xzb_n q1) d_Book_letter_35 (Nat.le_refl _) (Nat.le_refl _) ⟨_, rfl, xrh_i hf r_hz⟩
  have jn24 : ∀ (x0 : Int32) (hz : mv_H), mv_r hz = mv_r h → f_Book_letter_24 x0 hz = some (rv, rg) → mv_V p l e ({ frames := 0, cells := 0, slots := 0, locals := 0 }) s m ([.int a0] : List Value).toArray below meth c (mg dA D al ext) 1 0 0 (mv_Q (mg dA D al ext) below s 0 0 (mv_Ri (fun v σ1 => rv = v ∧ rg = σ1 ∧ mv_r σ1 = mv_r h))) hz 24 [(0, .int x0)] [] := by
    intro x0 hz r_hz hf
    unfold f_Book_letter_24 at hf
    refine mv_iload_n (pc := 24) B d_Book_letter_24 rfl 0 rfl ?_
    refine mv_bipush (pc := 25) (v := 95) B d_Book_letter_25 (by decide) ?_
    refine mv_icmp_ne (pc := 27) (tgt := 34) B d_Book_letter_27 rfl (fun h27 => ?_) (fun h27 => ?_)
    · skip
      have hf := xif_f h27 hf
      refine mv_iconst (pc := 34) (v := 0) B d_Book_letter_34 (by decide) ?_
      obtain ⟨q2, hf⟩ := xzb_e hf
      exact mv_iret (pc := 35) B hr (xzb_n q2) d_Book_letter_35 (Nat.le_refl _) (Nat.le_refl _) ⟨_, rfl, xrh_i hf r_hz⟩
    · skip
      have hf := xif_t h27 hf
      refine mv_lpick [] rfl ?_
      exact jn30  _ r_hz hf
  have jn12 : ∀ (x0 : Int32) (hz : mv_H), mv_r hz = mv_r h → f_Book_letter_12 x0 hz = some (rv, rg) → mv_V p l e ({ frames := 0, cells := 0, slots := 0, locals := 0 }) s m ([.int a0] : List Value).toArray below meth c (mg dA D al ext) 1 0 0 (mv_Q (mg dA D al ext) below s 0 0 (mv_Ri (fun v σ1 => rv = v ∧ rg = σ1 ∧ mv_r σ1 = mv_r h))) hz 12 [(0, .int x0)] [] := by
    intro x0 hz r_hz hf
    unfold f_Book_letter_12 at hf
    refine mv_iload_n (pc := 12) B d_Book_letter_12 rfl 0 rfl ?_
    refine mv_bipush (pc := 13) (v := 65) B d_Book_letter_13 (by decide) ?_
    refine mv_icmp_lt (pc := 15) (tgt := 24) B d_Book_letter_15 rfl (fun h15 => ?_) (fun h15 => ?_)
    · skip
      have hf := xif_t h15 hf
      refine mv_lpick [0] rfl ?_
      exact jn24 _ _ r_hz hf
    · skip
      have hf := xif_f h15 hf
      refine mv_iload_n (pc := 18) B d_Book_letter_18 rfl 0 rfl ?_
      refine mv_bipush (pc := 19) (v := 90) B d_Book_letter_19 (by decide) ?_
      refine mv_icmp_le (pc := 21) (tgt := 30) B d_Book_letter_21 rfl (fun h21 => ?_) (fun h21 => ?_)
      · skip
        have hf := xif_t h21 hf
        refine mv_lpick [] rfl ?_
        exact jn30  _ r_hz hf
      · skip
        have hf := xif_f h21 hf
        refine mv_lpick [0] rfl ?_
        exact jn24 _ _ r_hz hf
  unfold f_Book_letter at hf
  refine mv_iload_n (pc := 0) B d_Book_letter_0 rfl 0 rfl ?_
  refine mv_bipush (pc := 1) (v := 97) B d_Book_letter_1 (by decide) ?_
  refine mv_icmp_lt (pc := 3) (tgt := 12) B d_Book_letter_3 rfl (fun h3 => ?_) (fun h3 => ?_)
  · skip
    have hf := xif_t h3 hf
    refine mv_lpick [0] rfl ?_
    exact jn12 _ _ rfl hf
  · skip
    have hf := xif_f h3 hf
    refine mv_iload_n (pc := 6) B d_Book_letter_6 rfl 0 rfl ?_
    refine mv_bipush (pc := 7) (v := 122) B d_Book_letter_7 (by decide) ?_
    refine mv_icmp_le (pc := 9) (tgt := 30) B d_Book_letter_9 rfl (fun h9 => ?_) (fun h9 => ?_)
    · skip
      have hf := xif_t h9 hf
      refine mv_lpick [] rfl ?_
      exact jn30  _ rfl hf
    · skip
      have hf := xif_f h9 hf
      refine mv_lpick [0] rfl ?_
      exact jn12 _ _ rfl hf
def f_Book_digit_16 (hz : mv_H) : Option (Int32 × mv_H) := bif xzb (0 : Int32) then some ((0 : Int32), hz) else none
def f_Book_digit (h : mv_H) (a0 : Int32) : Option (Int32 × mv_H) := if a0 < (48 : Int32) then (f_Book_digit_16  h) else (if (57 : Int32) < a0 then (f_Book_digit_16  h) else (bif xzb (1 : Int32) then some ((1 : Int32), h) else none))
set_option maxHeartbeats 4000000 in
set_option maxRecDepth 100000 in
theorem ch_Book_digit (l : Launch) {dA : FieldType → ClassId} {D : va_G} {al : Nat → Nat} {ext : mv_Sh} {sk sv : Nat → Nat} (hi : mv_inj (mg dA D al ext)) (h : mv_H)  (a0 : Int32) {rv : Int32} {rg : mv_H} (hf : f_Book_digit h a0 = some (rv, rg)) : mv_C l y_Book_digit (Cond.code y_Book_digit b_Book_digit 1 (Option.some Jvm.ClassFile.FieldType.boolean) :: ma) ({ frames := 0, cells := 0, slots := 0, locals := 0 }) (mg dA D al ext) (mK sk sv) [.int a0] h (mv_Ri (fun v σ1 => rv = v ∧ rg = σ1 ∧ mv_r σ1 = mv_r h)) := by
  refine mv_C.ofV (cc := b_Book_digit) (nL := 1) (ret := (Option.some Jvm.ClassFile.FieldType.boolean)) (by decide +kernel) rfl hi (Nat.le_of_ble_eq_true rfl) ?_
  intro p e s m below meth c B hNs hr hnm hno
  have jn16 : ∀ (hz : mv_H), mv_r hz = mv_r h → f_Book_digit_16  hz = some (rv, rg) → mv_V p l e ({ frames := 0, cells := 0, slots := 0, locals := 0 }) s m ([.int a0] : List Value).toArray below meth c (mg dA D al ext) 1 0 0 (mv_Q (mg dA D al ext) below s 0 0 (mv_Ri (fun v σ1 => rv = v ∧ rg = σ1 ∧ mv_r σ1 = mv_r h))) hz 16 [] [] := by
    intro  hz r_hz hf
    unfold f_Book_digit_16 at hf
    refine mv_iconst (pc := 16) (v := 0) B d_Book_digit_16 (by decide) ?_
    obtain ⟨q1, hf⟩ := xzb_e hf
    exact mv_iret (pc := 17) B hr (xzb_n q1) d_Book_digit_17 (Nat.le_refl _) (Nat.le_refl _) ⟨_, rfl, xrh_i hf r_hz⟩
  unfold f_Book_digit at hf
  refine mv_iload_n (pc := 0) B d_Book_digit_0 rfl 0 rfl ?_
  refine mv_bipush (pc := 1) (v := 48) B d_Book_digit_1 (by decide) ?_
  refine mv_icmp_lt (pc := 3) (tgt := 16) B d_Book_digit_3 rfl (fun h3 => ?_) (fun h3 => ?_)
  · skip
    have hf := xif_t h3 hf
    refine mv_lpick [] rfl ?_
    exact jn16  _ rfl hf
  · skip
    have hf := xif_f h3 hf
    refine mv_iload_n (pc := 6) B d_Book_digit_6 rfl 0 rfl ?_
    refine mv_bipush (pc := 7) (v := 57) B d_Book_digit_7 (by decide) ?_
    refine mv_icmp_gt (pc := 9) (tgt := 16) B d_Book_digit_9 rfl (fun h9 => ?_) (fun h9 => ?_)
    · skip
      have hf := xif_t h9 hf
      refine mv_lpick [] rfl ?_
      exact jn16  _ rfl hf
    · skip
      have hf := xif_f h9 hf
      refine mv_iconst (pc := 12) (v := 1) B d_Book_digit_12 (by decide) ?_
      refine mv_goto (pc := 13) (tgt := 17) B d_Book_digit_13 rfl ?_
      obtain ⟨q2, hf⟩ := xzb_e hf
      exact mv_iret (pc := 17) B hr (xzb_n q2) d_Book_digit_17 (Nat.le_refl _) (Nat.le_refl _) ⟨_, rfl, xrh_i hf rfl⟩
def f_Book_hex_58 (hz : mv_H) : Option (Int32 × mv_H) := some ((-1 : Int32), hz)
def f_Book_hex_36 (x0 : Int32) (hz : mv_H) : Option (Int32 × mv_H) := if x0 < (65 : Int32) then (f_Book_hex_58  hz) else (if (70 : Int32) < x0 then (f_Book_hex_58  hz) else (some (((x0 - (65 : Int32)) + (10 : Int32)), hz)))
def f_Book_hex (h : mv_H) (a0 : Int32) : Option (Int32 × mv_H) := xhb (f_Book_digit h a0) fun u2 g1 => if u2 = (0 : Int32) then (if a0 < (97 : Int32) then (f_Book_hex_36 a0 g1) else (if (102 : Int32) < a0 then (f_Book_hex_36 a0 g1) else (some (((a0 - (97 : Int32)) + (10 : Int32)), g1)))) else (some ((a0 - (48 : Int32)), g1))
set_option maxHeartbeats 4000000 in
set_option maxRecDepth 100000 in
theorem ch_Book_hex (l : Launch) {dA : FieldType → ClassId} {D : va_G} {al : Nat → Nat} {ext : mv_Sh} {sk sv : Nat → Nat} (hi : mv_inj (mg dA D al ext)) (h : mv_H)  (a0 : Int32) {rv : Int32} {rg : mv_H} (hf : f_Book_hex h a0 = some (rv, rg)) : mv_C l y_Book_hex (Cond.code y_Book_hex b_Book_hex 1 (Option.some Jvm.ClassFile.FieldType.int) :: ma) ({ frames := 1, cells := 0, slots := 0, locals := 20 }) (mg dA D al ext) (mK sk sv) [.int a0] h (mv_Ri (fun v σ1 => rv = v ∧ rg = σ1 ∧ mv_r σ1 = mv_r h)) := by
  refine mv_C.ofV (cc := b_Book_hex) (nL := 1) (ret := (Option.some Jvm.ClassFile.FieldType.int)) (by decide +kernel) rfl hi (Nat.le_of_ble_eq_true rfl) ?_
  intro p e s m below meth c B hNs hr hnm hno
  have jn58 : ∀ (hz : mv_H), mv_r hz = mv_r h → f_Book_hex_58  hz = some (rv, rg) → mv_V p l e ({ frames := 1, cells := 0, slots := 0, locals := 20 }) s m ([.int a0] : List Value).toArray below meth c (mg dA D al ext) 1 0 0 (mv_Q (mg dA D al ext) below s 0 0 (mv_Ri (fun v σ1 => rv = v ∧ rg = σ1 ∧ mv_r σ1 = mv_r h))) hz 58 [] [] := by
    intro  hz r_hz hf
    unfold f_Book_hex_58 at hf
    refine mv_iconst (pc := 58) (v := -1) B d_Book_hex_58 (by decide) ?_
    exact mv_iret (pc := 59) B hr rfl d_Book_hex_59 (Nat.le_refl _) (Nat.le_refl _) ⟨_, rfl, xrh_i hf r_hz⟩
  have jn36 : ∀ (x0 : Int32) (hz : mv_H), mv_r hz = mv_r h → f_Book_hex_36 x0 hz = some (rv, rg) → mv_V p l e ({ frames := 1, cells := 0, slots := 0, locals := 20 }) s m ([.int a0] : List Value).toArray below meth c (mg dA D al ext) 1 0 0 (mv_Q (mg dA D al ext) below s 0 0 (mv_Ri (fun v σ1 => rv = v ∧ rg = σ1 ∧ mv_r σ1 = mv_r h))) hz 36 [(0, .int x0)] [] := by
    intro x0 hz r_hz hf
    unfold f_Book_hex_36 at hf
    refine mv_iload_n (pc := 36) B d_Book_hex_36 rfl 0 rfl ?_
    refine mv_bipush (pc := 37) (v := 65) B d_Book_hex_37 (by decide) ?_
    refine mv_icmp_lt (pc := 39) (tgt := 58) B d_Book_hex_39 rfl (fun h39 => ?_) (fun h39 => ?_)
    · skip
      have hf := xif_t h39 hf
      refine mv_lpick [] rfl ?_
      exact jn58  _ r_hz hf
    · skip
      have hf := xif_f h39 hf
      refine mv_iload_n (pc := 42) B d_Book_hex_42 rfl 0 rfl ?_
      refine mv_bipush (pc := 43) (v := 70) B d_Book_hex_43 (by decide) ?_
      refine mv_icmp_gt (pc := 45) (tgt := 58) B d_Book_hex_45 rfl (fun h45 => ?_) (fun h45 => ?_)
      · skip
        have hf := xif_t h45 hf
        refine mv_lpick [] rfl ?_
        exact jn58  _ r_hz hf
      · skip
        have hf := xif_f h45 hf
        refine mv_iload_n (pc := 48) B d_Book_hex_48 rfl 0 rfl ?_
        refine mv_bipush (pc := 49) (v := 65) B d_Book_hex_49 (by decide) ?_
        refine mv_isub (pc := 51) B d_Book_hex_51 ?_
        refine mv_bipush (pc := 52) (v := 10) B d_Book_hex_52 (by decide) ?_
        refine mv_iadd (pc := 54) B d_Book_hex_54 ?_
        refine mv_goto (pc := 55) (tgt := 59) B d_Book_hex_55 rfl ?_
        exact mv_iret (pc := 59) B hr rfl d_Book_hex_59 (Nat.le_refl _) (Nat.le_refl _) ⟨_, rfl, xrh_i hf r_hz⟩
  unfold f_Book_hex at hf
  refine mv_iload_n (pc := 0) B d_Book_hex_0 rfl 0 rfl ?_
  obtain ⟨u2, g1, eg1, hf⟩ := xhb_e hf
  refine mv_callSi (pc := 1) (n := 1) B (mK_ok sk sv) hNs (ch_Book_digit l hi _ _ eg1) rfl (ma_goodc kc_Book_digit) (B.2.2.2.1 _ k_2129) (B.2.2.2.1 _ k_2130) (B.2.2.2.1 _ k_13) ⟨by decide +kernel, by decide +kernel, by decide +kernel⟩ rfl d_Book_hex_1 rfl (Nat.le_of_ble_eq_true rfl) ⟨by decide, by decide⟩ ⟨by decide, by decide⟩ ⟨by decide, by decide⟩ (mv_noH hno _) (fun w1 σ1 h1 => ?_)
  obtain ⟨rfl, rfl, s_g1⟩ := h1
  have r_g1 : mv_r g1 = mv_r h := s_g1.trans rfl
  refine mv_if_eq (pc := 4) (tgt := 14) B d_Book_hex_4 rfl (fun h4 => ?_) (fun h4 => ?_)
  · skip
    have hf := xif_t h4 hf
    refine mv_iload_n (pc := 14) B d_Book_hex_14 rfl 0 rfl ?_
    refine mv_bipush (pc := 15) (v := 97) B d_Book_hex_15 (by decide) ?_
    refine mv_icmp_lt (pc := 17) (tgt := 36) B d_Book_hex_17 rfl (fun h17 => ?_) (fun h17 => ?_)
    · skip
      have hf := xif_t h17 hf
      refine mv_lpick [0] rfl ?_
      exact jn36 _ _ r_g1 hf
    · skip
      have hf := xif_f h17 hf
      refine mv_iload_n (pc := 20) B d_Book_hex_20 rfl 0 rfl ?_
      refine mv_bipush (pc := 21) (v := 102) B d_Book_hex_21 (by decide) ?_
      refine mv_icmp_gt (pc := 23) (tgt := 36) B d_Book_hex_23 rfl (fun h23 => ?_) (fun h23 => ?_)
      · skip
        have hf := xif_t h23 hf
        refine mv_lpick [0] rfl ?_
        exact jn36 _ _ r_g1 hf
      · skip
        have hf := xif_f h23 hf
        refine mv_iload_n (pc := 26) B d_Book_hex_26 rfl 0 rfl ?_
        refine mv_bipush (pc := 27) (v := 97) B d_Book_hex_27 (by decide) ?_
        refine mv_isub (pc := 29) B d_Book_hex_29 ?_
        refine mv_bipush (pc := 30) (v := 10) B d_Book_hex_30 (by decide) ?_
        refine mv_iadd (pc := 32) B d_Book_hex_32 ?_
        refine mv_goto (pc := 33) (tgt := 59) B d_Book_hex_33 rfl ?_
        exact mv_iret (pc := 59) B hr rfl d_Book_hex_59 (Nat.le_refl _) (Nat.le_refl _) ⟨_, rfl, xrh_i hf r_g1⟩
  · skip
    have hf := xif_f h4 hf
    refine mv_iload_n (pc := 7) B d_Book_hex_7 rfl 0 rfl ?_
    refine mv_bipush (pc := 8) (v := 48) B d_Book_hex_8 (by decide) ?_
    refine mv_isub (pc := 10) B d_Book_hex_10 ?_
    refine mv_goto (pc := 11) (tgt := 59) B d_Book_hex_11 rfl ?_
    exact mv_iret (pc := 59) B hr rfl d_Book_hex_59 (Nat.le_refl _) (Nat.le_refl _) ⟨_, rfl, xrh_i hf r_g1⟩
def f_Book_sign_394 (hz : mv_H) : Option (Int32 × mv_H) := bif xzb (0 : Int32) then some ((0 : Int32), hz) else none
def f_Book_sign_392 (hz : mv_H) : Option (Int32 × mv_H) := bif xzb (1 : Int32) then some ((1 : Int32), hz) else none
def f_Book_sign (h : mv_H) (a0 : Int32) : Option (Int32 × mv_H) := if (a0).toInt = 33 then (f_Book_sign_392  h) else (if (a0).toInt = 34 then (f_Book_sign_394  h) else (if (a0).toInt = 35 then (f_Book_sign_394  h) else (if (a0).toInt = 36 then (f_Book_sign_394  h) else (if (a0).toInt = 37 then (f_Book_sign_392  h) else (if (a0).toInt = 38 then (f_Book_sign_392  h) else (if (a0).toInt = 39 then (f_Book_sign_392  h) else (if (a0).toInt = 40 then (f_Book_sign_392  h) else (if (a0).toInt = 41 then (f_Book_sign_392  h) else (if (a0).toInt = 42 then (f_Book_sign_392  h) else (if (a0).toInt = 43 then (f_Book_sign_392  h) else (if (a0).toInt = 44 then (f_Book_sign_392  h) else (if (a0).toInt = 45 then (f_Book_sign_392  h) else (if (a0).toInt = 46 then (f_Book_sign_394  h) else (if (a0).toInt = 47 then (f_Book_sign_392  h) else (if (a0).toInt = 48 then (f_Book_sign_394  h) else (if (a0).toInt = 49 then (f_Book_sign_394  h) else (if (a0).toInt = 50 then (f_Book_sign_394  h) else (if (a0).toInt = 51 then (f_Book_sign_394  h) else (if (a0).toInt = 52 then (f_Book_sign_394  h) else (if (a0).toInt = 53 then (f_Book_sign_394  h) else (if (a0).toInt = 54 then (f_Book_sign_394  h) else (if (a0).toInt = 55 then (f_Book_sign_394  h) else (if (a0).toInt = 56 then (f_Book_sign_394  h) else (if (a0).toInt = 57 then (f_Book_sign_394  h) else (if (a0).toInt = 58 then (f_Book_sign_392  h) else (if (a0).toInt = 59 then (f_Book_sign_392  h) else (if (a0).toInt = 60 then (f_Book_sign_392  h) else (if (a0).toInt = 61 then (f_Book_sign_392  h) else (if (a0).toInt = 62 then (f_Book_sign_394  h) else (if (a0).toInt = 63 then (f_Book_sign_392  h) else (if (a0).toInt = 64 then (f_Book_sign_394  h) else (if (a0).toInt = 65 then (f_Book_sign_394  h) else (if (a0).toInt = 66 then (f_Book_sign_394  h) else (if (a0).toInt = 67 then (f_Book_sign_394  h) else (if (a0).toInt = 68 then (f_Book_sign_394  h) else (if (a0).toInt = 69 then (f_Book_sign_394  h) else (if (a0).toInt = 70 then (f_Book_sign_394  h) else (if (a0).toInt = 71 then (f_Book_sign_394  h) else (if (a0).toInt = 72 then (f_Book_sign_394  h) else (if (a0).toInt = 73 then (f_Book_sign_394  h) else (if (a0).toInt = 74 then (f_Book_sign_394  h) else (if (a0).toInt = 75 then (f_Book_sign_394  h) else (if (a0).toInt = 76 then (f_Book_sign_394  h) else (if (a0).toInt = 77 then (f_Book_sign_394  h) else (if (a0).toInt = 78 then (f_Book_sign_394  h) else (if (a0).toInt = 79 then (f_Book_sign_394  h) else (if (a0).toInt = 80 then (f_Book_sign_394  h) else (if (a0).toInt = 81 then (f_Book_sign_394  h) else (if (a0).toInt = 82 then (f_Book_sign_394  h) else (if (a0).toInt = 83 then (f_Book_sign_394  h) else (if (a0).toInt = 84 then (f_Book_sign_394  h) else (if (a0).toInt = 85 then (f_Book_sign_394  h) else (if (a0).toInt = 86 then (f_Book_sign_394  h) else (if (a0).toInt = 87 then (f_Book_sign_394  h) else (if (a0).toInt = 88 then (f_Book_sign_394  h) else (if (a0).toInt = 89 then (f_Book_sign_394  h) else (if (a0).toInt = 90 then (f_Book_sign_394  h) else (if (a0).toInt = 91 then (f_Book_sign_392  h) else (if (a0).toInt = 92 then (f_Book_sign_394  h) else (if (a0).toInt = 93 then (f_Book_sign_392  h) else (if (a0).toInt = 94 then (f_Book_sign_392  h) else (if (a0).toInt = 95 then (f_Book_sign_394  h) else (if (a0).toInt = 96 then (f_Book_sign_394  h) else (if (a0).toInt = 97 then (f_Book_sign_394  h) else (if (a0).toInt = 98 then (f_Book_sign_394  h) else (if (a0).toInt = 99 then (f_Book_sign_394  h) else (if (a0).toInt = 100 then (f_Book_sign_394  h) else (if (a0).toInt = 101 then (f_Book_sign_394  h) else (if (a0).toInt = 102 then (f_Book_sign_394  h) else (if (a0).toInt = 103 then (f_Book_sign_394  h) else (if (a0).toInt = 104 then (f_Book_sign_394  h) else (if (a0).toInt = 105 then (f_Book_sign_394  h) else (if (a0).toInt = 106 then (f_Book_sign_394  h) else (if (a0).toInt = 107 then (f_Book_sign_394  h) else (if (a0).toInt = 108 then (f_Book_sign_394  h) else (if (a0).toInt = 109 then (f_Book_sign_394  h) else (if (a0).toInt = 110 then (f_Book_sign_394  h) else (if (a0).toInt = 111 then (f_Book_sign_394  h) else (if (a0).toInt = 112 then (f_Book_sign_394  h) else (if (a0).toInt = 113 then (f_Book_sign_394  h) else (if (a0).toInt = 114 then (f_Book_sign_394  h) else (if (a0).toInt = 115 then (f_Book_sign_394  h) else (if (a0).toInt = 116 then (f_Book_sign_394  h) else (if (a0).toInt = 117 then (f_Book_sign_394  h) else (if (a0).toInt = 118 then (f_Book_sign_394  h) else (if (a0).toInt = 119 then (f_Book_sign_394  h) else (if (a0).toInt = 120 then (f_Book_sign_394  h) else (if (a0).toInt = 121 then (f_Book_sign_394  h) else (if (a0).toInt = 122 then (f_Book_sign_394  h) else (if (a0).toInt = 123 then (f_Book_sign_392  h) else (if (a0).toInt = 124 then (f_Book_sign_392  h) else (if (a0).toInt = 125 then (f_Book_sign_392  h) else (if (a0).toInt = 126 then (f_Book_sign_392  h) else (f_Book_sign_394  h))))))))))))))))))))))))))))))))))))))))))))))))))))))))))))))))))))))))))))))))))))))))))))))
set_option maxHeartbeats 4000000 in
set_option maxRecDepth 100000 in
theorem ch_Book_sign (l : Launch) {dA : FieldType → ClassId} {D : va_G} {al : Nat → Nat} {ext : mv_Sh} {sk sv : Nat → Nat} (hi : mv_inj (mg dA D al ext)) (h : mv_H)  (a0 : Int32) {rv : Int32} {rg : mv_H} (hf : f_Book_sign h a0 = some (rv, rg)) : mv_C l y_Book_sign (Cond.code y_Book_sign b_Book_sign 1 (Option.some Jvm.ClassFile.FieldType.boolean) :: ma) ({ frames := 0, cells := 0, slots := 0, locals := 0 }) (mg dA D al ext) (mK sk sv) [.int a0] h (mv_Ri (fun v σ1 => rv = v ∧ rg = σ1 ∧ mv_r σ1 = mv_r h)) := by
  refine mv_C.ofV (cc := b_Book_sign) (nL := 1) (ret := (Option.some Jvm.ClassFile.FieldType.boolean)) (by decide +kernel) rfl hi (Nat.le_of_ble_eq_true rfl) ?_
  intro p e s m below meth c B hNs hr hnm hno
  have jn394 : ∀ (hz : mv_H), mv_r hz = mv_r h → f_Book_sign_394  hz = some (rv, rg) → mv_V p l e ({ frames := 0, cells := 0, slots := 0, locals := 0 }) s m ([.int a0] : List Value).toArray below meth c (mg dA D al ext) 1 0 0 (mv_Q (mg dA D al ext) below s 0 0 (mv_Ri (fun v σ1 => rv = v ∧ rg = σ1 ∧ mv_r σ1 = mv_r h))) hz 394 [] [] := by
    intro  hz r_hz hf
    unfold f_Book_sign_394 at hf
    refine mv_iconst (pc := 394) (v := 0) B d_Book_sign_394 (by decide) ?_
    obtain ⟨q1, hf⟩ := xzb_e hf
    exact mv_iret (pc := 395) B hr (xzb_n q1) d_Book_sign_395 (Nat.le_refl _) (Nat.le_refl _) ⟨_, rfl, xrh_i hf r_hz⟩
  have jn392 : ∀ (hz : mv_H), mv_r hz = mv_r h → f_Book_sign_392  hz = some (rv, rg) → mv_V p l e ({ frames := 0, cells := 0, slots := 0, locals := 0 }) s m ([.int a0] : List Value).toArray below meth c (mg dA D al ext) 1 0 0 (mv_Q (mg dA D al ext) below s 0 0 (mv_Ri (fun v σ1 => rv = v ∧ rg = σ1 ∧ mv_r σ1 = mv_r h))) hz 392 [] [] := by
    intro  hz r_hz hf
    unfold f_Book_sign_392 at hf
    refine mv_iconst (pc := 392) (v := 1) B d_Book_sign_392 (by decide) ?_
    obtain ⟨q2, hf⟩ := xzb_e hf
    exact mv_iret (pc := 393) B hr (xzb_n q2) d_Book_sign_393 (Nat.le_refl _) (Nat.le_refl _) ⟨_, rfl, xrh_i hf r_hz⟩
  unfold f_Book_sign at hf
  refine mv_iload_n (pc := 0) B d_Book_sign_0 rfl 0 rfl ?_
  refine mv_tsw (pc := 1) B d_Book_sign_1 (by decide) (by decide) ?_
  refine ⟨fun h1 => ?_, fun h1n33 => ?_⟩
  · skip
    have hf := xif_t h1 hf
    show mv_V _ _ _ _ _ _ _ _ _ _ _ _ _ _ _ _ 392 _ _
    refine mv_lpick [] rfl ?_
    exact jn392  _ rfl hf
  have hf := xif_f h1n33 hf
  refine ⟨fun h1 => ?_, fun h1n34 => ?_⟩
  · skip
    have hf := xif_t h1 hf
    show mv_V _ _ _ _ _ _ _ _ _ _ _ _ _ _ _ _ 394 _ _
    refine mv_lpick [] rfl ?_
    exact jn394  _ rfl hf
  have hf := xif_f h1n34 hf
  refine ⟨fun h1 => ?_, fun h1n35 => ?_⟩
  · skip
    have hf := xif_t h1 hf
    show mv_V _ _ _ _ _ _ _ _ _ _ _ _ _ _ _ _ 394 _ _
    refine mv_lpick [] rfl ?_
    exact jn394  _ rfl hf
  have hf := xif_f h1n35 hf
  refine ⟨fun h1 => ?_, fun h1n36 => ?_⟩
  · skip
    have hf := xif_t h1 hf
    show mv_V _ _ _ _ _ _ _ _ _ _ _ _ _ _ _ _ 394 _ _
    refine mv_lpick [] rfl ?_
    exact jn394  _ rfl hf
  have hf := xif_f h1n36 hf
  refine ⟨fun h1 => ?_, fun h1n37 => ?_⟩
  · skip
    have hf := xif_t h1 hf
    show mv_V _ _ _ _ _ _ _ _ _ _ _ _ _ _ _ _ 392 _ _
    refine mv_lpick [] rfl ?_
    exact jn392  _ rfl hf
  have hf := xif_f h1n37 hf
  refine ⟨fun h1 => ?_, fun h1n38 => ?_⟩
  · skip
    have hf := xif_t h1 hf
    show mv_V _ _ _ _ _ _ _ _ _ _ _ _ _ _ _ _ 392 _ _
    refine mv_lpick [] rfl ?_
    exact jn392  _ rfl hf
  have hf := xif_f h1n38 hf
  refine ⟨fun h1 => ?_, fun h1n39 => ?_⟩
  · skip
    have hf := xif_t h1 hf
    show mv_V _ _ _ _ _ _ _ _ _ _ _ _ _ _ _ _ 392 _ _
    refine mv_lpick [] rfl ?_
    exact jn392  _ rfl hf
  have hf := xif_f h1n39 hf
  refine ⟨fun h1 => ?_, fun h1n40 => ?_⟩
  · skip
    have hf := xif_t h1 hf
    show mv_V _ _ _ _ _ _ _ _ _ _ _ _ _ _ _ _ 392 _ _
    refine mv_lpick [] rfl ?_
    exact jn392  _ rfl hf
  have hf := xif_f h1n40 hf
  refine ⟨fun h1 => ?_, fun h1n41 => ?_⟩
  · skip
    have hf := xif_t h1 hf
    show mv_V _ _ _ _ _ _ _ _ _ _ _ _ _ _ _ _ 392 _ _
    refine mv_lpick [] rfl ?_
    exact jn392  _ rfl hf
  have hf := xif_f h1n41 hf
  refine ⟨fun h1 => ?_, fun h1n42 => ?_⟩
  · skip
    have hf := xif_t h1 hf
    show mv_V _ _ _ _ _ _ _ _ _ _ _ _ _ _ _ _ 392 _ _
    refine mv_lpick [] rfl ?_
    exact jn392  _ rfl hf
  have hf := xif_f h1n42 hf
  refine ⟨fun h1 => ?_, fun h1n43 => ?_⟩
  · skip
    have hf := xif_t h1 hf
    show mv_V _ _ _ _ _ _ _ _ _ _ _ _ _ _ _ _ 392 _ _
    refine mv_lpick [] rfl ?_
    exact jn392  _ rfl hf
  have hf := xif_f h1n43 hf
  refine ⟨fun h1 => ?_, fun h1n44 => ?_⟩
  · skip
    have hf := xif_t h1 hf
    show mv_V _ _ _ _ _ _ _ _ _ _ _ _ _ _ _ _ 392 _ _
    refine mv_lpick [] rfl ?_
    exact jn392  _ rfl hf
  have hf := xif_f h1n44 hf
  refine ⟨fun h1 => ?_, fun h1n45 => ?_⟩
  · skip
    have hf := xif_t h1 hf
    show mv_V _ _ _ _ _ _ _ _ _ _ _ _ _ _ _ _ 392 _ _
    refine mv_lpick [] rfl ?_
    exact jn392  _ rfl hf
  have hf := xif_f h1n45 hf
  refine ⟨fun h1 => ?_, fun h1n46 => ?_⟩
  · skip
    have hf := xif_t h1 hf
    show mv_V _ _ _ _ _ _ _ _ _ _ _ _ _ _ _ _ 394 _ _
    refine mv_lpick [] rfl ?_
    exact jn394  _ rfl hf
  have hf := xif_f h1n46 hf
  refine ⟨fun h1 => ?_, fun h1n47 => ?_⟩
  · skip
    have hf := xif_t h1 hf
    show mv_V _ _ _ _ _ _ _ _ _ _ _ _ _ _ _ _ 392 _ _
    refine mv_lpick [] rfl ?_
    exact jn392  _ rfl hf
  have hf := xif_f h1n47 hf
  refine ⟨fun h1 => ?_, fun h1n48 => ?_⟩
  · skip
    have hf := xif_t h1 hf
    show mv_V _ _ _ _ _ _ _ _ _ _ _ _ _ _ _ _ 394 _ _
    refine mv_lpick [] rfl ?_
    exact jn394  _ rfl hf
  have hf := xif_f h1n48 hf
  refine ⟨fun h1 => ?_, fun h1n49 => ?_⟩
  · skip
    have hf := xif_t h1 hf
    show mv_V _ _ _ _ _ _ _ _ _ _ _ _ _ _ _ _ 394 _ _
    refine mv_lpick [] rfl ?_
    exact jn394  _ rfl hf
  have hf := xif_f h1n49 hf
  refine ⟨fun h1 => ?_, fun h1n50 => ?_⟩
  · skip
    have hf := xif_t h1 hf
    show mv_V _ _ _ _ _ _ _ _ _ _ _ _ _ _ _ _ 394 _ _
    refine mv_lpick [] rfl ?_
    exact jn394  _ rfl hf
  have hf := xif_f h1n50 hf
  refine ⟨fun h1 => ?_, fun h1n51 => ?_⟩
  · skip
    have hf := xif_t h1 hf
    show mv_V _ _ _ _ _ _ _ _ _ _ _ _ _ _ _ _ 394 _ _
    refine mv_lpick [] rfl ?_
    exact jn394  _ rfl hf
  have hf := xif_f h1n51 hf
  refine ⟨fun h1 => ?_, fun h1n52 => ?_⟩
  · skip
    have hf := xif_t h1 hf
    show mv_V _ _ _ _ _ _ _ _ _ _ _ _ _ _ _ _ 394 _ _
    refine mv_lpick [] rfl ?_
    exact jn394  _ rfl hf
  have hf := xif_f h1n52 hf
  refine ⟨fun h1 => ?_, fun h1n53 => ?_⟩
  · skip
    have hf := xif_t h1 hf
    show mv_V _ _ _ _ _ _ _ _ _ _ _ _ _ _ _ _ 394 _ _
    refine mv_lpick [] rfl ?_
    exact jn394  _ rfl hf
  have hf := xif_f h1n53 hf
  refine ⟨fun h1 => ?_, fun h1n54 => ?_⟩
  · skip
    have hf := xif_t h1 hf
    show mv_V _ _ _ _ _ _ _ _ _ _ _ _ _ _ _ _ 394 _ _
    refine mv_lpick [] rfl ?_
    exact jn394  _ rfl hf
  have hf := xif_f h1n54 hf
  refine ⟨fun h1 => ?_, fun h1n55 => ?_⟩
  · skip
    have hf := xif_t h1 hf
    show mv_V _ _ _ _ _ _ _ _ _ _ _ _ _ _ _ _ 394 _ _
    refine mv_lpick [] rfl ?_
    exact jn394  _ rfl hf
  have hf := xif_f h1n55 hf
  refine ⟨fun h1 => ?_, fun h1n56 => ?_⟩
  · skip
    have hf := xif_t h1 hf
    show mv_V _ _ _ _ _ _ _ _ _ _ _ _ _ _ _ _ 394 _ _
    refine mv_lpick [] rfl ?_
    exact jn394  _ rfl hf
  have hf := xif_f h1n56 hf
  refine ⟨fun h1 => ?_, fun h1n57 => ?_⟩
  · skip
    have hf := xif_t h1 hf
    show mv_V _ _ _ _ _ _ _ _ _ _ _ _ _ _ _ _ 394 _ _
    refine mv_lpick [] rfl ?_
    exact jn394  _ rfl hf
  have hf := xif_f h1n57 hf
  refine ⟨fun h1 => ?_, fun h1n58 => ?_⟩
  · skip
    have hf := xif_t h1 hf
    show mv_V _ _ _ _ _ _ _ _ _ _ _ _ _ _ _ _ 392 _ _
    refine mv_lpick [] rfl ?_
    exact jn392  _ rfl hf
  have hf := xif_f h1n58 hf
  refine ⟨fun h1 => ?_, fun h1n59 => ?_⟩
  · skip
    have hf := xif_t h1 hf
    show mv_V _ _ _ _ _ _ _ _ _ _ _ _ _ _ _ _ 392 _ _
    refine mv_lpick [] rfl ?_
    exact jn392  _ rfl hf
  have hf := xif_f h1n59 hf
  refine ⟨fun h1 => ?_, fun h1n60 => ?_⟩
  · skip
    have hf := xif_t h1 hf
    show mv_V _ _ _ _ _ _ _ _ _ _ _ _ _ _ _ _ 392 _ _
    refine mv_lpick [] rfl ?_
    exact jn392  _ rfl hf
  have hf := xif_f h1n60 hf
  refine ⟨fun h1 => ?_, fun h1n61 => ?_⟩
  · skip
    have hf := xif_t h1 hf
    show mv_V _ _ _ _ _ _ _ _ _ _ _ _ _ _ _ _ 392 _ _
    refine mv_lpick [] rfl ?_
    exact jn392  _ rfl hf
  have hf := xif_f h1n61 hf
  refine ⟨fun h1 => ?_, fun h1n62 => ?_⟩
  · skip
    have hf := xif_t h1 hf
    show mv_V _ _ _ _ _ _ _ _ _ _ _ _ _ _ _ _ 394 _ _
    refine mv_lpick [] rfl ?_
    exact jn394  _ rfl hf
  have hf := xif_f h1n62 hf
  refine ⟨fun h1 => ?_, fun h1n63 => ?_⟩
  · skip
    have hf := xif_t h1 hf
    show mv_V _ _ _ _ _ _ _ _ _ _ _ _ _ _ _ _ 392 _ _
    refine mv_lpick [] rfl ?_
    exact jn392  _ rfl hf
  have hf := xif_f h1n63 hf
  refine ⟨fun h1 => ?_, fun h1n64 => ?_⟩
  · skip
    have hf := xif_t h1 hf
    show mv_V _ _ _ _ _ _ _ _ _ _ _ _ _ _ _ _ 394 _ _
    refine mv_lpick [] rfl ?_
    exact jn394  _ rfl hf
  have hf := xif_f h1n64 hf
  refine ⟨fun h1 => ?_, fun h1n65 => ?_⟩
  · skip
    have hf := xif_t h1 hf
    show mv_V _ _ _ _ _ _ _ _ _ _ _ _ _ _ _ _ 394 _ _
    refine mv_lpick [] rfl ?_
    exact jn394  _ rfl hf
  have hf := xif_f h1n65 hf
  refine ⟨fun h1 => ?_, fun h1n66 => ?_⟩
  · skip
    have hf := xif_t h1 hf
    show mv_V _ _ _ _ _ _ _ _ _ _ _ _ _ _ _ _ 394 _ _
    refine mv_lpick [] rfl ?_
    exact jn394  _ rfl hf
  have hf := xif_f h1n66 hf
  refine ⟨fun h1 => ?_, fun h1n67 => ?_⟩
  · skip
    have hf := xif_t h1 hf
    show mv_V _ _ _ _ _ _ _ _ _ _ _ _ _ _ _ _ 394 _ _
    refine mv_lpick [] rfl ?_
    exact jn394  _ rfl hf
  have hf := xif_f h1n67 hf
  refine ⟨fun h1 => ?_, fun h1n68 => ?_⟩
  · skip
    have hf := xif_t h1 hf
    show mv_V _ _ _ _ _ _ _ _ _ _ _ _ _ _ _ _ 394 _ _
    refine mv_lpick [] rfl ?_
    exact jn394  _ rfl hf
  have hf := xif_f h1n68 hf
  refine ⟨fun h1 => ?_, fun h1n69 => ?_⟩
  · skip
    have hf := xif_t h1 hf
    show mv_V _ _ _ _ _ _ _ _ _ _ _ _ _ _ _ _ 394 _ _
    refine mv_lpick [] rfl ?_
    exact jn394  _ rfl hf
  have hf := xif_f h1n69 hf
  refine ⟨fun h1 => ?_, fun h1n70 => ?_⟩
  · skip
    have hf := xif_t h1 hf
    show mv_V _ _ _ _ _ _ _ _ _ _ _ _ _ _ _ _ 394 _ _
    refine mv_lpick [] rfl ?_
    exact jn394  _ rfl hf
  have hf := xif_f h1n70 hf
  refine ⟨fun h1 => ?_, fun h1n71 => ?_⟩
  · skip
    have hf := xif_t h1 hf
    show mv_V _ _ _ _ _ _ _ _ _ _ _ _ _ _ _ _ 394 _ _
    refine mv_lpick [] rfl ?_
    exact jn394  _ rfl hf
  have hf := xif_f h1n71 hf
  refine ⟨fun h1 => ?_, fun h1n72 => ?_⟩
  · skip
    have hf := xif_t h1 hf
    show mv_V _ _ _ _ _ _ _ _ _ _ _ _ _ _ _ _ 394 _ _
    refine mv_lpick [] rfl ?_
    exact jn394  _ rfl hf
  have hf := xif_f h1n72 hf
  refine ⟨fun h1 => ?_, fun h1n73 => ?_⟩
  · skip
    have hf := xif_t h1 hf
    show mv_V _ _ _ _ _ _ _ _ _ _ _ _ _ _ _ _ 394 _ _
    refine mv_lpick [] rfl ?_
    exact jn394  _ rfl hf
  have hf := xif_f h1n73 hf
  refine ⟨fun h1 => ?_, fun h1n74 => ?_⟩
  · skip
    have hf := xif_t h1 hf
    show mv_V _ _ _ _ _ _ _ _ _ _ _ _ _ _ _ _ 394 _ _
    refine mv_lpick [] rfl ?_
    exact jn394  _ rfl hf
  have hf := xif_f h1n74 hf
  refine ⟨fun h1 => ?_, fun h1n75 => ?_⟩
  · skip
    have hf := xif_t h1 hf
    show mv_V _ _ _ _ _ _ _ _ _ _ _ _ _ _ _ _ 394 _ _
    refine mv_lpick [] rfl ?_
    exact jn394  _ rfl hf
  have hf := xif_f h1n75 hf
  refine ⟨fun h1 => ?_, fun h1n76 => ?_⟩
  · skip
    have hf := xif_t h1 hf
    show mv_V _ _ _ _ _ _ _ _ _ _ _ _ _ _ _ _ 394 _ _
    refine mv_lpick [] rfl ?_
    exact jn394  _ rfl hf
  have hf := xif_f h1n76 hf
  refine ⟨fun h1 => ?_, fun h1n77 => ?_⟩
  · skip
    have hf := xif_t h1 hf
    show mv_V _ _ _ _ _ _ _ _ _ _ _ _ _ _ _ _ 394 _ _
    refine mv_lpick [] rfl ?_
    exact jn394  _ rfl hf
  have hf := xif_f h1n77 hf
  refine ⟨fun h1 => ?_, fun h1n78 => ?_⟩
  · skip
    have hf := xif_t h1 hf
    show mv_V _ _ _ _ _ _ _ _ _ _ _ _ _ _ _ _ 394 _ _
    refine mv_lpick [] rfl ?_
    exact jn394  _ rfl hf
  have hf := xif_f h1n78 hf
  refine ⟨fun h1 => ?_, fun h1n79 => ?_⟩
  · skip
    have hf := xif_t h1 hf
    show mv_V _ _ _ _ _ _ _ _ _ _ _ _ _ _ _ _ 394 _ _
    refine mv_lpick [] rfl ?_
    exact jn394  _ rfl hf
  have hf := xif_f h1n79 hf
  refine ⟨fun h1 => ?_, fun h1n80 => ?_⟩
  · skip
    have hf := xif_t h1 hf
    show mv_V _ _ _ _ _ _ _ _ _ _ _ _ _ _ _ _ 394 _ _
    refine mv_lpick [] rfl ?_
    exact jn394  _ rfl hf
  have hf := xif_f h1n80 hf
  refine ⟨fun h1 => ?_, fun h1n81 => ?_⟩
  · skip
    have hf := xif_t h1 hf
    show mv_V _ _ _ _ _ _ _ _ _ _ _ _ _ _ _ _ 394 _ _
    refine mv_lpick [] rfl ?_
    exact jn394  _ rfl hf
  have hf := xif_f h1n81 hf
  refine ⟨fun h1 => ?_, fun h1n82 => ?_⟩
  · skip
    have hf := xif_t h1 hf
    show mv_V _ _ _ _ _ _ _ _ _ _ _ _ _ _ _ _ 394 _ _
    refine mv_lpick [] rfl ?_
    exact jn394  _ rfl hf
  have hf := xif_f h1n82 hf
  refine ⟨fun h1 => ?_, fun h1n83 => ?_⟩
  · skip
    have hf := xif_t h1 hf
    show mv_V _ _ _ _ _ _ _ _ _ _ _ _ _ _ _ _ 394 _ _
    refine mv_lpick [] rfl ?_
    exact jn394  _ rfl hf
  have hf := xif_f h1n83 hf
  refine ⟨fun h1 => ?_, fun h1n84 => ?_⟩
  · skip
    have hf := xif_t h1 hf
    show mv_V _ _ _ _ _ _ _ _ _ _ _ _ _ _ _ _ 394 _ _
    refine mv_lpick [] rfl ?_
    exact jn394  _ rfl hf
  have hf := xif_f h1n84 hf
  refine ⟨fun h1 => ?_, fun h1n85 => ?_⟩
  · skip
    have hf := xif_t h1 hf
    show mv_V _ _ _ _ _ _ _ _ _ _ _ _ _ _ _ _ 394 _ _
    refine mv_lpick [] rfl ?_
    exact jn394  _ rfl hf
  have hf := xif_f h1n85 hf
  refine ⟨fun h1 => ?_, fun h1n86 => ?_⟩
  · skip
    have hf := xif_t h1 hf
    show mv_V _ _ _ _ _ _ _ _ _ _ _ _ _ _ _ _ 394 _ _
    refine mv_lpick [] rfl ?_
    exact jn394  _ rfl hf
  have hf := xif_f h1n86 hf
  refine ⟨fun h1 => ?_, fun h1n87 => ?_⟩
  · skip
    have hf := xif_t h1 hf
    show mv_V _ _ _ _ _ _ _ _ _ _ _ _ _ _ _ _ 394 _ _
    refine mv_lpick [] rfl ?_
    exact jn394  _ rfl hf
  have hf := xif_f h1n87 hf
  refine ⟨fun h1 => ?_, fun h1n88 => ?_⟩
  · skip
    have hf := xif_t h1 hf
    show mv_V _ _ _ _ _ _ _ _ _ _ _ _ _ _ _ _ 394 _ _
    refine mv_lpick [] rfl ?_
    exact jn394  _ rfl hf
  have hf := xif_f h1n88 hf
  refine ⟨fun h1 => ?_, fun h1n89 => ?_⟩
  · skip
    have hf := xif_t h1 hf
    show mv_V _ _ _ _ _ _ _ _ _ _ _ _ _ _ _ _ 394 _ _
    refine mv_lpick [] rfl ?_
    exact jn394  _ rfl hf
  have hf := xif_f h1n89 hf
  refine ⟨fun h1 => ?_, fun h1n90 => ?_⟩
  · skip
    have hf := xif_t h1 hf
    show mv_V _ _ _ _ _ _ _ _ _ _ _ _ _ _ _ _ 394 _ _
    refine mv_lpick [] rfl ?_
    exact jn394  _ rfl hf
  have hf := xif_f h1n90 hf
  refine ⟨fun h1 => ?_, fun h1n91 => ?_⟩
  · skip
    have hf := xif_t h1 hf
    show mv_V _ _ _ _ _ _ _ _ _ _ _ _ _ _ _ _ 392 _ _
    refine mv_lpick [] rfl ?_
    exact jn392  _ rfl hf
  have hf := xif_f h1n91 hf
  refine ⟨fun h1 => ?_, fun h1n92 => ?_⟩
  · skip
    have hf := xif_t h1 hf
    show mv_V _ _ _ _ _ _ _ _ _ _ _ _ _ _ _ _ 394 _ _
    refine mv_lpick [] rfl ?_
    exact jn394  _ rfl hf
  have hf := xif_f h1n92 hf
  refine ⟨fun h1 => ?_, fun h1n93 => ?_⟩
  · skip
    have hf := xif_t h1 hf
    show mv_V _ _ _ _ _ _ _ _ _ _ _ _ _ _ _ _ 392 _ _
    refine mv_lpick [] rfl ?_
    exact jn392  _ rfl hf
  have hf := xif_f h1n93 hf
  refine ⟨fun h1 => ?_, fun h1n94 => ?_⟩
  · skip
    have hf := xif_t h1 hf
    show mv_V _ _ _ _ _ _ _ _ _ _ _ _ _ _ _ _ 392 _ _
    refine mv_lpick [] rfl ?_
    exact jn392  _ rfl hf
  have hf := xif_f h1n94 hf
  refine ⟨fun h1 => ?_, fun h1n95 => ?_⟩
  · skip
    have hf := xif_t h1 hf
    show mv_V _ _ _ _ _ _ _ _ _ _ _ _ _ _ _ _ 394 _ _
    refine mv_lpick [] rfl ?_
    exact jn394  _ rfl hf
  have hf := xif_f h1n95 hf
  refine ⟨fun h1 => ?_, fun h1n96 => ?_⟩
  · skip
    have hf := xif_t h1 hf
    show mv_V _ _ _ _ _ _ _ _ _ _ _ _ _ _ _ _ 394 _ _
    refine mv_lpick [] rfl ?_
    exact jn394  _ rfl hf
  have hf := xif_f h1n96 hf
  refine ⟨fun h1 => ?_, fun h1n97 => ?_⟩
  · skip
    have hf := xif_t h1 hf
    show mv_V _ _ _ _ _ _ _ _ _ _ _ _ _ _ _ _ 394 _ _
    refine mv_lpick [] rfl ?_
    exact jn394  _ rfl hf
  have hf := xif_f h1n97 hf
  refine ⟨fun h1 => ?_, fun h1n98 => ?_⟩
  · skip
    have hf := xif_t h1 hf
    show mv_V _ _ _ _ _ _ _ _ _ _ _ _ _ _ _ _ 394 _ _
    refine mv_lpick [] rfl ?_
    exact jn394  _ rfl hf
  have hf := xif_f h1n98 hf
  refine ⟨fun h1 => ?_, fun h1n99 => ?_⟩
  · skip
    have hf := xif_t h1 hf
    show mv_V _ _ _ _ _ _ _ _ _ _ _ _ _ _ _ _ 394 _ _
    refine mv_lpick [] rfl ?_
    exact jn394  _ rfl hf
  have hf := xif_f h1n99 hf
  refine ⟨fun h1 => ?_, fun h1n100 => ?_⟩
  · skip
    have hf := xif_t h1 hf
    show mv_V _ _ _ _ _ _ _ _ _ _ _ _ _ _ _ _ 394 _ _
    refine mv_lpick [] rfl ?_
    exact jn394  _ rfl hf
  have hf := xif_f h1n100 hf
  refine ⟨fun h1 => ?_, fun h1n101 => ?_⟩
  · skip
    have hf := xif_t h1 hf
    show mv_V _ _ _ _ _ _ _ _ _ _ _ _ _ _ _ _ 394 _ _
    refine mv_lpick [] rfl ?_
    exact jn394  _ rfl hf
  have hf := xif_f h1n101 hf
  refine ⟨fun h1 => ?_, fun h1n102 => ?_⟩
  · skip
    have hf := xif_t h1 hf
    show mv_V _ _ _ _ _ _ _ _ _ _ _ _ _ _ _ _ 394 _ _
    refine mv_lpick [] rfl ?_
    exact jn394  _ rfl hf
  have hf := xif_f h1n102 hf
  refine ⟨fun h1 => ?_, fun h1n103 => ?_⟩
  · skip
    have hf := xif_t h1 hf
    show mv_V _ _ _ _ _ _ _ _ _ _ _ _ _ _ _ _ 394 _ _
    refine mv_lpick [] rfl ?_
    exact jn394  _ rfl hf
  have hf := xif_f h1n103 hf
  refine ⟨fun h1 => ?_, fun h1n104 => ?_⟩
  · skip
    have hf := xif_t h1 hf
    show mv_V _ _ _ _ _ _ _ _ _ _ _ _ _ _ _ _ 394 _ _
    refine mv_lpick [] rfl ?_
    exact jn394  _ rfl hf
  have hf := xif_f h1n104 hf
  refine ⟨fun h1 => ?_, fun h1n105 => ?_⟩
  · skip
    have hf := xif_t h1 hf
    show mv_V _ _ _ _ _ _ _ _ _ _ _ _ _ _ _ _ 394 _ _
    refine mv_lpick [] rfl ?_
    exact jn394  _ rfl hf
  have hf := xif_f h1n105 hf
  refine ⟨fun h1 => ?_, fun h1n106 => ?_⟩
  · skip
    have hf := xif_t h1 hf
    show mv_V _ _ _ _ _ _ _ _ _ _ _ _ _ _ _ _ 394 _ _
    refine mv_lpick [] rfl ?_
    exact jn394  _ rfl hf
  have hf := xif_f h1n106 hf
  refine ⟨fun h1 => ?_, fun h1n107 => ?_⟩
  · skip
    have hf := xif_t h1 hf
    show mv_V _ _ _ _ _ _ _ _ _ _ _ _ _ _ _ _ 394 _ _
    refine mv_lpick [] rfl ?_
    exact jn394  _ rfl hf
  have hf := xif_f h1n107 hf
  refine ⟨fun h1 => ?_, fun h1n108 => ?_⟩
  · skip
    have hf := xif_t h1 hf
    show mv_V _ _ _ _ _ _ _ _ _ _ _ _ _ _ _ _ 394 _ _
    refine mv_lpick [] rfl ?_
    exact jn394  _ rfl hf
  have hf := xif_f h1n108 hf
  refine ⟨fun h1 => ?_, fun h1n109 => ?_⟩
  · skip
    have hf := xif_t h1 hf
    show mv_V _ _ _ _ _ _ _ _ _ _ _ _ _ _ _ _ 394 _ _
    refine mv_lpick [] rfl ?_
    exact jn394  _ rfl hf
  have hf := xif_f h1n109 hf
  refine ⟨fun h1 => ?_, fun h1n110 => ?_⟩
  · skip
    have hf := xif_t h1 hf
    show mv_V _ _ _ _ _ _ _ _ _ _ _ _ _ _ _ _ 394 _ _
    refine mv_lpick [] rfl ?_
    exact jn394  _ rfl hf
  have hf := xif_f h1n110 hf
  refine ⟨fun h1 => ?_, fun h1n111 => ?_⟩
  · skip
    have hf := xif_t h1 hf
    show mv_V _ _ _ _ _ _ _ _ _ _ _ _ _ _ _ _ 394 _ _
    refine mv_lpick [] rfl ?_
    exact jn394  _ rfl hf
  have hf := xif_f h1n111 hf
  refine ⟨fun h1 => ?_, fun h1n112 => ?_⟩
  · skip
    have hf := xif_t h1 hf
    show mv_V _ _ _ _ _ _ _ _ _ _ _ _ _ _ _ _ 394 _ _
    refine mv_lpick [] rfl ?_
    exact jn394  _ rfl hf
  have hf := xif_f h1n112 hf
  refine ⟨fun h1 => ?_, fun h1n113 => ?_⟩
  · skip
    have hf := xif_t h1 hf
    show mv_V _ _ _ _ _ _ _ _ _ _ _ _ _ _ _ _ 394 _ _
    refine mv_lpick [] rfl ?_
    exact jn394  _ rfl hf
  have hf := xif_f h1n113 hf
  refine ⟨fun h1 => ?_, fun h1n114 => ?_⟩
  · skip
    have hf := xif_t h1 hf
    show mv_V _ _ _ _ _ _ _ _ _ _ _ _ _ _ _ _ 394 _ _
    refine mv_lpick [] rfl ?_
    exact jn394  _ rfl hf
  have hf := xif_f h1n114 hf
  refine ⟨fun h1 => ?_, fun h1n115 => ?_⟩
  · skip
    have hf := xif_t h1 hf
    show mv_V _ _ _ _ _ _ _ _ _ _ _ _ _ _ _ _ 394 _ _
    refine mv_lpick [] rfl ?_
    exact jn394  _ rfl hf
  have hf := xif_f h1n115 hf
  refine ⟨fun h1 => ?_, fun h1n116 => ?_⟩
  · skip
    have hf := xif_t h1 hf
    show mv_V _ _ _ _ _ _ _ _ _ _ _ _ _ _ _ _ 394 _ _
    refine mv_lpick [] rfl ?_
    exact jn394  _ rfl hf
  have hf := xif_f h1n116 hf
  refine ⟨fun h1 => ?_, fun h1n117 => ?_⟩
  · skip
    have hf := xif_t h1 hf
    show mv_V _ _ _ _ _ _ _ _ _ _ _ _ _ _ _ _ 394 _ _
    refine mv_lpick [] rfl ?_
    exact jn394  _ rfl hf
  have hf := xif_f h1n117 hf
  refine ⟨fun h1 => ?_, fun h1n118 => ?_⟩
  · skip
    have hf := xif_t h1 hf
    show mv_V _ _ _ _ _ _ _ _ _ _ _ _ _ _ _ _ 394 _ _
    refine mv_lpick [] rfl ?_
    exact jn394  _ rfl hf
  have hf := xif_f h1n118 hf
  refine ⟨fun h1 => ?_, fun h1n119 => ?_⟩
  · skip
    have hf := xif_t h1 hf
    show mv_V _ _ _ _ _ _ _ _ _ _ _ _ _ _ _ _ 394 _ _
    refine mv_lpick [] rfl ?_
    exact jn394  _ rfl hf
  have hf := xif_f h1n119 hf
  refine ⟨fun h1 => ?_, fun h1n120 => ?_⟩
  · skip
    have hf := xif_t h1 hf
    show mv_V _ _ _ _ _ _ _ _ _ _ _ _ _ _ _ _ 394 _ _
    refine mv_lpick [] rfl ?_
    exact jn394  _ rfl hf
  have hf := xif_f h1n120 hf
  refine ⟨fun h1 => ?_, fun h1n121 => ?_⟩
  · skip
    have hf := xif_t h1 hf
    show mv_V _ _ _ _ _ _ _ _ _ _ _ _ _ _ _ _ 394 _ _
    refine mv_lpick [] rfl ?_
    exact jn394  _ rfl hf
  have hf := xif_f h1n121 hf
  refine ⟨fun h1 => ?_, fun h1n122 => ?_⟩
  · skip
    have hf := xif_t h1 hf
    show mv_V _ _ _ _ _ _ _ _ _ _ _ _ _ _ _ _ 394 _ _
    refine mv_lpick [] rfl ?_
    exact jn394  _ rfl hf
  have hf := xif_f h1n122 hf
  refine ⟨fun h1 => ?_, fun h1n123 => ?_⟩
  · skip
    have hf := xif_t h1 hf
    show mv_V _ _ _ _ _ _ _ _ _ _ _ _ _ _ _ _ 392 _ _
    refine mv_lpick [] rfl ?_
    exact jn392  _ rfl hf
  have hf := xif_f h1n123 hf
  refine ⟨fun h1 => ?_, fun h1n124 => ?_⟩
  · skip
    have hf := xif_t h1 hf
    show mv_V _ _ _ _ _ _ _ _ _ _ _ _ _ _ _ _ 392 _ _
    refine mv_lpick [] rfl ?_
    exact jn392  _ rfl hf
  have hf := xif_f h1n124 hf
  refine ⟨fun h1 => ?_, fun h1n125 => ?_⟩
  · skip
    have hf := xif_t h1 hf
    show mv_V _ _ _ _ _ _ _ _ _ _ _ _ _ _ _ _ 392 _ _
    refine mv_lpick [] rfl ?_
    exact jn392  _ rfl hf
  have hf := xif_f h1n125 hf
  refine ⟨fun h1 => ?_, fun h1n126 => ?_⟩
  · skip
    have hf := xif_t h1 hf
    show mv_V _ _ _ _ _ _ _ _ _ _ _ _ _ _ _ _ 392 _ _
    refine mv_lpick [] rfl ?_
    exact jn392  _ rfl hf
  have hf := xif_f h1n126 hf
  show mv_V _ _ _ _ _ _ _ _ _ _ _ _ _ _ _ _ 394 _ _
  refine mv_lpick [] rfl ?_
  exact jn394  _ rfl hf
def f_Book_fits_0 (h : mv_H) (a0 : Int64) (a1 : Int32) (a2 : Int32) : Option (Int32 × mv_H) := if (lg_cmp ((((((((a0).toUInt64 >>> (((32 : Int32)).toInt64.toUInt64 &&& Int64.toUInt64 63)).toInt64) * ((a1).toInt64)) + ((((((a0 &&& (4294967295 : Int64)) * ((a1).toInt64)) + ((a2).toInt64))).toUInt64 >>> (((32 : Int32)).toInt64.toUInt64 &&& Int64.toUInt64 63)).toInt64))).toUInt64 >>> (((32 : Int32)).toInt64.toUInt64 &&& Int64.toUInt64 63)).toInt64) (0 : Int64)) = (0 : Int32) then (bif xzb (1 : Int32) then some ((1 : Int32), h) else none) else (bif xzb (0 : Int32) then some ((0 : Int32), h) else none)
set_option maxHeartbeats 4000000 in
set_option maxRecDepth 100000 in
theorem ch_Book_fits_0 (l : Launch) {dA : FieldType → ClassId} {D : va_G} {al : Nat → Nat} {ext : mv_Sh} {sk sv : Nat → Nat} (hi : mv_inj (mg dA D al ext)) (h : mv_H)  (a0 : Int64) (a1 : Int32) (a2 : Int32) {rv : Int32} {rg : mv_H} (hf : f_Book_fits_0 h a0 a1 a2 = some (rv, rg)) : mv_C l y_Book_fits_0 (Cond.code y_Book_fits_0 b_Book_fits_0 6 (Option.some Jvm.ClassFile.FieldType.boolean) :: ma) ({ frames := 0, cells := 0, slots := 0, locals := 0 }) (mg dA D al ext) (mK sk sv) [.long a0, .int a1, .int a2] h (mv_Ri (fun v σ1 => rv = v ∧ rg = σ1 ∧ mv_r σ1 = mv_r h)) := by
  refine mv_C.ofV (cc := b_Book_fits_0) (nL := 6) (ret := (Option.some Jvm.ClassFile.FieldType.boolean)) (by decide +kernel) rfl hi (Nat.le_of_ble_eq_true rfl) ?_
  intro p e s m below meth c B hNs hr hnm hno
  unfold f_Book_fits_0 at hf
  refine mv_lload_n (pc := 0) B d_Book_fits_0_0 rfl 0 rfl ?_
  refine mv_bipush (pc := 1) (v := 32) B d_Book_fits_0_1 (by decide) ?_
  refine mv_lushr (pc := 3) B d_Book_fits_0_3 ?_
  refine mv_iload_n (pc := 4) B d_Book_fits_0_4 rfl 1 rfl ?_
  refine mv_i2l (pc := 5) B d_Book_fits_0_5 ?_
  refine mv_lmul (pc := 6) B d_Book_fits_0_6 ?_
  refine mv_lload_n (pc := 7) B d_Book_fits_0_7 rfl 0 rfl ?_
  refine mv_ldc2 (pc := 8) (v := 4294967295) B (B.2.2.2.1 _ k_2142) d_Book_fits_0_8 ?_
  refine mv_land (pc := 11) B d_Book_fits_0_11 ?_
  refine mv_iload_n (pc := 12) B d_Book_fits_0_12 rfl 1 rfl ?_
  refine mv_i2l (pc := 13) B d_Book_fits_0_13 ?_
  refine mv_lmul (pc := 14) B d_Book_fits_0_14 ?_
  refine mv_iload_n (pc := 15) B d_Book_fits_0_15 rfl 2 rfl ?_
  refine mv_i2l (pc := 16) B d_Book_fits_0_16 ?_
  refine mv_ladd (pc := 17) B d_Book_fits_0_17 ?_
  refine mv_bipush (pc := 18) (v := 32) B d_Book_fits_0_18 (by decide) ?_
  refine mv_lushr (pc := 20) B d_Book_fits_0_20 ?_
  refine mv_ladd (pc := 21) B d_Book_fits_0_21 ?_
  refine mv_lstore (pc := 22) B d_Book_fits_0_22 (by decide) rfl ?_
  refine mv_lload (pc := 24) B d_Book_fits_0_24 0 rfl ?_
  refine mv_bipush (pc := 26) (v := 32) B d_Book_fits_0_26 (by decide) ?_
  refine mv_lushr (pc := 28) B d_Book_fits_0_28 ?_
  refine mv_lconst (pc := 29) (v := 0) B d_Book_fits_0_29 (by decide) ?_
  refine mv_lcmp (pc := 30) B d_Book_fits_0_30 ?_
  refine mv_if_ne (pc := 31) (tgt := 38) B d_Book_fits_0_31 rfl (fun h31 => ?_) (fun h31 => ?_)
  · skip
    have hf := xif_f h31 hf
    refine mv_iconst (pc := 38) (v := 0) B d_Book_fits_0_38 (by decide) ?_
    obtain ⟨q1, hf⟩ := xzb_e hf
    exact mv_iret (pc := 39) B hr (xzb_n q1) d_Book_fits_0_39 (Nat.le_refl _) (Nat.le_refl _) ⟨_, rfl, xrh_i hf rfl⟩
  · skip
    have hf := xif_t h31 hf
    refine mv_iconst (pc := 34) (v := 1) B d_Book_fits_0_34 (by decide) ?_
    refine mv_goto (pc := 35) (tgt := 39) B d_Book_fits_0_35 rfl ?_
    obtain ⟨q2, hf⟩ := xzb_e hf
    exact mv_iret (pc := 39) B hr (xzb_n q2) d_Book_fits_0_39 (Nat.le_refl _) (Nat.le_refl _) ⟨_, rfl, xrh_i hf rfl⟩
def f_Book_levelOf_139 (hz : mv_H) : Option (Int32 × mv_H) := some ((7 : Int32), hz)
def f_Book_levelOf_136 (hz : mv_H) : Option (Int32 × mv_H) := some ((6 : Int32), hz)
def f_Book_levelOf_134 (hz : mv_H) : Option (Int32 × mv_H) := some ((5 : Int32), hz)
def f_Book_levelOf_132 (hz : mv_H) : Option (Int32 × mv_H) := some ((4 : Int32), hz)
def f_Book_levelOf_130 (hz : mv_H) : Option (Int32 × mv_H) := some ((3 : Int32), hz)
def f_Book_levelOf (h : mv_H) (a0 : Int32) : Option (Int32 × mv_H) := if (a0).toInt = 37 then (f_Book_levelOf_139  h) else (if (a0).toInt = 38 then (some ((2 : Int32), h)) else (if (a0).toInt = 42 then (f_Book_levelOf_139  h) else (if (a0).toInt = 43 then (f_Book_levelOf_136  h) else (if (a0).toInt = 45 then (f_Book_levelOf_136  h) else (if (a0).toInt = 47 then (f_Book_levelOf_139  h) else (if (a0).toInt = 60 then (f_Book_levelOf_132  h) else (if (a0).toInt = 94 then (some ((1 : Int32), h)) else (if (a0).toInt = 124 then (some ((0 : Int32), h)) else (if (a0).toInt = 256 then (f_Book_levelOf_130  h) else (if (a0).toInt = 257 then (f_Book_levelOf_130  h) else (if (a0).toInt = 258 then (f_Book_levelOf_132  h) else (if (a0).toInt = 259 then (f_Book_levelOf_134  h) else (if (a0).toInt = 260 then (f_Book_levelOf_134  h) else (some ((-1 : Int32), h)))))))))))))))
set_option maxHeartbeats 4000000 in
set_option maxRecDepth 100000 in
theorem ch_Book_levelOf (l : Launch) {dA : FieldType → ClassId} {D : va_G} {al : Nat → Nat} {ext : mv_Sh} {sk sv : Nat → Nat} (hi : mv_inj (mg dA D al ext)) (h : mv_H)  (a0 : Int32) {rv : Int32} {rg : mv_H} (hf : f_Book_levelOf h a0 = some (rv, rg)) : mv_C l y_Book_levelOf (Cond.code y_Book_levelOf b_Book_levelOf 1 (Option.some Jvm.ClassFile.FieldType.int) :: ma) ({ frames := 0, cells := 0, slots := 0, locals := 0 }) (mg dA D al ext) (mK sk sv) [.int a0] h (mv_Ri (fun v σ1 => rv = v ∧ rg = σ1 ∧ mv_r σ1 = mv_r h)) := by
  refine mv_C.ofV (cc := b_Book_levelOf) (nL := 1) (ret := (Option.some Jvm.ClassFile.FieldType.int)) (by decide +kernel) rfl hi (Nat.le_of_ble_eq_true rfl) ?_
  intro p e s m below meth c B hNs hr hnm hno
  have jn139 : ∀ (hz : mv_H), mv_r hz = mv_r h → f_Book_levelOf_139  hz = some (rv, rg) → mv_V p l e ({ frames := 0, cells := 0, slots := 0, locals := 0 }) s m ([.int a0] : List Value).toArray below meth c (mg dA D al ext) 1 0 0 (mv_Q (mg dA D al ext) below s 0 0 (mv_Ri (fun v σ1 => rv = v ∧ rg = σ1 ∧ mv_r σ1 = mv_r h))) hz 139 [] [] := by
    intro  hz r_hz hf
    unfold f_Book_levelOf_139 at hf
    refine mv_bipush (pc := 139) (v := 7) B d_Book_levelOf_139 (by decide) ?_
    exact mv_iret (pc := 141) B hr rfl d_Book_levelOf_141 (Nat.le_refl _) (Nat.le_refl _) ⟨_, rfl, xrh_i hf r_hz⟩
  have jn136 : ∀ (hz : mv_H), mv_r hz = mv_r h → f_Book_levelOf_136  hz = some (rv, rg) → mv_V p l e ({ frames := 0, cells := 0, slots := 0, locals := 0 }) s m ([.int a0] : List Value).toArray below meth c (mg dA D al ext) 1 0 0 (mv_Q (mg dA D al ext) below s 0 0 (mv_Ri (fun v σ1 => rv = v ∧ rg = σ1 ∧ mv_r σ1 = mv_r h))) hz 136 [] [] := by
    intro  hz r_hz hf
    unfold f_Book_levelOf_136 at hf
    refine mv_bipush (pc := 136) (v := 6) B d_Book_levelOf_136 (by decide) ?_
    exact mv_iret (pc := 138) B hr rfl d_Book_levelOf_138 (Nat.le_refl _) (Nat.le_refl _) ⟨_, rfl, xrh_i hf r_hz⟩
  have jn134 : ∀ (hz : mv_H), mv_r hz = mv_r h → f_Book_levelOf_134  hz = some (rv, rg) → mv_V p l e ({ frames := 0, cells := 0, slots := 0, locals := 0 }) s m ([.int a0] : List Value).toArray below meth c (mg dA D al ext) 1 0 0 (mv_Q (mg dA D al ext) below s 0 0 (mv_Ri (fun v σ1 => rv = v ∧ rg = σ1 ∧ mv_r σ1 = mv_r h))) hz 134 [] [] := by
    intro  hz r_hz hf
    unfold f_Book_levelOf_134 at hf
    refine mv_iconst (pc := 134) (v := 5) B d_Book_levelOf_134 (by decide) ?_
    exact mv_iret (pc := 135) B hr rfl d_Book_levelOf_135 (Nat.le_refl _) (Nat.le_refl _) ⟨_, rfl, xrh_i hf r_hz⟩
  have jn132 : ∀ (hz : mv_H), mv_r hz = mv_r h → f_Book_levelOf_132  hz = some (rv, rg) → mv_V p l e ({ frames := 0, cells := 0, slots := 0, locals := 0 }) s m ([.int a0] : List Value).toArray below meth c (mg dA D al ext) 1 0 0 (mv_Q (mg dA D al ext) below s 0 0 (mv_Ri (fun v σ1 => rv = v ∧ rg = σ1 ∧ mv_r σ1 = mv_r h))) hz 132 [] [] := by
    intro  hz r_hz hf
    unfold f_Book_levelOf_132 at hf
    refine mv_iconst (pc := 132) (v := 4) B d_Book_levelOf_132 (by decide) ?_
    exact mv_iret (pc := 133) B hr rfl d_Book_levelOf_133 (Nat.le_refl _) (Nat.le_refl _) ⟨_, rfl, xrh_i hf r_hz⟩
  have jn130 : ∀ (hz : mv_H), mv_r hz = mv_r h → f_Book_levelOf_130  hz = some (rv, rg) → mv_V p l e ({ frames := 0, cells := 0, slots := 0, locals := 0 }) s m ([.int a0] : List Value).toArray below meth c (mg dA D al ext) 1 0 0 (mv_Q (mg dA D al ext) below s 0 0 (mv_Ri (fun v σ1 => rv = v ∧ rg = σ1 ∧ mv_r σ1 = mv_r h))) hz 130 [] [] := by
    intro  hz r_hz hf
    unfold f_Book_levelOf_130 at hf
    refine mv_iconst (pc := 130) (v := 3) B d_Book_levelOf_130 (by decide) ?_
    exact mv_iret (pc := 131) B hr rfl d_Book_levelOf_131 (Nat.le_refl _) (Nat.le_refl _) ⟨_, rfl, xrh_i hf r_hz⟩
  unfold f_Book_levelOf at hf
  refine mv_iload_n (pc := 0) B d_Book_levelOf_0 rfl 0 rfl ?_
  refine mv_lsw (pc := 1) B d_Book_levelOf_1 (by decide) (by decide) ?_
  refine ⟨fun h1 => ?_, fun h1n37 => ?_⟩
  · skip
    have hf := xif_t h1 hf
    show mv_V _ _ _ _ _ _ _ _ _ _ _ _ _ _ _ _ 139 _ _
    refine mv_lpick [] rfl ?_
    exact jn139  _ rfl hf
  have hf := xif_f h1n37 hf
  refine ⟨fun h1 => ?_, fun h1n38 => ?_⟩
  · skip
    have hf := xif_t h1 hf
    show mv_V _ _ _ _ _ _ _ _ _ _ _ _ _ _ _ _ 128 _ _
    refine mv_iconst (pc := 128) (v := 2) B d_Book_levelOf_128 (by decide) ?_
    exact mv_iret (pc := 129) B hr rfl d_Book_levelOf_129 (Nat.le_refl _) (Nat.le_refl _) ⟨_, rfl, xrh_i hf rfl⟩
  have hf := xif_f h1n38 hf
  refine ⟨fun h1 => ?_, fun h1n42 => ?_⟩
  · skip
    have hf := xif_t h1 hf
    show mv_V _ _ _ _ _ _ _ _ _ _ _ _ _ _ _ _ 139 _ _
    refine mv_lpick [] rfl ?_
    exact jn139  _ rfl hf
  have hf := xif_f h1n42 hf
  refine ⟨fun h1 => ?_, fun h1n43 => ?_⟩
  · skip
    have hf := xif_t h1 hf
    show mv_V _ _ _ _ _ _ _ _ _ _ _ _ _ _ _ _ 136 _ _
    refine mv_lpick [] rfl ?_
    exact jn136  _ rfl hf
  have hf := xif_f h1n43 hf
  refine ⟨fun h1 => ?_, fun h1n45 => ?_⟩
  · skip
    have hf := xif_t h1 hf
    show mv_V _ _ _ _ _ _ _ _ _ _ _ _ _ _ _ _ 136 _ _
    refine mv_lpick [] rfl ?_
    exact jn136  _ rfl hf
  have hf := xif_f h1n45 hf
  refine ⟨fun h1 => ?_, fun h1n47 => ?_⟩
  · skip
    have hf := xif_t h1 hf
    show mv_V _ _ _ _ _ _ _ _ _ _ _ _ _ _ _ _ 139 _ _
    refine mv_lpick [] rfl ?_
    exact jn139  _ rfl hf
  have hf := xif_f h1n47 hf
  refine ⟨fun h1 => ?_, fun h1n60 => ?_⟩
  · skip
    have hf := xif_t h1 hf
    show mv_V _ _ _ _ _ _ _ _ _ _ _ _ _ _ _ _ 132 _ _
    refine mv_lpick [] rfl ?_
    exact jn132  _ rfl hf
  have hf := xif_f h1n60 hf
  refine ⟨fun h1 => ?_, fun h1n94 => ?_⟩
  · skip
    have hf := xif_t h1 hf
    show mv_V _ _ _ _ _ _ _ _ _ _ _ _ _ _ _ _ 126 _ _
    refine mv_iconst (pc := 126) (v := 1) B d_Book_levelOf_126 (by decide) ?_
    exact mv_iret (pc := 127) B hr rfl d_Book_levelOf_127 (Nat.le_refl _) (Nat.le_refl _) ⟨_, rfl, xrh_i hf rfl⟩
  have hf := xif_f h1n94 hf
  refine ⟨fun h1 => ?_, fun h1n124 => ?_⟩
  · skip
    have hf := xif_t h1 hf
    show mv_V _ _ _ _ _ _ _ _ _ _ _ _ _ _ _ _ 124 _ _
    refine mv_iconst (pc := 124) (v := 0) B d_Book_levelOf_124 (by decide) ?_
    exact mv_iret (pc := 125) B hr rfl d_Book_levelOf_125 (Nat.le_refl _) (Nat.le_refl _) ⟨_, rfl, xrh_i hf rfl⟩
  have hf := xif_f h1n124 hf
  refine ⟨fun h1 => ?_, fun h1n256 => ?_⟩
  · skip
    have hf := xif_t h1 hf
    show mv_V _ _ _ _ _ _ _ _ _ _ _ _ _ _ _ _ 130 _ _
    refine mv_lpick [] rfl ?_
    exact jn130  _ rfl hf
  have hf := xif_f h1n256 hf
  refine ⟨fun h1 => ?_, fun h1n257 => ?_⟩
  · skip
    have hf := xif_t h1 hf
    show mv_V _ _ _ _ _ _ _ _ _ _ _ _ _ _ _ _ 130 _ _
    refine mv_lpick [] rfl ?_
    exact jn130  _ rfl hf
  have hf := xif_f h1n257 hf
  refine ⟨fun h1 => ?_, fun h1n258 => ?_⟩
  · skip
    have hf := xif_t h1 hf
    show mv_V _ _ _ _ _ _ _ _ _ _ _ _ _ _ _ _ 132 _ _
    refine mv_lpick [] rfl ?_
    exact jn132  _ rfl hf
  have hf := xif_f h1n258 hf
  refine ⟨fun h1 => ?_, fun h1n259 => ?_⟩
  · skip
    have hf := xif_t h1 hf
    show mv_V _ _ _ _ _ _ _ _ _ _ _ _ _ _ _ _ 134 _ _
    refine mv_lpick [] rfl ?_
    exact jn134  _ rfl hf
  have hf := xif_f h1n259 hf
  refine ⟨fun h1 => ?_, fun h1n260 => ?_⟩
  · skip
    have hf := xif_t h1 hf
    show mv_V _ _ _ _ _ _ _ _ _ _ _ _ _ _ _ _ 134 _ _
    refine mv_lpick [] rfl ?_
    exact jn134  _ rfl hf
  have hf := xif_f h1n260 hf
  show mv_V _ _ _ _ _ _ _ _ _ _ _ _ _ _ _ _ 142 _ _
  refine mv_iconst (pc := 142) (v := -1) B d_Book_levelOf_142 (by decide) ?_
  exact mv_iret (pc := 143) B hr rfl d_Book_levelOf_143 (Nat.le_refl _) (Nat.le_refl _) ⟨_, rfl, xrh_i hf rfl⟩
def f_Book_shifts_21 (hz : mv_H) : Option (Int32 × mv_H) := bif xzb (1 : Int32) then some ((1 : Int32), hz) else none
def f_Book_shifts (h : mv_H) (a0 : Int32) : Option (Int32 × mv_H) := if a0 = (259 : Int32) then (f_Book_shifts_21  h) else (if a0 = (260 : Int32) then (f_Book_shifts_21  h) else (if a0 = (1003 : Int32) then (f_Book_shifts_21  h) else (bif xzb (0 : Int32) then some ((0 : Int32), h) else none)))
set_option maxHeartbeats 4000000 in
set_option maxRecDepth 100000 in
theorem ch_Book_shifts (l : Launch) {dA : FieldType → ClassId} {D : va_G} {al : Nat → Nat} {ext : mv_Sh} {sk sv : Nat → Nat} (hi : mv_inj (mg dA D al ext)) (h : mv_H)  (a0 : Int32) {rv : Int32} {rg : mv_H} (hf : f_Book_shifts h a0 = some (rv, rg)) : mv_C l y_Book_shifts (Cond.code y_Book_shifts b_Book_shifts 1 (Option.some Jvm.ClassFile.FieldType.boolean) :: ma) ({ frames := 0, cells := 0, slots := 0, locals := 0 }) (mg dA D al ext) (mK sk sv) [.int a0] h (mv_Ri (fun v σ1 => rv = v ∧ rg = σ1 ∧ mv_r σ1 = mv_r h)) := by
  refine mv_C.ofV (cc := b_Book_shifts) (nL := 1) (ret := (Option.some Jvm.ClassFile.FieldType.boolean)) (by decide +kernel) rfl hi (Nat.le_of_ble_eq_true rfl) ?_
  intro p e s m below meth c B hNs hr hnm hno
  have jn21 : ∀ (hz : mv_H), mv_r hz = mv_r h → f_Book_shifts_21  hz = some (rv, rg) → mv_V p l e ({ frames := 0, cells := 0, slots := 0, locals := 0 }) s m ([.int a0] : List Value).toArray below meth c (mg dA D al ext) 1 0 0 (mv_Q (mg dA D al ext) below s 0 0 (mv_Ri (fun v σ1 => rv = v ∧ rg = σ1 ∧ mv_r σ1 = mv_r h))) hz 21 [] [] := by
    intro  hz r_hz hf
    unfold f_Book_shifts_21 at hf
    refine mv_iconst (pc := 21) (v := 1) B d_Book_shifts_21 (by decide) ?_
    refine mv_goto (pc := 22) (tgt := 26) B d_Book_shifts_22 rfl ?_
    obtain ⟨q1, hf⟩ := xzb_e hf
    exact mv_iret (pc := 26) B hr (xzb_n q1) d_Book_shifts_26 (Nat.le_refl _) (Nat.le_refl _) ⟨_, rfl, xrh_i hf r_hz⟩
  unfold f_Book_shifts at hf
  refine mv_iload_n (pc := 0) B d_Book_shifts_0 rfl 0 rfl ?_
  refine mv_sipush (pc := 1) (v := 259) B d_Book_shifts_1 (by decide) ?_
  refine mv_icmp_eq (pc := 4) (tgt := 21) B d_Book_shifts_4 rfl (fun h4 => ?_) (fun h4 => ?_)
  · skip
    have hf := xif_t h4 hf
    refine mv_lpick [] rfl ?_
    exact jn21  _ rfl hf
  · skip
    have hf := xif_f h4 hf
    refine mv_iload_n (pc := 7) B d_Book_shifts_7 rfl 0 rfl ?_
    refine mv_sipush (pc := 8) (v := 260) B d_Book_shifts_8 (by decide) ?_
    refine mv_icmp_eq (pc := 11) (tgt := 21) B d_Book_shifts_11 rfl (fun h11 => ?_) (fun h11 => ?_)
    · skip
      have hf := xif_t h11 hf
      refine mv_lpick [] rfl ?_
      exact jn21  _ rfl hf
    · skip
      have hf := xif_f h11 hf
      refine mv_iload_n (pc := 14) B d_Book_shifts_14 rfl 0 rfl ?_
      refine mv_sipush (pc := 15) (v := 1003) B d_Book_shifts_15 (by decide) ?_
      refine mv_icmp_ne (pc := 18) (tgt := 25) B d_Book_shifts_18 rfl (fun h18 => ?_) (fun h18 => ?_)
      · skip
        have hf := xif_f h18 hf
        refine mv_iconst (pc := 25) (v := 0) B d_Book_shifts_25 (by decide) ?_
        obtain ⟨q2, hf⟩ := xzb_e hf
        exact mv_iret (pc := 26) B hr (xzb_n q2) d_Book_shifts_26 (Nat.le_refl _) (Nat.le_refl _) ⟨_, rfl, xrh_i hf rfl⟩
      · skip
        have hf := xif_t h18 hf
        refine mv_lpick [] rfl ?_
        exact jn21  _ rfl hf
def f_Book_asks_34 (hz : mv_H) : Option (Int32 × mv_H) := bif xzb (1 : Int32) then some ((1 : Int32), hz) else none
def f_Book_asks (h : mv_H) (a0 : Int32) : Option (Int32 × mv_H) := if a0 = (256 : Int32) then (f_Book_asks_34  h) else (if a0 = (257 : Int32) then (f_Book_asks_34  h) else (if a0 = (60 : Int32) then (f_Book_asks_34  h) else (if a0 = (258 : Int32) then (f_Book_asks_34  h) else (if a0 = (1000 : Int32) then (f_Book_asks_34  h) else (bif xzb (0 : Int32) then some ((0 : Int32), h) else none)))))
set_option maxHeartbeats 4000000 in
set_option maxRecDepth 100000 in
theorem ch_Book_asks (l : Launch) {dA : FieldType → ClassId} {D : va_G} {al : Nat → Nat} {ext : mv_Sh} {sk sv : Nat → Nat} (hi : mv_inj (mg dA D al ext)) (h : mv_H)  (a0 : Int32) {rv : Int32} {rg : mv_H} (hf : f_Book_asks h a0 = some (rv, rg)) : mv_C l y_Book_asks (Cond.code y_Book_asks b_Book_asks 1 (Option.some Jvm.ClassFile.FieldType.boolean) :: ma) ({ frames := 0, cells := 0, slots := 0, locals := 0 }) (mg dA D al ext) (mK sk sv) [.int a0] h (mv_Ri (fun v σ1 => rv = v ∧ rg = σ1 ∧ mv_r σ1 = mv_r h)) := by
  refine mv_C.ofV (cc := b_Book_asks) (nL := 1) (ret := (Option.some Jvm.ClassFile.FieldType.boolean)) (by decide +kernel) rfl hi (Nat.le_of_ble_eq_true rfl) ?_
  intro p e s m below meth c B hNs hr hnm hno
  have jn34 : ∀ (hz : mv_H), mv_r hz = mv_r h → f_Book_asks_34  hz = some (rv, rg) → mv_V p l e ({ frames := 0, cells := 0, slots := 0, locals := 0 }) s m ([.int a0] : List Value).toArray below meth c (mg dA D al ext) 1 0 0 (mv_Q (mg dA D al ext) below s 0 0 (mv_Ri (fun v σ1 => rv = v ∧ rg = σ1 ∧ mv_r σ1 = mv_r h))) hz 34 [] [] := by
    intro  hz r_hz hf
    unfold f_Book_asks_34 at hf
    refine mv_iconst (pc := 34) (v := 1) B d_Book_asks_34 (by decide) ?_
    refine mv_goto (pc := 35) (tgt := 39) B d_Book_asks_35 rfl ?_
    obtain ⟨q1, hf⟩ := xzb_e hf
    exact mv_iret (pc := 39) B hr (xzb_n q1) d_Book_asks_39 (Nat.le_refl _) (Nat.le_refl _) ⟨_, rfl, xrh_i hf r_hz⟩
  unfold f_Book_asks at hf
  refine mv_iload_n (pc := 0) B d_Book_asks_0 rfl 0 rfl ?_
  refine mv_sipush (pc := 1) (v := 256) B d_Book_asks_1 (by decide) ?_
  refine mv_icmp_eq (pc := 4) (tgt := 34) B d_Book_asks_4 rfl (fun h4 => ?_) (fun h4 => ?_)
  · skip
    have hf := xif_t h4 hf
    refine mv_lpick [] rfl ?_
    exact jn34  _ rfl hf
  · skip
    have hf := xif_f h4 hf
    refine mv_iload_n (pc := 7) B d_Book_asks_7 rfl 0 rfl ?_
    refine mv_sipush (pc := 8) (v := 257) B d_Book_asks_8 (by decide) ?_
    refine mv_icmp_eq (pc := 11) (tgt := 34) B d_Book_asks_11 rfl (fun h11 => ?_) (fun h11 => ?_)
    · skip
      have hf := xif_t h11 hf
      refine mv_lpick [] rfl ?_
      exact jn34  _ rfl hf
    · skip
      have hf := xif_f h11 hf
      refine mv_iload_n (pc := 14) B d_Book_asks_14 rfl 0 rfl ?_
      refine mv_bipush (pc := 15) (v := 60) B d_Book_asks_15 (by decide) ?_
      refine mv_icmp_eq (pc := 17) (tgt := 34) B d_Book_asks_17 rfl (fun h17 => ?_) (fun h17 => ?_)
      · skip
        have hf := xif_t h17 hf
        refine mv_lpick [] rfl ?_
        exact jn34  _ rfl hf
      · skip
        have hf := xif_f h17 hf
        refine mv_iload_n (pc := 20) B d_Book_asks_20 rfl 0 rfl ?_
        refine mv_sipush (pc := 21) (v := 258) B d_Book_asks_21 (by decide) ?_
        refine mv_icmp_eq (pc := 24) (tgt := 34) B d_Book_asks_24 rfl (fun h24 => ?_) (fun h24 => ?_)
        · skip
          have hf := xif_t h24 hf
          refine mv_lpick [] rfl ?_
          exact jn34  _ rfl hf
        · skip
          have hf := xif_f h24 hf
          refine mv_iload_n (pc := 27) B d_Book_asks_27 rfl 0 rfl ?_
          refine mv_sipush (pc := 28) (v := 1000) B d_Book_asks_28 (by decide) ?_
          refine mv_icmp_ne (pc := 31) (tgt := 38) B d_Book_asks_31 rfl (fun h31 => ?_) (fun h31 => ?_)
          · skip
            have hf := xif_f h31 hf
            refine mv_iconst (pc := 38) (v := 0) B d_Book_asks_38 (by decide) ?_
            obtain ⟨q2, hf⟩ := xzb_e hf
            exact mv_iret (pc := 39) B hr (xzb_n q2) d_Book_asks_39 (Nat.le_refl _) (Nat.le_refl _) ⟨_, rfl, xrh_i hf rfl⟩
          · skip
            have hf := xif_t h31 hf
            refine mv_lpick [] rfl ?_
            exact jn34  _ rfl hf
def f_Book_look (P : Nat) (h : mv_H) (a0 : Int32) : Option (Int32 × mv_H) := if (mv_i h P 2) ≤ a0 then (some ((-1 : Int32), h)) else (bif xvi a0 32768 then some (((mv_a h 71 (a0).toNatClampNeg) &&& (255 : Int32)), h) else none)
set_option maxHeartbeats 4000000 in
set_option maxRecDepth 100000 in
theorem ch_Book_look_x (l : Launch) {dA : FieldType → ClassId} {D : va_G} {al : Nat → Nat} {ext : mv_Sh} {sk sv : Nat → Nat} (hi : mv_inj (mg dA D al ext)) (h : mv_H) (hb : Br 74 (mv_r h))  (a0 : Int32) {rv : Int32} {rg : mv_H} (hf : f_Book_look 74 h a0 = some (rv, rg)) : mv_C l y_Book_look (Cond.code y_Book_look b_Book_look 2 (Option.some Jvm.ClassFile.FieldType.int) :: ma) ({ frames := 0, cells := 0, slots := 0, locals := 0 }) (mg dA D al ext) (mK sk sv) [.ref (al 74), .int a0] h (mv_Ri (fun v σ1 => rv = v ∧ rg = σ1 ∧ mv_r σ1 = mv_r h)) := by
  refine mv_C.ofV (cc := b_Book_look) (nL := 2) (ret := (Option.some Jvm.ClassFile.FieldType.int)) (by decide +kernel) rfl hi (Nat.le_of_ble_eq_true rfl) ?_
  intro p e s m below meth c B hNs hr hnm hno
  unfold f_Book_look at hf
  refine mv_iload_n (pc := 0) B d_Book_look_0 rfl 1 rfl ?_
  refine mv_aload_n (pc := 1) B d_Book_look_1 rfl 0 rfl ?_
  refine mv_getI (pc := 2) (ci := 12) (C := R_Book) (T := F_Book) (N := 65) B 2 rfl rfl (by decide) i_Book (B.2.2.2.1 _ k_1845) rfl d_Book_look_2 ?_
  refine mv_icmp_ge (pc := 5) (tgt := 21) B d_Book_look_5 rfl (fun h5 => ?_) (fun h5 => ?_)
  · skip
    have hf := xif_t h5 hf
    refine mv_iconst (pc := 21) (v := -1) B d_Book_look_21 (by decide) ?_
    exact mv_iret (pc := 22) B hr rfl d_Book_look_22 (Nat.le_refl _) (Nat.le_refl _) ⟨_, rfl, xrh_i hf rfl⟩
  · skip
    have hf := xif_f h5 hf
    refine mv_aload_n (pc := 8) B d_Book_look_8 rfl 0 rfl ?_
    refine mv_getR (pc := 9) (ci := 12) (C := R_Book) (T := F_Book) (N := 65) B 1 rfl rfl (by decide) i_Book (B.2.2.2.1 _ k_1844) rfl hb.2 d_Book_look_9 ?_
    refine mv_iload_n (pc := 12) B d_Book_look_12 rfl 1 rfl ?_
    obtain ⟨q1, hf⟩ := xvi_e hf
    refine mv_bald (pc := 13) B rfl q1 d_Book_look_13 ?_
    refine mv_sipush (pc := 14) (v := 255) B d_Book_look_14 (by decide) ?_
    refine mv_iand (pc := 17) B d_Book_look_17 ?_
    refine mv_goto (pc := 18) (tgt := 22) B d_Book_look_18 rfl ?_
    exact mv_iret (pc := 22) B hr rfl d_Book_look_22 (Nat.le_refl _) (Nat.le_refl _) ⟨_, rfl, xrh_i hf rfl⟩
set_option maxHeartbeats 4000000 in
set_option maxRecDepth 100000 in
theorem ch_Book_look_y (l : Launch) {dA : FieldType → ClassId} {D : va_G} {al : Nat → Nat} {ext : mv_Sh} {sk sv : Nat → Nat} (hi : mv_inj (mg dA D al ext)) (h : mv_H) (hb : Br 108 (mv_r h))  (a0 : Int32) {rv : Int32} {rg : mv_H} (hf : f_Book_look 108 h a0 = some (rv, rg)) : mv_C l y_Book_look (Cond.code y_Book_look b_Book_look 2 (Option.some Jvm.ClassFile.FieldType.int) :: ma) ({ frames := 0, cells := 0, slots := 0, locals := 0 }) (mg dA D al ext) (mK sk sv) [.ref (al 108), .int a0] h (mv_Ri (fun v σ1 => rv = v ∧ rg = σ1 ∧ mv_r σ1 = mv_r h)) := by
  refine mv_C.ofV (cc := b_Book_look) (nL := 2) (ret := (Option.some Jvm.ClassFile.FieldType.int)) (by decide +kernel) rfl hi (Nat.le_of_ble_eq_true rfl) ?_
  intro p e s m below meth c B hNs hr hnm hno
  unfold f_Book_look at hf
  refine mv_iload_n (pc := 0) B d_Book_look_0 rfl 1 rfl ?_
  refine mv_aload_n (pc := 1) B d_Book_look_1 rfl 0 rfl ?_
  refine mv_getI (pc := 2) (ci := 12) (C := R_Book) (T := F_Book) (N := 65) B 2 rfl rfl (by decide) i_Book (B.2.2.2.1 _ k_1845) rfl d_Book_look_2 ?_
  refine mv_icmp_ge (pc := 5) (tgt := 21) B d_Book_look_5 rfl (fun h5 => ?_) (fun h5 => ?_)
  · skip
    have hf := xif_t h5 hf
    refine mv_iconst (pc := 21) (v := -1) B d_Book_look_21 (by decide) ?_
    exact mv_iret (pc := 22) B hr rfl d_Book_look_22 (Nat.le_refl _) (Nat.le_refl _) ⟨_, rfl, xrh_i hf rfl⟩
  · skip
    have hf := xif_f h5 hf
    refine mv_aload_n (pc := 8) B d_Book_look_8 rfl 0 rfl ?_
    refine mv_getR (pc := 9) (ci := 12) (C := R_Book) (T := F_Book) (N := 65) B 1 rfl rfl (by decide) i_Book (B.2.2.2.1 _ k_1844) rfl hb.2 d_Book_look_9 ?_
    refine mv_iload_n (pc := 12) B d_Book_look_12 rfl 1 rfl ?_
    obtain ⟨q1, hf⟩ := xvi_e hf
    refine mv_bald (pc := 13) B rfl q1 d_Book_look_13 ?_
    refine mv_sipush (pc := 14) (v := 255) B d_Book_look_14 (by decide) ?_
    refine mv_iand (pc := 17) B d_Book_look_17 ?_
    refine mv_goto (pc := 18) (tgt := 22) B d_Book_look_18 rfl ?_
    exact mv_iret (pc := 22) B hr rfl d_Book_look_22 (Nat.le_refl _) (Nat.le_refl _) ⟨_, rfl, xrh_i hf rfl⟩
def f_Book_skip_87 (P : Nat) (k0 : mv_H → Option mv_H) (hz : mv_H) : Option mv_H := xk (mv_si hz P 3 ((mv_i hz P 3) + (1 : Int32))) fun g1 => k0  g1
def fF_Book_skip_26 (P : Nat) (k0 : mv_H → Option mv_H) (k26 : mv_H → Option mv_H) (hz : mv_H) : Option mv_H := if (mv_i hz P 2) ≤ (mv_i hz P 3) then (k0  hz) else (xhb (f_Book_look P hz (mv_i hz P 3)) fun u3 g2 => if u3 = (10 : Int32) then (k0  g2) else (xk (mv_si g2 P 3 ((mv_i g2 P 3) + (1 : Int32))) fun g4 => k26  g4))
def f_Book_skip_26 (P : Nat) (k0 : mv_H → Option mv_H) : Nat → mv_H → Option mv_H
  | 0 => fun  _ => none
  | nn + 1 => fF_Book_skip_26 P k0 (f_Book_skip_26 P k0 nn)
def fF_Book_skip_0 (P : Nat) (k0 : mv_H → Option mv_H) (hz : mv_H) : Option mv_H := if (mv_i hz P 2) ≤ (mv_i hz P 3) then (some hz) else (xhb (f_Book_look P hz (mv_i hz P 3)) fun u6 g5 => if u6 = (35 : Int32) then (f_Book_skip_26 P k0 200000  g5) else (if u6 = (9 : Int32) then (f_Book_skip_87 P k0  g5) else (if u6 = (10 : Int32) then (f_Book_skip_87 P k0  g5) else (if u6 = (13 : Int32) then (f_Book_skip_87 P k0  g5) else (if u6 = (32 : Int32) then (f_Book_skip_87 P k0  g5) else (some g5))))))
def f_Book_skip_0 (P : Nat) : Nat → mv_H → Option mv_H
  | 0 => fun  _ => none
  | nn + 1 => fF_Book_skip_0 P (f_Book_skip_0 P nn)
def f_Book_skip (P : Nat) (h : mv_H) : Option mv_H := f_Book_skip_0 P 200000  h
set_option maxHeartbeats 4000000 in
set_option maxRecDepth 100000 in
theorem ch_Book_skip_x (l : Launch) {dA : FieldType → ClassId} {D : va_G} {al : Nat → Nat} {ext : mv_Sh} {sk sv : Nat → Nat} (hi : mv_inj (mg dA D al ext)) (h : mv_H) (hb : Br 74 (mv_r h))  {rg : mv_H} (hf : f_Book_skip 74 h = some rg) : mv_C l y_Book_skip (Cond.code y_Book_skip b_Book_skip 2 (Option.none : Option Jvm.ClassFile.FieldType) :: ma) ({ frames := 1, cells := 0, slots := 0, locals := 21 }) (mg dA D al ext) (mK sk sv) [.ref (al 74)] h (mv_Rv (fun σ1 => rg = σ1 ∧ mv_r σ1 = mv_r h)) := by
  refine mv_C.ofV (cc := b_Book_skip) (nL := 2) (ret := (Option.none : Option Jvm.ClassFile.FieldType)) (by decide +kernel) rfl hi (Nat.le_of_ble_eq_true rfl) ?_
  intro p e s m below meth c B hNs hr hnm hno
  have lp0 : ∀ (nn0 : Nat) (hz : mv_H), mv_r hz = mv_r h → f_Book_skip_0 74 nn0  hz = some rg → mv_V p l e ({ frames := 1, cells := 0, slots := 0, locals := 21 }) s m ([.ref (al 74)] : List Value).toArray below meth c (mg dA D al ext) 2 0 0 (mv_Q (mg dA D al ext) below s 0 0 (mv_Rv (fun σ1 => rg = σ1 ∧ mv_r σ1 = mv_r h))) hz 0 [(0, .ref (al 74))] [] := by
    intro nn0
    induction nn0 with
    | zero => intro  hz r_hz hf; cases hf
    | succ nn0 ih0 =>
      intro  hz r_hz hf
      have jn87 : ∀ (hz : mv_H), mv_r hz = mv_r h → f_Book_skip_87 74 (f_Book_skip_0 74 nn0)  hz = some rg → mv_V p l e ({ frames := 1, cells := 0, slots := 0, locals := 21 }) s m ([.ref (al 74)] : List Value).toArray below meth c (mg dA D al ext) 2 0 0 (mv_Q (mg dA D al ext) below s 0 0 (mv_Rv (fun σ1 => rg = σ1 ∧ mv_r σ1 = mv_r h))) hz 87 [(0, .ref (al 74))] [] := by
        intro  hz r_hz hf
        unfold f_Book_skip_87 at hf
        refine mv_aload_n (pc := 87) B d_Book_skip_87 rfl 0 rfl ?_
        refine mv_dup (pc := 88) B d_Book_skip_88 rfl ?_
        refine mv_getI (pc := 89) (ci := 12) (C := R_Book) (T := F_Book) (N := 65) B 3 rfl rfl (by decide) i_Book (B.2.2.2.1 _ k_1846) rfl d_Book_skip_89 ?_
        refine mv_iconst (pc := 92) (v := 1) B d_Book_skip_92 (by decide) ?_
        refine mv_iadd (pc := 93) B d_Book_skip_93 ?_
        refine mv_putI (pc := 94) (ci := 12) (C := R_Book) (T := F_Book) (N := 65) B 3 rfl rfl (by decide) i_Book t_Book_ok n_Book (B.2.2.2.1 _ k_1846) rfl rfl rfl rfl d_Book_skip_94 ?_
        refine mvh_hp (R9 := mv_r h) hf r_hz (fun g1 hf r_g1 => ?_)
        refine mv_goto (pc := 97) (tgt := 101) B d_Book_skip_97 rfl ?_
        refine mv_goto (pc := 101) (tgt := 0) B d_Book_skip_101 rfl ?_
        refine mv_lpick [0] rfl ?_
        exact ih0  _ r_g1 hf
      have lp26 : ∀ (nn26 : Nat) (hz : mv_H), mv_r hz = mv_r h → f_Book_skip_26 74 (f_Book_skip_0 74 nn0) nn26  hz = some rg → mv_V p l e ({ frames := 1, cells := 0, slots := 0, locals := 21 }) s m ([.ref (al 74)] : List Value).toArray below meth c (mg dA D al ext) 2 0 0 (mv_Q (mg dA D al ext) below s 0 0 (mv_Rv (fun σ1 => rg = σ1 ∧ mv_r σ1 = mv_r h))) hz 26 [(0, .ref (al 74))] [] := by
        intro nn26
        induction nn26 with
        | zero => intro  hz r_hz hf; cases hf
        | succ nn26 ih26 =>
          intro  hz r_hz hf
          have hf : fF_Book_skip_26 74 (f_Book_skip_0 74 nn0) (f_Book_skip_26 74 (f_Book_skip_0 74 nn0) nn26)  hz = some rg := hf
          unfold fF_Book_skip_26 at hf
          refine mv_aload_n (pc := 26) B d_Book_skip_26 rfl 0 rfl ?_
          refine mv_getI (pc := 27) (ci := 12) (C := R_Book) (T := F_Book) (N := 65) B 3 rfl rfl (by decide) i_Book (B.2.2.2.1 _ k_1846) rfl d_Book_skip_27 ?_
          refine mv_aload_n (pc := 30) B d_Book_skip_30 rfl 0 rfl ?_
          refine mv_getI (pc := 31) (ci := 12) (C := R_Book) (T := F_Book) (N := 65) B 2 rfl rfl (by decide) i_Book (B.2.2.2.1 _ k_1845) rfl d_Book_skip_31 ?_
          refine mv_icmp_ge (pc := 34) (tgt := 101) B d_Book_skip_34 rfl (fun h34 => ?_) (fun h34 => ?_)
          · skip
            have hf := xif_t h34 hf
            refine mv_goto (pc := 101) (tgt := 0) B d_Book_skip_101 rfl ?_
            refine mv_lpick [0] rfl ?_
            exact ih0  _ r_hz hf
          · skip
            have hf := xif_f h34 hf
            refine mv_aload_n (pc := 37) B d_Book_skip_37 rfl 0 rfl ?_
            refine mv_aload_n (pc := 38) B d_Book_skip_38 rfl 0 rfl ?_
            refine mv_getI (pc := 39) (ci := 12) (C := R_Book) (T := F_Book) (N := 65) B 3 rfl rfl (by decide) i_Book (B.2.2.2.1 _ k_1846) rfl d_Book_skip_39 ?_
            obtain ⟨u3, g2, eg2, hf⟩ := xhb_e hf
            refine mv_callVi (pc := 42) (n := 1) (ci := 12) (C := R_Book) B (mK_ok sk sv) hNs rfl rfl (ch_Book_look_x l hi _ (xrw r_hz hb) _ eg2) rfl (ma_goodc kc_Book_look) (B.2.2.2.1 _ k_2122) (B.2.2.2.1 _ k_2124) (B.2.2.2.1 _ ks_82) (B.2.2.2.1 _ k_13) ⟨by decide +kernel, by decide +kernel, by decide +kernel⟩ rfl d_Book_skip_42 rfl (Nat.le_of_ble_eq_true rfl) ⟨by decide, by decide⟩ ⟨by decide, by decide⟩ ⟨by decide, by decide⟩ (mv_noH hno _) (fun w42 σ42 h42 => ?_)
            obtain ⟨rfl, rfl, s_g2⟩ := h42
            have r_g2 : mv_r g2 = mv_r h := s_g2.trans r_hz
            refine mv_bipush (pc := 45) (v := 10) B d_Book_skip_45 (by decide) ?_
            refine mv_icmp_eq (pc := 47) (tgt := 101) B d_Book_skip_47 rfl (fun h47 => ?_) (fun h47 => ?_)
            · skip
              have hf := xif_t h47 hf
              refine mv_goto (pc := 101) (tgt := 0) B d_Book_skip_101 rfl ?_
              refine mv_lpick [0] rfl ?_
              exact ih0  _ r_g2 hf
            · skip
              have hf := xif_f h47 hf
              refine mv_aload_n (pc := 50) B d_Book_skip_50 rfl 0 rfl ?_
              refine mv_dup (pc := 51) B d_Book_skip_51 rfl ?_
              refine mv_getI (pc := 52) (ci := 12) (C := R_Book) (T := F_Book) (N := 65) B 3 rfl rfl (by decide) i_Book (B.2.2.2.1 _ k_1846) rfl d_Book_skip_52 ?_
              refine mv_iconst (pc := 55) (v := 1) B d_Book_skip_55 (by decide) ?_
              refine mv_iadd (pc := 56) B d_Book_skip_56 ?_
              refine mv_putI (pc := 57) (ci := 12) (C := R_Book) (T := F_Book) (N := 65) B 3 rfl rfl (by decide) i_Book t_Book_ok n_Book (B.2.2.2.1 _ k_1846) rfl rfl rfl rfl d_Book_skip_57 ?_
              refine mvh_hp (R9 := mv_r h) hf r_g2 (fun g4 hf r_g4 => ?_)
              refine mv_goto (pc := 60) (tgt := 26) B d_Book_skip_60 rfl ?_
              refine mv_lpick [0] rfl ?_
              exact ih26  _ r_g4 hf
      have hf : fF_Book_skip_0 74 (f_Book_skip_0 74 nn0)  hz = some rg := hf
      unfold fF_Book_skip_0 at hf
      refine mv_aload_n (pc := 0) B d_Book_skip_0 rfl 0 rfl ?_
      refine mv_getI (pc := 1) (ci := 12) (C := R_Book) (T := F_Book) (N := 65) B 3 rfl rfl (by decide) i_Book (B.2.2.2.1 _ k_1846) rfl d_Book_skip_1 ?_
      refine mv_aload_n (pc := 4) B d_Book_skip_4 rfl 0 rfl ?_
      refine mv_getI (pc := 5) (ci := 12) (C := R_Book) (T := F_Book) (N := 65) B 2 rfl rfl (by decide) i_Book (B.2.2.2.1 _ k_1845) rfl d_Book_skip_5 ?_
      refine mv_icmp_ge (pc := 8) (tgt := 104) B d_Book_skip_8 rfl (fun h8 => ?_) (fun h8 => ?_)
      · skip
        have hf := xif_t h8 hf
        exact mv_vret (pc := 104) B hr d_Book_skip_104 (Nat.le_refl _) (Nat.le_refl _) ⟨rfl, xrh_v hf r_hz⟩
      · skip
        have hf := xif_f h8 hf
        refine mv_aload_n (pc := 11) B d_Book_skip_11 rfl 0 rfl ?_
        refine mv_aload_n (pc := 12) B d_Book_skip_12 rfl 0 rfl ?_
        refine mv_getI (pc := 13) (ci := 12) (C := R_Book) (T := F_Book) (N := 65) B 3 rfl rfl (by decide) i_Book (B.2.2.2.1 _ k_1846) rfl d_Book_skip_13 ?_
        obtain ⟨u6, g5, eg5, hf⟩ := xhb_e hf
        refine mv_callVi (pc := 16) (n := 1) (ci := 12) (C := R_Book) B (mK_ok sk sv) hNs rfl rfl (ch_Book_look_x l hi _ (xrw r_hz hb) _ eg5) rfl (ma_goodc kc_Book_look) (B.2.2.2.1 _ k_2122) (B.2.2.2.1 _ k_2124) (B.2.2.2.1 _ ks_82) (B.2.2.2.1 _ k_13) ⟨by decide +kernel, by decide +kernel, by decide +kernel⟩ rfl d_Book_skip_16 rfl (Nat.le_of_ble_eq_true rfl) ⟨by decide, by decide⟩ ⟨by decide, by decide⟩ ⟨by decide, by decide⟩ (mv_noH hno _) (fun w16 σ16 h16 => ?_)
        obtain ⟨rfl, rfl, s_g5⟩ := h16
        have r_g5 : mv_r g5 = mv_r h := s_g5.trans r_hz
        refine mv_istore_n (pc := 19) B d_Book_skip_19 rfl (by decide) rfl ?_
        refine mv_iload_n (pc := 20) B d_Book_skip_20 rfl 0 rfl ?_
        refine mv_bipush (pc := 21) (v := 35) B d_Book_skip_21 (by decide) ?_
        refine mv_icmp_ne (pc := 23) (tgt := 63) B d_Book_skip_23 rfl (fun h23 => ?_) (fun h23 => ?_)
        · skip
          have hf := xif_f h23 hf
          refine mv_iload_n (pc := 63) B d_Book_skip_63 rfl 0 rfl ?_
          refine mv_bipush (pc := 64) (v := 9) B d_Book_skip_64 (by decide) ?_
          refine mv_icmp_eq (pc := 66) (tgt := 87) B d_Book_skip_66 rfl (fun h66 => ?_) (fun h66 => ?_)
          · skip
            have hf := xif_t h66 hf
            refine mv_lpick [1] rfl ?_
            exact jn87  _ r_g5 hf
          · skip
            have hf := xif_f h66 hf
            refine mv_iload_n (pc := 69) B d_Book_skip_69 rfl 0 rfl ?_
            refine mv_bipush (pc := 70) (v := 10) B d_Book_skip_70 (by decide) ?_
            refine mv_icmp_eq (pc := 72) (tgt := 87) B d_Book_skip_72 rfl (fun h72 => ?_) (fun h72 => ?_)
            · skip
              have hf := xif_t h72 hf
              refine mv_lpick [1] rfl ?_
              exact jn87  _ r_g5 hf
            · skip
              have hf := xif_f h72 hf
              refine mv_iload_n (pc := 75) B d_Book_skip_75 rfl 0 rfl ?_
              refine mv_bipush (pc := 76) (v := 13) B d_Book_skip_76 (by decide) ?_
              refine mv_icmp_eq (pc := 78) (tgt := 87) B d_Book_skip_78 rfl (fun h78 => ?_) (fun h78 => ?_)
              · skip
                have hf := xif_t h78 hf
                refine mv_lpick [1] rfl ?_
                exact jn87  _ r_g5 hf
              · skip
                have hf := xif_f h78 hf
                refine mv_iload_n (pc := 81) B d_Book_skip_81 rfl 0 rfl ?_
                refine mv_bipush (pc := 82) (v := 32) B d_Book_skip_82 (by decide) ?_
                refine mv_icmp_ne (pc := 84) (tgt := 100) B d_Book_skip_84 rfl (fun h84 => ?_) (fun h84 => ?_)
                · skip
                  have hf := xif_f h84 hf
                  exact mv_vret (pc := 100) B hr d_Book_skip_100 (Nat.le_refl _) (Nat.le_refl _) ⟨rfl, xrh_v hf r_g5⟩
                · skip
                  have hf := xif_t h84 hf
                  refine mv_lpick [1] rfl ?_
                  exact jn87  _ r_g5 hf
        · skip
          have hf := xif_t h23 hf
          refine mv_lpick [1] rfl ?_
          exact lp26 _  _ r_g5 hf
  unfold f_Book_skip at hf
  refine mv_lpick [0] rfl ?_
  exact lp0 _  _ rfl hf
set_option maxHeartbeats 4000000 in
set_option maxRecDepth 100000 in
theorem ch_Book_skip_y (l : Launch) {dA : FieldType → ClassId} {D : va_G} {al : Nat → Nat} {ext : mv_Sh} {sk sv : Nat → Nat} (hi : mv_inj (mg dA D al ext)) (h : mv_H) (hb : Br 108 (mv_r h))  {rg : mv_H} (hf : f_Book_skip 108 h = some rg) : mv_C l y_Book_skip (Cond.code y_Book_skip b_Book_skip 2 (Option.none : Option Jvm.ClassFile.FieldType) :: ma) ({ frames := 1, cells := 0, slots := 0, locals := 21 }) (mg dA D al ext) (mK sk sv) [.ref (al 108)] h (mv_Rv (fun σ1 => rg = σ1 ∧ mv_r σ1 = mv_r h)) := by
  refine mv_C.ofV (cc := b_Book_skip) (nL := 2) (ret := (Option.none : Option Jvm.ClassFile.FieldType)) (by decide +kernel) rfl hi (Nat.le_of_ble_eq_true rfl) ?_
  intro p e s m below meth c B hNs hr hnm hno
  have lp0 : ∀ (nn0 : Nat) (hz : mv_H), mv_r hz = mv_r h → f_Book_skip_0 108 nn0  hz = some rg → mv_V p l e ({ frames := 1, cells := 0, slots := 0, locals := 21 }) s m ([.ref (al 108)] : List Value).toArray below meth c (mg dA D al ext) 2 0 0 (mv_Q (mg dA D al ext) below s 0 0 (mv_Rv (fun σ1 => rg = σ1 ∧ mv_r σ1 = mv_r h))) hz 0 [(0, .ref (al 108))] [] := by
    intro nn0
    induction nn0 with
    | zero => intro  hz r_hz hf; cases hf
    | succ nn0 ih0 =>
      intro  hz r_hz hf
      have jn87 : ∀ (hz : mv_H), mv_r hz = mv_r h → f_Book_skip_87 108 (f_Book_skip_0 108 nn0)  hz = some rg → mv_V p l e ({ frames := 1, cells := 0, slots := 0, locals := 21 }) s m ([.ref (al 108)] : List Value).toArray below meth c (mg dA D al ext) 2 0 0 (mv_Q (mg dA D al ext) below s 0 0 (mv_Rv (fun σ1 => rg = σ1 ∧ mv_r σ1 = mv_r h))) hz 87 [(0, .ref (al 108))] [] := by
        intro  hz r_hz hf
        unfold f_Book_skip_87 at hf
        refine mv_aload_n (pc := 87) B d_Book_skip_87 rfl 0 rfl ?_
        refine mv_dup (pc := 88) B d_Book_skip_88 rfl ?_
        refine mv_getI (pc := 89) (ci := 12) (C := R_Book) (T := F_Book) (N := 65) B 3 rfl rfl (by decide) i_Book (B.2.2.2.1 _ k_1846) rfl d_Book_skip_89 ?_
        refine mv_iconst (pc := 92) (v := 1) B d_Book_skip_92 (by decide) ?_
        refine mv_iadd (pc := 93) B d_Book_skip_93 ?_
        refine mv_putI (pc := 94) (ci := 12) (C := R_Book) (T := F_Book) (N := 65) B 3 rfl rfl (by decide) i_Book t_Book_ok n_Book (B.2.2.2.1 _ k_1846) rfl rfl rfl rfl d_Book_skip_94 ?_
        refine mvh_hp (R9 := mv_r h) hf r_hz (fun g1 hf r_g1 => ?_)
        refine mv_goto (pc := 97) (tgt := 101) B d_Book_skip_97 rfl ?_
        refine mv_goto (pc := 101) (tgt := 0) B d_Book_skip_101 rfl ?_
        refine mv_lpick [0] rfl ?_
        exact ih0  _ r_g1 hf
      have lp26 : ∀ (nn26 : Nat) (hz : mv_H), mv_r hz = mv_r h → f_Book_skip_26 108 (f_Book_skip_0 108 nn0) nn26  hz = some rg → mv_V p l e ({ frames := 1, cells := 0, slots := 0, locals := 21 }) s m ([.ref (al 108)] : List Value).toArray below meth c (mg dA D al ext) 2 0 0 (mv_Q (mg dA D al ext) below s 0 0 (mv_Rv (fun σ1 => rg = σ1 ∧ mv_r σ1 = mv_r h))) hz 26 [(0, .ref (al 108))] [] := by
        intro nn26
        induction nn26 with
        | zero => intro  hz r_hz hf; cases hf
        | succ nn26 ih26 =>
          intro  hz r_hz hf
          have hf : fF_Book_skip_26 108 (f_Book_skip_0 108 nn0) (f_Book_skip_26 108 (f_Book_skip_0 108 nn0) nn26)  hz = some rg := hf
          unfold fF_Book_skip_26 at hf
          refine mv_aload_n (pc := 26) B d_Book_skip_26 rfl 0 rfl ?_
          refine mv_getI (pc := 27) (ci := 12) (C := R_Book) (T := F_Book) (N := 65) B 3 rfl rfl (by decide) i_Book (B.2.2.2.1 _ k_1846) rfl d_Book_skip_27 ?_
          refine mv_aload_n (pc := 30) B d_Book_skip_30 rfl 0 rfl ?_
          refine mv_getI (pc := 31) (ci := 12) (C := R_Book) (T := F_Book) (N := 65) B 2 rfl rfl (by decide) i_Book (B.2.2.2.1 _ k_1845) rfl d_Book_skip_31 ?_
          refine mv_icmp_ge (pc := 34) (tgt := 101) B d_Book_skip_34 rfl (fun h34 => ?_) (fun h34 => ?_)
          · skip
            have hf := xif_t h34 hf
            refine mv_goto (pc := 101) (tgt := 0) B d_Book_skip_101 rfl ?_
            refine mv_lpick [0] rfl ?_
            exact ih0  _ r_hz hf
          · skip
            have hf := xif_f h34 hf
            refine mv_aload_n (pc := 37) B d_Book_skip_37 rfl 0 rfl ?_
            refine mv_aload_n (pc := 38) B d_Book_skip_38 rfl 0 rfl ?_
            refine mv_getI (pc := 39) (ci := 12) (C := R_Book) (T := F_Book) (N := 65) B 3 rfl rfl (by decide) i_Book (B.2.2.2.1 _ k_1846) rfl d_Book_skip_39 ?_
            obtain ⟨u3, g2, eg2, hf⟩ := xhb_e hf
            refine mv_callVi (pc := 42) (n := 1) (ci := 12) (C := R_Book) B (mK_ok sk sv) hNs rfl rfl (ch_Book_look_y l hi _ (xrw r_hz hb) _ eg2) rfl (ma_goodc kc_Book_look) (B.2.2.2.1 _ k_2122) (B.2.2.2.1 _ k_2124) (B.2.2.2.1 _ ks_82) (B.2.2.2.1 _ k_13) ⟨by decide +kernel, by decide +kernel, by decide +kernel⟩ rfl d_Book_skip_42 rfl (Nat.le_of_ble_eq_true rfl) ⟨by decide, by decide⟩ ⟨by decide, by decide⟩ ⟨by decide, by decide⟩ (mv_noH hno _) (fun w42 σ42 h42 => ?_)
            obtain ⟨rfl, rfl, s_g2⟩ := h42
            have r_g2 : mv_r g2 = mv_r h := s_g2.trans r_hz
            refine mv_bipush (pc := 45) (v := 10) B d_Book_skip_45 (by decide) ?_
            refine mv_icmp_eq (pc := 47) (tgt := 101) B d_Book_skip_47 rfl (fun h47 => ?_) (fun h47 => ?_)
            · skip
              have hf := xif_t h47 hf
              refine mv_goto (pc := 101) (tgt := 0) B d_Book_skip_101 rfl ?_
              refine mv_lpick [0] rfl ?_
              exact ih0  _ r_g2 hf
            · skip
              have hf := xif_f h47 hf
              refine mv_aload_n (pc := 50) B d_Book_skip_50 rfl 0 rfl ?_
              refine mv_dup (pc := 51) B d_Book_skip_51 rfl ?_
              refine mv_getI (pc := 52) (ci := 12) (C := R_Book) (T := F_Book) (N := 65) B 3 rfl rfl (by decide) i_Book (B.2.2.2.1 _ k_1846) rfl d_Book_skip_52 ?_
              refine mv_iconst (pc := 55) (v := 1) B d_Book_skip_55 (by decide) ?_
              refine mv_iadd (pc := 56) B d_Book_skip_56 ?_
              refine mv_putI (pc := 57) (ci := 12) (C := R_Book) (T := F_Book) (N := 65) B 3 rfl rfl (by decide) i_Book t_Book_ok n_Book (B.2.2.2.1 _ k_1846) rfl rfl rfl rfl d_Book_skip_57 ?_
              refine mvh_hp (R9 := mv_r h) hf r_g2 (fun g4 hf r_g4 => ?_)
              refine mv_goto (pc := 60) (tgt := 26) B d_Book_skip_60 rfl ?_
              refine mv_lpick [0] rfl ?_
              exact ih26  _ r_g4 hf
      have hf : fF_Book_skip_0 108 (f_Book_skip_0 108 nn0)  hz = some rg := hf
      unfold fF_Book_skip_0 at hf
      refine mv_aload_n (pc := 0) B d_Book_skip_0 rfl 0 rfl ?_
      refine mv_getI (pc := 1) (ci := 12) (C := R_Book) (T := F_Book) (N := 65) B 3 rfl rfl (by decide) i_Book (B.2.2.2.1 _ k_1846) rfl d_Book_skip_1 ?_
      refine mv_aload_n (pc := 4) B d_Book_skip_4 rfl 0 rfl ?_
      refine mv_getI (pc := 5) (ci := 12) (C := R_Book) (T := F_Book) (N := 65) B 2 rfl rfl (by decide) i_Book (B.2.2.2.1 _ k_1845) rfl d_Book_skip_5 ?_
      refine mv_icmp_ge (pc := 8) (tgt := 104) B d_Book_skip_8 rfl (fun h8 => ?_) (fun h8 => ?_)
      · skip
        have hf := xif_t h8 hf
        exact mv_vret (pc := 104) B hr d_Book_skip_104 (Nat.le_refl _) (Nat.le_refl _) ⟨rfl, xrh_v hf r_hz⟩
      · skip
        have hf := xif_f h8 hf
        refine mv_aload_n (pc := 11) B d_Book_skip_11 rfl 0 rfl ?_
        refine mv_aload_n (pc := 12) B d_Book_skip_12 rfl 0 rfl ?_
        refine mv_getI (pc := 13) (ci := 12) (C := R_Book) (T := F_Book) (N := 65) B 3 rfl rfl (by decide) i_Book (B.2.2.2.1 _ k_1846) rfl d_Book_skip_13 ?_
        obtain ⟨u6, g5, eg5, hf⟩ := xhb_e hf
        refine mv_callVi (pc := 16) (n := 1) (ci := 12) (C := R_Book) B (mK_ok sk sv) hNs rfl rfl (ch_Book_look_y l hi _ (xrw r_hz hb) _ eg5) rfl (ma_goodc kc_Book_look) (B.2.2.2.1 _ k_2122) (B.2.2.2.1 _ k_2124) (B.2.2.2.1 _ ks_82) (B.2.2.2.1 _ k_13) ⟨by decide +kernel, by decide +kernel, by decide +kernel⟩ rfl d_Book_skip_16 rfl (Nat.le_of_ble_eq_true rfl) ⟨by decide, by decide⟩ ⟨by decide, by decide⟩ ⟨by decide, by decide⟩ (mv_noH hno _) (fun w16 σ16 h16 => ?_)
        obtain ⟨rfl, rfl, s_g5⟩ := h16
        have r_g5 : mv_r g5 = mv_r h := s_g5.trans r_hz
        refine mv_istore_n (pc := 19) B d_Book_skip_19 rfl (by decide) rfl ?_
        refine mv_iload_n (pc := 20) B d_Book_skip_20 rfl 0 rfl ?_
        refine mv_bipush (pc := 21) (v := 35) B d_Book_skip_21 (by decide) ?_
        refine mv_icmp_ne (pc := 23) (tgt := 63) B d_Book_skip_23 rfl (fun h23 => ?_) (fun h23 => ?_)
        · skip
          have hf := xif_f h23 hf
          refine mv_iload_n (pc := 63) B d_Book_skip_63 rfl 0 rfl ?_
          refine mv_bipush (pc := 64) (v := 9) B d_Book_skip_64 (by decide) ?_
          refine mv_icmp_eq (pc := 66) (tgt := 87) B d_Book_skip_66 rfl (fun h66 => ?_) (fun h66 => ?_)
          · skip
            have hf := xif_t h66 hf
            refine mv_lpick [1] rfl ?_
            exact jn87  _ r_g5 hf
          · skip
            have hf := xif_f h66 hf
            refine mv_iload_n (pc := 69) B d_Book_skip_69 rfl 0 rfl ?_
            refine mv_bipush (pc := 70) (v := 10) B d_Book_skip_70 (by decide) ?_
            refine mv_icmp_eq (pc := 72) (tgt := 87) B d_Book_skip_72 rfl (fun h72 => ?_) (fun h72 => ?_)
            · skip
              have hf := xif_t h72 hf
              refine mv_lpick [1] rfl ?_
              exact jn87  _ r_g5 hf
            · skip
              have hf := xif_f h72 hf
              refine mv_iload_n (pc := 75) B d_Book_skip_75 rfl 0 rfl ?_
              refine mv_bipush (pc := 76) (v := 13) B d_Book_skip_76 (by decide) ?_
              refine mv_icmp_eq (pc := 78) (tgt := 87) B d_Book_skip_78 rfl (fun h78 => ?_) (fun h78 => ?_)
              · skip
                have hf := xif_t h78 hf
                refine mv_lpick [1] rfl ?_
                exact jn87  _ r_g5 hf
              · skip
                have hf := xif_f h78 hf
                refine mv_iload_n (pc := 81) B d_Book_skip_81 rfl 0 rfl ?_
                refine mv_bipush (pc := 82) (v := 32) B d_Book_skip_82 (by decide) ?_
                refine mv_icmp_ne (pc := 84) (tgt := 100) B d_Book_skip_84 rfl (fun h84 => ?_) (fun h84 => ?_)
                · skip
                  have hf := xif_f h84 hf
                  exact mv_vret (pc := 100) B hr d_Book_skip_100 (Nat.le_refl _) (Nat.le_refl _) ⟨rfl, xrh_v hf r_g5⟩
                · skip
                  have hf := xif_t h84 hf
                  refine mv_lpick [1] rfl ?_
                  exact jn87  _ r_g5 hf
        · skip
          have hf := xif_t h23 hf
          refine mv_lpick [1] rfl ?_
          exact lp26 _  _ r_g5 hf
  unfold f_Book_skip at hf
  refine mv_lpick [0] rfl ?_
  exact lp0 _  _ rfl hf
def f_Book_readNumber_211 (P : Nat) (hz : mv_H) : Option mv_H := xk (mv_si hz P 7 (mv_i hz P 3)) fun g1 => some g1
def f_Book_readNumber_179 (P : Nat) (x2 : Int32) (hz : mv_H) : Option mv_H := if x2 = (0 : Int32) then (f_Book_readNumber_211 P  hz) else (xhb (f_Book_look P hz (mv_i hz P 3)) fun u3 g2 => xhb (f_Book_digit g2 u3) fun u5 g4 => if u5 = (0 : Int32) then (xhb (f_Book_look P g4 (mv_i g4 P 3)) fun u7 g6 => xhb (f_Book_letter g6 u7) fun u9 g8 => if u9 = (0 : Int32) then (some g8) else (f_Book_readNumber_211 P  g8)) else (f_Book_readNumber_211 P  g4))
def f_Book_readNumber_154 (P : Nat) (k60 : Int32 → Int32 → mv_H → Option mv_H) (x1 : Int32) (x2 : Int32) (x4 : Int32) (y0 : Int32) (y1 : Int64) (hz : mv_H) : Option mv_H := xk (mv_sl hz P 9 ((y1 * ((y0).toInt64)) + ((x4).toInt64))) fun g10 => xk (mv_si g10 P 3 ((mv_i g10 P 3) + (1 : Int32))) fun g11 => k60 x1 (x2 + 1) g11
def f_Book_readNumber_127 (P : Nat) (k60 : Int32 → Int32 → mv_H → Option mv_H) (x1 : Int32) (x2 : Int32) (x4 : Int32) (y0 : Int32) (y1 : Int64) (hz : mv_H) : Option mv_H := xhb (f_Book_fits_0 hz y1 y0 x4) fun u13 g12 => if u13 = (0 : Int32) then (f_Book_readNumber_179 P x2 g12) else (if x1 = (0 : Int32) then (f_Book_readNumber_154 P k60 x1 x2 x4 (10 : Int32) (mv_l g12 P 9) g12) else (f_Book_readNumber_154 P k60 x1 x2 x4 (16 : Int32) (mv_l g12 P 9) g12))
def f_Book_readNumber_112 (P : Nat) (k60 : Int32 → Int32 → mv_H → Option mv_H) (x1 : Int32) (x2 : Int32) (x4 : Int32) (hz : mv_H) : Option mv_H := if x1 = (0 : Int32) then (f_Book_readNumber_127 P k60 x1 x2 x4 (10 : Int32) (mv_l hz P 9) hz) else (f_Book_readNumber_127 P k60 x1 x2 x4 (16 : Int32) (mv_l hz P 9) hz)
def f_Book_readNumber_95 (P : Nat) (k60 : Int32 → Int32 → mv_H → Option mv_H) (x1 : Int32) (x2 : Int32) (y0 : Int32) (hz : mv_H) : Option mv_H := if y0 < (0 : Int32) then (f_Book_readNumber_179 P x2 hz) else (if x1 = (0 : Int32) then (f_Book_readNumber_112 P k60 x1 x2 y0 hz) else (if x2 = (16 : Int32) then (f_Book_readNumber_179 P x2 hz) else (f_Book_readNumber_112 P k60 x1 x2 y0 hz)))
def fF_Book_readNumber_60 (P : Nat) (k60 : Int32 → Int32 → mv_H → Option mv_H) (x1 : Int32) (x2 : Int32) (hz : mv_H) : Option mv_H := xhb (f_Book_look P hz (mv_i hz P 3)) fun u15 g14 => if x1 = (0 : Int32) then (xhb (f_Book_digit g14 u15) fun u17 g16 => if u17 = (0 : Int32) then (f_Book_readNumber_95 P k60 x1 x2 (-1 : Int32) g16) else (f_Book_readNumber_95 P k60 x1 x2 (u15 - (48 : Int32)) g16)) else (xhb (f_Book_hex g14 u15) fun u19 g18 => f_Book_readNumber_95 P k60 x1 x2 u19 g18)
def f_Book_readNumber_60 (P : Nat) : Nat → Int32 → Int32 → mv_H → Option mv_H
  | 0 => fun _ _ _ => none
  | nn + 1 => fF_Book_readNumber_60 P (f_Book_readNumber_60 P nn)
def f_Book_readNumber_43 (P : Nat) (y0 : Int32) (hz : mv_H) : Option mv_H := if y0 = (0 : Int32) then (f_Book_readNumber_60 P 200000 y0 (0 : Int32) hz) else (xk (mv_si hz P 3 ((mv_i hz P 3) + (2 : Int32))) fun g20 => f_Book_readNumber_60 P 200000 y0 (0 : Int32) g20)
def f_Book_readNumber_42 (P : Nat) (hz : mv_H) : Option mv_H := f_Book_readNumber_43 P (0 : Int32) hz
def f_Book_readNumber (P : Nat) (h : mv_H) : Option mv_H := xk (mv_si h P 4 (2 : Int32)) fun g21 => xk (mv_sl g21 P 9 (0 : Int64)) fun g22 => xhb (f_Book_look P g22 (mv_i g22 P 3)) fun u24 g23 => if u24 = (48 : Int32) then (xhb (f_Book_look P g23 ((mv_i g23 P 3) + (1 : Int32))) fun u26 g25 => if u26 = (120 : Int32) then (f_Book_readNumber_43 P (1 : Int32) g25) else (f_Book_readNumber_42 P  g25)) else (f_Book_readNumber_42 P  g23)
set_option maxHeartbeats 4000000 in
set_option maxRecDepth 100000 in
theorem ch_Book_readNumber_x (l : Launch) {dA : FieldType → ClassId} {D : va_G} {al : Nat → Nat} {ext : mv_Sh} {sk sv : Nat → Nat} (hi : mv_inj (mg dA D al ext)) (h : mv_H) (hb : Br 74 (mv_r h))  {rg : mv_H} (hf : f_Book_readNumber 74 h = some rg) : mv_C l y_Book_readNumber (Cond.code y_Book_readNumber b_Book_readNumber 5 (Option.none : Option Jvm.ClassFile.FieldType) :: ma) ({ frames := 2, cells := 0, slots := 0, locals := 40 }) (mg dA D al ext) (mK sk sv) [.ref (al 74)] h (mv_Rv (fun σ1 => rg = σ1 ∧ mv_r σ1 = mv_r h)) := by
  refine mv_C.ofV (cc := b_Book_readNumber) (nL := 5) (ret := (Option.none : Option Jvm.ClassFile.FieldType)) (by decide +kernel) rfl hi (Nat.le_of_ble_eq_true rfl) ?_
  intro p e s m below meth c B hNs hr hnm hno
  have jn211 : ∀ (hz : mv_H), mv_r hz = mv_r h → f_Book_readNumber_211 74  hz = some rg → mv_V p l e ({ frames := 2, cells := 0, slots := 0, locals := 40 }) s m ([.ref (al 74)] : List Value).toArray below meth c (mg dA D al ext) 5 0 0 (mv_Q (mg dA D al ext) below s 0 0 (mv_Rv (fun σ1 => rg = σ1 ∧ mv_r σ1 = mv_r h))) hz 211 [(0, .ref (al 74))] [] := by
    intro  hz r_hz hf
    unfold f_Book_readNumber_211 at hf
    refine mv_aload_n (pc := 211) B d_Book_readNumber_211 rfl 0 rfl ?_
    refine mv_aload_n (pc := 212) B d_Book_readNumber_212 rfl 0 rfl ?_
    refine mv_getI (pc := 213) (ci := 12) (C := R_Book) (T := F_Book) (N := 65) B 3 rfl rfl (by decide) i_Book (B.2.2.2.1 _ k_1846) rfl d_Book_readNumber_213 ?_
    refine mv_putI (pc := 216) (ci := 12) (C := R_Book) (T := F_Book) (N := 65) B 7 rfl rfl (by decide) i_Book t_Book_ok n_Book (B.2.2.2.1 _ k_1850) rfl rfl rfl rfl d_Book_readNumber_216 ?_
    refine mvh_hp (R9 := mv_r h) hf r_hz (fun g1 hf r_g1 => ?_)
    exact mv_vret (pc := 219) B hr d_Book_readNumber_219 (Nat.le_refl _) (Nat.le_refl _) ⟨rfl, xrh_v hf r_g1⟩
  have jn179 : ∀ (x2 : Int32) (hz : mv_H), mv_r hz = mv_r h → f_Book_readNumber_179 74 x2 hz = some rg → mv_V p l e ({ frames := 2, cells := 0, slots := 0, locals := 40 }) s m ([.ref (al 74)] : List Value).toArray below meth c (mg dA D al ext) 5 0 0 (mv_Q (mg dA D al ext) below s 0 0 (mv_Rv (fun σ1 => rg = σ1 ∧ mv_r σ1 = mv_r h))) hz 179 [(0, .ref (al 74)), (2, .int x2)] [] := by
    intro x2 hz r_hz hf
    unfold f_Book_readNumber_179 at hf
    refine mv_iload_n (pc := 179) B d_Book_readNumber_179 rfl 1 rfl ?_
    refine mv_if_eq (pc := 180) (tgt := 211) B d_Book_readNumber_180 rfl (fun h180 => ?_) (fun h180 => ?_)
    · skip
      have hf := xif_t h180 hf
      refine mv_lpick [0] rfl ?_
      exact jn211  _ r_hz hf
    · skip
      have hf := xif_f h180 hf
      refine mv_aload_n (pc := 183) B d_Book_readNumber_183 rfl 0 rfl ?_
      refine mv_aload_n (pc := 184) B d_Book_readNumber_184 rfl 0 rfl ?_
      refine mv_getI (pc := 185) (ci := 12) (C := R_Book) (T := F_Book) (N := 65) B 3 rfl rfl (by decide) i_Book (B.2.2.2.1 _ k_1846) rfl d_Book_readNumber_185 ?_
      obtain ⟨u3, g2, eg2, hf⟩ := xhb_e hf
      refine mv_callVi (pc := 188) (n := 1) (ci := 12) (C := R_Book) B (mK_ok sk sv) hNs rfl rfl (ch_Book_look_x l hi _ (xrw r_hz hb) _ eg2) rfl (ma_goodc kc_Book_look) (B.2.2.2.1 _ k_2122) (B.2.2.2.1 _ k_2124) (B.2.2.2.1 _ ks_82) (B.2.2.2.1 _ k_13) ⟨by decide +kernel, by decide +kernel, by decide +kernel⟩ rfl d_Book_readNumber_188 rfl (Nat.le_of_ble_eq_true rfl) ⟨by decide, by decide⟩ ⟨by decide, by decide⟩ ⟨by decide, by decide⟩ (mv_noH hno _) (fun w188 σ188 h188 => ?_)
      obtain ⟨rfl, rfl, s_g2⟩ := h188
      have r_g2 : mv_r g2 = mv_r h := s_g2.trans r_hz
      obtain ⟨u5, g4, eg4, hf⟩ := xhb_e hf
      refine mv_callSi (pc := 191) (n := 1) B (mK_ok sk sv) hNs (ch_Book_digit l hi _ _ eg4) rfl (ma_goodc kc_Book_digit) (B.2.2.2.1 _ k_2129) (B.2.2.2.1 _ k_2130) (B.2.2.2.1 _ k_13) ⟨by decide +kernel, by decide +kernel, by decide +kernel⟩ rfl d_Book_readNumber_191 rfl (Nat.le_of_ble_eq_true rfl) ⟨by decide, by decide⟩ ⟨by decide, by decide⟩ ⟨by decide, by decide⟩ (mv_noH hno _) (fun w191 σ191 h191 => ?_)
      obtain ⟨rfl, rfl, s_g4⟩ := h191
      have r_g4 : mv_r g4 = mv_r h := s_g4.trans r_g2
      refine mv_if_ne (pc := 194) (tgt := 211) B d_Book_readNumber_194 rfl (fun h194 => ?_) (fun h194 => ?_)
      · skip
        have hf := xif_f h194 hf
        refine mv_lpick [0] rfl ?_
        exact jn211  _ r_g4 hf
      · skip
        have hf := xif_t h194 hf
        refine mv_aload_n (pc := 197) B d_Book_readNumber_197 rfl 0 rfl ?_
        refine mv_aload_n (pc := 198) B d_Book_readNumber_198 rfl 0 rfl ?_
        refine mv_getI (pc := 199) (ci := 12) (C := R_Book) (T := F_Book) (N := 65) B 3 rfl rfl (by decide) i_Book (B.2.2.2.1 _ k_1846) rfl d_Book_readNumber_199 ?_
        obtain ⟨u7, g6, eg6, hf⟩ := xhb_e hf
        refine mv_callVi (pc := 202) (n := 1) (ci := 12) (C := R_Book) B (mK_ok sk sv) hNs rfl rfl (ch_Book_look_x l hi _ (xrw r_g4 hb) _ eg6) rfl (ma_goodc kc_Book_look) (B.2.2.2.1 _ k_2122) (B.2.2.2.1 _ k_2124) (B.2.2.2.1 _ ks_82) (B.2.2.2.1 _ k_13) ⟨by decide +kernel, by decide +kernel, by decide +kernel⟩ rfl d_Book_readNumber_202 rfl (Nat.le_of_ble_eq_true rfl) ⟨by decide, by decide⟩ ⟨by decide, by decide⟩ ⟨by decide, by decide⟩ (mv_noH hno _) (fun w202 σ202 h202 => ?_)
        obtain ⟨rfl, rfl, s_g6⟩ := h202
        have r_g6 : mv_r g6 = mv_r h := s_g6.trans r_g4
        obtain ⟨u9, g8, eg8, hf⟩ := xhb_e hf
        refine mv_callSi (pc := 205) (n := 1) B (mK_ok sk sv) hNs (ch_Book_letter l hi _ _ eg8) rfl (ma_goodc kc_Book_letter) (B.2.2.2.1 _ k_2126) (B.2.2.2.1 _ k_2127) (B.2.2.2.1 _ k_13) ⟨by decide +kernel, by decide +kernel, by decide +kernel⟩ rfl d_Book_readNumber_205 rfl (Nat.le_of_ble_eq_true rfl) ⟨by decide, by decide⟩ ⟨by decide, by decide⟩ ⟨by decide, by decide⟩ (mv_noH hno _) (fun w205 σ205 h205 => ?_)
        obtain ⟨rfl, rfl, s_g8⟩ := h205
        have r_g8 : mv_r g8 = mv_r h := s_g8.trans r_g6
        refine mv_if_eq (pc := 208) (tgt := 219) B d_Book_readNumber_208 rfl (fun h208 => ?_) (fun h208 => ?_)
        · skip
          have hf := xif_t h208 hf
          exact mv_vret (pc := 219) B hr d_Book_readNumber_219 (Nat.le_refl _) (Nat.le_refl _) ⟨rfl, xrh_v hf r_g8⟩
        · skip
          have hf := xif_f h208 hf
          refine mv_lpick [0] rfl ?_
          exact jn211  _ r_g8 hf
  have lp60 : ∀ (nn60 : Nat) (x1 : Int32) (x2 : Int32) (hz : mv_H), mv_r hz = mv_r h → f_Book_readNumber_60 74 nn60 x1 x2 hz = some rg → mv_V p l e ({ frames := 2, cells := 0, slots := 0, locals := 40 }) s m ([.ref (al 74)] : List Value).toArray below meth c (mg dA D al ext) 5 0 0 (mv_Q (mg dA D al ext) below s 0 0 (mv_Rv (fun σ1 => rg = σ1 ∧ mv_r σ1 = mv_r h))) hz 60 [(0, .ref (al 74)), (1, .int x1), (2, .int x2)] [] := by
    intro nn60
    induction nn60 with
    | zero => intro x1 x2 hz r_hz hf; cases hf
    | succ nn60 ih60 =>
      intro x1 x2 hz r_hz hf
      have jn154 : ∀ (x1 : Int32) (x2 : Int32) (x4 : Int32) (y0 : Int32) (y1 : Int64) (hz : mv_H), mv_r hz = mv_r h → f_Book_readNumber_154 74 (f_Book_readNumber_60 74 nn60) x1 x2 x4 y0 y1 hz = some rg → mv_V p l e ({ frames := 2, cells := 0, slots := 0, locals := 40 }) s m ([.ref (al 74)] : List Value).toArray below meth c (mg dA D al ext) 5 0 0 (mv_Q (mg dA D al ext) below s 0 0 (mv_Rv (fun σ1 => rg = σ1 ∧ mv_r σ1 = mv_r h))) hz 154 [(0, .ref (al 74)), (1, .int x1), (2, .int x2), (4, .int x4)] [.int y0, .long y1, .ref (al 74)] := by
        intro x1 x2 x4 y0 y1 hz r_hz hf
        unfold f_Book_readNumber_154 at hf
        refine mv_i2l (pc := 154) B d_Book_readNumber_154 ?_
        refine mv_lmul (pc := 155) B d_Book_readNumber_155 ?_
        refine mv_iload (pc := 156) B d_Book_readNumber_156 3 rfl ?_
        refine mv_i2l (pc := 158) B d_Book_readNumber_158 ?_
        refine mv_ladd (pc := 159) B d_Book_readNumber_159 ?_
        refine mv_putL (pc := 160) (ci := 12) (C := R_Book) (T := F_Book) (N := 65) B 9 rfl rfl (by decide) i_Book t_Book_ok n_Book (B.2.2.2.1 _ k_1852) rfl rfl d_Book_readNumber_160 ?_
        refine mvh_hp (R9 := mv_r h) hf r_hz (fun g10 hf r_g10 => ?_)
        refine mv_iinc (pc := 163) (j := 2) (v := 1) B d_Book_readNumber_163 rfl (by decide) (by decide) rfl ?_
        refine mv_aload_n (pc := 166) B d_Book_readNumber_166 rfl 1 rfl ?_
        refine mv_dup (pc := 167) B d_Book_readNumber_167 rfl ?_
        refine mv_getI (pc := 168) (ci := 12) (C := R_Book) (T := F_Book) (N := 65) B 3 rfl rfl (by decide) i_Book (B.2.2.2.1 _ k_1846) rfl d_Book_readNumber_168 ?_
        refine mv_iconst (pc := 171) (v := 1) B d_Book_readNumber_171 (by decide) ?_
        refine mv_iadd (pc := 172) B d_Book_readNumber_172 ?_
        refine mv_putI (pc := 173) (ci := 12) (C := R_Book) (T := F_Book) (N := 65) B 3 rfl rfl (by decide) i_Book t_Book_ok n_Book (B.2.2.2.1 _ k_1846) rfl rfl rfl rfl d_Book_readNumber_173 ?_
        refine mvh_hp (R9 := mv_r h) hf r_g10 (fun g11 hf r_g11 => ?_)
        refine mv_goto (pc := 176) (tgt := 60) B d_Book_readNumber_176 rfl ?_
        refine mv_lpick [1, 2, 0] rfl ?_
        exact ih60 _ _ _ r_g11 hf
      have jn127 : ∀ (x1 : Int32) (x2 : Int32) (x4 : Int32) (y0 : Int32) (y1 : Int64) (hz : mv_H), mv_r hz = mv_r h → f_Book_readNumber_127 74 (f_Book_readNumber_60 74 nn60) x1 x2 x4 y0 y1 hz = some rg → mv_V p l e ({ frames := 2, cells := 0, slots := 0, locals := 40 }) s m ([.ref (al 74)] : List Value).toArray below meth c (mg dA D al ext) 5 0 0 (mv_Q (mg dA D al ext) below s 0 0 (mv_Rv (fun σ1 => rg = σ1 ∧ mv_r σ1 = mv_r h))) hz 127 [(0, .ref (al 74)), (1, .int x1), (2, .int x2), (4, .int x4)] [.int y0, .long y1] := by
        intro x1 x2 x4 y0 y1 hz r_hz hf
        unfold f_Book_readNumber_127 at hf
        refine mv_iload (pc := 127) B d_Book_readNumber_127 3 rfl ?_
        obtain ⟨u13, g12, eg12, hf⟩ := xhb_e hf
        refine mv_callSi (pc := 129) (n := 3) B (mK_ok sk sv) hNs (ch_Book_fits_0 l hi _ _ _ _ eg12) rfl (ma_goodc kc_Book_fits_0) (B.2.2.2.1 _ k_2139) (B.2.2.2.1 _ k_2140) (B.2.2.2.1 _ k_13) ⟨by decide +kernel, by decide +kernel, by decide +kernel⟩ rfl d_Book_readNumber_129 rfl (Nat.le_of_ble_eq_true rfl) ⟨by decide, by decide⟩ ⟨by decide, by decide⟩ ⟨by decide, by decide⟩ (mv_noH hno _) (fun w129 σ129 h129 => ?_)
        obtain ⟨rfl, rfl, s_g12⟩ := h129
        have r_g12 : mv_r g12 = mv_r h := s_g12.trans r_hz
        refine mv_if_ne (pc := 132) (tgt := 138) B d_Book_readNumber_132 rfl (fun h132 => ?_) (fun h132 => ?_)
        · skip
          have hf := xif_f h132 hf
          refine mv_aload_n (pc := 138) B d_Book_readNumber_138 rfl 0 rfl ?_
          refine mv_aload_n (pc := 139) B d_Book_readNumber_139 rfl 0 rfl ?_
          refine mv_getL (pc := 140) (ci := 12) (C := R_Book) (T := F_Book) (N := 65) B 9 rfl rfl (by decide) i_Book (B.2.2.2.1 _ k_1852) rfl d_Book_readNumber_140 ?_
          refine mv_iload_n (pc := 143) B d_Book_readNumber_143 rfl 1 rfl ?_
          refine mv_if_eq (pc := 144) (tgt := 152) B d_Book_readNumber_144 rfl (fun h144 => ?_) (fun h144 => ?_)
          · skip
            have hf := xif_t h144 hf
            refine mv_bipush (pc := 152) (v := 10) B d_Book_readNumber_152 (by decide) ?_
            refine mv_lpick [0, 1, 2, 3] rfl ?_
            exact jn154 _ _ _ _ _ _ r_g12 hf
          · skip
            have hf := xif_f h144 hf
            refine mv_bipush (pc := 147) (v := 16) B d_Book_readNumber_147 (by decide) ?_
            refine mv_goto (pc := 149) (tgt := 154) B d_Book_readNumber_149 rfl ?_
            refine mv_lpick [0, 1, 2, 3] rfl ?_
            exact jn154 _ _ _ _ _ _ r_g12 hf
        · skip
          have hf := xif_t h132 hf
          refine mv_goto (pc := 135) (tgt := 179) B d_Book_readNumber_135 rfl ?_
          refine mv_lpick [0, 2] rfl ?_
          exact jn179 _ _ r_g12 hf
      have jn112 : ∀ (x1 : Int32) (x2 : Int32) (x4 : Int32) (hz : mv_H), mv_r hz = mv_r h → f_Book_readNumber_112 74 (f_Book_readNumber_60 74 nn60) x1 x2 x4 hz = some rg → mv_V p l e ({ frames := 2, cells := 0, slots := 0, locals := 40 }) s m ([.ref (al 74)] : List Value).toArray below meth c (mg dA D al ext) 5 0 0 (mv_Q (mg dA D al ext) below s 0 0 (mv_Rv (fun σ1 => rg = σ1 ∧ mv_r σ1 = mv_r h))) hz 112 [(0, .ref (al 74)), (1, .int x1), (2, .int x2), (4, .int x4)] [] := by
        intro x1 x2 x4 hz r_hz hf
        unfold f_Book_readNumber_112 at hf
        refine mv_aload_n (pc := 112) B d_Book_readNumber_112 rfl 0 rfl ?_
        refine mv_getL (pc := 113) (ci := 12) (C := R_Book) (T := F_Book) (N := 65) B 9 rfl rfl (by decide) i_Book (B.2.2.2.1 _ k_1852) rfl d_Book_readNumber_113 ?_
        refine mv_iload_n (pc := 116) B d_Book_readNumber_116 rfl 1 rfl ?_
        refine mv_if_eq (pc := 117) (tgt := 125) B d_Book_readNumber_117 rfl (fun h117 => ?_) (fun h117 => ?_)
        · skip
          have hf := xif_t h117 hf
          refine mv_bipush (pc := 125) (v := 10) B d_Book_readNumber_125 (by decide) ?_
          refine mv_lpick [0, 1, 2, 3] rfl ?_
          exact jn127 _ _ _ _ _ _ r_hz hf
        · skip
          have hf := xif_f h117 hf
          refine mv_bipush (pc := 120) (v := 16) B d_Book_readNumber_120 (by decide) ?_
          refine mv_goto (pc := 122) (tgt := 127) B d_Book_readNumber_122 rfl ?_
          refine mv_lpick [0, 1, 2, 3] rfl ?_
          exact jn127 _ _ _ _ _ _ r_hz hf
      have jn95 : ∀ (x1 : Int32) (x2 : Int32) (y0 : Int32) (hz : mv_H), mv_r hz = mv_r h → f_Book_readNumber_95 74 (f_Book_readNumber_60 74 nn60) x1 x2 y0 hz = some rg → mv_V p l e ({ frames := 2, cells := 0, slots := 0, locals := 40 }) s m ([.ref (al 74)] : List Value).toArray below meth c (mg dA D al ext) 5 0 0 (mv_Q (mg dA D al ext) below s 0 0 (mv_Rv (fun σ1 => rg = σ1 ∧ mv_r σ1 = mv_r h))) hz 95 [(0, .ref (al 74)), (1, .int x1), (2, .int x2)] [.int y0] := by
        intro x1 x2 y0 hz r_hz hf
        unfold f_Book_readNumber_95 at hf
        refine mv_istore (pc := 95) B d_Book_readNumber_95 (by decide) rfl ?_
        refine mv_iload (pc := 97) B d_Book_readNumber_97 0 rfl ?_
        refine mv_if_lt (pc := 99) (tgt := 179) B d_Book_readNumber_99 rfl (fun h99 => ?_) (fun h99 => ?_)
        · skip
          have hf := xif_t h99 hf
          refine mv_lpick [1, 3] rfl ?_
          exact jn179 _ _ r_hz hf
        · skip
          have hf := xif_f h99 hf
          refine mv_iload_n (pc := 102) B d_Book_readNumber_102 rfl 2 rfl ?_
          refine mv_if_eq (pc := 103) (tgt := 112) B d_Book_readNumber_103 rfl (fun h103 => ?_) (fun h103 => ?_)
          · skip
            have hf := xif_t h103 hf
            refine mv_lpick [1, 2, 3, 0] rfl ?_
            exact jn112 _ _ _ _ r_hz hf
          · skip
            have hf := xif_f h103 hf
            refine mv_iload_n (pc := 106) B d_Book_readNumber_106 rfl 3 rfl ?_
            refine mv_bipush (pc := 107) (v := 16) B d_Book_readNumber_107 (by decide) ?_
            refine mv_icmp_eq (pc := 109) (tgt := 179) B d_Book_readNumber_109 rfl (fun h109 => ?_) (fun h109 => ?_)
            · skip
              have hf := xif_t h109 hf
              refine mv_lpick [1, 3] rfl ?_
              exact jn179 _ _ r_hz hf
            · skip
              have hf := xif_f h109 hf
              refine mv_lpick [1, 2, 3, 0] rfl ?_
              exact jn112 _ _ _ _ r_hz hf
      have hf : fF_Book_readNumber_60 74 (f_Book_readNumber_60 74 nn60) x1 x2 hz = some rg := hf
      unfold fF_Book_readNumber_60 at hf
      refine mv_aload_n (pc := 60) B d_Book_readNumber_60 rfl 0 rfl ?_
      refine mv_aload_n (pc := 61) B d_Book_readNumber_61 rfl 0 rfl ?_
      refine mv_getI (pc := 62) (ci := 12) (C := R_Book) (T := F_Book) (N := 65) B 3 rfl rfl (by decide) i_Book (B.2.2.2.1 _ k_1846) rfl d_Book_readNumber_62 ?_
      obtain ⟨u15, g14, eg14, hf⟩ := xhb_e hf
      refine mv_callVi (pc := 65) (n := 1) (ci := 12) (C := R_Book) B (mK_ok sk sv) hNs rfl rfl (ch_Book_look_x l hi _ (xrw r_hz hb) _ eg14) rfl (ma_goodc kc_Book_look) (B.2.2.2.1 _ k_2122) (B.2.2.2.1 _ k_2124) (B.2.2.2.1 _ ks_82) (B.2.2.2.1 _ k_13) ⟨by decide +kernel, by decide +kernel, by decide +kernel⟩ rfl d_Book_readNumber_65 rfl (Nat.le_of_ble_eq_true rfl) ⟨by decide, by decide⟩ ⟨by decide, by decide⟩ ⟨by decide, by decide⟩ (mv_noH hno _) (fun w65 σ65 h65 => ?_)
      obtain ⟨rfl, rfl, s_g14⟩ := h65
      have r_g14 : mv_r g14 = mv_r h := s_g14.trans r_hz
      refine mv_istore_n (pc := 68) B d_Book_readNumber_68 rfl (by decide) rfl ?_
      refine mv_iload_n (pc := 69) B d_Book_readNumber_69 rfl 2 rfl ?_
      refine mv_if_eq (pc := 70) (tgt := 80) B d_Book_readNumber_70 rfl (fun h70 => ?_) (fun h70 => ?_)
      · skip
        have hf := xif_t h70 hf
        refine mv_iload_n (pc := 80) B d_Book_readNumber_80 rfl 0 rfl ?_
        obtain ⟨u17, g16, eg16, hf⟩ := xhb_e hf
        refine mv_callSi (pc := 81) (n := 1) B (mK_ok sk sv) hNs (ch_Book_digit l hi _ _ eg16) rfl (ma_goodc kc_Book_digit) (B.2.2.2.1 _ k_2129) (B.2.2.2.1 _ k_2130) (B.2.2.2.1 _ k_13) ⟨by decide +kernel, by decide +kernel, by decide +kernel⟩ rfl d_Book_readNumber_81 rfl (Nat.le_of_ble_eq_true rfl) ⟨by decide, by decide⟩ ⟨by decide, by decide⟩ ⟨by decide, by decide⟩ (mv_noH hno _) (fun w81 σ81 h81 => ?_)
        obtain ⟨rfl, rfl, s_g16⟩ := h81
        have r_g16 : mv_r g16 = mv_r h := s_g16.trans r_g14
        refine mv_if_eq (pc := 84) (tgt := 94) B d_Book_readNumber_84 rfl (fun h84 => ?_) (fun h84 => ?_)
        · skip
          have hf := xif_t h84 hf
          refine mv_iconst (pc := 94) (v := -1) B d_Book_readNumber_94 (by decide) ?_
          refine mv_lpick [1, 2, 3] rfl ?_
          exact jn95 _ _ _ _ r_g16 hf
        · skip
          have hf := xif_f h84 hf
          refine mv_iload_n (pc := 87) B d_Book_readNumber_87 rfl 0 rfl ?_
          refine mv_bipush (pc := 88) (v := 48) B d_Book_readNumber_88 (by decide) ?_
          refine mv_isub (pc := 90) B d_Book_readNumber_90 ?_
          refine mv_goto (pc := 91) (tgt := 95) B d_Book_readNumber_91 rfl ?_
          refine mv_lpick [1, 2, 3] rfl ?_
          exact jn95 _ _ _ _ r_g16 hf
      · skip
        have hf := xif_f h70 hf
        refine mv_iload_n (pc := 73) B d_Book_readNumber_73 rfl 0 rfl ?_
        obtain ⟨u19, g18, eg18, hf⟩ := xhb_e hf
        refine mv_callSi (pc := 74) (n := 1) B (mK_ok sk sv) hNs (ch_Book_hex l hi _ _ eg18) rfl (ma_goodc kc_Book_hex) (B.2.2.2.1 _ k_2136) (B.2.2.2.1 _ k_2137) (B.2.2.2.1 _ k_13) ⟨by decide +kernel, by decide +kernel, by decide +kernel⟩ rfl d_Book_readNumber_74 rfl (Nat.le_of_ble_eq_true rfl) ⟨by decide, by decide⟩ ⟨by decide, by decide⟩ ⟨by decide, by decide⟩ (mv_noH hno _) (fun w74 σ74 h74 => ?_)
        obtain ⟨rfl, rfl, s_g18⟩ := h74
        have r_g18 : mv_r g18 = mv_r h := s_g18.trans r_g14
        refine mv_goto (pc := 77) (tgt := 95) B d_Book_readNumber_77 rfl ?_
        refine mv_lpick [1, 2, 3] rfl ?_
        exact jn95 _ _ _ _ r_g18 hf
  have jn43 : ∀ (y0 : Int32) (hz : mv_H), mv_r hz = mv_r h → f_Book_readNumber_43 74 y0 hz = some rg → mv_V p l e ({ frames := 2, cells := 0, slots := 0, locals := 40 }) s m ([.ref (al 74)] : List Value).toArray below meth c (mg dA D al ext) 5 0 0 (mv_Q (mg dA D al ext) below s 0 0 (mv_Rv (fun σ1 => rg = σ1 ∧ mv_r σ1 = mv_r h))) hz 43 [(0, .ref (al 74))] [.int y0] := by
    intro y0 hz r_hz hf
    unfold f_Book_readNumber_43 at hf
    refine mv_istore_n (pc := 43) B d_Book_readNumber_43 rfl (by decide) rfl ?_
    refine mv_iconst (pc := 44) (v := 0) B d_Book_readNumber_44 (by decide) ?_
    refine mv_istore_n (pc := 45) B d_Book_readNumber_45 rfl (by decide) rfl ?_
    refine mv_iload_n (pc := 46) B d_Book_readNumber_46 rfl 1 rfl ?_
    refine mv_if_eq (pc := 47) (tgt := 60) B d_Book_readNumber_47 rfl (fun h47 => ?_) (fun h47 => ?_)
    · skip
      have hf := xif_t h47 hf
      refine mv_lpick [2, 1, 0] rfl ?_
      exact lp60 _ _ _ _ r_hz hf
    · skip
      have hf := xif_f h47 hf
      refine mv_aload_n (pc := 50) B d_Book_readNumber_50 rfl 2 rfl ?_
      refine mv_dup (pc := 51) B d_Book_readNumber_51 rfl ?_
      refine mv_getI (pc := 52) (ci := 12) (C := R_Book) (T := F_Book) (N := 65) B 3 rfl rfl (by decide) i_Book (B.2.2.2.1 _ k_1846) rfl d_Book_readNumber_52 ?_
      refine mv_iconst (pc := 55) (v := 2) B d_Book_readNumber_55 (by decide) ?_
      refine mv_iadd (pc := 56) B d_Book_readNumber_56 ?_
      refine mv_putI (pc := 57) (ci := 12) (C := R_Book) (T := F_Book) (N := 65) B 3 rfl rfl (by decide) i_Book t_Book_ok n_Book (B.2.2.2.1 _ k_1846) rfl rfl rfl rfl d_Book_readNumber_57 ?_
      refine mvh_hp (R9 := mv_r h) hf r_hz (fun g20 hf r_g20 => ?_)
      refine mv_lpick [2, 1, 0] rfl ?_
      exact lp60 _ _ _ _ r_g20 hf
  have jn42 : ∀ (hz : mv_H), mv_r hz = mv_r h → f_Book_readNumber_42 74  hz = some rg → mv_V p l e ({ frames := 2, cells := 0, slots := 0, locals := 40 }) s m ([.ref (al 74)] : List Value).toArray below meth c (mg dA D al ext) 5 0 0 (mv_Q (mg dA D al ext) below s 0 0 (mv_Rv (fun σ1 => rg = σ1 ∧ mv_r σ1 = mv_r h))) hz 42 [(0, .ref (al 74))] [] := by
    intro  hz r_hz hf
    unfold f_Book_readNumber_42 at hf
    refine mv_iconst (pc := 42) (v := 0) B d_Book_readNumber_42 (by decide) ?_
    refine mv_lpick [0] rfl ?_
    exact jn43 _ _ r_hz hf
  unfold f_Book_readNumber at hf
  refine mv_aload_n (pc := 0) B d_Book_readNumber_0 rfl 0 rfl ?_
  refine mv_iconst (pc := 1) (v := 2) B d_Book_readNumber_1 (by decide) ?_
  refine mv_putI (pc := 2) (ci := 12) (C := R_Book) (T := F_Book) (N := 65) B 4 rfl rfl (by decide) i_Book t_Book_ok n_Book (B.2.2.2.1 _ k_1847) rfl rfl rfl rfl d_Book_readNumber_2 ?_
  refine mvh_hp (R9 := mv_r h) hf rfl (fun g21 hf r_g21 => ?_)
  refine mv_aload_n (pc := 5) B d_Book_readNumber_5 rfl 0 rfl ?_
  refine mv_lconst (pc := 6) (v := 0) B d_Book_readNumber_6 (by decide) ?_
  refine mv_putL (pc := 7) (ci := 12) (C := R_Book) (T := F_Book) (N := 65) B 9 rfl rfl (by decide) i_Book t_Book_ok n_Book (B.2.2.2.1 _ k_1852) rfl rfl d_Book_readNumber_7 ?_
  refine mvh_hp (R9 := mv_r h) hf r_g21 (fun g22 hf r_g22 => ?_)
  refine mv_aload_n (pc := 10) B d_Book_readNumber_10 rfl 0 rfl ?_
  refine mv_aload_n (pc := 11) B d_Book_readNumber_11 rfl 0 rfl ?_
  refine mv_getI (pc := 12) (ci := 12) (C := R_Book) (T := F_Book) (N := 65) B 3 rfl rfl (by decide) i_Book (B.2.2.2.1 _ k_1846) rfl d_Book_readNumber_12 ?_
  obtain ⟨u24, g23, eg23, hf⟩ := xhb_e hf
  refine mv_callVi (pc := 15) (n := 1) (ci := 12) (C := R_Book) B (mK_ok sk sv) hNs rfl rfl (ch_Book_look_x l hi _ (xrw r_g22 hb) _ eg23) rfl (ma_goodc kc_Book_look) (B.2.2.2.1 _ k_2122) (B.2.2.2.1 _ k_2124) (B.2.2.2.1 _ ks_82) (B.2.2.2.1 _ k_13) ⟨by decide +kernel, by decide +kernel, by decide +kernel⟩ rfl d_Book_readNumber_15 rfl (Nat.le_of_ble_eq_true rfl) ⟨by decide, by decide⟩ ⟨by decide, by decide⟩ ⟨by decide, by decide⟩ (mv_noH hno _) (fun w15 σ15 h15 => ?_)
  obtain ⟨rfl, rfl, s_g23⟩ := h15
  have r_g23 : mv_r g23 = mv_r h := s_g23.trans r_g22
  refine mv_bipush (pc := 18) (v := 48) B d_Book_readNumber_18 (by decide) ?_
  refine mv_icmp_ne (pc := 20) (tgt := 42) B d_Book_readNumber_20 rfl (fun h20 => ?_) (fun h20 => ?_)
  · skip
    have hf := xif_f h20 hf
    refine mv_lpick [0] rfl ?_
    exact jn42  _ r_g23 hf
  · skip
    have hf := xif_t h20 hf
    refine mv_aload_n (pc := 23) B d_Book_readNumber_23 rfl 0 rfl ?_
    refine mv_aload_n (pc := 24) B d_Book_readNumber_24 rfl 0 rfl ?_
    refine mv_getI (pc := 25) (ci := 12) (C := R_Book) (T := F_Book) (N := 65) B 3 rfl rfl (by decide) i_Book (B.2.2.2.1 _ k_1846) rfl d_Book_readNumber_25 ?_
    refine mv_iconst (pc := 28) (v := 1) B d_Book_readNumber_28 (by decide) ?_
    refine mv_iadd (pc := 29) B d_Book_readNumber_29 ?_
    obtain ⟨u26, g25, eg25, hf⟩ := xhb_e hf
    refine mv_callVi (pc := 30) (n := 1) (ci := 12) (C := R_Book) B (mK_ok sk sv) hNs rfl rfl (ch_Book_look_x l hi _ (xrw r_g23 hb) _ eg25) rfl (ma_goodc kc_Book_look) (B.2.2.2.1 _ k_2122) (B.2.2.2.1 _ k_2124) (B.2.2.2.1 _ ks_82) (B.2.2.2.1 _ k_13) ⟨by decide +kernel, by decide +kernel, by decide +kernel⟩ rfl d_Book_readNumber_30 rfl (Nat.le_of_ble_eq_true rfl) ⟨by decide, by decide⟩ ⟨by decide, by decide⟩ ⟨by decide, by decide⟩ (mv_noH hno _) (fun w30 σ30 h30 => ?_)
    obtain ⟨rfl, rfl, s_g25⟩ := h30
    have r_g25 : mv_r g25 = mv_r h := s_g25.trans r_g23
    refine mv_bipush (pc := 33) (v := 120) B d_Book_readNumber_33 (by decide) ?_
    refine mv_icmp_ne (pc := 35) (tgt := 42) B d_Book_readNumber_35 rfl (fun h35 => ?_) (fun h35 => ?_)
    · skip
      have hf := xif_f h35 hf
      refine mv_lpick [0] rfl ?_
      exact jn42  _ r_g25 hf
    · skip
      have hf := xif_t h35 hf
      refine mv_iconst (pc := 38) (v := 1) B d_Book_readNumber_38 (by decide) ?_
      refine mv_goto (pc := 39) (tgt := 43) B d_Book_readNumber_39 rfl ?_
      refine mv_lpick [0] rfl ?_
      exact jn43 _ _ r_g25 hf
set_option maxHeartbeats 4000000 in
set_option maxRecDepth 100000 in
theorem ch_Book_readNumber_y (l : Launch) {dA : FieldType → ClassId} {D : va_G} {al : Nat → Nat} {ext : mv_Sh} {sk sv : Nat → Nat} (hi : mv_inj (mg dA D al ext)) (h : mv_H) (hb : Br 108 (mv_r h))  {rg : mv_H} (hf : f_Book_readNumber 108 h = some rg) : mv_C l y_Book_readNumber (Cond.code y_Book_readNumber b_Book_readNumber 5 (Option.none : Option Jvm.ClassFile.FieldType) :: ma) ({ frames := 2, cells := 0, slots := 0, locals := 40 }) (mg dA D al ext) (mK sk sv) [.ref (al 108)] h (mv_Rv (fun σ1 => rg = σ1 ∧ mv_r σ1 = mv_r h)) := by
  refine mv_C.ofV (cc := b_Book_readNumber) (nL := 5) (ret := (Option.none : Option Jvm.ClassFile.FieldType)) (by decide +kernel) rfl hi (Nat.le_of_ble_eq_true rfl) ?_
  intro p e s m below meth c B hNs hr hnm hno
  have jn211 : ∀ (hz : mv_H), mv_r hz = mv_r h → f_Book_readNumber_211 108  hz = some rg → mv_V p l e ({ frames := 2, cells := 0, slots := 0, locals := 40 }) s m ([.ref (al 108)] : List Value).toArray below meth c (mg dA D al ext) 5 0 0 (mv_Q (mg dA D al ext) below s 0 0 (mv_Rv (fun σ1 => rg = σ1 ∧ mv_r σ1 = mv_r h))) hz 211 [(0, .ref (al 108))] [] := by
    intro  hz r_hz hf
    unfold f_Book_readNumber_211 at hf
    refine mv_aload_n (pc := 211) B d_Book_readNumber_211 rfl 0 rfl ?_
    refine mv_aload_n (pc := 212) B d_Book_readNumber_212 rfl 0 rfl ?_
    refine mv_getI (pc := 213) (ci := 12) (C := R_Book) (T := F_Book) (N := 65) B 3 rfl rfl (by decide) i_Book (B.2.2.2.1 _ k_1846) rfl d_Book_readNumber_213 ?_
    refine mv_putI (pc := 216) (ci := 12) (C := R_Book) (T := F_Book) (N := 65) B 7 rfl rfl (by decide) i_Book t_Book_ok n_Book (B.2.2.2.1 _ k_1850) rfl rfl rfl rfl d_Book_readNumber_216 ?_
    refine mvh_hp (R9 := mv_r h) hf r_hz (fun g1 hf r_g1 => ?_)
    exact mv_vret (pc := 219) B hr d_Book_readNumber_219 (Nat.le_refl _) (Nat.le_refl _) ⟨rfl, xrh_v hf r_g1⟩
  have jn179 : ∀ (x2 : Int32) (hz : mv_H), mv_r hz = mv_r h → f_Book_readNumber_179 108 x2 hz = some rg → mv_V p l e ({ frames := 2, cells := 0, slots := 0, locals := 40 }) s m ([.ref (al 108)] : List Value).toArray below meth c (mg dA D al ext) 5 0 0 (mv_Q (mg dA D al ext) below s 0 0 (mv_Rv (fun σ1 => rg = σ1 ∧ mv_r σ1 = mv_r h))) hz 179 [(0, .ref (al 108)), (2, .int x2)] [] := by
    intro x2 hz r_hz hf
    unfold f_Book_readNumber_179 at hf
    refine mv_iload_n (pc := 179) B d_Book_readNumber_179 rfl 1 rfl ?_
    refine mv_if_eq (pc := 180) (tgt := 211) B d_Book_readNumber_180 rfl (fun h180 => ?_) (fun h180 => ?_)
    · skip
      have hf := xif_t h180 hf
      refine mv_lpick [0] rfl ?_
      exact jn211  _ r_hz hf
    · skip
      have hf := xif_f h180 hf
      refine mv_aload_n (pc := 183) B d_Book_readNumber_183 rfl 0 rfl ?_
      refine mv_aload_n (pc := 184) B d_Book_readNumber_184 rfl 0 rfl ?_
      refine mv_getI (pc := 185) (ci := 12) (C := R_Book) (T := F_Book) (N := 65) B 3 rfl rfl (by decide) i_Book (B.2.2.2.1 _ k_1846) rfl d_Book_readNumber_185 ?_
      obtain ⟨u3, g2, eg2, hf⟩ := xhb_e hf
      refine mv_callVi (pc := 188) (n := 1) (ci := 12) (C := R_Book) B (mK_ok sk sv) hNs rfl rfl (ch_Book_look_y l hi _ (xrw r_hz hb) _ eg2) rfl (ma_goodc kc_Book_look) (B.2.2.2.1 _ k_2122) (B.2.2.2.1 _ k_2124) (B.2.2.2.1 _ ks_82) (B.2.2.2.1 _ k_13) ⟨by decide +kernel, by decide +kernel, by decide +kernel⟩ rfl d_Book_readNumber_188 rfl (Nat.le_of_ble_eq_true rfl) ⟨by decide, by decide⟩ ⟨by decide, by decide⟩ ⟨by decide, by decide⟩ (mv_noH hno _) (fun w188 σ188 h188 => ?_)
      obtain ⟨rfl, rfl, s_g2⟩ := h188
      have r_g2 : mv_r g2 = mv_r h := s_g2.trans r_hz
      obtain ⟨u5, g4, eg4, hf⟩ := xhb_e hf
      refine mv_callSi (pc := 191) (n := 1) B (mK_ok sk sv) hNs (ch_Book_digit l hi _ _ eg4) rfl (ma_goodc kc_Book_digit) (B.2.2.2.1 _ k_2129) (B.2.2.2.1 _ k_2130) (B.2.2.2.1 _ k_13) ⟨by decide +kernel, by decide +kernel, by decide +kernel⟩ rfl d_Book_readNumber_191 rfl (Nat.le_of_ble_eq_true rfl) ⟨by decide, by decide⟩ ⟨by decide, by decide⟩ ⟨by decide, by decide⟩ (mv_noH hno _) (fun w191 σ191 h191 => ?_)
      obtain ⟨rfl, rfl, s_g4⟩ := h191
      have r_g4 : mv_r g4 = mv_r h := s_g4.trans r_g2
      refine mv_if_ne (pc := 194) (tgt := 211) B d_Book_readNumber_194 rfl (fun h194 => ?_) (fun h194 => ?_)
      · skip
        have hf := xif_f h194 hf
        refine mv_lpick [0] rfl ?_
        exact jn211  _ r_g4 hf
      · skip
        have hf := xif_t h194 hf
        refine mv_aload_n (pc := 197) B d_Book_readNumber_197 rfl 0 rfl ?_
        refine mv_aload_n (pc := 198) B d_Book_readNumber_198 rfl 0 rfl ?_
        refine mv_getI (pc := 199) (ci := 12) (C := R_Book) (T := F_Book) (N := 65) B 3 rfl rfl (by decide) i_Book (B.2.2.2.1 _ k_1846) rfl d_Book_readNumber_199 ?_
        obtain ⟨u7, g6, eg6, hf⟩ := xhb_e hf
        refine mv_callVi (pc := 202) (n := 1) (ci := 12) (C := R_Book) B (mK_ok sk sv) hNs rfl rfl (ch_Book_look_y l hi _ (xrw r_g4 hb) _ eg6) rfl (ma_goodc kc_Book_look) (B.2.2.2.1 _ k_2122) (B.2.2.2.1 _ k_2124) (B.2.2.2.1 _ ks_82) (B.2.2.2.1 _ k_13) ⟨by decide +kernel, by decide +kernel, by decide +kernel⟩ rfl d_Book_readNumber_202 rfl (Nat.le_of_ble_eq_true rfl) ⟨by decide, by decide⟩ ⟨by decide, by decide⟩ ⟨by decide, by decide⟩ (mv_noH hno _) (fun w202 σ202 h202 => ?_)
        obtain ⟨rfl, rfl, s_g6⟩ := h202
        have r_g6 : mv_r g6 = mv_r h := s_g6.trans r_g4
        obtain ⟨u9, g8, eg8, hf⟩ := xhb_e hf
        refine mv_callSi (pc := 205) (n := 1) B (mK_ok sk sv) hNs (ch_Book_letter l hi _ _ eg8) rfl (ma_goodc kc_Book_letter) (B.2.2.2.1 _ k_2126) (B.2.2.2.1 _ k_2127) (B.2.2.2.1 _ k_13) ⟨by decide +kernel, by decide +kernel, by decide +kernel⟩ rfl d_Book_readNumber_205 rfl (Nat.le_of_ble_eq_true rfl) ⟨by decide, by decide⟩ ⟨by decide, by decide⟩ ⟨by decide, by decide⟩ (mv_noH hno _) (fun w205 σ205 h205 => ?_)
        obtain ⟨rfl, rfl, s_g8⟩ := h205
        have r_g8 : mv_r g8 = mv_r h := s_g8.trans r_g6
        refine mv_if_eq (pc := 208) (tgt := 219) B d_Book_readNumber_208 rfl (fun h208 => ?_) (fun h208 => ?_)
        · skip
          have hf := xif_t h208 hf
          exact mv_vret (pc := 219) B hr d_Book_readNumber_219 (Nat.le_refl _) (Nat.le_refl _) ⟨rfl, xrh_v hf r_g8⟩
        · skip
          have hf := xif_f h208 hf
          refine mv_lpick [0] rfl ?_
          exact jn211  _ r_g8 hf
  have lp60 : ∀ (nn60 : Nat) (x1 : Int32) (x2 : Int32) (hz : mv_H), mv_r hz = mv_r h → f_Book_readNumber_60 108 nn60 x1 x2 hz = some rg → mv_V p l e ({ frames := 2, cells := 0, slots := 0, locals := 40 }) s m ([.ref (al 108)] : List Value).toArray below meth c (mg dA D al ext) 5 0 0 (mv_Q (mg dA D al ext) below s 0 0 (mv_Rv (fun σ1 => rg = σ1 ∧ mv_r σ1 = mv_r h))) hz 60 [(0, .ref (al 108)), (1, .int x1), (2, .int x2)] [] := by
    intro nn60
    induction nn60 with
    | zero => intro x1 x2 hz r_hz hf; cases hf
    | succ nn60 ih60 =>
      intro x1 x2 hz r_hz hf
      have jn154 : ∀ (x1 : Int32) (x2 : Int32) (x4 : Int32) (y0 : Int32) (y1 : Int64) (hz : mv_H), mv_r hz = mv_r h → f_Book_readNumber_154 108 (f_Book_readNumber_60 108 nn60) x1 x2 x4 y0 y1 hz = some rg → mv_V p l e ({ frames := 2, cells := 0, slots := 0, locals := 40 }) s m ([.ref (al 108)] : List Value).toArray below meth c (mg dA D al ext) 5 0 0 (mv_Q (mg dA D al ext) below s 0 0 (mv_Rv (fun σ1 => rg = σ1 ∧ mv_r σ1 = mv_r h))) hz 154 [(0, .ref (al 108)), (1, .int x1), (2, .int x2), (4, .int x4)] [.int y0, .long y1, .ref (al 108)] := by
        intro x1 x2 x4 y0 y1 hz r_hz hf
        unfold f_Book_readNumber_154 at hf
        refine mv_i2l (pc := 154) B d_Book_readNumber_154 ?_
        refine mv_lmul (pc := 155) B d_Book_readNumber_155 ?_
        refine mv_iload (pc := 156) B d_Book_readNumber_156 3 rfl ?_
        refine mv_i2l (pc := 158) B d_Book_readNumber_158 ?_
        refine mv_ladd (pc := 159) B d_Book_readNumber_159 ?_
        refine mv_putL (pc := 160) (ci := 12) (C := R_Book) (T := F_Book) (N := 65) B 9 rfl rfl (by decide) i_Book t_Book_ok n_Book (B.2.2.2.1 _ k_1852) rfl rfl d_Book_readNumber_160 ?_
        refine mvh_hp (R9 := mv_r h) hf r_hz (fun g10 hf r_g10 => ?_)
        refine mv_iinc (pc := 163) (j := 2) (v := 1) B d_Book_readNumber_163 rfl (by decide) (by decide) rfl ?_
        refine mv_aload_n (pc := 166) B d_Book_readNumber_166 rfl 1 rfl ?_
        refine mv_dup (pc := 167) B d_Book_readNumber_167 rfl ?_
        refine mv_getI (pc := 168) (ci := 12) (C := R_Book) (T := F_Book) (N := 65) B 3 rfl rfl (by decide) i_Book (B.2.2.2.1 _ k_1846) rfl d_Book_readNumber_168 ?_
        refine mv_iconst (pc := 171) (v := 1) B d_Book_readNumber_171 (by decide) ?_
        refine mv_iadd (pc := 172) B d_Book_readNumber_172 ?_
        refine mv_putI (pc := 173) (ci := 12) (C := R_Book) (T := F_Book) (N := 65) B 3 rfl rfl (by decide) i_Book t_Book_ok n_Book (B.2.2.2.1 _ k_1846) rfl rfl rfl rfl d_Book_readNumber_173 ?_
        refine mvh_hp (R9 := mv_r h) hf r_g10 (fun g11 hf r_g11 => ?_)
        refine mv_goto (pc := 176) (tgt := 60) B d_Book_readNumber_176 rfl ?_
        refine mv_lpick [1, 2, 0] rfl ?_
        exact ih60 _ _ _ r_g11 hf
      have jn127 : ∀ (x1 : Int32) (x2 : Int32) (x4 : Int32) (y0 : Int32) (y1 : Int64) (hz : mv_H), mv_r hz = mv_r h → f_Book_readNumber_127 108 (f_Book_readNumber_60 108 nn60) x1 x2 x4 y0 y1 hz = some rg → mv_V p l e ({ frames := 2, cells := 0, slots := 0, locals := 40 }) s m ([.ref (al 108)] : List Value).toArray below meth c (mg dA D al ext) 5 0 0 (mv_Q (mg dA D al ext) below s 0 0 (mv_Rv (fun σ1 => rg = σ1 ∧ mv_r σ1 = mv_r h))) hz 127 [(0, .ref (al 108)), (1, .int x1), (2, .int x2), (4, .int x4)] [.int y0, .long y1] := by
        intro x1 x2 x4 y0 y1 hz r_hz hf
        unfold f_Book_readNumber_127 at hf
        refine mv_iload (pc := 127) B d_Book_readNumber_127 3 rfl ?_
        obtain ⟨u13, g12, eg12, hf⟩ := xhb_e hf
        refine mv_callSi (pc := 129) (n := 3) B (mK_ok sk sv) hNs (ch_Book_fits_0 l hi _ _ _ _ eg12) rfl (ma_goodc kc_Book_fits_0) (B.2.2.2.1 _ k_2139) (B.2.2.2.1 _ k_2140) (B.2.2.2.1 _ k_13) ⟨by decide +kernel, by decide +kernel, by decide +kernel⟩ rfl d_Book_readNumber_129 rfl (Nat.le_of_ble_eq_true rfl) ⟨by decide, by decide⟩ ⟨by decide, by decide⟩ ⟨by decide, by decide⟩ (mv_noH hno _) (fun w129 σ129 h129 => ?_)
        obtain ⟨rfl, rfl, s_g12⟩ := h129
        have r_g12 : mv_r g12 = mv_r h := s_g12.trans r_hz
        refine mv_if_ne (pc := 132) (tgt := 138) B d_Book_readNumber_132 rfl (fun h132 => ?_) (fun h132 => ?_)
        · skip
          have hf := xif_f h132 hf
          refine mv_aload_n (pc := 138) B d_Book_readNumber_138 rfl 0 rfl ?_
          refine mv_aload_n (pc := 139) B d_Book_readNumber_139 rfl 0 rfl ?_
          refine mv_getL (pc := 140) (ci := 12) (C := R_Book) (T := F_Book) (N := 65) B 9 rfl rfl (by decide) i_Book (B.2.2.2.1 _ k_1852) rfl d_Book_readNumber_140 ?_
          refine mv_iload_n (pc := 143) B d_Book_readNumber_143 rfl 1 rfl ?_
          refine mv_if_eq (pc := 144) (tgt := 152) B d_Book_readNumber_144 rfl (fun h144 => ?_) (fun h144 => ?_)
          · skip
            have hf := xif_t h144 hf
            refine mv_bipush (pc := 152) (v := 10) B d_Book_readNumber_152 (by decide) ?_
            refine mv_lpick [0, 1, 2, 3] rfl ?_
            exact jn154 _ _ _ _ _ _ r_g12 hf
          · skip
            have hf := xif_f h144 hf
            refine mv_bipush (pc := 147) (v := 16) B d_Book_readNumber_147 (by decide) ?_
            refine mv_goto (pc := 149) (tgt := 154) B d_Book_readNumber_149 rfl ?_
            refine mv_lpick [0, 1, 2, 3] rfl ?_
            exact jn154 _ _ _ _ _ _ r_g12 hf
        · skip
          have hf := xif_t h132 hf
          refine mv_goto (pc := 135) (tgt := 179) B d_Book_readNumber_135 rfl ?_
          refine mv_lpick [0, 2] rfl ?_
          exact jn179 _ _ r_g12 hf
      have jn112 : ∀ (x1 : Int32) (x2 : Int32) (x4 : Int32) (hz : mv_H), mv_r hz = mv_r h → f_Book_readNumber_112 108 (f_Book_readNumber_60 108 nn60) x1 x2 x4 hz = some rg → mv_V p l e ({ frames := 2, cells := 0, slots := 0, locals := 40 }) s m ([.ref (al 108)] : List Value).toArray below meth c (mg dA D al ext) 5 0 0 (mv_Q (mg dA D al ext) below s 0 0 (mv_Rv (fun σ1 => rg = σ1 ∧ mv_r σ1 = mv_r h))) hz 112 [(0, .ref (al 108)), (1, .int x1), (2, .int x2), (4, .int x4)] [] := by
        intro x1 x2 x4 hz r_hz hf
        unfold f_Book_readNumber_112 at hf
        refine mv_aload_n (pc := 112) B d_Book_readNumber_112 rfl 0 rfl ?_
        refine mv_getL (pc := 113) (ci := 12) (C := R_Book) (T := F_Book) (N := 65) B 9 rfl rfl (by decide) i_Book (B.2.2.2.1 _ k_1852) rfl d_Book_readNumber_113 ?_
        refine mv_iload_n (pc := 116) B d_Book_readNumber_116 rfl 1 rfl ?_
        refine mv_if_eq (pc := 117) (tgt := 125) B d_Book_readNumber_117 rfl (fun h117 => ?_) (fun h117 => ?_)
        · skip
          have hf := xif_t h117 hf
          refine mv_bipush (pc := 125) (v := 10) B d_Book_readNumber_125 (by decide) ?_
          refine mv_lpick [0, 1, 2, 3] rfl ?_
          exact jn127 _ _ _ _ _ _ r_hz hf
        · skip
          have hf := xif_f h117 hf
          refine mv_bipush (pc := 120) (v := 16) B d_Book_readNumber_120 (by decide) ?_
          refine mv_goto (pc := 122) (tgt := 127) B d_Book_readNumber_122 rfl ?_
          refine mv_lpick [0, 1, 2, 3] rfl ?_
          exact jn127 _ _ _ _ _ _ r_hz hf
      have jn95 : ∀ (x1 : Int32) (x2 : Int32) (y0 : Int32) (hz : mv_H), mv_r hz = mv_r h → f_Book_readNumber_95 108 (f_Book_readNumber_60 108 nn60) x1 x2 y0 hz = some rg → mv_V p l e ({ frames := 2, cells := 0, slots := 0, locals := 40 }) s m ([.ref (al 108)] : List Value).toArray below meth c (mg dA D al ext) 5 0 0 (mv_Q (mg dA D al ext) below s 0 0 (mv_Rv (fun σ1 => rg = σ1 ∧ mv_r σ1 = mv_r h))) hz 95 [(0, .ref (al 108)), (1, .int x1), (2, .int x2)] [.int y0] := by
        intro x1 x2 y0 hz r_hz hf
        unfold f_Book_readNumber_95 at hf
        refine mv_istore (pc := 95) B d_Book_readNumber_95 (by decide) rfl ?_
        refine mv_iload (pc := 97) B d_Book_readNumber_97 0 rfl ?_
        refine mv_if_lt (pc := 99) (tgt := 179) B d_Book_readNumber_99 rfl (fun h99 => ?_) (fun h99 => ?_)
        · skip
          have hf := xif_t h99 hf
          refine mv_lpick [1, 3] rfl ?_
          exact jn179 _ _ r_hz hf
        · skip
          have hf := xif_f h99 hf
          refine mv_iload_n (pc := 102) B d_Book_readNumber_102 rfl 2 rfl ?_
          refine mv_if_eq (pc := 103) (tgt := 112) B d_Book_readNumber_103 rfl (fun h103 => ?_) (fun h103 => ?_)
          · skip
            have hf := xif_t h103 hf
            refine mv_lpick [1, 2, 3, 0] rfl ?_
            exact jn112 _ _ _ _ r_hz hf
          · skip
            have hf := xif_f h103 hf
            refine mv_iload_n (pc := 106) B d_Book_readNumber_106 rfl 3 rfl ?_
            refine mv_bipush (pc := 107) (v := 16) B d_Book_readNumber_107 (by decide) ?_
            refine mv_icmp_eq (pc := 109) (tgt := 179) B d_Book_readNumber_109 rfl (fun h109 => ?_) (fun h109 => ?_)
            · skip
              have hf := xif_t h109 hf
              refine mv_lpick [1, 3] rfl ?_
              exact jn179 _ _ r_hz hf
            · skip
              have hf := xif_f h109 hf
              refine mv_lpick [1, 2, 3, 0] rfl ?_
              exact jn112 _ _ _ _ r_hz hf
      have hf : fF_Book_readNumber_60 108 (f_Book_readNumber_60 108 nn60) x1 x2 hz = some rg := hf
      unfold fF_Book_readNumber_60 at hf
      refine mv_aload_n (pc := 60) B d_Book_readNumber_60 rfl 0 rfl ?_
      refine mv_aload_n (pc := 61) B d_Book_readNumber_61 rfl 0 rfl ?_
      refine mv_getI (pc := 62) (ci := 12) (C := R_Book) (T := F_Book) (N := 65) B 3 rfl rfl (by decide) i_Book (B.2.2.2.1 _ k_1846) rfl d_Book_readNumber_62 ?_
      obtain ⟨u15, g14, eg14, hf⟩ := xhb_e hf
      refine mv_callVi (pc := 65) (n := 1) (ci := 12) (C := R_Book) B (mK_ok sk sv) hNs rfl rfl (ch_Book_look_y l hi _ (xrw r_hz hb) _ eg14) rfl (ma_goodc kc_Book_look) (B.2.2.2.1 _ k_2122) (B.2.2.2.1 _ k_2124) (B.2.2.2.1 _ ks_82) (B.2.2.2.1 _ k_13) ⟨by decide +kernel, by decide +kernel, by decide +kernel⟩ rfl d_Book_readNumber_65 rfl (Nat.le_of_ble_eq_true rfl) ⟨by decide, by decide⟩ ⟨by decide, by decide⟩ ⟨by decide, by decide⟩ (mv_noH hno _) (fun w65 σ65 h65 => ?_)
      obtain ⟨rfl, rfl, s_g14⟩ := h65
      have r_g14 : mv_r g14 = mv_r h := s_g14.trans r_hz
      refine mv_istore_n (pc := 68) B d_Book_readNumber_68 rfl (by decide) rfl ?_
      refine mv_iload_n (pc := 69) B d_Book_readNumber_69 rfl 2 rfl ?_
      refine mv_if_eq (pc := 70) (tgt := 80) B d_Book_readNumber_70 rfl (fun h70 => ?_) (fun h70 => ?_)
      · skip
        have hf := xif_t h70 hf
        refine mv_iload_n (pc := 80) B d_Book_readNumber_80 rfl 0 rfl ?_
        obtain ⟨u17, g16, eg16, hf⟩ := xhb_e hf
        refine mv_callSi (pc := 81) (n := 1) B (mK_ok sk sv) hNs (ch_Book_digit l hi _ _ eg16) rfl (ma_goodc kc_Book_digit) (B.2.2.2.1 _ k_2129) (B.2.2.2.1 _ k_2130) (B.2.2.2.1 _ k_13) ⟨by decide +kernel, by decide +kernel, by decide +kernel⟩ rfl d_Book_readNumber_81 rfl (Nat.le_of_ble_eq_true rfl) ⟨by decide, by decide⟩ ⟨by decide, by decide⟩ ⟨by decide, by decide⟩ (mv_noH hno _) (fun w81 σ81 h81 => ?_)
        obtain ⟨rfl, rfl, s_g16⟩ := h81
        have r_g16 : mv_r g16 = mv_r h := s_g16.trans r_g14
        refine mv_if_eq (pc := 84) (tgt := 94) B d_Book_readNumber_84 rfl (fun h84 => ?_) (fun h84 => ?_)
        · skip
          have hf := xif_t h84 hf
          refine mv_iconst (pc := 94) (v := -1) B d_Book_readNumber_94 (by decide) ?_
          refine mv_lpick [1, 2, 3] rfl ?_
          exact jn95 _ _ _ _ r_g16 hf
        · skip
          have hf := xif_f h84 hf
          refine mv_iload_n (pc := 87) B d_Book_readNumber_87 rfl 0 rfl ?_
          refine mv_bipush (pc := 88) (v := 48) B d_Book_readNumber_88 (by decide) ?_
          refine mv_isub (pc := 90) B d_Book_readNumber_90 ?_
          refine mv_goto (pc := 91) (tgt := 95) B d_Book_readNumber_91 rfl ?_
          refine mv_lpick [1, 2, 3] rfl ?_
          exact jn95 _ _ _ _ r_g16 hf
      · skip
        have hf := xif_f h70 hf
        refine mv_iload_n (pc := 73) B d_Book_readNumber_73 rfl 0 rfl ?_
        obtain ⟨u19, g18, eg18, hf⟩ := xhb_e hf
        refine mv_callSi (pc := 74) (n := 1) B (mK_ok sk sv) hNs (ch_Book_hex l hi _ _ eg18) rfl (ma_goodc kc_Book_hex) (B.2.2.2.1 _ k_2136) (B.2.2.2.1 _ k_2137) (B.2.2.2.1 _ k_13) ⟨by decide +kernel, by decide +kernel, by decide +kernel⟩ rfl d_Book_readNumber_74 rfl (Nat.le_of_ble_eq_true rfl) ⟨by decide, by decide⟩ ⟨by decide, by decide⟩ ⟨by decide, by decide⟩ (mv_noH hno _) (fun w74 σ74 h74 => ?_)
        obtain ⟨rfl, rfl, s_g18⟩ := h74
        have r_g18 : mv_r g18 = mv_r h := s_g18.trans r_g14
        refine mv_goto (pc := 77) (tgt := 95) B d_Book_readNumber_77 rfl ?_
        refine mv_lpick [1, 2, 3] rfl ?_
        exact jn95 _ _ _ _ r_g18 hf
  have jn43 : ∀ (y0 : Int32) (hz : mv_H), mv_r hz = mv_r h → f_Book_readNumber_43 108 y0 hz = some rg → mv_V p l e ({ frames := 2, cells := 0, slots := 0, locals := 40 }) s m ([.ref (al 108)] : List Value).toArray below meth c (mg dA D al ext) 5 0 0 (mv_Q (mg dA D al ext) below s 0 0 (mv_Rv (fun σ1 => rg = σ1 ∧ mv_r σ1 = mv_r h))) hz 43 [(0, .ref (al 108))] [.int y0] := by
    intro y0 hz r_hz hf
    unfold f_Book_readNumber_43 at hf
    refine mv_istore_n (pc := 43) B d_Book_readNumber_43 rfl (by decide) rfl ?_
    refine mv_iconst (pc := 44) (v := 0) B d_Book_readNumber_44 (by decide) ?_
    refine mv_istore_n (pc := 45) B d_Book_readNumber_45 rfl (by decide) rfl ?_
    refine mv_iload_n (pc := 46) B d_Book_readNumber_46 rfl 1 rfl ?_
    refine mv_if_eq (pc := 47) (tgt := 60) B d_Book_readNumber_47 rfl (fun h47 => ?_) (fun h47 => ?_)
    · skip
      have hf := xif_t h47 hf
      refine mv_lpick [2, 1, 0] rfl ?_
      exact lp60 _ _ _ _ r_hz hf
    · skip
      have hf := xif_f h47 hf
      refine mv_aload_n (pc := 50) B d_Book_readNumber_50 rfl 2 rfl ?_
      refine mv_dup (pc := 51) B d_Book_readNumber_51 rfl ?_
      refine mv_getI (pc := 52) (ci := 12) (C := R_Book) (T := F_Book) (N := 65) B 3 rfl rfl (by decide) i_Book (B.2.2.2.1 _ k_1846) rfl d_Book_readNumber_52 ?_
      refine mv_iconst (pc := 55) (v := 2) B d_Book_readNumber_55 (by decide) ?_
      refine mv_iadd (pc := 56) B d_Book_readNumber_56 ?_
      refine mv_putI (pc := 57) (ci := 12) (C := R_Book) (T := F_Book) (N := 65) B 3 rfl rfl (by decide) i_Book t_Book_ok n_Book (B.2.2.2.1 _ k_1846) rfl rfl rfl rfl d_Book_readNumber_57 ?_
      refine mvh_hp (R9 := mv_r h) hf r_hz (fun g20 hf r_g20 => ?_)
      refine mv_lpick [2, 1, 0] rfl ?_
      exact lp60 _ _ _ _ r_g20 hf
  have jn42 : ∀ (hz : mv_H), mv_r hz = mv_r h → f_Book_readNumber_42 108  hz = some rg → mv_V p l e ({ frames := 2, cells := 0, slots := 0, locals := 40 }) s m ([.ref (al 108)] : List Value).toArray below meth c (mg dA D al ext) 5 0 0 (mv_Q (mg dA D al ext) below s 0 0 (mv_Rv (fun σ1 => rg = σ1 ∧ mv_r σ1 = mv_r h))) hz 42 [(0, .ref (al 108))] [] := by
    intro  hz r_hz hf
    unfold f_Book_readNumber_42 at hf
    refine mv_iconst (pc := 42) (v := 0) B d_Book_readNumber_42 (by decide) ?_
    refine mv_lpick [0] rfl ?_
    exact jn43 _ _ r_hz hf
  unfold f_Book_readNumber at hf
  refine mv_aload_n (pc := 0) B d_Book_readNumber_0 rfl 0 rfl ?_
  refine mv_iconst (pc := 1) (v := 2) B d_Book_readNumber_1 (by decide) ?_
  refine mv_putI (pc := 2) (ci := 12) (C := R_Book) (T := F_Book) (N := 65) B 4 rfl rfl (by decide) i_Book t_Book_ok n_Book (B.2.2.2.1 _ k_1847) rfl rfl rfl rfl d_Book_readNumber_2 ?_
  refine mvh_hp (R9 := mv_r h) hf rfl (fun g21 hf r_g21 => ?_)
  refine mv_aload_n (pc := 5) B d_Book_readNumber_5 rfl 0 rfl ?_
  refine mv_lconst (pc := 6) (v := 0) B d_Book_readNumber_6 (by decide) ?_
  refine mv_putL (pc := 7) (ci := 12) (C := R_Book) (T := F_Book) (N := 65) B 9 rfl rfl (by decide) i_Book t_Book_ok n_Book (B.2.2.2.1 _ k_1852) rfl rfl d_Book_readNumber_7 ?_
  refine mvh_hp (R9 := mv_r h) hf r_g21 (fun g22 hf r_g22 => ?_)
  refine mv_aload_n (pc := 10) B d_Book_readNumber_10 rfl 0 rfl ?_
  refine mv_aload_n (pc := 11) B d_Book_readNumber_11 rfl 0 rfl ?_
  refine mv_getI (pc := 12) (ci := 12) (C := R_Book) (T := F_Book) (N := 65) B 3 rfl rfl (by decide) i_Book (B.2.2.2.1 _ k_1846) rfl d_Book_readNumber_12 ?_
  obtain ⟨u24, g23, eg23, hf⟩ := xhb_e hf
  refine mv_callVi (pc := 15) (n := 1) (ci := 12) (C := R_Book) B (mK_ok sk sv) hNs rfl rfl (ch_Book_look_y l hi _ (xrw r_g22 hb) _ eg23) rfl (ma_goodc kc_Book_look) (B.2.2.2.1 _ k_2122) (B.2.2.2.1 _ k_2124) (B.2.2.2.1 _ ks_82) (B.2.2.2.1 _ k_13) ⟨by decide +kernel, by decide +kernel, by decide +kernel⟩ rfl d_Book_readNumber_15 rfl (Nat.le_of_ble_eq_true rfl) ⟨by decide, by decide⟩ ⟨by decide, by decide⟩ ⟨by decide, by decide⟩ (mv_noH hno _) (fun w15 σ15 h15 => ?_)
  obtain ⟨rfl, rfl, s_g23⟩ := h15
  have r_g23 : mv_r g23 = mv_r h := s_g23.trans r_g22
  refine mv_bipush (pc := 18) (v := 48) B d_Book_readNumber_18 (by decide) ?_
  refine mv_icmp_ne (pc := 20) (tgt := 42) B d_Book_readNumber_20 rfl (fun h20 => ?_) (fun h20 => ?_)
  · skip
    have hf := xif_f h20 hf
    refine mv_lpick [0] rfl ?_
    exact jn42  _ r_g23 hf
  · skip
    have hf := xif_t h20 hf
    refine mv_aload_n (pc := 23) B d_Book_readNumber_23 rfl 0 rfl ?_
    refine mv_aload_n (pc := 24) B d_Book_readNumber_24 rfl 0 rfl ?_
    refine mv_getI (pc := 25) (ci := 12) (C := R_Book) (T := F_Book) (N := 65) B 3 rfl rfl (by decide) i_Book (B.2.2.2.1 _ k_1846) rfl d_Book_readNumber_25 ?_
    refine mv_iconst (pc := 28) (v := 1) B d_Book_readNumber_28 (by decide) ?_
    refine mv_iadd (pc := 29) B d_Book_readNumber_29 ?_
    obtain ⟨u26, g25, eg25, hf⟩ := xhb_e hf
    refine mv_callVi (pc := 30) (n := 1) (ci := 12) (C := R_Book) B (mK_ok sk sv) hNs rfl rfl (ch_Book_look_y l hi _ (xrw r_g23 hb) _ eg25) rfl (ma_goodc kc_Book_look) (B.2.2.2.1 _ k_2122) (B.2.2.2.1 _ k_2124) (B.2.2.2.1 _ ks_82) (B.2.2.2.1 _ k_13) ⟨by decide +kernel, by decide +kernel, by decide +kernel⟩ rfl d_Book_readNumber_30 rfl (Nat.le_of_ble_eq_true rfl) ⟨by decide, by decide⟩ ⟨by decide, by decide⟩ ⟨by decide, by decide⟩ (mv_noH hno _) (fun w30 σ30 h30 => ?_)
    obtain ⟨rfl, rfl, s_g25⟩ := h30
    have r_g25 : mv_r g25 = mv_r h := s_g25.trans r_g23
    refine mv_bipush (pc := 33) (v := 120) B d_Book_readNumber_33 (by decide) ?_
    refine mv_icmp_ne (pc := 35) (tgt := 42) B d_Book_readNumber_35 rfl (fun h35 => ?_) (fun h35 => ?_)
    · skip
      have hf := xif_f h35 hf
      refine mv_lpick [0] rfl ?_
      exact jn42  _ r_g25 hf
    · skip
      have hf := xif_t h35 hf
      refine mv_iconst (pc := 38) (v := 1) B d_Book_readNumber_38 (by decide) ?_
      refine mv_goto (pc := 39) (tgt := 43) B d_Book_readNumber_39 rfl ?_
      refine mv_lpick [0] rfl ?_
      exact jn43 _ _ r_g25 hf
def f_Book_readCode_101 (P : Nat) (hz : mv_H) : Option mv_H := if (mv_i hz P 3) = (mv_i hz P 2) then (xk (mv_si hz P 7 (mv_i hz P 2)) fun g2 => some g2) else (xk (mv_si hz P 3 ((mv_i hz P 3) + (1 : Int32))) fun g1 => some g1)
def f_Book_readCode_88 (P : Nat) (k15 : mv_H → Option mv_H) (hz : mv_H) : Option mv_H := xk (mv_si hz P 3 ((mv_i hz P 3) + (1 : Int32))) fun g3 => k15  g3
def f_Book_readCode_79 (P : Nat) (hz : mv_H) : Option mv_H := xk (mv_si hz P 7 (mv_i hz P 3)) fun g4 => some g4
def fF_Book_readCode_15 (P : Nat) (k15 : mv_H → Option mv_H) (hz : mv_H) : Option mv_H := if (mv_i hz P 2) ≤ (mv_i hz P 3) then (f_Book_readCode_101 P  hz) else (xhb (f_Book_look P hz (mv_i hz P 3)) fun u6 g5 => if u6 = (34 : Int32) then (f_Book_readCode_101 P  g5) else (xhb (f_Book_look P g5 (mv_i g5 P 3)) fun u8 g7 => if u8 = (48 : Int32) then (f_Book_readCode_88 P k15  g7) else (if u8 = (49 : Int32) then (f_Book_readCode_88 P k15  g7) else (if u8 = (46 : Int32) then (f_Book_readCode_88 P k15  g7) else (xhb (f_Book_letter g7 u8) fun u10 g9 => if u10 = (0 : Int32) then (f_Book_readCode_79 P  g9) else (if u8 = (95 : Int32) then (f_Book_readCode_79 P  g9) else (f_Book_readCode_88 P k15  g9)))))))
def f_Book_readCode_15 (P : Nat) : Nat → mv_H → Option mv_H
  | 0 => fun  _ => none
  | nn + 1 => fF_Book_readCode_15 P (f_Book_readCode_15 P nn)
def f_Book_readCode (P : Nat) (h : mv_H) : Option mv_H := xk (mv_si h P 4 (3 : Int32)) fun g11 => xk (mv_si g11 P 3 ((mv_i g11 P 3) + (1 : Int32))) fun g12 => f_Book_readCode_15 P 200000  g12
set_option maxHeartbeats 4000000 in
set_option maxRecDepth 100000 in
theorem ch_Book_readCode_x (l : Launch) {dA : FieldType → ClassId} {D : va_G} {al : Nat → Nat} {ext : mv_Sh} {sk sv : Nat → Nat} (hi : mv_inj (mg dA D al ext)) (h : mv_H) (hb : Br 74 (mv_r h))  {rg : mv_H} (hf : f_Book_readCode 74 h = some rg) : mv_C l y_Book_readCode (Cond.code y_Book_readCode b_Book_readCode 2 (Option.none : Option Jvm.ClassFile.FieldType) :: ma) ({ frames := 1, cells := 0, slots := 0, locals := 21 }) (mg dA D al ext) (mK sk sv) [.ref (al 74)] h (mv_Rv (fun σ1 => rg = σ1 ∧ mv_r σ1 = mv_r h)) := by
  refine mv_C.ofV (cc := b_Book_readCode) (nL := 2) (ret := (Option.none : Option Jvm.ClassFile.FieldType)) (by decide +kernel) rfl hi (Nat.le_of_ble_eq_true rfl) ?_
  intro p e s m below meth c B hNs hr hnm hno
  have jn101 : ∀ (hz : mv_H), mv_r hz = mv_r h → f_Book_readCode_101 74  hz = some rg → mv_V p l e ({ frames := 1, cells := 0, slots := 0, locals := 21 }) s m ([.ref (al 74)] : List Value).toArray below meth c (mg dA D al ext) 2 0 0 (mv_Q (mg dA D al ext) below s 0 0 (mv_Rv (fun σ1 => rg = σ1 ∧ mv_r σ1 = mv_r h))) hz 101 [(0, .ref (al 74))] [] := by
    intro  hz r_hz hf
    unfold f_Book_readCode_101 at hf
    refine mv_aload_n (pc := 101) B d_Book_readCode_101 rfl 0 rfl ?_
    refine mv_getI (pc := 102) (ci := 12) (C := R_Book) (T := F_Book) (N := 65) B 3 rfl rfl (by decide) i_Book (B.2.2.2.1 _ k_1846) rfl d_Book_readCode_102 ?_
    refine mv_aload_n (pc := 105) B d_Book_readCode_105 rfl 0 rfl ?_
    refine mv_getI (pc := 106) (ci := 12) (C := R_Book) (T := F_Book) (N := 65) B 2 rfl rfl (by decide) i_Book (B.2.2.2.1 _ k_1845) rfl d_Book_readCode_106 ?_
    refine mv_icmp_ne (pc := 109) (tgt := 123) B d_Book_readCode_109 rfl (fun h109 => ?_) (fun h109 => ?_)
    · skip
      have hf := xif_f h109 hf
      refine mv_aload_n (pc := 123) B d_Book_readCode_123 rfl 0 rfl ?_
      refine mv_dup (pc := 124) B d_Book_readCode_124 rfl ?_
      refine mv_getI (pc := 125) (ci := 12) (C := R_Book) (T := F_Book) (N := 65) B 3 rfl rfl (by decide) i_Book (B.2.2.2.1 _ k_1846) rfl d_Book_readCode_125 ?_
      refine mv_iconst (pc := 128) (v := 1) B d_Book_readCode_128 (by decide) ?_
      refine mv_iadd (pc := 129) B d_Book_readCode_129 ?_
      refine mv_putI (pc := 130) (ci := 12) (C := R_Book) (T := F_Book) (N := 65) B 3 rfl rfl (by decide) i_Book t_Book_ok n_Book (B.2.2.2.1 _ k_1846) rfl rfl rfl rfl d_Book_readCode_130 ?_
      refine mvh_hp (R9 := mv_r h) hf r_hz (fun g1 hf r_g1 => ?_)
      exact mv_vret (pc := 133) B hr d_Book_readCode_133 (Nat.le_refl _) (Nat.le_refl _) ⟨rfl, xrh_v hf r_g1⟩
    · skip
      have hf := xif_t h109 hf
      refine mv_aload_n (pc := 112) B d_Book_readCode_112 rfl 0 rfl ?_
      refine mv_aload_n (pc := 113) B d_Book_readCode_113 rfl 0 rfl ?_
      refine mv_getI (pc := 114) (ci := 12) (C := R_Book) (T := F_Book) (N := 65) B 2 rfl rfl (by decide) i_Book (B.2.2.2.1 _ k_1845) rfl d_Book_readCode_114 ?_
      refine mv_putI (pc := 117) (ci := 12) (C := R_Book) (T := F_Book) (N := 65) B 7 rfl rfl (by decide) i_Book t_Book_ok n_Book (B.2.2.2.1 _ k_1850) rfl rfl rfl rfl d_Book_readCode_117 ?_
      refine mvh_hp (R9 := mv_r h) hf r_hz (fun g2 hf r_g2 => ?_)
      refine mv_goto (pc := 120) (tgt := 133) B d_Book_readCode_120 rfl ?_
      exact mv_vret (pc := 133) B hr d_Book_readCode_133 (Nat.le_refl _) (Nat.le_refl _) ⟨rfl, xrh_v hf r_g2⟩
  have jn79 : ∀ (hz : mv_H), mv_r hz = mv_r h → f_Book_readCode_79 74  hz = some rg → mv_V p l e ({ frames := 1, cells := 0, slots := 0, locals := 21 }) s m ([.ref (al 74)] : List Value).toArray below meth c (mg dA D al ext) 2 0 0 (mv_Q (mg dA D al ext) below s 0 0 (mv_Rv (fun σ1 => rg = σ1 ∧ mv_r σ1 = mv_r h))) hz 79 [(0, .ref (al 74))] [] := by
    intro  hz r_hz hf
    unfold f_Book_readCode_79 at hf
    refine mv_aload_n (pc := 79) B d_Book_readCode_79 rfl 0 rfl ?_
    refine mv_aload_n (pc := 80) B d_Book_readCode_80 rfl 0 rfl ?_
    refine mv_getI (pc := 81) (ci := 12) (C := R_Book) (T := F_Book) (N := 65) B 3 rfl rfl (by decide) i_Book (B.2.2.2.1 _ k_1846) rfl d_Book_readCode_81 ?_
    refine mv_putI (pc := 84) (ci := 12) (C := R_Book) (T := F_Book) (N := 65) B 7 rfl rfl (by decide) i_Book t_Book_ok n_Book (B.2.2.2.1 _ k_1850) rfl rfl rfl rfl d_Book_readCode_84 ?_
    refine mvh_hp (R9 := mv_r h) hf r_hz (fun g4 hf r_g4 => ?_)
    exact mv_vret (pc := 87) B hr d_Book_readCode_87 (Nat.le_refl _) (Nat.le_refl _) ⟨rfl, xrh_v hf r_g4⟩
  have lp15 : ∀ (nn15 : Nat) (hz : mv_H), mv_r hz = mv_r h → f_Book_readCode_15 74 nn15  hz = some rg → mv_V p l e ({ frames := 1, cells := 0, slots := 0, locals := 21 }) s m ([.ref (al 74)] : List Value).toArray below meth c (mg dA D al ext) 2 0 0 (mv_Q (mg dA D al ext) below s 0 0 (mv_Rv (fun σ1 => rg = σ1 ∧ mv_r σ1 = mv_r h))) hz 15 [(0, .ref (al 74))] [] := by
    intro nn15
    induction nn15 with
    | zero => intro  hz r_hz hf; cases hf
    | succ nn15 ih15 =>
      intro  hz r_hz hf
      have jn88 : ∀ (hz : mv_H), mv_r hz = mv_r h → f_Book_readCode_88 74 (f_Book_readCode_15 74 nn15)  hz = some rg → mv_V p l e ({ frames := 1, cells := 0, slots := 0, locals := 21 }) s m ([.ref (al 74)] : List Value).toArray below meth c (mg dA D al ext) 2 0 0 (mv_Q (mg dA D al ext) below s 0 0 (mv_Rv (fun σ1 => rg = σ1 ∧ mv_r σ1 = mv_r h))) hz 88 [(0, .ref (al 74))] [] := by
        intro  hz r_hz hf
        unfold f_Book_readCode_88 at hf
        refine mv_aload_n (pc := 88) B d_Book_readCode_88 rfl 0 rfl ?_
        refine mv_dup (pc := 89) B d_Book_readCode_89 rfl ?_
        refine mv_getI (pc := 90) (ci := 12) (C := R_Book) (T := F_Book) (N := 65) B 3 rfl rfl (by decide) i_Book (B.2.2.2.1 _ k_1846) rfl d_Book_readCode_90 ?_
        refine mv_iconst (pc := 93) (v := 1) B d_Book_readCode_93 (by decide) ?_
        refine mv_iadd (pc := 94) B d_Book_readCode_94 ?_
        refine mv_putI (pc := 95) (ci := 12) (C := R_Book) (T := F_Book) (N := 65) B 3 rfl rfl (by decide) i_Book t_Book_ok n_Book (B.2.2.2.1 _ k_1846) rfl rfl rfl rfl d_Book_readCode_95 ?_
        refine mvh_hp (R9 := mv_r h) hf r_hz (fun g3 hf r_g3 => ?_)
        refine mv_goto (pc := 98) (tgt := 15) B d_Book_readCode_98 rfl ?_
        refine mv_lpick [0] rfl ?_
        exact ih15  _ r_g3 hf
      have hf : fF_Book_readCode_15 74 (f_Book_readCode_15 74 nn15)  hz = some rg := hf
      unfold fF_Book_readCode_15 at hf
      refine mv_aload_n (pc := 15) B d_Book_readCode_15 rfl 0 rfl ?_
      refine mv_getI (pc := 16) (ci := 12) (C := R_Book) (T := F_Book) (N := 65) B 3 rfl rfl (by decide) i_Book (B.2.2.2.1 _ k_1846) rfl d_Book_readCode_16 ?_
      refine mv_aload_n (pc := 19) B d_Book_readCode_19 rfl 0 rfl ?_
      refine mv_getI (pc := 20) (ci := 12) (C := R_Book) (T := F_Book) (N := 65) B 2 rfl rfl (by decide) i_Book (B.2.2.2.1 _ k_1845) rfl d_Book_readCode_20 ?_
      refine mv_icmp_ge (pc := 23) (tgt := 101) B d_Book_readCode_23 rfl (fun h23 => ?_) (fun h23 => ?_)
      · skip
        have hf := xif_t h23 hf
        refine mv_lpick [0] rfl ?_
        exact jn101  _ r_hz hf
      · skip
        have hf := xif_f h23 hf
        refine mv_aload_n (pc := 26) B d_Book_readCode_26 rfl 0 rfl ?_
        refine mv_aload_n (pc := 27) B d_Book_readCode_27 rfl 0 rfl ?_
        refine mv_getI (pc := 28) (ci := 12) (C := R_Book) (T := F_Book) (N := 65) B 3 rfl rfl (by decide) i_Book (B.2.2.2.1 _ k_1846) rfl d_Book_readCode_28 ?_
        obtain ⟨u6, g5, eg5, hf⟩ := xhb_e hf
        refine mv_callVi (pc := 31) (n := 1) (ci := 12) (C := R_Book) B (mK_ok sk sv) hNs rfl rfl (ch_Book_look_x l hi _ (xrw r_hz hb) _ eg5) rfl (ma_goodc kc_Book_look) (B.2.2.2.1 _ k_2122) (B.2.2.2.1 _ k_2124) (B.2.2.2.1 _ ks_82) (B.2.2.2.1 _ k_13) ⟨by decide +kernel, by decide +kernel, by decide +kernel⟩ rfl d_Book_readCode_31 rfl (Nat.le_of_ble_eq_true rfl) ⟨by decide, by decide⟩ ⟨by decide, by decide⟩ ⟨by decide, by decide⟩ (mv_noH hno _) (fun w31 σ31 h31 => ?_)
        obtain ⟨rfl, rfl, s_g5⟩ := h31
        have r_g5 : mv_r g5 = mv_r h := s_g5.trans r_hz
        refine mv_bipush (pc := 34) (v := 34) B d_Book_readCode_34 (by decide) ?_
        refine mv_icmp_eq (pc := 36) (tgt := 101) B d_Book_readCode_36 rfl (fun h36 => ?_) (fun h36 => ?_)
        · skip
          have hf := xif_t h36 hf
          refine mv_lpick [0] rfl ?_
          exact jn101  _ r_g5 hf
        · skip
          have hf := xif_f h36 hf
          refine mv_aload_n (pc := 39) B d_Book_readCode_39 rfl 0 rfl ?_
          refine mv_aload_n (pc := 40) B d_Book_readCode_40 rfl 0 rfl ?_
          refine mv_getI (pc := 41) (ci := 12) (C := R_Book) (T := F_Book) (N := 65) B 3 rfl rfl (by decide) i_Book (B.2.2.2.1 _ k_1846) rfl d_Book_readCode_41 ?_
          obtain ⟨u8, g7, eg7, hf⟩ := xhb_e hf
          refine mv_callVi (pc := 44) (n := 1) (ci := 12) (C := R_Book) B (mK_ok sk sv) hNs rfl rfl (ch_Book_look_x l hi _ (xrw r_g5 hb) _ eg7) rfl (ma_goodc kc_Book_look) (B.2.2.2.1 _ k_2122) (B.2.2.2.1 _ k_2124) (B.2.2.2.1 _ ks_82) (B.2.2.2.1 _ k_13) ⟨by decide +kernel, by decide +kernel, by decide +kernel⟩ rfl d_Book_readCode_44 rfl (Nat.le_of_ble_eq_true rfl) ⟨by decide, by decide⟩ ⟨by decide, by decide⟩ ⟨by decide, by decide⟩ (mv_noH hno _) (fun w44 σ44 h44 => ?_)
          obtain ⟨rfl, rfl, s_g7⟩ := h44
          have r_g7 : mv_r g7 = mv_r h := s_g7.trans r_g5
          refine mv_istore_n (pc := 47) B d_Book_readCode_47 rfl (by decide) rfl ?_
          refine mv_iload_n (pc := 48) B d_Book_readCode_48 rfl 0 rfl ?_
          refine mv_bipush (pc := 49) (v := 48) B d_Book_readCode_49 (by decide) ?_
          refine mv_icmp_eq (pc := 51) (tgt := 88) B d_Book_readCode_51 rfl (fun h51 => ?_) (fun h51 => ?_)
          · skip
            have hf := xif_t h51 hf
            refine mv_lpick [1] rfl ?_
            exact jn88  _ r_g7 hf
          · skip
            have hf := xif_f h51 hf
            refine mv_iload_n (pc := 54) B d_Book_readCode_54 rfl 0 rfl ?_
            refine mv_bipush (pc := 55) (v := 49) B d_Book_readCode_55 (by decide) ?_
            refine mv_icmp_eq (pc := 57) (tgt := 88) B d_Book_readCode_57 rfl (fun h57 => ?_) (fun h57 => ?_)
            · skip
              have hf := xif_t h57 hf
              refine mv_lpick [1] rfl ?_
              exact jn88  _ r_g7 hf
            · skip
              have hf := xif_f h57 hf
              refine mv_iload_n (pc := 60) B d_Book_readCode_60 rfl 0 rfl ?_
              refine mv_bipush (pc := 61) (v := 46) B d_Book_readCode_61 (by decide) ?_
              refine mv_icmp_eq (pc := 63) (tgt := 88) B d_Book_readCode_63 rfl (fun h63 => ?_) (fun h63 => ?_)
              · skip
                have hf := xif_t h63 hf
                refine mv_lpick [1] rfl ?_
                exact jn88  _ r_g7 hf
              · skip
                have hf := xif_f h63 hf
                refine mv_iload_n (pc := 66) B d_Book_readCode_66 rfl 0 rfl ?_
                obtain ⟨u10, g9, eg9, hf⟩ := xhb_e hf
                refine mv_callSi (pc := 67) (n := 1) B (mK_ok sk sv) hNs (ch_Book_letter l hi _ _ eg9) rfl (ma_goodc kc_Book_letter) (B.2.2.2.1 _ k_2126) (B.2.2.2.1 _ k_2127) (B.2.2.2.1 _ k_13) ⟨by decide +kernel, by decide +kernel, by decide +kernel⟩ rfl d_Book_readCode_67 rfl (Nat.le_of_ble_eq_true rfl) ⟨by decide, by decide⟩ ⟨by decide, by decide⟩ ⟨by decide, by decide⟩ (mv_noH hno _) (fun w67 σ67 h67 => ?_)
                obtain ⟨rfl, rfl, s_g9⟩ := h67
                have r_g9 : mv_r g9 = mv_r h := s_g9.trans r_g7
                refine mv_if_eq (pc := 70) (tgt := 79) B d_Book_readCode_70 rfl (fun h70 => ?_) (fun h70 => ?_)
                · skip
                  have hf := xif_t h70 hf
                  refine mv_lpick [1] rfl ?_
                  exact jn79  _ r_g9 hf
                · skip
                  have hf := xif_f h70 hf
                  refine mv_iload_n (pc := 73) B d_Book_readCode_73 rfl 0 rfl ?_
                  refine mv_bipush (pc := 74) (v := 95) B d_Book_readCode_74 (by decide) ?_
                  refine mv_icmp_ne (pc := 76) (tgt := 88) B d_Book_readCode_76 rfl (fun h76 => ?_) (fun h76 => ?_)
                  · skip
                    have hf := xif_f h76 hf
                    refine mv_lpick [1] rfl ?_
                    exact jn88  _ r_g9 hf
                  · skip
                    have hf := xif_t h76 hf
                    refine mv_lpick [1] rfl ?_
                    exact jn79  _ r_g9 hf
  unfold f_Book_readCode at hf
  refine mv_aload_n (pc := 0) B d_Book_readCode_0 rfl 0 rfl ?_
  refine mv_iconst (pc := 1) (v := 3) B d_Book_readCode_1 (by decide) ?_
  refine mv_putI (pc := 2) (ci := 12) (C := R_Book) (T := F_Book) (N := 65) B 4 rfl rfl (by decide) i_Book t_Book_ok n_Book (B.2.2.2.1 _ k_1847) rfl rfl rfl rfl d_Book_readCode_2 ?_
  refine mvh_hp (R9 := mv_r h) hf rfl (fun g11 hf r_g11 => ?_)
  refine mv_aload_n (pc := 5) B d_Book_readCode_5 rfl 0 rfl ?_
  refine mv_dup (pc := 6) B d_Book_readCode_6 rfl ?_
  refine mv_getI (pc := 7) (ci := 12) (C := R_Book) (T := F_Book) (N := 65) B 3 rfl rfl (by decide) i_Book (B.2.2.2.1 _ k_1846) rfl d_Book_readCode_7 ?_
  refine mv_iconst (pc := 10) (v := 1) B d_Book_readCode_10 (by decide) ?_
  refine mv_iadd (pc := 11) B d_Book_readCode_11 ?_
  refine mv_putI (pc := 12) (ci := 12) (C := R_Book) (T := F_Book) (N := 65) B 3 rfl rfl (by decide) i_Book t_Book_ok n_Book (B.2.2.2.1 _ k_1846) rfl rfl rfl rfl d_Book_readCode_12 ?_
  refine mvh_hp (R9 := mv_r h) hf r_g11 (fun g12 hf r_g12 => ?_)
  refine mv_lpick [0] rfl ?_
  exact lp15 _  _ r_g12 hf
set_option maxHeartbeats 4000000 in
set_option maxRecDepth 100000 in
theorem ch_Book_readCode_y (l : Launch) {dA : FieldType → ClassId} {D : va_G} {al : Nat → Nat} {ext : mv_Sh} {sk sv : Nat → Nat} (hi : mv_inj (mg dA D al ext)) (h : mv_H) (hb : Br 108 (mv_r h))  {rg : mv_H} (hf : f_Book_readCode 108 h = some rg) : mv_C l y_Book_readCode (Cond.code y_Book_readCode b_Book_readCode 2 (Option.none : Option Jvm.ClassFile.FieldType) :: ma) ({ frames := 1, cells := 0, slots := 0, locals := 21 }) (mg dA D al ext) (mK sk sv) [.ref (al 108)] h (mv_Rv (fun σ1 => rg = σ1 ∧ mv_r σ1 = mv_r h)) := by
  refine mv_C.ofV (cc := b_Book_readCode) (nL := 2) (ret := (Option.none : Option Jvm.ClassFile.FieldType)) (by decide +kernel) rfl hi (Nat.le_of_ble_eq_true rfl) ?_
  intro p e s m below meth c B hNs hr hnm hno
  have jn101 : ∀ (hz : mv_H), mv_r hz = mv_r h → f_Book_readCode_101 108  hz = some rg → mv_V p l e ({ frames := 1, cells := 0, slots := 0, locals := 21 }) s m ([.ref (al 108)] : List Value).toArray below meth c (mg dA D al ext) 2 0 0 (mv_Q (mg dA D al ext) below s 0 0 (mv_Rv (fun σ1 => rg = σ1 ∧ mv_r σ1 = mv_r h))) hz 101 [(0, .ref (al 108))] [] := by
    intro  hz r_hz hf
    unfold f_Book_readCode_101 at hf
    refine mv_aload_n (pc := 101) B d_Book_readCode_101 rfl 0 rfl ?_
    refine mv_getI (pc := 102) (ci := 12) (C := R_Book) (T := F_Book) (N := 65) B 3 rfl rfl (by decide) i_Book (B.2.2.2.1 _ k_1846) rfl d_Book_readCode_102 ?_
    refine mv_aload_n (pc := 105) B d_Book_readCode_105 rfl 0 rfl ?_
    refine mv_getI (pc := 106) (ci := 12) (C := R_Book) (T := F_Book) (N := 65) B 2 rfl rfl (by decide) i_Book (B.2.2.2.1 _ k_1845) rfl d_Book_readCode_106 ?_
    refine mv_icmp_ne (pc := 109) (tgt := 123) B d_Book_readCode_109 rfl (fun h109 => ?_) (fun h109 => ?_)
    · skip
      have hf := xif_f h109 hf
      refine mv_aload_n (pc := 123) B d_Book_readCode_123 rfl 0 rfl ?_
      refine mv_dup (pc := 124) B d_Book_readCode_124 rfl ?_
      refine mv_getI (pc := 125) (ci := 12) (C := R_Book) (T := F_Book) (N := 65) B 3 rfl rfl (by decide) i_Book (B.2.2.2.1 _ k_1846) rfl d_Book_readCode_125 ?_
      refine mv_iconst (pc := 128) (v := 1) B d_Book_readCode_128 (by decide) ?_
      refine mv_iadd (pc := 129) B d_Book_readCode_129 ?_
      refine mv_putI (pc := 130) (ci := 12) (C := R_Book) (T := F_Book) (N := 65) B 3 rfl rfl (by decide) i_Book t_Book_ok n_Book (B.2.2.2.1 _ k_1846) rfl rfl rfl rfl d_Book_readCode_130 ?_
      refine mvh_hp (R9 := mv_r h) hf r_hz (fun g1 hf r_g1 => ?_)
      exact mv_vret (pc := 133) B hr d_Book_readCode_133 (Nat.le_refl _) (Nat.le_refl _) ⟨rfl, xrh_v hf r_g1⟩
    · skip
      have hf := xif_t h109 hf
      refine mv_aload_n (pc := 112) B d_Book_readCode_112 rfl 0 rfl ?_
      refine mv_aload_n (pc := 113) B d_Book_readCode_113 rfl 0 rfl ?_
      refine mv_getI (pc := 114) (ci := 12) (C := R_Book) (T := F_Book) (N := 65) B 2 rfl rfl (by decide) i_Book (B.2.2.2.1 _ k_1845) rfl d_Book_readCode_114 ?_
      refine mv_putI (pc := 117) (ci := 12) (C := R_Book) (T := F_Book) (N := 65) B 7 rfl rfl (by decide) i_Book t_Book_ok n_Book (B.2.2.2.1 _ k_1850) rfl rfl rfl rfl d_Book_readCode_117 ?_
      refine mvh_hp (R9 := mv_r h) hf r_hz (fun g2 hf r_g2 => ?_)
      refine mv_goto (pc := 120) (tgt := 133) B d_Book_readCode_120 rfl ?_
      exact mv_vret (pc := 133) B hr d_Book_readCode_133 (Nat.le_refl _) (Nat.le_refl _) ⟨rfl, xrh_v hf r_g2⟩
  have jn79 : ∀ (hz : mv_H), mv_r hz = mv_r h → f_Book_readCode_79 108  hz = some rg → mv_V p l e ({ frames := 1, cells := 0, slots := 0, locals := 21 }) s m ([.ref (al 108)] : List Value).toArray below meth c (mg dA D al ext) 2 0 0 (mv_Q (mg dA D al ext) below s 0 0 (mv_Rv (fun σ1 => rg = σ1 ∧ mv_r σ1 = mv_r h))) hz 79 [(0, .ref (al 108))] [] := by
    intro  hz r_hz hf
    unfold f_Book_readCode_79 at hf
    refine mv_aload_n (pc := 79) B d_Book_readCode_79 rfl 0 rfl ?_
    refine mv_aload_n (pc := 80) B d_Book_readCode_80 rfl 0 rfl ?_
    refine mv_getI (pc := 81) (ci := 12) (C := R_Book) (T := F_Book) (N := 65) B 3 rfl rfl (by decide) i_Book (B.2.2.2.1 _ k_1846) rfl d_Book_readCode_81 ?_
    refine mv_putI (pc := 84) (ci := 12) (C := R_Book) (T := F_Book) (N := 65) B 7 rfl rfl (by decide) i_Book t_Book_ok n_Book (B.2.2.2.1 _ k_1850) rfl rfl rfl rfl d_Book_readCode_84 ?_
    refine mvh_hp (R9 := mv_r h) hf r_hz (fun g4 hf r_g4 => ?_)
    exact mv_vret (pc := 87) B hr d_Book_readCode_87 (Nat.le_refl _) (Nat.le_refl _) ⟨rfl, xrh_v hf r_g4⟩
  have lp15 : ∀ (nn15 : Nat) (hz : mv_H), mv_r hz = mv_r h → f_Book_readCode_15 108 nn15  hz = some rg → mv_V p l e ({ frames := 1, cells := 0, slots := 0, locals := 21 }) s m ([.ref (al 108)] : List Value).toArray below meth c (mg dA D al ext) 2 0 0 (mv_Q (mg dA D al ext) below s 0 0 (mv_Rv (fun σ1 => rg = σ1 ∧ mv_r σ1 = mv_r h))) hz 15 [(0, .ref (al 108))] [] := by
    intro nn15
    induction nn15 with
    | zero => intro  hz r_hz hf; cases hf
    | succ nn15 ih15 =>
      intro  hz r_hz hf
      have jn88 : ∀ (hz : mv_H), mv_r hz = mv_r h → f_Book_readCode_88 108 (f_Book_readCode_15 108 nn15)  hz = some rg → mv_V p l e ({ frames := 1, cells := 0, slots := 0, locals := 21 }) s m ([.ref (al 108)] : List Value).toArray below meth c (mg dA D al ext) 2 0 0 (mv_Q (mg dA D al ext) below s 0 0 (mv_Rv (fun σ1 => rg = σ1 ∧ mv_r σ1 = mv_r h))) hz 88 [(0, .ref (al 108))] [] := by
        intro  hz r_hz hf
        unfold f_Book_readCode_88 at hf
        refine mv_aload_n (pc := 88) B d_Book_readCode_88 rfl 0 rfl ?_
        refine mv_dup (pc := 89) B d_Book_readCode_89 rfl ?_
        refine mv_getI (pc := 90) (ci := 12) (C := R_Book) (T := F_Book) (N := 65) B 3 rfl rfl (by decide) i_Book (B.2.2.2.1 _ k_1846) rfl d_Book_readCode_90 ?_
        refine mv_iconst (pc := 93) (v := 1) B d_Book_readCode_93 (by decide) ?_
        refine mv_iadd (pc := 94) B d_Book_readCode_94 ?_
        refine mv_putI (pc := 95) (ci := 12) (C := R_Book) (T := F_Book) (N := 65) B 3 rfl rfl (by decide) i_Book t_Book_ok n_Book (B.2.2.2.1 _ k_1846) rfl rfl rfl rfl d_Book_readCode_95 ?_
        refine mvh_hp (R9 := mv_r h) hf r_hz (fun g3 hf r_g3 => ?_)
        refine mv_goto (pc := 98) (tgt := 15) B d_Book_readCode_98 rfl ?_
        refine mv_lpick [0] rfl ?_
        exact ih15  _ r_g3 hf
      have hf : fF_Book_readCode_15 108 (f_Book_readCode_15 108 nn15)  hz = some rg := hf
      unfold fF_Book_readCode_15 at hf
      refine mv_aload_n (pc := 15) B d_Book_readCode_15 rfl 0 rfl ?_
      refine mv_getI (pc := 16) (ci := 12) (C := R_Book) (T := F_Book) (N := 65) B 3 rfl rfl (by decide) i_Book (B.2.2.2.1 _ k_1846) rfl d_Book_readCode_16 ?_
      refine mv_aload_n (pc := 19) B d_Book_readCode_19 rfl 0 rfl ?_
      refine mv_getI (pc := 20) (ci := 12) (C := R_Book) (T := F_Book) (N := 65) B 2 rfl rfl (by decide) i_Book (B.2.2.2.1 _ k_1845) rfl d_Book_readCode_20 ?_
      refine mv_icmp_ge (pc := 23) (tgt := 101) B d_Book_readCode_23 rfl (fun h23 => ?_) (fun h23 => ?_)
      · skip
        have hf := xif_t h23 hf
        refine mv_lpick [0] rfl ?_
        exact jn101  _ r_hz hf
      · skip
        have hf := xif_f h23 hf
        refine mv_aload_n (pc := 26) B d_Book_readCode_26 rfl 0 rfl ?_
        refine mv_aload_n (pc := 27) B d_Book_readCode_27 rfl 0 rfl ?_
        refine mv_getI (pc := 28) (ci := 12) (C := R_Book) (T := F_Book) (N := 65) B 3 rfl rfl (by decide) i_Book (B.2.2.2.1 _ k_1846) rfl d_Book_readCode_28 ?_
        obtain ⟨u6, g5, eg5, hf⟩ := xhb_e hf
        refine mv_callVi (pc := 31) (n := 1) (ci := 12) (C := R_Book) B (mK_ok sk sv) hNs rfl rfl (ch_Book_look_y l hi _ (xrw r_hz hb) _ eg5) rfl (ma_goodc kc_Book_look) (B.2.2.2.1 _ k_2122) (B.2.2.2.1 _ k_2124) (B.2.2.2.1 _ ks_82) (B.2.2.2.1 _ k_13) ⟨by decide +kernel, by decide +kernel, by decide +kernel⟩ rfl d_Book_readCode_31 rfl (Nat.le_of_ble_eq_true rfl) ⟨by decide, by decide⟩ ⟨by decide, by decide⟩ ⟨by decide, by decide⟩ (mv_noH hno _) (fun w31 σ31 h31 => ?_)
        obtain ⟨rfl, rfl, s_g5⟩ := h31
        have r_g5 : mv_r g5 = mv_r h := s_g5.trans r_hz
        refine mv_bipush (pc := 34) (v := 34) B d_Book_readCode_34 (by decide) ?_
        refine mv_icmp_eq (pc := 36) (tgt := 101) B d_Book_readCode_36 rfl (fun h36 => ?_) (fun h36 => ?_)
        · skip
          have hf := xif_t h36 hf
          refine mv_lpick [0] rfl ?_
          exact jn101  _ r_g5 hf
        · skip
          have hf := xif_f h36 hf
          refine mv_aload_n (pc := 39) B d_Book_readCode_39 rfl 0 rfl ?_
          refine mv_aload_n (pc := 40) B d_Book_readCode_40 rfl 0 rfl ?_
          refine mv_getI (pc := 41) (ci := 12) (C := R_Book) (T := F_Book) (N := 65) B 3 rfl rfl (by decide) i_Book (B.2.2.2.1 _ k_1846) rfl d_Book_readCode_41 ?_
          obtain ⟨u8, g7, eg7, hf⟩ := xhb_e hf
          refine mv_callVi (pc := 44) (n := 1) (ci := 12) (C := R_Book) B (mK_ok sk sv) hNs rfl rfl (ch_Book_look_y l hi _ (xrw r_g5 hb) _ eg7) rfl (ma_goodc kc_Book_look) (B.2.2.2.1 _ k_2122) (B.2.2.2.1 _ k_2124) (B.2.2.2.1 _ ks_82) (B.2.2.2.1 _ k_13) ⟨by decide +kernel, by decide +kernel, by decide +kernel⟩ rfl d_Book_readCode_44 rfl (Nat.le_of_ble_eq_true rfl) ⟨by decide, by decide⟩ ⟨by decide, by decide⟩ ⟨by decide, by decide⟩ (mv_noH hno _) (fun w44 σ44 h44 => ?_)
          obtain ⟨rfl, rfl, s_g7⟩ := h44
          have r_g7 : mv_r g7 = mv_r h := s_g7.trans r_g5
          refine mv_istore_n (pc := 47) B d_Book_readCode_47 rfl (by decide) rfl ?_
          refine mv_iload_n (pc := 48) B d_Book_readCode_48 rfl 0 rfl ?_
          refine mv_bipush (pc := 49) (v := 48) B d_Book_readCode_49 (by decide) ?_
          refine mv_icmp_eq (pc := 51) (tgt := 88) B d_Book_readCode_51 rfl (fun h51 => ?_) (fun h51 => ?_)
          · skip
            have hf := xif_t h51 hf
            refine mv_lpick [1] rfl ?_
            exact jn88  _ r_g7 hf
          · skip
            have hf := xif_f h51 hf
            refine mv_iload_n (pc := 54) B d_Book_readCode_54 rfl 0 rfl ?_
            refine mv_bipush (pc := 55) (v := 49) B d_Book_readCode_55 (by decide) ?_
            refine mv_icmp_eq (pc := 57) (tgt := 88) B d_Book_readCode_57 rfl (fun h57 => ?_) (fun h57 => ?_)
            · skip
              have hf := xif_t h57 hf
              refine mv_lpick [1] rfl ?_
              exact jn88  _ r_g7 hf
            · skip
              have hf := xif_f h57 hf
              refine mv_iload_n (pc := 60) B d_Book_readCode_60 rfl 0 rfl ?_
              refine mv_bipush (pc := 61) (v := 46) B d_Book_readCode_61 (by decide) ?_
              refine mv_icmp_eq (pc := 63) (tgt := 88) B d_Book_readCode_63 rfl (fun h63 => ?_) (fun h63 => ?_)
              · skip
                have hf := xif_t h63 hf
                refine mv_lpick [1] rfl ?_
                exact jn88  _ r_g7 hf
              · skip
                have hf := xif_f h63 hf
                refine mv_iload_n (pc := 66) B d_Book_readCode_66 rfl 0 rfl ?_
                obtain ⟨u10, g9, eg9, hf⟩ := xhb_e hf
                refine mv_callSi (pc := 67) (n := 1) B (mK_ok sk sv) hNs (ch_Book_letter l hi _ _ eg9) rfl (ma_goodc kc_Book_letter) (B.2.2.2.1 _ k_2126) (B.2.2.2.1 _ k_2127) (B.2.2.2.1 _ k_13) ⟨by decide +kernel, by decide +kernel, by decide +kernel⟩ rfl d_Book_readCode_67 rfl (Nat.le_of_ble_eq_true rfl) ⟨by decide, by decide⟩ ⟨by decide, by decide⟩ ⟨by decide, by decide⟩ (mv_noH hno _) (fun w67 σ67 h67 => ?_)
                obtain ⟨rfl, rfl, s_g9⟩ := h67
                have r_g9 : mv_r g9 = mv_r h := s_g9.trans r_g7
                refine mv_if_eq (pc := 70) (tgt := 79) B d_Book_readCode_70 rfl (fun h70 => ?_) (fun h70 => ?_)
                · skip
                  have hf := xif_t h70 hf
                  refine mv_lpick [1] rfl ?_
                  exact jn79  _ r_g9 hf
                · skip
                  have hf := xif_f h70 hf
                  refine mv_iload_n (pc := 73) B d_Book_readCode_73 rfl 0 rfl ?_
                  refine mv_bipush (pc := 74) (v := 95) B d_Book_readCode_74 (by decide) ?_
                  refine mv_icmp_ne (pc := 76) (tgt := 88) B d_Book_readCode_76 rfl (fun h76 => ?_) (fun h76 => ?_)
                  · skip
                    have hf := xif_f h76 hf
                    refine mv_lpick [1] rfl ?_
                    exact jn88  _ r_g9 hf
                  · skip
                    have hf := xif_t h76 hf
                    refine mv_lpick [1] rfl ?_
                    exact jn79  _ r_g9 hf
  unfold f_Book_readCode at hf
  refine mv_aload_n (pc := 0) B d_Book_readCode_0 rfl 0 rfl ?_
  refine mv_iconst (pc := 1) (v := 3) B d_Book_readCode_1 (by decide) ?_
  refine mv_putI (pc := 2) (ci := 12) (C := R_Book) (T := F_Book) (N := 65) B 4 rfl rfl (by decide) i_Book t_Book_ok n_Book (B.2.2.2.1 _ k_1847) rfl rfl rfl rfl d_Book_readCode_2 ?_
  refine mvh_hp (R9 := mv_r h) hf rfl (fun g11 hf r_g11 => ?_)
  refine mv_aload_n (pc := 5) B d_Book_readCode_5 rfl 0 rfl ?_
  refine mv_dup (pc := 6) B d_Book_readCode_6 rfl ?_
  refine mv_getI (pc := 7) (ci := 12) (C := R_Book) (T := F_Book) (N := 65) B 3 rfl rfl (by decide) i_Book (B.2.2.2.1 _ k_1846) rfl d_Book_readCode_7 ?_
  refine mv_iconst (pc := 10) (v := 1) B d_Book_readCode_10 (by decide) ?_
  refine mv_iadd (pc := 11) B d_Book_readCode_11 ?_
  refine mv_putI (pc := 12) (ci := 12) (C := R_Book) (T := F_Book) (N := 65) B 3 rfl rfl (by decide) i_Book t_Book_ok n_Book (B.2.2.2.1 _ k_1846) rfl rfl rfl rfl d_Book_readCode_12 ?_
  refine mvh_hp (R9 := mv_r h) hf r_g11 (fun g12 hf r_g12 => ?_)
  refine mv_lpick [0] rfl ?_
  exact lp15 _  _ r_g12 hf
def f_Book_pair_82 (P : Nat) (hz : mv_H) : Option (Int32 × mv_H) := some ((0 : Int32), hz)
def f_Book_pair_64 (P : Nat) (x1 : Int32) (x2 : Int32) (hz : mv_H) : Option (Int32 × mv_H) := if x1 = (62 : Int32) then (if x2 = (62 : Int32) then (some ((260 : Int32), hz)) else (f_Book_pair_82 P  hz)) else (f_Book_pair_82 P  hz)
def f_Book_pair_48 (P : Nat) (x1 : Int32) (x2 : Int32) (hz : mv_H) : Option (Int32 × mv_H) := if x1 = (60 : Int32) then (if x2 = (60 : Int32) then (some ((259 : Int32), hz)) else (f_Book_pair_64 P x1 x2 hz)) else (f_Book_pair_64 P x1 x2 hz)
def f_Book_pair_32 (P : Nat) (x1 : Int32) (x2 : Int32) (hz : mv_H) : Option (Int32 × mv_H) := if x1 = (60 : Int32) then (if x2 = (61 : Int32) then (some ((258 : Int32), hz)) else (f_Book_pair_48 P x1 x2 hz)) else (f_Book_pair_48 P x1 x2 hz)
def f_Book_pair_16 (P : Nat) (x1 : Int32) (x2 : Int32) (hz : mv_H) : Option (Int32 × mv_H) := if x1 = (33 : Int32) then (if x2 = (61 : Int32) then (some ((257 : Int32), hz)) else (f_Book_pair_32 P x1 x2 hz)) else (f_Book_pair_32 P x1 x2 hz)
def f_Book_pair (P : Nat) (h : mv_H) (a0 : Int32) (a1 : Int32) : Option (Int32 × mv_H) := if a0 = (61 : Int32) then (if a1 = (61 : Int32) then (some ((256 : Int32), h)) else (f_Book_pair_16 P a0 a1 h)) else (f_Book_pair_16 P a0 a1 h)
set_option maxHeartbeats 4000000 in
set_option maxRecDepth 100000 in
theorem ch_Book_pair_x (l : Launch) {dA : FieldType → ClassId} {D : va_G} {al : Nat → Nat} {ext : mv_Sh} {sk sv : Nat → Nat} (hi : mv_inj (mg dA D al ext)) (h : mv_H)  (a0 : Int32) (a1 : Int32) {rv : Int32} {rg : mv_H} (hf : f_Book_pair 74 h a0 a1 = some (rv, rg)) : mv_C l y_Book_pair (Cond.code y_Book_pair b_Book_pair 3 (Option.some Jvm.ClassFile.FieldType.int) :: ma) ({ frames := 0, cells := 0, slots := 0, locals := 0 }) (mg dA D al ext) (mK sk sv) [.ref (al 74), .int a0, .int a1] h (mv_Ri (fun v σ1 => rv = v ∧ rg = σ1 ∧ mv_r σ1 = mv_r h)) := by
  refine mv_C.ofV (cc := b_Book_pair) (nL := 3) (ret := (Option.some Jvm.ClassFile.FieldType.int)) (by decide +kernel) rfl hi (Nat.le_of_ble_eq_true rfl) ?_
  intro p e s m below meth c B hNs hr hnm hno
  have jn82 : ∀ (hz : mv_H), mv_r hz = mv_r h → f_Book_pair_82 74  hz = some (rv, rg) → mv_V p l e ({ frames := 0, cells := 0, slots := 0, locals := 0 }) s m ([.ref (al 74), .int a0, .int a1] : List Value).toArray below meth c (mg dA D al ext) 3 0 0 (mv_Q (mg dA D al ext) below s 0 0 (mv_Ri (fun v σ1 => rv = v ∧ rg = σ1 ∧ mv_r σ1 = mv_r h))) hz 82 [] [] := by
    intro  hz r_hz hf
    unfold f_Book_pair_82 at hf
    refine mv_iconst (pc := 82) (v := 0) B d_Book_pair_82 (by decide) ?_
    exact mv_iret (pc := 83) B hr rfl d_Book_pair_83 (Nat.le_refl _) (Nat.le_refl _) ⟨_, rfl, xrh_i hf r_hz⟩
  have jn64 : ∀ (x1 : Int32) (x2 : Int32) (hz : mv_H), mv_r hz = mv_r h → f_Book_pair_64 74 x1 x2 hz = some (rv, rg) → mv_V p l e ({ frames := 0, cells := 0, slots := 0, locals := 0 }) s m ([.ref (al 74), .int a0, .int a1] : List Value).toArray below meth c (mg dA D al ext) 3 0 0 (mv_Q (mg dA D al ext) below s 0 0 (mv_Ri (fun v σ1 => rv = v ∧ rg = σ1 ∧ mv_r σ1 = mv_r h))) hz 64 [(1, .int x1), (2, .int x2)] [] := by
    intro x1 x2 hz r_hz hf
    unfold f_Book_pair_64 at hf
    refine mv_iload_n (pc := 64) B d_Book_pair_64 rfl 0 rfl ?_
    refine mv_bipush (pc := 65) (v := 62) B d_Book_pair_65 (by decide) ?_
    refine mv_icmp_ne (pc := 67) (tgt := 82) B d_Book_pair_67 rfl (fun h67 => ?_) (fun h67 => ?_)
    · skip
      have hf := xif_f h67 hf
      refine mv_lpick [] rfl ?_
      exact jn82  _ r_hz hf
    · skip
      have hf := xif_t h67 hf
      refine mv_iload_n (pc := 70) B d_Book_pair_70 rfl 1 rfl ?_
      refine mv_bipush (pc := 71) (v := 62) B d_Book_pair_71 (by decide) ?_
      refine mv_icmp_ne (pc := 73) (tgt := 82) B d_Book_pair_73 rfl (fun h73 => ?_) (fun h73 => ?_)
      · skip
        have hf := xif_f h73 hf
        refine mv_lpick [] rfl ?_
        exact jn82  _ r_hz hf
      · skip
        have hf := xif_t h73 hf
        refine mv_sipush (pc := 76) (v := 260) B d_Book_pair_76 (by decide) ?_
        refine mv_goto (pc := 79) (tgt := 83) B d_Book_pair_79 rfl ?_
        exact mv_iret (pc := 83) B hr rfl d_Book_pair_83 (Nat.le_refl _) (Nat.le_refl _) ⟨_, rfl, xrh_i hf r_hz⟩
  have jn48 : ∀ (x1 : Int32) (x2 : Int32) (hz : mv_H), mv_r hz = mv_r h → f_Book_pair_48 74 x1 x2 hz = some (rv, rg) → mv_V p l e ({ frames := 0, cells := 0, slots := 0, locals := 0 }) s m ([.ref (al 74), .int a0, .int a1] : List Value).toArray below meth c (mg dA D al ext) 3 0 0 (mv_Q (mg dA D al ext) below s 0 0 (mv_Ri (fun v σ1 => rv = v ∧ rg = σ1 ∧ mv_r σ1 = mv_r h))) hz 48 [(1, .int x1), (2, .int x2)] [] := by
    intro x1 x2 hz r_hz hf
    unfold f_Book_pair_48 at hf
    refine mv_iload_n (pc := 48) B d_Book_pair_48 rfl 0 rfl ?_
    refine mv_bipush (pc := 49) (v := 60) B d_Book_pair_49 (by decide) ?_
    refine mv_icmp_ne (pc := 51) (tgt := 64) B d_Book_pair_51 rfl (fun h51 => ?_) (fun h51 => ?_)
    · skip
      have hf := xif_f h51 hf
      refine mv_lpick [0, 1] rfl ?_
      exact jn64 _ _ _ r_hz hf
    · skip
      have hf := xif_t h51 hf
      refine mv_iload_n (pc := 54) B d_Book_pair_54 rfl 1 rfl ?_
      refine mv_bipush (pc := 55) (v := 60) B d_Book_pair_55 (by decide) ?_
      refine mv_icmp_ne (pc := 57) (tgt := 64) B d_Book_pair_57 rfl (fun h57 => ?_) (fun h57 => ?_)
      · skip
        have hf := xif_f h57 hf
        refine mv_lpick [0, 1] rfl ?_
        exact jn64 _ _ _ r_hz hf
      · skip
        have hf := xif_t h57 hf
        refine mv_sipush (pc := 60) (v := 259) B d_Book_pair_60 (by decide) ?_
        exact mv_iret (pc := 63) B hr rfl d_Book_pair_63 (Nat.le_refl _) (Nat.le_refl _) ⟨_, rfl, xrh_i hf r_hz⟩
  have jn32 : ∀ (x1 : Int32) (x2 : Int32) (hz : mv_H), mv_r hz = mv_r h → f_Book_pair_32 74 x1 x2 hz = some (rv, rg) → mv_V p l e ({ frames := 0, cells := 0, slots := 0, locals := 0 }) s m ([.ref (al 74), .int a0, .int a1] : List Value).toArray below meth c (mg dA D al ext) 3 0 0 (mv_Q (mg dA D al ext) below s 0 0 (mv_Ri (fun v σ1 => rv = v ∧ rg = σ1 ∧ mv_r σ1 = mv_r h))) hz 32 [(1, .int x1), (2, .int x2)] [] := by
    intro x1 x2 hz r_hz hf
    unfold f_Book_pair_32 at hf
    refine mv_iload_n (pc := 32) B d_Book_pair_32 rfl 0 rfl ?_
    refine mv_bipush (pc := 33) (v := 60) B d_Book_pair_33 (by decide) ?_
    refine mv_icmp_ne (pc := 35) (tgt := 48) B d_Book_pair_35 rfl (fun h35 => ?_) (fun h35 => ?_)
    · skip
      have hf := xif_f h35 hf
      refine mv_lpick [0, 1] rfl ?_
      exact jn48 _ _ _ r_hz hf
    · skip
      have hf := xif_t h35 hf
      refine mv_iload_n (pc := 38) B d_Book_pair_38 rfl 1 rfl ?_
      refine mv_bipush (pc := 39) (v := 61) B d_Book_pair_39 (by decide) ?_
      refine mv_icmp_ne (pc := 41) (tgt := 48) B d_Book_pair_41 rfl (fun h41 => ?_) (fun h41 => ?_)
      · skip
        have hf := xif_f h41 hf
        refine mv_lpick [0, 1] rfl ?_
        exact jn48 _ _ _ r_hz hf
      · skip
        have hf := xif_t h41 hf
        refine mv_sipush (pc := 44) (v := 258) B d_Book_pair_44 (by decide) ?_
        exact mv_iret (pc := 47) B hr rfl d_Book_pair_47 (Nat.le_refl _) (Nat.le_refl _) ⟨_, rfl, xrh_i hf r_hz⟩
  have jn16 : ∀ (x1 : Int32) (x2 : Int32) (hz : mv_H), mv_r hz = mv_r h → f_Book_pair_16 74 x1 x2 hz = some (rv, rg) → mv_V p l e ({ frames := 0, cells := 0, slots := 0, locals := 0 }) s m ([.ref (al 74), .int a0, .int a1] : List Value).toArray below meth c (mg dA D al ext) 3 0 0 (mv_Q (mg dA D al ext) below s 0 0 (mv_Ri (fun v σ1 => rv = v ∧ rg = σ1 ∧ mv_r σ1 = mv_r h))) hz 16 [(1, .int x1), (2, .int x2)] [] := by
    intro x1 x2 hz r_hz hf
    unfold f_Book_pair_16 at hf
    refine mv_iload_n (pc := 16) B d_Book_pair_16 rfl 0 rfl ?_
    refine mv_bipush (pc := 17) (v := 33) B d_Book_pair_17 (by decide) ?_
    refine mv_icmp_ne (pc := 19) (tgt := 32) B d_Book_pair_19 rfl (fun h19 => ?_) (fun h19 => ?_)
    · skip
      have hf := xif_f h19 hf
      refine mv_lpick [0, 1] rfl ?_
      exact jn32 _ _ _ r_hz hf
    · skip
      have hf := xif_t h19 hf
      refine mv_iload_n (pc := 22) B d_Book_pair_22 rfl 1 rfl ?_
      refine mv_bipush (pc := 23) (v := 61) B d_Book_pair_23 (by decide) ?_
      refine mv_icmp_ne (pc := 25) (tgt := 32) B d_Book_pair_25 rfl (fun h25 => ?_) (fun h25 => ?_)
      · skip
        have hf := xif_f h25 hf
        refine mv_lpick [0, 1] rfl ?_
        exact jn32 _ _ _ r_hz hf
      · skip
        have hf := xif_t h25 hf
        refine mv_sipush (pc := 28) (v := 257) B d_Book_pair_28 (by decide) ?_
        exact mv_iret (pc := 31) B hr rfl d_Book_pair_31 (Nat.le_refl _) (Nat.le_refl _) ⟨_, rfl, xrh_i hf r_hz⟩
  unfold f_Book_pair at hf
  refine mv_iload_n (pc := 0) B d_Book_pair_0 rfl 1 rfl ?_
  refine mv_bipush (pc := 1) (v := 61) B d_Book_pair_1 (by decide) ?_
  refine mv_icmp_ne (pc := 3) (tgt := 16) B d_Book_pair_3 rfl (fun h3 => ?_) (fun h3 => ?_)
  · skip
    have hf := xif_f h3 hf
    refine mv_lpick [1, 2] rfl ?_
    exact jn16 _ _ _ rfl hf
  · skip
    have hf := xif_t h3 hf
    refine mv_iload_n (pc := 6) B d_Book_pair_6 rfl 2 rfl ?_
    refine mv_bipush (pc := 7) (v := 61) B d_Book_pair_7 (by decide) ?_
    refine mv_icmp_ne (pc := 9) (tgt := 16) B d_Book_pair_9 rfl (fun h9 => ?_) (fun h9 => ?_)
    · skip
      have hf := xif_f h9 hf
      refine mv_lpick [1, 2] rfl ?_
      exact jn16 _ _ _ rfl hf
    · skip
      have hf := xif_t h9 hf
      refine mv_sipush (pc := 12) (v := 256) B d_Book_pair_12 (by decide) ?_
      exact mv_iret (pc := 15) B hr rfl d_Book_pair_15 (Nat.le_refl _) (Nat.le_refl _) ⟨_, rfl, xrh_i hf rfl⟩
set_option maxHeartbeats 4000000 in
set_option maxRecDepth 100000 in
theorem ch_Book_pair_y (l : Launch) {dA : FieldType → ClassId} {D : va_G} {al : Nat → Nat} {ext : mv_Sh} {sk sv : Nat → Nat} (hi : mv_inj (mg dA D al ext)) (h : mv_H)  (a0 : Int32) (a1 : Int32) {rv : Int32} {rg : mv_H} (hf : f_Book_pair 108 h a0 a1 = some (rv, rg)) : mv_C l y_Book_pair (Cond.code y_Book_pair b_Book_pair 3 (Option.some Jvm.ClassFile.FieldType.int) :: ma) ({ frames := 0, cells := 0, slots := 0, locals := 0 }) (mg dA D al ext) (mK sk sv) [.ref (al 108), .int a0, .int a1] h (mv_Ri (fun v σ1 => rv = v ∧ rg = σ1 ∧ mv_r σ1 = mv_r h)) := by
  refine mv_C.ofV (cc := b_Book_pair) (nL := 3) (ret := (Option.some Jvm.ClassFile.FieldType.int)) (by decide +kernel) rfl hi (Nat.le_of_ble_eq_true rfl) ?_
  intro p e s m below meth c B hNs hr hnm hno
  have jn82 : ∀ (hz : mv_H), mv_r hz = mv_r h → f_Book_pair_82 108  hz = some (rv, rg) → mv_V p l e ({ frames := 0, cells := 0, slots := 0, locals := 0 }) s m ([.ref (al 108), .int a0, .int a1] : List Value).toArray below meth c (mg dA D al ext) 3 0 0 (mv_Q (mg dA D al ext) below s 0 0 (mv_Ri (fun v σ1 => rv = v ∧ rg = σ1 ∧ mv_r σ1 = mv_r h))) hz 82 [] [] := by
    intro  hz r_hz hf
    unfold f_Book_pair_82 at hf
    refine mv_iconst (pc := 82) (v := 0) B d_Book_pair_82 (by decide) ?_
    exact mv_iret (pc := 83) B hr rfl d_Book_pair_83 (Nat.le_refl _) (Nat.le_refl _) ⟨_, rfl, xrh_i hf r_hz⟩
  have jn64 : ∀ (x1 : Int32) (x2 : Int32) (hz : mv_H), mv_r hz = mv_r h → f_Book_pair_64 108 x1 x2 hz = some (rv, rg) → mv_V p l e ({ frames := 0, cells := 0, slots := 0, locals := 0 }) s m ([.ref (al 108), .int a0, .int a1] : List Value).toArray below meth c (mg dA D al ext) 3 0 0 (mv_Q (mg dA D al ext) below s 0 0 (mv_Ri (fun v σ1 => rv = v ∧ rg = σ1 ∧ mv_r σ1 = mv_r h))) hz 64 [(1, .int x1), (2, .int x2)] [] := by
    intro x1 x2 hz r_hz hf
    unfold f_Book_pair_64 at hf
    refine mv_iload_n (pc := 64) B d_Book_pair_64 rfl 0 rfl ?_
    refine mv_bipush (pc := 65) (v := 62) B d_Book_pair_65 (by decide) ?_
    refine mv_icmp_ne (pc := 67) (tgt := 82) B d_Book_pair_67 rfl (fun h67 => ?_) (fun h67 => ?_)
    · skip
      have hf := xif_f h67 hf
      refine mv_lpick [] rfl ?_
      exact jn82  _ r_hz hf
    · skip
      have hf := xif_t h67 hf
      refine mv_iload_n (pc := 70) B d_Book_pair_70 rfl 1 rfl ?_
      refine mv_bipush (pc := 71) (v := 62) B d_Book_pair_71 (by decide) ?_
      refine mv_icmp_ne (pc := 73) (tgt := 82) B d_Book_pair_73 rfl (fun h73 => ?_) (fun h73 => ?_)
      · skip
        have hf := xif_f h73 hf
        refine mv_lpick [] rfl ?_
        exact jn82  _ r_hz hf
      · skip
        have hf := xif_t h73 hf
        refine mv_sipush (pc := 76) (v := 260) B d_Book_pair_76 (by decide) ?_
        refine mv_goto (pc := 79) (tgt := 83) B d_Book_pair_79 rfl ?_
        exact mv_iret (pc := 83) B hr rfl d_Book_pair_83 (Nat.le_refl _) (Nat.le_refl _) ⟨_, rfl, xrh_i hf r_hz⟩
  have jn48 : ∀ (x1 : Int32) (x2 : Int32) (hz : mv_H), mv_r hz = mv_r h → f_Book_pair_48 108 x1 x2 hz = some (rv, rg) → mv_V p l e ({ frames := 0, cells := 0, slots := 0, locals := 0 }) s m ([.ref (al 108), .int a0, .int a1] : List Value).toArray below meth c (mg dA D al ext) 3 0 0 (mv_Q (mg dA D al ext) below s 0 0 (mv_Ri (fun v σ1 => rv = v ∧ rg = σ1 ∧ mv_r σ1 = mv_r h))) hz 48 [(1, .int x1), (2, .int x2)] [] := by
    intro x1 x2 hz r_hz hf
    unfold f_Book_pair_48 at hf
    refine mv_iload_n (pc := 48) B d_Book_pair_48 rfl 0 rfl ?_
    refine mv_bipush (pc := 49) (v := 60) B d_Book_pair_49 (by decide) ?_
    refine mv_icmp_ne (pc := 51) (tgt := 64) B d_Book_pair_51 rfl (fun h51 => ?_) (fun h51 => ?_)
    · skip
      have hf := xif_f h51 hf
      refine mv_lpick [0, 1] rfl ?_
      exact jn64 _ _ _ r_hz hf
    · skip
      have hf := xif_t h51 hf
      refine mv_iload_n (pc := 54) B d_Book_pair_54 rfl 1 rfl ?_
      refine mv_bipush (pc := 55) (v := 60) B d_Book_pair_55 (by decide) ?_
      refine mv_icmp_ne (pc := 57) (tgt := 64) B d_Book_pair_57 rfl (fun h57 => ?_) (fun h57 => ?_)
      · skip
        have hf := xif_f h57 hf
        refine mv_lpick [0, 1] rfl ?_
        exact jn64 _ _ _ r_hz hf
      · skip
        have hf := xif_t h57 hf
        refine mv_sipush (pc := 60) (v := 259) B d_Book_pair_60 (by decide) ?_
        exact mv_iret (pc := 63) B hr rfl d_Book_pair_63 (Nat.le_refl _) (Nat.le_refl _) ⟨_, rfl, xrh_i hf r_hz⟩
  have jn32 : ∀ (x1 : Int32) (x2 : Int32) (hz : mv_H), mv_r hz = mv_r h → f_Book_pair_32 108 x1 x2 hz = some (rv, rg) → mv_V p l e ({ frames := 0, cells := 0, slots := 0, locals := 0 }) s m ([.ref (al 108), .int a0, .int a1] : List Value).toArray below meth c (mg dA D al ext) 3 0 0 (mv_Q (mg dA D al ext) below s 0 0 (mv_Ri (fun v σ1 => rv = v ∧ rg = σ1 ∧ mv_r σ1 = mv_r h))) hz 32 [(1, .int x1), (2, .int x2)] [] := by
    intro x1 x2 hz r_hz hf
    unfold f_Book_pair_32 at hf
    refine mv_iload_n (pc := 32) B d_Book_pair_32 rfl 0 rfl ?_
    refine mv_bipush (pc := 33) (v := 60) B d_Book_pair_33 (by decide) ?_
    refine mv_icmp_ne (pc := 35) (tgt := 48) B d_Book_pair_35 rfl (fun h35 => ?_) (fun h35 => ?_)
    · skip
      have hf := xif_f h35 hf
      refine mv_lpick [0, 1] rfl ?_
      exact jn48 _ _ _ r_hz hf
    · skip
      have hf := xif_t h35 hf
      refine mv_iload_n (pc := 38) B d_Book_pair_38 rfl 1 rfl ?_
      refine mv_bipush (pc := 39) (v := 61) B d_Book_pair_39 (by decide) ?_
      refine mv_icmp_ne (pc := 41) (tgt := 48) B d_Book_pair_41 rfl (fun h41 => ?_) (fun h41 => ?_)
      · skip
        have hf := xif_f h41 hf
        refine mv_lpick [0, 1] rfl ?_
        exact jn48 _ _ _ r_hz hf
      · skip
        have hf := xif_t h41 hf
        refine mv_sipush (pc := 44) (v := 258) B d_Book_pair_44 (by decide) ?_
        exact mv_iret (pc := 47) B hr rfl d_Book_pair_47 (Nat.le_refl _) (Nat.le_refl _) ⟨_, rfl, xrh_i hf r_hz⟩
  have jn16 : ∀ (x1 : Int32) (x2 : Int32) (hz : mv_H), mv_r hz = mv_r h → f_Book_pair_16 108 x1 x2 hz = some (rv, rg) → mv_V p l e ({ frames := 0, cells := 0, slots := 0, locals := 0 }) s m ([.ref (al 108), .int a0, .int a1] : List Value).toArray below meth c (mg dA D al ext) 3 0 0 (mv_Q (mg dA D al ext) below s 0 0 (mv_Ri (fun v σ1 => rv = v ∧ rg = σ1 ∧ mv_r σ1 = mv_r h))) hz 16 [(1, .int x1), (2, .int x2)] [] := by
    intro x1 x2 hz r_hz hf
    unfold f_Book_pair_16 at hf
    refine mv_iload_n (pc := 16) B d_Book_pair_16 rfl 0 rfl ?_
    refine mv_bipush (pc := 17) (v := 33) B d_Book_pair_17 (by decide) ?_
    refine mv_icmp_ne (pc := 19) (tgt := 32) B d_Book_pair_19 rfl (fun h19 => ?_) (fun h19 => ?_)
    · skip
      have hf := xif_f h19 hf
      refine mv_lpick [0, 1] rfl ?_
      exact jn32 _ _ _ r_hz hf
    · skip
      have hf := xif_t h19 hf
      refine mv_iload_n (pc := 22) B d_Book_pair_22 rfl 1 rfl ?_
      refine mv_bipush (pc := 23) (v := 61) B d_Book_pair_23 (by decide) ?_
      refine mv_icmp_ne (pc := 25) (tgt := 32) B d_Book_pair_25 rfl (fun h25 => ?_) (fun h25 => ?_)
      · skip
        have hf := xif_f h25 hf
        refine mv_lpick [0, 1] rfl ?_
        exact jn32 _ _ _ r_hz hf
      · skip
        have hf := xif_t h25 hf
        refine mv_sipush (pc := 28) (v := 257) B d_Book_pair_28 (by decide) ?_
        exact mv_iret (pc := 31) B hr rfl d_Book_pair_31 (Nat.le_refl _) (Nat.le_refl _) ⟨_, rfl, xrh_i hf r_hz⟩
  unfold f_Book_pair at hf
  refine mv_iload_n (pc := 0) B d_Book_pair_0 rfl 1 rfl ?_
  refine mv_bipush (pc := 1) (v := 61) B d_Book_pair_1 (by decide) ?_
  refine mv_icmp_ne (pc := 3) (tgt := 16) B d_Book_pair_3 rfl (fun h3 => ?_) (fun h3 => ?_)
  · skip
    have hf := xif_f h3 hf
    refine mv_lpick [1, 2] rfl ?_
    exact jn16 _ _ _ rfl hf
  · skip
    have hf := xif_t h3 hf
    refine mv_iload_n (pc := 6) B d_Book_pair_6 rfl 2 rfl ?_
    refine mv_bipush (pc := 7) (v := 61) B d_Book_pair_7 (by decide) ?_
    refine mv_icmp_ne (pc := 9) (tgt := 16) B d_Book_pair_9 rfl (fun h9 => ?_) (fun h9 => ?_)
    · skip
      have hf := xif_f h9 hf
      refine mv_lpick [1, 2] rfl ?_
      exact jn16 _ _ _ rfl hf
    · skip
      have hf := xif_t h9 hf
      refine mv_sipush (pc := 12) (v := 256) B d_Book_pair_12 (by decide) ?_
      exact mv_iret (pc := 15) B hr rfl d_Book_pair_15 (Nat.le_refl _) (Nat.le_refl _) ⟨_, rfl, xrh_i hf rfl⟩
def f_Book_next_260 (P : Nat) (hz : mv_H) : Option (Option Int32 × mv_H) := xk (mv_si hz P 6 (mv_i hz P 3)) fun g1 => if (mv_i g1 P 7) < (0 : Int32) then (some (some 0, g1)) else (xk (mv_si g1 (P + 33) 0 (mv_i g1 P 7)) fun g2 => some (none, g2))
def f_Book_next_78 (P : Nat) (k50 : mv_H → Option (Option Int32 × mv_H)) (hz : mv_H) : Option (Option Int32 × mv_H) := xk (mv_si hz P 3 ((mv_i hz P 3) + (1 : Int32))) fun g3 => k50  g3
def fF_Book_next_50 (P : Nat) (k50 : mv_H → Option (Option Int32 × mv_H)) (hz : mv_H) : Option (Option Int32 × mv_H) := xhb (f_Book_look P hz (mv_i hz P 3)) fun u5 g4 => xhb (f_Book_letter g4 u5) fun u7 g6 => if u7 = (0 : Int32) then (xhb (f_Book_look P g6 (mv_i g6 P 3)) fun u9 g8 => xhb (f_Book_digit g8 u9) fun u11 g10 => if u11 = (0 : Int32) then (if ((mv_i g10 P 3) - (mv_i g10 P 5)) ≤ (32 : Int32) then (f_Book_next_260 P  g10) else (xk (mv_si g10 P 7 ((mv_i g10 P 5) + (32 : Int32))) fun g12 => f_Book_next_260 P  g12)) else (f_Book_next_78 P k50  g10)) else (f_Book_next_78 P k50  g6)
def f_Book_next_50 (P : Nat) : Nat → mv_H → Option (Option Int32 × mv_H)
  | 0 => fun  _ => none
  | nn + 1 => fF_Book_next_50 P (f_Book_next_50 P nn)
def f_Book_next (P : Nat) (h : mv_H) : Option (Option Int32 × mv_H) := xhv (f_Book_skip P h) fun g13 => xk (mv_si g13 P 5 (mv_i g13 P 3)) fun g15 => xk (mv_si g15 P 7 (-1 : Int32)) fun g16 => xhb (f_Book_look P g16 (mv_i g16 P 3)) fun u18 g17 => if (0 : Int32) ≤ u18 then (xhb (f_Book_letter g17 u18) fun u20 g19 => if u20 = (0 : Int32) then (xhb (f_Book_digit g19 u18) fun u22 g21 => if u22 = (0 : Int32) then (if u18 = (34 : Int32) then (xhv (f_Book_readCode P g21) fun g41 => f_Book_next_260 P  g41) else (xhb (f_Book_look P g21 ((mv_i g21 P 3) + (1 : Int32))) fun u24 g23 => xhb (f_Book_pair P g23 u18 u24) fun u26 g25 => if u26 ≤ (0 : Int32) then (if u18 = (62 : Int32) then (xk (mv_si g25 P 4 (260 : Int32)) fun g32 => xk (mv_si g32 P 3 ((mv_i g32 P 3) + (1 : Int32))) fun g33 => xk (mv_si g33 P 7 (mv_i g33 P 3)) fun g34 => f_Book_next_260 P  g34) else (xhb (f_Book_sign g25 u18) fun u28 g27 => if u28 = (0 : Int32) then (xk (mv_si g27 P 4 (-1 : Int32)) fun g29 => f_Book_next_260 P  g29) else (xk (mv_si g27 P 4 u18) fun g30 => xk (mv_si g30 P 3 ((mv_i g30 P 3) + (1 : Int32))) fun g31 => f_Book_next_260 P  g31))) else (xhb (f_Book_look P g25 ((mv_i g25 P 3) + (1 : Int32))) fun u36 g35 => xhb (f_Book_pair P g35 u18 u36) fun u38 g37 => xk (mv_si g37 P 4 u38) fun g39 => xk (mv_si g39 P 3 ((mv_i g39 P 3) + (2 : Int32))) fun g40 => f_Book_next_260 P  g40))) else (xhv (f_Book_readNumber P g21) fun g43 => f_Book_next_260 P  g43)) else (xk (mv_si g19 P 4 (1 : Int32)) fun g45 => f_Book_next_50 P 200000  g45)) else (xk (mv_si g17 P 4 (0 : Int32)) fun g46 => f_Book_next_260 P  g46)
set_option maxHeartbeats 4000000 in
set_option maxRecDepth 100000 in
theorem ch_Book_next_x (l : Launch) {dA : FieldType → ClassId} {D : va_G} {al : Nat → Nat} {ext : mv_Sh} {sk sv : Nat → Nat} (hi : mv_inj (mg dA D al ext)) (h : mv_H) (hb : Br 74 (mv_r h))  {rv : Option Int32} {rg : mv_H} (hf : f_Book_next 74 h = some (rv, rg)) : mv_C l y_Book_next (Cond.code y_Book_next b_Book_next 2 (Option.none : Option Jvm.ClassFile.FieldType) :: ma) ({ frames := 3, cells := 0, slots := 0, locals := 64 }) (mg dA D al ext) (mK sk sv) [.ref (al 74)] h (mv_Uv (fun σ1 => rv = some 0 ∧ rg = σ1 ∧ mv_r σ1 = mv_r h) ("MachineLoomModel$Book$Wrong", al 107) (fun σ1 => rv = none ∧ rg = σ1 ∧ mv_r σ1 = mv_r h)) := by
  refine mv_C.ofV (cc := b_Book_next) (nL := 2) (ret := (Option.none : Option Jvm.ClassFile.FieldType)) (by decide +kernel) rfl hi (Nat.le_of_ble_eq_true rfl) ?_
  intro p e s m below meth c B hNs hr hnm hno
  have jn260 : ∀ (hz : mv_H), mv_r hz = mv_r h → f_Book_next_260 74  hz = some (rv, rg) → mv_V p l e ({ frames := 3, cells := 0, slots := 0, locals := 64 }) s m ([.ref (al 74)] : List Value).toArray below meth c (mg dA D al ext) 2 0 0 (mv_Q (mg dA D al ext) below s 0 0 (mv_Uv (fun σ1 => rv = some 0 ∧ rg = σ1 ∧ mv_r σ1 = mv_r h) ("MachineLoomModel$Book$Wrong", al 107) (fun σ1 => rv = none ∧ rg = σ1 ∧ mv_r σ1 = mv_r h))) hz 260 [(0, .ref (al 74))] [] := by
    intro  hz r_hz hf
    unfold f_Book_next_260 at hf
    refine mv_aload_n (pc := 260) B d_Book_next_260 rfl 0 rfl ?_
    refine mv_aload_n (pc := 261) B d_Book_next_261 rfl 0 rfl ?_
    refine mv_getI (pc := 262) (ci := 12) (C := R_Book) (T := F_Book) (N := 65) B 3 rfl rfl (by decide) i_Book (B.2.2.2.1 _ k_1846) rfl d_Book_next_262 ?_
    refine mv_putI (pc := 265) (ci := 12) (C := R_Book) (T := F_Book) (N := 65) B 6 rfl rfl (by decide) i_Book t_Book_ok n_Book (B.2.2.2.1 _ k_1849) rfl rfl rfl rfl d_Book_next_265 ?_
    refine mvh_hp (R9 := mv_r h) hf r_hz (fun g1 hf r_g1 => ?_)
    refine mv_aload_n (pc := 268) B d_Book_next_268 rfl 0 rfl ?_
    refine mv_getI (pc := 269) (ci := 12) (C := R_Book) (T := F_Book) (N := 65) B 7 rfl rfl (by decide) i_Book (B.2.2.2.1 _ k_1850) rfl d_Book_next_269 ?_
    refine mv_if_lt (pc := 272) (tgt := 284) B d_Book_next_272 rfl (fun h272 => ?_) (fun h272 => ?_)
    · skip
      have hf := xif_t h272 hf
      exact mv_vret (pc := 284) B hr d_Book_next_284 (Nat.le_refl _) (Nat.le_refl _) (Or.inl ⟨rfl, xrt_i hf r_g1⟩)
    · skip
      have hf := xif_f h272 hf
      refine mv_aload_n (pc := 275) B d_Book_next_275 rfl 0 rfl ?_
      refine mv_aload_n (pc := 276) B d_Book_next_276 rfl 0 rfl ?_
      refine mv_getI (pc := 277) (ci := 12) (C := R_Book) (T := F_Book) (N := 65) B 7 rfl rfl (by decide) i_Book (B.2.2.2.1 _ k_1850) rfl d_Book_next_277 ?_
      refine mv_callVr (pc := 280) (n := 1) (ci := 12) (C := R_Book) B (mK_ok sk sv) hNs rfl rfl (c_Book_wrongAt_x l hi _ _ (xrw r_g1 hb)) rfl (ma_goodc kc_Book_wrongAt) (B.2.2.2.1 _ k_2154) (B.2.2.2.1 _ k_2156) (B.2.2.2.1 _ ks_86) (B.2.2.2.1 _ k_13) ⟨by decide +kernel, by decide +kernel, by decide +kernel⟩ rfl d_Book_next_280 rfl (Nat.le_of_ble_eq_true rfl) ⟨by decide, by decide⟩ ⟨by decide, by decide⟩ ⟨by decide, by decide⟩ (mv_noH hno _) (fun σ280 h280 => ?_)
      obtain ⟨-, h280⟩ := h280
      subst h280
      refine mvh_hp (R9 := mv_r h) hf r_g1 (fun g2 hf r_g2 => ?_)
      exact mv_athrowO (pc := 283) (o := 107) B rfl rfl (mv_noH hno _) d_Book_next_283 (Nat.le_refl _) (Nat.le_refl _) (Or.inr ⟨rfl, xrt_t hf r_g2⟩)
  have lp50 : ∀ (nn50 : Nat) (hz : mv_H), mv_r hz = mv_r h → f_Book_next_50 74 nn50  hz = some (rv, rg) → mv_V p l e ({ frames := 3, cells := 0, slots := 0, locals := 64 }) s m ([.ref (al 74)] : List Value).toArray below meth c (mg dA D al ext) 2 0 0 (mv_Q (mg dA D al ext) below s 0 0 (mv_Uv (fun σ1 => rv = some 0 ∧ rg = σ1 ∧ mv_r σ1 = mv_r h) ("MachineLoomModel$Book$Wrong", al 107) (fun σ1 => rv = none ∧ rg = σ1 ∧ mv_r σ1 = mv_r h))) hz 50 [(0, .ref (al 74))] [] := by
    intro nn50
    induction nn50 with
    | zero => intro  hz r_hz hf; cases hf
    | succ nn50 ih50 =>
      intro  hz r_hz hf
      have jn78 : ∀ (hz : mv_H), mv_r hz = mv_r h → f_Book_next_78 74 (f_Book_next_50 74 nn50)  hz = some (rv, rg) → mv_V p l e ({ frames := 3, cells := 0, slots := 0, locals := 64 }) s m ([.ref (al 74)] : List Value).toArray below meth c (mg dA D al ext) 2 0 0 (mv_Q (mg dA D al ext) below s 0 0 (mv_Uv (fun σ1 => rv = some 0 ∧ rg = σ1 ∧ mv_r σ1 = mv_r h) ("MachineLoomModel$Book$Wrong", al 107) (fun σ1 => rv = none ∧ rg = σ1 ∧ mv_r σ1 = mv_r h))) hz 78 [(0, .ref (al 74))] [] := by
        intro  hz r_hz hf
        unfold f_Book_next_78 at hf
        refine mv_aload_n (pc := 78) B d_Book_next_78 rfl 0 rfl ?_
        refine mv_dup (pc := 79) B d_Book_next_79 rfl ?_
        refine mv_getI (pc := 80) (ci := 12) (C := R_Book) (T := F_Book) (N := 65) B 3 rfl rfl (by decide) i_Book (B.2.2.2.1 _ k_1846) rfl d_Book_next_80 ?_
        refine mv_iconst (pc := 83) (v := 1) B d_Book_next_83 (by decide) ?_
        refine mv_iadd (pc := 84) B d_Book_next_84 ?_
        refine mv_putI (pc := 85) (ci := 12) (C := R_Book) (T := F_Book) (N := 65) B 3 rfl rfl (by decide) i_Book t_Book_ok n_Book (B.2.2.2.1 _ k_1846) rfl rfl rfl rfl d_Book_next_85 ?_
        refine mvh_hp (R9 := mv_r h) hf r_hz (fun g3 hf r_g3 => ?_)
        refine mv_goto (pc := 88) (tgt := 50) B d_Book_next_88 rfl ?_
        refine mv_lpick [0] rfl ?_
        exact ih50  _ r_g3 hf
      have hf : fF_Book_next_50 74 (f_Book_next_50 74 nn50)  hz = some (rv, rg) := hf
      unfold fF_Book_next_50 at hf
      refine mv_aload_n (pc := 50) B d_Book_next_50 rfl 0 rfl ?_
      refine mv_aload_n (pc := 51) B d_Book_next_51 rfl 0 rfl ?_
      refine mv_getI (pc := 52) (ci := 12) (C := R_Book) (T := F_Book) (N := 65) B 3 rfl rfl (by decide) i_Book (B.2.2.2.1 _ k_1846) rfl d_Book_next_52 ?_
      obtain ⟨u5, g4, eg4, hf⟩ := xhb_e hf
      refine mv_callVi (pc := 55) (n := 1) (ci := 12) (C := R_Book) B (mK_ok sk sv) hNs rfl rfl (ch_Book_look_x l hi _ (xrw r_hz hb) _ eg4) rfl (ma_goodc kc_Book_look) (B.2.2.2.1 _ k_2122) (B.2.2.2.1 _ k_2124) (B.2.2.2.1 _ ks_82) (B.2.2.2.1 _ k_13) ⟨by decide +kernel, by decide +kernel, by decide +kernel⟩ rfl d_Book_next_55 rfl (Nat.le_of_ble_eq_true rfl) ⟨by decide, by decide⟩ ⟨by decide, by decide⟩ ⟨by decide, by decide⟩ (mv_noH hno _) (fun w55 σ55 h55 => ?_)
      obtain ⟨rfl, rfl, s_g4⟩ := h55
      have r_g4 : mv_r g4 = mv_r h := s_g4.trans r_hz
      obtain ⟨u7, g6, eg6, hf⟩ := xhb_e hf
      refine mv_callSi (pc := 58) (n := 1) B (mK_ok sk sv) hNs (ch_Book_letter l hi _ _ eg6) rfl (ma_goodc kc_Book_letter) (B.2.2.2.1 _ k_2126) (B.2.2.2.1 _ k_2127) (B.2.2.2.1 _ k_13) ⟨by decide +kernel, by decide +kernel, by decide +kernel⟩ rfl d_Book_next_58 rfl (Nat.le_of_ble_eq_true rfl) ⟨by decide, by decide⟩ ⟨by decide, by decide⟩ ⟨by decide, by decide⟩ (mv_noH hno _) (fun w58 σ58 h58 => ?_)
      obtain ⟨rfl, rfl, s_g6⟩ := h58
      have r_g6 : mv_r g6 = mv_r h := s_g6.trans r_g4
      refine mv_if_ne (pc := 61) (tgt := 78) B d_Book_next_61 rfl (fun h61 => ?_) (fun h61 => ?_)
      · skip
        have hf := xif_f h61 hf
        refine mv_lpick [0] rfl ?_
        exact jn78  _ r_g6 hf
      · skip
        have hf := xif_t h61 hf
        refine mv_aload_n (pc := 64) B d_Book_next_64 rfl 0 rfl ?_
        refine mv_aload_n (pc := 65) B d_Book_next_65 rfl 0 rfl ?_
        refine mv_getI (pc := 66) (ci := 12) (C := R_Book) (T := F_Book) (N := 65) B 3 rfl rfl (by decide) i_Book (B.2.2.2.1 _ k_1846) rfl d_Book_next_66 ?_
        obtain ⟨u9, g8, eg8, hf⟩ := xhb_e hf
        refine mv_callVi (pc := 69) (n := 1) (ci := 12) (C := R_Book) B (mK_ok sk sv) hNs rfl rfl (ch_Book_look_x l hi _ (xrw r_g6 hb) _ eg8) rfl (ma_goodc kc_Book_look) (B.2.2.2.1 _ k_2122) (B.2.2.2.1 _ k_2124) (B.2.2.2.1 _ ks_82) (B.2.2.2.1 _ k_13) ⟨by decide +kernel, by decide +kernel, by decide +kernel⟩ rfl d_Book_next_69 rfl (Nat.le_of_ble_eq_true rfl) ⟨by decide, by decide⟩ ⟨by decide, by decide⟩ ⟨by decide, by decide⟩ (mv_noH hno _) (fun w69 σ69 h69 => ?_)
        obtain ⟨rfl, rfl, s_g8⟩ := h69
        have r_g8 : mv_r g8 = mv_r h := s_g8.trans r_g6
        obtain ⟨u11, g10, eg10, hf⟩ := xhb_e hf
        refine mv_callSi (pc := 72) (n := 1) B (mK_ok sk sv) hNs (ch_Book_digit l hi _ _ eg10) rfl (ma_goodc kc_Book_digit) (B.2.2.2.1 _ k_2129) (B.2.2.2.1 _ k_2130) (B.2.2.2.1 _ k_13) ⟨by decide +kernel, by decide +kernel, by decide +kernel⟩ rfl d_Book_next_72 rfl (Nat.le_of_ble_eq_true rfl) ⟨by decide, by decide⟩ ⟨by decide, by decide⟩ ⟨by decide, by decide⟩ (mv_noH hno _) (fun w72 σ72 h72 => ?_)
        obtain ⟨rfl, rfl, s_g10⟩ := h72
        have r_g10 : mv_r g10 = mv_r h := s_g10.trans r_g8
        refine mv_if_eq (pc := 75) (tgt := 91) B d_Book_next_75 rfl (fun h75 => ?_) (fun h75 => ?_)
        · skip
          have hf := xif_t h75 hf
          refine mv_aload_n (pc := 91) B d_Book_next_91 rfl 0 rfl ?_
          refine mv_getI (pc := 92) (ci := 12) (C := R_Book) (T := F_Book) (N := 65) B 3 rfl rfl (by decide) i_Book (B.2.2.2.1 _ k_1846) rfl d_Book_next_92 ?_
          refine mv_aload_n (pc := 95) B d_Book_next_95 rfl 0 rfl ?_
          refine mv_getI (pc := 96) (ci := 12) (C := R_Book) (T := F_Book) (N := 65) B 5 rfl rfl (by decide) i_Book (B.2.2.2.1 _ k_1848) rfl d_Book_next_96 ?_
          refine mv_isub (pc := 99) B d_Book_next_99 ?_
          refine mv_bipush (pc := 100) (v := 32) B d_Book_next_100 (by decide) ?_
          refine mv_icmp_le (pc := 102) (tgt := 260) B d_Book_next_102 rfl (fun h102 => ?_) (fun h102 => ?_)
          · skip
            have hf := xif_t h102 hf
            refine mv_lpick [0] rfl ?_
            exact jn260  _ r_g10 hf
          · skip
            have hf := xif_f h102 hf
            refine mv_aload_n (pc := 105) B d_Book_next_105 rfl 0 rfl ?_
            refine mv_aload_n (pc := 106) B d_Book_next_106 rfl 0 rfl ?_
            refine mv_getI (pc := 107) (ci := 12) (C := R_Book) (T := F_Book) (N := 65) B 5 rfl rfl (by decide) i_Book (B.2.2.2.1 _ k_1848) rfl d_Book_next_107 ?_
            refine mv_bipush (pc := 110) (v := 32) B d_Book_next_110 (by decide) ?_
            refine mv_iadd (pc := 112) B d_Book_next_112 ?_
            refine mv_putI (pc := 113) (ci := 12) (C := R_Book) (T := F_Book) (N := 65) B 7 rfl rfl (by decide) i_Book t_Book_ok n_Book (B.2.2.2.1 _ k_1850) rfl rfl rfl rfl d_Book_next_113 ?_
            refine mvh_hp (R9 := mv_r h) hf r_g10 (fun g12 hf r_g12 => ?_)
            refine mv_goto (pc := 116) (tgt := 260) B d_Book_next_116 rfl ?_
            refine mv_lpick [0] rfl ?_
            exact jn260  _ r_g12 hf
        · skip
          have hf := xif_f h75 hf
          refine mv_lpick [0] rfl ?_
          exact jn78  _ r_g10 hf
  unfold f_Book_next at hf
  refine mv_aload_n (pc := 0) B d_Book_next_0 rfl 0 rfl ?_
  obtain ⟨g13, eg13, hf⟩ := xhv_e hf
  refine mv_callVv (pc := 1) (n := 0) (ci := 12) (C := R_Book) B (mK_ok sk sv) hNs rfl rfl (ch_Book_skip_x l hi _ (hb) eg13) rfl (ma_goodc kc_Book_skip) (B.2.2.2.1 _ k_2118) (B.2.2.2.1 _ k_2120) (B.2.2.2.1 _ ks_81) (B.2.2.2.1 _ k_13) ⟨by decide +kernel, by decide +kernel, by decide +kernel⟩ rfl d_Book_next_1 rfl (Nat.le_of_ble_eq_true rfl) ⟨by decide, by decide⟩ ⟨by decide, by decide⟩ ⟨by decide, by decide⟩ (mv_noH hno _) (fun σ1 h1 => ?_)
  obtain ⟨rfl, s_g13⟩ := h1
  have r_g13 : mv_r g13 = mv_r h := s_g13.trans rfl
  refine mv_aload_n (pc := 4) B d_Book_next_4 rfl 0 rfl ?_
  refine mv_aload_n (pc := 5) B d_Book_next_5 rfl 0 rfl ?_
  refine mv_getI (pc := 6) (ci := 12) (C := R_Book) (T := F_Book) (N := 65) B 3 rfl rfl (by decide) i_Book (B.2.2.2.1 _ k_1846) rfl d_Book_next_6 ?_
  refine mv_putI (pc := 9) (ci := 12) (C := R_Book) (T := F_Book) (N := 65) B 5 rfl rfl (by decide) i_Book t_Book_ok n_Book (B.2.2.2.1 _ k_1848) rfl rfl rfl rfl d_Book_next_9 ?_
  refine mvh_hp (R9 := mv_r h) hf r_g13 (fun g15 hf r_g15 => ?_)
  refine mv_aload_n (pc := 12) B d_Book_next_12 rfl 0 rfl ?_
  refine mv_iconst (pc := 13) (v := -1) B d_Book_next_13 (by decide) ?_
  refine mv_putI (pc := 14) (ci := 12) (C := R_Book) (T := F_Book) (N := 65) B 7 rfl rfl (by decide) i_Book t_Book_ok n_Book (B.2.2.2.1 _ k_1850) rfl rfl rfl rfl d_Book_next_14 ?_
  refine mvh_hp (R9 := mv_r h) hf r_g15 (fun g16 hf r_g16 => ?_)
  refine mv_aload_n (pc := 17) B d_Book_next_17 rfl 0 rfl ?_
  refine mv_aload_n (pc := 18) B d_Book_next_18 rfl 0 rfl ?_
  refine mv_getI (pc := 19) (ci := 12) (C := R_Book) (T := F_Book) (N := 65) B 3 rfl rfl (by decide) i_Book (B.2.2.2.1 _ k_1846) rfl d_Book_next_19 ?_
  obtain ⟨u18, g17, eg17, hf⟩ := xhb_e hf
  refine mv_callVi (pc := 22) (n := 1) (ci := 12) (C := R_Book) B (mK_ok sk sv) hNs rfl rfl (ch_Book_look_x l hi _ (xrw r_g16 hb) _ eg17) rfl (ma_goodc kc_Book_look) (B.2.2.2.1 _ k_2122) (B.2.2.2.1 _ k_2124) (B.2.2.2.1 _ ks_82) (B.2.2.2.1 _ k_13) ⟨by decide +kernel, by decide +kernel, by decide +kernel⟩ rfl d_Book_next_22 rfl (Nat.le_of_ble_eq_true rfl) ⟨by decide, by decide⟩ ⟨by decide, by decide⟩ ⟨by decide, by decide⟩ (mv_noH hno _) (fun w22 σ22 h22 => ?_)
  obtain ⟨rfl, rfl, s_g17⟩ := h22
  have r_g17 : mv_r g17 = mv_r h := s_g17.trans r_g16
  refine mv_istore_n (pc := 25) B d_Book_next_25 rfl (by decide) rfl ?_
  refine mv_iload_n (pc := 26) B d_Book_next_26 rfl 0 rfl ?_
  refine mv_if_ge (pc := 27) (tgt := 38) B d_Book_next_27 rfl (fun h27 => ?_) (fun h27 => ?_)
  · skip
    have hf := xif_t h27 hf
    refine mv_iload_n (pc := 38) B d_Book_next_38 rfl 0 rfl ?_
    obtain ⟨u20, g19, eg19, hf⟩ := xhb_e hf
    refine mv_callSi (pc := 39) (n := 1) B (mK_ok sk sv) hNs (ch_Book_letter l hi _ _ eg19) rfl (ma_goodc kc_Book_letter) (B.2.2.2.1 _ k_2126) (B.2.2.2.1 _ k_2127) (B.2.2.2.1 _ k_13) ⟨by decide +kernel, by decide +kernel, by decide +kernel⟩ rfl d_Book_next_39 rfl (Nat.le_of_ble_eq_true rfl) ⟨by decide, by decide⟩ ⟨by decide, by decide⟩ ⟨by decide, by decide⟩ (mv_noH hno _) (fun w39 σ39 h39 => ?_)
    obtain ⟨rfl, rfl, s_g19⟩ := h39
    have r_g19 : mv_r g19 = mv_r h := s_g19.trans r_g17
    refine mv_if_eq (pc := 42) (tgt := 119) B d_Book_next_42 rfl (fun h42 => ?_) (fun h42 => ?_)
    · skip
      have hf := xif_t h42 hf
      refine mv_iload_n (pc := 119) B d_Book_next_119 rfl 0 rfl ?_
      obtain ⟨u22, g21, eg21, hf⟩ := xhb_e hf
      refine mv_callSi (pc := 120) (n := 1) B (mK_ok sk sv) hNs (ch_Book_digit l hi _ _ eg21) rfl (ma_goodc kc_Book_digit) (B.2.2.2.1 _ k_2129) (B.2.2.2.1 _ k_2130) (B.2.2.2.1 _ k_13) ⟨by decide +kernel, by decide +kernel, by decide +kernel⟩ rfl d_Book_next_120 rfl (Nat.le_of_ble_eq_true rfl) ⟨by decide, by decide⟩ ⟨by decide, by decide⟩ ⟨by decide, by decide⟩ (mv_noH hno _) (fun w120 σ120 h120 => ?_)
      obtain ⟨rfl, rfl, s_g21⟩ := h120
      have r_g21 : mv_r g21 = mv_r h := s_g21.trans r_g19
      refine mv_if_eq (pc := 123) (tgt := 133) B d_Book_next_123 rfl (fun h123 => ?_) (fun h123 => ?_)
      · skip
        have hf := xif_t h123 hf
        refine mv_iload_n (pc := 133) B d_Book_next_133 rfl 0 rfl ?_
        refine mv_bipush (pc := 134) (v := 34) B d_Book_next_134 (by decide) ?_
        refine mv_icmp_ne (pc := 136) (tgt := 146) B d_Book_next_136 rfl (fun h136 => ?_) (fun h136 => ?_)
        · skip
          have hf := xif_f h136 hf
          refine mv_aload_n (pc := 146) B d_Book_next_146 rfl 1 rfl ?_
          refine mv_iload_n (pc := 147) B d_Book_next_147 rfl 0 rfl ?_
          refine mv_aload_n (pc := 148) B d_Book_next_148 rfl 1 rfl ?_
          refine mv_aload_n (pc := 149) B d_Book_next_149 rfl 1 rfl ?_
          refine mv_getI (pc := 150) (ci := 12) (C := R_Book) (T := F_Book) (N := 65) B 3 rfl rfl (by decide) i_Book (B.2.2.2.1 _ k_1846) rfl d_Book_next_150 ?_
          refine mv_iconst (pc := 153) (v := 1) B d_Book_next_153 (by decide) ?_
          refine mv_iadd (pc := 154) B d_Book_next_154 ?_
          obtain ⟨u24, g23, eg23, hf⟩ := xhb_e hf
          refine mv_callVi (pc := 155) (n := 1) (ci := 12) (C := R_Book) B (mK_ok sk sv) hNs rfl rfl (ch_Book_look_x l hi _ (xrw r_g21 hb) _ eg23) rfl (ma_goodc kc_Book_look) (B.2.2.2.1 _ k_2122) (B.2.2.2.1 _ k_2124) (B.2.2.2.1 _ ks_82) (B.2.2.2.1 _ k_13) ⟨by decide +kernel, by decide +kernel, by decide +kernel⟩ rfl d_Book_next_155 rfl (Nat.le_of_ble_eq_true rfl) ⟨by decide, by decide⟩ ⟨by decide, by decide⟩ ⟨by decide, by decide⟩ (mv_noH hno _) (fun w155 σ155 h155 => ?_)
          obtain ⟨rfl, rfl, s_g23⟩ := h155
          have r_g23 : mv_r g23 = mv_r h := s_g23.trans r_g21
          obtain ⟨u26, g25, eg25, hf⟩ := xhb_e hf
          refine mv_callVi (pc := 158) (n := 2) (ci := 12) (C := R_Book) B (mK_ok sk sv) hNs rfl rfl (ch_Book_pair_x l hi _ _ _ eg25) rfl (ma_goodc kc_Book_pair) (B.2.2.2.1 _ k_2147) (B.2.2.2.1 _ k_2149) (B.2.2.2.1 _ ks_85) (B.2.2.2.1 _ k_13) ⟨by decide +kernel, by decide +kernel, by decide +kernel⟩ rfl d_Book_next_158 rfl (Nat.le_of_ble_eq_true rfl) ⟨by decide, by decide⟩ ⟨by decide, by decide⟩ ⟨by decide, by decide⟩ (mv_noH hno _) (fun w158 σ158 h158 => ?_)
          obtain ⟨rfl, rfl, s_g25⟩ := h158
          have r_g25 : mv_r g25 = mv_r h := s_g25.trans r_g23
          refine mv_if_le (pc := 161) (tgt := 196) B d_Book_next_161 rfl (fun h161 => ?_) (fun h161 => ?_)
          · skip
            have hf := xif_t h161 hf
            refine mv_iload_n (pc := 196) B d_Book_next_196 rfl 0 rfl ?_
            refine mv_bipush (pc := 197) (v := 62) B d_Book_next_197 (by decide) ?_
            refine mv_icmp_ne (pc := 199) (tgt := 230) B d_Book_next_199 rfl (fun h199 => ?_) (fun h199 => ?_)
            · skip
              have hf := xif_f h199 hf
              refine mv_iload_n (pc := 230) B d_Book_next_230 rfl 0 rfl ?_
              obtain ⟨u28, g27, eg27, hf⟩ := xhb_e hf
              refine mv_callSi (pc := 231) (n := 1) B (mK_ok sk sv) hNs (ch_Book_sign l hi _ _ eg27) rfl (ma_goodc kc_Book_sign) (B.2.2.2.1 _ k_2151) (B.2.2.2.1 _ k_2152) (B.2.2.2.1 _ k_13) ⟨by decide +kernel, by decide +kernel, by decide +kernel⟩ rfl d_Book_next_231 rfl (Nat.le_of_ble_eq_true rfl) ⟨by decide, by decide⟩ ⟨by decide, by decide⟩ ⟨by decide, by decide⟩ (mv_noH hno _) (fun w231 σ231 h231 => ?_)
              obtain ⟨rfl, rfl, s_g27⟩ := h231
              have r_g27 : mv_r g27 = mv_r h := s_g27.trans r_g25
              refine mv_if_eq (pc := 234) (tgt := 255) B d_Book_next_234 rfl (fun h234 => ?_) (fun h234 => ?_)
              · skip
                have hf := xif_t h234 hf
                refine mv_aload_n (pc := 255) B d_Book_next_255 rfl 1 rfl ?_
                refine mv_iconst (pc := 256) (v := -1) B d_Book_next_256 (by decide) ?_
                refine mv_putI (pc := 257) (ci := 12) (C := R_Book) (T := F_Book) (N := 65) B 4 rfl rfl (by decide) i_Book t_Book_ok n_Book (B.2.2.2.1 _ k_1847) rfl rfl rfl rfl d_Book_next_257 ?_
                refine mvh_hp (R9 := mv_r h) hf r_g27 (fun g29 hf r_g29 => ?_)
                refine mv_lpick [1] rfl ?_
                exact jn260  _ r_g29 hf
              · skip
                have hf := xif_f h234 hf
                refine mv_aload_n (pc := 237) B d_Book_next_237 rfl 1 rfl ?_
                refine mv_iload_n (pc := 238) B d_Book_next_238 rfl 0 rfl ?_
                refine mv_putI (pc := 239) (ci := 12) (C := R_Book) (T := F_Book) (N := 65) B 4 rfl rfl (by decide) i_Book t_Book_ok n_Book (B.2.2.2.1 _ k_1847) rfl rfl rfl rfl d_Book_next_239 ?_
                refine mvh_hp (R9 := mv_r h) hf r_g27 (fun g30 hf r_g30 => ?_)
                refine mv_aload_n (pc := 242) B d_Book_next_242 rfl 1 rfl ?_
                refine mv_dup (pc := 243) B d_Book_next_243 rfl ?_
                refine mv_getI (pc := 244) (ci := 12) (C := R_Book) (T := F_Book) (N := 65) B 3 rfl rfl (by decide) i_Book (B.2.2.2.1 _ k_1846) rfl d_Book_next_244 ?_
                refine mv_iconst (pc := 247) (v := 1) B d_Book_next_247 (by decide) ?_
                refine mv_iadd (pc := 248) B d_Book_next_248 ?_
                refine mv_putI (pc := 249) (ci := 12) (C := R_Book) (T := F_Book) (N := 65) B 3 rfl rfl (by decide) i_Book t_Book_ok n_Book (B.2.2.2.1 _ k_1846) rfl rfl rfl rfl d_Book_next_249 ?_
                refine mvh_hp (R9 := mv_r h) hf r_g30 (fun g31 hf r_g31 => ?_)
                refine mv_goto (pc := 252) (tgt := 260) B d_Book_next_252 rfl ?_
                refine mv_lpick [1] rfl ?_
                exact jn260  _ r_g31 hf
            · skip
              have hf := xif_t h199 hf
              refine mv_aload_n (pc := 202) B d_Book_next_202 rfl 1 rfl ?_
              refine mv_sipush (pc := 203) (v := 260) B d_Book_next_203 (by decide) ?_
              refine mv_putI (pc := 206) (ci := 12) (C := R_Book) (T := F_Book) (N := 65) B 4 rfl rfl (by decide) i_Book t_Book_ok n_Book (B.2.2.2.1 _ k_1847) rfl rfl rfl rfl d_Book_next_206 ?_
              refine mvh_hp (R9 := mv_r h) hf r_g25 (fun g32 hf r_g32 => ?_)
              refine mv_aload_n (pc := 209) B d_Book_next_209 rfl 1 rfl ?_
              refine mv_dup (pc := 210) B d_Book_next_210 rfl ?_
              refine mv_getI (pc := 211) (ci := 12) (C := R_Book) (T := F_Book) (N := 65) B 3 rfl rfl (by decide) i_Book (B.2.2.2.1 _ k_1846) rfl d_Book_next_211 ?_
              refine mv_iconst (pc := 214) (v := 1) B d_Book_next_214 (by decide) ?_
              refine mv_iadd (pc := 215) B d_Book_next_215 ?_
              refine mv_putI (pc := 216) (ci := 12) (C := R_Book) (T := F_Book) (N := 65) B 3 rfl rfl (by decide) i_Book t_Book_ok n_Book (B.2.2.2.1 _ k_1846) rfl rfl rfl rfl d_Book_next_216 ?_
              refine mvh_hp (R9 := mv_r h) hf r_g32 (fun g33 hf r_g33 => ?_)
              refine mv_aload_n (pc := 219) B d_Book_next_219 rfl 1 rfl ?_
              refine mv_aload_n (pc := 220) B d_Book_next_220 rfl 1 rfl ?_
              refine mv_getI (pc := 221) (ci := 12) (C := R_Book) (T := F_Book) (N := 65) B 3 rfl rfl (by decide) i_Book (B.2.2.2.1 _ k_1846) rfl d_Book_next_221 ?_
              refine mv_putI (pc := 224) (ci := 12) (C := R_Book) (T := F_Book) (N := 65) B 7 rfl rfl (by decide) i_Book t_Book_ok n_Book (B.2.2.2.1 _ k_1850) rfl rfl rfl rfl d_Book_next_224 ?_
              refine mvh_hp (R9 := mv_r h) hf r_g33 (fun g34 hf r_g34 => ?_)
              refine mv_goto (pc := 227) (tgt := 260) B d_Book_next_227 rfl ?_
              refine mv_lpick [1] rfl ?_
              exact jn260  _ r_g34 hf
          · skip
            have hf := xif_f h161 hf
            refine mv_aload_n (pc := 164) B d_Book_next_164 rfl 1 rfl ?_
            refine mv_aload_n (pc := 165) B d_Book_next_165 rfl 1 rfl ?_
            refine mv_iload_n (pc := 166) B d_Book_next_166 rfl 0 rfl ?_
            refine mv_aload_n (pc := 167) B d_Book_next_167 rfl 1 rfl ?_
            refine mv_aload_n (pc := 168) B d_Book_next_168 rfl 1 rfl ?_
            refine mv_getI (pc := 169) (ci := 12) (C := R_Book) (T := F_Book) (N := 65) B 3 rfl rfl (by decide) i_Book (B.2.2.2.1 _ k_1846) rfl d_Book_next_169 ?_
            refine mv_iconst (pc := 172) (v := 1) B d_Book_next_172 (by decide) ?_
            refine mv_iadd (pc := 173) B d_Book_next_173 ?_
            obtain ⟨u36, g35, eg35, hf⟩ := xhb_e hf
            refine mv_callVi (pc := 174) (n := 1) (ci := 12) (C := R_Book) B (mK_ok sk sv) hNs rfl rfl (ch_Book_look_x l hi _ (xrw r_g25 hb) _ eg35) rfl (ma_goodc kc_Book_look) (B.2.2.2.1 _ k_2122) (B.2.2.2.1 _ k_2124) (B.2.2.2.1 _ ks_82) (B.2.2.2.1 _ k_13) ⟨by decide +kernel, by decide +kernel, by decide +kernel⟩ rfl d_Book_next_174 rfl (Nat.le_of_ble_eq_true rfl) ⟨by decide, by decide⟩ ⟨by decide, by decide⟩ ⟨by decide, by decide⟩ (mv_noH hno _) (fun w174 σ174 h174 => ?_)
            obtain ⟨rfl, rfl, s_g35⟩ := h174
            have r_g35 : mv_r g35 = mv_r h := s_g35.trans r_g25
            obtain ⟨u38, g37, eg37, hf⟩ := xhb_e hf
            refine mv_callVi (pc := 177) (n := 2) (ci := 12) (C := R_Book) B (mK_ok sk sv) hNs rfl rfl (ch_Book_pair_x l hi _ _ _ eg37) rfl (ma_goodc kc_Book_pair) (B.2.2.2.1 _ k_2147) (B.2.2.2.1 _ k_2149) (B.2.2.2.1 _ ks_85) (B.2.2.2.1 _ k_13) ⟨by decide +kernel, by decide +kernel, by decide +kernel⟩ rfl d_Book_next_177 rfl (Nat.le_of_ble_eq_true rfl) ⟨by decide, by decide⟩ ⟨by decide, by decide⟩ ⟨by decide, by decide⟩ (mv_noH hno _) (fun w177 σ177 h177 => ?_)
            obtain ⟨rfl, rfl, s_g37⟩ := h177
            have r_g37 : mv_r g37 = mv_r h := s_g37.trans r_g35
            refine mv_putI (pc := 180) (ci := 12) (C := R_Book) (T := F_Book) (N := 65) B 4 rfl rfl (by decide) i_Book t_Book_ok n_Book (B.2.2.2.1 _ k_1847) rfl rfl rfl rfl d_Book_next_180 ?_
            refine mvh_hp (R9 := mv_r h) hf r_g37 (fun g39 hf r_g39 => ?_)
            refine mv_aload_n (pc := 183) B d_Book_next_183 rfl 1 rfl ?_
            refine mv_dup (pc := 184) B d_Book_next_184 rfl ?_
            refine mv_getI (pc := 185) (ci := 12) (C := R_Book) (T := F_Book) (N := 65) B 3 rfl rfl (by decide) i_Book (B.2.2.2.1 _ k_1846) rfl d_Book_next_185 ?_
            refine mv_iconst (pc := 188) (v := 2) B d_Book_next_188 (by decide) ?_
            refine mv_iadd (pc := 189) B d_Book_next_189 ?_
            refine mv_putI (pc := 190) (ci := 12) (C := R_Book) (T := F_Book) (N := 65) B 3 rfl rfl (by decide) i_Book t_Book_ok n_Book (B.2.2.2.1 _ k_1846) rfl rfl rfl rfl d_Book_next_190 ?_
            refine mvh_hp (R9 := mv_r h) hf r_g39 (fun g40 hf r_g40 => ?_)
            refine mv_goto (pc := 193) (tgt := 260) B d_Book_next_193 rfl ?_
            refine mv_lpick [1] rfl ?_
            exact jn260  _ r_g40 hf
        · skip
          have hf := xif_t h136 hf
          refine mv_aload_n (pc := 139) B d_Book_next_139 rfl 1 rfl ?_
          obtain ⟨g41, eg41, hf⟩ := xhv_e hf
          refine mv_callVv (pc := 140) (n := 0) (ci := 12) (C := R_Book) B (mK_ok sk sv) hNs rfl rfl (ch_Book_readCode_x l hi _ (xrw r_g21 hb) eg41) rfl (ma_goodc kc_Book_readCode) (B.2.2.2.1 _ k_2143) (B.2.2.2.1 _ k_2145) (B.2.2.2.1 _ ks_84) (B.2.2.2.1 _ k_13) ⟨by decide +kernel, by decide +kernel, by decide +kernel⟩ rfl d_Book_next_140 rfl (Nat.le_of_ble_eq_true rfl) ⟨by decide, by decide⟩ ⟨by decide, by decide⟩ ⟨by decide, by decide⟩ (mv_noH hno _) (fun σ140 h140 => ?_)
          obtain ⟨rfl, s_g41⟩ := h140
          have r_g41 : mv_r g41 = mv_r h := s_g41.trans r_g21
          refine mv_goto (pc := 143) (tgt := 260) B d_Book_next_143 rfl ?_
          refine mv_lpick [1] rfl ?_
          exact jn260  _ r_g41 hf
      · skip
        have hf := xif_f h123 hf
        refine mv_aload_n (pc := 126) B d_Book_next_126 rfl 1 rfl ?_
        obtain ⟨g43, eg43, hf⟩ := xhv_e hf
        refine mv_callVv (pc := 127) (n := 0) (ci := 12) (C := R_Book) B (mK_ok sk sv) hNs rfl rfl (ch_Book_readNumber_x l hi _ (xrw r_g21 hb) eg43) rfl (ma_goodc kc_Book_readNumber) (B.2.2.2.1 _ k_2132) (B.2.2.2.1 _ k_2134) (B.2.2.2.1 _ ks_83) (B.2.2.2.1 _ k_13) ⟨by decide +kernel, by decide +kernel, by decide +kernel⟩ rfl d_Book_next_127 rfl (Nat.le_of_ble_eq_true rfl) ⟨by decide, by decide⟩ ⟨by decide, by decide⟩ ⟨by decide, by decide⟩ (mv_noH hno _) (fun σ127 h127 => ?_)
        obtain ⟨rfl, s_g43⟩ := h127
        have r_g43 : mv_r g43 = mv_r h := s_g43.trans r_g21
        refine mv_goto (pc := 130) (tgt := 260) B d_Book_next_130 rfl ?_
        refine mv_lpick [1] rfl ?_
        exact jn260  _ r_g43 hf
    · skip
      have hf := xif_f h42 hf
      refine mv_aload_n (pc := 45) B d_Book_next_45 rfl 1 rfl ?_
      refine mv_iconst (pc := 46) (v := 1) B d_Book_next_46 (by decide) ?_
      refine mv_putI (pc := 47) (ci := 12) (C := R_Book) (T := F_Book) (N := 65) B 4 rfl rfl (by decide) i_Book t_Book_ok n_Book (B.2.2.2.1 _ k_1847) rfl rfl rfl rfl d_Book_next_47 ?_
      refine mvh_hp (R9 := mv_r h) hf r_g19 (fun g45 hf r_g45 => ?_)
      refine mv_lpick [1] rfl ?_
      exact lp50 _  _ r_g45 hf
  · skip
    have hf := xif_f h27 hf
    refine mv_aload_n (pc := 30) B d_Book_next_30 rfl 1 rfl ?_
    refine mv_iconst (pc := 31) (v := 0) B d_Book_next_31 (by decide) ?_
    refine mv_putI (pc := 32) (ci := 12) (C := R_Book) (T := F_Book) (N := 65) B 4 rfl rfl (by decide) i_Book t_Book_ok n_Book (B.2.2.2.1 _ k_1847) rfl rfl rfl rfl d_Book_next_32 ?_
    refine mvh_hp (R9 := mv_r h) hf r_g17 (fun g46 hf r_g46 => ?_)
    refine mv_goto (pc := 35) (tgt := 260) B d_Book_next_35 rfl ?_
    refine mv_lpick [1] rfl ?_
    exact jn260  _ r_g46 hf
set_option maxHeartbeats 4000000 in
set_option maxRecDepth 100000 in
theorem ch_Book_next_y (l : Launch) {dA : FieldType → ClassId} {D : va_G} {al : Nat → Nat} {ext : mv_Sh} {sk sv : Nat → Nat} (hi : mv_inj (mg dA D al ext)) (h : mv_H) (hb : Br 108 (mv_r h))  {rv : Option Int32} {rg : mv_H} (hf : f_Book_next 108 h = some (rv, rg)) : mv_C l y_Book_next (Cond.code y_Book_next b_Book_next 2 (Option.none : Option Jvm.ClassFile.FieldType) :: ma) ({ frames := 3, cells := 0, slots := 0, locals := 64 }) (mg dA D al ext) (mK sk sv) [.ref (al 108)] h (mv_Uv (fun σ1 => rv = some 0 ∧ rg = σ1 ∧ mv_r σ1 = mv_r h) ("MachineLoomModel$Book$Wrong", al 141) (fun σ1 => rv = none ∧ rg = σ1 ∧ mv_r σ1 = mv_r h)) := by
  refine mv_C.ofV (cc := b_Book_next) (nL := 2) (ret := (Option.none : Option Jvm.ClassFile.FieldType)) (by decide +kernel) rfl hi (Nat.le_of_ble_eq_true rfl) ?_
  intro p e s m below meth c B hNs hr hnm hno
  have jn260 : ∀ (hz : mv_H), mv_r hz = mv_r h → f_Book_next_260 108  hz = some (rv, rg) → mv_V p l e ({ frames := 3, cells := 0, slots := 0, locals := 64 }) s m ([.ref (al 108)] : List Value).toArray below meth c (mg dA D al ext) 2 0 0 (mv_Q (mg dA D al ext) below s 0 0 (mv_Uv (fun σ1 => rv = some 0 ∧ rg = σ1 ∧ mv_r σ1 = mv_r h) ("MachineLoomModel$Book$Wrong", al 141) (fun σ1 => rv = none ∧ rg = σ1 ∧ mv_r σ1 = mv_r h))) hz 260 [(0, .ref (al 108))] [] := by
    intro  hz r_hz hf
    unfold f_Book_next_260 at hf
    refine mv_aload_n (pc := 260) B d_Book_next_260 rfl 0 rfl ?_
    refine mv_aload_n (pc := 261) B d_Book_next_261 rfl 0 rfl ?_
    refine mv_getI (pc := 262) (ci := 12) (C := R_Book) (T := F_Book) (N := 65) B 3 rfl rfl (by decide) i_Book (B.2.2.2.1 _ k_1846) rfl d_Book_next_262 ?_
    refine mv_putI (pc := 265) (ci := 12) (C := R_Book) (T := F_Book) (N := 65) B 6 rfl rfl (by decide) i_Book t_Book_ok n_Book (B.2.2.2.1 _ k_1849) rfl rfl rfl rfl d_Book_next_265 ?_
    refine mvh_hp (R9 := mv_r h) hf r_hz (fun g1 hf r_g1 => ?_)
    refine mv_aload_n (pc := 268) B d_Book_next_268 rfl 0 rfl ?_
    refine mv_getI (pc := 269) (ci := 12) (C := R_Book) (T := F_Book) (N := 65) B 7 rfl rfl (by decide) i_Book (B.2.2.2.1 _ k_1850) rfl d_Book_next_269 ?_
    refine mv_if_lt (pc := 272) (tgt := 284) B d_Book_next_272 rfl (fun h272 => ?_) (fun h272 => ?_)
    · skip
      have hf := xif_t h272 hf
      exact mv_vret (pc := 284) B hr d_Book_next_284 (Nat.le_refl _) (Nat.le_refl _) (Or.inl ⟨rfl, xrt_i hf r_g1⟩)
    · skip
      have hf := xif_f h272 hf
      refine mv_aload_n (pc := 275) B d_Book_next_275 rfl 0 rfl ?_
      refine mv_aload_n (pc := 276) B d_Book_next_276 rfl 0 rfl ?_
      refine mv_getI (pc := 277) (ci := 12) (C := R_Book) (T := F_Book) (N := 65) B 7 rfl rfl (by decide) i_Book (B.2.2.2.1 _ k_1850) rfl d_Book_next_277 ?_
      refine mv_callVr (pc := 280) (n := 1) (ci := 12) (C := R_Book) B (mK_ok sk sv) hNs rfl rfl (c_Book_wrongAt_y l hi _ _ (xrw r_g1 hb)) rfl (ma_goodc kc_Book_wrongAt) (B.2.2.2.1 _ k_2154) (B.2.2.2.1 _ k_2156) (B.2.2.2.1 _ ks_86) (B.2.2.2.1 _ k_13) ⟨by decide +kernel, by decide +kernel, by decide +kernel⟩ rfl d_Book_next_280 rfl (Nat.le_of_ble_eq_true rfl) ⟨by decide, by decide⟩ ⟨by decide, by decide⟩ ⟨by decide, by decide⟩ (mv_noH hno _) (fun σ280 h280 => ?_)
      obtain ⟨-, h280⟩ := h280
      subst h280
      refine mvh_hp (R9 := mv_r h) hf r_g1 (fun g2 hf r_g2 => ?_)
      exact mv_athrowO (pc := 283) (o := 141) B rfl rfl (mv_noH hno _) d_Book_next_283 (Nat.le_refl _) (Nat.le_refl _) (Or.inr ⟨rfl, xrt_t hf r_g2⟩)
  have lp50 : ∀ (nn50 : Nat) (hz : mv_H), mv_r hz = mv_r h → f_Book_next_50 108 nn50  hz = some (rv, rg) → mv_V p l e ({ frames := 3, cells := 0, slots := 0, locals := 64 }) s m ([.ref (al 108)] : List Value).toArray below meth c (mg dA D al ext) 2 0 0 (mv_Q (mg dA D al ext) below s 0 0 (mv_Uv (fun σ1 => rv = some 0 ∧ rg = σ1 ∧ mv_r σ1 = mv_r h) ("MachineLoomModel$Book$Wrong", al 141) (fun σ1 => rv = none ∧ rg = σ1 ∧ mv_r σ1 = mv_r h))) hz 50 [(0, .ref (al 108))] [] := by
    intro nn50
    induction nn50 with
    | zero => intro  hz r_hz hf; cases hf
    | succ nn50 ih50 =>
      intro  hz r_hz hf
      have jn78 : ∀ (hz : mv_H), mv_r hz = mv_r h → f_Book_next_78 108 (f_Book_next_50 108 nn50)  hz = some (rv, rg) → mv_V p l e ({ frames := 3, cells := 0, slots := 0, locals := 64 }) s m ([.ref (al 108)] : List Value).toArray below meth c (mg dA D al ext) 2 0 0 (mv_Q (mg dA D al ext) below s 0 0 (mv_Uv (fun σ1 => rv = some 0 ∧ rg = σ1 ∧ mv_r σ1 = mv_r h) ("MachineLoomModel$Book$Wrong", al 141) (fun σ1 => rv = none ∧ rg = σ1 ∧ mv_r σ1 = mv_r h))) hz 78 [(0, .ref (al 108))] [] := by
        intro  hz r_hz hf
        unfold f_Book_next_78 at hf
        refine mv_aload_n (pc := 78) B d_Book_next_78 rfl 0 rfl ?_
        refine mv_dup (pc := 79) B d_Book_next_79 rfl ?_
        refine mv_getI (pc := 80) (ci := 12) (C := R_Book) (T := F_Book) (N := 65) B 3 rfl rfl (by decide) i_Book (B.2.2.2.1 _ k_1846) rfl d_Book_next_80 ?_
        refine mv_iconst (pc := 83) (v := 1) B d_Book_next_83 (by decide) ?_
        refine mv_iadd (pc := 84) B d_Book_next_84 ?_
        refine mv_putI (pc := 85) (ci := 12) (C := R_Book) (T := F_Book) (N := 65) B 3 rfl rfl (by decide) i_Book t_Book_ok n_Book (B.2.2.2.1 _ k_1846) rfl rfl rfl rfl d_Book_next_85 ?_
        refine mvh_hp (R9 := mv_r h) hf r_hz (fun g3 hf r_g3 => ?_)
        refine mv_goto (pc := 88) (tgt := 50) B d_Book_next_88 rfl ?_
        refine mv_lpick [0] rfl ?_
        exact ih50  _ r_g3 hf
      have hf : fF_Book_next_50 108 (f_Book_next_50 108 nn50)  hz = some (rv, rg) := hf
      unfold fF_Book_next_50 at hf
      refine mv_aload_n (pc := 50) B d_Book_next_50 rfl 0 rfl ?_
      refine mv_aload_n (pc := 51) B d_Book_next_51 rfl 0 rfl ?_
      refine mv_getI (pc := 52) (ci := 12) (C := R_Book) (T := F_Book) (N := 65) B 3 rfl rfl (by decide) i_Book (B.2.2.2.1 _ k_1846) rfl d_Book_next_52 ?_
      obtain ⟨u5, g4, eg4, hf⟩ := xhb_e hf
      refine mv_callVi (pc := 55) (n := 1) (ci := 12) (C := R_Book) B (mK_ok sk sv) hNs rfl rfl (ch_Book_look_y l hi _ (xrw r_hz hb) _ eg4) rfl (ma_goodc kc_Book_look) (B.2.2.2.1 _ k_2122) (B.2.2.2.1 _ k_2124) (B.2.2.2.1 _ ks_82) (B.2.2.2.1 _ k_13) ⟨by decide +kernel, by decide +kernel, by decide +kernel⟩ rfl d_Book_next_55 rfl (Nat.le_of_ble_eq_true rfl) ⟨by decide, by decide⟩ ⟨by decide, by decide⟩ ⟨by decide, by decide⟩ (mv_noH hno _) (fun w55 σ55 h55 => ?_)
      obtain ⟨rfl, rfl, s_g4⟩ := h55
      have r_g4 : mv_r g4 = mv_r h := s_g4.trans r_hz
      obtain ⟨u7, g6, eg6, hf⟩ := xhb_e hf
      refine mv_callSi (pc := 58) (n := 1) B (mK_ok sk sv) hNs (ch_Book_letter l hi _ _ eg6) rfl (ma_goodc kc_Book_letter) (B.2.2.2.1 _ k_2126) (B.2.2.2.1 _ k_2127) (B.2.2.2.1 _ k_13) ⟨by decide +kernel, by decide +kernel, by decide +kernel⟩ rfl d_Book_next_58 rfl (Nat.le_of_ble_eq_true rfl) ⟨by decide, by decide⟩ ⟨by decide, by decide⟩ ⟨by decide, by decide⟩ (mv_noH hno _) (fun w58 σ58 h58 => ?_)
      obtain ⟨rfl, rfl, s_g6⟩ := h58
      have r_g6 : mv_r g6 = mv_r h := s_g6.trans r_g4
      refine mv_if_ne (pc := 61) (tgt := 78) B d_Book_next_61 rfl (fun h61 => ?_) (fun h61 => ?_)
      · skip
        have hf := xif_f h61 hf
        refine mv_lpick [0] rfl ?_
        exact jn78  _ r_g6 hf
      · skip
        have hf := xif_t h61 hf
        refine mv_aload_n (pc := 64) B d_Book_next_64 rfl 0 rfl ?_
        refine mv_aload_n (pc := 65) B d_Book_next_65 rfl 0 rfl ?_
        refine mv_getI (pc := 66) (ci := 12) (C := R_Book) (T := F_Book) (N := 65) B 3 rfl rfl (by decide) i_Book (B.2.2.2.1 _ k_1846) rfl d_Book_next_66 ?_
        obtain ⟨u9, g8, eg8, hf⟩ := xhb_e hf
        refine mv_callVi (pc := 69) (n := 1) (ci := 12) (C := R_Book) B (mK_ok sk sv) hNs rfl rfl (ch_Book_look_y l hi _ (xrw r_g6 hb) _ eg8) rfl (ma_goodc kc_Book_look) (B.2.2.2.1 _ k_2122) (B.2.2.2.1 _ k_2124) (B.2.2.2.1 _ ks_82) (B.2.2.2.1 _ k_13) ⟨by decide +kernel, by decide +kernel, by decide +kernel⟩ rfl d_Book_next_69 rfl (Nat.le_of_ble_eq_true rfl) ⟨by decide, by decide⟩ ⟨by decide, by decide⟩ ⟨by decide, by decide⟩ (mv_noH hno _) (fun w69 σ69 h69 => ?_)
        obtain ⟨rfl, rfl, s_g8⟩ := h69
        have r_g8 : mv_r g8 = mv_r h := s_g8.trans r_g6
        obtain ⟨u11, g10, eg10, hf⟩ := xhb_e hf
        refine mv_callSi (pc := 72) (n := 1) B (mK_ok sk sv) hNs (ch_Book_digit l hi _ _ eg10) rfl (ma_goodc kc_Book_digit) (B.2.2.2.1 _ k_2129) (B.2.2.2.1 _ k_2130) (B.2.2.2.1 _ k_13) ⟨by decide +kernel, by decide +kernel, by decide +kernel⟩ rfl d_Book_next_72 rfl (Nat.le_of_ble_eq_true rfl) ⟨by decide, by decide⟩ ⟨by decide, by decide⟩ ⟨by decide, by decide⟩ (mv_noH hno _) (fun w72 σ72 h72 => ?_)
        obtain ⟨rfl, rfl, s_g10⟩ := h72
        have r_g10 : mv_r g10 = mv_r h := s_g10.trans r_g8
        refine mv_if_eq (pc := 75) (tgt := 91) B d_Book_next_75 rfl (fun h75 => ?_) (fun h75 => ?_)
        · skip
          have hf := xif_t h75 hf
          refine mv_aload_n (pc := 91) B d_Book_next_91 rfl 0 rfl ?_
          refine mv_getI (pc := 92) (ci := 12) (C := R_Book) (T := F_Book) (N := 65) B 3 rfl rfl (by decide) i_Book (B.2.2.2.1 _ k_1846) rfl d_Book_next_92 ?_
          refine mv_aload_n (pc := 95) B d_Book_next_95 rfl 0 rfl ?_
          refine mv_getI (pc := 96) (ci := 12) (C := R_Book) (T := F_Book) (N := 65) B 5 rfl rfl (by decide) i_Book (B.2.2.2.1 _ k_1848) rfl d_Book_next_96 ?_
          refine mv_isub (pc := 99) B d_Book_next_99 ?_
          refine mv_bipush (pc := 100) (v := 32) B d_Book_next_100 (by decide) ?_
          refine mv_icmp_le (pc := 102) (tgt := 260) B d_Book_next_102 rfl (fun h102 => ?_) (fun h102 => ?_)
          · skip
            have hf := xif_t h102 hf
            refine mv_lpick [0] rfl ?_
            exact jn260  _ r_g10 hf
          · skip
            have hf := xif_f h102 hf
            refine mv_aload_n (pc := 105) B d_Book_next_105 rfl 0 rfl ?_
            refine mv_aload_n (pc := 106) B d_Book_next_106 rfl 0 rfl ?_
            refine mv_getI (pc := 107) (ci := 12) (C := R_Book) (T := F_Book) (N := 65) B 5 rfl rfl (by decide) i_Book (B.2.2.2.1 _ k_1848) rfl d_Book_next_107 ?_
            refine mv_bipush (pc := 110) (v := 32) B d_Book_next_110 (by decide) ?_
            refine mv_iadd (pc := 112) B d_Book_next_112 ?_
            refine mv_putI (pc := 113) (ci := 12) (C := R_Book) (T := F_Book) (N := 65) B 7 rfl rfl (by decide) i_Book t_Book_ok n_Book (B.2.2.2.1 _ k_1850) rfl rfl rfl rfl d_Book_next_113 ?_
            refine mvh_hp (R9 := mv_r h) hf r_g10 (fun g12 hf r_g12 => ?_)
            refine mv_goto (pc := 116) (tgt := 260) B d_Book_next_116 rfl ?_
            refine mv_lpick [0] rfl ?_
            exact jn260  _ r_g12 hf
        · skip
          have hf := xif_f h75 hf
          refine mv_lpick [0] rfl ?_
          exact jn78  _ r_g10 hf
  unfold f_Book_next at hf
  refine mv_aload_n (pc := 0) B d_Book_next_0 rfl 0 rfl ?_
  obtain ⟨g13, eg13, hf⟩ := xhv_e hf
  refine mv_callVv (pc := 1) (n := 0) (ci := 12) (C := R_Book) B (mK_ok sk sv) hNs rfl rfl (ch_Book_skip_y l hi _ (hb) eg13) rfl (ma_goodc kc_Book_skip) (B.2.2.2.1 _ k_2118) (B.2.2.2.1 _ k_2120) (B.2.2.2.1 _ ks_81) (B.2.2.2.1 _ k_13) ⟨by decide +kernel, by decide +kernel, by decide +kernel⟩ rfl d_Book_next_1 rfl (Nat.le_of_ble_eq_true rfl) ⟨by decide, by decide⟩ ⟨by decide, by decide⟩ ⟨by decide, by decide⟩ (mv_noH hno _) (fun σ1 h1 => ?_)
  obtain ⟨rfl, s_g13⟩ := h1
  have r_g13 : mv_r g13 = mv_r h := s_g13.trans rfl
  refine mv_aload_n (pc := 4) B d_Book_next_4 rfl 0 rfl ?_
  refine mv_aload_n (pc := 5) B d_Book_next_5 rfl 0 rfl ?_
  refine mv_getI (pc := 6) (ci := 12) (C := R_Book) (T := F_Book) (N := 65) B 3 rfl rfl (by decide) i_Book (B.2.2.2.1 _ k_1846) rfl d_Book_next_6 ?_
  refine mv_putI (pc := 9) (ci := 12) (C := R_Book) (T := F_Book) (N := 65) B 5 rfl rfl (by decide) i_Book t_Book_ok n_Book (B.2.2.2.1 _ k_1848) rfl rfl rfl rfl d_Book_next_9 ?_
  refine mvh_hp (R9 := mv_r h) hf r_g13 (fun g15 hf r_g15 => ?_)
  refine mv_aload_n (pc := 12) B d_Book_next_12 rfl 0 rfl ?_
  refine mv_iconst (pc := 13) (v := -1) B d_Book_next_13 (by decide) ?_
  refine mv_putI (pc := 14) (ci := 12) (C := R_Book) (T := F_Book) (N := 65) B 7 rfl rfl (by decide) i_Book t_Book_ok n_Book (B.2.2.2.1 _ k_1850) rfl rfl rfl rfl d_Book_next_14 ?_
  refine mvh_hp (R9 := mv_r h) hf r_g15 (fun g16 hf r_g16 => ?_)
  refine mv_aload_n (pc := 17) B d_Book_next_17 rfl 0 rfl ?_
  refine mv_aload_n (pc := 18) B d_Book_next_18 rfl 0 rfl ?_
  refine mv_getI (pc := 19) (ci := 12) (C := R_Book) (T := F_Book) (N := 65) B 3 rfl rfl (by decide) i_Book (B.2.2.2.1 _ k_1846) rfl d_Book_next_19 ?_
  obtain ⟨u18, g17, eg17, hf⟩ := xhb_e hf
  refine mv_callVi (pc := 22) (n := 1) (ci := 12) (C := R_Book) B (mK_ok sk sv) hNs rfl rfl (ch_Book_look_y l hi _ (xrw r_g16 hb) _ eg17) rfl (ma_goodc kc_Book_look) (B.2.2.2.1 _ k_2122) (B.2.2.2.1 _ k_2124) (B.2.2.2.1 _ ks_82) (B.2.2.2.1 _ k_13) ⟨by decide +kernel, by decide +kernel, by decide +kernel⟩ rfl d_Book_next_22 rfl (Nat.le_of_ble_eq_true rfl) ⟨by decide, by decide⟩ ⟨by decide, by decide⟩ ⟨by decide, by decide⟩ (mv_noH hno _) (fun w22 σ22 h22 => ?_)
  obtain ⟨rfl, rfl, s_g17⟩ := h22
  have r_g17 : mv_r g17 = mv_r h := s_g17.trans r_g16
  refine mv_istore_n (pc := 25) B d_Book_next_25 rfl (by decide) rfl ?_
  refine mv_iload_n (pc := 26) B d_Book_next_26 rfl 0 rfl ?_
  refine mv_if_ge (pc := 27) (tgt := 38) B d_Book_next_27 rfl (fun h27 => ?_) (fun h27 => ?_)
  · skip
    have hf := xif_t h27 hf
    refine mv_iload_n (pc := 38) B d_Book_next_38 rfl 0 rfl ?_
    obtain ⟨u20, g19, eg19, hf⟩ := xhb_e hf
    refine mv_callSi (pc := 39) (n := 1) B (mK_ok sk sv) hNs (ch_Book_letter l hi _ _ eg19) rfl (ma_goodc kc_Book_letter) (B.2.2.2.1 _ k_2126) (B.2.2.2.1 _ k_2127) (B.2.2.2.1 _ k_13) ⟨by decide +kernel, by decide +kernel, by decide +kernel⟩ rfl d_Book_next_39 rfl (Nat.le_of_ble_eq_true rfl) ⟨by decide, by decide⟩ ⟨by decide, by decide⟩ ⟨by decide, by decide⟩ (mv_noH hno _) (fun w39 σ39 h39 => ?_)
    obtain ⟨rfl, rfl, s_g19⟩ := h39
    have r_g19 : mv_r g19 = mv_r h := s_g19.trans r_g17
    refine mv_if_eq (pc := 42) (tgt := 119) B d_Book_next_42 rfl (fun h42 => ?_) (fun h42 => ?_)
    · skip
      have hf := xif_t h42 hf
      refine mv_iload_n (pc := 119) B d_Book_next_119 rfl 0 rfl ?_
      obtain ⟨u22, g21, eg21, hf⟩ := xhb_e hf
      refine mv_callSi (pc := 120) (n := 1) B (mK_ok sk sv) hNs (ch_Book_digit l hi _ _ eg21) rfl (ma_goodc kc_Book_digit) (B.2.2.2.1 _ k_2129) (B.2.2.2.1 _ k_2130) (B.2.2.2.1 _ k_13) ⟨by decide +kernel, by decide +kernel, by decide +kernel⟩ rfl d_Book_next_120 rfl (Nat.le_of_ble_eq_true rfl) ⟨by decide, by decide⟩ ⟨by decide, by decide⟩ ⟨by decide, by decide⟩ (mv_noH hno _) (fun w120 σ120 h120 => ?_)
      obtain ⟨rfl, rfl, s_g21⟩ := h120
      have r_g21 : mv_r g21 = mv_r h := s_g21.trans r_g19
      refine mv_if_eq (pc := 123) (tgt := 133) B d_Book_next_123 rfl (fun h123 => ?_) (fun h123 => ?_)
      · skip
        have hf := xif_t h123 hf
        refine mv_iload_n (pc := 133) B d_Book_next_133 rfl 0 rfl ?_
        refine mv_bipush (pc := 134) (v := 34) B d_Book_next_134 (by decide) ?_
        refine mv_icmp_ne (pc := 136) (tgt := 146) B d_Book_next_136 rfl (fun h136 => ?_) (fun h136 => ?_)
        · skip
          have hf := xif_f h136 hf
          refine mv_aload_n (pc := 146) B d_Book_next_146 rfl 1 rfl ?_
          refine mv_iload_n (pc := 147) B d_Book_next_147 rfl 0 rfl ?_
          refine mv_aload_n (pc := 148) B d_Book_next_148 rfl 1 rfl ?_
          refine mv_aload_n (pc := 149) B d_Book_next_149 rfl 1 rfl ?_
          refine mv_getI (pc := 150) (ci := 12) (C := R_Book) (T := F_Book) (N := 65) B 3 rfl rfl (by decide) i_Book (B.2.2.2.1 _ k_1846) rfl d_Book_next_150 ?_
          refine mv_iconst (pc := 153) (v := 1) B d_Book_next_153 (by decide) ?_
          refine mv_iadd (pc := 154) B d_Book_next_154 ?_
          obtain ⟨u24, g23, eg23, hf⟩ := xhb_e hf
          refine mv_callVi (pc := 155) (n := 1) (ci := 12) (C := R_Book) B (mK_ok sk sv) hNs rfl rfl (ch_Book_look_y l hi _ (xrw r_g21 hb) _ eg23) rfl (ma_goodc kc_Book_look) (B.2.2.2.1 _ k_2122) (B.2.2.2.1 _ k_2124) (B.2.2.2.1 _ ks_82) (B.2.2.2.1 _ k_13) ⟨by decide +kernel, by decide +kernel, by decide +kernel⟩ rfl d_Book_next_155 rfl (Nat.le_of_ble_eq_true rfl) ⟨by decide, by decide⟩ ⟨by decide, by decide⟩ ⟨by decide, by decide⟩ (mv_noH hno _) (fun w155 σ155 h155 => ?_)
          obtain ⟨rfl, rfl, s_g23⟩ := h155
          have r_g23 : mv_r g23 = mv_r h := s_g23.trans r_g21
          obtain ⟨u26, g25, eg25, hf⟩ := xhb_e hf
          refine mv_callVi (pc := 158) (n := 2) (ci := 12) (C := R_Book) B (mK_ok sk sv) hNs rfl rfl (ch_Book_pair_y l hi _ _ _ eg25) rfl (ma_goodc kc_Book_pair) (B.2.2.2.1 _ k_2147) (B.2.2.2.1 _ k_2149) (B.2.2.2.1 _ ks_85) (B.2.2.2.1 _ k_13) ⟨by decide +kernel, by decide +kernel, by decide +kernel⟩ rfl d_Book_next_158 rfl (Nat.le_of_ble_eq_true rfl) ⟨by decide, by decide⟩ ⟨by decide, by decide⟩ ⟨by decide, by decide⟩ (mv_noH hno _) (fun w158 σ158 h158 => ?_)
          obtain ⟨rfl, rfl, s_g25⟩ := h158
          have r_g25 : mv_r g25 = mv_r h := s_g25.trans r_g23
          refine mv_if_le (pc := 161) (tgt := 196) B d_Book_next_161 rfl (fun h161 => ?_) (fun h161 => ?_)
          · skip
            have hf := xif_t h161 hf
            refine mv_iload_n (pc := 196) B d_Book_next_196 rfl 0 rfl ?_
            refine mv_bipush (pc := 197) (v := 62) B d_Book_next_197 (by decide) ?_
            refine mv_icmp_ne (pc := 199) (tgt := 230) B d_Book_next_199 rfl (fun h199 => ?_) (fun h199 => ?_)
            · skip
              have hf := xif_f h199 hf
              refine mv_iload_n (pc := 230) B d_Book_next_230 rfl 0 rfl ?_
              obtain ⟨u28, g27, eg27, hf⟩ := xhb_e hf
              refine mv_callSi (pc := 231) (n := 1) B (mK_ok sk sv) hNs (ch_Book_sign l hi _ _ eg27) rfl (ma_goodc kc_Book_sign) (B.2.2.2.1 _ k_2151) (B.2.2.2.1 _ k_2152) (B.2.2.2.1 _ k_13) ⟨by decide +kernel, by decide +kernel, by decide +kernel⟩ rfl d_Book_next_231 rfl (Nat.le_of_ble_eq_true rfl) ⟨by decide, by decide⟩ ⟨by decide, by decide⟩ ⟨by decide, by decide⟩ (mv_noH hno _) (fun w231 σ231 h231 => ?_)
              obtain ⟨rfl, rfl, s_g27⟩ := h231
              have r_g27 : mv_r g27 = mv_r h := s_g27.trans r_g25
              refine mv_if_eq (pc := 234) (tgt := 255) B d_Book_next_234 rfl (fun h234 => ?_) (fun h234 => ?_)
              · skip
                have hf := xif_t h234 hf
                refine mv_aload_n (pc := 255) B d_Book_next_255 rfl 1 rfl ?_
                refine mv_iconst (pc := 256) (v := -1) B d_Book_next_256 (by decide) ?_
                refine mv_putI (pc := 257) (ci := 12) (C := R_Book) (T := F_Book) (N := 65) B 4 rfl rfl (by decide) i_Book t_Book_ok n_Book (B.2.2.2.1 _ k_1847) rfl rfl rfl rfl d_Book_next_257 ?_
                refine mvh_hp (R9 := mv_r h) hf r_g27 (fun g29 hf r_g29 => ?_)
                refine mv_lpick [1] rfl ?_
                exact jn260  _ r_g29 hf
              · skip
                have hf := xif_f h234 hf
                refine mv_aload_n (pc := 237) B d_Book_next_237 rfl 1 rfl ?_
                refine mv_iload_n (pc := 238) B d_Book_next_238 rfl 0 rfl ?_
                refine mv_putI (pc := 239) (ci := 12) (C := R_Book) (T := F_Book) (N := 65) B 4 rfl rfl (by decide) i_Book t_Book_ok n_Book (B.2.2.2.1 _ k_1847) rfl rfl rfl rfl d_Book_next_239 ?_
                refine mvh_hp (R9 := mv_r h) hf r_g27 (fun g30 hf r_g30 => ?_)
                refine mv_aload_n (pc := 242) B d_Book_next_242 rfl 1 rfl ?_
                refine mv_dup (pc := 243) B d_Book_next_243 rfl ?_
                refine mv_getI (pc := 244) (ci := 12) (C := R_Book) (T := F_Book) (N := 65) B 3 rfl rfl (by decide) i_Book (B.2.2.2.1 _ k_1846) rfl d_Book_next_244 ?_
                refine mv_iconst (pc := 247) (v := 1) B d_Book_next_247 (by decide) ?_
                refine mv_iadd (pc := 248) B d_Book_next_248 ?_
                refine mv_putI (pc := 249) (ci := 12) (C := R_Book) (T := F_Book) (N := 65) B 3 rfl rfl (by decide) i_Book t_Book_ok n_Book (B.2.2.2.1 _ k_1846) rfl rfl rfl rfl d_Book_next_249 ?_
                refine mvh_hp (R9 := mv_r h) hf r_g30 (fun g31 hf r_g31 => ?_)
                refine mv_goto (pc := 252) (tgt := 260) B d_Book_next_252 rfl ?_
                refine mv_lpick [1] rfl ?_
                exact jn260  _ r_g31 hf
            · skip
              have hf := xif_t h199 hf
              refine mv_aload_n (pc := 202) B d_Book_next_202 rfl 1 rfl ?_
              refine mv_sipush (pc := 203) (v := 260) B d_Book_next_203 (by decide) ?_
              refine mv_putI (pc := 206) (ci := 12) (C := R_Book) (T := F_Book) (N := 65) B 4 rfl rfl (by decide) i_Book t_Book_ok n_Book (B.2.2.2.1 _ k_1847) rfl rfl rfl rfl d_Book_next_206 ?_
              refine mvh_hp (R9 := mv_r h) hf r_g25 (fun g32 hf r_g32 => ?_)
              refine mv_aload_n (pc := 209) B d_Book_next_209 rfl 1 rfl ?_
              refine mv_dup (pc := 210) B d_Book_next_210 rfl ?_
              refine mv_getI (pc := 211) (ci := 12) (C := R_Book) (T := F_Book) (N := 65) B 3 rfl rfl (by decide) i_Book (B.2.2.2.1 _ k_1846) rfl d_Book_next_211 ?_
              refine mv_iconst (pc := 214) (v := 1) B d_Book_next_214 (by decide) ?_
              refine mv_iadd (pc := 215) B d_Book_next_215 ?_
              refine mv_putI (pc := 216) (ci := 12) (C := R_Book) (T := F_Book) (N := 65) B 3 rfl rfl (by decide) i_Book t_Book_ok n_Book (B.2.2.2.1 _ k_1846) rfl rfl rfl rfl d_Book_next_216 ?_
              refine mvh_hp (R9 := mv_r h) hf r_g32 (fun g33 hf r_g33 => ?_)
              refine mv_aload_n (pc := 219) B d_Book_next_219 rfl 1 rfl ?_
              refine mv_aload_n (pc := 220) B d_Book_next_220 rfl 1 rfl ?_
              refine mv_getI (pc := 221) (ci := 12) (C := R_Book) (T := F_Book) (N := 65) B 3 rfl rfl (by decide) i_Book (B.2.2.2.1 _ k_1846) rfl d_Book_next_221 ?_
              refine mv_putI (pc := 224) (ci := 12) (C := R_Book) (T := F_Book) (N := 65) B 7 rfl rfl (by decide) i_Book t_Book_ok n_Book (B.2.2.2.1 _ k_1850) rfl rfl rfl rfl d_Book_next_224 ?_
              refine mvh_hp (R9 := mv_r h) hf r_g33 (fun g34 hf r_g34 => ?_)
              refine mv_goto (pc := 227) (tgt := 260) B d_Book_next_227 rfl ?_
              refine mv_lpick [1] rfl ?_
              exact jn260  _ r_g34 hf
          · skip
            have hf := xif_f h161 hf
            refine mv_aload_n (pc := 164) B d_Book_next_164 rfl 1 rfl ?_
            refine mv_aload_n (pc := 165) B d_Book_next_165 rfl 1 rfl ?_
            refine mv_iload_n (pc := 166) B d_Book_next_166 rfl 0 rfl ?_
            refine mv_aload_n (pc := 167) B d_Book_next_167 rfl 1 rfl ?_
            refine mv_aload_n (pc := 168) B d_Book_next_168 rfl 1 rfl ?_
            refine mv_getI (pc := 169) (ci := 12) (C := R_Book) (T := F_Book) (N := 65) B 3 rfl rfl (by decide) i_Book (B.2.2.2.1 _ k_1846) rfl d_Book_next_169 ?_
            refine mv_iconst (pc := 172) (v := 1) B d_Book_next_172 (by decide) ?_
            refine mv_iadd (pc := 173) B d_Book_next_173 ?_
            obtain ⟨u36, g35, eg35, hf⟩ := xhb_e hf
            refine mv_callVi (pc := 174) (n := 1) (ci := 12) (C := R_Book) B (mK_ok sk sv) hNs rfl rfl (ch_Book_look_y l hi _ (xrw r_g25 hb) _ eg35) rfl (ma_goodc kc_Book_look) (B.2.2.2.1 _ k_2122) (B.2.2.2.1 _ k_2124) (B.2.2.2.1 _ ks_82) (B.2.2.2.1 _ k_13) ⟨by decide +kernel, by decide +kernel, by decide +kernel⟩ rfl d_Book_next_174 rfl (Nat.le_of_ble_eq_true rfl) ⟨by decide, by decide⟩ ⟨by decide, by decide⟩ ⟨by decide, by decide⟩ (mv_noH hno _) (fun w174 σ174 h174 => ?_)
            obtain ⟨rfl, rfl, s_g35⟩ := h174
            have r_g35 : mv_r g35 = mv_r h := s_g35.trans r_g25
            obtain ⟨u38, g37, eg37, hf⟩ := xhb_e hf
            refine mv_callVi (pc := 177) (n := 2) (ci := 12) (C := R_Book) B (mK_ok sk sv) hNs rfl rfl (ch_Book_pair_y l hi _ _ _ eg37) rfl (ma_goodc kc_Book_pair) (B.2.2.2.1 _ k_2147) (B.2.2.2.1 _ k_2149) (B.2.2.2.1 _ ks_85) (B.2.2.2.1 _ k_13) ⟨by decide +kernel, by decide +kernel, by decide +kernel⟩ rfl d_Book_next_177 rfl (Nat.le_of_ble_eq_true rfl) ⟨by decide, by decide⟩ ⟨by decide, by decide⟩ ⟨by decide, by decide⟩ (mv_noH hno _) (fun w177 σ177 h177 => ?_)
            obtain ⟨rfl, rfl, s_g37⟩ := h177
            have r_g37 : mv_r g37 = mv_r h := s_g37.trans r_g35
            refine mv_putI (pc := 180) (ci := 12) (C := R_Book) (T := F_Book) (N := 65) B 4 rfl rfl (by decide) i_Book t_Book_ok n_Book (B.2.2.2.1 _ k_1847) rfl rfl rfl rfl d_Book_next_180 ?_
            refine mvh_hp (R9 := mv_r h) hf r_g37 (fun g39 hf r_g39 => ?_)
            refine mv_aload_n (pc := 183) B d_Book_next_183 rfl 1 rfl ?_
            refine mv_dup (pc := 184) B d_Book_next_184 rfl ?_
            refine mv_getI (pc := 185) (ci := 12) (C := R_Book) (T := F_Book) (N := 65) B 3 rfl rfl (by decide) i_Book (B.2.2.2.1 _ k_1846) rfl d_Book_next_185 ?_
            refine mv_iconst (pc := 188) (v := 2) B d_Book_next_188 (by decide) ?_
            refine mv_iadd (pc := 189) B d_Book_next_189 ?_
            refine mv_putI (pc := 190) (ci := 12) (C := R_Book) (T := F_Book) (N := 65) B 3 rfl rfl (by decide) i_Book t_Book_ok n_Book (B.2.2.2.1 _ k_1846) rfl rfl rfl rfl d_Book_next_190 ?_
            refine mvh_hp (R9 := mv_r h) hf r_g39 (fun g40 hf r_g40 => ?_)
            refine mv_goto (pc := 193) (tgt := 260) B d_Book_next_193 rfl ?_
            refine mv_lpick [1] rfl ?_
            exact jn260  _ r_g40 hf
        · skip
          have hf := xif_t h136 hf
          refine mv_aload_n (pc := 139) B d_Book_next_139 rfl 1 rfl ?_
          obtain ⟨g41, eg41, hf⟩ := xhv_e hf
          refine mv_callVv (pc := 140) (n := 0) (ci := 12) (C := R_Book) B (mK_ok sk sv) hNs rfl rfl (ch_Book_readCode_y l hi _ (xrw r_g21 hb) eg41) rfl (ma_goodc kc_Book_readCode) (B.2.2.2.1 _ k_2143) (B.2.2.2.1 _ k_2145) (B.2.2.2.1 _ ks_84) (B.2.2.2.1 _ k_13) ⟨by decide +kernel, by decide +kernel, by decide +kernel⟩ rfl d_Book_next_140 rfl (Nat.le_of_ble_eq_true rfl) ⟨by decide, by decide⟩ ⟨by decide, by decide⟩ ⟨by decide, by decide⟩ (mv_noH hno _) (fun σ140 h140 => ?_)
          obtain ⟨rfl, s_g41⟩ := h140
          have r_g41 : mv_r g41 = mv_r h := s_g41.trans r_g21
          refine mv_goto (pc := 143) (tgt := 260) B d_Book_next_143 rfl ?_
          refine mv_lpick [1] rfl ?_
          exact jn260  _ r_g41 hf
      · skip
        have hf := xif_f h123 hf
        refine mv_aload_n (pc := 126) B d_Book_next_126 rfl 1 rfl ?_
        obtain ⟨g43, eg43, hf⟩ := xhv_e hf
        refine mv_callVv (pc := 127) (n := 0) (ci := 12) (C := R_Book) B (mK_ok sk sv) hNs rfl rfl (ch_Book_readNumber_y l hi _ (xrw r_g21 hb) eg43) rfl (ma_goodc kc_Book_readNumber) (B.2.2.2.1 _ k_2132) (B.2.2.2.1 _ k_2134) (B.2.2.2.1 _ ks_83) (B.2.2.2.1 _ k_13) ⟨by decide +kernel, by decide +kernel, by decide +kernel⟩ rfl d_Book_next_127 rfl (Nat.le_of_ble_eq_true rfl) ⟨by decide, by decide⟩ ⟨by decide, by decide⟩ ⟨by decide, by decide⟩ (mv_noH hno _) (fun σ127 h127 => ?_)
        obtain ⟨rfl, s_g43⟩ := h127
        have r_g43 : mv_r g43 = mv_r h := s_g43.trans r_g21
        refine mv_goto (pc := 130) (tgt := 260) B d_Book_next_130 rfl ?_
        refine mv_lpick [1] rfl ?_
        exact jn260  _ r_g43 hf
    · skip
      have hf := xif_f h42 hf
      refine mv_aload_n (pc := 45) B d_Book_next_45 rfl 1 rfl ?_
      refine mv_iconst (pc := 46) (v := 1) B d_Book_next_46 (by decide) ?_
      refine mv_putI (pc := 47) (ci := 12) (C := R_Book) (T := F_Book) (N := 65) B 4 rfl rfl (by decide) i_Book t_Book_ok n_Book (B.2.2.2.1 _ k_1847) rfl rfl rfl rfl d_Book_next_47 ?_
      refine mvh_hp (R9 := mv_r h) hf r_g19 (fun g45 hf r_g45 => ?_)
      refine mv_lpick [1] rfl ?_
      exact lp50 _  _ r_g45 hf
  · skip
    have hf := xif_f h27 hf
    refine mv_aload_n (pc := 30) B d_Book_next_30 rfl 1 rfl ?_
    refine mv_iconst (pc := 31) (v := 0) B d_Book_next_31 (by decide) ?_
    refine mv_putI (pc := 32) (ci := 12) (C := R_Book) (T := F_Book) (N := 65) B 4 rfl rfl (by decide) i_Book t_Book_ok n_Book (B.2.2.2.1 _ k_1847) rfl rfl rfl rfl d_Book_next_32 ?_
    refine mvh_hp (R9 := mv_r h) hf r_g17 (fun g46 hf r_g46 => ?_)
    refine mv_goto (pc := 35) (tgt := 260) B d_Book_next_35 rfl ?_
    refine mv_lpick [1] rfl ?_
    exact jn260  _ r_g46 hf
def f_Book_pass (P : Nat) (h : mv_H) : Option (Option Int32 × mv_H) := if (mv_i h P 8) ≤ (60 : Int32) then (xtb (f_Book_next P h) fun u2 g1 => some (some 0, g1)) else (xk (mv_si h (P + 33) 0 (mv_i h P 5)) fun g3 => some (none, g3))
set_option maxHeartbeats 4000000 in
set_option maxRecDepth 100000 in
theorem ch_Book_pass_x (l : Launch) {dA : FieldType → ClassId} {D : va_G} {al : Nat → Nat} {ext : mv_Sh} {sk sv : Nat → Nat} (hi : mv_inj (mg dA D al ext)) (h : mv_H) (hb : Br 74 (mv_r h))  {rv : Option Int32} {rg : mv_H} (hf : f_Book_pass 74 h = some (rv, rg)) : mv_C l y_Book_pass (Cond.code y_Book_pass b_Book_pass 1 (Option.none : Option Jvm.ClassFile.FieldType) :: ma) ({ frames := 4, cells := 0, slots := 0, locals := 85 }) (mg dA D al ext) (mK sk sv) [.ref (al 74)] h (mv_Uv (fun σ1 => rv = some 0 ∧ rg = σ1 ∧ mv_r σ1 = mv_r h) ("MachineLoomModel$Book$Wrong", al 107) (fun σ1 => rv = none ∧ rg = σ1 ∧ mv_r σ1 = mv_r h)) := by
  refine mv_C.ofV (cc := b_Book_pass) (nL := 1) (ret := (Option.none : Option Jvm.ClassFile.FieldType)) (by decide +kernel) rfl hi (Nat.le_of_ble_eq_true rfl) ?_
  intro p e s m below meth c B hNs hr hnm hno
  unfold f_Book_pass at hf
  refine mv_aload_n (pc := 0) B d_Book_pass_0 rfl 0 rfl ?_
  refine mv_getI (pc := 1) (ci := 12) (C := R_Book) (T := F_Book) (N := 65) B 8 rfl rfl (by decide) i_Book (B.2.2.2.1 _ k_1851) rfl d_Book_pass_1 ?_
  refine mv_bipush (pc := 4) (v := 60) B d_Book_pass_4 (by decide) ?_
  refine mv_icmp_le (pc := 6) (tgt := 18) B d_Book_pass_6 rfl (fun h6 => ?_) (fun h6 => ?_)
  · skip
    have hf := xif_t h6 hf
    refine mv_aload_n (pc := 18) B d_Book_pass_18 rfl 0 rfl ?_
    obtain ⟨og1, g1, eg1, hf⟩ := xtb_e hf
    refine mv_callVUv (pc := 19) (n := 0) (ci := 12) (C := R_Book) B (mK_ok sk sv) hNs rfl rfl (ch_Book_next_x l hi _ (hb) eg1) rfl (ma_goodc kc_Book_next) (B.2.2.2.1 _ k_2114) (B.2.2.2.1 _ k_2116) (B.2.2.2.1 _ ks_80) (B.2.2.2.1 _ k_13) ⟨by decide +kernel, by decide +kernel, by decide +kernel⟩ rfl d_Book_pass_19 rfl (Nat.le_of_ble_eq_true rfl) ⟨by decide, by decide⟩ ⟨by decide, by decide⟩ ⟨by decide, by decide⟩ (mv_noH hno _) (fun τ9 g9 => Or.inr ⟨rfl, xth hf g9 rfl⟩) (fun σ19 h19 => ?_)
    obtain ⟨rfl, rfl, s_g1⟩ := h19
    have hf := xt2_s hf
    have r_g1 : mv_r g1 = mv_r h := s_g1.trans rfl
    exact mv_vret (pc := 22) B hr d_Book_pass_22 (Nat.le_refl _) (Nat.le_refl _) (Or.inl ⟨rfl, xrt_i hf r_g1⟩)
  · skip
    have hf := xif_f h6 hf
    refine mv_aload_n (pc := 9) B d_Book_pass_9 rfl 0 rfl ?_
    refine mv_aload_n (pc := 10) B d_Book_pass_10 rfl 0 rfl ?_
    refine mv_getI (pc := 11) (ci := 12) (C := R_Book) (T := F_Book) (N := 65) B 5 rfl rfl (by decide) i_Book (B.2.2.2.1 _ k_1848) rfl d_Book_pass_11 ?_
    refine mv_callVr (pc := 14) (n := 1) (ci := 12) (C := R_Book) B (mK_ok sk sv) hNs rfl rfl (c_Book_wrongAt_x l hi _ _ (hb)) rfl (ma_goodc kc_Book_wrongAt) (B.2.2.2.1 _ k_2154) (B.2.2.2.1 _ k_2156) (B.2.2.2.1 _ ks_86) (B.2.2.2.1 _ k_13) ⟨by decide +kernel, by decide +kernel, by decide +kernel⟩ rfl d_Book_pass_14 rfl (Nat.le_of_ble_eq_true rfl) ⟨by decide, by decide⟩ ⟨by decide, by decide⟩ ⟨by decide, by decide⟩ (mv_noH hno _) (fun σ14 h14 => ?_)
    obtain ⟨-, h14⟩ := h14
    subst h14
    refine mvh_hp (R9 := mv_r h) hf rfl (fun g3 hf r_g3 => ?_)
    exact mv_athrowO (pc := 17) (o := 107) B rfl rfl (mv_noH hno _) d_Book_pass_17 (Nat.le_refl _) (Nat.le_refl _) (Or.inr ⟨rfl, xrt_t hf r_g3⟩)
set_option maxHeartbeats 4000000 in
set_option maxRecDepth 100000 in
theorem ch_Book_pass_y (l : Launch) {dA : FieldType → ClassId} {D : va_G} {al : Nat → Nat} {ext : mv_Sh} {sk sv : Nat → Nat} (hi : mv_inj (mg dA D al ext)) (h : mv_H) (hb : Br 108 (mv_r h))  {rv : Option Int32} {rg : mv_H} (hf : f_Book_pass 108 h = some (rv, rg)) : mv_C l y_Book_pass (Cond.code y_Book_pass b_Book_pass 1 (Option.none : Option Jvm.ClassFile.FieldType) :: ma) ({ frames := 4, cells := 0, slots := 0, locals := 85 }) (mg dA D al ext) (mK sk sv) [.ref (al 108)] h (mv_Uv (fun σ1 => rv = some 0 ∧ rg = σ1 ∧ mv_r σ1 = mv_r h) ("MachineLoomModel$Book$Wrong", al 141) (fun σ1 => rv = none ∧ rg = σ1 ∧ mv_r σ1 = mv_r h)) := by
  refine mv_C.ofV (cc := b_Book_pass) (nL := 1) (ret := (Option.none : Option Jvm.ClassFile.FieldType)) (by decide +kernel) rfl hi (Nat.le_of_ble_eq_true rfl) ?_
  intro p e s m below meth c B hNs hr hnm hno
  unfold f_Book_pass at hf
  refine mv_aload_n (pc := 0) B d_Book_pass_0 rfl 0 rfl ?_
  refine mv_getI (pc := 1) (ci := 12) (C := R_Book) (T := F_Book) (N := 65) B 8 rfl rfl (by decide) i_Book (B.2.2.2.1 _ k_1851) rfl d_Book_pass_1 ?_
  refine mv_bipush (pc := 4) (v := 60) B d_Book_pass_4 (by decide) ?_
  refine mv_icmp_le (pc := 6) (tgt := 18) B d_Book_pass_6 rfl (fun h6 => ?_) (fun h6 => ?_)
  · skip
    have hf := xif_t h6 hf
    refine mv_aload_n (pc := 18) B d_Book_pass_18 rfl 0 rfl ?_
    obtain ⟨og1, g1, eg1, hf⟩ := xtb_e hf
    refine mv_callVUv (pc := 19) (n := 0) (ci := 12) (C := R_Book) B (mK_ok sk sv) hNs rfl rfl (ch_Book_next_y l hi _ (hb) eg1) rfl (ma_goodc kc_Book_next) (B.2.2.2.1 _ k_2114) (B.2.2.2.1 _ k_2116) (B.2.2.2.1 _ ks_80) (B.2.2.2.1 _ k_13) ⟨by decide +kernel, by decide +kernel, by decide +kernel⟩ rfl d_Book_pass_19 rfl (Nat.le_of_ble_eq_true rfl) ⟨by decide, by decide⟩ ⟨by decide, by decide⟩ ⟨by decide, by decide⟩ (mv_noH hno _) (fun τ9 g9 => Or.inr ⟨rfl, xth hf g9 rfl⟩) (fun σ19 h19 => ?_)
    obtain ⟨rfl, rfl, s_g1⟩ := h19
    have hf := xt2_s hf
    have r_g1 : mv_r g1 = mv_r h := s_g1.trans rfl
    exact mv_vret (pc := 22) B hr d_Book_pass_22 (Nat.le_refl _) (Nat.le_refl _) (Or.inl ⟨rfl, xrt_i hf r_g1⟩)
  · skip
    have hf := xif_f h6 hf
    refine mv_aload_n (pc := 9) B d_Book_pass_9 rfl 0 rfl ?_
    refine mv_aload_n (pc := 10) B d_Book_pass_10 rfl 0 rfl ?_
    refine mv_getI (pc := 11) (ci := 12) (C := R_Book) (T := F_Book) (N := 65) B 5 rfl rfl (by decide) i_Book (B.2.2.2.1 _ k_1848) rfl d_Book_pass_11 ?_
    refine mv_callVr (pc := 14) (n := 1) (ci := 12) (C := R_Book) B (mK_ok sk sv) hNs rfl rfl (c_Book_wrongAt_y l hi _ _ (hb)) rfl (ma_goodc kc_Book_wrongAt) (B.2.2.2.1 _ k_2154) (B.2.2.2.1 _ k_2156) (B.2.2.2.1 _ ks_86) (B.2.2.2.1 _ k_13) ⟨by decide +kernel, by decide +kernel, by decide +kernel⟩ rfl d_Book_pass_14 rfl (Nat.le_of_ble_eq_true rfl) ⟨by decide, by decide⟩ ⟨by decide, by decide⟩ ⟨by decide, by decide⟩ (mv_noH hno _) (fun σ14 h14 => ?_)
    obtain ⟨-, h14⟩ := h14
    subst h14
    refine mvh_hp (R9 := mv_r h) hf rfl (fun g3 hf r_g3 => ?_)
    exact mv_athrowO (pc := 17) (o := 141) B rfl rfl (mv_noH hno _) d_Book_pass_17 (Nat.le_refl _) (Nat.le_refl _) (Or.inr ⟨rfl, xrt_t hf r_g3⟩)
def f_Book_need (P : Nat) (h : mv_H) (a0 : Int32) : Option (Option Int32 × mv_H) := if (mv_i h P 4) = a0 then (xtb (f_Book_pass P h) fun u2 g1 => some (some 0, g1)) else (xk (mv_si h (P + 33) 0 (mv_i h P 5)) fun g3 => some (none, g3))
set_option maxHeartbeats 4000000 in
set_option maxRecDepth 100000 in
theorem ch_Book_need_x (l : Launch) {dA : FieldType → ClassId} {D : va_G} {al : Nat → Nat} {ext : mv_Sh} {sk sv : Nat → Nat} (hi : mv_inj (mg dA D al ext)) (h : mv_H) (hb : Br 74 (mv_r h))  (a0 : Int32) {rv : Option Int32} {rg : mv_H} (hf : f_Book_need 74 h a0 = some (rv, rg)) : mv_C l y_Book_need (Cond.code y_Book_need b_Book_need 2 (Option.none : Option Jvm.ClassFile.FieldType) :: ma) ({ frames := 5, cells := 0, slots := 0, locals := 105 }) (mg dA D al ext) (mK sk sv) [.ref (al 74), .int a0] h (mv_Uv (fun σ1 => rv = some 0 ∧ rg = σ1 ∧ mv_r σ1 = mv_r h) ("MachineLoomModel$Book$Wrong", al 107) (fun σ1 => rv = none ∧ rg = σ1 ∧ mv_r σ1 = mv_r h)) := by
  refine mv_C.ofV (cc := b_Book_need) (nL := 2) (ret := (Option.none : Option Jvm.ClassFile.FieldType)) (by decide +kernel) rfl hi (Nat.le_of_ble_eq_true rfl) ?_
  intro p e s m below meth c B hNs hr hnm hno
  unfold f_Book_need at hf
  refine mv_aload_n (pc := 0) B d_Book_need_0 rfl 0 rfl ?_
  refine mv_getI (pc := 1) (ci := 12) (C := R_Book) (T := F_Book) (N := 65) B 4 rfl rfl (by decide) i_Book (B.2.2.2.1 _ k_1847) rfl d_Book_need_1 ?_
  refine mv_iload_n (pc := 4) B d_Book_need_4 rfl 1 rfl ?_
  refine mv_icmp_eq (pc := 5) (tgt := 17) B d_Book_need_5 rfl (fun h5 => ?_) (fun h5 => ?_)
  · skip
    have hf := xif_t h5 hf
    refine mv_aload_n (pc := 17) B d_Book_need_17 rfl 0 rfl ?_
    obtain ⟨og1, g1, eg1, hf⟩ := xtb_e hf
    refine mv_callVUv (pc := 18) (n := 0) (ci := 12) (C := R_Book) B (mK_ok sk sv) hNs rfl rfl (ch_Book_pass_x l hi _ (hb) eg1) rfl (ma_goodc kc_Book_pass) (B.2.2.2.1 _ k_2173) (B.2.2.2.1 _ k_2175) (B.2.2.2.1 _ ks_90) (B.2.2.2.1 _ k_13) ⟨by decide +kernel, by decide +kernel, by decide +kernel⟩ rfl d_Book_need_18 rfl (Nat.le_of_ble_eq_true rfl) ⟨by decide, by decide⟩ ⟨by decide, by decide⟩ ⟨by decide, by decide⟩ (mv_noH hno _) (fun τ9 g9 => Or.inr ⟨rfl, xth hf g9 rfl⟩) (fun σ18 h18 => ?_)
    obtain ⟨rfl, rfl, s_g1⟩ := h18
    have hf := xt2_s hf
    have r_g1 : mv_r g1 = mv_r h := s_g1.trans rfl
    exact mv_vret (pc := 21) B hr d_Book_need_21 (Nat.le_refl _) (Nat.le_refl _) (Or.inl ⟨rfl, xrt_i hf r_g1⟩)
  · skip
    have hf := xif_f h5 hf
    refine mv_aload_n (pc := 8) B d_Book_need_8 rfl 0 rfl ?_
    refine mv_aload_n (pc := 9) B d_Book_need_9 rfl 0 rfl ?_
    refine mv_getI (pc := 10) (ci := 12) (C := R_Book) (T := F_Book) (N := 65) B 5 rfl rfl (by decide) i_Book (B.2.2.2.1 _ k_1848) rfl d_Book_need_10 ?_
    refine mv_callVr (pc := 13) (n := 1) (ci := 12) (C := R_Book) B (mK_ok sk sv) hNs rfl rfl (c_Book_wrongAt_x l hi _ _ (hb)) rfl (ma_goodc kc_Book_wrongAt) (B.2.2.2.1 _ k_2154) (B.2.2.2.1 _ k_2156) (B.2.2.2.1 _ ks_86) (B.2.2.2.1 _ k_13) ⟨by decide +kernel, by decide +kernel, by decide +kernel⟩ rfl d_Book_need_13 rfl (Nat.le_of_ble_eq_true rfl) ⟨by decide, by decide⟩ ⟨by decide, by decide⟩ ⟨by decide, by decide⟩ (mv_noH hno _) (fun σ13 h13 => ?_)
    obtain ⟨-, h13⟩ := h13
    subst h13
    refine mvh_hp (R9 := mv_r h) hf rfl (fun g3 hf r_g3 => ?_)
    exact mv_athrowO (pc := 16) (o := 107) B rfl rfl (mv_noH hno _) d_Book_need_16 (Nat.le_refl _) (Nat.le_refl _) (Or.inr ⟨rfl, xrt_t hf r_g3⟩)
set_option maxHeartbeats 4000000 in
set_option maxRecDepth 100000 in
theorem ch_Book_need_y (l : Launch) {dA : FieldType → ClassId} {D : va_G} {al : Nat → Nat} {ext : mv_Sh} {sk sv : Nat → Nat} (hi : mv_inj (mg dA D al ext)) (h : mv_H) (hb : Br 108 (mv_r h))  (a0 : Int32) {rv : Option Int32} {rg : mv_H} (hf : f_Book_need 108 h a0 = some (rv, rg)) : mv_C l y_Book_need (Cond.code y_Book_need b_Book_need 2 (Option.none : Option Jvm.ClassFile.FieldType) :: ma) ({ frames := 5, cells := 0, slots := 0, locals := 105 }) (mg dA D al ext) (mK sk sv) [.ref (al 108), .int a0] h (mv_Uv (fun σ1 => rv = some 0 ∧ rg = σ1 ∧ mv_r σ1 = mv_r h) ("MachineLoomModel$Book$Wrong", al 141) (fun σ1 => rv = none ∧ rg = σ1 ∧ mv_r σ1 = mv_r h)) := by
  refine mv_C.ofV (cc := b_Book_need) (nL := 2) (ret := (Option.none : Option Jvm.ClassFile.FieldType)) (by decide +kernel) rfl hi (Nat.le_of_ble_eq_true rfl) ?_
  intro p e s m below meth c B hNs hr hnm hno
  unfold f_Book_need at hf
  refine mv_aload_n (pc := 0) B d_Book_need_0 rfl 0 rfl ?_
  refine mv_getI (pc := 1) (ci := 12) (C := R_Book) (T := F_Book) (N := 65) B 4 rfl rfl (by decide) i_Book (B.2.2.2.1 _ k_1847) rfl d_Book_need_1 ?_
  refine mv_iload_n (pc := 4) B d_Book_need_4 rfl 1 rfl ?_
  refine mv_icmp_eq (pc := 5) (tgt := 17) B d_Book_need_5 rfl (fun h5 => ?_) (fun h5 => ?_)
  · skip
    have hf := xif_t h5 hf
    refine mv_aload_n (pc := 17) B d_Book_need_17 rfl 0 rfl ?_
    obtain ⟨og1, g1, eg1, hf⟩ := xtb_e hf
    refine mv_callVUv (pc := 18) (n := 0) (ci := 12) (C := R_Book) B (mK_ok sk sv) hNs rfl rfl (ch_Book_pass_y l hi _ (hb) eg1) rfl (ma_goodc kc_Book_pass) (B.2.2.2.1 _ k_2173) (B.2.2.2.1 _ k_2175) (B.2.2.2.1 _ ks_90) (B.2.2.2.1 _ k_13) ⟨by decide +kernel, by decide +kernel, by decide +kernel⟩ rfl d_Book_need_18 rfl (Nat.le_of_ble_eq_true rfl) ⟨by decide, by decide⟩ ⟨by decide, by decide⟩ ⟨by decide, by decide⟩ (mv_noH hno _) (fun τ9 g9 => Or.inr ⟨rfl, xth hf g9 rfl⟩) (fun σ18 h18 => ?_)
    obtain ⟨rfl, rfl, s_g1⟩ := h18
    have hf := xt2_s hf
    have r_g1 : mv_r g1 = mv_r h := s_g1.trans rfl
    exact mv_vret (pc := 21) B hr d_Book_need_21 (Nat.le_refl _) (Nat.le_refl _) (Or.inl ⟨rfl, xrt_i hf r_g1⟩)
  · skip
    have hf := xif_f h5 hf
    refine mv_aload_n (pc := 8) B d_Book_need_8 rfl 0 rfl ?_
    refine mv_aload_n (pc := 9) B d_Book_need_9 rfl 0 rfl ?_
    refine mv_getI (pc := 10) (ci := 12) (C := R_Book) (T := F_Book) (N := 65) B 5 rfl rfl (by decide) i_Book (B.2.2.2.1 _ k_1848) rfl d_Book_need_10 ?_
    refine mv_callVr (pc := 13) (n := 1) (ci := 12) (C := R_Book) B (mK_ok sk sv) hNs rfl rfl (c_Book_wrongAt_y l hi _ _ (hb)) rfl (ma_goodc kc_Book_wrongAt) (B.2.2.2.1 _ k_2154) (B.2.2.2.1 _ k_2156) (B.2.2.2.1 _ ks_86) (B.2.2.2.1 _ k_13) ⟨by decide +kernel, by decide +kernel, by decide +kernel⟩ rfl d_Book_need_13 rfl (Nat.le_of_ble_eq_true rfl) ⟨by decide, by decide⟩ ⟨by decide, by decide⟩ ⟨by decide, by decide⟩ (mv_noH hno _) (fun σ13 h13 => ?_)
    obtain ⟨-, h13⟩ := h13
    subst h13
    refine mvh_hp (R9 := mv_r h) hf rfl (fun g3 hf r_g3 => ?_)
    exact mv_athrowO (pc := 16) (o := 141) B rfl rfl (mv_noH hno _) d_Book_need_16 (Nat.le_refl _) (Nat.le_refl _) (Or.inr ⟨rfl, xrt_t hf r_g3⟩)
def fF_Book_text_0_15 (P : Nat) (a0 : Nat) (k15 : Int32 → Int32 → mv_H → Option (Int32 × mv_H)) (x2 : Int32) (x4 : Int32) (hz : mv_H) : Option (Int32 × mv_H) := if (Int32.ofNat (st_g a0).2.2.2.length) ≤ x4 then (bif xzb (1 : Int32) then some ((1 : Int32), hz) else none) else (xhb (f_Book_look P hz (x2 + x4)) fun u3 g2 => bif xvi x4 (st_g a0).2.2.2.length then if u3 = ((st_g a0).2.2.2.getD (x4).toNatClampNeg 0 &&& 255) then (k15 x2 (x4 + 1) g2) else (bif xzb (0 : Int32) then some ((0 : Int32), g2) else none) else none)
def f_Book_text_0_15 (P : Nat) (a0 : Nat) : Nat → Int32 → Int32 → mv_H → Option (Int32 × mv_H)
  | 0 => fun _ _ _ => none
  | nn + 1 => fF_Book_text_0_15 P a0 (f_Book_text_0_15 P a0 nn)
def f_Book_text_0 (P : Nat) (h : mv_H) (a0 : Nat) (a1 : Int32) (a2 : Int32) : Option (Int32 × mv_H) := if (a2 - a1) = (Int32.ofNat (st_g a0).2.2.2.length) then (f_Book_text_0_15 P a0 200000 a1 (0 : Int32) h) else (bif xzb (0 : Int32) then some ((0 : Int32), h) else none)
set_option maxHeartbeats 4000000 in
set_option maxRecDepth 100000 in
theorem ch_Book_text_0_x (l : Launch) {dA : FieldType → ClassId} {D : va_G} {al : Nat → Nat} {ext : mv_Sh} {sk sv : Nat → Nat} (hi : mv_inj (mg dA D al ext)) (h : mv_H) (hb : Br 74 (mv_r h))  (a0 : Nat) (a1 : Int32) (a2 : Int32) (ha0 : a0 < st_t.length) {rv : Int32} {rg : mv_H} (hf : f_Book_text_0 74 h a0 a1 a2 = some (rv, rg)) : mv_C l y_Book_text_0 (Cond.code y_Book_text_0 b_Book_text_0 5 (Option.some Jvm.ClassFile.FieldType.boolean) :: ma) ({ frames := 4, cells := 0, slots := 0, locals := 85 }) (mg dA D al ext) (mK sk sv) [.ref (al 74), .ref (sk a0), .int a1, .int a2] h (mv_Ri (fun v σ1 => rv = v ∧ rg = σ1 ∧ mv_r σ1 = mv_r h)) := by
  refine mv_C.ofV (cc := b_Book_text_0) (nL := 5) (ret := (Option.some Jvm.ClassFile.FieldType.boolean)) (by decide +kernel) rfl hi (Nat.le_of_ble_eq_true rfl) ?_
  intro p e s m below meth c B hNs hr hnm hno
  have lp15 : ∀ (nn15 : Nat) (x2 : Int32) (x4 : Int32) (hz : mv_H), mv_r hz = mv_r h → f_Book_text_0_15 74 a0 nn15 x2 x4 hz = some (rv, rg) → mv_V p l e ({ frames := 4, cells := 0, slots := 0, locals := 85 }) s m ([.ref (al 74), .ref (sk a0), .int a1, .int a2] : List Value).toArray below meth c (mg dA D al ext) 5 0 0 (mv_Q (mg dA D al ext) below s 0 0 (mv_Ri (fun v σ1 => rv = v ∧ rg = σ1 ∧ mv_r σ1 = mv_r h))) hz 15 [(0, .ref (al 74)), (1, .ref (sk a0)), (2, .int x2), (4, .int x4)] [] := by
    intro nn15
    induction nn15 with
    | zero => intro x2 x4 hz r_hz hf; cases hf
    | succ nn15 ih15 =>
      intro x2 x4 hz r_hz hf
      have hf : fF_Book_text_0_15 74 a0 (f_Book_text_0_15 74 a0 nn15) x2 x4 hz = some (rv, rg) := hf
      unfold fF_Book_text_0_15 at hf
      refine mv_iload (pc := 15) B d_Book_text_0_15 3 rfl ?_
      refine mv_aload_n (pc := 17) B d_Book_text_0_17 rfl 1 rfl ?_
      refine mv_callVOi (pc := 18) (n := 0) B (mK_ok sk sv) hNs (hNs.2.1 a0 ha0).2.1 (ch_String_length l hi _ a0 ha0) rfl (ma_goodc kc_String_length) (B.2.2.2.1 _ k_2171) (B.2.2.2.1 _ k_546) (B.2.2.2.1 _ k_547) (B.2.2.2.1 _ k_21) ⟨by decide +kernel, by decide +kernel, by decide +kernel⟩ rfl d_Book_text_0_18 rfl (Nat.le_of_ble_eq_true rfl) ⟨by decide, by decide⟩ ⟨by decide, by decide⟩ ⟨by decide, by decide⟩ (mv_noH hno _) (fun v18_ σ18 h18 => ?_)
      obtain ⟨rfl, rfl⟩ := h18
      refine mv_icmp_ge (pc := 21) (tgt := 49) B d_Book_text_0_21 rfl (fun h21 => ?_) (fun h21 => ?_)
      · skip
        have hf := xif_t h21 hf
        refine mv_iconst (pc := 49) (v := 1) B d_Book_text_0_49 (by decide) ?_
        obtain ⟨q1, hf⟩ := xzb_e hf
        exact mv_iret (pc := 50) B hr (xzb_n q1) d_Book_text_0_50 (Nat.le_refl _) (Nat.le_refl _) ⟨_, rfl, xrh_i hf r_hz⟩
      · skip
        have hf := xif_f h21 hf
        refine mv_aload_n (pc := 24) B d_Book_text_0_24 rfl 0 rfl ?_
        refine mv_iload_n (pc := 25) B d_Book_text_0_25 rfl 2 rfl ?_
        refine mv_iload (pc := 26) B d_Book_text_0_26 3 rfl ?_
        refine mv_iadd (pc := 28) B d_Book_text_0_28 ?_
        obtain ⟨u3, g2, eg2, hf⟩ := xhb_e hf
        refine mv_callVi (pc := 29) (n := 1) (ci := 12) (C := R_Book) B (mK_ok sk sv) hNs rfl rfl (ch_Book_look_x l hi _ (xrw r_hz hb) _ eg2) rfl (ma_goodc kc_Book_look) (B.2.2.2.1 _ k_2122) (B.2.2.2.1 _ k_2124) (B.2.2.2.1 _ ks_82) (B.2.2.2.1 _ k_13) ⟨by decide +kernel, by decide +kernel, by decide +kernel⟩ rfl d_Book_text_0_29 rfl (Nat.le_of_ble_eq_true rfl) ⟨by decide, by decide⟩ ⟨by decide, by decide⟩ ⟨by decide, by decide⟩ (mv_noH hno _) (fun w29 σ29 h29 => ?_)
        obtain ⟨rfl, rfl, s_g2⟩ := h29
        have r_g2 : mv_r g2 = mv_r h := s_g2.trans r_hz
        refine mv_aload_n (pc := 32) B d_Book_text_0_32 rfl 1 rfl ?_
        refine mv_iload (pc := 33) B d_Book_text_0_33 3 rfl ?_
        obtain ⟨q4, hf⟩ := xvi_e hf
        refine mv_callVOi (pc := 35) (n := 1) B (mK_ok sk sv) hNs (hNs.2.1 a0 ha0).2.1 (ch_String_charAt l hi _ a0 ha0 q4) rfl (ma_goodc kc_String_charAt) (B.2.2.2.1 _ k_2172) (B.2.2.2.1 _ k_556) (B.2.2.2.1 _ k_557) (B.2.2.2.1 _ k_21) ⟨by decide +kernel, by decide +kernel, by decide +kernel⟩ rfl d_Book_text_0_35 rfl (Nat.le_of_ble_eq_true rfl) ⟨by decide, by decide⟩ ⟨by decide, by decide⟩ ⟨by decide, by decide⟩ (mv_noH hno _) (fun v35_ σ35 h35 => ?_)
        obtain ⟨rfl, rfl⟩ := h35
        refine mv_icmp_eq (pc := 38) (tgt := 43) B d_Book_text_0_38 rfl (fun h38 => ?_) (fun h38 => ?_)
        · skip
          have hf := xif_t h38 hf
          refine mv_iinc (pc := 43) (j := 3) (v := 1) B d_Book_text_0_43 rfl (by decide) (by decide) rfl ?_
          refine mv_goto (pc := 46) (tgt := 15) B d_Book_text_0_46 rfl ?_
          refine mv_lpick [1, 2, 3, 0] rfl ?_
          exact ih15 _ _ _ r_g2 hf
        · skip
          have hf := xif_f h38 hf
          refine mv_iconst (pc := 41) (v := 0) B d_Book_text_0_41 (by decide) ?_
          obtain ⟨q5, hf⟩ := xzb_e hf
          exact mv_iret (pc := 42) B hr (xzb_n q5) d_Book_text_0_42 (Nat.le_refl _) (Nat.le_refl _) ⟨_, rfl, xrh_i hf r_g2⟩
  unfold f_Book_text_0 at hf
  refine mv_iload_n (pc := 0) B d_Book_text_0_0 rfl 3 rfl ?_
  refine mv_iload_n (pc := 1) B d_Book_text_0_1 rfl 2 rfl ?_
  refine mv_isub (pc := 2) B d_Book_text_0_2 ?_
  refine mv_aload_n (pc := 3) B d_Book_text_0_3 rfl 1 rfl ?_
  refine mv_callVOi (pc := 4) (n := 0) B (mK_ok sk sv) hNs (hNs.2.1 a0 ha0).2.1 (ch_String_length l hi _ a0 ha0) rfl (ma_goodc kc_String_length) (B.2.2.2.1 _ k_2171) (B.2.2.2.1 _ k_546) (B.2.2.2.1 _ k_547) (B.2.2.2.1 _ k_21) ⟨by decide +kernel, by decide +kernel, by decide +kernel⟩ rfl d_Book_text_0_4 rfl (Nat.le_of_ble_eq_true rfl) ⟨by decide, by decide⟩ ⟨by decide, by decide⟩ ⟨by decide, by decide⟩ (mv_noH hno _) (fun v4_ σ4 h4 => ?_)
  obtain ⟨rfl, rfl⟩ := h4
  refine mv_icmp_eq (pc := 7) (tgt := 12) B d_Book_text_0_7 rfl (fun h7 => ?_) (fun h7 => ?_)
  · skip
    have hf := xif_t h7 hf
    refine mv_iconst (pc := 12) (v := 0) B d_Book_text_0_12 (by decide) ?_
    refine mv_istore (pc := 13) B d_Book_text_0_13 (by decide) rfl ?_
    refine mv_lpick [1, 2, 3, 0] rfl ?_
    exact lp15 _ _ _ _ rfl hf
  · skip
    have hf := xif_f h7 hf
    refine mv_iconst (pc := 10) (v := 0) B d_Book_text_0_10 (by decide) ?_
    obtain ⟨q6, hf⟩ := xzb_e hf
    exact mv_iret (pc := 11) B hr (xzb_n q6) d_Book_text_0_11 (Nat.le_refl _) (Nat.le_refl _) ⟨_, rfl, xrh_i hf rfl⟩
set_option maxHeartbeats 4000000 in
set_option maxRecDepth 100000 in
theorem ch_Book_text_0_y (l : Launch) {dA : FieldType → ClassId} {D : va_G} {al : Nat → Nat} {ext : mv_Sh} {sk sv : Nat → Nat} (hi : mv_inj (mg dA D al ext)) (h : mv_H) (hb : Br 108 (mv_r h))  (a0 : Nat) (a1 : Int32) (a2 : Int32) (ha0 : a0 < st_t.length) {rv : Int32} {rg : mv_H} (hf : f_Book_text_0 108 h a0 a1 a2 = some (rv, rg)) : mv_C l y_Book_text_0 (Cond.code y_Book_text_0 b_Book_text_0 5 (Option.some Jvm.ClassFile.FieldType.boolean) :: ma) ({ frames := 4, cells := 0, slots := 0, locals := 85 }) (mg dA D al ext) (mK sk sv) [.ref (al 108), .ref (sk a0), .int a1, .int a2] h (mv_Ri (fun v σ1 => rv = v ∧ rg = σ1 ∧ mv_r σ1 = mv_r h)) := by
  refine mv_C.ofV (cc := b_Book_text_0) (nL := 5) (ret := (Option.some Jvm.ClassFile.FieldType.boolean)) (by decide +kernel) rfl hi (Nat.le_of_ble_eq_true rfl) ?_
  intro p e s m below meth c B hNs hr hnm hno
  have lp15 : ∀ (nn15 : Nat) (x2 : Int32) (x4 : Int32) (hz : mv_H), mv_r hz = mv_r h → f_Book_text_0_15 108 a0 nn15 x2 x4 hz = some (rv, rg) → mv_V p l e ({ frames := 4, cells := 0, slots := 0, locals := 85 }) s m ([.ref (al 108), .ref (sk a0), .int a1, .int a2] : List Value).toArray below meth c (mg dA D al ext) 5 0 0 (mv_Q (mg dA D al ext) below s 0 0 (mv_Ri (fun v σ1 => rv = v ∧ rg = σ1 ∧ mv_r σ1 = mv_r h))) hz 15 [(0, .ref (al 108)), (1, .ref (sk a0)), (2, .int x2), (4, .int x4)] [] := by
    intro nn15
    induction nn15 with
    | zero => intro x2 x4 hz r_hz hf; cases hf
    | succ nn15 ih15 =>
      intro x2 x4 hz r_hz hf
      have hf : fF_Book_text_0_15 108 a0 (f_Book_text_0_15 108 a0 nn15) x2 x4 hz = some (rv, rg) := hf
      unfold fF_Book_text_0_15 at hf
      refine mv_iload (pc := 15) B d_Book_text_0_15 3 rfl ?_
      refine mv_aload_n (pc := 17) B d_Book_text_0_17 rfl 1 rfl ?_
      refine mv_callVOi (pc := 18) (n := 0) B (mK_ok sk sv) hNs (hNs.2.1 a0 ha0).2.1 (ch_String_length l hi _ a0 ha0) rfl (ma_goodc kc_String_length) (B.2.2.2.1 _ k_2171) (B.2.2.2.1 _ k_546) (B.2.2.2.1 _ k_547) (B.2.2.2.1 _ k_21) ⟨by decide +kernel, by decide +kernel, by decide +kernel⟩ rfl d_Book_text_0_18 rfl (Nat.le_of_ble_eq_true rfl) ⟨by decide, by decide⟩ ⟨by decide, by decide⟩ ⟨by decide, by decide⟩ (mv_noH hno _) (fun v18_ σ18 h18 => ?_)
      obtain ⟨rfl, rfl⟩ := h18
      refine mv_icmp_ge (pc := 21) (tgt := 49) B d_Book_text_0_21 rfl (fun h21 => ?_) (fun h21 => ?_)
      · skip
        have hf := xif_t h21 hf
        refine mv_iconst (pc := 49) (v := 1) B d_Book_text_0_49 (by decide) ?_
        obtain ⟨q1, hf⟩ := xzb_e hf
        exact mv_iret (pc := 50) B hr (xzb_n q1) d_Book_text_0_50 (Nat.le_refl _) (Nat.le_refl _) ⟨_, rfl, xrh_i hf r_hz⟩
      · skip
        have hf := xif_f h21 hf
        refine mv_aload_n (pc := 24) B d_Book_text_0_24 rfl 0 rfl ?_
        refine mv_iload_n (pc := 25) B d_Book_text_0_25 rfl 2 rfl ?_
        refine mv_iload (pc := 26) B d_Book_text_0_26 3 rfl ?_
        refine mv_iadd (pc := 28) B d_Book_text_0_28 ?_
        obtain ⟨u3, g2, eg2, hf⟩ := xhb_e hf
        refine mv_callVi (pc := 29) (n := 1) (ci := 12) (C := R_Book) B (mK_ok sk sv) hNs rfl rfl (ch_Book_look_y l hi _ (xrw r_hz hb) _ eg2) rfl (ma_goodc kc_Book_look) (B.2.2.2.1 _ k_2122) (B.2.2.2.1 _ k_2124) (B.2.2.2.1 _ ks_82) (B.2.2.2.1 _ k_13) ⟨by decide +kernel, by decide +kernel, by decide +kernel⟩ rfl d_Book_text_0_29 rfl (Nat.le_of_ble_eq_true rfl) ⟨by decide, by decide⟩ ⟨by decide, by decide⟩ ⟨by decide, by decide⟩ (mv_noH hno _) (fun w29 σ29 h29 => ?_)
        obtain ⟨rfl, rfl, s_g2⟩ := h29
        have r_g2 : mv_r g2 = mv_r h := s_g2.trans r_hz
        refine mv_aload_n (pc := 32) B d_Book_text_0_32 rfl 1 rfl ?_
        refine mv_iload (pc := 33) B d_Book_text_0_33 3 rfl ?_
        obtain ⟨q4, hf⟩ := xvi_e hf
        refine mv_callVOi (pc := 35) (n := 1) B (mK_ok sk sv) hNs (hNs.2.1 a0 ha0).2.1 (ch_String_charAt l hi _ a0 ha0 q4) rfl (ma_goodc kc_String_charAt) (B.2.2.2.1 _ k_2172) (B.2.2.2.1 _ k_556) (B.2.2.2.1 _ k_557) (B.2.2.2.1 _ k_21) ⟨by decide +kernel, by decide +kernel, by decide +kernel⟩ rfl d_Book_text_0_35 rfl (Nat.le_of_ble_eq_true rfl) ⟨by decide, by decide⟩ ⟨by decide, by decide⟩ ⟨by decide, by decide⟩ (mv_noH hno _) (fun v35_ σ35 h35 => ?_)
        obtain ⟨rfl, rfl⟩ := h35
        refine mv_icmp_eq (pc := 38) (tgt := 43) B d_Book_text_0_38 rfl (fun h38 => ?_) (fun h38 => ?_)
        · skip
          have hf := xif_t h38 hf
          refine mv_iinc (pc := 43) (j := 3) (v := 1) B d_Book_text_0_43 rfl (by decide) (by decide) rfl ?_
          refine mv_goto (pc := 46) (tgt := 15) B d_Book_text_0_46 rfl ?_
          refine mv_lpick [1, 2, 3, 0] rfl ?_
          exact ih15 _ _ _ r_g2 hf
        · skip
          have hf := xif_f h38 hf
          refine mv_iconst (pc := 41) (v := 0) B d_Book_text_0_41 (by decide) ?_
          obtain ⟨q5, hf⟩ := xzb_e hf
          exact mv_iret (pc := 42) B hr (xzb_n q5) d_Book_text_0_42 (Nat.le_refl _) (Nat.le_refl _) ⟨_, rfl, xrh_i hf r_g2⟩
  unfold f_Book_text_0 at hf
  refine mv_iload_n (pc := 0) B d_Book_text_0_0 rfl 3 rfl ?_
  refine mv_iload_n (pc := 1) B d_Book_text_0_1 rfl 2 rfl ?_
  refine mv_isub (pc := 2) B d_Book_text_0_2 ?_
  refine mv_aload_n (pc := 3) B d_Book_text_0_3 rfl 1 rfl ?_
  refine mv_callVOi (pc := 4) (n := 0) B (mK_ok sk sv) hNs (hNs.2.1 a0 ha0).2.1 (ch_String_length l hi _ a0 ha0) rfl (ma_goodc kc_String_length) (B.2.2.2.1 _ k_2171) (B.2.2.2.1 _ k_546) (B.2.2.2.1 _ k_547) (B.2.2.2.1 _ k_21) ⟨by decide +kernel, by decide +kernel, by decide +kernel⟩ rfl d_Book_text_0_4 rfl (Nat.le_of_ble_eq_true rfl) ⟨by decide, by decide⟩ ⟨by decide, by decide⟩ ⟨by decide, by decide⟩ (mv_noH hno _) (fun v4_ σ4 h4 => ?_)
  obtain ⟨rfl, rfl⟩ := h4
  refine mv_icmp_eq (pc := 7) (tgt := 12) B d_Book_text_0_7 rfl (fun h7 => ?_) (fun h7 => ?_)
  · skip
    have hf := xif_t h7 hf
    refine mv_iconst (pc := 12) (v := 0) B d_Book_text_0_12 (by decide) ?_
    refine mv_istore (pc := 13) B d_Book_text_0_13 (by decide) rfl ?_
    refine mv_lpick [1, 2, 3, 0] rfl ?_
    exact lp15 _ _ _ _ rfl hf
  · skip
    have hf := xif_f h7 hf
    refine mv_iconst (pc := 10) (v := 0) B d_Book_text_0_10 (by decide) ?_
    obtain ⟨q6, hf⟩ := xzb_e hf
    exact mv_iret (pc := 11) B hr (xzb_n q6) d_Book_text_0_11 (Nat.le_refl _) (Nat.le_refl _) ⟨_, rfl, xrh_i hf rfl⟩
def f_Book_is_28 (P : Nat) (a0 : Nat) (hz : mv_H) : Option (Int32 × mv_H) := bif xzb (0 : Int32) then some ((0 : Int32), hz) else none
def f_Book_is (P : Nat) (h : mv_H) (a0 : Nat) : Option (Int32 × mv_H) := if (mv_i h P 4) = (1 : Int32) then (xhb (f_Book_text_0 P h a0 (mv_i h P 5) (mv_i h P 6)) fun u3 g2 => if u3 = (0 : Int32) then (f_Book_is_28 P a0  g2) else (bif xzb (1 : Int32) then some ((1 : Int32), g2) else none)) else (f_Book_is_28 P a0  h)
set_option maxHeartbeats 4000000 in
set_option maxRecDepth 100000 in
theorem ch_Book_is_x (l : Launch) {dA : FieldType → ClassId} {D : va_G} {al : Nat → Nat} {ext : mv_Sh} {sk sv : Nat → Nat} (hi : mv_inj (mg dA D al ext)) (h : mv_H) (hb : Br 74 (mv_r h))  (a0 : Nat) (ha0 : a0 < st_t.length) {rv : Int32} {rg : mv_H} (hf : f_Book_is 74 h a0 = some (rv, rg)) : mv_C l y_Book_is (Cond.code y_Book_is b_Book_is 2 (Option.some Jvm.ClassFile.FieldType.boolean) :: ma) ({ frames := 5, cells := 0, slots := 0, locals := 109 }) (mg dA D al ext) (mK sk sv) [.ref (al 74), .ref (sk a0)] h (mv_Ri (fun v σ1 => rv = v ∧ rg = σ1 ∧ mv_r σ1 = mv_r h)) := by
  refine mv_C.ofV (cc := b_Book_is) (nL := 2) (ret := (Option.some Jvm.ClassFile.FieldType.boolean)) (by decide +kernel) rfl hi (Nat.le_of_ble_eq_true rfl) ?_
  intro p e s m below meth c B hNs hr hnm hno
  have jn28 : ∀ (hz : mv_H), mv_r hz = mv_r h → f_Book_is_28 74 a0  hz = some (rv, rg) → mv_V p l e ({ frames := 5, cells := 0, slots := 0, locals := 109 }) s m ([.ref (al 74), .ref (sk a0)] : List Value).toArray below meth c (mg dA D al ext) 2 0 0 (mv_Q (mg dA D al ext) below s 0 0 (mv_Ri (fun v σ1 => rv = v ∧ rg = σ1 ∧ mv_r σ1 = mv_r h))) hz 28 [] [] := by
    intro  hz r_hz hf
    unfold f_Book_is_28 at hf
    refine mv_iconst (pc := 28) (v := 0) B d_Book_is_28 (by decide) ?_
    obtain ⟨q1, hf⟩ := xzb_e hf
    exact mv_iret (pc := 29) B hr (xzb_n q1) d_Book_is_29 (Nat.le_refl _) (Nat.le_refl _) ⟨_, rfl, xrh_i hf r_hz⟩
  unfold f_Book_is at hf
  refine mv_aload_n (pc := 0) B d_Book_is_0 rfl 0 rfl ?_
  refine mv_getI (pc := 1) (ci := 12) (C := R_Book) (T := F_Book) (N := 65) B 4 rfl rfl (by decide) i_Book (B.2.2.2.1 _ k_1847) rfl d_Book_is_1 ?_
  refine mv_iconst (pc := 4) (v := 1) B d_Book_is_4 (by decide) ?_
  refine mv_icmp_ne (pc := 5) (tgt := 28) B d_Book_is_5 rfl (fun h5 => ?_) (fun h5 => ?_)
  · skip
    have hf := xif_f h5 hf
    refine mv_lpick [] rfl ?_
    exact jn28  _ rfl hf
  · skip
    have hf := xif_t h5 hf
    refine mv_aload_n (pc := 8) B d_Book_is_8 rfl 0 rfl ?_
    refine mv_aload_n (pc := 9) B d_Book_is_9 rfl 1 rfl ?_
    refine mv_aload_n (pc := 10) B d_Book_is_10 rfl 0 rfl ?_
    refine mv_getI (pc := 11) (ci := 12) (C := R_Book) (T := F_Book) (N := 65) B 5 rfl rfl (by decide) i_Book (B.2.2.2.1 _ k_1848) rfl d_Book_is_11 ?_
    refine mv_aload_n (pc := 14) B d_Book_is_14 rfl 0 rfl ?_
    refine mv_getI (pc := 15) (ci := 12) (C := R_Book) (T := F_Book) (N := 65) B 6 rfl rfl (by decide) i_Book (B.2.2.2.1 _ k_1849) rfl d_Book_is_15 ?_
    obtain ⟨u3, g2, eg2, hf⟩ := xhb_e hf
    refine mv_callVi (pc := 18) (n := 3) (ci := 12) (C := R_Book) B (mK_ok sk sv) hNs rfl rfl (ch_Book_text_0_x l hi _ (hb) _ _ _ ha0 eg2) rfl (ma_goodc kc_Book_text_0) (B.2.2.2.1 _ k_2167) (B.2.2.2.1 _ k_2169) (B.2.2.2.1 _ ks_89) (B.2.2.2.1 _ k_13) ⟨by decide +kernel, by decide +kernel, by decide +kernel⟩ rfl d_Book_is_18 rfl (Nat.le_of_ble_eq_true rfl) ⟨by decide, by decide⟩ ⟨by decide, by decide⟩ ⟨by decide, by decide⟩ (mv_noH hno _) (fun w18 σ18 h18 => ?_)
    obtain ⟨rfl, rfl, s_g2⟩ := h18
    have r_g2 : mv_r g2 = mv_r h := s_g2.trans rfl
    refine mv_if_eq (pc := 21) (tgt := 28) B d_Book_is_21 rfl (fun h21 => ?_) (fun h21 => ?_)
    · skip
      have hf := xif_t h21 hf
      refine mv_lpick [] rfl ?_
      exact jn28  _ r_g2 hf
    · skip
      have hf := xif_f h21 hf
      refine mv_iconst (pc := 24) (v := 1) B d_Book_is_24 (by decide) ?_
      refine mv_goto (pc := 25) (tgt := 29) B d_Book_is_25 rfl ?_
      obtain ⟨q4, hf⟩ := xzb_e hf
      exact mv_iret (pc := 29) B hr (xzb_n q4) d_Book_is_29 (Nat.le_refl _) (Nat.le_refl _) ⟨_, rfl, xrh_i hf r_g2⟩
set_option maxHeartbeats 4000000 in
set_option maxRecDepth 100000 in
theorem ch_Book_is_y (l : Launch) {dA : FieldType → ClassId} {D : va_G} {al : Nat → Nat} {ext : mv_Sh} {sk sv : Nat → Nat} (hi : mv_inj (mg dA D al ext)) (h : mv_H) (hb : Br 108 (mv_r h))  (a0 : Nat) (ha0 : a0 < st_t.length) {rv : Int32} {rg : mv_H} (hf : f_Book_is 108 h a0 = some (rv, rg)) : mv_C l y_Book_is (Cond.code y_Book_is b_Book_is 2 (Option.some Jvm.ClassFile.FieldType.boolean) :: ma) ({ frames := 5, cells := 0, slots := 0, locals := 109 }) (mg dA D al ext) (mK sk sv) [.ref (al 108), .ref (sk a0)] h (mv_Ri (fun v σ1 => rv = v ∧ rg = σ1 ∧ mv_r σ1 = mv_r h)) := by
  refine mv_C.ofV (cc := b_Book_is) (nL := 2) (ret := (Option.some Jvm.ClassFile.FieldType.boolean)) (by decide +kernel) rfl hi (Nat.le_of_ble_eq_true rfl) ?_
  intro p e s m below meth c B hNs hr hnm hno
  have jn28 : ∀ (hz : mv_H), mv_r hz = mv_r h → f_Book_is_28 108 a0  hz = some (rv, rg) → mv_V p l e ({ frames := 5, cells := 0, slots := 0, locals := 109 }) s m ([.ref (al 108), .ref (sk a0)] : List Value).toArray below meth c (mg dA D al ext) 2 0 0 (mv_Q (mg dA D al ext) below s 0 0 (mv_Ri (fun v σ1 => rv = v ∧ rg = σ1 ∧ mv_r σ1 = mv_r h))) hz 28 [] [] := by
    intro  hz r_hz hf
    unfold f_Book_is_28 at hf
    refine mv_iconst (pc := 28) (v := 0) B d_Book_is_28 (by decide) ?_
    obtain ⟨q1, hf⟩ := xzb_e hf
    exact mv_iret (pc := 29) B hr (xzb_n q1) d_Book_is_29 (Nat.le_refl _) (Nat.le_refl _) ⟨_, rfl, xrh_i hf r_hz⟩
  unfold f_Book_is at hf
  refine mv_aload_n (pc := 0) B d_Book_is_0 rfl 0 rfl ?_
  refine mv_getI (pc := 1) (ci := 12) (C := R_Book) (T := F_Book) (N := 65) B 4 rfl rfl (by decide) i_Book (B.2.2.2.1 _ k_1847) rfl d_Book_is_1 ?_
  refine mv_iconst (pc := 4) (v := 1) B d_Book_is_4 (by decide) ?_
  refine mv_icmp_ne (pc := 5) (tgt := 28) B d_Book_is_5 rfl (fun h5 => ?_) (fun h5 => ?_)
  · skip
    have hf := xif_f h5 hf
    refine mv_lpick [] rfl ?_
    exact jn28  _ rfl hf
  · skip
    have hf := xif_t h5 hf
    refine mv_aload_n (pc := 8) B d_Book_is_8 rfl 0 rfl ?_
    refine mv_aload_n (pc := 9) B d_Book_is_9 rfl 1 rfl ?_
    refine mv_aload_n (pc := 10) B d_Book_is_10 rfl 0 rfl ?_
    refine mv_getI (pc := 11) (ci := 12) (C := R_Book) (T := F_Book) (N := 65) B 5 rfl rfl (by decide) i_Book (B.2.2.2.1 _ k_1848) rfl d_Book_is_11 ?_
    refine mv_aload_n (pc := 14) B d_Book_is_14 rfl 0 rfl ?_
    refine mv_getI (pc := 15) (ci := 12) (C := R_Book) (T := F_Book) (N := 65) B 6 rfl rfl (by decide) i_Book (B.2.2.2.1 _ k_1849) rfl d_Book_is_15 ?_
    obtain ⟨u3, g2, eg2, hf⟩ := xhb_e hf
    refine mv_callVi (pc := 18) (n := 3) (ci := 12) (C := R_Book) B (mK_ok sk sv) hNs rfl rfl (ch_Book_text_0_y l hi _ (hb) _ _ _ ha0 eg2) rfl (ma_goodc kc_Book_text_0) (B.2.2.2.1 _ k_2167) (B.2.2.2.1 _ k_2169) (B.2.2.2.1 _ ks_89) (B.2.2.2.1 _ k_13) ⟨by decide +kernel, by decide +kernel, by decide +kernel⟩ rfl d_Book_is_18 rfl (Nat.le_of_ble_eq_true rfl) ⟨by decide, by decide⟩ ⟨by decide, by decide⟩ ⟨by decide, by decide⟩ (mv_noH hno _) (fun w18 σ18 h18 => ?_)
    obtain ⟨rfl, rfl, s_g2⟩ := h18
    have r_g2 : mv_r g2 = mv_r h := s_g2.trans rfl
    refine mv_if_eq (pc := 21) (tgt := 28) B d_Book_is_21 rfl (fun h21 => ?_) (fun h21 => ?_)
    · skip
      have hf := xif_t h21 hf
      refine mv_lpick [] rfl ?_
      exact jn28  _ r_g2 hf
    · skip
      have hf := xif_f h21 hf
      refine mv_iconst (pc := 24) (v := 1) B d_Book_is_24 (by decide) ?_
      refine mv_goto (pc := 25) (tgt := 29) B d_Book_is_25 rfl ?_
      obtain ⟨q4, hf⟩ := xzb_e hf
      exact mv_iret (pc := 29) B hr (xzb_n q4) d_Book_is_29 (Nat.le_refl _) (Nat.le_refl _) ⟨_, rfl, xrh_i hf r_g2⟩
def f_Book_needWord (P : Nat) (h : mv_H) (a0 : Nat) : Option (Option Int32 × mv_H) := xhb (f_Book_is P h a0) fun u2 g1 => if u2 = (0 : Int32) then (xk (mv_si g1 (P + 33) 0 (mv_i g1 P 5)) fun g5 => some (none, g5)) else (xtb (f_Book_pass P g1) fun u4 g3 => some (some 0, g3))
set_option maxHeartbeats 4000000 in
set_option maxRecDepth 100000 in
theorem ch_Book_needWord_x (l : Launch) {dA : FieldType → ClassId} {D : va_G} {al : Nat → Nat} {ext : mv_Sh} {sk sv : Nat → Nat} (hi : mv_inj (mg dA D al ext)) (h : mv_H) (hb : Br 74 (mv_r h))  (a0 : Nat) (ha0 : a0 < st_t.length) {rv : Option Int32} {rg : mv_H} (hf : f_Book_needWord 74 h a0 = some (rv, rg)) : mv_C l y_Book_needWord (Cond.code y_Book_needWord b_Book_needWord 2 (Option.none : Option Jvm.ClassFile.FieldType) :: ma) ({ frames := 6, cells := 0, slots := 0, locals := 130 }) (mg dA D al ext) (mK sk sv) [.ref (al 74), .ref (sk a0)] h (mv_Uv (fun σ1 => rv = some 0 ∧ rg = σ1 ∧ mv_r σ1 = mv_r h) ("MachineLoomModel$Book$Wrong", al 107) (fun σ1 => rv = none ∧ rg = σ1 ∧ mv_r σ1 = mv_r h)) := by
  refine mv_C.ofV (cc := b_Book_needWord) (nL := 2) (ret := (Option.none : Option Jvm.ClassFile.FieldType)) (by decide +kernel) rfl hi (Nat.le_of_ble_eq_true rfl) ?_
  intro p e s m below meth c B hNs hr hnm hno
  unfold f_Book_needWord at hf
  refine mv_aload_n (pc := 0) B d_Book_needWord_0 rfl 0 rfl ?_
  refine mv_aload_n (pc := 1) B d_Book_needWord_1 rfl 1 rfl ?_
  obtain ⟨u2, g1, eg1, hf⟩ := xhb_e hf
  refine mv_callVi (pc := 2) (n := 1) (ci := 12) (C := R_Book) B (mK_ok sk sv) hNs rfl rfl (ch_Book_is_x l hi _ (hb) _ ha0 eg1) rfl (ma_goodc kc_Book_is) (B.2.2.2.1 _ k_2163) (B.2.2.2.1 _ k_2165) (B.2.2.2.1 _ ks_88) (B.2.2.2.1 _ k_13) ⟨by decide +kernel, by decide +kernel, by decide +kernel⟩ rfl d_Book_needWord_2 rfl (Nat.le_of_ble_eq_true rfl) ⟨by decide, by decide⟩ ⟨by decide, by decide⟩ ⟨by decide, by decide⟩ (mv_noH hno _) (fun w2 σ2 h2 => ?_)
  obtain ⟨rfl, rfl, s_g1⟩ := h2
  have r_g1 : mv_r g1 = mv_r h := s_g1.trans rfl
  refine mv_if_ne (pc := 5) (tgt := 17) B d_Book_needWord_5 rfl (fun h5 => ?_) (fun h5 => ?_)
  · skip
    have hf := xif_f h5 hf
    refine mv_aload_n (pc := 17) B d_Book_needWord_17 rfl 0 rfl ?_
    obtain ⟨og3, g3, eg3, hf⟩ := xtb_e hf
    refine mv_callVUv (pc := 18) (n := 0) (ci := 12) (C := R_Book) B (mK_ok sk sv) hNs rfl rfl (ch_Book_pass_x l hi _ (xrw r_g1 hb) eg3) rfl (ma_goodc kc_Book_pass) (B.2.2.2.1 _ k_2173) (B.2.2.2.1 _ k_2175) (B.2.2.2.1 _ ks_90) (B.2.2.2.1 _ k_13) ⟨by decide +kernel, by decide +kernel, by decide +kernel⟩ rfl d_Book_needWord_18 rfl (Nat.le_of_ble_eq_true rfl) ⟨by decide, by decide⟩ ⟨by decide, by decide⟩ ⟨by decide, by decide⟩ (mv_noH hno _) (fun τ9 g9 => Or.inr ⟨rfl, xth hf g9 r_g1⟩) (fun σ18 h18 => ?_)
    obtain ⟨rfl, rfl, s_g3⟩ := h18
    have hf := xt2_s hf
    have r_g3 : mv_r g3 = mv_r h := s_g3.trans r_g1
    exact mv_vret (pc := 21) B hr d_Book_needWord_21 (Nat.le_refl _) (Nat.le_refl _) (Or.inl ⟨rfl, xrt_i hf r_g3⟩)
  · skip
    have hf := xif_t h5 hf
    refine mv_aload_n (pc := 8) B d_Book_needWord_8 rfl 0 rfl ?_
    refine mv_aload_n (pc := 9) B d_Book_needWord_9 rfl 0 rfl ?_
    refine mv_getI (pc := 10) (ci := 12) (C := R_Book) (T := F_Book) (N := 65) B 5 rfl rfl (by decide) i_Book (B.2.2.2.1 _ k_1848) rfl d_Book_needWord_10 ?_
    refine mv_callVr (pc := 13) (n := 1) (ci := 12) (C := R_Book) B (mK_ok sk sv) hNs rfl rfl (c_Book_wrongAt_x l hi _ _ (xrw r_g1 hb)) rfl (ma_goodc kc_Book_wrongAt) (B.2.2.2.1 _ k_2154) (B.2.2.2.1 _ k_2156) (B.2.2.2.1 _ ks_86) (B.2.2.2.1 _ k_13) ⟨by decide +kernel, by decide +kernel, by decide +kernel⟩ rfl d_Book_needWord_13 rfl (Nat.le_of_ble_eq_true rfl) ⟨by decide, by decide⟩ ⟨by decide, by decide⟩ ⟨by decide, by decide⟩ (mv_noH hno _) (fun σ13 h13 => ?_)
    obtain ⟨-, h13⟩ := h13
    subst h13
    refine mvh_hp (R9 := mv_r h) hf r_g1 (fun g5 hf r_g5 => ?_)
    exact mv_athrowO (pc := 16) (o := 107) B rfl rfl (mv_noH hno _) d_Book_needWord_16 (Nat.le_refl _) (Nat.le_refl _) (Or.inr ⟨rfl, xrt_t hf r_g5⟩)
set_option maxHeartbeats 4000000 in
set_option maxRecDepth 100000 in
theorem ch_Book_needWord_y (l : Launch) {dA : FieldType → ClassId} {D : va_G} {al : Nat → Nat} {ext : mv_Sh} {sk sv : Nat → Nat} (hi : mv_inj (mg dA D al ext)) (h : mv_H) (hb : Br 108 (mv_r h))  (a0 : Nat) (ha0 : a0 < st_t.length) {rv : Option Int32} {rg : mv_H} (hf : f_Book_needWord 108 h a0 = some (rv, rg)) : mv_C l y_Book_needWord (Cond.code y_Book_needWord b_Book_needWord 2 (Option.none : Option Jvm.ClassFile.FieldType) :: ma) ({ frames := 6, cells := 0, slots := 0, locals := 130 }) (mg dA D al ext) (mK sk sv) [.ref (al 108), .ref (sk a0)] h (mv_Uv (fun σ1 => rv = some 0 ∧ rg = σ1 ∧ mv_r σ1 = mv_r h) ("MachineLoomModel$Book$Wrong", al 141) (fun σ1 => rv = none ∧ rg = σ1 ∧ mv_r σ1 = mv_r h)) := by
  refine mv_C.ofV (cc := b_Book_needWord) (nL := 2) (ret := (Option.none : Option Jvm.ClassFile.FieldType)) (by decide +kernel) rfl hi (Nat.le_of_ble_eq_true rfl) ?_
  intro p e s m below meth c B hNs hr hnm hno
  unfold f_Book_needWord at hf
  refine mv_aload_n (pc := 0) B d_Book_needWord_0 rfl 0 rfl ?_
  refine mv_aload_n (pc := 1) B d_Book_needWord_1 rfl 1 rfl ?_
  obtain ⟨u2, g1, eg1, hf⟩ := xhb_e hf
  refine mv_callVi (pc := 2) (n := 1) (ci := 12) (C := R_Book) B (mK_ok sk sv) hNs rfl rfl (ch_Book_is_y l hi _ (hb) _ ha0 eg1) rfl (ma_goodc kc_Book_is) (B.2.2.2.1 _ k_2163) (B.2.2.2.1 _ k_2165) (B.2.2.2.1 _ ks_88) (B.2.2.2.1 _ k_13) ⟨by decide +kernel, by decide +kernel, by decide +kernel⟩ rfl d_Book_needWord_2 rfl (Nat.le_of_ble_eq_true rfl) ⟨by decide, by decide⟩ ⟨by decide, by decide⟩ ⟨by decide, by decide⟩ (mv_noH hno _) (fun w2 σ2 h2 => ?_)
  obtain ⟨rfl, rfl, s_g1⟩ := h2
  have r_g1 : mv_r g1 = mv_r h := s_g1.trans rfl
  refine mv_if_ne (pc := 5) (tgt := 17) B d_Book_needWord_5 rfl (fun h5 => ?_) (fun h5 => ?_)
  · skip
    have hf := xif_f h5 hf
    refine mv_aload_n (pc := 17) B d_Book_needWord_17 rfl 0 rfl ?_
    obtain ⟨og3, g3, eg3, hf⟩ := xtb_e hf
    refine mv_callVUv (pc := 18) (n := 0) (ci := 12) (C := R_Book) B (mK_ok sk sv) hNs rfl rfl (ch_Book_pass_y l hi _ (xrw r_g1 hb) eg3) rfl (ma_goodc kc_Book_pass) (B.2.2.2.1 _ k_2173) (B.2.2.2.1 _ k_2175) (B.2.2.2.1 _ ks_90) (B.2.2.2.1 _ k_13) ⟨by decide +kernel, by decide +kernel, by decide +kernel⟩ rfl d_Book_needWord_18 rfl (Nat.le_of_ble_eq_true rfl) ⟨by decide, by decide⟩ ⟨by decide, by decide⟩ ⟨by decide, by decide⟩ (mv_noH hno _) (fun τ9 g9 => Or.inr ⟨rfl, xth hf g9 r_g1⟩) (fun σ18 h18 => ?_)
    obtain ⟨rfl, rfl, s_g3⟩ := h18
    have hf := xt2_s hf
    have r_g3 : mv_r g3 = mv_r h := s_g3.trans r_g1
    exact mv_vret (pc := 21) B hr d_Book_needWord_21 (Nat.le_refl _) (Nat.le_refl _) (Or.inl ⟨rfl, xrt_i hf r_g3⟩)
  · skip
    have hf := xif_t h5 hf
    refine mv_aload_n (pc := 8) B d_Book_needWord_8 rfl 0 rfl ?_
    refine mv_aload_n (pc := 9) B d_Book_needWord_9 rfl 0 rfl ?_
    refine mv_getI (pc := 10) (ci := 12) (C := R_Book) (T := F_Book) (N := 65) B 5 rfl rfl (by decide) i_Book (B.2.2.2.1 _ k_1848) rfl d_Book_needWord_10 ?_
    refine mv_callVr (pc := 13) (n := 1) (ci := 12) (C := R_Book) B (mK_ok sk sv) hNs rfl rfl (c_Book_wrongAt_y l hi _ _ (xrw r_g1 hb)) rfl (ma_goodc kc_Book_wrongAt) (B.2.2.2.1 _ k_2154) (B.2.2.2.1 _ k_2156) (B.2.2.2.1 _ ks_86) (B.2.2.2.1 _ k_13) ⟨by decide +kernel, by decide +kernel, by decide +kernel⟩ rfl d_Book_needWord_13 rfl (Nat.le_of_ble_eq_true rfl) ⟨by decide, by decide⟩ ⟨by decide, by decide⟩ ⟨by decide, by decide⟩ (mv_noH hno _) (fun σ13 h13 => ?_)
    obtain ⟨-, h13⟩ := h13
    subst h13
    refine mvh_hp (R9 := mv_r h) hf r_g1 (fun g5 hf r_g5 => ?_)
    exact mv_athrowO (pc := 16) (o := 141) B rfl rfl (mv_noH hno _) d_Book_needWord_16 (Nat.le_refl _) (Nat.le_refl _) (Or.inr ⟨rfl, xrt_t hf r_g5⟩)
def f_Book_reserved_135 (P : Nat) (k25 : Int32 → mv_H → Option (Int32 × mv_H)) (x1 : Int32) (hz : mv_H) : Option (Int32 × mv_H) := k25 (x1 + 1) hz
def f_Book_reserved_123 (P : Nat) (k25 : Int32 → mv_H → Option (Int32 × mv_H)) (k90 : Int32 → Int32 → Int32 → mv_H → Option (Int32 × mv_H)) (x1 : Int32) (x2 : Int32) (x3 : Int32) (hz : mv_H) : Option (Int32 × mv_H) := k90 x1 x2 (x3 + 1) hz
def fF_Book_reserved_90 (P : Nat) (k25 : Int32 → mv_H → Option (Int32 × mv_H)) (k90 : Int32 → Int32 → Int32 → mv_H → Option (Int32 × mv_H)) (x1 : Int32) (x2 : Int32) (x3 : Int32) (hz : mv_H) : Option (Int32 × mv_H) := if (mv_i hz P 6) ≤ x3 then (if x2 = (0 : Int32) then (f_Book_reserved_135 P k25 x1 hz) else (bif xzb (1 : Int32) then some ((1 : Int32), hz) else none)) else (xhb (f_Book_look P hz x3) fun u3 g2 => bif xvi (((x1 + (1 : Int32)) + x3) - (mv_i g2 P 5)) (st_g 141).2.2.2.length then if u3 = ((st_g 141).2.2.2.getD ((((x1 + (1 : Int32)) + x3) - (mv_i g2 P 5))).toNatClampNeg 0 &&& 255) then (f_Book_reserved_123 P k25 k90 x1 x2 x3 g2) else (f_Book_reserved_123 P k25 k90 x1 (0 : Int32) x3 g2) else none)
def f_Book_reserved_90 (P : Nat) (k25 : Int32 → mv_H → Option (Int32 × mv_H)) : Nat → Int32 → Int32 → Int32 → mv_H → Option (Int32 × mv_H)
  | 0 => fun _ _ _ _ => none
  | nn + 1 => fF_Book_reserved_90 P k25 (f_Book_reserved_90 P k25 nn)
def fF_Book_reserved_25 (P : Nat) (k25 : Int32 → mv_H → Option (Int32 × mv_H)) (x1 : Int32) (hz : mv_H) : Option (Int32 × mv_H) := if (Int32.ofNat (st_g 141).2.2.2.length) ≤ (((x1 + (mv_i hz P 6)) - (mv_i hz P 5)) + (1 : Int32)) then (bif xzb (0 : Int32) then some ((0 : Int32), hz) else none) else (bif xvi x1 (st_g 141).2.2.2.length then if ((st_g 141).2.2.2.getD (x1).toNatClampNeg 0 &&& 255) = (32 : Int32) then (bif xvi (((x1 + (1 : Int32)) + (mv_i hz P 6)) - (mv_i hz P 5)) (st_g 141).2.2.2.length then if ((st_g 141).2.2.2.getD ((((x1 + (1 : Int32)) + (mv_i hz P 6)) - (mv_i hz P 5))).toNatClampNeg 0 &&& 255) = (32 : Int32) then (f_Book_reserved_90 P k25 200000 x1 (1 : Int32) (mv_i hz P 5) hz) else (f_Book_reserved_135 P k25 x1 hz) else none) else (f_Book_reserved_135 P k25 x1 hz) else none)
def f_Book_reserved_25 (P : Nat) : Nat → Int32 → mv_H → Option (Int32 × mv_H)
  | 0 => fun _ _ => none
  | nn + 1 => fF_Book_reserved_25 P (f_Book_reserved_25 P nn)
def f_Book_reserved_21 (P : Nat) (hz : mv_H) : Option (Int32 × mv_H) := bif xzb (0 : Int32) then some ((0 : Int32), hz) else none
def f_Book_reserved (P : Nat) (h : mv_H) : Option (Int32 × mv_H) := if (mv_i h P 4) = (1 : Int32) then (if ((mv_i h P 6) - (mv_i h P 5)) ≤ (5 : Int32) then (f_Book_reserved_25 P 200000 (0 : Int32) h) else (f_Book_reserved_21 P  h)) else (f_Book_reserved_21 P  h)
set_option maxHeartbeats 4000000 in
set_option maxRecDepth 100000 in
theorem ch_Book_reserved_x (l : Launch) {dA : FieldType → ClassId} {D : va_G} {al : Nat → Nat} {ext : mv_Sh} {sk sv : Nat → Nat} (hi : mv_inj (mg dA D al ext)) (h : mv_H) (hb : Br 74 (mv_r h))  {rv : Int32} {rg : mv_H} (hf : f_Book_reserved 74 h = some (rv, rg)) : mv_C l y_Book_reserved (Cond.code y_Book_reserved b_Book_reserved 4 (Option.some Jvm.ClassFile.FieldType.boolean) :: ma) ({ frames := 4, cells := 0, slots := 0, locals := 85 }) (mg dA D al ext) (mK sk sv) [.ref (al 74)] h (mv_Ri (fun v σ1 => rv = v ∧ rg = σ1 ∧ mv_r σ1 = mv_r h)) := by
  refine mv_C.ofV (cc := b_Book_reserved) (nL := 4) (ret := (Option.some Jvm.ClassFile.FieldType.boolean)) (by decide +kernel) rfl hi (Nat.le_of_ble_eq_true rfl) ?_
  intro p e s m below meth c B hNs hr hnm hno
  have lp25 : ∀ (nn25 : Nat) (x1 : Int32) (hz : mv_H), mv_r hz = mv_r h → f_Book_reserved_25 74 nn25 x1 hz = some (rv, rg) → mv_V p l e ({ frames := 4, cells := 0, slots := 0, locals := 85 }) s m ([.ref (al 74)] : List Value).toArray below meth c (mg dA D al ext) 4 0 0 (mv_Q (mg dA D al ext) below s 0 0 (mv_Ri (fun v σ1 => rv = v ∧ rg = σ1 ∧ mv_r σ1 = mv_r h))) hz 25 [(0, .ref (al 74)), (1, .int x1)] [] := by
    intro nn25
    induction nn25 with
    | zero => intro x1 hz r_hz hf; cases hf
    | succ nn25 ih25 =>
      intro x1 hz r_hz hf
      have jn135 : ∀ (x1 : Int32) (hz : mv_H), mv_r hz = mv_r h → f_Book_reserved_135 74 (f_Book_reserved_25 74 nn25) x1 hz = some (rv, rg) → mv_V p l e ({ frames := 4, cells := 0, slots := 0, locals := 85 }) s m ([.ref (al 74)] : List Value).toArray below meth c (mg dA D al ext) 4 0 0 (mv_Q (mg dA D al ext) below s 0 0 (mv_Ri (fun v σ1 => rv = v ∧ rg = σ1 ∧ mv_r σ1 = mv_r h))) hz 135 [(0, .ref (al 74)), (1, .int x1)] [] := by
        intro x1 hz r_hz hf
        unfold f_Book_reserved_135 at hf
        refine mv_iinc (pc := 135) (j := 1) (v := 1) B d_Book_reserved_135 rfl (by decide) (by decide) rfl ?_
        refine mv_goto (pc := 138) (tgt := 25) B d_Book_reserved_138 rfl ?_
        refine mv_lpick [1, 0] rfl ?_
        exact ih25 _ _ r_hz hf
      have lp90 : ∀ (nn90 : Nat) (x1 : Int32) (x2 : Int32) (x3 : Int32) (hz : mv_H), mv_r hz = mv_r h → f_Book_reserved_90 74 (f_Book_reserved_25 74 nn25) nn90 x1 x2 x3 hz = some (rv, rg) → mv_V p l e ({ frames := 4, cells := 0, slots := 0, locals := 85 }) s m ([.ref (al 74)] : List Value).toArray below meth c (mg dA D al ext) 4 0 0 (mv_Q (mg dA D al ext) below s 0 0 (mv_Ri (fun v σ1 => rv = v ∧ rg = σ1 ∧ mv_r σ1 = mv_r h))) hz 90 [(0, .ref (al 74)), (1, .int x1), (2, .int x2), (3, .int x3)] [] := by
        intro nn90
        induction nn90 with
        | zero => intro x1 x2 x3 hz r_hz hf; cases hf
        | succ nn90 ih90 =>
          intro x1 x2 x3 hz r_hz hf
          have jn123 : ∀ (x1 : Int32) (x2 : Int32) (x3 : Int32) (hz : mv_H), mv_r hz = mv_r h → f_Book_reserved_123 74 (f_Book_reserved_25 74 nn25) (f_Book_reserved_90 74 (f_Book_reserved_25 74 nn25) nn90) x1 x2 x3 hz = some (rv, rg) → mv_V p l e ({ frames := 4, cells := 0, slots := 0, locals := 85 }) s m ([.ref (al 74)] : List Value).toArray below meth c (mg dA D al ext) 4 0 0 (mv_Q (mg dA D al ext) below s 0 0 (mv_Ri (fun v σ1 => rv = v ∧ rg = σ1 ∧ mv_r σ1 = mv_r h))) hz 123 [(0, .ref (al 74)), (1, .int x1), (2, .int x2), (3, .int x3)] [] := by
            intro x1 x2 x3 hz r_hz hf
            unfold f_Book_reserved_123 at hf
            refine mv_iinc (pc := 123) (j := 3) (v := 1) B d_Book_reserved_123 rfl (by decide) (by decide) rfl ?_
            refine mv_goto (pc := 126) (tgt := 90) B d_Book_reserved_126 rfl ?_
            refine mv_lpick [1, 2, 3, 0] rfl ?_
            exact ih90 _ _ _ _ r_hz hf
          have hf : fF_Book_reserved_90 74 (f_Book_reserved_25 74 nn25) (f_Book_reserved_90 74 (f_Book_reserved_25 74 nn25) nn90) x1 x2 x3 hz = some (rv, rg) := hf
          unfold fF_Book_reserved_90 at hf
          refine mv_iload_n (pc := 90) B d_Book_reserved_90 rfl 3 rfl ?_
          refine mv_aload_n (pc := 91) B d_Book_reserved_91 rfl 0 rfl ?_
          refine mv_getI (pc := 92) (ci := 12) (C := R_Book) (T := F_Book) (N := 65) B 6 rfl rfl (by decide) i_Book (B.2.2.2.1 _ k_1849) rfl d_Book_reserved_92 ?_
          refine mv_icmp_ge (pc := 95) (tgt := 129) B d_Book_reserved_95 rfl (fun h95 => ?_) (fun h95 => ?_)
          · skip
            have hf := xif_t h95 hf
            refine mv_iload_n (pc := 129) B d_Book_reserved_129 rfl 2 rfl ?_
            refine mv_if_eq (pc := 130) (tgt := 135) B d_Book_reserved_130 rfl (fun h130 => ?_) (fun h130 => ?_)
            · skip
              have hf := xif_t h130 hf
              refine mv_lpick [0, 1] rfl ?_
              exact jn135 _ _ r_hz hf
            · skip
              have hf := xif_f h130 hf
              refine mv_iconst (pc := 133) (v := 1) B d_Book_reserved_133 (by decide) ?_
              obtain ⟨q1, hf⟩ := xzb_e hf
              exact mv_iret (pc := 134) B hr (xzb_n q1) d_Book_reserved_134 (Nat.le_refl _) (Nat.le_refl _) ⟨_, rfl, xrh_i hf r_hz⟩
          · skip
            have hf := xif_f h95 hf
            refine mv_aload_n (pc := 98) B d_Book_reserved_98 rfl 0 rfl ?_
            refine mv_iload_n (pc := 99) B d_Book_reserved_99 rfl 3 rfl ?_
            obtain ⟨u3, g2, eg2, hf⟩ := xhb_e hf
            refine mv_callVi (pc := 100) (n := 1) (ci := 12) (C := R_Book) B (mK_ok sk sv) hNs rfl rfl (ch_Book_look_x l hi _ (xrw r_hz hb) _ eg2) rfl (ma_goodc kc_Book_look) (B.2.2.2.1 _ k_2122) (B.2.2.2.1 _ k_2124) (B.2.2.2.1 _ ks_82) (B.2.2.2.1 _ k_13) ⟨by decide +kernel, by decide +kernel, by decide +kernel⟩ rfl d_Book_reserved_100 rfl (Nat.le_of_ble_eq_true rfl) ⟨by decide, by decide⟩ ⟨by decide, by decide⟩ ⟨by decide, by decide⟩ (mv_noH hno _) (fun w100 σ100 h100 => ?_)
            obtain ⟨rfl, rfl, s_g2⟩ := h100
            have r_g2 : mv_r g2 = mv_r h := s_g2.trans r_hz
            refine mv_ldcS (pc := 103) B (hNs.2.1 141 (by decide)).1 d_Book_reserved_103 ?_
            refine mv_iload_n (pc := 105) B d_Book_reserved_105 rfl 1 rfl ?_
            refine mv_iconst (pc := 106) (v := 1) B d_Book_reserved_106 (by decide) ?_
            refine mv_iadd (pc := 107) B d_Book_reserved_107 ?_
            refine mv_iload_n (pc := 108) B d_Book_reserved_108 rfl 3 rfl ?_
            refine mv_iadd (pc := 109) B d_Book_reserved_109 ?_
            refine mv_aload_n (pc := 110) B d_Book_reserved_110 rfl 0 rfl ?_
            refine mv_getI (pc := 111) (ci := 12) (C := R_Book) (T := F_Book) (N := 65) B 5 rfl rfl (by decide) i_Book (B.2.2.2.1 _ k_1848) rfl d_Book_reserved_111 ?_
            refine mv_isub (pc := 114) B d_Book_reserved_114 ?_
            obtain ⟨q4, hf⟩ := xvi_e hf
            refine mv_callVOi (pc := 115) (n := 1) B (mK_ok sk sv) hNs (hNs.2.1 141 (by decide)).2.1 (ch_String_charAt l hi _ 141 (by decide) q4) rfl (ma_goodc kc_String_charAt) (B.2.2.2.1 _ k_2172) (B.2.2.2.1 _ k_556) (B.2.2.2.1 _ k_557) (B.2.2.2.1 _ k_21) ⟨by decide +kernel, by decide +kernel, by decide +kernel⟩ rfl d_Book_reserved_115 rfl (Nat.le_of_ble_eq_true rfl) ⟨by decide, by decide⟩ ⟨by decide, by decide⟩ ⟨by decide, by decide⟩ (mv_noH hno _) (fun v115_ σ115 h115 => ?_)
            obtain ⟨rfl, rfl⟩ := h115
            refine mv_icmp_eq (pc := 118) (tgt := 123) B d_Book_reserved_118 rfl (fun h118 => ?_) (fun h118 => ?_)
            · skip
              have hf := xif_t h118 hf
              refine mv_lpick [0, 1, 2, 3] rfl ?_
              exact jn123 _ _ _ _ r_g2 hf
            · skip
              have hf := xif_f h118 hf
              refine mv_iconst (pc := 121) (v := 0) B d_Book_reserved_121 (by decide) ?_
              refine mv_istore_n (pc := 122) B d_Book_reserved_122 rfl (by decide) rfl ?_
              refine mv_lpick [1, 2, 0, 3] rfl ?_
              exact jn123 _ _ _ _ r_g2 hf
      have hf : fF_Book_reserved_25 74 (f_Book_reserved_25 74 nn25) x1 hz = some (rv, rg) := hf
      unfold fF_Book_reserved_25 at hf
      refine mv_iload_n (pc := 25) B d_Book_reserved_25 rfl 1 rfl ?_
      refine mv_aload_n (pc := 26) B d_Book_reserved_26 rfl 0 rfl ?_
      refine mv_getI (pc := 27) (ci := 12) (C := R_Book) (T := F_Book) (N := 65) B 6 rfl rfl (by decide) i_Book (B.2.2.2.1 _ k_1849) rfl d_Book_reserved_27 ?_
      refine mv_iadd (pc := 30) B d_Book_reserved_30 ?_
      refine mv_aload_n (pc := 31) B d_Book_reserved_31 rfl 0 rfl ?_
      refine mv_getI (pc := 32) (ci := 12) (C := R_Book) (T := F_Book) (N := 65) B 5 rfl rfl (by decide) i_Book (B.2.2.2.1 _ k_1848) rfl d_Book_reserved_32 ?_
      refine mv_isub (pc := 35) B d_Book_reserved_35 ?_
      refine mv_iconst (pc := 36) (v := 1) B d_Book_reserved_36 (by decide) ?_
      refine mv_iadd (pc := 37) B d_Book_reserved_37 ?_
      refine mv_ldcS (pc := 38) B (hNs.2.1 141 (by decide)).1 d_Book_reserved_38 ?_
      refine mv_callVOi (pc := 40) (n := 0) B (mK_ok sk sv) hNs (hNs.2.1 141 (by decide)).2.1 (ch_String_length l hi _ 141 (by decide)) rfl (ma_goodc kc_String_length) (B.2.2.2.1 _ k_2171) (B.2.2.2.1 _ k_546) (B.2.2.2.1 _ k_547) (B.2.2.2.1 _ k_21) ⟨by decide +kernel, by decide +kernel, by decide +kernel⟩ rfl d_Book_reserved_40 rfl (Nat.le_of_ble_eq_true rfl) ⟨by decide, by decide⟩ ⟨by decide, by decide⟩ ⟨by decide, by decide⟩ (mv_noH hno _) (fun v40_ σ40 h40 => ?_)
      obtain ⟨rfl, rfl⟩ := h40
      refine mv_icmp_ge (pc := 43) (tgt := 141) B d_Book_reserved_43 rfl (fun h43 => ?_) (fun h43 => ?_)
      · skip
        have hf := xif_t h43 hf
        refine mv_iconst (pc := 141) (v := 0) B d_Book_reserved_141 (by decide) ?_
        obtain ⟨q5, hf⟩ := xzb_e hf
        exact mv_iret (pc := 142) B hr (xzb_n q5) d_Book_reserved_142 (Nat.le_refl _) (Nat.le_refl _) ⟨_, rfl, xrh_i hf r_hz⟩
      · skip
        have hf := xif_f h43 hf
        refine mv_ldcS (pc := 46) B (hNs.2.1 141 (by decide)).1 d_Book_reserved_46 ?_
        refine mv_iload_n (pc := 48) B d_Book_reserved_48 rfl 1 rfl ?_
        obtain ⟨q6, hf⟩ := xvi_e hf
        refine mv_callVOi (pc := 49) (n := 1) B (mK_ok sk sv) hNs (hNs.2.1 141 (by decide)).2.1 (ch_String_charAt l hi _ 141 (by decide) q6) rfl (ma_goodc kc_String_charAt) (B.2.2.2.1 _ k_2172) (B.2.2.2.1 _ k_556) (B.2.2.2.1 _ k_557) (B.2.2.2.1 _ k_21) ⟨by decide +kernel, by decide +kernel, by decide +kernel⟩ rfl d_Book_reserved_49 rfl (Nat.le_of_ble_eq_true rfl) ⟨by decide, by decide⟩ ⟨by decide, by decide⟩ ⟨by decide, by decide⟩ (mv_noH hno _) (fun v49_ σ49 h49 => ?_)
        obtain ⟨rfl, rfl⟩ := h49
        refine mv_bipush (pc := 52) (v := 32) B d_Book_reserved_52 (by decide) ?_
        refine mv_icmp_ne (pc := 54) (tgt := 135) B d_Book_reserved_54 rfl (fun h54 => ?_) (fun h54 => ?_)
        · skip
          have hf := xif_f h54 hf
          refine mv_lpick [0, 1] rfl ?_
          exact jn135 _ _ r_hz hf
        · skip
          have hf := xif_t h54 hf
          refine mv_ldcS (pc := 57) B (hNs.2.1 141 (by decide)).1 d_Book_reserved_57 ?_
          refine mv_iload_n (pc := 59) B d_Book_reserved_59 rfl 1 rfl ?_
          refine mv_iconst (pc := 60) (v := 1) B d_Book_reserved_60 (by decide) ?_
          refine mv_iadd (pc := 61) B d_Book_reserved_61 ?_
          refine mv_aload_n (pc := 62) B d_Book_reserved_62 rfl 0 rfl ?_
          refine mv_getI (pc := 63) (ci := 12) (C := R_Book) (T := F_Book) (N := 65) B 6 rfl rfl (by decide) i_Book (B.2.2.2.1 _ k_1849) rfl d_Book_reserved_63 ?_
          refine mv_iadd (pc := 66) B d_Book_reserved_66 ?_
          refine mv_aload_n (pc := 67) B d_Book_reserved_67 rfl 0 rfl ?_
          refine mv_getI (pc := 68) (ci := 12) (C := R_Book) (T := F_Book) (N := 65) B 5 rfl rfl (by decide) i_Book (B.2.2.2.1 _ k_1848) rfl d_Book_reserved_68 ?_
          refine mv_isub (pc := 71) B d_Book_reserved_71 ?_
          obtain ⟨q7, hf⟩ := xvi_e hf
          refine mv_callVOi (pc := 72) (n := 1) B (mK_ok sk sv) hNs (hNs.2.1 141 (by decide)).2.1 (ch_String_charAt l hi _ 141 (by decide) q7) rfl (ma_goodc kc_String_charAt) (B.2.2.2.1 _ k_2172) (B.2.2.2.1 _ k_556) (B.2.2.2.1 _ k_557) (B.2.2.2.1 _ k_21) ⟨by decide +kernel, by decide +kernel, by decide +kernel⟩ rfl d_Book_reserved_72 rfl (Nat.le_of_ble_eq_true rfl) ⟨by decide, by decide⟩ ⟨by decide, by decide⟩ ⟨by decide, by decide⟩ (mv_noH hno _) (fun v72_ σ72 h72 => ?_)
          obtain ⟨rfl, rfl⟩ := h72
          refine mv_bipush (pc := 75) (v := 32) B d_Book_reserved_75 (by decide) ?_
          refine mv_icmp_eq (pc := 77) (tgt := 83) B d_Book_reserved_77 rfl (fun h77 => ?_) (fun h77 => ?_)
          · skip
            have hf := xif_t h77 hf
            refine mv_iconst (pc := 83) (v := 1) B d_Book_reserved_83 (by decide) ?_
            refine mv_istore_n (pc := 84) B d_Book_reserved_84 rfl (by decide) rfl ?_
            refine mv_aload_n (pc := 85) B d_Book_reserved_85 rfl 1 rfl ?_
            refine mv_getI (pc := 86) (ci := 12) (C := R_Book) (T := F_Book) (N := 65) B 5 rfl rfl (by decide) i_Book (B.2.2.2.1 _ k_1848) rfl d_Book_reserved_86 ?_
            refine mv_istore_n (pc := 89) B d_Book_reserved_89 rfl (by decide) rfl ?_
            refine mv_lpick [2, 3, 1, 0] rfl ?_
            exact lp90 _ _ _ _ _ r_hz hf
          · skip
            have hf := xif_f h77 hf
            refine mv_goto (pc := 80) (tgt := 135) B d_Book_reserved_80 rfl ?_
            refine mv_lpick [0, 1] rfl ?_
            exact jn135 _ _ r_hz hf
  have jn21 : ∀ (hz : mv_H), mv_r hz = mv_r h → f_Book_reserved_21 74  hz = some (rv, rg) → mv_V p l e ({ frames := 4, cells := 0, slots := 0, locals := 85 }) s m ([.ref (al 74)] : List Value).toArray below meth c (mg dA D al ext) 4 0 0 (mv_Q (mg dA D al ext) below s 0 0 (mv_Ri (fun v σ1 => rv = v ∧ rg = σ1 ∧ mv_r σ1 = mv_r h))) hz 21 [] [] := by
    intro  hz r_hz hf
    unfold f_Book_reserved_21 at hf
    refine mv_iconst (pc := 21) (v := 0) B d_Book_reserved_21 (by decide) ?_
    obtain ⟨q8, hf⟩ := xzb_e hf
    exact mv_iret (pc := 22) B hr (xzb_n q8) d_Book_reserved_22 (Nat.le_refl _) (Nat.le_refl _) ⟨_, rfl, xrh_i hf r_hz⟩
  unfold f_Book_reserved at hf
  refine mv_aload_n (pc := 0) B d_Book_reserved_0 rfl 0 rfl ?_
  refine mv_getI (pc := 1) (ci := 12) (C := R_Book) (T := F_Book) (N := 65) B 4 rfl rfl (by decide) i_Book (B.2.2.2.1 _ k_1847) rfl d_Book_reserved_1 ?_
  refine mv_iconst (pc := 4) (v := 1) B d_Book_reserved_4 (by decide) ?_
  refine mv_icmp_ne (pc := 5) (tgt := 21) B d_Book_reserved_5 rfl (fun h5 => ?_) (fun h5 => ?_)
  · skip
    have hf := xif_f h5 hf
    refine mv_lpick [] rfl ?_
    exact jn21  _ rfl hf
  · skip
    have hf := xif_t h5 hf
    refine mv_aload_n (pc := 8) B d_Book_reserved_8 rfl 0 rfl ?_
    refine mv_getI (pc := 9) (ci := 12) (C := R_Book) (T := F_Book) (N := 65) B 6 rfl rfl (by decide) i_Book (B.2.2.2.1 _ k_1849) rfl d_Book_reserved_9 ?_
    refine mv_aload_n (pc := 12) B d_Book_reserved_12 rfl 0 rfl ?_
    refine mv_getI (pc := 13) (ci := 12) (C := R_Book) (T := F_Book) (N := 65) B 5 rfl rfl (by decide) i_Book (B.2.2.2.1 _ k_1848) rfl d_Book_reserved_13 ?_
    refine mv_isub (pc := 16) B d_Book_reserved_16 ?_
    refine mv_iconst (pc := 17) (v := 5) B d_Book_reserved_17 (by decide) ?_
    refine mv_icmp_le (pc := 18) (tgt := 23) B d_Book_reserved_18 rfl (fun h18 => ?_) (fun h18 => ?_)
    · skip
      have hf := xif_t h18 hf
      refine mv_iconst (pc := 23) (v := 0) B d_Book_reserved_23 (by decide) ?_
      refine mv_istore_n (pc := 24) B d_Book_reserved_24 rfl (by decide) rfl ?_
      refine mv_lpick [1, 0] rfl ?_
      exact lp25 _ _ _ rfl hf
    · skip
      have hf := xif_f h18 hf
      refine mv_lpick [] rfl ?_
      exact jn21  _ rfl hf
set_option maxHeartbeats 4000000 in
set_option maxRecDepth 100000 in
theorem ch_Book_reserved_y (l : Launch) {dA : FieldType → ClassId} {D : va_G} {al : Nat → Nat} {ext : mv_Sh} {sk sv : Nat → Nat} (hi : mv_inj (mg dA D al ext)) (h : mv_H) (hb : Br 108 (mv_r h))  {rv : Int32} {rg : mv_H} (hf : f_Book_reserved 108 h = some (rv, rg)) : mv_C l y_Book_reserved (Cond.code y_Book_reserved b_Book_reserved 4 (Option.some Jvm.ClassFile.FieldType.boolean) :: ma) ({ frames := 4, cells := 0, slots := 0, locals := 85 }) (mg dA D al ext) (mK sk sv) [.ref (al 108)] h (mv_Ri (fun v σ1 => rv = v ∧ rg = σ1 ∧ mv_r σ1 = mv_r h)) := by
  refine mv_C.ofV (cc := b_Book_reserved) (nL := 4) (ret := (Option.some Jvm.ClassFile.FieldType.boolean)) (by decide +kernel) rfl hi (Nat.le_of_ble_eq_true rfl) ?_
  intro p e s m below meth c B hNs hr hnm hno
  have lp25 : ∀ (nn25 : Nat) (x1 : Int32) (hz : mv_H), mv_r hz = mv_r h → f_Book_reserved_25 108 nn25 x1 hz = some (rv, rg) → mv_V p l e ({ frames := 4, cells := 0, slots := 0, locals := 85 }) s m ([.ref (al 108)] : List Value).toArray below meth c (mg dA D al ext) 4 0 0 (mv_Q (mg dA D al ext) below s 0 0 (mv_Ri (fun v σ1 => rv = v ∧ rg = σ1 ∧ mv_r σ1 = mv_r h))) hz 25 [(0, .ref (al 108)), (1, .int x1)] [] := by
    intro nn25
    induction nn25 with
    | zero => intro x1 hz r_hz hf; cases hf
    | succ nn25 ih25 =>
      intro x1 hz r_hz hf
      have jn135 : ∀ (x1 : Int32) (hz : mv_H), mv_r hz = mv_r h → f_Book_reserved_135 108 (f_Book_reserved_25 108 nn25) x1 hz = some (rv, rg) → mv_V p l e ({ frames := 4, cells := 0, slots := 0, locals := 85 }) s m ([.ref (al 108)] : List Value).toArray below meth c (mg dA D al ext) 4 0 0 (mv_Q (mg dA D al ext) below s 0 0 (mv_Ri (fun v σ1 => rv = v ∧ rg = σ1 ∧ mv_r σ1 = mv_r h))) hz 135 [(0, .ref (al 108)), (1, .int x1)] [] := by
        intro x1 hz r_hz hf
        unfold f_Book_reserved_135 at hf
        refine mv_iinc (pc := 135) (j := 1) (v := 1) B d_Book_reserved_135 rfl (by decide) (by decide) rfl ?_
        refine mv_goto (pc := 138) (tgt := 25) B d_Book_reserved_138 rfl ?_
        refine mv_lpick [1, 0] rfl ?_
        exact ih25 _ _ r_hz hf
      have lp90 : ∀ (nn90 : Nat) (x1 : Int32) (x2 : Int32) (x3 : Int32) (hz : mv_H), mv_r hz = mv_r h → f_Book_reserved_90 108 (f_Book_reserved_25 108 nn25) nn90 x1 x2 x3 hz = some (rv, rg) → mv_V p l e ({ frames := 4, cells := 0, slots := 0, locals := 85 }) s m ([.ref (al 108)] : List Value).toArray below meth c (mg dA D al ext) 4 0 0 (mv_Q (mg dA D al ext) below s 0 0 (mv_Ri (fun v σ1 => rv = v ∧ rg = σ1 ∧ mv_r σ1 = mv_r h))) hz 90 [(0, .ref (al 108)), (1, .int x1), (2, .int x2), (3, .int x3)] [] := by
        intro nn90
        induction nn90 with
        | zero => intro x1 x2 x3 hz r_hz hf; cases hf
        | succ nn90 ih90 =>
          intro x1 x2 x3 hz r_hz hf
          have jn123 : ∀ (x1 : Int32) (x2 : Int32) (x3 : Int32) (hz : mv_H), mv_r hz = mv_r h → f_Book_reserved_123 108 (f_Book_reserved_25 108 nn25) (f_Book_reserved_90 108 (f_Book_reserved_25 108 nn25) nn90) x1 x2 x3 hz = some (rv, rg) → mv_V p l e ({ frames := 4, cells := 0, slots := 0, locals := 85 }) s m ([.ref (al 108)] : List Value).toArray below meth c (mg dA D al ext) 4 0 0 (mv_Q (mg dA D al ext) below s 0 0 (mv_Ri (fun v σ1 => rv = v ∧ rg = σ1 ∧ mv_r σ1 = mv_r h))) hz 123 [(0, .ref (al 108)), (1, .int x1), (2, .int x2), (3, .int x3)] [] := by
            intro x1 x2 x3 hz r_hz hf
            unfold f_Book_reserved_123 at hf
            refine mv_iinc (pc := 123) (j := 3) (v := 1) B d_Book_reserved_123 rfl (by decide) (by decide) rfl ?_
            refine mv_goto (pc := 126) (tgt := 90) B d_Book_reserved_126 rfl ?_
            refine mv_lpick [1, 2, 3, 0] rfl ?_
            exact ih90 _ _ _ _ r_hz hf
          have hf : fF_Book_reserved_90 108 (f_Book_reserved_25 108 nn25) (f_Book_reserved_90 108 (f_Book_reserved_25 108 nn25) nn90) x1 x2 x3 hz = some (rv, rg) := hf
          unfold fF_Book_reserved_90 at hf
          refine mv_iload_n (pc := 90) B d_Book_reserved_90 rfl 3 rfl ?_
          refine mv_aload_n (pc := 91) B d_Book_reserved_91 rfl 0 rfl ?_
          refine mv_getI (pc := 92) (ci := 12) (C := R_Book) (T := F_Book) (N := 65) B 6 rfl rfl (by decide) i_Book (B.2.2.2.1 _ k_1849) rfl d_Book_reserved_92 ?_
          refine mv_icmp_ge (pc := 95) (tgt := 129) B d_Book_reserved_95 rfl (fun h95 => ?_) (fun h95 => ?_)
          · skip
            have hf := xif_t h95 hf
            refine mv_iload_n (pc := 129) B d_Book_reserved_129 rfl 2 rfl ?_
            refine mv_if_eq (pc := 130) (tgt := 135) B d_Book_reserved_130 rfl (fun h130 => ?_) (fun h130 => ?_)
            · skip
              have hf := xif_t h130 hf
              refine mv_lpick [0, 1] rfl ?_
              exact jn135 _ _ r_hz hf
            · skip
              have hf := xif_f h130 hf
              refine mv_iconst (pc := 133) (v := 1) B d_Book_reserved_133 (by decide) ?_
              obtain ⟨q1, hf⟩ := xzb_e hf
              exact mv_iret (pc := 134) B hr (xzb_n q1) d_Book_reserved_134 (Nat.le_refl _) (Nat.le_refl _) ⟨_, rfl, xrh_i hf r_hz⟩
          · skip
            have hf := xif_f h95 hf
            refine mv_aload_n (pc := 98) B d_Book_reserved_98 rfl 0 rfl ?_
            refine mv_iload_n (pc := 99) B d_Book_reserved_99 rfl 3 rfl ?_
            obtain ⟨u3, g2, eg2, hf⟩ := xhb_e hf
            refine mv_callVi (pc := 100) (n := 1) (ci := 12) (C := R_Book) B (mK_ok sk sv) hNs rfl rfl (ch_Book_look_y l hi _ (xrw r_hz hb) _ eg2) rfl (ma_goodc kc_Book_look) (B.2.2.2.1 _ k_2122) (B.2.2.2.1 _ k_2124) (B.2.2.2.1 _ ks_82) (B.2.2.2.1 _ k_13) ⟨by decide +kernel, by decide +kernel, by decide +kernel⟩ rfl d_Book_reserved_100 rfl (Nat.le_of_ble_eq_true rfl) ⟨by decide, by decide⟩ ⟨by decide, by decide⟩ ⟨by decide, by decide⟩ (mv_noH hno _) (fun w100 σ100 h100 => ?_)
            obtain ⟨rfl, rfl, s_g2⟩ := h100
            have r_g2 : mv_r g2 = mv_r h := s_g2.trans r_hz
            refine mv_ldcS (pc := 103) B (hNs.2.1 141 (by decide)).1 d_Book_reserved_103 ?_
            refine mv_iload_n (pc := 105) B d_Book_reserved_105 rfl 1 rfl ?_
            refine mv_iconst (pc := 106) (v := 1) B d_Book_reserved_106 (by decide) ?_
            refine mv_iadd (pc := 107) B d_Book_reserved_107 ?_
            refine mv_iload_n (pc := 108) B d_Book_reserved_108 rfl 3 rfl ?_
            refine mv_iadd (pc := 109) B d_Book_reserved_109 ?_
            refine mv_aload_n (pc := 110) B d_Book_reserved_110 rfl 0 rfl ?_
            refine mv_getI (pc := 111) (ci := 12) (C := R_Book) (T := F_Book) (N := 65) B 5 rfl rfl (by decide) i_Book (B.2.2.2.1 _ k_1848) rfl d_Book_reserved_111 ?_
            refine mv_isub (pc := 114) B d_Book_reserved_114 ?_
            obtain ⟨q4, hf⟩ := xvi_e hf
            refine mv_callVOi (pc := 115) (n := 1) B (mK_ok sk sv) hNs (hNs.2.1 141 (by decide)).2.1 (ch_String_charAt l hi _ 141 (by decide) q4) rfl (ma_goodc kc_String_charAt) (B.2.2.2.1 _ k_2172) (B.2.2.2.1 _ k_556) (B.2.2.2.1 _ k_557) (B.2.2.2.1 _ k_21) ⟨by decide +kernel, by decide +kernel, by decide +kernel⟩ rfl d_Book_reserved_115 rfl (Nat.le_of_ble_eq_true rfl) ⟨by decide, by decide⟩ ⟨by decide, by decide⟩ ⟨by decide, by decide⟩ (mv_noH hno _) (fun v115_ σ115 h115 => ?_)
            obtain ⟨rfl, rfl⟩ := h115
            refine mv_icmp_eq (pc := 118) (tgt := 123) B d_Book_reserved_118 rfl (fun h118 => ?_) (fun h118 => ?_)
            · skip
              have hf := xif_t h118 hf
              refine mv_lpick [0, 1, 2, 3] rfl ?_
              exact jn123 _ _ _ _ r_g2 hf
            · skip
              have hf := xif_f h118 hf
              refine mv_iconst (pc := 121) (v := 0) B d_Book_reserved_121 (by decide) ?_
              refine mv_istore_n (pc := 122) B d_Book_reserved_122 rfl (by decide) rfl ?_
              refine mv_lpick [1, 2, 0, 3] rfl ?_
              exact jn123 _ _ _ _ r_g2 hf
      have hf : fF_Book_reserved_25 108 (f_Book_reserved_25 108 nn25) x1 hz = some (rv, rg) := hf
      unfold fF_Book_reserved_25 at hf
      refine mv_iload_n (pc := 25) B d_Book_reserved_25 rfl 1 rfl ?_
      refine mv_aload_n (pc := 26) B d_Book_reserved_26 rfl 0 rfl ?_
      refine mv_getI (pc := 27) (ci := 12) (C := R_Book) (T := F_Book) (N := 65) B 6 rfl rfl (by decide) i_Book (B.2.2.2.1 _ k_1849) rfl d_Book_reserved_27 ?_
      refine mv_iadd (pc := 30) B d_Book_reserved_30 ?_
      refine mv_aload_n (pc := 31) B d_Book_reserved_31 rfl 0 rfl ?_
      refine mv_getI (pc := 32) (ci := 12) (C := R_Book) (T := F_Book) (N := 65) B 5 rfl rfl (by decide) i_Book (B.2.2.2.1 _ k_1848) rfl d_Book_reserved_32 ?_
      refine mv_isub (pc := 35) B d_Book_reserved_35 ?_
      refine mv_iconst (pc := 36) (v := 1) B d_Book_reserved_36 (by decide) ?_
      refine mv_iadd (pc := 37) B d_Book_reserved_37 ?_
      refine mv_ldcS (pc := 38) B (hNs.2.1 141 (by decide)).1 d_Book_reserved_38 ?_
      refine mv_callVOi (pc := 40) (n := 0) B (mK_ok sk sv) hNs (hNs.2.1 141 (by decide)).2.1 (ch_String_length l hi _ 141 (by decide)) rfl (ma_goodc kc_String_length) (B.2.2.2.1 _ k_2171) (B.2.2.2.1 _ k_546) (B.2.2.2.1 _ k_547) (B.2.2.2.1 _ k_21) ⟨by decide +kernel, by decide +kernel, by decide +kernel⟩ rfl d_Book_reserved_40 rfl (Nat.le_of_ble_eq_true rfl) ⟨by decide, by decide⟩ ⟨by decide, by decide⟩ ⟨by decide, by decide⟩ (mv_noH hno _) (fun v40_ σ40 h40 => ?_)
      obtain ⟨rfl, rfl⟩ := h40
      refine mv_icmp_ge (pc := 43) (tgt := 141) B d_Book_reserved_43 rfl (fun h43 => ?_) (fun h43 => ?_)
      · skip
        have hf := xif_t h43 hf
        refine mv_iconst (pc := 141) (v := 0) B d_Book_reserved_141 (by decide) ?_
        obtain ⟨q5, hf⟩ := xzb_e hf
        exact mv_iret (pc := 142) B hr (xzb_n q5) d_Book_reserved_142 (Nat.le_refl _) (Nat.le_refl _) ⟨_, rfl, xrh_i hf r_hz⟩
      · skip
        have hf := xif_f h43 hf
        refine mv_ldcS (pc := 46) B (hNs.2.1 141 (by decide)).1 d_Book_reserved_46 ?_
        refine mv_iload_n (pc := 48) B d_Book_reserved_48 rfl 1 rfl ?_
        obtain ⟨q6, hf⟩ := xvi_e hf
        refine mv_callVOi (pc := 49) (n := 1) B (mK_ok sk sv) hNs (hNs.2.1 141 (by decide)).2.1 (ch_String_charAt l hi _ 141 (by decide) q6) rfl (ma_goodc kc_String_charAt) (B.2.2.2.1 _ k_2172) (B.2.2.2.1 _ k_556) (B.2.2.2.1 _ k_557) (B.2.2.2.1 _ k_21) ⟨by decide +kernel, by decide +kernel, by decide +kernel⟩ rfl d_Book_reserved_49 rfl (Nat.le_of_ble_eq_true rfl) ⟨by decide, by decide⟩ ⟨by decide, by decide⟩ ⟨by decide, by decide⟩ (mv_noH hno _) (fun v49_ σ49 h49 => ?_)
        obtain ⟨rfl, rfl⟩ := h49
        refine mv_bipush (pc := 52) (v := 32) B d_Book_reserved_52 (by decide) ?_
        refine mv_icmp_ne (pc := 54) (tgt := 135) B d_Book_reserved_54 rfl (fun h54 => ?_) (fun h54 => ?_)
        · skip
          have hf := xif_f h54 hf
          refine mv_lpick [0, 1] rfl ?_
          exact jn135 _ _ r_hz hf
        · skip
          have hf := xif_t h54 hf
          refine mv_ldcS (pc := 57) B (hNs.2.1 141 (by decide)).1 d_Book_reserved_57 ?_
          refine mv_iload_n (pc := 59) B d_Book_reserved_59 rfl 1 rfl ?_
          refine mv_iconst (pc := 60) (v := 1) B d_Book_reserved_60 (by decide) ?_
          refine mv_iadd (pc := 61) B d_Book_reserved_61 ?_
          refine mv_aload_n (pc := 62) B d_Book_reserved_62 rfl 0 rfl ?_
          refine mv_getI (pc := 63) (ci := 12) (C := R_Book) (T := F_Book) (N := 65) B 6 rfl rfl (by decide) i_Book (B.2.2.2.1 _ k_1849) rfl d_Book_reserved_63 ?_
          refine mv_iadd (pc := 66) B d_Book_reserved_66 ?_
          refine mv_aload_n (pc := 67) B d_Book_reserved_67 rfl 0 rfl ?_
          refine mv_getI (pc := 68) (ci := 12) (C := R_Book) (T := F_Book) (N := 65) B 5 rfl rfl (by decide) i_Book (B.2.2.2.1 _ k_1848) rfl d_Book_reserved_68 ?_
          refine mv_isub (pc := 71) B d_Book_reserved_71 ?_
          obtain ⟨q7, hf⟩ := xvi_e hf
          refine mv_callVOi (pc := 72) (n := 1) B (mK_ok sk sv) hNs (hNs.2.1 141 (by decide)).2.1 (ch_String_charAt l hi _ 141 (by decide) q7) rfl (ma_goodc kc_String_charAt) (B.2.2.2.1 _ k_2172) (B.2.2.2.1 _ k_556) (B.2.2.2.1 _ k_557) (B.2.2.2.1 _ k_21) ⟨by decide +kernel, by decide +kernel, by decide +kernel⟩ rfl d_Book_reserved_72 rfl (Nat.le_of_ble_eq_true rfl) ⟨by decide, by decide⟩ ⟨by decide, by decide⟩ ⟨by decide, by decide⟩ (mv_noH hno _) (fun v72_ σ72 h72 => ?_)
          obtain ⟨rfl, rfl⟩ := h72
          refine mv_bipush (pc := 75) (v := 32) B d_Book_reserved_75 (by decide) ?_
          refine mv_icmp_eq (pc := 77) (tgt := 83) B d_Book_reserved_77 rfl (fun h77 => ?_) (fun h77 => ?_)
          · skip
            have hf := xif_t h77 hf
            refine mv_iconst (pc := 83) (v := 1) B d_Book_reserved_83 (by decide) ?_
            refine mv_istore_n (pc := 84) B d_Book_reserved_84 rfl (by decide) rfl ?_
            refine mv_aload_n (pc := 85) B d_Book_reserved_85 rfl 1 rfl ?_
            refine mv_getI (pc := 86) (ci := 12) (C := R_Book) (T := F_Book) (N := 65) B 5 rfl rfl (by decide) i_Book (B.2.2.2.1 _ k_1848) rfl d_Book_reserved_86 ?_
            refine mv_istore_n (pc := 89) B d_Book_reserved_89 rfl (by decide) rfl ?_
            refine mv_lpick [2, 3, 1, 0] rfl ?_
            exact lp90 _ _ _ _ _ r_hz hf
          · skip
            have hf := xif_f h77 hf
            refine mv_goto (pc := 80) (tgt := 135) B d_Book_reserved_80 rfl ?_
            refine mv_lpick [0, 1] rfl ?_
            exact jn135 _ _ r_hz hf
  have jn21 : ∀ (hz : mv_H), mv_r hz = mv_r h → f_Book_reserved_21 108  hz = some (rv, rg) → mv_V p l e ({ frames := 4, cells := 0, slots := 0, locals := 85 }) s m ([.ref (al 108)] : List Value).toArray below meth c (mg dA D al ext) 4 0 0 (mv_Q (mg dA D al ext) below s 0 0 (mv_Ri (fun v σ1 => rv = v ∧ rg = σ1 ∧ mv_r σ1 = mv_r h))) hz 21 [] [] := by
    intro  hz r_hz hf
    unfold f_Book_reserved_21 at hf
    refine mv_iconst (pc := 21) (v := 0) B d_Book_reserved_21 (by decide) ?_
    obtain ⟨q8, hf⟩ := xzb_e hf
    exact mv_iret (pc := 22) B hr (xzb_n q8) d_Book_reserved_22 (Nat.le_refl _) (Nat.le_refl _) ⟨_, rfl, xrh_i hf r_hz⟩
  unfold f_Book_reserved at hf
  refine mv_aload_n (pc := 0) B d_Book_reserved_0 rfl 0 rfl ?_
  refine mv_getI (pc := 1) (ci := 12) (C := R_Book) (T := F_Book) (N := 65) B 4 rfl rfl (by decide) i_Book (B.2.2.2.1 _ k_1847) rfl d_Book_reserved_1 ?_
  refine mv_iconst (pc := 4) (v := 1) B d_Book_reserved_4 (by decide) ?_
  refine mv_icmp_ne (pc := 5) (tgt := 21) B d_Book_reserved_5 rfl (fun h5 => ?_) (fun h5 => ?_)
  · skip
    have hf := xif_f h5 hf
    refine mv_lpick [] rfl ?_
    exact jn21  _ rfl hf
  · skip
    have hf := xif_t h5 hf
    refine mv_aload_n (pc := 8) B d_Book_reserved_8 rfl 0 rfl ?_
    refine mv_getI (pc := 9) (ci := 12) (C := R_Book) (T := F_Book) (N := 65) B 6 rfl rfl (by decide) i_Book (B.2.2.2.1 _ k_1849) rfl d_Book_reserved_9 ?_
    refine mv_aload_n (pc := 12) B d_Book_reserved_12 rfl 0 rfl ?_
    refine mv_getI (pc := 13) (ci := 12) (C := R_Book) (T := F_Book) (N := 65) B 5 rfl rfl (by decide) i_Book (B.2.2.2.1 _ k_1848) rfl d_Book_reserved_13 ?_
    refine mv_isub (pc := 16) B d_Book_reserved_16 ?_
    refine mv_iconst (pc := 17) (v := 5) B d_Book_reserved_17 (by decide) ?_
    refine mv_icmp_le (pc := 18) (tgt := 23) B d_Book_reserved_18 rfl (fun h18 => ?_) (fun h18 => ?_)
    · skip
      have hf := xif_t h18 hf
      refine mv_iconst (pc := 23) (v := 0) B d_Book_reserved_23 (by decide) ?_
      refine mv_istore_n (pc := 24) B d_Book_reserved_24 rfl (by decide) rfl ?_
      refine mv_lpick [1, 0] rfl ?_
      exact lp25 _ _ _ rfl hf
    · skip
      have hf := xif_f h18 hf
      refine mv_lpick [] rfl ?_
      exact jn21  _ rfl hf
def f_Book_fault_32 (P : Nat) (x1 : Int32) (x2 : Int32) (hz : mv_H) : Option mv_H := xk (mv_si hz P 37 x2) fun g1 => xk (mv_si g1 P 38 x1) fun g2 => some g2
def f_Book_fault (P : Nat) (h : mv_H) (a0 : Int32) (a1 : Int32) : Option mv_H := if (mv_i h P 38) ≤ (0 : Int32) then (f_Book_fault_32 P a0 a1 h) else (if (mv_i h P 37) < a1 then (some h) else (if a1 = (mv_i h P 37) then (if a0 < (mv_i h P 38) then (f_Book_fault_32 P a0 a1 h) else (some h)) else (f_Book_fault_32 P a0 a1 h)))
set_option maxHeartbeats 4000000 in
set_option maxRecDepth 100000 in
theorem ch_Book_fault_x (l : Launch) {dA : FieldType → ClassId} {D : va_G} {al : Nat → Nat} {ext : mv_Sh} {sk sv : Nat → Nat} (hi : mv_inj (mg dA D al ext)) (h : mv_H)  (a0 : Int32) (a1 : Int32) {rg : mv_H} (hf : f_Book_fault 74 h a0 a1 = some rg) : mv_C l y_Book_fault (Cond.code y_Book_fault b_Book_fault 3 (Option.none : Option Jvm.ClassFile.FieldType) :: ma) ({ frames := 0, cells := 0, slots := 0, locals := 0 }) (mg dA D al ext) (mK sk sv) [.ref (al 74), .int a0, .int a1] h (mv_Rv (fun σ1 => rg = σ1 ∧ mv_r σ1 = mv_r h)) := by
  refine mv_C.ofV (cc := b_Book_fault) (nL := 3) (ret := (Option.none : Option Jvm.ClassFile.FieldType)) (by decide +kernel) rfl hi (Nat.le_of_ble_eq_true rfl) ?_
  intro p e s m below meth c B hNs hr hnm hno
  have jn32 : ∀ (x1 : Int32) (x2 : Int32) (hz : mv_H), mv_r hz = mv_r h → f_Book_fault_32 74 x1 x2 hz = some rg → mv_V p l e ({ frames := 0, cells := 0, slots := 0, locals := 0 }) s m ([.ref (al 74), .int a0, .int a1] : List Value).toArray below meth c (mg dA D al ext) 3 0 0 (mv_Q (mg dA D al ext) below s 0 0 (mv_Rv (fun σ1 => rg = σ1 ∧ mv_r σ1 = mv_r h))) hz 32 [(0, .ref (al 74)), (1, .int x1), (2, .int x2)] [] := by
    intro x1 x2 hz r_hz hf
    unfold f_Book_fault_32 at hf
    refine mv_aload_n (pc := 32) B d_Book_fault_32 rfl 0 rfl ?_
    refine mv_iload_n (pc := 33) B d_Book_fault_33 rfl 2 rfl ?_
    refine mv_putI (pc := 34) (ci := 12) (C := R_Book) (T := F_Book) (N := 65) B 37 rfl rfl (by decide) i_Book t_Book_ok n_Book (B.2.2.2.1 _ k_1883) rfl rfl rfl rfl d_Book_fault_34 ?_
    refine mvh_hp (R9 := mv_r h) hf r_hz (fun g1 hf r_g1 => ?_)
    refine mv_aload_n (pc := 37) B d_Book_fault_37 rfl 0 rfl ?_
    refine mv_iload_n (pc := 38) B d_Book_fault_38 rfl 1 rfl ?_
    refine mv_putI (pc := 39) (ci := 12) (C := R_Book) (T := F_Book) (N := 65) B 38 rfl rfl (by decide) i_Book t_Book_ok n_Book (B.2.2.2.1 _ k_1885) rfl rfl rfl rfl d_Book_fault_39 ?_
    refine mvh_hp (R9 := mv_r h) hf r_g1 (fun g2 hf r_g2 => ?_)
    exact mv_vret (pc := 42) B hr d_Book_fault_42 (Nat.le_refl _) (Nat.le_refl _) ⟨rfl, xrh_v hf r_g2⟩
  unfold f_Book_fault at hf
  refine mv_aload_n (pc := 0) B d_Book_fault_0 rfl 0 rfl ?_
  refine mv_getI (pc := 1) (ci := 12) (C := R_Book) (T := F_Book) (N := 65) B 38 rfl rfl (by decide) i_Book (B.2.2.2.1 _ k_1885) rfl d_Book_fault_1 ?_
  refine mv_if_le (pc := 4) (tgt := 32) B d_Book_fault_4 rfl (fun h4 => ?_) (fun h4 => ?_)
  · skip
    have hf := xif_t h4 hf
    refine mv_lpick [0, 1, 2] rfl ?_
    exact jn32 _ _ _ rfl hf
  · skip
    have hf := xif_f h4 hf
    refine mv_iload_n (pc := 7) B d_Book_fault_7 rfl 2 rfl ?_
    refine mv_aload_n (pc := 8) B d_Book_fault_8 rfl 0 rfl ?_
    refine mv_getI (pc := 9) (ci := 12) (C := R_Book) (T := F_Book) (N := 65) B 37 rfl rfl (by decide) i_Book (B.2.2.2.1 _ k_1883) rfl d_Book_fault_9 ?_
    refine mv_icmp_gt (pc := 12) (tgt := 31) B d_Book_fault_12 rfl (fun h12 => ?_) (fun h12 => ?_)
    · skip
      have hf := xif_t h12 hf
      exact mv_vret (pc := 31) B hr d_Book_fault_31 (Nat.le_refl _) (Nat.le_refl _) ⟨rfl, xrh_v hf rfl⟩
    · skip
      have hf := xif_f h12 hf
      refine mv_iload_n (pc := 15) B d_Book_fault_15 rfl 2 rfl ?_
      refine mv_aload_n (pc := 16) B d_Book_fault_16 rfl 0 rfl ?_
      refine mv_getI (pc := 17) (ci := 12) (C := R_Book) (T := F_Book) (N := 65) B 37 rfl rfl (by decide) i_Book (B.2.2.2.1 _ k_1883) rfl d_Book_fault_17 ?_
      refine mv_icmp_ne (pc := 20) (tgt := 32) B d_Book_fault_20 rfl (fun h20 => ?_) (fun h20 => ?_)
      · skip
        have hf := xif_f h20 hf
        refine mv_lpick [0, 1, 2] rfl ?_
        exact jn32 _ _ _ rfl hf
      · skip
        have hf := xif_t h20 hf
        refine mv_iload_n (pc := 23) B d_Book_fault_23 rfl 1 rfl ?_
        refine mv_aload_n (pc := 24) B d_Book_fault_24 rfl 0 rfl ?_
        refine mv_getI (pc := 25) (ci := 12) (C := R_Book) (T := F_Book) (N := 65) B 38 rfl rfl (by decide) i_Book (B.2.2.2.1 _ k_1885) rfl d_Book_fault_25 ?_
        refine mv_icmp_lt (pc := 28) (tgt := 32) B d_Book_fault_28 rfl (fun h28 => ?_) (fun h28 => ?_)
        · skip
          have hf := xif_t h28 hf
          refine mv_lpick [0, 1, 2] rfl ?_
          exact jn32 _ _ _ rfl hf
        · skip
          have hf := xif_f h28 hf
          exact mv_vret (pc := 31) B hr d_Book_fault_31 (Nat.le_refl _) (Nat.le_refl _) ⟨rfl, xrh_v hf rfl⟩
set_option maxHeartbeats 4000000 in
set_option maxRecDepth 100000 in
theorem ch_Book_fault_y (l : Launch) {dA : FieldType → ClassId} {D : va_G} {al : Nat → Nat} {ext : mv_Sh} {sk sv : Nat → Nat} (hi : mv_inj (mg dA D al ext)) (h : mv_H)  (a0 : Int32) (a1 : Int32) {rg : mv_H} (hf : f_Book_fault 108 h a0 a1 = some rg) : mv_C l y_Book_fault (Cond.code y_Book_fault b_Book_fault 3 (Option.none : Option Jvm.ClassFile.FieldType) :: ma) ({ frames := 0, cells := 0, slots := 0, locals := 0 }) (mg dA D al ext) (mK sk sv) [.ref (al 108), .int a0, .int a1] h (mv_Rv (fun σ1 => rg = σ1 ∧ mv_r σ1 = mv_r h)) := by
  refine mv_C.ofV (cc := b_Book_fault) (nL := 3) (ret := (Option.none : Option Jvm.ClassFile.FieldType)) (by decide +kernel) rfl hi (Nat.le_of_ble_eq_true rfl) ?_
  intro p e s m below meth c B hNs hr hnm hno
  have jn32 : ∀ (x1 : Int32) (x2 : Int32) (hz : mv_H), mv_r hz = mv_r h → f_Book_fault_32 108 x1 x2 hz = some rg → mv_V p l e ({ frames := 0, cells := 0, slots := 0, locals := 0 }) s m ([.ref (al 108), .int a0, .int a1] : List Value).toArray below meth c (mg dA D al ext) 3 0 0 (mv_Q (mg dA D al ext) below s 0 0 (mv_Rv (fun σ1 => rg = σ1 ∧ mv_r σ1 = mv_r h))) hz 32 [(0, .ref (al 108)), (1, .int x1), (2, .int x2)] [] := by
    intro x1 x2 hz r_hz hf
    unfold f_Book_fault_32 at hf
    refine mv_aload_n (pc := 32) B d_Book_fault_32 rfl 0 rfl ?_
    refine mv_iload_n (pc := 33) B d_Book_fault_33 rfl 2 rfl ?_
    refine mv_putI (pc := 34) (ci := 12) (C := R_Book) (T := F_Book) (N := 65) B 37 rfl rfl (by decide) i_Book t_Book_ok n_Book (B.2.2.2.1 _ k_1883) rfl rfl rfl rfl d_Book_fault_34 ?_
    refine mvh_hp (R9 := mv_r h) hf r_hz (fun g1 hf r_g1 => ?_)
    refine mv_aload_n (pc := 37) B d_Book_fault_37 rfl 0 rfl ?_
    refine mv_iload_n (pc := 38) B d_Book_fault_38 rfl 1 rfl ?_
    refine mv_putI (pc := 39) (ci := 12) (C := R_Book) (T := F_Book) (N := 65) B 38 rfl rfl (by decide) i_Book t_Book_ok n_Book (B.2.2.2.1 _ k_1885) rfl rfl rfl rfl d_Book_fault_39 ?_
    refine mvh_hp (R9 := mv_r h) hf r_g1 (fun g2 hf r_g2 => ?_)
    exact mv_vret (pc := 42) B hr d_Book_fault_42 (Nat.le_refl _) (Nat.le_refl _) ⟨rfl, xrh_v hf r_g2⟩
  unfold f_Book_fault at hf
  refine mv_aload_n (pc := 0) B d_Book_fault_0 rfl 0 rfl ?_
  refine mv_getI (pc := 1) (ci := 12) (C := R_Book) (T := F_Book) (N := 65) B 38 rfl rfl (by decide) i_Book (B.2.2.2.1 _ k_1885) rfl d_Book_fault_1 ?_
  refine mv_if_le (pc := 4) (tgt := 32) B d_Book_fault_4 rfl (fun h4 => ?_) (fun h4 => ?_)
  · skip
    have hf := xif_t h4 hf
    refine mv_lpick [0, 1, 2] rfl ?_
    exact jn32 _ _ _ rfl hf
  · skip
    have hf := xif_f h4 hf
    refine mv_iload_n (pc := 7) B d_Book_fault_7 rfl 2 rfl ?_
    refine mv_aload_n (pc := 8) B d_Book_fault_8 rfl 0 rfl ?_
    refine mv_getI (pc := 9) (ci := 12) (C := R_Book) (T := F_Book) (N := 65) B 37 rfl rfl (by decide) i_Book (B.2.2.2.1 _ k_1883) rfl d_Book_fault_9 ?_
    refine mv_icmp_gt (pc := 12) (tgt := 31) B d_Book_fault_12 rfl (fun h12 => ?_) (fun h12 => ?_)
    · skip
      have hf := xif_t h12 hf
      exact mv_vret (pc := 31) B hr d_Book_fault_31 (Nat.le_refl _) (Nat.le_refl _) ⟨rfl, xrh_v hf rfl⟩
    · skip
      have hf := xif_f h12 hf
      refine mv_iload_n (pc := 15) B d_Book_fault_15 rfl 2 rfl ?_
      refine mv_aload_n (pc := 16) B d_Book_fault_16 rfl 0 rfl ?_
      refine mv_getI (pc := 17) (ci := 12) (C := R_Book) (T := F_Book) (N := 65) B 37 rfl rfl (by decide) i_Book (B.2.2.2.1 _ k_1883) rfl d_Book_fault_17 ?_
      refine mv_icmp_ne (pc := 20) (tgt := 32) B d_Book_fault_20 rfl (fun h20 => ?_) (fun h20 => ?_)
      · skip
        have hf := xif_f h20 hf
        refine mv_lpick [0, 1, 2] rfl ?_
        exact jn32 _ _ _ rfl hf
      · skip
        have hf := xif_t h20 hf
        refine mv_iload_n (pc := 23) B d_Book_fault_23 rfl 1 rfl ?_
        refine mv_aload_n (pc := 24) B d_Book_fault_24 rfl 0 rfl ?_
        refine mv_getI (pc := 25) (ci := 12) (C := R_Book) (T := F_Book) (N := 65) B 38 rfl rfl (by decide) i_Book (B.2.2.2.1 _ k_1885) rfl d_Book_fault_25 ?_
        refine mv_icmp_lt (pc := 28) (tgt := 32) B d_Book_fault_28 rfl (fun h28 => ?_) (fun h28 => ?_)
        · skip
          have hf := xif_t h28 hf
          refine mv_lpick [0, 1, 2] rfl ?_
          exact jn32 _ _ _ rfl hf
        · skip
          have hf := xif_f h28 hf
          exact mv_vret (pc := 31) B hr d_Book_fault_31 (Nat.le_refl _) (Nat.le_refl _) ⟨rfl, xrh_v hf rfl⟩
def fF_Book_same_15 (P : Nat) (k15 : Int32 → Int32 → Int32 → Int32 → mv_H → Option (Int32 × mv_H)) (x1 : Int32) (x2 : Int32) (x3 : Int32) (x5 : Int32) (hz : mv_H) : Option (Int32 × mv_H) := if (x2 - x1) ≤ x5 then (bif xzb (1 : Int32) then some ((1 : Int32), hz) else none) else (bif xvi (x1 + x5) 32768 then bif xvi (x3 + x5) 32768 then if (mv_a hz 71 ((x1 + x5)).toNatClampNeg) = (mv_a hz 71 ((x3 + x5)).toNatClampNeg) then (k15 x1 x2 x3 (x5 + 1) hz) else (bif xzb (0 : Int32) then some ((0 : Int32), hz) else none) else none else none)
def f_Book_same_15 (P : Nat) : Nat → Int32 → Int32 → Int32 → Int32 → mv_H → Option (Int32 × mv_H)
  | 0 => fun _ _ _ _ _ => none
  | nn + 1 => fF_Book_same_15 P (f_Book_same_15 P nn)
def f_Book_same (P : Nat) (h : mv_H) (a0 : Int32) (a1 : Int32) (a2 : Int32) (a3 : Int32) : Option (Int32 × mv_H) := if (a1 - a0) = (a3 - a2) then (f_Book_same_15 P 200000 a0 a1 a2 (0 : Int32) h) else (bif xzb (0 : Int32) then some ((0 : Int32), h) else none)
set_option maxHeartbeats 4000000 in
set_option maxRecDepth 100000 in
theorem ch_Book_same_x (l : Launch) {dA : FieldType → ClassId} {D : va_G} {al : Nat → Nat} {ext : mv_Sh} {sk sv : Nat → Nat} (hi : mv_inj (mg dA D al ext)) (h : mv_H) (hb : Br 74 (mv_r h))  (a0 : Int32) (a1 : Int32) (a2 : Int32) (a3 : Int32) {rv : Int32} {rg : mv_H} (hf : f_Book_same 74 h a0 a1 a2 a3 = some (rv, rg)) : mv_C l y_Book_same (Cond.code y_Book_same b_Book_same 6 (Option.some Jvm.ClassFile.FieldType.boolean) :: ma) ({ frames := 0, cells := 0, slots := 0, locals := 0 }) (mg dA D al ext) (mK sk sv) [.ref (al 74), .int a0, .int a1, .int a2, .int a3] h (mv_Ri (fun v σ1 => rv = v ∧ rg = σ1 ∧ mv_r σ1 = mv_r h)) := by
  refine mv_C.ofV (cc := b_Book_same) (nL := 6) (ret := (Option.some Jvm.ClassFile.FieldType.boolean)) (by decide +kernel) rfl hi (Nat.le_of_ble_eq_true rfl) ?_
  intro p e s m below meth c B hNs hr hnm hno
  have lp15 : ∀ (nn15 : Nat) (x1 : Int32) (x2 : Int32) (x3 : Int32) (x5 : Int32) (hz : mv_H), mv_r hz = mv_r h → f_Book_same_15 74 nn15 x1 x2 x3 x5 hz = some (rv, rg) → mv_V p l e ({ frames := 0, cells := 0, slots := 0, locals := 0 }) s m ([.ref (al 74), .int a0, .int a1, .int a2, .int a3] : List Value).toArray below meth c (mg dA D al ext) 6 0 0 (mv_Q (mg dA D al ext) below s 0 0 (mv_Ri (fun v σ1 => rv = v ∧ rg = σ1 ∧ mv_r σ1 = mv_r h))) hz 15 [(0, .ref (al 74)), (1, .int x1), (2, .int x2), (3, .int x3), (5, .int x5)] [] := by
    intro nn15
    induction nn15 with
    | zero => intro x1 x2 x3 x5 hz r_hz hf; cases hf
    | succ nn15 ih15 =>
      intro x1 x2 x3 x5 hz r_hz hf
      have hf : fF_Book_same_15 74 (f_Book_same_15 74 nn15) x1 x2 x3 x5 hz = some (rv, rg) := hf
      unfold fF_Book_same_15 at hf
      refine mv_iload (pc := 15) B d_Book_same_15 4 rfl ?_
      refine mv_iload_n (pc := 17) B d_Book_same_17 rfl 2 rfl ?_
      refine mv_iload_n (pc := 18) B d_Book_same_18 rfl 1 rfl ?_
      refine mv_isub (pc := 19) B d_Book_same_19 ?_
      refine mv_icmp_ge (pc := 20) (tgt := 52) B d_Book_same_20 rfl (fun h20 => ?_) (fun h20 => ?_)
      · skip
        have hf := xif_t h20 hf
        refine mv_iconst (pc := 52) (v := 1) B d_Book_same_52 (by decide) ?_
        obtain ⟨q1, hf⟩ := xzb_e hf
        exact mv_iret (pc := 53) B hr (xzb_n q1) d_Book_same_53 (Nat.le_refl _) (Nat.le_refl _) ⟨_, rfl, xrh_i hf r_hz⟩
      · skip
        have hf := xif_f h20 hf
        refine mv_aload_n (pc := 23) B d_Book_same_23 rfl 0 rfl ?_
        refine mv_getR (pc := 24) (ci := 12) (C := R_Book) (T := F_Book) (N := 65) B 1 rfl rfl (by decide) i_Book (B.2.2.2.1 _ k_1844) rfl ((congrFun (congrFun r_hz 74) 1).trans hb.2) d_Book_same_24 ?_
        refine mv_iload_n (pc := 27) B d_Book_same_27 rfl 1 rfl ?_
        refine mv_iload (pc := 28) B d_Book_same_28 4 rfl ?_
        refine mv_iadd (pc := 30) B d_Book_same_30 ?_
        obtain ⟨q2, hf⟩ := xvi_e hf
        refine mv_bald (pc := 31) B rfl q2 d_Book_same_31 ?_
        refine mv_aload_n (pc := 32) B d_Book_same_32 rfl 0 rfl ?_
        refine mv_getR (pc := 33) (ci := 12) (C := R_Book) (T := F_Book) (N := 65) B 1 rfl rfl (by decide) i_Book (B.2.2.2.1 _ k_1844) rfl ((congrFun (congrFun r_hz 74) 1).trans hb.2) d_Book_same_33 ?_
        refine mv_iload_n (pc := 36) B d_Book_same_36 rfl 3 rfl ?_
        refine mv_iload (pc := 37) B d_Book_same_37 4 rfl ?_
        refine mv_iadd (pc := 39) B d_Book_same_39 ?_
        obtain ⟨q3, hf⟩ := xvi_e hf
        refine mv_bald (pc := 40) B rfl q3 d_Book_same_40 ?_
        refine mv_icmp_eq (pc := 41) (tgt := 46) B d_Book_same_41 rfl (fun h41 => ?_) (fun h41 => ?_)
        · skip
          have hf := xif_t h41 hf
          refine mv_iinc (pc := 46) (j := 4) (v := 1) B d_Book_same_46 rfl (by decide) (by decide) rfl ?_
          refine mv_goto (pc := 49) (tgt := 15) B d_Book_same_49 rfl ?_
          refine mv_lpick [1, 2, 3, 4, 0] rfl ?_
          exact ih15 _ _ _ _ _ r_hz hf
        · skip
          have hf := xif_f h41 hf
          refine mv_iconst (pc := 44) (v := 0) B d_Book_same_44 (by decide) ?_
          obtain ⟨q4, hf⟩ := xzb_e hf
          exact mv_iret (pc := 45) B hr (xzb_n q4) d_Book_same_45 (Nat.le_refl _) (Nat.le_refl _) ⟨_, rfl, xrh_i hf r_hz⟩
  unfold f_Book_same at hf
  refine mv_iload_n (pc := 0) B d_Book_same_0 rfl 2 rfl ?_
  refine mv_iload_n (pc := 1) B d_Book_same_1 rfl 1 rfl ?_
  refine mv_isub (pc := 2) B d_Book_same_2 ?_
  refine mv_iload (pc := 3) B d_Book_same_3 4 rfl ?_
  refine mv_iload_n (pc := 5) B d_Book_same_5 rfl 3 rfl ?_
  refine mv_isub (pc := 6) B d_Book_same_6 ?_
  refine mv_icmp_eq (pc := 7) (tgt := 12) B d_Book_same_7 rfl (fun h7 => ?_) (fun h7 => ?_)
  · skip
    have hf := xif_t h7 hf
    refine mv_iconst (pc := 12) (v := 0) B d_Book_same_12 (by decide) ?_
    refine mv_istore (pc := 13) B d_Book_same_13 (by decide) rfl ?_
    refine mv_lpick [1, 2, 3, 4, 0] rfl ?_
    exact lp15 _ _ _ _ _ _ rfl hf
  · skip
    have hf := xif_f h7 hf
    refine mv_iconst (pc := 10) (v := 0) B d_Book_same_10 (by decide) ?_
    obtain ⟨q5, hf⟩ := xzb_e hf
    exact mv_iret (pc := 11) B hr (xzb_n q5) d_Book_same_11 (Nat.le_refl _) (Nat.le_refl _) ⟨_, rfl, xrh_i hf rfl⟩
set_option maxHeartbeats 4000000 in
set_option maxRecDepth 100000 in
theorem ch_Book_same_y (l : Launch) {dA : FieldType → ClassId} {D : va_G} {al : Nat → Nat} {ext : mv_Sh} {sk sv : Nat → Nat} (hi : mv_inj (mg dA D al ext)) (h : mv_H) (hb : Br 108 (mv_r h))  (a0 : Int32) (a1 : Int32) (a2 : Int32) (a3 : Int32) {rv : Int32} {rg : mv_H} (hf : f_Book_same 108 h a0 a1 a2 a3 = some (rv, rg)) : mv_C l y_Book_same (Cond.code y_Book_same b_Book_same 6 (Option.some Jvm.ClassFile.FieldType.boolean) :: ma) ({ frames := 0, cells := 0, slots := 0, locals := 0 }) (mg dA D al ext) (mK sk sv) [.ref (al 108), .int a0, .int a1, .int a2, .int a3] h (mv_Ri (fun v σ1 => rv = v ∧ rg = σ1 ∧ mv_r σ1 = mv_r h)) := by
  refine mv_C.ofV (cc := b_Book_same) (nL := 6) (ret := (Option.some Jvm.ClassFile.FieldType.boolean)) (by decide +kernel) rfl hi (Nat.le_of_ble_eq_true rfl) ?_
  intro p e s m below meth c B hNs hr hnm hno
  have lp15 : ∀ (nn15 : Nat) (x1 : Int32) (x2 : Int32) (x3 : Int32) (x5 : Int32) (hz : mv_H), mv_r hz = mv_r h → f_Book_same_15 108 nn15 x1 x2 x3 x5 hz = some (rv, rg) → mv_V p l e ({ frames := 0, cells := 0, slots := 0, locals := 0 }) s m ([.ref (al 108), .int a0, .int a1, .int a2, .int a3] : List Value).toArray below meth c (mg dA D al ext) 6 0 0 (mv_Q (mg dA D al ext) below s 0 0 (mv_Ri (fun v σ1 => rv = v ∧ rg = σ1 ∧ mv_r σ1 = mv_r h))) hz 15 [(0, .ref (al 108)), (1, .int x1), (2, .int x2), (3, .int x3), (5, .int x5)] [] := by
    intro nn15
    induction nn15 with
    | zero => intro x1 x2 x3 x5 hz r_hz hf; cases hf
    | succ nn15 ih15 =>
      intro x1 x2 x3 x5 hz r_hz hf
      have hf : fF_Book_same_15 108 (f_Book_same_15 108 nn15) x1 x2 x3 x5 hz = some (rv, rg) := hf
      unfold fF_Book_same_15 at hf
      refine mv_iload (pc := 15) B d_Book_same_15 4 rfl ?_
      refine mv_iload_n (pc := 17) B d_Book_same_17 rfl 2 rfl ?_
      refine mv_iload_n (pc := 18) B d_Book_same_18 rfl 1 rfl ?_
      refine mv_isub (pc := 19) B d_Book_same_19 ?_
      refine mv_icmp_ge (pc := 20) (tgt := 52) B d_Book_same_20 rfl (fun h20 => ?_) (fun h20 => ?_)
      · skip
        have hf := xif_t h20 hf
        refine mv_iconst (pc := 52) (v := 1) B d_Book_same_52 (by decide) ?_
        obtain ⟨q1, hf⟩ := xzb_e hf
        exact mv_iret (pc := 53) B hr (xzb_n q1) d_Book_same_53 (Nat.le_refl _) (Nat.le_refl _) ⟨_, rfl, xrh_i hf r_hz⟩
      · skip
        have hf := xif_f h20 hf
        refine mv_aload_n (pc := 23) B d_Book_same_23 rfl 0 rfl ?_
        refine mv_getR (pc := 24) (ci := 12) (C := R_Book) (T := F_Book) (N := 65) B 1 rfl rfl (by decide) i_Book (B.2.2.2.1 _ k_1844) rfl ((congrFun (congrFun r_hz 108) 1).trans hb.2) d_Book_same_24 ?_
        refine mv_iload_n (pc := 27) B d_Book_same_27 rfl 1 rfl ?_
        refine mv_iload (pc := 28) B d_Book_same_28 4 rfl ?_
        refine mv_iadd (pc := 30) B d_Book_same_30 ?_
        obtain ⟨q2, hf⟩ := xvi_e hf
        refine mv_bald (pc := 31) B rfl q2 d_Book_same_31 ?_
        refine mv_aload_n (pc := 32) B d_Book_same_32 rfl 0 rfl ?_
        refine mv_getR (pc := 33) (ci := 12) (C := R_Book) (T := F_Book) (N := 65) B 1 rfl rfl (by decide) i_Book (B.2.2.2.1 _ k_1844) rfl ((congrFun (congrFun r_hz 108) 1).trans hb.2) d_Book_same_33 ?_
        refine mv_iload_n (pc := 36) B d_Book_same_36 rfl 3 rfl ?_
        refine mv_iload (pc := 37) B d_Book_same_37 4 rfl ?_
        refine mv_iadd (pc := 39) B d_Book_same_39 ?_
        obtain ⟨q3, hf⟩ := xvi_e hf
        refine mv_bald (pc := 40) B rfl q3 d_Book_same_40 ?_
        refine mv_icmp_eq (pc := 41) (tgt := 46) B d_Book_same_41 rfl (fun h41 => ?_) (fun h41 => ?_)
        · skip
          have hf := xif_t h41 hf
          refine mv_iinc (pc := 46) (j := 4) (v := 1) B d_Book_same_46 rfl (by decide) (by decide) rfl ?_
          refine mv_goto (pc := 49) (tgt := 15) B d_Book_same_49 rfl ?_
          refine mv_lpick [1, 2, 3, 4, 0] rfl ?_
          exact ih15 _ _ _ _ _ r_hz hf
        · skip
          have hf := xif_f h41 hf
          refine mv_iconst (pc := 44) (v := 0) B d_Book_same_44 (by decide) ?_
          obtain ⟨q4, hf⟩ := xzb_e hf
          exact mv_iret (pc := 45) B hr (xzb_n q4) d_Book_same_45 (Nat.le_refl _) (Nat.le_refl _) ⟨_, rfl, xrh_i hf r_hz⟩
  unfold f_Book_same at hf
  refine mv_iload_n (pc := 0) B d_Book_same_0 rfl 2 rfl ?_
  refine mv_iload_n (pc := 1) B d_Book_same_1 rfl 1 rfl ?_
  refine mv_isub (pc := 2) B d_Book_same_2 ?_
  refine mv_iload (pc := 3) B d_Book_same_3 4 rfl ?_
  refine mv_iload_n (pc := 5) B d_Book_same_5 rfl 3 rfl ?_
  refine mv_isub (pc := 6) B d_Book_same_6 ?_
  refine mv_icmp_eq (pc := 7) (tgt := 12) B d_Book_same_7 rfl (fun h7 => ?_) (fun h7 => ?_)
  · skip
    have hf := xif_t h7 hf
    refine mv_iconst (pc := 12) (v := 0) B d_Book_same_12 (by decide) ?_
    refine mv_istore (pc := 13) B d_Book_same_13 (by decide) rfl ?_
    refine mv_lpick [1, 2, 3, 4, 0] rfl ?_
    exact lp15 _ _ _ _ _ _ rfl hf
  · skip
    have hf := xif_f h7 hf
    refine mv_iconst (pc := 10) (v := 0) B d_Book_same_10 (by decide) ?_
    obtain ⟨q5, hf⟩ := xzb_e hf
    exact mv_iret (pc := 11) B hr (xzb_n q5) d_Book_same_11 (Nat.le_refl _) (Nat.le_refl _) ⟨_, rfl, xrh_i hf rfl⟩
def fF_Book_thing_2 (P : Nat) (k2 : Int32 → Int32 → Int32 → mv_H → Option (Int32 × mv_H)) (x1 : Int32) (x2 : Int32) (x3 : Int32) (hz : mv_H) : Option (Int32 × mv_H) := if (mv_i hz P 17) ≤ x3 then (some ((-1 : Int32), hz)) else (bif xvi x3 4100 then bif xvi x3 4100 then xhb (f_Book_same P hz (mv_a hz (P + 1) (x3).toNatClampNeg) (mv_a hz (P + 2) (x3).toNatClampNeg) x1 x2) fun u4 g3 => if u4 = (0 : Int32) then (k2 x1 x2 (x3 + 1) g3) else (some (x3, g3)) else none else none)
def f_Book_thing_2 (P : Nat) : Nat → Int32 → Int32 → Int32 → mv_H → Option (Int32 × mv_H)
  | 0 => fun _ _ _ _ => none
  | nn + 1 => fF_Book_thing_2 P (f_Book_thing_2 P nn)
def f_Book_thing (P : Nat) (h : mv_H) (a0 : Int32) (a1 : Int32) : Option (Int32 × mv_H) := f_Book_thing_2 P 200000 a0 a1 (0 : Int32) h
set_option maxHeartbeats 4000000 in
set_option maxRecDepth 100000 in
theorem ch_Book_thing_x (l : Launch) {dA : FieldType → ClassId} {D : va_G} {al : Nat → Nat} {ext : mv_Sh} {sk sv : Nat → Nat} (hi : mv_inj (mg dA D al ext)) (h : mv_H) (hb : Br 74 (mv_r h))  (a0 : Int32) (a1 : Int32) {rv : Int32} {rg : mv_H} (hf : f_Book_thing 74 h a0 a1 = some (rv, rg)) : mv_C l y_Book_thing (Cond.code y_Book_thing b_Book_thing 4 (Option.some Jvm.ClassFile.FieldType.int) :: ma) ({ frames := 1, cells := 0, slots := 0, locals := 25 }) (mg dA D al ext) (mK sk sv) [.ref (al 74), .int a0, .int a1] h (mv_Ri (fun v σ1 => rv = v ∧ rg = σ1 ∧ mv_r σ1 = mv_r h)) := by
  refine mv_C.ofV (cc := b_Book_thing) (nL := 4) (ret := (Option.some Jvm.ClassFile.FieldType.int)) (by decide +kernel) rfl hi (Nat.le_of_ble_eq_true rfl) ?_
  intro p e s m below meth c B hNs hr hnm hno
  have lp2 : ∀ (nn2 : Nat) (x1 : Int32) (x2 : Int32) (x3 : Int32) (hz : mv_H), mv_r hz = mv_r h → f_Book_thing_2 74 nn2 x1 x2 x3 hz = some (rv, rg) → mv_V p l e ({ frames := 1, cells := 0, slots := 0, locals := 25 }) s m ([.ref (al 74), .int a0, .int a1] : List Value).toArray below meth c (mg dA D al ext) 4 0 0 (mv_Q (mg dA D al ext) below s 0 0 (mv_Ri (fun v σ1 => rv = v ∧ rg = σ1 ∧ mv_r σ1 = mv_r h))) hz 2 [(0, .ref (al 74)), (1, .int x1), (2, .int x2), (3, .int x3)] [] := by
    intro nn2
    induction nn2 with
    | zero => intro x1 x2 x3 hz r_hz hf; cases hf
    | succ nn2 ih2 =>
      intro x1 x2 x3 hz r_hz hf
      have hf : fF_Book_thing_2 74 (f_Book_thing_2 74 nn2) x1 x2 x3 hz = some (rv, rg) := hf
      unfold fF_Book_thing_2 at hf
      refine mv_iload_n (pc := 2) B d_Book_thing_2 rfl 3 rfl ?_
      refine mv_aload_n (pc := 3) B d_Book_thing_3 rfl 0 rfl ?_
      refine mv_getI (pc := 4) (ci := 12) (C := R_Book) (T := F_Book) (N := 65) B 17 rfl rfl (by decide) i_Book (B.2.2.2.1 _ k_1860) rfl d_Book_thing_4 ?_
      refine mv_icmp_ge (pc := 7) (tgt := 39) B d_Book_thing_7 rfl (fun h7 => ?_) (fun h7 => ?_)
      · skip
        have hf := xif_t h7 hf
        refine mv_iconst (pc := 39) (v := -1) B d_Book_thing_39 (by decide) ?_
        exact mv_iret (pc := 40) B hr rfl d_Book_thing_40 (Nat.le_refl _) (Nat.le_refl _) ⟨_, rfl, xrh_i hf r_hz⟩
      · skip
        have hf := xif_f h7 hf
        refine mv_aload_n (pc := 10) B d_Book_thing_10 rfl 0 rfl ?_
        refine mv_aload_n (pc := 11) B d_Book_thing_11 rfl 0 rfl ?_
        refine mv_getR (pc := 12) (ci := 12) (C := R_Book) (T := F_Book) (N := 65) B 10 rfl rfl (by decide) i_Book (B.2.2.2.1 _ k_1853) rfl ((congrFun (congrFun r_hz 74) 10).trans (hb.1 74 10 _ rfl)) d_Book_thing_12 ?_
        refine mv_iload_n (pc := 15) B d_Book_thing_15 rfl 3 rfl ?_
        obtain ⟨q1, hf⟩ := xvi_e hf
        refine mv_iald (pc := 16) B rfl q1 d_Book_thing_16 ?_
        refine mv_aload_n (pc := 17) B d_Book_thing_17 rfl 0 rfl ?_
        refine mv_getR (pc := 18) (ci := 12) (C := R_Book) (T := F_Book) (N := 65) B 11 rfl rfl (by decide) i_Book (B.2.2.2.1 _ k_1854) rfl ((congrFun (congrFun r_hz 74) 11).trans (hb.1 74 11 _ rfl)) d_Book_thing_18 ?_
        refine mv_iload_n (pc := 21) B d_Book_thing_21 rfl 3 rfl ?_
        obtain ⟨q2, hf⟩ := xvi_e hf
        refine mv_iald (pc := 22) B rfl q2 d_Book_thing_22 ?_
        refine mv_iload_n (pc := 23) B d_Book_thing_23 rfl 1 rfl ?_
        refine mv_iload_n (pc := 24) B d_Book_thing_24 rfl 2 rfl ?_
        obtain ⟨u4, g3, eg3, hf⟩ := xhb_e hf
        refine mv_callVi (pc := 25) (n := 4) (ci := 12) (C := R_Book) B (mK_ok sk sv) hNs rfl rfl (ch_Book_same_x l hi _ (xrw r_hz hb) _ _ _ _ eg3) rfl (ma_goodc kc_Book_same) (B.2.2.2.1 _ k_2216) (B.2.2.2.1 _ k_2218) (B.2.2.2.1 _ ks_98) (B.2.2.2.1 _ k_13) ⟨by decide +kernel, by decide +kernel, by decide +kernel⟩ rfl d_Book_thing_25 rfl (Nat.le_of_ble_eq_true rfl) ⟨by decide, by decide⟩ ⟨by decide, by decide⟩ ⟨by decide, by decide⟩ (mv_noH hno _) (fun w25 σ25 h25 => ?_)
        obtain ⟨rfl, rfl, s_g3⟩ := h25
        have r_g3 : mv_r g3 = mv_r h := s_g3.trans r_hz
        refine mv_if_eq (pc := 28) (tgt := 33) B d_Book_thing_28 rfl (fun h28 => ?_) (fun h28 => ?_)
        · skip
          have hf := xif_t h28 hf
          refine mv_iinc (pc := 33) (j := 3) (v := 1) B d_Book_thing_33 rfl (by decide) (by decide) rfl ?_
          refine mv_goto (pc := 36) (tgt := 2) B d_Book_thing_36 rfl ?_
          refine mv_lpick [1, 2, 3, 0] rfl ?_
          exact ih2 _ _ _ _ r_g3 hf
        · skip
          have hf := xif_f h28 hf
          refine mv_iload_n (pc := 31) B d_Book_thing_31 rfl 3 rfl ?_
          exact mv_iret (pc := 32) B hr rfl d_Book_thing_32 (Nat.le_refl _) (Nat.le_refl _) ⟨_, rfl, xrh_i hf r_g3⟩
  unfold f_Book_thing at hf
  refine mv_iconst (pc := 0) (v := 0) B d_Book_thing_0 (by decide) ?_
  refine mv_istore_n (pc := 1) B d_Book_thing_1 rfl (by decide) rfl ?_
  refine mv_lpick [1, 2, 3, 0] rfl ?_
  exact lp2 _ _ _ _ _ rfl hf
set_option maxHeartbeats 4000000 in
set_option maxRecDepth 100000 in
theorem ch_Book_thing_y (l : Launch) {dA : FieldType → ClassId} {D : va_G} {al : Nat → Nat} {ext : mv_Sh} {sk sv : Nat → Nat} (hi : mv_inj (mg dA D al ext)) (h : mv_H) (hb : Br 108 (mv_r h))  (a0 : Int32) (a1 : Int32) {rv : Int32} {rg : mv_H} (hf : f_Book_thing 108 h a0 a1 = some (rv, rg)) : mv_C l y_Book_thing (Cond.code y_Book_thing b_Book_thing 4 (Option.some Jvm.ClassFile.FieldType.int) :: ma) ({ frames := 1, cells := 0, slots := 0, locals := 25 }) (mg dA D al ext) (mK sk sv) [.ref (al 108), .int a0, .int a1] h (mv_Ri (fun v σ1 => rv = v ∧ rg = σ1 ∧ mv_r σ1 = mv_r h)) := by
  refine mv_C.ofV (cc := b_Book_thing) (nL := 4) (ret := (Option.some Jvm.ClassFile.FieldType.int)) (by decide +kernel) rfl hi (Nat.le_of_ble_eq_true rfl) ?_
  intro p e s m below meth c B hNs hr hnm hno
  have lp2 : ∀ (nn2 : Nat) (x1 : Int32) (x2 : Int32) (x3 : Int32) (hz : mv_H), mv_r hz = mv_r h → f_Book_thing_2 108 nn2 x1 x2 x3 hz = some (rv, rg) → mv_V p l e ({ frames := 1, cells := 0, slots := 0, locals := 25 }) s m ([.ref (al 108), .int a0, .int a1] : List Value).toArray below meth c (mg dA D al ext) 4 0 0 (mv_Q (mg dA D al ext) below s 0 0 (mv_Ri (fun v σ1 => rv = v ∧ rg = σ1 ∧ mv_r σ1 = mv_r h))) hz 2 [(0, .ref (al 108)), (1, .int x1), (2, .int x2), (3, .int x3)] [] := by
    intro nn2
    induction nn2 with
    | zero => intro x1 x2 x3 hz r_hz hf; cases hf
    | succ nn2 ih2 =>
      intro x1 x2 x3 hz r_hz hf
      have hf : fF_Book_thing_2 108 (f_Book_thing_2 108 nn2) x1 x2 x3 hz = some (rv, rg) := hf
      unfold fF_Book_thing_2 at hf
      refine mv_iload_n (pc := 2) B d_Book_thing_2 rfl 3 rfl ?_
      refine mv_aload_n (pc := 3) B d_Book_thing_3 rfl 0 rfl ?_
      refine mv_getI (pc := 4) (ci := 12) (C := R_Book) (T := F_Book) (N := 65) B 17 rfl rfl (by decide) i_Book (B.2.2.2.1 _ k_1860) rfl d_Book_thing_4 ?_
      refine mv_icmp_ge (pc := 7) (tgt := 39) B d_Book_thing_7 rfl (fun h7 => ?_) (fun h7 => ?_)
      · skip
        have hf := xif_t h7 hf
        refine mv_iconst (pc := 39) (v := -1) B d_Book_thing_39 (by decide) ?_
        exact mv_iret (pc := 40) B hr rfl d_Book_thing_40 (Nat.le_refl _) (Nat.le_refl _) ⟨_, rfl, xrh_i hf r_hz⟩
      · skip
        have hf := xif_f h7 hf
        refine mv_aload_n (pc := 10) B d_Book_thing_10 rfl 0 rfl ?_
        refine mv_aload_n (pc := 11) B d_Book_thing_11 rfl 0 rfl ?_
        refine mv_getR (pc := 12) (ci := 12) (C := R_Book) (T := F_Book) (N := 65) B 10 rfl rfl (by decide) i_Book (B.2.2.2.1 _ k_1853) rfl ((congrFun (congrFun r_hz 108) 10).trans (hb.1 108 10 _ rfl)) d_Book_thing_12 ?_
        refine mv_iload_n (pc := 15) B d_Book_thing_15 rfl 3 rfl ?_
        obtain ⟨q1, hf⟩ := xvi_e hf
        refine mv_iald (pc := 16) B rfl q1 d_Book_thing_16 ?_
        refine mv_aload_n (pc := 17) B d_Book_thing_17 rfl 0 rfl ?_
        refine mv_getR (pc := 18) (ci := 12) (C := R_Book) (T := F_Book) (N := 65) B 11 rfl rfl (by decide) i_Book (B.2.2.2.1 _ k_1854) rfl ((congrFun (congrFun r_hz 108) 11).trans (hb.1 108 11 _ rfl)) d_Book_thing_18 ?_
        refine mv_iload_n (pc := 21) B d_Book_thing_21 rfl 3 rfl ?_
        obtain ⟨q2, hf⟩ := xvi_e hf
        refine mv_iald (pc := 22) B rfl q2 d_Book_thing_22 ?_
        refine mv_iload_n (pc := 23) B d_Book_thing_23 rfl 1 rfl ?_
        refine mv_iload_n (pc := 24) B d_Book_thing_24 rfl 2 rfl ?_
        obtain ⟨u4, g3, eg3, hf⟩ := xhb_e hf
        refine mv_callVi (pc := 25) (n := 4) (ci := 12) (C := R_Book) B (mK_ok sk sv) hNs rfl rfl (ch_Book_same_y l hi _ (xrw r_hz hb) _ _ _ _ eg3) rfl (ma_goodc kc_Book_same) (B.2.2.2.1 _ k_2216) (B.2.2.2.1 _ k_2218) (B.2.2.2.1 _ ks_98) (B.2.2.2.1 _ k_13) ⟨by decide +kernel, by decide +kernel, by decide +kernel⟩ rfl d_Book_thing_25 rfl (Nat.le_of_ble_eq_true rfl) ⟨by decide, by decide⟩ ⟨by decide, by decide⟩ ⟨by decide, by decide⟩ (mv_noH hno _) (fun w25 σ25 h25 => ?_)
        obtain ⟨rfl, rfl, s_g3⟩ := h25
        have r_g3 : mv_r g3 = mv_r h := s_g3.trans r_hz
        refine mv_if_eq (pc := 28) (tgt := 33) B d_Book_thing_28 rfl (fun h28 => ?_) (fun h28 => ?_)
        · skip
          have hf := xif_t h28 hf
          refine mv_iinc (pc := 33) (j := 3) (v := 1) B d_Book_thing_33 rfl (by decide) (by decide) rfl ?_
          refine mv_goto (pc := 36) (tgt := 2) B d_Book_thing_36 rfl ?_
          refine mv_lpick [1, 2, 3, 0] rfl ?_
          exact ih2 _ _ _ _ r_g3 hf
        · skip
          have hf := xif_f h28 hf
          refine mv_iload_n (pc := 31) B d_Book_thing_31 rfl 3 rfl ?_
          exact mv_iret (pc := 32) B hr rfl d_Book_thing_32 (Nat.le_refl _) (Nat.le_refl _) ⟨_, rfl, xrh_i hf r_g3⟩
  unfold f_Book_thing at hf
  refine mv_iconst (pc := 0) (v := 0) B d_Book_thing_0 (by decide) ?_
  refine mv_istore_n (pc := 1) B d_Book_thing_1 rfl (by decide) rfl ?_
  refine mv_lpick [1, 2, 3, 0] rfl ?_
  exact lp2 _ _ _ _ _ rfl hf
def f_Book_letterBits_33 (P : Nat) (k12 : Int32 → Int32 → Int32 → mv_H → Option (Int32 × mv_H)) (x1 : Int32) (x2 : Int32) (x3 : Int32) (hz : mv_H) : Option (Int32 × mv_H) := k12 x1 x2 (x3 + 1) hz
def fF_Book_letterBits_12 (P : Nat) (k12 : Int32 → Int32 → Int32 → mv_H → Option (Int32 × mv_H)) (x1 : Int32) (x2 : Int32) (x3 : Int32) (hz : mv_H) : Option (Int32 × mv_H) := if (mv_i hz P 30) ≤ x3 then (some (x2, hz)) else (bif xvi x3 32768 then if (mv_a hz (P + 13) (x3).toNatClampNeg) = x1 then (f_Book_letterBits_33 P k12 x1 (x2 + 1) x3 hz) else (f_Book_letterBits_33 P k12 x1 x2 x3 hz) else none)
def f_Book_letterBits_12 (P : Nat) : Nat → Int32 → Int32 → Int32 → mv_H → Option (Int32 × mv_H)
  | 0 => fun _ _ _ _ => none
  | nn + 1 => fF_Book_letterBits_12 P (f_Book_letterBits_12 P nn)
def f_Book_letterBits (P : Nat) (h : mv_H) (a0 : Int32) : Option (Int32 × mv_H) := bif xvi (mv_i h P 29) 4100 then f_Book_letterBits_12 P 200000 a0 (0 : Int32) (mv_a h (P + 10) ((mv_i h P 29)).toNatClampNeg) h else none
set_option maxHeartbeats 4000000 in
set_option maxRecDepth 100000 in
theorem ch_Book_letterBits_x (l : Launch) {dA : FieldType → ClassId} {D : va_G} {al : Nat → Nat} {ext : mv_Sh} {sk sv : Nat → Nat} (hi : mv_inj (mg dA D al ext)) (h : mv_H) (hb : Br 74 (mv_r h))  (a0 : Int32) {rv : Int32} {rg : mv_H} (hf : f_Book_letterBits 74 h a0 = some (rv, rg)) : mv_C l y_Book_letterBits (Cond.code y_Book_letterBits b_Book_letterBits 4 (Option.some Jvm.ClassFile.FieldType.int) :: ma) ({ frames := 0, cells := 0, slots := 0, locals := 0 }) (mg dA D al ext) (mK sk sv) [.ref (al 74), .int a0] h (mv_Ri (fun v σ1 => rv = v ∧ rg = σ1 ∧ mv_r σ1 = mv_r h)) := by
  refine mv_C.ofV (cc := b_Book_letterBits) (nL := 4) (ret := (Option.some Jvm.ClassFile.FieldType.int)) (by decide +kernel) rfl hi (Nat.le_of_ble_eq_true rfl) ?_
  intro p e s m below meth c B hNs hr hnm hno
  have lp12 : ∀ (nn12 : Nat) (x1 : Int32) (x2 : Int32) (x3 : Int32) (hz : mv_H), mv_r hz = mv_r h → f_Book_letterBits_12 74 nn12 x1 x2 x3 hz = some (rv, rg) → mv_V p l e ({ frames := 0, cells := 0, slots := 0, locals := 0 }) s m ([.ref (al 74), .int a0] : List Value).toArray below meth c (mg dA D al ext) 4 0 0 (mv_Q (mg dA D al ext) below s 0 0 (mv_Ri (fun v σ1 => rv = v ∧ rg = σ1 ∧ mv_r σ1 = mv_r h))) hz 12 [(0, .ref (al 74)), (1, .int x1), (2, .int x2), (3, .int x3)] [] := by
    intro nn12
    induction nn12 with
    | zero => intro x1 x2 x3 hz r_hz hf; cases hf
    | succ nn12 ih12 =>
      intro x1 x2 x3 hz r_hz hf
      have jn33 : ∀ (x1 : Int32) (x2 : Int32) (x3 : Int32) (hz : mv_H), mv_r hz = mv_r h → f_Book_letterBits_33 74 (f_Book_letterBits_12 74 nn12) x1 x2 x3 hz = some (rv, rg) → mv_V p l e ({ frames := 0, cells := 0, slots := 0, locals := 0 }) s m ([.ref (al 74), .int a0] : List Value).toArray below meth c (mg dA D al ext) 4 0 0 (mv_Q (mg dA D al ext) below s 0 0 (mv_Ri (fun v σ1 => rv = v ∧ rg = σ1 ∧ mv_r σ1 = mv_r h))) hz 33 [(0, .ref (al 74)), (1, .int x1), (2, .int x2), (3, .int x3)] [] := by
        intro x1 x2 x3 hz r_hz hf
        unfold f_Book_letterBits_33 at hf
        refine mv_iinc (pc := 33) (j := 3) (v := 1) B d_Book_letterBits_33 rfl (by decide) (by decide) rfl ?_
        refine mv_goto (pc := 36) (tgt := 12) B d_Book_letterBits_36 rfl ?_
        refine mv_lpick [1, 2, 3, 0] rfl ?_
        exact ih12 _ _ _ _ r_hz hf
      have hf : fF_Book_letterBits_12 74 (f_Book_letterBits_12 74 nn12) x1 x2 x3 hz = some (rv, rg) := hf
      unfold fF_Book_letterBits_12 at hf
      refine mv_iload_n (pc := 12) B d_Book_letterBits_12 rfl 3 rfl ?_
      refine mv_aload_n (pc := 13) B d_Book_letterBits_13 rfl 0 rfl ?_
      refine mv_getI (pc := 14) (ci := 12) (C := R_Book) (T := F_Book) (N := 65) B 30 rfl rfl (by decide) i_Book (B.2.2.2.1 _ k_1876) rfl d_Book_letterBits_14 ?_
      refine mv_icmp_ge (pc := 17) (tgt := 39) B d_Book_letterBits_17 rfl (fun h17 => ?_) (fun h17 => ?_)
      · skip
        have hf := xif_t h17 hf
        refine mv_iload_n (pc := 39) B d_Book_letterBits_39 rfl 2 rfl ?_
        exact mv_iret (pc := 40) B hr rfl d_Book_letterBits_40 (Nat.le_refl _) (Nat.le_refl _) ⟨_, rfl, xrh_i hf r_hz⟩
      · skip
        have hf := xif_f h17 hf
        refine mv_aload_n (pc := 20) B d_Book_letterBits_20 rfl 0 rfl ?_
        refine mv_getR (pc := 21) (ci := 12) (C := R_Book) (T := F_Book) (N := 65) B 28 rfl rfl (by decide) i_Book (B.2.2.2.1 _ k_1873) rfl ((congrFun (congrFun r_hz 74) 28).trans (hb.1 74 28 _ rfl)) d_Book_letterBits_21 ?_
        refine mv_iload_n (pc := 24) B d_Book_letterBits_24 rfl 3 rfl ?_
        obtain ⟨q1, hf⟩ := xvi_e hf
        refine mv_bald (pc := 25) B rfl q1 d_Book_letterBits_25 ?_
        refine mv_iload_n (pc := 26) B d_Book_letterBits_26 rfl 1 rfl ?_
        refine mv_icmp_ne (pc := 27) (tgt := 33) B d_Book_letterBits_27 rfl (fun h27 => ?_) (fun h27 => ?_)
        · skip
          have hf := xif_f h27 hf
          refine mv_lpick [0, 1, 2, 3] rfl ?_
          exact jn33 _ _ _ _ r_hz hf
        · skip
          have hf := xif_t h27 hf
          refine mv_iinc (pc := 30) (j := 2) (v := 1) B d_Book_letterBits_30 rfl (by decide) (by decide) rfl ?_
          refine mv_lpick [1, 2, 0, 3] rfl ?_
          exact jn33 _ _ _ _ r_hz hf
  unfold f_Book_letterBits at hf
  refine mv_iconst (pc := 0) (v := 0) B d_Book_letterBits_0 (by decide) ?_
  refine mv_istore_n (pc := 1) B d_Book_letterBits_1 rfl (by decide) rfl ?_
  refine mv_aload_n (pc := 2) B d_Book_letterBits_2 rfl 1 rfl ?_
  refine mv_getR (pc := 3) (ci := 12) (C := R_Book) (T := F_Book) (N := 65) B 25 rfl rfl (by decide) i_Book (B.2.2.2.1 _ k_1870) rfl (hb.1 74 25 _ rfl) d_Book_letterBits_3 ?_
  refine mv_aload_n (pc := 6) B d_Book_letterBits_6 rfl 1 rfl ?_
  refine mv_getI (pc := 7) (ci := 12) (C := R_Book) (T := F_Book) (N := 65) B 29 rfl rfl (by decide) i_Book (B.2.2.2.1 _ k_1874) rfl d_Book_letterBits_7 ?_
  obtain ⟨q2, hf⟩ := xvi_e hf
  refine mv_iald (pc := 10) B rfl q2 d_Book_letterBits_10 ?_
  refine mv_istore_n (pc := 11) B d_Book_letterBits_11 rfl (by decide) rfl ?_
  refine mv_lpick [2, 3, 1, 0] rfl ?_
  exact lp12 _ _ _ _ _ rfl hf
set_option maxHeartbeats 4000000 in
set_option maxRecDepth 100000 in
theorem ch_Book_letterBits_y (l : Launch) {dA : FieldType → ClassId} {D : va_G} {al : Nat → Nat} {ext : mv_Sh} {sk sv : Nat → Nat} (hi : mv_inj (mg dA D al ext)) (h : mv_H) (hb : Br 108 (mv_r h))  (a0 : Int32) {rv : Int32} {rg : mv_H} (hf : f_Book_letterBits 108 h a0 = some (rv, rg)) : mv_C l y_Book_letterBits (Cond.code y_Book_letterBits b_Book_letterBits 4 (Option.some Jvm.ClassFile.FieldType.int) :: ma) ({ frames := 0, cells := 0, slots := 0, locals := 0 }) (mg dA D al ext) (mK sk sv) [.ref (al 108), .int a0] h (mv_Ri (fun v σ1 => rv = v ∧ rg = σ1 ∧ mv_r σ1 = mv_r h)) := by
  refine mv_C.ofV (cc := b_Book_letterBits) (nL := 4) (ret := (Option.some Jvm.ClassFile.FieldType.int)) (by decide +kernel) rfl hi (Nat.le_of_ble_eq_true rfl) ?_
  intro p e s m below meth c B hNs hr hnm hno
  have lp12 : ∀ (nn12 : Nat) (x1 : Int32) (x2 : Int32) (x3 : Int32) (hz : mv_H), mv_r hz = mv_r h → f_Book_letterBits_12 108 nn12 x1 x2 x3 hz = some (rv, rg) → mv_V p l e ({ frames := 0, cells := 0, slots := 0, locals := 0 }) s m ([.ref (al 108), .int a0] : List Value).toArray below meth c (mg dA D al ext) 4 0 0 (mv_Q (mg dA D al ext) below s 0 0 (mv_Ri (fun v σ1 => rv = v ∧ rg = σ1 ∧ mv_r σ1 = mv_r h))) hz 12 [(0, .ref (al 108)), (1, .int x1), (2, .int x2), (3, .int x3)] [] := by
    intro nn12
    induction nn12 with
    | zero => intro x1 x2 x3 hz r_hz hf; cases hf
    | succ nn12 ih12 =>
      intro x1 x2 x3 hz r_hz hf
      have jn33 : ∀ (x1 : Int32) (x2 : Int32) (x3 : Int32) (hz : mv_H), mv_r hz = mv_r h → f_Book_letterBits_33 108 (f_Book_letterBits_12 108 nn12) x1 x2 x3 hz = some (rv, rg) → mv_V p l e ({ frames := 0, cells := 0, slots := 0, locals := 0 }) s m ([.ref (al 108), .int a0] : List Value).toArray below meth c (mg dA D al ext) 4 0 0 (mv_Q (mg dA D al ext) below s 0 0 (mv_Ri (fun v σ1 => rv = v ∧ rg = σ1 ∧ mv_r σ1 = mv_r h))) hz 33 [(0, .ref (al 108)), (1, .int x1), (2, .int x2), (3, .int x3)] [] := by
        intro x1 x2 x3 hz r_hz hf
        unfold f_Book_letterBits_33 at hf
        refine mv_iinc (pc := 33) (j := 3) (v := 1) B d_Book_letterBits_33 rfl (by decide) (by decide) rfl ?_
        refine mv_goto (pc := 36) (tgt := 12) B d_Book_letterBits_36 rfl ?_
        refine mv_lpick [1, 2, 3, 0] rfl ?_
        exact ih12 _ _ _ _ r_hz hf
      have hf : fF_Book_letterBits_12 108 (f_Book_letterBits_12 108 nn12) x1 x2 x3 hz = some (rv, rg) := hf
      unfold fF_Book_letterBits_12 at hf
      refine mv_iload_n (pc := 12) B d_Book_letterBits_12 rfl 3 rfl ?_
      refine mv_aload_n (pc := 13) B d_Book_letterBits_13 rfl 0 rfl ?_
      refine mv_getI (pc := 14) (ci := 12) (C := R_Book) (T := F_Book) (N := 65) B 30 rfl rfl (by decide) i_Book (B.2.2.2.1 _ k_1876) rfl d_Book_letterBits_14 ?_
      refine mv_icmp_ge (pc := 17) (tgt := 39) B d_Book_letterBits_17 rfl (fun h17 => ?_) (fun h17 => ?_)
      · skip
        have hf := xif_t h17 hf
        refine mv_iload_n (pc := 39) B d_Book_letterBits_39 rfl 2 rfl ?_
        exact mv_iret (pc := 40) B hr rfl d_Book_letterBits_40 (Nat.le_refl _) (Nat.le_refl _) ⟨_, rfl, xrh_i hf r_hz⟩
      · skip
        have hf := xif_f h17 hf
        refine mv_aload_n (pc := 20) B d_Book_letterBits_20 rfl 0 rfl ?_
        refine mv_getR (pc := 21) (ci := 12) (C := R_Book) (T := F_Book) (N := 65) B 28 rfl rfl (by decide) i_Book (B.2.2.2.1 _ k_1873) rfl ((congrFun (congrFun r_hz 108) 28).trans (hb.1 108 28 _ rfl)) d_Book_letterBits_21 ?_
        refine mv_iload_n (pc := 24) B d_Book_letterBits_24 rfl 3 rfl ?_
        obtain ⟨q1, hf⟩ := xvi_e hf
        refine mv_bald (pc := 25) B rfl q1 d_Book_letterBits_25 ?_
        refine mv_iload_n (pc := 26) B d_Book_letterBits_26 rfl 1 rfl ?_
        refine mv_icmp_ne (pc := 27) (tgt := 33) B d_Book_letterBits_27 rfl (fun h27 => ?_) (fun h27 => ?_)
        · skip
          have hf := xif_f h27 hf
          refine mv_lpick [0, 1, 2, 3] rfl ?_
          exact jn33 _ _ _ _ r_hz hf
        · skip
          have hf := xif_t h27 hf
          refine mv_iinc (pc := 30) (j := 2) (v := 1) B d_Book_letterBits_30 rfl (by decide) (by decide) rfl ?_
          refine mv_lpick [1, 2, 0, 3] rfl ?_
          exact jn33 _ _ _ _ r_hz hf
  unfold f_Book_letterBits at hf
  refine mv_iconst (pc := 0) (v := 0) B d_Book_letterBits_0 (by decide) ?_
  refine mv_istore_n (pc := 1) B d_Book_letterBits_1 rfl (by decide) rfl ?_
  refine mv_aload_n (pc := 2) B d_Book_letterBits_2 rfl 1 rfl ?_
  refine mv_getR (pc := 3) (ci := 12) (C := R_Book) (T := F_Book) (N := 65) B 25 rfl rfl (by decide) i_Book (B.2.2.2.1 _ k_1870) rfl (hb.1 108 25 _ rfl) d_Book_letterBits_3 ?_
  refine mv_aload_n (pc := 6) B d_Book_letterBits_6 rfl 1 rfl ?_
  refine mv_getI (pc := 7) (ci := 12) (C := R_Book) (T := F_Book) (N := 65) B 29 rfl rfl (by decide) i_Book (B.2.2.2.1 _ k_1874) rfl d_Book_letterBits_7 ?_
  obtain ⟨q2, hf⟩ := xvi_e hf
  refine mv_iald (pc := 10) B rfl q2 d_Book_letterBits_10 ?_
  refine mv_istore_n (pc := 11) B d_Book_letterBits_11 rfl (by decide) rfl ?_
  refine mv_lpick [2, 3, 1, 0] rfl ?_
  exact lp12 _ _ _ _ _ rfl hf
def fF_Book_let_2 (P : Nat) (k2 : Int32 → Int32 → Int32 → mv_H → Option (Int32 × mv_H)) (x1 : Int32) (x2 : Int32) (x3 : Int32) (hz : mv_H) : Option (Int32 × mv_H) := if (mv_i hz P 35) ≤ x3 then (some ((-1 : Int32), hz)) else (bif xvi x3 4100 then bif xvi x3 4100 then xhb (f_Book_same P hz (mv_a hz (P + 14) (x3).toNatClampNeg) (mv_a hz (P + 15) (x3).toNatClampNeg) x1 x2) fun u4 g3 => if u4 = (0 : Int32) then (k2 x1 x2 (x3 + 1) g3) else (some (x3, g3)) else none else none)
def f_Book_let_2 (P : Nat) : Nat → Int32 → Int32 → Int32 → mv_H → Option (Int32 × mv_H)
  | 0 => fun _ _ _ _ => none
  | nn + 1 => fF_Book_let_2 P (f_Book_let_2 P nn)
def f_Book_let (P : Nat) (h : mv_H) (a0 : Int32) (a1 : Int32) : Option (Int32 × mv_H) := f_Book_let_2 P 200000 a0 a1 (0 : Int32) h
set_option maxHeartbeats 4000000 in
set_option maxRecDepth 100000 in
theorem ch_Book_let_x (l : Launch) {dA : FieldType → ClassId} {D : va_G} {al : Nat → Nat} {ext : mv_Sh} {sk sv : Nat → Nat} (hi : mv_inj (mg dA D al ext)) (h : mv_H) (hb : Br 74 (mv_r h))  (a0 : Int32) (a1 : Int32) {rv : Int32} {rg : mv_H} (hf : f_Book_let 74 h a0 a1 = some (rv, rg)) : mv_C l y_Book_let (Cond.code y_Book_let b_Book_let 4 (Option.some Jvm.ClassFile.FieldType.int) :: ma) ({ frames := 1, cells := 0, slots := 0, locals := 25 }) (mg dA D al ext) (mK sk sv) [.ref (al 74), .int a0, .int a1] h (mv_Ri (fun v σ1 => rv = v ∧ rg = σ1 ∧ mv_r σ1 = mv_r h)) := by
  refine mv_C.ofV (cc := b_Book_let) (nL := 4) (ret := (Option.some Jvm.ClassFile.FieldType.int)) (by decide +kernel) rfl hi (Nat.le_of_ble_eq_true rfl) ?_
  intro p e s m below meth c B hNs hr hnm hno
  have lp2 : ∀ (nn2 : Nat) (x1 : Int32) (x2 : Int32) (x3 : Int32) (hz : mv_H), mv_r hz = mv_r h → f_Book_let_2 74 nn2 x1 x2 x3 hz = some (rv, rg) → mv_V p l e ({ frames := 1, cells := 0, slots := 0, locals := 25 }) s m ([.ref (al 74), .int a0, .int a1] : List Value).toArray below meth c (mg dA D al ext) 4 0 0 (mv_Q (mg dA D al ext) below s 0 0 (mv_Ri (fun v σ1 => rv = v ∧ rg = σ1 ∧ mv_r σ1 = mv_r h))) hz 2 [(0, .ref (al 74)), (1, .int x1), (2, .int x2), (3, .int x3)] [] := by
    intro nn2
    induction nn2 with
    | zero => intro x1 x2 x3 hz r_hz hf; cases hf
    | succ nn2 ih2 =>
      intro x1 x2 x3 hz r_hz hf
      have hf : fF_Book_let_2 74 (f_Book_let_2 74 nn2) x1 x2 x3 hz = some (rv, rg) := hf
      unfold fF_Book_let_2 at hf
      refine mv_iload_n (pc := 2) B d_Book_let_2 rfl 3 rfl ?_
      refine mv_aload_n (pc := 3) B d_Book_let_3 rfl 0 rfl ?_
      refine mv_getI (pc := 4) (ci := 12) (C := R_Book) (T := F_Book) (N := 65) B 35 rfl rfl (by decide) i_Book (B.2.2.2.1 _ k_1881) rfl d_Book_let_4 ?_
      refine mv_icmp_ge (pc := 7) (tgt := 39) B d_Book_let_7 rfl (fun h7 => ?_) (fun h7 => ?_)
      · skip
        have hf := xif_t h7 hf
        refine mv_iconst (pc := 39) (v := -1) B d_Book_let_39 (by decide) ?_
        exact mv_iret (pc := 40) B hr rfl d_Book_let_40 (Nat.le_refl _) (Nat.le_refl _) ⟨_, rfl, xrh_i hf r_hz⟩
      · skip
        have hf := xif_f h7 hf
        refine mv_aload_n (pc := 10) B d_Book_let_10 rfl 0 rfl ?_
        refine mv_aload_n (pc := 11) B d_Book_let_11 rfl 0 rfl ?_
        refine mv_getR (pc := 12) (ci := 12) (C := R_Book) (T := F_Book) (N := 65) B 31 rfl rfl (by decide) i_Book (B.2.2.2.1 _ k_1877) rfl ((congrFun (congrFun r_hz 74) 31).trans (hb.1 74 31 _ rfl)) d_Book_let_12 ?_
        refine mv_iload_n (pc := 15) B d_Book_let_15 rfl 3 rfl ?_
        obtain ⟨q1, hf⟩ := xvi_e hf
        refine mv_iald (pc := 16) B rfl q1 d_Book_let_16 ?_
        refine mv_aload_n (pc := 17) B d_Book_let_17 rfl 0 rfl ?_
        refine mv_getR (pc := 18) (ci := 12) (C := R_Book) (T := F_Book) (N := 65) B 32 rfl rfl (by decide) i_Book (B.2.2.2.1 _ k_1878) rfl ((congrFun (congrFun r_hz 74) 32).trans (hb.1 74 32 _ rfl)) d_Book_let_18 ?_
        refine mv_iload_n (pc := 21) B d_Book_let_21 rfl 3 rfl ?_
        obtain ⟨q2, hf⟩ := xvi_e hf
        refine mv_iald (pc := 22) B rfl q2 d_Book_let_22 ?_
        refine mv_iload_n (pc := 23) B d_Book_let_23 rfl 1 rfl ?_
        refine mv_iload_n (pc := 24) B d_Book_let_24 rfl 2 rfl ?_
        obtain ⟨u4, g3, eg3, hf⟩ := xhb_e hf
        refine mv_callVi (pc := 25) (n := 4) (ci := 12) (C := R_Book) B (mK_ok sk sv) hNs rfl rfl (ch_Book_same_x l hi _ (xrw r_hz hb) _ _ _ _ eg3) rfl (ma_goodc kc_Book_same) (B.2.2.2.1 _ k_2216) (B.2.2.2.1 _ k_2218) (B.2.2.2.1 _ ks_98) (B.2.2.2.1 _ k_13) ⟨by decide +kernel, by decide +kernel, by decide +kernel⟩ rfl d_Book_let_25 rfl (Nat.le_of_ble_eq_true rfl) ⟨by decide, by decide⟩ ⟨by decide, by decide⟩ ⟨by decide, by decide⟩ (mv_noH hno _) (fun w25 σ25 h25 => ?_)
        obtain ⟨rfl, rfl, s_g3⟩ := h25
        have r_g3 : mv_r g3 = mv_r h := s_g3.trans r_hz
        refine mv_if_eq (pc := 28) (tgt := 33) B d_Book_let_28 rfl (fun h28 => ?_) (fun h28 => ?_)
        · skip
          have hf := xif_t h28 hf
          refine mv_iinc (pc := 33) (j := 3) (v := 1) B d_Book_let_33 rfl (by decide) (by decide) rfl ?_
          refine mv_goto (pc := 36) (tgt := 2) B d_Book_let_36 rfl ?_
          refine mv_lpick [1, 2, 3, 0] rfl ?_
          exact ih2 _ _ _ _ r_g3 hf
        · skip
          have hf := xif_f h28 hf
          refine mv_iload_n (pc := 31) B d_Book_let_31 rfl 3 rfl ?_
          exact mv_iret (pc := 32) B hr rfl d_Book_let_32 (Nat.le_refl _) (Nat.le_refl _) ⟨_, rfl, xrh_i hf r_g3⟩
  unfold f_Book_let at hf
  refine mv_iconst (pc := 0) (v := 0) B d_Book_let_0 (by decide) ?_
  refine mv_istore_n (pc := 1) B d_Book_let_1 rfl (by decide) rfl ?_
  refine mv_lpick [1, 2, 3, 0] rfl ?_
  exact lp2 _ _ _ _ _ rfl hf
set_option maxHeartbeats 4000000 in
set_option maxRecDepth 100000 in
theorem ch_Book_let_y (l : Launch) {dA : FieldType → ClassId} {D : va_G} {al : Nat → Nat} {ext : mv_Sh} {sk sv : Nat → Nat} (hi : mv_inj (mg dA D al ext)) (h : mv_H) (hb : Br 108 (mv_r h))  (a0 : Int32) (a1 : Int32) {rv : Int32} {rg : mv_H} (hf : f_Book_let 108 h a0 a1 = some (rv, rg)) : mv_C l y_Book_let (Cond.code y_Book_let b_Book_let 4 (Option.some Jvm.ClassFile.FieldType.int) :: ma) ({ frames := 1, cells := 0, slots := 0, locals := 25 }) (mg dA D al ext) (mK sk sv) [.ref (al 108), .int a0, .int a1] h (mv_Ri (fun v σ1 => rv = v ∧ rg = σ1 ∧ mv_r σ1 = mv_r h)) := by
  refine mv_C.ofV (cc := b_Book_let) (nL := 4) (ret := (Option.some Jvm.ClassFile.FieldType.int)) (by decide +kernel) rfl hi (Nat.le_of_ble_eq_true rfl) ?_
  intro p e s m below meth c B hNs hr hnm hno
  have lp2 : ∀ (nn2 : Nat) (x1 : Int32) (x2 : Int32) (x3 : Int32) (hz : mv_H), mv_r hz = mv_r h → f_Book_let_2 108 nn2 x1 x2 x3 hz = some (rv, rg) → mv_V p l e ({ frames := 1, cells := 0, slots := 0, locals := 25 }) s m ([.ref (al 108), .int a0, .int a1] : List Value).toArray below meth c (mg dA D al ext) 4 0 0 (mv_Q (mg dA D al ext) below s 0 0 (mv_Ri (fun v σ1 => rv = v ∧ rg = σ1 ∧ mv_r σ1 = mv_r h))) hz 2 [(0, .ref (al 108)), (1, .int x1), (2, .int x2), (3, .int x3)] [] := by
    intro nn2
    induction nn2 with
    | zero => intro x1 x2 x3 hz r_hz hf; cases hf
    | succ nn2 ih2 =>
      intro x1 x2 x3 hz r_hz hf
      have hf : fF_Book_let_2 108 (f_Book_let_2 108 nn2) x1 x2 x3 hz = some (rv, rg) := hf
      unfold fF_Book_let_2 at hf
      refine mv_iload_n (pc := 2) B d_Book_let_2 rfl 3 rfl ?_
      refine mv_aload_n (pc := 3) B d_Book_let_3 rfl 0 rfl ?_
      refine mv_getI (pc := 4) (ci := 12) (C := R_Book) (T := F_Book) (N := 65) B 35 rfl rfl (by decide) i_Book (B.2.2.2.1 _ k_1881) rfl d_Book_let_4 ?_
      refine mv_icmp_ge (pc := 7) (tgt := 39) B d_Book_let_7 rfl (fun h7 => ?_) (fun h7 => ?_)
      · skip
        have hf := xif_t h7 hf
        refine mv_iconst (pc := 39) (v := -1) B d_Book_let_39 (by decide) ?_
        exact mv_iret (pc := 40) B hr rfl d_Book_let_40 (Nat.le_refl _) (Nat.le_refl _) ⟨_, rfl, xrh_i hf r_hz⟩
      · skip
        have hf := xif_f h7 hf
        refine mv_aload_n (pc := 10) B d_Book_let_10 rfl 0 rfl ?_
        refine mv_aload_n (pc := 11) B d_Book_let_11 rfl 0 rfl ?_
        refine mv_getR (pc := 12) (ci := 12) (C := R_Book) (T := F_Book) (N := 65) B 31 rfl rfl (by decide) i_Book (B.2.2.2.1 _ k_1877) rfl ((congrFun (congrFun r_hz 108) 31).trans (hb.1 108 31 _ rfl)) d_Book_let_12 ?_
        refine mv_iload_n (pc := 15) B d_Book_let_15 rfl 3 rfl ?_
        obtain ⟨q1, hf⟩ := xvi_e hf
        refine mv_iald (pc := 16) B rfl q1 d_Book_let_16 ?_
        refine mv_aload_n (pc := 17) B d_Book_let_17 rfl 0 rfl ?_
        refine mv_getR (pc := 18) (ci := 12) (C := R_Book) (T := F_Book) (N := 65) B 32 rfl rfl (by decide) i_Book (B.2.2.2.1 _ k_1878) rfl ((congrFun (congrFun r_hz 108) 32).trans (hb.1 108 32 _ rfl)) d_Book_let_18 ?_
        refine mv_iload_n (pc := 21) B d_Book_let_21 rfl 3 rfl ?_
        obtain ⟨q2, hf⟩ := xvi_e hf
        refine mv_iald (pc := 22) B rfl q2 d_Book_let_22 ?_
        refine mv_iload_n (pc := 23) B d_Book_let_23 rfl 1 rfl ?_
        refine mv_iload_n (pc := 24) B d_Book_let_24 rfl 2 rfl ?_
        obtain ⟨u4, g3, eg3, hf⟩ := xhb_e hf
        refine mv_callVi (pc := 25) (n := 4) (ci := 12) (C := R_Book) B (mK_ok sk sv) hNs rfl rfl (ch_Book_same_y l hi _ (xrw r_hz hb) _ _ _ _ eg3) rfl (ma_goodc kc_Book_same) (B.2.2.2.1 _ k_2216) (B.2.2.2.1 _ k_2218) (B.2.2.2.1 _ ks_98) (B.2.2.2.1 _ k_13) ⟨by decide +kernel, by decide +kernel, by decide +kernel⟩ rfl d_Book_let_25 rfl (Nat.le_of_ble_eq_true rfl) ⟨by decide, by decide⟩ ⟨by decide, by decide⟩ ⟨by decide, by decide⟩ (mv_noH hno _) (fun w25 σ25 h25 => ?_)
        obtain ⟨rfl, rfl, s_g3⟩ := h25
        have r_g3 : mv_r g3 = mv_r h := s_g3.trans r_hz
        refine mv_if_eq (pc := 28) (tgt := 33) B d_Book_let_28 rfl (fun h28 => ?_) (fun h28 => ?_)
        · skip
          have hf := xif_t h28 hf
          refine mv_iinc (pc := 33) (j := 3) (v := 1) B d_Book_let_33 rfl (by decide) (by decide) rfl ?_
          refine mv_goto (pc := 36) (tgt := 2) B d_Book_let_36 rfl ?_
          refine mv_lpick [1, 2, 3, 0] rfl ?_
          exact ih2 _ _ _ _ r_g3 hf
        · skip
          have hf := xif_f h28 hf
          refine mv_iload_n (pc := 31) B d_Book_let_31 rfl 3 rfl ?_
          exact mv_iret (pc := 32) B hr rfl d_Book_let_32 (Nat.le_refl _) (Nat.le_refl _) ⟨_, rfl, xrh_i hf r_g3⟩
  unfold f_Book_let at hf
  refine mv_iconst (pc := 0) (v := 0) B d_Book_let_0 (by decide) ?_
  refine mv_istore_n (pc := 1) B d_Book_let_1 rfl (by decide) rfl ?_
  refine mv_lpick [1, 2, 3, 0] rfl ?_
  exact lp2 _ _ _ _ _ rfl hf
def f_Book_isField_44 (P : Nat) (hz : mv_H) : Option (Int32 × mv_H) := bif xzb (0 : Int32) then some ((0 : Int32), hz) else none
def f_Book_isField (P : Nat) (h : mv_H) (a0 : Int32) (a1 : Int32) : Option (Int32 × mv_H) := if (a1 - a0) = (1 : Int32) then (xhb (f_Book_look P h a0) fun u3 g2 => xhb (f_Book_letter g2 u3) fun u5 g4 => if u5 = (0 : Int32) then (f_Book_isField_44 P  g4) else (xhb (f_Book_look P g4 a0) fun u7 g6 => if u7 = (95 : Int32) then (f_Book_isField_44 P  g6) else (xhb (f_Book_look P g6 a0) fun u9 g8 => xhb (f_Book_letterBits P g8 u9) fun u11 g10 => if u11 ≤ (0 : Int32) then (f_Book_isField_44 P  g10) else (bif xzb (1 : Int32) then some ((1 : Int32), g10) else none)))) else (f_Book_isField_44 P  h)
set_option maxHeartbeats 4000000 in
set_option maxRecDepth 100000 in
theorem ch_Book_isField_x (l : Launch) {dA : FieldType → ClassId} {D : va_G} {al : Nat → Nat} {ext : mv_Sh} {sk sv : Nat → Nat} (hi : mv_inj (mg dA D al ext)) (h : mv_H) (hb : Br 74 (mv_r h))  (a0 : Int32) (a1 : Int32) {rv : Int32} {rg : mv_H} (hf : f_Book_isField 74 h a0 a1 = some (rv, rg)) : mv_C l y_Book_isField (Cond.code y_Book_isField b_Book_isField 3 (Option.some Jvm.ClassFile.FieldType.boolean) :: ma) ({ frames := 1, cells := 0, slots := 0, locals := 23 }) (mg dA D al ext) (mK sk sv) [.ref (al 74), .int a0, .int a1] h (mv_Ri (fun v σ1 => rv = v ∧ rg = σ1 ∧ mv_r σ1 = mv_r h)) := by
  refine mv_C.ofV (cc := b_Book_isField) (nL := 3) (ret := (Option.some Jvm.ClassFile.FieldType.boolean)) (by decide +kernel) rfl hi (Nat.le_of_ble_eq_true rfl) ?_
  intro p e s m below meth c B hNs hr hnm hno
  have jn44 : ∀ (hz : mv_H), mv_r hz = mv_r h → f_Book_isField_44 74  hz = some (rv, rg) → mv_V p l e ({ frames := 1, cells := 0, slots := 0, locals := 23 }) s m ([.ref (al 74), .int a0, .int a1] : List Value).toArray below meth c (mg dA D al ext) 3 0 0 (mv_Q (mg dA D al ext) below s 0 0 (mv_Ri (fun v σ1 => rv = v ∧ rg = σ1 ∧ mv_r σ1 = mv_r h))) hz 44 [] [] := by
    intro  hz r_hz hf
    unfold f_Book_isField_44 at hf
    refine mv_iconst (pc := 44) (v := 0) B d_Book_isField_44 (by decide) ?_
    obtain ⟨q1, hf⟩ := xzb_e hf
    exact mv_iret (pc := 45) B hr (xzb_n q1) d_Book_isField_45 (Nat.le_refl _) (Nat.le_refl _) ⟨_, rfl, xrh_i hf r_hz⟩
  unfold f_Book_isField at hf
  refine mv_iload_n (pc := 0) B d_Book_isField_0 rfl 2 rfl ?_
  refine mv_iload_n (pc := 1) B d_Book_isField_1 rfl 1 rfl ?_
  refine mv_isub (pc := 2) B d_Book_isField_2 ?_
  refine mv_iconst (pc := 3) (v := 1) B d_Book_isField_3 (by decide) ?_
  refine mv_icmp_ne (pc := 4) (tgt := 44) B d_Book_isField_4 rfl (fun h4 => ?_) (fun h4 => ?_)
  · skip
    have hf := xif_f h4 hf
    refine mv_lpick [] rfl ?_
    exact jn44  _ rfl hf
  · skip
    have hf := xif_t h4 hf
    refine mv_aload_n (pc := 7) B d_Book_isField_7 rfl 0 rfl ?_
    refine mv_iload_n (pc := 8) B d_Book_isField_8 rfl 1 rfl ?_
    obtain ⟨u3, g2, eg2, hf⟩ := xhb_e hf
    refine mv_callVi (pc := 9) (n := 1) (ci := 12) (C := R_Book) B (mK_ok sk sv) hNs rfl rfl (ch_Book_look_x l hi _ (hb) _ eg2) rfl (ma_goodc kc_Book_look) (B.2.2.2.1 _ k_2122) (B.2.2.2.1 _ k_2124) (B.2.2.2.1 _ ks_82) (B.2.2.2.1 _ k_13) ⟨by decide +kernel, by decide +kernel, by decide +kernel⟩ rfl d_Book_isField_9 rfl (Nat.le_of_ble_eq_true rfl) ⟨by decide, by decide⟩ ⟨by decide, by decide⟩ ⟨by decide, by decide⟩ (mv_noH hno _) (fun w9 σ9 h9 => ?_)
    obtain ⟨rfl, rfl, s_g2⟩ := h9
    have r_g2 : mv_r g2 = mv_r h := s_g2.trans rfl
    obtain ⟨u5, g4, eg4, hf⟩ := xhb_e hf
    refine mv_callSi (pc := 12) (n := 1) B (mK_ok sk sv) hNs (ch_Book_letter l hi _ _ eg4) rfl (ma_goodc kc_Book_letter) (B.2.2.2.1 _ k_2126) (B.2.2.2.1 _ k_2127) (B.2.2.2.1 _ k_13) ⟨by decide +kernel, by decide +kernel, by decide +kernel⟩ rfl d_Book_isField_12 rfl (Nat.le_of_ble_eq_true rfl) ⟨by decide, by decide⟩ ⟨by decide, by decide⟩ ⟨by decide, by decide⟩ (mv_noH hno _) (fun w12 σ12 h12 => ?_)
    obtain ⟨rfl, rfl, s_g4⟩ := h12
    have r_g4 : mv_r g4 = mv_r h := s_g4.trans r_g2
    refine mv_if_eq (pc := 15) (tgt := 44) B d_Book_isField_15 rfl (fun h15 => ?_) (fun h15 => ?_)
    · skip
      have hf := xif_t h15 hf
      refine mv_lpick [] rfl ?_
      exact jn44  _ r_g4 hf
    · skip
      have hf := xif_f h15 hf
      refine mv_aload_n (pc := 18) B d_Book_isField_18 rfl 0 rfl ?_
      refine mv_iload_n (pc := 19) B d_Book_isField_19 rfl 1 rfl ?_
      obtain ⟨u7, g6, eg6, hf⟩ := xhb_e hf
      refine mv_callVi (pc := 20) (n := 1) (ci := 12) (C := R_Book) B (mK_ok sk sv) hNs rfl rfl (ch_Book_look_x l hi _ (xrw r_g4 hb) _ eg6) rfl (ma_goodc kc_Book_look) (B.2.2.2.1 _ k_2122) (B.2.2.2.1 _ k_2124) (B.2.2.2.1 _ ks_82) (B.2.2.2.1 _ k_13) ⟨by decide +kernel, by decide +kernel, by decide +kernel⟩ rfl d_Book_isField_20 rfl (Nat.le_of_ble_eq_true rfl) ⟨by decide, by decide⟩ ⟨by decide, by decide⟩ ⟨by decide, by decide⟩ (mv_noH hno _) (fun w20 σ20 h20 => ?_)
      obtain ⟨rfl, rfl, s_g6⟩ := h20
      have r_g6 : mv_r g6 = mv_r h := s_g6.trans r_g4
      refine mv_bipush (pc := 23) (v := 95) B d_Book_isField_23 (by decide) ?_
      refine mv_icmp_eq (pc := 25) (tgt := 44) B d_Book_isField_25 rfl (fun h25 => ?_) (fun h25 => ?_)
      · skip
        have hf := xif_t h25 hf
        refine mv_lpick [] rfl ?_
        exact jn44  _ r_g6 hf
      · skip
        have hf := xif_f h25 hf
        refine mv_aload_n (pc := 28) B d_Book_isField_28 rfl 0 rfl ?_
        refine mv_aload_n (pc := 29) B d_Book_isField_29 rfl 0 rfl ?_
        refine mv_iload_n (pc := 30) B d_Book_isField_30 rfl 1 rfl ?_
        obtain ⟨u9, g8, eg8, hf⟩ := xhb_e hf
        refine mv_callVi (pc := 31) (n := 1) (ci := 12) (C := R_Book) B (mK_ok sk sv) hNs rfl rfl (ch_Book_look_x l hi _ (xrw r_g6 hb) _ eg8) rfl (ma_goodc kc_Book_look) (B.2.2.2.1 _ k_2122) (B.2.2.2.1 _ k_2124) (B.2.2.2.1 _ ks_82) (B.2.2.2.1 _ k_13) ⟨by decide +kernel, by decide +kernel, by decide +kernel⟩ rfl d_Book_isField_31 rfl (Nat.le_of_ble_eq_true rfl) ⟨by decide, by decide⟩ ⟨by decide, by decide⟩ ⟨by decide, by decide⟩ (mv_noH hno _) (fun w31 σ31 h31 => ?_)
        obtain ⟨rfl, rfl, s_g8⟩ := h31
        have r_g8 : mv_r g8 = mv_r h := s_g8.trans r_g6
        obtain ⟨u11, g10, eg10, hf⟩ := xhb_e hf
        refine mv_callVi (pc := 34) (n := 1) (ci := 12) (C := R_Book) B (mK_ok sk sv) hNs rfl rfl (ch_Book_letterBits_x l hi _ (xrw r_g8 hb) _ eg10) rfl (ma_goodc kc_Book_letterBits) (B.2.2.2.1 _ k_2313) (B.2.2.2.1 _ k_2315) (B.2.2.2.1 _ ks_118) (B.2.2.2.1 _ k_13) ⟨by decide +kernel, by decide +kernel, by decide +kernel⟩ rfl d_Book_isField_34 rfl (Nat.le_of_ble_eq_true rfl) ⟨by decide, by decide⟩ ⟨by decide, by decide⟩ ⟨by decide, by decide⟩ (mv_noH hno _) (fun w34 σ34 h34 => ?_)
        obtain ⟨rfl, rfl, s_g10⟩ := h34
        have r_g10 : mv_r g10 = mv_r h := s_g10.trans r_g8
        refine mv_if_le (pc := 37) (tgt := 44) B d_Book_isField_37 rfl (fun h37 => ?_) (fun h37 => ?_)
        · skip
          have hf := xif_t h37 hf
          refine mv_lpick [] rfl ?_
          exact jn44  _ r_g10 hf
        · skip
          have hf := xif_f h37 hf
          refine mv_iconst (pc := 40) (v := 1) B d_Book_isField_40 (by decide) ?_
          refine mv_goto (pc := 41) (tgt := 45) B d_Book_isField_41 rfl ?_
          obtain ⟨q12, hf⟩ := xzb_e hf
          exact mv_iret (pc := 45) B hr (xzb_n q12) d_Book_isField_45 (Nat.le_refl _) (Nat.le_refl _) ⟨_, rfl, xrh_i hf r_g10⟩
set_option maxHeartbeats 4000000 in
set_option maxRecDepth 100000 in
theorem ch_Book_isField_y (l : Launch) {dA : FieldType → ClassId} {D : va_G} {al : Nat → Nat} {ext : mv_Sh} {sk sv : Nat → Nat} (hi : mv_inj (mg dA D al ext)) (h : mv_H) (hb : Br 108 (mv_r h))  (a0 : Int32) (a1 : Int32) {rv : Int32} {rg : mv_H} (hf : f_Book_isField 108 h a0 a1 = some (rv, rg)) : mv_C l y_Book_isField (Cond.code y_Book_isField b_Book_isField 3 (Option.some Jvm.ClassFile.FieldType.boolean) :: ma) ({ frames := 1, cells := 0, slots := 0, locals := 23 }) (mg dA D al ext) (mK sk sv) [.ref (al 108), .int a0, .int a1] h (mv_Ri (fun v σ1 => rv = v ∧ rg = σ1 ∧ mv_r σ1 = mv_r h)) := by
  refine mv_C.ofV (cc := b_Book_isField) (nL := 3) (ret := (Option.some Jvm.ClassFile.FieldType.boolean)) (by decide +kernel) rfl hi (Nat.le_of_ble_eq_true rfl) ?_
  intro p e s m below meth c B hNs hr hnm hno
  have jn44 : ∀ (hz : mv_H), mv_r hz = mv_r h → f_Book_isField_44 108  hz = some (rv, rg) → mv_V p l e ({ frames := 1, cells := 0, slots := 0, locals := 23 }) s m ([.ref (al 108), .int a0, .int a1] : List Value).toArray below meth c (mg dA D al ext) 3 0 0 (mv_Q (mg dA D al ext) below s 0 0 (mv_Ri (fun v σ1 => rv = v ∧ rg = σ1 ∧ mv_r σ1 = mv_r h))) hz 44 [] [] := by
    intro  hz r_hz hf
    unfold f_Book_isField_44 at hf
    refine mv_iconst (pc := 44) (v := 0) B d_Book_isField_44 (by decide) ?_
    obtain ⟨q1, hf⟩ := xzb_e hf
    exact mv_iret (pc := 45) B hr (xzb_n q1) d_Book_isField_45 (Nat.le_refl _) (Nat.le_refl _) ⟨_, rfl, xrh_i hf r_hz⟩
  unfold f_Book_isField at hf
  refine mv_iload_n (pc := 0) B d_Book_isField_0 rfl 2 rfl ?_
  refine mv_iload_n (pc := 1) B d_Book_isField_1 rfl 1 rfl ?_
  refine mv_isub (pc := 2) B d_Book_isField_2 ?_
  refine mv_iconst (pc := 3) (v := 1) B d_Book_isField_3 (by decide) ?_
  refine mv_icmp_ne (pc := 4) (tgt := 44) B d_Book_isField_4 rfl (fun h4 => ?_) (fun h4 => ?_)
  · skip
    have hf := xif_f h4 hf
    refine mv_lpick [] rfl ?_
    exact jn44  _ rfl hf
  · skip
    have hf := xif_t h4 hf
    refine mv_aload_n (pc := 7) B d_Book_isField_7 rfl 0 rfl ?_
    refine mv_iload_n (pc := 8) B d_Book_isField_8 rfl 1 rfl ?_
    obtain ⟨u3, g2, eg2, hf⟩ := xhb_e hf
    refine mv_callVi (pc := 9) (n := 1) (ci := 12) (C := R_Book) B (mK_ok sk sv) hNs rfl rfl (ch_Book_look_y l hi _ (hb) _ eg2) rfl (ma_goodc kc_Book_look) (B.2.2.2.1 _ k_2122) (B.2.2.2.1 _ k_2124) (B.2.2.2.1 _ ks_82) (B.2.2.2.1 _ k_13) ⟨by decide +kernel, by decide +kernel, by decide +kernel⟩ rfl d_Book_isField_9 rfl (Nat.le_of_ble_eq_true rfl) ⟨by decide, by decide⟩ ⟨by decide, by decide⟩ ⟨by decide, by decide⟩ (mv_noH hno _) (fun w9 σ9 h9 => ?_)
    obtain ⟨rfl, rfl, s_g2⟩ := h9
    have r_g2 : mv_r g2 = mv_r h := s_g2.trans rfl
    obtain ⟨u5, g4, eg4, hf⟩ := xhb_e hf
    refine mv_callSi (pc := 12) (n := 1) B (mK_ok sk sv) hNs (ch_Book_letter l hi _ _ eg4) rfl (ma_goodc kc_Book_letter) (B.2.2.2.1 _ k_2126) (B.2.2.2.1 _ k_2127) (B.2.2.2.1 _ k_13) ⟨by decide +kernel, by decide +kernel, by decide +kernel⟩ rfl d_Book_isField_12 rfl (Nat.le_of_ble_eq_true rfl) ⟨by decide, by decide⟩ ⟨by decide, by decide⟩ ⟨by decide, by decide⟩ (mv_noH hno _) (fun w12 σ12 h12 => ?_)
    obtain ⟨rfl, rfl, s_g4⟩ := h12
    have r_g4 : mv_r g4 = mv_r h := s_g4.trans r_g2
    refine mv_if_eq (pc := 15) (tgt := 44) B d_Book_isField_15 rfl (fun h15 => ?_) (fun h15 => ?_)
    · skip
      have hf := xif_t h15 hf
      refine mv_lpick [] rfl ?_
      exact jn44  _ r_g4 hf
    · skip
      have hf := xif_f h15 hf
      refine mv_aload_n (pc := 18) B d_Book_isField_18 rfl 0 rfl ?_
      refine mv_iload_n (pc := 19) B d_Book_isField_19 rfl 1 rfl ?_
      obtain ⟨u7, g6, eg6, hf⟩ := xhb_e hf
      refine mv_callVi (pc := 20) (n := 1) (ci := 12) (C := R_Book) B (mK_ok sk sv) hNs rfl rfl (ch_Book_look_y l hi _ (xrw r_g4 hb) _ eg6) rfl (ma_goodc kc_Book_look) (B.2.2.2.1 _ k_2122) (B.2.2.2.1 _ k_2124) (B.2.2.2.1 _ ks_82) (B.2.2.2.1 _ k_13) ⟨by decide +kernel, by decide +kernel, by decide +kernel⟩ rfl d_Book_isField_20 rfl (Nat.le_of_ble_eq_true rfl) ⟨by decide, by decide⟩ ⟨by decide, by decide⟩ ⟨by decide, by decide⟩ (mv_noH hno _) (fun w20 σ20 h20 => ?_)
      obtain ⟨rfl, rfl, s_g6⟩ := h20
      have r_g6 : mv_r g6 = mv_r h := s_g6.trans r_g4
      refine mv_bipush (pc := 23) (v := 95) B d_Book_isField_23 (by decide) ?_
      refine mv_icmp_eq (pc := 25) (tgt := 44) B d_Book_isField_25 rfl (fun h25 => ?_) (fun h25 => ?_)
      · skip
        have hf := xif_t h25 hf
        refine mv_lpick [] rfl ?_
        exact jn44  _ r_g6 hf
      · skip
        have hf := xif_f h25 hf
        refine mv_aload_n (pc := 28) B d_Book_isField_28 rfl 0 rfl ?_
        refine mv_aload_n (pc := 29) B d_Book_isField_29 rfl 0 rfl ?_
        refine mv_iload_n (pc := 30) B d_Book_isField_30 rfl 1 rfl ?_
        obtain ⟨u9, g8, eg8, hf⟩ := xhb_e hf
        refine mv_callVi (pc := 31) (n := 1) (ci := 12) (C := R_Book) B (mK_ok sk sv) hNs rfl rfl (ch_Book_look_y l hi _ (xrw r_g6 hb) _ eg8) rfl (ma_goodc kc_Book_look) (B.2.2.2.1 _ k_2122) (B.2.2.2.1 _ k_2124) (B.2.2.2.1 _ ks_82) (B.2.2.2.1 _ k_13) ⟨by decide +kernel, by decide +kernel, by decide +kernel⟩ rfl d_Book_isField_31 rfl (Nat.le_of_ble_eq_true rfl) ⟨by decide, by decide⟩ ⟨by decide, by decide⟩ ⟨by decide, by decide⟩ (mv_noH hno _) (fun w31 σ31 h31 => ?_)
        obtain ⟨rfl, rfl, s_g8⟩ := h31
        have r_g8 : mv_r g8 = mv_r h := s_g8.trans r_g6
        obtain ⟨u11, g10, eg10, hf⟩ := xhb_e hf
        refine mv_callVi (pc := 34) (n := 1) (ci := 12) (C := R_Book) B (mK_ok sk sv) hNs rfl rfl (ch_Book_letterBits_y l hi _ (xrw r_g8 hb) _ eg10) rfl (ma_goodc kc_Book_letterBits) (B.2.2.2.1 _ k_2313) (B.2.2.2.1 _ k_2315) (B.2.2.2.1 _ ks_118) (B.2.2.2.1 _ k_13) ⟨by decide +kernel, by decide +kernel, by decide +kernel⟩ rfl d_Book_isField_34 rfl (Nat.le_of_ble_eq_true rfl) ⟨by decide, by decide⟩ ⟨by decide, by decide⟩ ⟨by decide, by decide⟩ (mv_noH hno _) (fun w34 σ34 h34 => ?_)
        obtain ⟨rfl, rfl, s_g10⟩ := h34
        have r_g10 : mv_r g10 = mv_r h := s_g10.trans r_g8
        refine mv_if_le (pc := 37) (tgt := 44) B d_Book_isField_37 rfl (fun h37 => ?_) (fun h37 => ?_)
        · skip
          have hf := xif_t h37 hf
          refine mv_lpick [] rfl ?_
          exact jn44  _ r_g10 hf
        · skip
          have hf := xif_f h37 hf
          refine mv_iconst (pc := 40) (v := 1) B d_Book_isField_40 (by decide) ?_
          refine mv_goto (pc := 41) (tgt := 45) B d_Book_isField_41 rfl ?_
          obtain ⟨q12, hf⟩ := xzb_e hf
          exact mv_iret (pc := 45) B hr (xzb_n q12) d_Book_isField_45 (Nat.le_refl _) (Nat.le_refl _) ⟨_, rfl, xrh_i hf r_g10⟩
def f_Book_node (P : Nat) (h : mv_H) (a0 : Int32) (a1 : Int32) (a2 : Int32) (a3 : Int32) (a4 : Int32) : Option (Int32 × mv_H) := xk (mv_si h P 48 ((mv_i h P 48) + (1 : Int32))) fun g1 => bif xvi (mv_i h P 48) 33000 then xk (mv_sa g1 (P + 18) ((mv_i h P 48)).toNatClampNeg a0) fun g3 => bif xvi (mv_i h P 48) 33000 then xk (mv_sa g3 (P + 19) ((mv_i h P 48)).toNatClampNeg a1) fun g5 => bif xvi (mv_i h P 48) 33000 then xk (mv_sa g5 (P + 20) ((mv_i h P 48)).toNatClampNeg a2) fun g7 => bif xvi (mv_i h P 48) 33000 then xk (mv_sa g7 (P + 21) ((mv_i h P 48)).toNatClampNeg a3) fun g9 => bif xvi (mv_i h P 48) 33000 then xk (mv_sa g9 (P + 23) ((mv_i h P 48)).toNatClampNeg a4) fun g11 => bif xvi (mv_i h P 48) 33000 then xk (mv_sa g11 (P + 22) ((mv_i h P 48)).toNatClampNeg (-1 : Int32)) fun g13 => bif xvi (mv_i h P 48) 33000 then xk (mv_sa g13 (P + 25) ((mv_i h P 48)).toNatClampNeg (vp_nar .boolean (0 : Int32))) fun g15 => some ((mv_i h P 48), g15) else none else none else none else none else none else none else none
set_option maxHeartbeats 4000000 in
set_option maxRecDepth 100000 in
theorem ch_Book_node_x (l : Launch) {dA : FieldType → ClassId} {D : va_G} {al : Nat → Nat} {ext : mv_Sh} {sk sv : Nat → Nat} (hi : mv_inj (mg dA D al ext)) (h : mv_H) (hb : Br 74 (mv_r h))  (a0 : Int32) (a1 : Int32) (a2 : Int32) (a3 : Int32) (a4 : Int32) {rv : Int32} {rg : mv_H} (hf : f_Book_node 74 h a0 a1 a2 a3 a4 = some (rv, rg)) : mv_C l y_Book_node (Cond.code y_Book_node b_Book_node 7 (Option.some Jvm.ClassFile.FieldType.int) :: ma) ({ frames := 0, cells := 0, slots := 0, locals := 0 }) (mg dA D al ext) (mK sk sv) [.ref (al 74), .int a0, .int a1, .int a2, .int a3, .int a4] h (mv_Ri (fun v σ1 => rv = v ∧ rg = σ1 ∧ mv_r σ1 = mv_r h)) := by
  refine mv_C.ofV (cc := b_Book_node) (nL := 7) (ret := (Option.some Jvm.ClassFile.FieldType.int)) (by decide +kernel) rfl hi (Nat.le_of_ble_eq_true rfl) ?_
  intro p e s m below meth c B hNs hr hnm hno
  unfold f_Book_node at hf
  refine mv_aload_n (pc := 0) B d_Book_node_0 rfl 0 rfl ?_
  refine mv_getI (pc := 1) (ci := 12) (C := R_Book) (T := F_Book) (N := 65) B 48 rfl rfl (by decide) i_Book (B.2.2.2.1 _ k_1897) rfl d_Book_node_1 ?_
  refine mv_istore (pc := 4) B d_Book_node_4 (by decide) rfl ?_
  refine mv_aload_n (pc := 6) B d_Book_node_6 rfl 1 rfl ?_
  refine mv_dup (pc := 7) B d_Book_node_7 rfl ?_
  refine mv_getI (pc := 8) (ci := 12) (C := R_Book) (T := F_Book) (N := 65) B 48 rfl rfl (by decide) i_Book (B.2.2.2.1 _ k_1897) rfl d_Book_node_8 ?_
  refine mv_iconst (pc := 11) (v := 1) B d_Book_node_11 (by decide) ?_
  refine mv_iadd (pc := 12) B d_Book_node_12 ?_
  refine mv_putI (pc := 13) (ci := 12) (C := R_Book) (T := F_Book) (N := 65) B 48 rfl rfl (by decide) i_Book t_Book_ok n_Book (B.2.2.2.1 _ k_1897) rfl rfl rfl rfl d_Book_node_13 ?_
  refine mvh_hp (R9 := mv_r h) hf rfl (fun g1 hf r_g1 => ?_)
  refine mv_aload_n (pc := 16) B d_Book_node_16 rfl 1 rfl ?_
  refine mv_getR (pc := 17) (ci := 12) (C := R_Book) (T := F_Book) (N := 65) B 40 rfl rfl (by decide) i_Book (B.2.2.2.1 _ k_1889) rfl ((congrFun (congrFun r_g1 74) 40).trans (hb.1 74 40 _ rfl)) d_Book_node_17 ?_
  refine mv_iload (pc := 20) B d_Book_node_20 0 rfl ?_
  refine mv_iload_n (pc := 22) B d_Book_node_22 rfl 2 rfl ?_
  obtain ⟨q2, hf⟩ := xvi_e hf
  refine mv_iast (pc := 23) B rfl q2 d_Book_node_23 ?_
  refine mvh_hp (R9 := mv_r h) hf r_g1 (fun g3 hf r_g3 => ?_)
  refine mv_aload_n (pc := 24) B d_Book_node_24 rfl 1 rfl ?_
  refine mv_getR (pc := 25) (ci := 12) (C := R_Book) (T := F_Book) (N := 65) B 41 rfl rfl (by decide) i_Book (B.2.2.2.1 _ k_1890) rfl ((congrFun (congrFun r_g3 74) 41).trans (hb.1 74 41 _ rfl)) d_Book_node_25 ?_
  refine mv_iload (pc := 28) B d_Book_node_28 0 rfl ?_
  refine mv_iload_n (pc := 30) B d_Book_node_30 rfl 3 rfl ?_
  obtain ⟨q4, hf⟩ := xvi_e hf
  refine mv_iast (pc := 31) B rfl q4 d_Book_node_31 ?_
  refine mvh_hp (R9 := mv_r h) hf r_g3 (fun g5 hf r_g5 => ?_)
  refine mv_aload_n (pc := 32) B d_Book_node_32 rfl 1 rfl ?_
  refine mv_getR (pc := 33) (ci := 12) (C := R_Book) (T := F_Book) (N := 65) B 42 rfl rfl (by decide) i_Book (B.2.2.2.1 _ k_1891) rfl ((congrFun (congrFun r_g5 74) 42).trans (hb.1 74 42 _ rfl)) d_Book_node_33 ?_
  refine mv_iload (pc := 36) B d_Book_node_36 0 rfl ?_
  refine mv_iload_n (pc := 38) B d_Book_node_38 rfl 4 rfl ?_
  obtain ⟨q6, hf⟩ := xvi_e hf
  refine mv_iast (pc := 39) B rfl q6 d_Book_node_39 ?_
  refine mvh_hp (R9 := mv_r h) hf r_g5 (fun g7 hf r_g7 => ?_)
  refine mv_aload_n (pc := 40) B d_Book_node_40 rfl 1 rfl ?_
  refine mv_getR (pc := 41) (ci := 12) (C := R_Book) (T := F_Book) (N := 65) B 43 rfl rfl (by decide) i_Book (B.2.2.2.1 _ k_1892) rfl ((congrFun (congrFun r_g7 74) 43).trans (hb.1 74 43 _ rfl)) d_Book_node_41 ?_
  refine mv_iload (pc := 44) B d_Book_node_44 0 rfl ?_
  refine mv_iload (pc := 46) B d_Book_node_46 5 rfl ?_
  obtain ⟨q8, hf⟩ := xvi_e hf
  refine mv_iast (pc := 48) B rfl q8 d_Book_node_48 ?_
  refine mvh_hp (R9 := mv_r h) hf r_g7 (fun g9 hf r_g9 => ?_)
  refine mv_aload_n (pc := 49) B d_Book_node_49 rfl 1 rfl ?_
  refine mv_getR (pc := 50) (ci := 12) (C := R_Book) (T := F_Book) (N := 65) B 45 rfl rfl (by decide) i_Book (B.2.2.2.1 _ k_1894) rfl ((congrFun (congrFun r_g9 74) 45).trans (hb.1 74 45 _ rfl)) d_Book_node_50 ?_
  refine mv_iload (pc := 53) B d_Book_node_53 0 rfl ?_
  refine mv_iload (pc := 55) B d_Book_node_55 6 rfl ?_
  obtain ⟨q10, hf⟩ := xvi_e hf
  refine mv_iast (pc := 57) B rfl q10 d_Book_node_57 ?_
  refine mvh_hp (R9 := mv_r h) hf r_g9 (fun g11 hf r_g11 => ?_)
  refine mv_aload_n (pc := 58) B d_Book_node_58 rfl 1 rfl ?_
  refine mv_getR (pc := 59) (ci := 12) (C := R_Book) (T := F_Book) (N := 65) B 44 rfl rfl (by decide) i_Book (B.2.2.2.1 _ k_1893) rfl ((congrFun (congrFun r_g11 74) 44).trans (hb.1 74 44 _ rfl)) d_Book_node_59 ?_
  refine mv_iload (pc := 62) B d_Book_node_62 0 rfl ?_
  refine mv_iconst (pc := 64) (v := -1) B d_Book_node_64 (by decide) ?_
  obtain ⟨q12, hf⟩ := xvi_e hf
  refine mv_iast (pc := 65) B rfl q12 d_Book_node_65 ?_
  refine mvh_hp (R9 := mv_r h) hf r_g11 (fun g13 hf r_g13 => ?_)
  refine mv_aload_n (pc := 66) B d_Book_node_66 rfl 1 rfl ?_
  refine mv_getR (pc := 67) (ci := 12) (C := R_Book) (T := F_Book) (N := 65) B 47 rfl rfl (by decide) i_Book (B.2.2.2.1 _ k_1896) rfl ((congrFun (congrFun r_g13 74) 47).trans (hb.1 74 47 _ rfl)) d_Book_node_67 ?_
  refine mv_iload (pc := 70) B d_Book_node_70 0 rfl ?_
  refine mv_iconst (pc := 72) (v := 0) B d_Book_node_72 (by decide) ?_
  obtain ⟨q14, hf⟩ := xvi_e hf
  refine mv_zast (pc := 73) B rfl q14 d_Book_node_73 ?_
  refine mvh_hp (R9 := mv_r h) hf r_g13 (fun g15 hf r_g15 => ?_)
  refine mv_iload (pc := 74) B d_Book_node_74 0 rfl ?_
  exact mv_iret (pc := 76) B hr rfl d_Book_node_76 (Nat.le_refl _) (Nat.le_refl _) ⟨_, rfl, xrh_i hf r_g15⟩
set_option maxHeartbeats 4000000 in
set_option maxRecDepth 100000 in
theorem ch_Book_node_y (l : Launch) {dA : FieldType → ClassId} {D : va_G} {al : Nat → Nat} {ext : mv_Sh} {sk sv : Nat → Nat} (hi : mv_inj (mg dA D al ext)) (h : mv_H) (hb : Br 108 (mv_r h))  (a0 : Int32) (a1 : Int32) (a2 : Int32) (a3 : Int32) (a4 : Int32) {rv : Int32} {rg : mv_H} (hf : f_Book_node 108 h a0 a1 a2 a3 a4 = some (rv, rg)) : mv_C l y_Book_node (Cond.code y_Book_node b_Book_node 7 (Option.some Jvm.ClassFile.FieldType.int) :: ma) ({ frames := 0, cells := 0, slots := 0, locals := 0 }) (mg dA D al ext) (mK sk sv) [.ref (al 108), .int a0, .int a1, .int a2, .int a3, .int a4] h (mv_Ri (fun v σ1 => rv = v ∧ rg = σ1 ∧ mv_r σ1 = mv_r h)) := by
  refine mv_C.ofV (cc := b_Book_node) (nL := 7) (ret := (Option.some Jvm.ClassFile.FieldType.int)) (by decide +kernel) rfl hi (Nat.le_of_ble_eq_true rfl) ?_
  intro p e s m below meth c B hNs hr hnm hno
  unfold f_Book_node at hf
  refine mv_aload_n (pc := 0) B d_Book_node_0 rfl 0 rfl ?_
  refine mv_getI (pc := 1) (ci := 12) (C := R_Book) (T := F_Book) (N := 65) B 48 rfl rfl (by decide) i_Book (B.2.2.2.1 _ k_1897) rfl d_Book_node_1 ?_
  refine mv_istore (pc := 4) B d_Book_node_4 (by decide) rfl ?_
  refine mv_aload_n (pc := 6) B d_Book_node_6 rfl 1 rfl ?_
  refine mv_dup (pc := 7) B d_Book_node_7 rfl ?_
  refine mv_getI (pc := 8) (ci := 12) (C := R_Book) (T := F_Book) (N := 65) B 48 rfl rfl (by decide) i_Book (B.2.2.2.1 _ k_1897) rfl d_Book_node_8 ?_
  refine mv_iconst (pc := 11) (v := 1) B d_Book_node_11 (by decide) ?_
  refine mv_iadd (pc := 12) B d_Book_node_12 ?_
  refine mv_putI (pc := 13) (ci := 12) (C := R_Book) (T := F_Book) (N := 65) B 48 rfl rfl (by decide) i_Book t_Book_ok n_Book (B.2.2.2.1 _ k_1897) rfl rfl rfl rfl d_Book_node_13 ?_
  refine mvh_hp (R9 := mv_r h) hf rfl (fun g1 hf r_g1 => ?_)
  refine mv_aload_n (pc := 16) B d_Book_node_16 rfl 1 rfl ?_
  refine mv_getR (pc := 17) (ci := 12) (C := R_Book) (T := F_Book) (N := 65) B 40 rfl rfl (by decide) i_Book (B.2.2.2.1 _ k_1889) rfl ((congrFun (congrFun r_g1 108) 40).trans (hb.1 108 40 _ rfl)) d_Book_node_17 ?_
  refine mv_iload (pc := 20) B d_Book_node_20 0 rfl ?_
  refine mv_iload_n (pc := 22) B d_Book_node_22 rfl 2 rfl ?_
  obtain ⟨q2, hf⟩ := xvi_e hf
  refine mv_iast (pc := 23) B rfl q2 d_Book_node_23 ?_
  refine mvh_hp (R9 := mv_r h) hf r_g1 (fun g3 hf r_g3 => ?_)
  refine mv_aload_n (pc := 24) B d_Book_node_24 rfl 1 rfl ?_
  refine mv_getR (pc := 25) (ci := 12) (C := R_Book) (T := F_Book) (N := 65) B 41 rfl rfl (by decide) i_Book (B.2.2.2.1 _ k_1890) rfl ((congrFun (congrFun r_g3 108) 41).trans (hb.1 108 41 _ rfl)) d_Book_node_25 ?_
  refine mv_iload (pc := 28) B d_Book_node_28 0 rfl ?_
  refine mv_iload_n (pc := 30) B d_Book_node_30 rfl 3 rfl ?_
  obtain ⟨q4, hf⟩ := xvi_e hf
  refine mv_iast (pc := 31) B rfl q4 d_Book_node_31 ?_
  refine mvh_hp (R9 := mv_r h) hf r_g3 (fun g5 hf r_g5 => ?_)
  refine mv_aload_n (pc := 32) B d_Book_node_32 rfl 1 rfl ?_
  refine mv_getR (pc := 33) (ci := 12) (C := R_Book) (T := F_Book) (N := 65) B 42 rfl rfl (by decide) i_Book (B.2.2.2.1 _ k_1891) rfl ((congrFun (congrFun r_g5 108) 42).trans (hb.1 108 42 _ rfl)) d_Book_node_33 ?_
  refine mv_iload (pc := 36) B d_Book_node_36 0 rfl ?_
  refine mv_iload_n (pc := 38) B d_Book_node_38 rfl 4 rfl ?_
  obtain ⟨q6, hf⟩ := xvi_e hf
  refine mv_iast (pc := 39) B rfl q6 d_Book_node_39 ?_
  refine mvh_hp (R9 := mv_r h) hf r_g5 (fun g7 hf r_g7 => ?_)
  refine mv_aload_n (pc := 40) B d_Book_node_40 rfl 1 rfl ?_
  refine mv_getR (pc := 41) (ci := 12) (C := R_Book) (T := F_Book) (N := 65) B 43 rfl rfl (by decide) i_Book (B.2.2.2.1 _ k_1892) rfl ((congrFun (congrFun r_g7 108) 43).trans (hb.1 108 43 _ rfl)) d_Book_node_41 ?_
  refine mv_iload (pc := 44) B d_Book_node_44 0 rfl ?_
  refine mv_iload (pc := 46) B d_Book_node_46 5 rfl ?_
  obtain ⟨q8, hf⟩ := xvi_e hf
  refine mv_iast (pc := 48) B rfl q8 d_Book_node_48 ?_
  refine mvh_hp (R9 := mv_r h) hf r_g7 (fun g9 hf r_g9 => ?_)
  refine mv_aload_n (pc := 49) B d_Book_node_49 rfl 1 rfl ?_
  refine mv_getR (pc := 50) (ci := 12) (C := R_Book) (T := F_Book) (N := 65) B 45 rfl rfl (by decide) i_Book (B.2.2.2.1 _ k_1894) rfl ((congrFun (congrFun r_g9 108) 45).trans (hb.1 108 45 _ rfl)) d_Book_node_50 ?_
  refine mv_iload (pc := 53) B d_Book_node_53 0 rfl ?_
  refine mv_iload (pc := 55) B d_Book_node_55 6 rfl ?_
  obtain ⟨q10, hf⟩ := xvi_e hf
  refine mv_iast (pc := 57) B rfl q10 d_Book_node_57 ?_
  refine mvh_hp (R9 := mv_r h) hf r_g9 (fun g11 hf r_g11 => ?_)
  refine mv_aload_n (pc := 58) B d_Book_node_58 rfl 1 rfl ?_
  refine mv_getR (pc := 59) (ci := 12) (C := R_Book) (T := F_Book) (N := 65) B 44 rfl rfl (by decide) i_Book (B.2.2.2.1 _ k_1893) rfl ((congrFun (congrFun r_g11 108) 44).trans (hb.1 108 44 _ rfl)) d_Book_node_59 ?_
  refine mv_iload (pc := 62) B d_Book_node_62 0 rfl ?_
  refine mv_iconst (pc := 64) (v := -1) B d_Book_node_64 (by decide) ?_
  obtain ⟨q12, hf⟩ := xvi_e hf
  refine mv_iast (pc := 65) B rfl q12 d_Book_node_65 ?_
  refine mvh_hp (R9 := mv_r h) hf r_g11 (fun g13 hf r_g13 => ?_)
  refine mv_aload_n (pc := 66) B d_Book_node_66 rfl 1 rfl ?_
  refine mv_getR (pc := 67) (ci := 12) (C := R_Book) (T := F_Book) (N := 65) B 47 rfl rfl (by decide) i_Book (B.2.2.2.1 _ k_1896) rfl ((congrFun (congrFun r_g13 108) 47).trans (hb.1 108 47 _ rfl)) d_Book_node_67 ?_
  refine mv_iload (pc := 70) B d_Book_node_70 0 rfl ?_
  refine mv_iconst (pc := 72) (v := 0) B d_Book_node_72 (by decide) ?_
  obtain ⟨q14, hf⟩ := xvi_e hf
  refine mv_zast (pc := 73) B rfl q14 d_Book_node_73 ?_
  refine mvh_hp (R9 := mv_r h) hf r_g13 (fun g15 hf r_g15 => ?_)
  refine mv_iload (pc := 74) B d_Book_node_74 0 rfl ?_
  exact mv_iret (pc := 76) B hr rfl d_Book_node_76 (Nat.le_refl _) (Nat.le_refl _) ⟨_, rfl, xrh_i hf r_g15⟩
def f_Book_chosen_111 (P : Nat) (y0 : Int32) (y1 : Int32) (y2 : Int32) (y3 : Int32) (y4 : Int32) (hz : mv_H) : Option (Int32 × mv_H) := xhb (f_Book_node P hz y4 y3 y2 y1 y0) fun u2 g1 => some (u2, g1)
def f_Book_chosen_89 (P : Nat) (x2 : Int32) (x3 : Int32) (x4 : Int32) (x6 : Int32) (hz : mv_H) : Option (Int32 × mv_H) := if x6 = (0 : Int32) then (f_Book_chosen_111 P (0 : Int32) x4 x3 x2 (9 : Int32) hz) else (bif xvi x3 33000 then f_Book_chosen_111 P (mv_a hz (P + 23) (x3).toNatClampNeg) x4 x3 x2 (9 : Int32) hz else none)
def f_Book_chosen_71 (P : Nat) (x1 : Int32) (x2 : Int32) (x3 : Int32) (x4 : Int32) (x5 : Int32) (y0 : Int32) (hz : mv_H) : Option (Int32 × mv_H) := if x5 = (0 : Int32) then (f_Book_chosen_89 P x2 x3 x4 y0 hz) else (if y0 = (0 : Int32) then (xhv (f_Book_fault P hz (4 : Int32) x1) fun g4 => f_Book_chosen_89 P x2 x3 x4 y0 g4) else (f_Book_chosen_89 P x2 x3 x4 y0 hz))
def f_Book_chosen_70 (P : Nat) (x1 : Int32) (x2 : Int32) (x3 : Int32) (x4 : Int32) (x5 : Int32) (hz : mv_H) : Option (Int32 × mv_H) := f_Book_chosen_71 P x1 x2 x3 x4 x5 (0 : Int32) hz
def f_Book_chosen_33 (P : Nat) (x1 : Int32) (x2 : Int32) (x3 : Int32) (x4 : Int32) (y0 : Int32) (hz : mv_H) : Option (Int32 × mv_H) := if y0 = (0 : Int32) then (f_Book_chosen_70 P x1 x2 x3 x4 y0 hz) else (bif xvi x2 33000 then if (mv_a hz (P + 23) (x2).toNatClampNeg) = (1 : Int32) then (bif xvi x3 33000 then bif xvi x4 33000 then if (mv_a hz (P + 23) (x3).toNatClampNeg) = (mv_a hz (P + 23) (x4).toNatClampNeg) then (f_Book_chosen_71 P x1 x2 x3 x4 y0 (1 : Int32) hz) else (f_Book_chosen_70 P x1 x2 x3 x4 y0 hz) else none else none) else (f_Book_chosen_70 P x1 x2 x3 x4 y0 hz) else none)
def f_Book_chosen_32 (P : Nat) (x1 : Int32) (x2 : Int32) (x3 : Int32) (x4 : Int32) (hz : mv_H) : Option (Int32 × mv_H) := f_Book_chosen_33 P x1 x2 x3 x4 (0 : Int32) hz
def f_Book_chosen (P : Nat) (h : mv_H) (a0 : Int32) (a1 : Int32) (a2 : Int32) (a3 : Int32) : Option (Int32 × mv_H) := bif xvi a1 33000 then if (mv_a h (P + 23) (a1).toNatClampNeg) ≤ (0 : Int32) then (f_Book_chosen_32 P a0 a1 a2 a3 h) else (bif xvi a2 33000 then if (mv_a h (P + 23) (a2).toNatClampNeg) ≤ (0 : Int32) then (f_Book_chosen_32 P a0 a1 a2 a3 h) else (bif xvi a3 33000 then if (mv_a h (P + 23) (a3).toNatClampNeg) ≤ (0 : Int32) then (f_Book_chosen_32 P a0 a1 a2 a3 h) else (f_Book_chosen_33 P a0 a1 a2 a3 (1 : Int32) h) else none) else none) else none
set_option maxHeartbeats 4000000 in
set_option maxRecDepth 100000 in
theorem ch_Book_chosen_x (l : Launch) {dA : FieldType → ClassId} {D : va_G} {al : Nat → Nat} {ext : mv_Sh} {sk sv : Nat → Nat} (hi : mv_inj (mg dA D al ext)) (h : mv_H) (hb : Br 74 (mv_r h))  (a0 : Int32) (a1 : Int32) (a2 : Int32) (a3 : Int32) {rv : Int32} {rg : mv_H} (hf : f_Book_chosen 74 h a0 a1 a2 a3 = some (rv, rg)) : mv_C l y_Book_chosen (Cond.code y_Book_chosen b_Book_chosen 7 (Option.some Jvm.ClassFile.FieldType.int) :: ma) ({ frames := 1, cells := 0, slots := 0, locals := 26 }) (mg dA D al ext) (mK sk sv) [.ref (al 74), .int a0, .int a1, .int a2, .int a3] h (mv_Ri (fun v σ1 => rv = v ∧ rg = σ1 ∧ mv_r σ1 = mv_r h)) := by
  refine mv_C.ofV (cc := b_Book_chosen) (nL := 7) (ret := (Option.some Jvm.ClassFile.FieldType.int)) (by decide +kernel) rfl hi (Nat.le_of_ble_eq_true rfl) ?_
  intro p e s m below meth c B hNs hr hnm hno
  have jn111 : ∀ (y0 : Int32) (y1 : Int32) (y2 : Int32) (y3 : Int32) (y4 : Int32) (hz : mv_H), mv_r hz = mv_r h → f_Book_chosen_111 74 y0 y1 y2 y3 y4 hz = some (rv, rg) → mv_V p l e ({ frames := 1, cells := 0, slots := 0, locals := 26 }) s m ([.ref (al 74), .int a0, .int a1, .int a2, .int a3] : List Value).toArray below meth c (mg dA D al ext) 7 0 0 (mv_Q (mg dA D al ext) below s 0 0 (mv_Ri (fun v σ1 => rv = v ∧ rg = σ1 ∧ mv_r σ1 = mv_r h))) hz 111 [] [.int y0, .int y1, .int y2, .int y3, .int y4, .ref (al 74)] := by
    intro y0 y1 y2 y3 y4 hz r_hz hf
    unfold f_Book_chosen_111 at hf
    obtain ⟨u2, g1, eg1, hf⟩ := xhb_e hf
    refine mv_callVi (pc := 111) (n := 5) (ci := 12) (C := R_Book) B (mK_ok sk sv) hNs rfl rfl (ch_Book_node_x l hi _ (xrw r_hz hb) _ _ _ _ _ eg1) rfl (ma_goodc kc_Book_node) (B.2.2.2.1 _ k_2269) (B.2.2.2.1 _ k_2271) (B.2.2.2.1 _ ks_110) (B.2.2.2.1 _ k_13) ⟨by decide +kernel, by decide +kernel, by decide +kernel⟩ rfl d_Book_chosen_111 rfl (Nat.le_of_ble_eq_true rfl) ⟨by decide, by decide⟩ ⟨by decide, by decide⟩ ⟨by decide, by decide⟩ (mv_noH hno _) (fun w111 σ111 h111 => ?_)
    obtain ⟨rfl, rfl, s_g1⟩ := h111
    have r_g1 : mv_r g1 = mv_r h := s_g1.trans r_hz
    exact mv_iret (pc := 114) B hr rfl d_Book_chosen_114 (Nat.le_refl _) (Nat.le_refl _) ⟨_, rfl, xrh_i hf r_g1⟩
  have jn89 : ∀ (x2 : Int32) (x3 : Int32) (x4 : Int32) (x6 : Int32) (hz : mv_H), mv_r hz = mv_r h → f_Book_chosen_89 74 x2 x3 x4 x6 hz = some (rv, rg) → mv_V p l e ({ frames := 1, cells := 0, slots := 0, locals := 26 }) s m ([.ref (al 74), .int a0, .int a1, .int a2, .int a3] : List Value).toArray below meth c (mg dA D al ext) 7 0 0 (mv_Q (mg dA D al ext) below s 0 0 (mv_Ri (fun v σ1 => rv = v ∧ rg = σ1 ∧ mv_r σ1 = mv_r h))) hz 89 [(0, .ref (al 74)), (2, .int x2), (3, .int x3), (4, .int x4), (6, .int x6)] [] := by
    intro x2 x3 x4 x6 hz r_hz hf
    unfold f_Book_chosen_89 at hf
    refine mv_aload_n (pc := 89) B d_Book_chosen_89 rfl 0 rfl ?_
    refine mv_bipush (pc := 90) (v := 9) B d_Book_chosen_90 (by decide) ?_
    refine mv_iload_n (pc := 92) B d_Book_chosen_92 rfl 1 rfl ?_
    refine mv_iload_n (pc := 93) B d_Book_chosen_93 rfl 2 rfl ?_
    refine mv_iload (pc := 94) B d_Book_chosen_94 3 rfl ?_
    refine mv_iload (pc := 96) B d_Book_chosen_96 4 rfl ?_
    refine mv_if_eq (pc := 98) (tgt := 110) B d_Book_chosen_98 rfl (fun h98 => ?_) (fun h98 => ?_)
    · skip
      have hf := xif_t h98 hf
      refine mv_iconst (pc := 110) (v := 0) B d_Book_chosen_110 (by decide) ?_
      refine mv_lpick [] rfl ?_
      exact jn111 _ _ _ _ _ _ r_hz hf
    · skip
      have hf := xif_f h98 hf
      refine mv_aload_n (pc := 101) B d_Book_chosen_101 rfl 0 rfl ?_
      refine mv_getR (pc := 102) (ci := 12) (C := R_Book) (T := F_Book) (N := 65) B 45 rfl rfl (by decide) i_Book (B.2.2.2.1 _ k_1894) rfl ((congrFun (congrFun r_hz 74) 45).trans (hb.1 74 45 _ rfl)) d_Book_chosen_102 ?_
      refine mv_iload_n (pc := 105) B d_Book_chosen_105 rfl 2 rfl ?_
      obtain ⟨q3, hf⟩ := xvi_e hf
      refine mv_iald (pc := 106) B rfl q3 d_Book_chosen_106 ?_
      refine mv_goto (pc := 107) (tgt := 111) B d_Book_chosen_107 rfl ?_
      refine mv_lpick [] rfl ?_
      exact jn111 _ _ _ _ _ _ r_hz hf
  have jn71 : ∀ (x1 : Int32) (x2 : Int32) (x3 : Int32) (x4 : Int32) (x5 : Int32) (y0 : Int32) (hz : mv_H), mv_r hz = mv_r h → f_Book_chosen_71 74 x1 x2 x3 x4 x5 y0 hz = some (rv, rg) → mv_V p l e ({ frames := 1, cells := 0, slots := 0, locals := 26 }) s m ([.ref (al 74), .int a0, .int a1, .int a2, .int a3] : List Value).toArray below meth c (mg dA D al ext) 7 0 0 (mv_Q (mg dA D al ext) below s 0 0 (mv_Ri (fun v σ1 => rv = v ∧ rg = σ1 ∧ mv_r σ1 = mv_r h))) hz 71 [(0, .ref (al 74)), (1, .int x1), (2, .int x2), (3, .int x3), (4, .int x4), (5, .int x5)] [.int y0] := by
    intro x1 x2 x3 x4 x5 y0 hz r_hz hf
    unfold f_Book_chosen_71 at hf
    refine mv_istore (pc := 71) B d_Book_chosen_71 (by decide) rfl ?_
    refine mv_iload (pc := 73) B d_Book_chosen_73 6 rfl ?_
    refine mv_if_eq (pc := 75) (tgt := 89) B d_Book_chosen_75 rfl (fun h75 => ?_) (fun h75 => ?_)
    · skip
      have hf := xif_t h75 hf
      refine mv_lpick [1, 3, 4, 5, 0] rfl ?_
      exact jn89 _ _ _ _ _ r_hz hf
    · skip
      have hf := xif_f h75 hf
      refine mv_iload (pc := 78) B d_Book_chosen_78 0 rfl ?_
      refine mv_if_ne (pc := 80) (tgt := 89) B d_Book_chosen_80 rfl (fun h80 => ?_) (fun h80 => ?_)
      · skip
        have hf := xif_f h80 hf
        refine mv_lpick [1, 3, 4, 5, 0] rfl ?_
        exact jn89 _ _ _ _ _ r_hz hf
      · skip
        have hf := xif_t h80 hf
        refine mv_aload_n (pc := 83) B d_Book_chosen_83 rfl 1 rfl ?_
        refine mv_iconst (pc := 84) (v := 4) B d_Book_chosen_84 (by decide) ?_
        refine mv_iload_n (pc := 85) B d_Book_chosen_85 rfl 2 rfl ?_
        obtain ⟨g4, eg4, hf⟩ := xhv_e hf
        refine mv_callVv (pc := 86) (n := 2) (ci := 12) (C := R_Book) B (mK_ok sk sv) hNs rfl rfl (ch_Book_fault_x l hi _ _ _ eg4) rfl (ma_goodc kc_Book_fault) (B.2.2.2.1 _ k_2185) (B.2.2.2.1 _ k_2187) (B.2.2.2.1 _ ks_92) (B.2.2.2.1 _ k_13) ⟨by decide +kernel, by decide +kernel, by decide +kernel⟩ rfl d_Book_chosen_86 rfl (Nat.le_of_ble_eq_true rfl) ⟨by decide, by decide⟩ ⟨by decide, by decide⟩ ⟨by decide, by decide⟩ (mv_noH hno _) (fun σ86 h86 => ?_)
        obtain ⟨rfl, s_g4⟩ := h86
        have r_g4 : mv_r g4 = mv_r h := s_g4.trans r_hz
        refine mv_lpick [1, 3, 4, 5, 0] rfl ?_
        exact jn89 _ _ _ _ _ r_g4 hf
  have jn70 : ∀ (x1 : Int32) (x2 : Int32) (x3 : Int32) (x4 : Int32) (x5 : Int32) (hz : mv_H), mv_r hz = mv_r h → f_Book_chosen_70 74 x1 x2 x3 x4 x5 hz = some (rv, rg) → mv_V p l e ({ frames := 1, cells := 0, slots := 0, locals := 26 }) s m ([.ref (al 74), .int a0, .int a1, .int a2, .int a3] : List Value).toArray below meth c (mg dA D al ext) 7 0 0 (mv_Q (mg dA D al ext) below s 0 0 (mv_Ri (fun v σ1 => rv = v ∧ rg = σ1 ∧ mv_r σ1 = mv_r h))) hz 70 [(0, .ref (al 74)), (1, .int x1), (2, .int x2), (3, .int x3), (4, .int x4), (5, .int x5)] [] := by
    intro x1 x2 x3 x4 x5 hz r_hz hf
    unfold f_Book_chosen_70 at hf
    refine mv_iconst (pc := 70) (v := 0) B d_Book_chosen_70 (by decide) ?_
    refine mv_lpick [0, 1, 2, 3, 4, 5] rfl ?_
    exact jn71 _ _ _ _ _ _ _ r_hz hf
  have jn33 : ∀ (x1 : Int32) (x2 : Int32) (x3 : Int32) (x4 : Int32) (y0 : Int32) (hz : mv_H), mv_r hz = mv_r h → f_Book_chosen_33 74 x1 x2 x3 x4 y0 hz = some (rv, rg) → mv_V p l e ({ frames := 1, cells := 0, slots := 0, locals := 26 }) s m ([.ref (al 74), .int a0, .int a1, .int a2, .int a3] : List Value).toArray below meth c (mg dA D al ext) 7 0 0 (mv_Q (mg dA D al ext) below s 0 0 (mv_Ri (fun v σ1 => rv = v ∧ rg = σ1 ∧ mv_r σ1 = mv_r h))) hz 33 [(0, .ref (al 74)), (1, .int x1), (2, .int x2), (3, .int x3), (4, .int x4)] [.int y0] := by
    intro x1 x2 x3 x4 y0 hz r_hz hf
    unfold f_Book_chosen_33 at hf
    refine mv_istore (pc := 33) B d_Book_chosen_33 (by decide) rfl ?_
    refine mv_iload (pc := 35) B d_Book_chosen_35 0 rfl ?_
    refine mv_if_eq (pc := 37) (tgt := 70) B d_Book_chosen_37 rfl (fun h37 => ?_) (fun h37 => ?_)
    · skip
      have hf := xif_t h37 hf
      refine mv_lpick [1, 2, 3, 4, 5, 0] rfl ?_
      exact jn70 _ _ _ _ _ _ r_hz hf
    · skip
      have hf := xif_f h37 hf
      refine mv_aload_n (pc := 40) B d_Book_chosen_40 rfl 1 rfl ?_
      refine mv_getR (pc := 41) (ci := 12) (C := R_Book) (T := F_Book) (N := 65) B 45 rfl rfl (by decide) i_Book (B.2.2.2.1 _ k_1894) rfl ((congrFun (congrFun r_hz 74) 45).trans (hb.1 74 45 _ rfl)) d_Book_chosen_41 ?_
      refine mv_iload_n (pc := 44) B d_Book_chosen_44 rfl 3 rfl ?_
      obtain ⟨q6, hf⟩ := xvi_e hf
      refine mv_iald (pc := 45) B rfl q6 d_Book_chosen_45 ?_
      refine mv_iconst (pc := 46) (v := 1) B d_Book_chosen_46 (by decide) ?_
      refine mv_icmp_ne (pc := 47) (tgt := 70) B d_Book_chosen_47 rfl (fun h47 => ?_) (fun h47 => ?_)
      · skip
        have hf := xif_f h47 hf
        refine mv_lpick [1, 2, 3, 4, 5, 0] rfl ?_
        exact jn70 _ _ _ _ _ _ r_hz hf
      · skip
        have hf := xif_t h47 hf
        refine mv_aload_n (pc := 50) B d_Book_chosen_50 rfl 1 rfl ?_
        refine mv_getR (pc := 51) (ci := 12) (C := R_Book) (T := F_Book) (N := 65) B 45 rfl rfl (by decide) i_Book (B.2.2.2.1 _ k_1894) rfl ((congrFun (congrFun r_hz 74) 45).trans (hb.1 74 45 _ rfl)) d_Book_chosen_51 ?_
        refine mv_iload_n (pc := 54) B d_Book_chosen_54 rfl 4 rfl ?_
        obtain ⟨q7, hf⟩ := xvi_e hf
        refine mv_iald (pc := 55) B rfl q7 d_Book_chosen_55 ?_
        refine mv_aload_n (pc := 56) B d_Book_chosen_56 rfl 1 rfl ?_
        refine mv_getR (pc := 57) (ci := 12) (C := R_Book) (T := F_Book) (N := 65) B 45 rfl rfl (by decide) i_Book (B.2.2.2.1 _ k_1894) rfl ((congrFun (congrFun r_hz 74) 45).trans (hb.1 74 45 _ rfl)) d_Book_chosen_57 ?_
        refine mv_iload (pc := 60) B d_Book_chosen_60 5 rfl ?_
        obtain ⟨q8, hf⟩ := xvi_e hf
        refine mv_iald (pc := 62) B rfl q8 d_Book_chosen_62 ?_
        refine mv_icmp_ne (pc := 63) (tgt := 70) B d_Book_chosen_63 rfl (fun h63 => ?_) (fun h63 => ?_)
        · skip
          have hf := xif_f h63 hf
          refine mv_lpick [1, 2, 3, 4, 5, 0] rfl ?_
          exact jn70 _ _ _ _ _ _ r_hz hf
        · skip
          have hf := xif_t h63 hf
          refine mv_iconst (pc := 66) (v := 1) B d_Book_chosen_66 (by decide) ?_
          refine mv_goto (pc := 67) (tgt := 71) B d_Book_chosen_67 rfl ?_
          refine mv_lpick [1, 2, 3, 4, 5, 0] rfl ?_
          exact jn71 _ _ _ _ _ _ _ r_hz hf
  have jn32 : ∀ (x1 : Int32) (x2 : Int32) (x3 : Int32) (x4 : Int32) (hz : mv_H), mv_r hz = mv_r h → f_Book_chosen_32 74 x1 x2 x3 x4 hz = some (rv, rg) → mv_V p l e ({ frames := 1, cells := 0, slots := 0, locals := 26 }) s m ([.ref (al 74), .int a0, .int a1, .int a2, .int a3] : List Value).toArray below meth c (mg dA D al ext) 7 0 0 (mv_Q (mg dA D al ext) below s 0 0 (mv_Ri (fun v σ1 => rv = v ∧ rg = σ1 ∧ mv_r σ1 = mv_r h))) hz 32 [(0, .ref (al 74)), (1, .int x1), (2, .int x2), (3, .int x3), (4, .int x4)] [] := by
    intro x1 x2 x3 x4 hz r_hz hf
    unfold f_Book_chosen_32 at hf
    refine mv_iconst (pc := 32) (v := 0) B d_Book_chosen_32 (by decide) ?_
    refine mv_lpick [0, 1, 2, 3, 4] rfl ?_
    exact jn33 _ _ _ _ _ _ r_hz hf
  unfold f_Book_chosen at hf
  refine mv_aload_n (pc := 0) B d_Book_chosen_0 rfl 0 rfl ?_
  refine mv_getR (pc := 1) (ci := 12) (C := R_Book) (T := F_Book) (N := 65) B 45 rfl rfl (by decide) i_Book (B.2.2.2.1 _ k_1894) rfl (hb.1 74 45 _ rfl) d_Book_chosen_1 ?_
  refine mv_iload_n (pc := 4) B d_Book_chosen_4 rfl 2 rfl ?_
  obtain ⟨q9, hf⟩ := xvi_e hf
  refine mv_iald (pc := 5) B rfl q9 d_Book_chosen_5 ?_
  refine mv_if_le (pc := 6) (tgt := 32) B d_Book_chosen_6 rfl (fun h6 => ?_) (fun h6 => ?_)
  · skip
    have hf := xif_t h6 hf
    refine mv_lpick [0, 1, 2, 3, 4] rfl ?_
    exact jn32 _ _ _ _ _ rfl hf
  · skip
    have hf := xif_f h6 hf
    refine mv_aload_n (pc := 9) B d_Book_chosen_9 rfl 0 rfl ?_
    refine mv_getR (pc := 10) (ci := 12) (C := R_Book) (T := F_Book) (N := 65) B 45 rfl rfl (by decide) i_Book (B.2.2.2.1 _ k_1894) rfl (hb.1 74 45 _ rfl) d_Book_chosen_10 ?_
    refine mv_iload_n (pc := 13) B d_Book_chosen_13 rfl 3 rfl ?_
    obtain ⟨q10, hf⟩ := xvi_e hf
    refine mv_iald (pc := 14) B rfl q10 d_Book_chosen_14 ?_
    refine mv_if_le (pc := 15) (tgt := 32) B d_Book_chosen_15 rfl (fun h15 => ?_) (fun h15 => ?_)
    · skip
      have hf := xif_t h15 hf
      refine mv_lpick [0, 1, 2, 3, 4] rfl ?_
      exact jn32 _ _ _ _ _ rfl hf
    · skip
      have hf := xif_f h15 hf
      refine mv_aload_n (pc := 18) B d_Book_chosen_18 rfl 0 rfl ?_
      refine mv_getR (pc := 19) (ci := 12) (C := R_Book) (T := F_Book) (N := 65) B 45 rfl rfl (by decide) i_Book (B.2.2.2.1 _ k_1894) rfl (hb.1 74 45 _ rfl) d_Book_chosen_19 ?_
      refine mv_iload (pc := 22) B d_Book_chosen_22 4 rfl ?_
      obtain ⟨q11, hf⟩ := xvi_e hf
      refine mv_iald (pc := 24) B rfl q11 d_Book_chosen_24 ?_
      refine mv_if_le (pc := 25) (tgt := 32) B d_Book_chosen_25 rfl (fun h25 => ?_) (fun h25 => ?_)
      · skip
        have hf := xif_t h25 hf
        refine mv_lpick [0, 1, 2, 3, 4] rfl ?_
        exact jn32 _ _ _ _ _ rfl hf
      · skip
        have hf := xif_f h25 hf
        refine mv_iconst (pc := 28) (v := 1) B d_Book_chosen_28 (by decide) ?_
        refine mv_goto (pc := 29) (tgt := 33) B d_Book_chosen_29 rfl ?_
        refine mv_lpick [0, 1, 2, 3, 4] rfl ?_
        exact jn33 _ _ _ _ _ _ rfl hf
set_option maxHeartbeats 4000000 in
set_option maxRecDepth 100000 in
theorem ch_Book_chosen_y (l : Launch) {dA : FieldType → ClassId} {D : va_G} {al : Nat → Nat} {ext : mv_Sh} {sk sv : Nat → Nat} (hi : mv_inj (mg dA D al ext)) (h : mv_H) (hb : Br 108 (mv_r h))  (a0 : Int32) (a1 : Int32) (a2 : Int32) (a3 : Int32) {rv : Int32} {rg : mv_H} (hf : f_Book_chosen 108 h a0 a1 a2 a3 = some (rv, rg)) : mv_C l y_Book_chosen (Cond.code y_Book_chosen b_Book_chosen 7 (Option.some Jvm.ClassFile.FieldType.int) :: ma) ({ frames := 1, cells := 0, slots := 0, locals := 26 }) (mg dA D al ext) (mK sk sv) [.ref (al 108), .int a0, .int a1, .int a2, .int a3] h (mv_Ri (fun v σ1 => rv = v ∧ rg = σ1 ∧ mv_r σ1 = mv_r h)) := by
  refine mv_C.ofV (cc := b_Book_chosen) (nL := 7) (ret := (Option.some Jvm.ClassFile.FieldType.int)) (by decide +kernel) rfl hi (Nat.le_of_ble_eq_true rfl) ?_
  intro p e s m below meth c B hNs hr hnm hno
  have jn111 : ∀ (y0 : Int32) (y1 : Int32) (y2 : Int32) (y3 : Int32) (y4 : Int32) (hz : mv_H), mv_r hz = mv_r h → f_Book_chosen_111 108 y0 y1 y2 y3 y4 hz = some (rv, rg) → mv_V p l e ({ frames := 1, cells := 0, slots := 0, locals := 26 }) s m ([.ref (al 108), .int a0, .int a1, .int a2, .int a3] : List Value).toArray below meth c (mg dA D al ext) 7 0 0 (mv_Q (mg dA D al ext) below s 0 0 (mv_Ri (fun v σ1 => rv = v ∧ rg = σ1 ∧ mv_r σ1 = mv_r h))) hz 111 [] [.int y0, .int y1, .int y2, .int y3, .int y4, .ref (al 108)] := by
    intro y0 y1 y2 y3 y4 hz r_hz hf
    unfold f_Book_chosen_111 at hf
    obtain ⟨u2, g1, eg1, hf⟩ := xhb_e hf
    refine mv_callVi (pc := 111) (n := 5) (ci := 12) (C := R_Book) B (mK_ok sk sv) hNs rfl rfl (ch_Book_node_y l hi _ (xrw r_hz hb) _ _ _ _ _ eg1) rfl (ma_goodc kc_Book_node) (B.2.2.2.1 _ k_2269) (B.2.2.2.1 _ k_2271) (B.2.2.2.1 _ ks_110) (B.2.2.2.1 _ k_13) ⟨by decide +kernel, by decide +kernel, by decide +kernel⟩ rfl d_Book_chosen_111 rfl (Nat.le_of_ble_eq_true rfl) ⟨by decide, by decide⟩ ⟨by decide, by decide⟩ ⟨by decide, by decide⟩ (mv_noH hno _) (fun w111 σ111 h111 => ?_)
    obtain ⟨rfl, rfl, s_g1⟩ := h111
    have r_g1 : mv_r g1 = mv_r h := s_g1.trans r_hz
    exact mv_iret (pc := 114) B hr rfl d_Book_chosen_114 (Nat.le_refl _) (Nat.le_refl _) ⟨_, rfl, xrh_i hf r_g1⟩
  have jn89 : ∀ (x2 : Int32) (x3 : Int32) (x4 : Int32) (x6 : Int32) (hz : mv_H), mv_r hz = mv_r h → f_Book_chosen_89 108 x2 x3 x4 x6 hz = some (rv, rg) → mv_V p l e ({ frames := 1, cells := 0, slots := 0, locals := 26 }) s m ([.ref (al 108), .int a0, .int a1, .int a2, .int a3] : List Value).toArray below meth c (mg dA D al ext) 7 0 0 (mv_Q (mg dA D al ext) below s 0 0 (mv_Ri (fun v σ1 => rv = v ∧ rg = σ1 ∧ mv_r σ1 = mv_r h))) hz 89 [(0, .ref (al 108)), (2, .int x2), (3, .int x3), (4, .int x4), (6, .int x6)] [] := by
    intro x2 x3 x4 x6 hz r_hz hf
    unfold f_Book_chosen_89 at hf
    refine mv_aload_n (pc := 89) B d_Book_chosen_89 rfl 0 rfl ?_
    refine mv_bipush (pc := 90) (v := 9) B d_Book_chosen_90 (by decide) ?_
    refine mv_iload_n (pc := 92) B d_Book_chosen_92 rfl 1 rfl ?_
    refine mv_iload_n (pc := 93) B d_Book_chosen_93 rfl 2 rfl ?_
    refine mv_iload (pc := 94) B d_Book_chosen_94 3 rfl ?_
    refine mv_iload (pc := 96) B d_Book_chosen_96 4 rfl ?_
    refine mv_if_eq (pc := 98) (tgt := 110) B d_Book_chosen_98 rfl (fun h98 => ?_) (fun h98 => ?_)
    · skip
      have hf := xif_t h98 hf
      refine mv_iconst (pc := 110) (v := 0) B d_Book_chosen_110 (by decide) ?_
      refine mv_lpick [] rfl ?_
      exact jn111 _ _ _ _ _ _ r_hz hf
    · skip
      have hf := xif_f h98 hf
      refine mv_aload_n (pc := 101) B d_Book_chosen_101 rfl 0 rfl ?_
      refine mv_getR (pc := 102) (ci := 12) (C := R_Book) (T := F_Book) (N := 65) B 45 rfl rfl (by decide) i_Book (B.2.2.2.1 _ k_1894) rfl ((congrFun (congrFun r_hz 108) 45).trans (hb.1 108 45 _ rfl)) d_Book_chosen_102 ?_
      refine mv_iload_n (pc := 105) B d_Book_chosen_105 rfl 2 rfl ?_
      obtain ⟨q3, hf⟩ := xvi_e hf
      refine mv_iald (pc := 106) B rfl q3 d_Book_chosen_106 ?_
      refine mv_goto (pc := 107) (tgt := 111) B d_Book_chosen_107 rfl ?_
      refine mv_lpick [] rfl ?_
      exact jn111 _ _ _ _ _ _ r_hz hf
  have jn71 : ∀ (x1 : Int32) (x2 : Int32) (x3 : Int32) (x4 : Int32) (x5 : Int32) (y0 : Int32) (hz : mv_H), mv_r hz = mv_r h → f_Book_chosen_71 108 x1 x2 x3 x4 x5 y0 hz = some (rv, rg) → mv_V p l e ({ frames := 1, cells := 0, slots := 0, locals := 26 }) s m ([.ref (al 108), .int a0, .int a1, .int a2, .int a3] : List Value).toArray below meth c (mg dA D al ext) 7 0 0 (mv_Q (mg dA D al ext) below s 0 0 (mv_Ri (fun v σ1 => rv = v ∧ rg = σ1 ∧ mv_r σ1 = mv_r h))) hz 71 [(0, .ref (al 108)), (1, .int x1), (2, .int x2), (3, .int x3), (4, .int x4), (5, .int x5)] [.int y0] := by
    intro x1 x2 x3 x4 x5 y0 hz r_hz hf
    unfold f_Book_chosen_71 at hf
    refine mv_istore (pc := 71) B d_Book_chosen_71 (by decide) rfl ?_
    refine mv_iload (pc := 73) B d_Book_chosen_73 6 rfl ?_
    refine mv_if_eq (pc := 75) (tgt := 89) B d_Book_chosen_75 rfl (fun h75 => ?_) (fun h75 => ?_)
    · skip
      have hf := xif_t h75 hf
      refine mv_lpick [1, 3, 4, 5, 0] rfl ?_
      exact jn89 _ _ _ _ _ r_hz hf
    · skip
      have hf := xif_f h75 hf
      refine mv_iload (pc := 78) B d_Book_chosen_78 0 rfl ?_
      refine mv_if_ne (pc := 80) (tgt := 89) B d_Book_chosen_80 rfl (fun h80 => ?_) (fun h80 => ?_)
      · skip
        have hf := xif_f h80 hf
        refine mv_lpick [1, 3, 4, 5, 0] rfl ?_
        exact jn89 _ _ _ _ _ r_hz hf
      · skip
        have hf := xif_t h80 hf
        refine mv_aload_n (pc := 83) B d_Book_chosen_83 rfl 1 rfl ?_
        refine mv_iconst (pc := 84) (v := 4) B d_Book_chosen_84 (by decide) ?_
        refine mv_iload_n (pc := 85) B d_Book_chosen_85 rfl 2 rfl ?_
        obtain ⟨g4, eg4, hf⟩ := xhv_e hf
        refine mv_callVv (pc := 86) (n := 2) (ci := 12) (C := R_Book) B (mK_ok sk sv) hNs rfl rfl (ch_Book_fault_y l hi _ _ _ eg4) rfl (ma_goodc kc_Book_fault) (B.2.2.2.1 _ k_2185) (B.2.2.2.1 _ k_2187) (B.2.2.2.1 _ ks_92) (B.2.2.2.1 _ k_13) ⟨by decide +kernel, by decide +kernel, by decide +kernel⟩ rfl d_Book_chosen_86 rfl (Nat.le_of_ble_eq_true rfl) ⟨by decide, by decide⟩ ⟨by decide, by decide⟩ ⟨by decide, by decide⟩ (mv_noH hno _) (fun σ86 h86 => ?_)
        obtain ⟨rfl, s_g4⟩ := h86
        have r_g4 : mv_r g4 = mv_r h := s_g4.trans r_hz
        refine mv_lpick [1, 3, 4, 5, 0] rfl ?_
        exact jn89 _ _ _ _ _ r_g4 hf
  have jn70 : ∀ (x1 : Int32) (x2 : Int32) (x3 : Int32) (x4 : Int32) (x5 : Int32) (hz : mv_H), mv_r hz = mv_r h → f_Book_chosen_70 108 x1 x2 x3 x4 x5 hz = some (rv, rg) → mv_V p l e ({ frames := 1, cells := 0, slots := 0, locals := 26 }) s m ([.ref (al 108), .int a0, .int a1, .int a2, .int a3] : List Value).toArray below meth c (mg dA D al ext) 7 0 0 (mv_Q (mg dA D al ext) below s 0 0 (mv_Ri (fun v σ1 => rv = v ∧ rg = σ1 ∧ mv_r σ1 = mv_r h))) hz 70 [(0, .ref (al 108)), (1, .int x1), (2, .int x2), (3, .int x3), (4, .int x4), (5, .int x5)] [] := by
    intro x1 x2 x3 x4 x5 hz r_hz hf
    unfold f_Book_chosen_70 at hf
    refine mv_iconst (pc := 70) (v := 0) B d_Book_chosen_70 (by decide) ?_
    refine mv_lpick [0, 1, 2, 3, 4, 5] rfl ?_
    exact jn71 _ _ _ _ _ _ _ r_hz hf
  have jn33 : ∀ (x1 : Int32) (x2 : Int32) (x3 : Int32) (x4 : Int32) (y0 : Int32) (hz : mv_H), mv_r hz = mv_r h → f_Book_chosen_33 108 x1 x2 x3 x4 y0 hz = some (rv, rg) → mv_V p l e ({ frames := 1, cells := 0, slots := 0, locals := 26 }) s m ([.ref (al 108), .int a0, .int a1, .int a2, .int a3] : List Value).toArray below meth c (mg dA D al ext) 7 0 0 (mv_Q (mg dA D al ext) below s 0 0 (mv_Ri (fun v σ1 => rv = v ∧ rg = σ1 ∧ mv_r σ1 = mv_r h))) hz 33 [(0, .ref (al 108)), (1, .int x1), (2, .int x2), (3, .int x3), (4, .int x4)] [.int y0] := by
    intro x1 x2 x3 x4 y0 hz r_hz hf
    unfold f_Book_chosen_33 at hf
    refine mv_istore (pc := 33) B d_Book_chosen_33 (by decide) rfl ?_
    refine mv_iload (pc := 35) B d_Book_chosen_35 0 rfl ?_
    refine mv_if_eq (pc := 37) (tgt := 70) B d_Book_chosen_37 rfl (fun h37 => ?_) (fun h37 => ?_)
    · skip
      have hf := xif_t h37 hf
      refine mv_lpick [1, 2, 3, 4, 5, 0] rfl ?_
      exact jn70 _ _ _ _ _ _ r_hz hf
    · skip
      have hf := xif_f h37 hf
      refine mv_aload_n (pc := 40) B d_Book_chosen_40 rfl 1 rfl ?_
      refine mv_getR (pc := 41) (ci := 12) (C := R_Book) (T := F_Book) (N := 65) B 45 rfl rfl (by decide) i_Book (B.2.2.2.1 _ k_1894) rfl ((congrFun (congrFun r_hz 108) 45).trans (hb.1 108 45 _ rfl)) d_Book_chosen_41 ?_
      refine mv_iload_n (pc := 44) B d_Book_chosen_44 rfl 3 rfl ?_
      obtain ⟨q6, hf⟩ := xvi_e hf
      refine mv_iald (pc := 45) B rfl q6 d_Book_chosen_45 ?_
      refine mv_iconst (pc := 46) (v := 1) B d_Book_chosen_46 (by decide) ?_
      refine mv_icmp_ne (pc := 47) (tgt := 70) B d_Book_chosen_47 rfl (fun h47 => ?_) (fun h47 => ?_)
      · skip
        have hf := xif_f h47 hf
        refine mv_lpick [1, 2, 3, 4, 5, 0] rfl ?_
        exact jn70 _ _ _ _ _ _ r_hz hf
      · skip
        have hf := xif_t h47 hf
        refine mv_aload_n (pc := 50) B d_Book_chosen_50 rfl 1 rfl ?_
        refine mv_getR (pc := 51) (ci := 12) (C := R_Book) (T := F_Book) (N := 65) B 45 rfl rfl (by decide) i_Book (B.2.2.2.1 _ k_1894) rfl ((congrFun (congrFun r_hz 108) 45).trans (hb.1 108 45 _ rfl)) d_Book_chosen_51 ?_
        refine mv_iload_n (pc := 54) B d_Book_chosen_54 rfl 4 rfl ?_
        obtain ⟨q7, hf⟩ := xvi_e hf
        refine mv_iald (pc := 55) B rfl q7 d_Book_chosen_55 ?_
        refine mv_aload_n (pc := 56) B d_Book_chosen_56 rfl 1 rfl ?_
        refine mv_getR (pc := 57) (ci := 12) (C := R_Book) (T := F_Book) (N := 65) B 45 rfl rfl (by decide) i_Book (B.2.2.2.1 _ k_1894) rfl ((congrFun (congrFun r_hz 108) 45).trans (hb.1 108 45 _ rfl)) d_Book_chosen_57 ?_
        refine mv_iload (pc := 60) B d_Book_chosen_60 5 rfl ?_
        obtain ⟨q8, hf⟩ := xvi_e hf
        refine mv_iald (pc := 62) B rfl q8 d_Book_chosen_62 ?_
        refine mv_icmp_ne (pc := 63) (tgt := 70) B d_Book_chosen_63 rfl (fun h63 => ?_) (fun h63 => ?_)
        · skip
          have hf := xif_f h63 hf
          refine mv_lpick [1, 2, 3, 4, 5, 0] rfl ?_
          exact jn70 _ _ _ _ _ _ r_hz hf
        · skip
          have hf := xif_t h63 hf
          refine mv_iconst (pc := 66) (v := 1) B d_Book_chosen_66 (by decide) ?_
          refine mv_goto (pc := 67) (tgt := 71) B d_Book_chosen_67 rfl ?_
          refine mv_lpick [1, 2, 3, 4, 5, 0] rfl ?_
          exact jn71 _ _ _ _ _ _ _ r_hz hf
  have jn32 : ∀ (x1 : Int32) (x2 : Int32) (x3 : Int32) (x4 : Int32) (hz : mv_H), mv_r hz = mv_r h → f_Book_chosen_32 108 x1 x2 x3 x4 hz = some (rv, rg) → mv_V p l e ({ frames := 1, cells := 0, slots := 0, locals := 26 }) s m ([.ref (al 108), .int a0, .int a1, .int a2, .int a3] : List Value).toArray below meth c (mg dA D al ext) 7 0 0 (mv_Q (mg dA D al ext) below s 0 0 (mv_Ri (fun v σ1 => rv = v ∧ rg = σ1 ∧ mv_r σ1 = mv_r h))) hz 32 [(0, .ref (al 108)), (1, .int x1), (2, .int x2), (3, .int x3), (4, .int x4)] [] := by
    intro x1 x2 x3 x4 hz r_hz hf
    unfold f_Book_chosen_32 at hf
    refine mv_iconst (pc := 32) (v := 0) B d_Book_chosen_32 (by decide) ?_
    refine mv_lpick [0, 1, 2, 3, 4] rfl ?_
    exact jn33 _ _ _ _ _ _ r_hz hf
  unfold f_Book_chosen at hf
  refine mv_aload_n (pc := 0) B d_Book_chosen_0 rfl 0 rfl ?_
  refine mv_getR (pc := 1) (ci := 12) (C := R_Book) (T := F_Book) (N := 65) B 45 rfl rfl (by decide) i_Book (B.2.2.2.1 _ k_1894) rfl (hb.1 108 45 _ rfl) d_Book_chosen_1 ?_
  refine mv_iload_n (pc := 4) B d_Book_chosen_4 rfl 2 rfl ?_
  obtain ⟨q9, hf⟩ := xvi_e hf
  refine mv_iald (pc := 5) B rfl q9 d_Book_chosen_5 ?_
  refine mv_if_le (pc := 6) (tgt := 32) B d_Book_chosen_6 rfl (fun h6 => ?_) (fun h6 => ?_)
  · skip
    have hf := xif_t h6 hf
    refine mv_lpick [0, 1, 2, 3, 4] rfl ?_
    exact jn32 _ _ _ _ _ rfl hf
  · skip
    have hf := xif_f h6 hf
    refine mv_aload_n (pc := 9) B d_Book_chosen_9 rfl 0 rfl ?_
    refine mv_getR (pc := 10) (ci := 12) (C := R_Book) (T := F_Book) (N := 65) B 45 rfl rfl (by decide) i_Book (B.2.2.2.1 _ k_1894) rfl (hb.1 108 45 _ rfl) d_Book_chosen_10 ?_
    refine mv_iload_n (pc := 13) B d_Book_chosen_13 rfl 3 rfl ?_
    obtain ⟨q10, hf⟩ := xvi_e hf
    refine mv_iald (pc := 14) B rfl q10 d_Book_chosen_14 ?_
    refine mv_if_le (pc := 15) (tgt := 32) B d_Book_chosen_15 rfl (fun h15 => ?_) (fun h15 => ?_)
    · skip
      have hf := xif_t h15 hf
      refine mv_lpick [0, 1, 2, 3, 4] rfl ?_
      exact jn32 _ _ _ _ _ rfl hf
    · skip
      have hf := xif_f h15 hf
      refine mv_aload_n (pc := 18) B d_Book_chosen_18 rfl 0 rfl ?_
      refine mv_getR (pc := 19) (ci := 12) (C := R_Book) (T := F_Book) (N := 65) B 45 rfl rfl (by decide) i_Book (B.2.2.2.1 _ k_1894) rfl (hb.1 108 45 _ rfl) d_Book_chosen_19 ?_
      refine mv_iload (pc := 22) B d_Book_chosen_22 4 rfl ?_
      obtain ⟨q11, hf⟩ := xvi_e hf
      refine mv_iald (pc := 24) B rfl q11 d_Book_chosen_24 ?_
      refine mv_if_le (pc := 25) (tgt := 32) B d_Book_chosen_25 rfl (fun h25 => ?_) (fun h25 => ?_)
      · skip
        have hf := xif_t h25 hf
        refine mv_lpick [0, 1, 2, 3, 4] rfl ?_
        exact jn32 _ _ _ _ _ rfl hf
      · skip
        have hf := xif_f h25 hf
        refine mv_iconst (pc := 28) (v := 1) B d_Book_chosen_28 (by decide) ?_
        refine mv_goto (pc := 29) (tgt := 33) B d_Book_chosen_29 rfl ?_
        refine mv_lpick [0, 1, 2, 3, 4] rfl ?_
        exact jn33 _ _ _ _ _ _ rfl hf
def f_Book_two_110 (P : Nat) (y0 : Int32) (y1 : Int32) (y2 : Int32) (y3 : Int32) (y4 : Int32) (hz : mv_H) : Option (Int32 × mv_H) := xhb (f_Book_node P hz y4 y3 y2 y1 y0) fun u2 g1 => some (u2, g1)
def f_Book_two_77 (P : Nat) (x1 : Int32) (x3 : Int32) (x4 : Int32) (x6 : Int32) (hz : mv_H) : Option (Int32 × mv_H) := if x6 = (0 : Int32) then (f_Book_two_110 P (0 : Int32) x1 x4 x3 (7 : Int32) hz) else (xhb (f_Book_asks hz x1) fun u4 g3 => if u4 = (0 : Int32) then (bif xvi x3 33000 then f_Book_two_110 P (mv_a g3 (P + 23) (x3).toNatClampNeg) x1 x4 x3 (7 : Int32) g3 else none) else (f_Book_two_110 P (1 : Int32) x1 x4 x3 (7 : Int32) g3))
def f_Book_two_59 (P : Nat) (x1 : Int32) (x2 : Int32) (x3 : Int32) (x4 : Int32) (x5 : Int32) (y0 : Int32) (hz : mv_H) : Option (Int32 × mv_H) := if x5 = (0 : Int32) then (f_Book_two_77 P x1 x3 x4 y0 hz) else (if y0 = (0 : Int32) then (xhv (f_Book_fault P hz (4 : Int32) x2) fun g6 => f_Book_two_77 P x1 x3 x4 y0 g6) else (f_Book_two_77 P x1 x3 x4 y0 hz))
def f_Book_two_58 (P : Nat) (x1 : Int32) (x2 : Int32) (x3 : Int32) (x4 : Int32) (x5 : Int32) (hz : mv_H) : Option (Int32 × mv_H) := f_Book_two_59 P x1 x2 x3 x4 x5 (0 : Int32) hz
def f_Book_two_54 (P : Nat) (x1 : Int32) (x2 : Int32) (x3 : Int32) (x4 : Int32) (x5 : Int32) (hz : mv_H) : Option (Int32 × mv_H) := f_Book_two_59 P x1 x2 x3 x4 x5 (1 : Int32) hz
def f_Book_two_24 (P : Nat) (x1 : Int32) (x2 : Int32) (x3 : Int32) (x4 : Int32) (y0 : Int32) (hz : mv_H) : Option (Int32 × mv_H) := if y0 = (0 : Int32) then (f_Book_two_58 P x1 x2 x3 x4 y0 hz) else (xhb (f_Book_shifts hz x1) fun u9 g8 => if u9 = (0 : Int32) then (bif xvi x3 33000 then bif xvi x4 33000 then if (mv_a g8 (P + 23) (x3).toNatClampNeg) = (mv_a g8 (P + 23) (x4).toNatClampNeg) then (f_Book_two_54 P x1 x2 x3 x4 y0 g8) else (f_Book_two_58 P x1 x2 x3 x4 y0 g8) else none else none) else (f_Book_two_54 P x1 x2 x3 x4 y0 g8))
def f_Book_two_23 (P : Nat) (x1 : Int32) (x2 : Int32) (x3 : Int32) (x4 : Int32) (hz : mv_H) : Option (Int32 × mv_H) := f_Book_two_24 P x1 x2 x3 x4 (0 : Int32) hz
def f_Book_two (P : Nat) (h : mv_H) (a0 : Int32) (a1 : Int32) (a2 : Int32) (a3 : Int32) : Option (Int32 × mv_H) := bif xvi a2 33000 then if (mv_a h (P + 23) (a2).toNatClampNeg) ≤ (0 : Int32) then (f_Book_two_23 P a0 a1 a2 a3 h) else (bif xvi a3 33000 then if (mv_a h (P + 23) (a3).toNatClampNeg) ≤ (0 : Int32) then (f_Book_two_23 P a0 a1 a2 a3 h) else (f_Book_two_24 P a0 a1 a2 a3 (1 : Int32) h) else none) else none
set_option maxHeartbeats 4000000 in
set_option maxRecDepth 100000 in
theorem ch_Book_two_x (l : Launch) {dA : FieldType → ClassId} {D : va_G} {al : Nat → Nat} {ext : mv_Sh} {sk sv : Nat → Nat} (hi : mv_inj (mg dA D al ext)) (h : mv_H) (hb : Br 74 (mv_r h))  (a0 : Int32) (a1 : Int32) (a2 : Int32) (a3 : Int32) {rv : Int32} {rg : mv_H} (hf : f_Book_two 74 h a0 a1 a2 a3 = some (rv, rg)) : mv_C l y_Book_two (Cond.code y_Book_two b_Book_two 8 (Option.some Jvm.ClassFile.FieldType.int) :: ma) ({ frames := 1, cells := 0, slots := 0, locals := 26 }) (mg dA D al ext) (mK sk sv) [.ref (al 74), .int a0, .int a1, .int a2, .int a3] h (mv_Ri (fun v σ1 => rv = v ∧ rg = σ1 ∧ mv_r σ1 = mv_r h)) := by
  refine mv_C.ofV (cc := b_Book_two) (nL := 8) (ret := (Option.some Jvm.ClassFile.FieldType.int)) (by decide +kernel) rfl hi (Nat.le_of_ble_eq_true rfl) ?_
  intro p e s m below meth c B hNs hr hnm hno
  have jn110 : ∀ (y0 : Int32) (y1 : Int32) (y2 : Int32) (y3 : Int32) (y4 : Int32) (hz : mv_H), mv_r hz = mv_r h → f_Book_two_110 74 y0 y1 y2 y3 y4 hz = some (rv, rg) → mv_V p l e ({ frames := 1, cells := 0, slots := 0, locals := 26 }) s m ([.ref (al 74), .int a0, .int a1, .int a2, .int a3] : List Value).toArray below meth c (mg dA D al ext) 8 0 0 (mv_Q (mg dA D al ext) below s 0 0 (mv_Ri (fun v σ1 => rv = v ∧ rg = σ1 ∧ mv_r σ1 = mv_r h))) hz 110 [] [.int y0, .int y1, .int y2, .int y3, .int y4, .ref (al 74)] := by
    intro y0 y1 y2 y3 y4 hz r_hz hf
    unfold f_Book_two_110 at hf
    obtain ⟨u2, g1, eg1, hf⟩ := xhb_e hf
    refine mv_callVi (pc := 110) (n := 5) (ci := 12) (C := R_Book) B (mK_ok sk sv) hNs rfl rfl (ch_Book_node_x l hi _ (xrw r_hz hb) _ _ _ _ _ eg1) rfl (ma_goodc kc_Book_node) (B.2.2.2.1 _ k_2269) (B.2.2.2.1 _ k_2271) (B.2.2.2.1 _ ks_110) (B.2.2.2.1 _ k_13) ⟨by decide +kernel, by decide +kernel, by decide +kernel⟩ rfl d_Book_two_110 rfl (Nat.le_of_ble_eq_true rfl) ⟨by decide, by decide⟩ ⟨by decide, by decide⟩ ⟨by decide, by decide⟩ (mv_noH hno _) (fun w110 σ110 h110 => ?_)
    obtain ⟨rfl, rfl, s_g1⟩ := h110
    have r_g1 : mv_r g1 = mv_r h := s_g1.trans r_hz
    refine mv_istore (pc := 113) B d_Book_two_113 (by decide) rfl ?_
    refine mv_iload (pc := 115) B d_Book_two_115 0 rfl ?_
    exact mv_iret (pc := 117) B hr rfl d_Book_two_117 (Nat.le_refl _) (Nat.le_refl _) ⟨_, rfl, xrh_i hf r_g1⟩
  have jn77 : ∀ (x1 : Int32) (x3 : Int32) (x4 : Int32) (x6 : Int32) (hz : mv_H), mv_r hz = mv_r h → f_Book_two_77 74 x1 x3 x4 x6 hz = some (rv, rg) → mv_V p l e ({ frames := 1, cells := 0, slots := 0, locals := 26 }) s m ([.ref (al 74), .int a0, .int a1, .int a2, .int a3] : List Value).toArray below meth c (mg dA D al ext) 8 0 0 (mv_Q (mg dA D al ext) below s 0 0 (mv_Ri (fun v σ1 => rv = v ∧ rg = σ1 ∧ mv_r σ1 = mv_r h))) hz 77 [(0, .ref (al 74)), (1, .int x1), (3, .int x3), (4, .int x4), (6, .int x6)] [] := by
    intro x1 x3 x4 x6 hz r_hz hf
    unfold f_Book_two_77 at hf
    refine mv_aload_n (pc := 77) B d_Book_two_77 rfl 0 rfl ?_
    refine mv_bipush (pc := 78) (v := 7) B d_Book_two_78 (by decide) ?_
    refine mv_iload_n (pc := 80) B d_Book_two_80 rfl 2 rfl ?_
    refine mv_iload (pc := 81) B d_Book_two_81 3 rfl ?_
    refine mv_iload_n (pc := 83) B d_Book_two_83 rfl 1 rfl ?_
    refine mv_iload (pc := 84) B d_Book_two_84 4 rfl ?_
    refine mv_if_ne (pc := 86) (tgt := 93) B d_Book_two_86 rfl (fun h86 => ?_) (fun h86 => ?_)
    · skip
      have hf := xif_f h86 hf
      refine mv_iload_n (pc := 93) B d_Book_two_93 rfl 1 rfl ?_
      obtain ⟨u4, g3, eg3, hf⟩ := xhb_e hf
      refine mv_callSi (pc := 94) (n := 1) B (mK_ok sk sv) hNs (ch_Book_asks l hi _ _ eg3) rfl (ma_goodc kc_Book_asks) (B.2.2.2.1 _ k_2295) (B.2.2.2.1 _ k_2296) (B.2.2.2.1 _ k_13) ⟨by decide +kernel, by decide +kernel, by decide +kernel⟩ rfl d_Book_two_94 rfl (Nat.le_of_ble_eq_true rfl) ⟨by decide, by decide⟩ ⟨by decide, by decide⟩ ⟨by decide, by decide⟩ (mv_noH hno _) (fun w94 σ94 h94 => ?_)
      obtain ⟨rfl, rfl, s_g3⟩ := h94
      have r_g3 : mv_r g3 = mv_r h := s_g3.trans r_hz
      refine mv_if_eq (pc := 97) (tgt := 104) B d_Book_two_97 rfl (fun h97 => ?_) (fun h97 => ?_)
      · skip
        have hf := xif_t h97 hf
        refine mv_aload_n (pc := 104) B d_Book_two_104 rfl 0 rfl ?_
        refine mv_getR (pc := 105) (ci := 12) (C := R_Book) (T := F_Book) (N := 65) B 45 rfl rfl (by decide) i_Book (B.2.2.2.1 _ k_1894) rfl ((congrFun (congrFun r_g3 74) 45).trans (hb.1 74 45 _ rfl)) d_Book_two_105 ?_
        refine mv_iload_n (pc := 108) B d_Book_two_108 rfl 2 rfl ?_
        obtain ⟨q5, hf⟩ := xvi_e hf
        refine mv_iald (pc := 109) B rfl q5 d_Book_two_109 ?_
        refine mv_lpick [] rfl ?_
        exact jn110 _ _ _ _ _ _ r_g3 hf
      · skip
        have hf := xif_f h97 hf
        refine mv_iconst (pc := 100) (v := 1) B d_Book_two_100 (by decide) ?_
        refine mv_goto (pc := 101) (tgt := 110) B d_Book_two_101 rfl ?_
        refine mv_lpick [] rfl ?_
        exact jn110 _ _ _ _ _ _ r_g3 hf
    · skip
      have hf := xif_t h86 hf
      refine mv_iconst (pc := 89) (v := 0) B d_Book_two_89 (by decide) ?_
      refine mv_goto (pc := 90) (tgt := 110) B d_Book_two_90 rfl ?_
      refine mv_lpick [] rfl ?_
      exact jn110 _ _ _ _ _ _ r_hz hf
  have jn59 : ∀ (x1 : Int32) (x2 : Int32) (x3 : Int32) (x4 : Int32) (x5 : Int32) (y0 : Int32) (hz : mv_H), mv_r hz = mv_r h → f_Book_two_59 74 x1 x2 x3 x4 x5 y0 hz = some (rv, rg) → mv_V p l e ({ frames := 1, cells := 0, slots := 0, locals := 26 }) s m ([.ref (al 74), .int a0, .int a1, .int a2, .int a3] : List Value).toArray below meth c (mg dA D al ext) 8 0 0 (mv_Q (mg dA D al ext) below s 0 0 (mv_Ri (fun v σ1 => rv = v ∧ rg = σ1 ∧ mv_r σ1 = mv_r h))) hz 59 [(0, .ref (al 74)), (1, .int x1), (2, .int x2), (3, .int x3), (4, .int x4), (5, .int x5)] [.int y0] := by
    intro x1 x2 x3 x4 x5 y0 hz r_hz hf
    unfold f_Book_two_59 at hf
    refine mv_istore (pc := 59) B d_Book_two_59 (by decide) rfl ?_
    refine mv_iload (pc := 61) B d_Book_two_61 6 rfl ?_
    refine mv_if_eq (pc := 63) (tgt := 77) B d_Book_two_63 rfl (fun h63 => ?_) (fun h63 => ?_)
    · skip
      have hf := xif_t h63 hf
      refine mv_lpick [1, 2, 4, 5, 0] rfl ?_
      exact jn77 _ _ _ _ _ r_hz hf
    · skip
      have hf := xif_f h63 hf
      refine mv_iload (pc := 66) B d_Book_two_66 0 rfl ?_
      refine mv_if_ne (pc := 68) (tgt := 77) B d_Book_two_68 rfl (fun h68 => ?_) (fun h68 => ?_)
      · skip
        have hf := xif_f h68 hf
        refine mv_lpick [1, 2, 4, 5, 0] rfl ?_
        exact jn77 _ _ _ _ _ r_hz hf
      · skip
        have hf := xif_t h68 hf
        refine mv_aload_n (pc := 71) B d_Book_two_71 rfl 1 rfl ?_
        refine mv_iconst (pc := 72) (v := 4) B d_Book_two_72 (by decide) ?_
        refine mv_iload_n (pc := 73) B d_Book_two_73 rfl 3 rfl ?_
        obtain ⟨g6, eg6, hf⟩ := xhv_e hf
        refine mv_callVv (pc := 74) (n := 2) (ci := 12) (C := R_Book) B (mK_ok sk sv) hNs rfl rfl (ch_Book_fault_x l hi _ _ _ eg6) rfl (ma_goodc kc_Book_fault) (B.2.2.2.1 _ k_2185) (B.2.2.2.1 _ k_2187) (B.2.2.2.1 _ ks_92) (B.2.2.2.1 _ k_13) ⟨by decide +kernel, by decide +kernel, by decide +kernel⟩ rfl d_Book_two_74 rfl (Nat.le_of_ble_eq_true rfl) ⟨by decide, by decide⟩ ⟨by decide, by decide⟩ ⟨by decide, by decide⟩ (mv_noH hno _) (fun σ74 h74 => ?_)
        obtain ⟨rfl, s_g6⟩ := h74
        have r_g6 : mv_r g6 = mv_r h := s_g6.trans r_hz
        refine mv_lpick [1, 2, 4, 5, 0] rfl ?_
        exact jn77 _ _ _ _ _ r_g6 hf
  have jn58 : ∀ (x1 : Int32) (x2 : Int32) (x3 : Int32) (x4 : Int32) (x5 : Int32) (hz : mv_H), mv_r hz = mv_r h → f_Book_two_58 74 x1 x2 x3 x4 x5 hz = some (rv, rg) → mv_V p l e ({ frames := 1, cells := 0, slots := 0, locals := 26 }) s m ([.ref (al 74), .int a0, .int a1, .int a2, .int a3] : List Value).toArray below meth c (mg dA D al ext) 8 0 0 (mv_Q (mg dA D al ext) below s 0 0 (mv_Ri (fun v σ1 => rv = v ∧ rg = σ1 ∧ mv_r σ1 = mv_r h))) hz 58 [(0, .ref (al 74)), (1, .int x1), (2, .int x2), (3, .int x3), (4, .int x4), (5, .int x5)] [] := by
    intro x1 x2 x3 x4 x5 hz r_hz hf
    unfold f_Book_two_58 at hf
    refine mv_iconst (pc := 58) (v := 0) B d_Book_two_58 (by decide) ?_
    refine mv_lpick [0, 1, 2, 3, 4, 5] rfl ?_
    exact jn59 _ _ _ _ _ _ _ r_hz hf
  have jn54 : ∀ (x1 : Int32) (x2 : Int32) (x3 : Int32) (x4 : Int32) (x5 : Int32) (hz : mv_H), mv_r hz = mv_r h → f_Book_two_54 74 x1 x2 x3 x4 x5 hz = some (rv, rg) → mv_V p l e ({ frames := 1, cells := 0, slots := 0, locals := 26 }) s m ([.ref (al 74), .int a0, .int a1, .int a2, .int a3] : List Value).toArray below meth c (mg dA D al ext) 8 0 0 (mv_Q (mg dA D al ext) below s 0 0 (mv_Ri (fun v σ1 => rv = v ∧ rg = σ1 ∧ mv_r σ1 = mv_r h))) hz 54 [(0, .ref (al 74)), (1, .int x1), (2, .int x2), (3, .int x3), (4, .int x4), (5, .int x5)] [] := by
    intro x1 x2 x3 x4 x5 hz r_hz hf
    unfold f_Book_two_54 at hf
    refine mv_iconst (pc := 54) (v := 1) B d_Book_two_54 (by decide) ?_
    refine mv_goto (pc := 55) (tgt := 59) B d_Book_two_55 rfl ?_
    refine mv_lpick [0, 1, 2, 3, 4, 5] rfl ?_
    exact jn59 _ _ _ _ _ _ _ r_hz hf
  have jn24 : ∀ (x1 : Int32) (x2 : Int32) (x3 : Int32) (x4 : Int32) (y0 : Int32) (hz : mv_H), mv_r hz = mv_r h → f_Book_two_24 74 x1 x2 x3 x4 y0 hz = some (rv, rg) → mv_V p l e ({ frames := 1, cells := 0, slots := 0, locals := 26 }) s m ([.ref (al 74), .int a0, .int a1, .int a2, .int a3] : List Value).toArray below meth c (mg dA D al ext) 8 0 0 (mv_Q (mg dA D al ext) below s 0 0 (mv_Ri (fun v σ1 => rv = v ∧ rg = σ1 ∧ mv_r σ1 = mv_r h))) hz 24 [(0, .ref (al 74)), (1, .int x1), (2, .int x2), (3, .int x3), (4, .int x4)] [.int y0] := by
    intro x1 x2 x3 x4 y0 hz r_hz hf
    unfold f_Book_two_24 at hf
    refine mv_istore (pc := 24) B d_Book_two_24 (by decide) rfl ?_
    refine mv_iload (pc := 26) B d_Book_two_26 0 rfl ?_
    refine mv_if_eq (pc := 28) (tgt := 58) B d_Book_two_28 rfl (fun h28 => ?_) (fun h28 => ?_)
    · skip
      have hf := xif_t h28 hf
      refine mv_lpick [1, 2, 3, 4, 5, 0] rfl ?_
      exact jn58 _ _ _ _ _ _ r_hz hf
    · skip
      have hf := xif_f h28 hf
      refine mv_iload_n (pc := 31) B d_Book_two_31 rfl 2 rfl ?_
      obtain ⟨u9, g8, eg8, hf⟩ := xhb_e hf
      refine mv_callSi (pc := 32) (n := 1) B (mK_ok sk sv) hNs (ch_Book_shifts l hi _ _ eg8) rfl (ma_goodc kc_Book_shifts) (B.2.2.2.1 _ k_2292) (B.2.2.2.1 _ k_2293) (B.2.2.2.1 _ k_13) ⟨by decide +kernel, by decide +kernel, by decide +kernel⟩ rfl d_Book_two_32 rfl (Nat.le_of_ble_eq_true rfl) ⟨by decide, by decide⟩ ⟨by decide, by decide⟩ ⟨by decide, by decide⟩ (mv_noH hno _) (fun w32 σ32 h32 => ?_)
      obtain ⟨rfl, rfl, s_g8⟩ := h32
      have r_g8 : mv_r g8 = mv_r h := s_g8.trans r_hz
      refine mv_if_ne (pc := 35) (tgt := 54) B d_Book_two_35 rfl (fun h35 => ?_) (fun h35 => ?_)
      · skip
        have hf := xif_f h35 hf
        refine mv_lpick [1, 2, 3, 4, 5, 0] rfl ?_
        exact jn54 _ _ _ _ _ _ r_g8 hf
      · skip
        have hf := xif_t h35 hf
        refine mv_aload_n (pc := 38) B d_Book_two_38 rfl 1 rfl ?_
        refine mv_getR (pc := 39) (ci := 12) (C := R_Book) (T := F_Book) (N := 65) B 45 rfl rfl (by decide) i_Book (B.2.2.2.1 _ k_1894) rfl ((congrFun (congrFun r_g8 74) 45).trans (hb.1 74 45 _ rfl)) d_Book_two_39 ?_
        refine mv_iload_n (pc := 42) B d_Book_two_42 rfl 4 rfl ?_
        obtain ⟨q10, hf⟩ := xvi_e hf
        refine mv_iald (pc := 43) B rfl q10 d_Book_two_43 ?_
        refine mv_aload_n (pc := 44) B d_Book_two_44 rfl 1 rfl ?_
        refine mv_getR (pc := 45) (ci := 12) (C := R_Book) (T := F_Book) (N := 65) B 45 rfl rfl (by decide) i_Book (B.2.2.2.1 _ k_1894) rfl ((congrFun (congrFun r_g8 74) 45).trans (hb.1 74 45 _ rfl)) d_Book_two_45 ?_
        refine mv_iload (pc := 48) B d_Book_two_48 5 rfl ?_
        obtain ⟨q11, hf⟩ := xvi_e hf
        refine mv_iald (pc := 50) B rfl q11 d_Book_two_50 ?_
        refine mv_icmp_ne (pc := 51) (tgt := 58) B d_Book_two_51 rfl (fun h51 => ?_) (fun h51 => ?_)
        · skip
          have hf := xif_f h51 hf
          refine mv_lpick [1, 2, 3, 4, 5, 0] rfl ?_
          exact jn58 _ _ _ _ _ _ r_g8 hf
        · skip
          have hf := xif_t h51 hf
          refine mv_lpick [1, 2, 3, 4, 5, 0] rfl ?_
          exact jn54 _ _ _ _ _ _ r_g8 hf
  have jn23 : ∀ (x1 : Int32) (x2 : Int32) (x3 : Int32) (x4 : Int32) (hz : mv_H), mv_r hz = mv_r h → f_Book_two_23 74 x1 x2 x3 x4 hz = some (rv, rg) → mv_V p l e ({ frames := 1, cells := 0, slots := 0, locals := 26 }) s m ([.ref (al 74), .int a0, .int a1, .int a2, .int a3] : List Value).toArray below meth c (mg dA D al ext) 8 0 0 (mv_Q (mg dA D al ext) below s 0 0 (mv_Ri (fun v σ1 => rv = v ∧ rg = σ1 ∧ mv_r σ1 = mv_r h))) hz 23 [(0, .ref (al 74)), (1, .int x1), (2, .int x2), (3, .int x3), (4, .int x4)] [] := by
    intro x1 x2 x3 x4 hz r_hz hf
    unfold f_Book_two_23 at hf
    refine mv_iconst (pc := 23) (v := 0) B d_Book_two_23 (by decide) ?_
    refine mv_lpick [0, 1, 2, 3, 4] rfl ?_
    exact jn24 _ _ _ _ _ _ r_hz hf
  unfold f_Book_two at hf
  refine mv_aload_n (pc := 0) B d_Book_two_0 rfl 0 rfl ?_
  refine mv_getR (pc := 1) (ci := 12) (C := R_Book) (T := F_Book) (N := 65) B 45 rfl rfl (by decide) i_Book (B.2.2.2.1 _ k_1894) rfl (hb.1 74 45 _ rfl) d_Book_two_1 ?_
  refine mv_iload_n (pc := 4) B d_Book_two_4 rfl 3 rfl ?_
  obtain ⟨q12, hf⟩ := xvi_e hf
  refine mv_iald (pc := 5) B rfl q12 d_Book_two_5 ?_
  refine mv_if_le (pc := 6) (tgt := 23) B d_Book_two_6 rfl (fun h6 => ?_) (fun h6 => ?_)
  · skip
    have hf := xif_t h6 hf
    refine mv_lpick [0, 1, 2, 3, 4] rfl ?_
    exact jn23 _ _ _ _ _ rfl hf
  · skip
    have hf := xif_f h6 hf
    refine mv_aload_n (pc := 9) B d_Book_two_9 rfl 0 rfl ?_
    refine mv_getR (pc := 10) (ci := 12) (C := R_Book) (T := F_Book) (N := 65) B 45 rfl rfl (by decide) i_Book (B.2.2.2.1 _ k_1894) rfl (hb.1 74 45 _ rfl) d_Book_two_10 ?_
    refine mv_iload (pc := 13) B d_Book_two_13 4 rfl ?_
    obtain ⟨q13, hf⟩ := xvi_e hf
    refine mv_iald (pc := 15) B rfl q13 d_Book_two_15 ?_
    refine mv_if_le (pc := 16) (tgt := 23) B d_Book_two_16 rfl (fun h16 => ?_) (fun h16 => ?_)
    · skip
      have hf := xif_t h16 hf
      refine mv_lpick [0, 1, 2, 3, 4] rfl ?_
      exact jn23 _ _ _ _ _ rfl hf
    · skip
      have hf := xif_f h16 hf
      refine mv_iconst (pc := 19) (v := 1) B d_Book_two_19 (by decide) ?_
      refine mv_goto (pc := 20) (tgt := 24) B d_Book_two_20 rfl ?_
      refine mv_lpick [0, 1, 2, 3, 4] rfl ?_
      exact jn24 _ _ _ _ _ _ rfl hf
set_option maxHeartbeats 4000000 in
set_option maxRecDepth 100000 in
theorem ch_Book_two_y (l : Launch) {dA : FieldType → ClassId} {D : va_G} {al : Nat → Nat} {ext : mv_Sh} {sk sv : Nat → Nat} (hi : mv_inj (mg dA D al ext)) (h : mv_H) (hb : Br 108 (mv_r h))  (a0 : Int32) (a1 : Int32) (a2 : Int32) (a3 : Int32) {rv : Int32} {rg : mv_H} (hf : f_Book_two 108 h a0 a1 a2 a3 = some (rv, rg)) : mv_C l y_Book_two (Cond.code y_Book_two b_Book_two 8 (Option.some Jvm.ClassFile.FieldType.int) :: ma) ({ frames := 1, cells := 0, slots := 0, locals := 26 }) (mg dA D al ext) (mK sk sv) [.ref (al 108), .int a0, .int a1, .int a2, .int a3] h (mv_Ri (fun v σ1 => rv = v ∧ rg = σ1 ∧ mv_r σ1 = mv_r h)) := by
  refine mv_C.ofV (cc := b_Book_two) (nL := 8) (ret := (Option.some Jvm.ClassFile.FieldType.int)) (by decide +kernel) rfl hi (Nat.le_of_ble_eq_true rfl) ?_
  intro p e s m below meth c B hNs hr hnm hno
  have jn110 : ∀ (y0 : Int32) (y1 : Int32) (y2 : Int32) (y3 : Int32) (y4 : Int32) (hz : mv_H), mv_r hz = mv_r h → f_Book_two_110 108 y0 y1 y2 y3 y4 hz = some (rv, rg) → mv_V p l e ({ frames := 1, cells := 0, slots := 0, locals := 26 }) s m ([.ref (al 108), .int a0, .int a1, .int a2, .int a3] : List Value).toArray below meth c (mg dA D al ext) 8 0 0 (mv_Q (mg dA D al ext) below s 0 0 (mv_Ri (fun v σ1 => rv = v ∧ rg = σ1 ∧ mv_r σ1 = mv_r h))) hz 110 [] [.int y0, .int y1, .int y2, .int y3, .int y4, .ref (al 108)] := by
    intro y0 y1 y2 y3 y4 hz r_hz hf
    unfold f_Book_two_110 at hf
    obtain ⟨u2, g1, eg1, hf⟩ := xhb_e hf
    refine mv_callVi (pc := 110) (n := 5) (ci := 12) (C := R_Book) B (mK_ok sk sv) hNs rfl rfl (ch_Book_node_y l hi _ (xrw r_hz hb) _ _ _ _ _ eg1) rfl (ma_goodc kc_Book_node) (B.2.2.2.1 _ k_2269) (B.2.2.2.1 _ k_2271) (B.2.2.2.1 _ ks_110) (B.2.2.2.1 _ k_13) ⟨by decide +kernel, by decide +kernel, by decide +kernel⟩ rfl d_Book_two_110 rfl (Nat.le_of_ble_eq_true rfl) ⟨by decide, by decide⟩ ⟨by decide, by decide⟩ ⟨by decide, by decide⟩ (mv_noH hno _) (fun w110 σ110 h110 => ?_)
    obtain ⟨rfl, rfl, s_g1⟩ := h110
    have r_g1 : mv_r g1 = mv_r h := s_g1.trans r_hz
    refine mv_istore (pc := 113) B d_Book_two_113 (by decide) rfl ?_
    refine mv_iload (pc := 115) B d_Book_two_115 0 rfl ?_
    exact mv_iret (pc := 117) B hr rfl d_Book_two_117 (Nat.le_refl _) (Nat.le_refl _) ⟨_, rfl, xrh_i hf r_g1⟩
  have jn77 : ∀ (x1 : Int32) (x3 : Int32) (x4 : Int32) (x6 : Int32) (hz : mv_H), mv_r hz = mv_r h → f_Book_two_77 108 x1 x3 x4 x6 hz = some (rv, rg) → mv_V p l e ({ frames := 1, cells := 0, slots := 0, locals := 26 }) s m ([.ref (al 108), .int a0, .int a1, .int a2, .int a3] : List Value).toArray below meth c (mg dA D al ext) 8 0 0 (mv_Q (mg dA D al ext) below s 0 0 (mv_Ri (fun v σ1 => rv = v ∧ rg = σ1 ∧ mv_r σ1 = mv_r h))) hz 77 [(0, .ref (al 108)), (1, .int x1), (3, .int x3), (4, .int x4), (6, .int x6)] [] := by
    intro x1 x3 x4 x6 hz r_hz hf
    unfold f_Book_two_77 at hf
    refine mv_aload_n (pc := 77) B d_Book_two_77 rfl 0 rfl ?_
    refine mv_bipush (pc := 78) (v := 7) B d_Book_two_78 (by decide) ?_
    refine mv_iload_n (pc := 80) B d_Book_two_80 rfl 2 rfl ?_
    refine mv_iload (pc := 81) B d_Book_two_81 3 rfl ?_
    refine mv_iload_n (pc := 83) B d_Book_two_83 rfl 1 rfl ?_
    refine mv_iload (pc := 84) B d_Book_two_84 4 rfl ?_
    refine mv_if_ne (pc := 86) (tgt := 93) B d_Book_two_86 rfl (fun h86 => ?_) (fun h86 => ?_)
    · skip
      have hf := xif_f h86 hf
      refine mv_iload_n (pc := 93) B d_Book_two_93 rfl 1 rfl ?_
      obtain ⟨u4, g3, eg3, hf⟩ := xhb_e hf
      refine mv_callSi (pc := 94) (n := 1) B (mK_ok sk sv) hNs (ch_Book_asks l hi _ _ eg3) rfl (ma_goodc kc_Book_asks) (B.2.2.2.1 _ k_2295) (B.2.2.2.1 _ k_2296) (B.2.2.2.1 _ k_13) ⟨by decide +kernel, by decide +kernel, by decide +kernel⟩ rfl d_Book_two_94 rfl (Nat.le_of_ble_eq_true rfl) ⟨by decide, by decide⟩ ⟨by decide, by decide⟩ ⟨by decide, by decide⟩ (mv_noH hno _) (fun w94 σ94 h94 => ?_)
      obtain ⟨rfl, rfl, s_g3⟩ := h94
      have r_g3 : mv_r g3 = mv_r h := s_g3.trans r_hz
      refine mv_if_eq (pc := 97) (tgt := 104) B d_Book_two_97 rfl (fun h97 => ?_) (fun h97 => ?_)
      · skip
        have hf := xif_t h97 hf
        refine mv_aload_n (pc := 104) B d_Book_two_104 rfl 0 rfl ?_
        refine mv_getR (pc := 105) (ci := 12) (C := R_Book) (T := F_Book) (N := 65) B 45 rfl rfl (by decide) i_Book (B.2.2.2.1 _ k_1894) rfl ((congrFun (congrFun r_g3 108) 45).trans (hb.1 108 45 _ rfl)) d_Book_two_105 ?_
        refine mv_iload_n (pc := 108) B d_Book_two_108 rfl 2 rfl ?_
        obtain ⟨q5, hf⟩ := xvi_e hf
        refine mv_iald (pc := 109) B rfl q5 d_Book_two_109 ?_
        refine mv_lpick [] rfl ?_
        exact jn110 _ _ _ _ _ _ r_g3 hf
      · skip
        have hf := xif_f h97 hf
        refine mv_iconst (pc := 100) (v := 1) B d_Book_two_100 (by decide) ?_
        refine mv_goto (pc := 101) (tgt := 110) B d_Book_two_101 rfl ?_
        refine mv_lpick [] rfl ?_
        exact jn110 _ _ _ _ _ _ r_g3 hf
    · skip
      have hf := xif_t h86 hf
      refine mv_iconst (pc := 89) (v := 0) B d_Book_two_89 (by decide) ?_
      refine mv_goto (pc := 90) (tgt := 110) B d_Book_two_90 rfl ?_
      refine mv_lpick [] rfl ?_
      exact jn110 _ _ _ _ _ _ r_hz hf
  have jn59 : ∀ (x1 : Int32) (x2 : Int32) (x3 : Int32) (x4 : Int32) (x5 : Int32) (y0 : Int32) (hz : mv_H), mv_r hz = mv_r h → f_Book_two_59 108 x1 x2 x3 x4 x5 y0 hz = some (rv, rg) → mv_V p l e ({ frames := 1, cells := 0, slots := 0, locals := 26 }) s m ([.ref (al 108), .int a0, .int a1, .int a2, .int a3] : List Value).toArray below meth c (mg dA D al ext) 8 0 0 (mv_Q (mg dA D al ext) below s 0 0 (mv_Ri (fun v σ1 => rv = v ∧ rg = σ1 ∧ mv_r σ1 = mv_r h))) hz 59 [(0, .ref (al 108)), (1, .int x1), (2, .int x2), (3, .int x3), (4, .int x4), (5, .int x5)] [.int y0] := by
    intro x1 x2 x3 x4 x5 y0 hz r_hz hf
    unfold f_Book_two_59 at hf
    refine mv_istore (pc := 59) B d_Book_two_59 (by decide) rfl ?_
    refine mv_iload (pc := 61) B d_Book_two_61 6 rfl ?_
    refine mv_if_eq (pc := 63) (tgt := 77) B d_Book_two_63 rfl (fun h63 => ?_) (fun h63 => ?_)
    · skip
      have hf := xif_t h63 hf
      refine mv_lpick [1, 2, 4, 5, 0] rfl ?_
      exact jn77 _ _ _ _ _ r_hz hf
    · skip
      have hf := xif_f h63 hf
      refine mv_iload (pc := 66) B d_Book_two_66 0 rfl ?_
      refine mv_if_ne (pc := 68) (tgt := 77) B d_Book_two_68 rfl (fun h68 => ?_) (fun h68 => ?_)
      · skip
        have hf := xif_f h68 hf
        refine mv_lpick [1, 2, 4, 5, 0] rfl ?_
        exact jn77 _ _ _ _ _ r_hz hf
      · skip
        have hf := xif_t h68 hf
        refine mv_aload_n (pc := 71) B d_Book_two_71 rfl 1 rfl ?_
        refine mv_iconst (pc := 72) (v := 4) B d_Book_two_72 (by decide) ?_
        refine mv_iload_n (pc := 73) B d_Book_two_73 rfl 3 rfl ?_
        obtain ⟨g6, eg6, hf⟩ := xhv_e hf
        refine mv_callVv (pc := 74) (n := 2) (ci := 12) (C := R_Book) B (mK_ok sk sv) hNs rfl rfl (ch_Book_fault_y l hi _ _ _ eg6) rfl (ma_goodc kc_Book_fault) (B.2.2.2.1 _ k_2185) (B.2.2.2.1 _ k_2187) (B.2.2.2.1 _ ks_92) (B.2.2.2.1 _ k_13) ⟨by decide +kernel, by decide +kernel, by decide +kernel⟩ rfl d_Book_two_74 rfl (Nat.le_of_ble_eq_true rfl) ⟨by decide, by decide⟩ ⟨by decide, by decide⟩ ⟨by decide, by decide⟩ (mv_noH hno _) (fun σ74 h74 => ?_)
        obtain ⟨rfl, s_g6⟩ := h74
        have r_g6 : mv_r g6 = mv_r h := s_g6.trans r_hz
        refine mv_lpick [1, 2, 4, 5, 0] rfl ?_
        exact jn77 _ _ _ _ _ r_g6 hf
  have jn58 : ∀ (x1 : Int32) (x2 : Int32) (x3 : Int32) (x4 : Int32) (x5 : Int32) (hz : mv_H), mv_r hz = mv_r h → f_Book_two_58 108 x1 x2 x3 x4 x5 hz = some (rv, rg) → mv_V p l e ({ frames := 1, cells := 0, slots := 0, locals := 26 }) s m ([.ref (al 108), .int a0, .int a1, .int a2, .int a3] : List Value).toArray below meth c (mg dA D al ext) 8 0 0 (mv_Q (mg dA D al ext) below s 0 0 (mv_Ri (fun v σ1 => rv = v ∧ rg = σ1 ∧ mv_r σ1 = mv_r h))) hz 58 [(0, .ref (al 108)), (1, .int x1), (2, .int x2), (3, .int x3), (4, .int x4), (5, .int x5)] [] := by
    intro x1 x2 x3 x4 x5 hz r_hz hf
    unfold f_Book_two_58 at hf
    refine mv_iconst (pc := 58) (v := 0) B d_Book_two_58 (by decide) ?_
    refine mv_lpick [0, 1, 2, 3, 4, 5] rfl ?_
    exact jn59 _ _ _ _ _ _ _ r_hz hf
  have jn54 : ∀ (x1 : Int32) (x2 : Int32) (x3 : Int32) (x4 : Int32) (x5 : Int32) (hz : mv_H), mv_r hz = mv_r h → f_Book_two_54 108 x1 x2 x3 x4 x5 hz = some (rv, rg) → mv_V p l e ({ frames := 1, cells := 0, slots := 0, locals := 26 }) s m ([.ref (al 108), .int a0, .int a1, .int a2, .int a3] : List Value).toArray below meth c (mg dA D al ext) 8 0 0 (mv_Q (mg dA D al ext) below s 0 0 (mv_Ri (fun v σ1 => rv = v ∧ rg = σ1 ∧ mv_r σ1 = mv_r h))) hz 54 [(0, .ref (al 108)), (1, .int x1), (2, .int x2), (3, .int x3), (4, .int x4), (5, .int x5)] [] := by
    intro x1 x2 x3 x4 x5 hz r_hz hf
    unfold f_Book_two_54 at hf
    refine mv_iconst (pc := 54) (v := 1) B d_Book_two_54 (by decide) ?_
    refine mv_goto (pc := 55) (tgt := 59) B d_Book_two_55 rfl ?_
    refine mv_lpick [0, 1, 2, 3, 4, 5] rfl ?_
    exact jn59 _ _ _ _ _ _ _ r_hz hf
  have jn24 : ∀ (x1 : Int32) (x2 : Int32) (x3 : Int32) (x4 : Int32) (y0 : Int32) (hz : mv_H), mv_r hz = mv_r h → f_Book_two_24 108 x1 x2 x3 x4 y0 hz = some (rv, rg) → mv_V p l e ({ frames := 1, cells := 0, slots := 0, locals := 26 }) s m ([.ref (al 108), .int a0, .int a1, .int a2, .int a3] : List Value).toArray below meth c (mg dA D al ext) 8 0 0 (mv_Q (mg dA D al ext) below s 0 0 (mv_Ri (fun v σ1 => rv = v ∧ rg = σ1 ∧ mv_r σ1 = mv_r h))) hz 24 [(0, .ref (al 108)), (1, .int x1), (2, .int x2), (3, .int x3), (4, .int x4)] [.int y0] := by
    intro x1 x2 x3 x4 y0 hz r_hz hf
    unfold f_Book_two_24 at hf
    refine mv_istore (pc := 24) B d_Book_two_24 (by decide) rfl ?_
    refine mv_iload (pc := 26) B d_Book_two_26 0 rfl ?_
    refine mv_if_eq (pc := 28) (tgt := 58) B d_Book_two_28 rfl (fun h28 => ?_) (fun h28 => ?_)
    · skip
      have hf := xif_t h28 hf
      refine mv_lpick [1, 2, 3, 4, 5, 0] rfl ?_
      exact jn58 _ _ _ _ _ _ r_hz hf
    · skip
      have hf := xif_f h28 hf
      refine mv_iload_n (pc := 31) B d_Book_two_31 rfl 2 rfl ?_
      obtain ⟨u9, g8, eg8, hf⟩ := xhb_e hf
      refine mv_callSi (pc := 32) (n := 1) B (mK_ok sk sv) hNs (ch_Book_shifts l hi _ _ eg8) rfl (ma_goodc kc_Book_shifts) (B.2.2.2.1 _ k_2292) (B.2.2.2.1 _ k_2293) (B.2.2.2.1 _ k_13) ⟨by decide +kernel, by decide +kernel, by decide +kernel⟩ rfl d_Book_two_32 rfl (Nat.le_of_ble_eq_true rfl) ⟨by decide, by decide⟩ ⟨by decide, by decide⟩ ⟨by decide, by decide⟩ (mv_noH hno _) (fun w32 σ32 h32 => ?_)
      obtain ⟨rfl, rfl, s_g8⟩ := h32
      have r_g8 : mv_r g8 = mv_r h := s_g8.trans r_hz
      refine mv_if_ne (pc := 35) (tgt := 54) B d_Book_two_35 rfl (fun h35 => ?_) (fun h35 => ?_)
      · skip
        have hf := xif_f h35 hf
        refine mv_lpick [1, 2, 3, 4, 5, 0] rfl ?_
        exact jn54 _ _ _ _ _ _ r_g8 hf
      · skip
        have hf := xif_t h35 hf
        refine mv_aload_n (pc := 38) B d_Book_two_38 rfl 1 rfl ?_
        refine mv_getR (pc := 39) (ci := 12) (C := R_Book) (T := F_Book) (N := 65) B 45 rfl rfl (by decide) i_Book (B.2.2.2.1 _ k_1894) rfl ((congrFun (congrFun r_g8 108) 45).trans (hb.1 108 45 _ rfl)) d_Book_two_39 ?_
        refine mv_iload_n (pc := 42) B d_Book_two_42 rfl 4 rfl ?_
        obtain ⟨q10, hf⟩ := xvi_e hf
        refine mv_iald (pc := 43) B rfl q10 d_Book_two_43 ?_
        refine mv_aload_n (pc := 44) B d_Book_two_44 rfl 1 rfl ?_
        refine mv_getR (pc := 45) (ci := 12) (C := R_Book) (T := F_Book) (N := 65) B 45 rfl rfl (by decide) i_Book (B.2.2.2.1 _ k_1894) rfl ((congrFun (congrFun r_g8 108) 45).trans (hb.1 108 45 _ rfl)) d_Book_two_45 ?_
        refine mv_iload (pc := 48) B d_Book_two_48 5 rfl ?_
        obtain ⟨q11, hf⟩ := xvi_e hf
        refine mv_iald (pc := 50) B rfl q11 d_Book_two_50 ?_
        refine mv_icmp_ne (pc := 51) (tgt := 58) B d_Book_two_51 rfl (fun h51 => ?_) (fun h51 => ?_)
        · skip
          have hf := xif_f h51 hf
          refine mv_lpick [1, 2, 3, 4, 5, 0] rfl ?_
          exact jn58 _ _ _ _ _ _ r_g8 hf
        · skip
          have hf := xif_t h51 hf
          refine mv_lpick [1, 2, 3, 4, 5, 0] rfl ?_
          exact jn54 _ _ _ _ _ _ r_g8 hf
  have jn23 : ∀ (x1 : Int32) (x2 : Int32) (x3 : Int32) (x4 : Int32) (hz : mv_H), mv_r hz = mv_r h → f_Book_two_23 108 x1 x2 x3 x4 hz = some (rv, rg) → mv_V p l e ({ frames := 1, cells := 0, slots := 0, locals := 26 }) s m ([.ref (al 108), .int a0, .int a1, .int a2, .int a3] : List Value).toArray below meth c (mg dA D al ext) 8 0 0 (mv_Q (mg dA D al ext) below s 0 0 (mv_Ri (fun v σ1 => rv = v ∧ rg = σ1 ∧ mv_r σ1 = mv_r h))) hz 23 [(0, .ref (al 108)), (1, .int x1), (2, .int x2), (3, .int x3), (4, .int x4)] [] := by
    intro x1 x2 x3 x4 hz r_hz hf
    unfold f_Book_two_23 at hf
    refine mv_iconst (pc := 23) (v := 0) B d_Book_two_23 (by decide) ?_
    refine mv_lpick [0, 1, 2, 3, 4] rfl ?_
    exact jn24 _ _ _ _ _ _ r_hz hf
  unfold f_Book_two at hf
  refine mv_aload_n (pc := 0) B d_Book_two_0 rfl 0 rfl ?_
  refine mv_getR (pc := 1) (ci := 12) (C := R_Book) (T := F_Book) (N := 65) B 45 rfl rfl (by decide) i_Book (B.2.2.2.1 _ k_1894) rfl (hb.1 108 45 _ rfl) d_Book_two_1 ?_
  refine mv_iload_n (pc := 4) B d_Book_two_4 rfl 3 rfl ?_
  obtain ⟨q12, hf⟩ := xvi_e hf
  refine mv_iald (pc := 5) B rfl q12 d_Book_two_5 ?_
  refine mv_if_le (pc := 6) (tgt := 23) B d_Book_two_6 rfl (fun h6 => ?_) (fun h6 => ?_)
  · skip
    have hf := xif_t h6 hf
    refine mv_lpick [0, 1, 2, 3, 4] rfl ?_
    exact jn23 _ _ _ _ _ rfl hf
  · skip
    have hf := xif_f h6 hf
    refine mv_aload_n (pc := 9) B d_Book_two_9 rfl 0 rfl ?_
    refine mv_getR (pc := 10) (ci := 12) (C := R_Book) (T := F_Book) (N := 65) B 45 rfl rfl (by decide) i_Book (B.2.2.2.1 _ k_1894) rfl (hb.1 108 45 _ rfl) d_Book_two_10 ?_
    refine mv_iload (pc := 13) B d_Book_two_13 4 rfl ?_
    obtain ⟨q13, hf⟩ := xvi_e hf
    refine mv_iald (pc := 15) B rfl q13 d_Book_two_15 ?_
    refine mv_if_le (pc := 16) (tgt := 23) B d_Book_two_16 rfl (fun h16 => ?_) (fun h16 => ?_)
    · skip
      have hf := xif_t h16 hf
      refine mv_lpick [0, 1, 2, 3, 4] rfl ?_
      exact jn23 _ _ _ _ _ rfl hf
    · skip
      have hf := xif_f h16 hf
      refine mv_iconst (pc := 19) (v := 1) B d_Book_two_19 (by decide) ?_
      refine mv_goto (pc := 20) (tgt := 24) B d_Book_two_20 rfl ?_
      refine mv_lpick [0, 1, 2, 3, 4] rfl ?_
      exact jn24 _ _ _ _ _ _ rfl hf
def f_Book_literal_121 (P : Nat) (x4 : Int64) (y0 : Int32) (y1 : Int32) (y2 : Int32) (y3 : Int32) (y4 : Int32) (hz : mv_H) : Option (Option Int32 × mv_H) := xhb (f_Book_node P hz y4 y3 y2 y1 y0) fun u2 g1 => bif xvi u2 33000 then xk (mv_sb g1 (P + 24) (u2).toNatClampNeg x4) fun g4 => some (some u2, g4) else none
def f_Book_literal_105 (P : Nat) (x1 : Int64) (x4 : Int64) (x8 : Int32) (hz : mv_H) : Option (Option Int32 × mv_H) := if x8 = (0 : Int32) then (f_Book_literal_121 P x4 (0 : Int32) (0 : Int32) (0 : Int32) (0 : Int32) (1 : Int32) hz) else (f_Book_literal_121 P x4 ((x1).toInt32) (0 : Int32) (0 : Int32) (0 : Int32) (1 : Int32) hz)
def f_Book_literal_86 (P : Nat) (x1 : Int64) (x4 : Int64) (x6 : Int32) (x7 : Int32) (y0 : Int32) (hz : mv_H) : Option (Option Int32 × mv_H) := if x7 = (0 : Int32) then (f_Book_literal_105 P x1 x4 y0 hz) else (if y0 = (0 : Int32) then (xhv (f_Book_fault P hz (3 : Int32) x6) fun g5 => f_Book_literal_105 P x1 x4 y0 g5) else (f_Book_literal_105 P x1 x4 y0 hz))
def f_Book_literal_85 (P : Nat) (x1 : Int64) (x4 : Int64) (x6 : Int32) (x7 : Int32) (hz : mv_H) : Option (Option Int32 × mv_H) := f_Book_literal_86 P x1 x4 x6 x7 (0 : Int32) hz
def f_Book_literal_81 (P : Nat) (x1 : Int64) (x4 : Int64) (x6 : Int32) (x7 : Int32) (hz : mv_H) : Option (Option Int32 × mv_H) := f_Book_literal_86 P x1 x4 x6 x7 (1 : Int32) hz
def f_Book_literal_58 (P : Nat) (x1 : Int64) (x4 : Int64) (x6 : Int32) (x7 : Int32) (hz : mv_H) : Option (Option Int32 × mv_H) := if x7 = (0 : Int32) then (f_Book_literal_85 P x1 x4 x6 x7 hz) else (if (lg_cmp x1 (64 : Int64)) = (0 : Int32) then (f_Book_literal_81 P x1 x4 x6 x7 hz) else (if (lg_cmp (((x4).toUInt64 >>> ((((x1).toInt32)).toInt64.toUInt64 &&& Int64.toUInt64 63)).toInt64) (0 : Int64)) = (0 : Int32) then (f_Book_literal_81 P x1 x4 x6 x7 hz) else (f_Book_literal_85 P x1 x4 x6 x7 hz)))
def f_Book_literal (P : Nat) (h : mv_H) : Option (Option Int32 × mv_H) := xtb (f_Book_pass P h) fun u8 g7 => xtb (f_Book_need P g7 (39 : Int32)) fun u10 g9 => xtb (f_Book_need P g9 (2 : Int32)) fun u12 g11 => xhb (f_Model_in g11 (mv_l h P 9) (1 : Int64) (64 : Int64)) fun u14 g13 => if u14 = (0 : Int32) then (xhv (f_Book_fault P g13 (3 : Int32) (mv_i h P 5)) fun g15 => f_Book_literal_58 P (mv_l h P 9) (mv_l g9 P 9) (mv_i g9 P 5) u14 g15) else (f_Book_literal_58 P (mv_l h P 9) (mv_l g9 P 9) (mv_i g9 P 5) u14 g13)
set_option maxHeartbeats 4000000 in
set_option maxRecDepth 100000 in
theorem ch_Book_literal_x (l : Launch) {dA : FieldType → ClassId} {D : va_G} {al : Nat → Nat} {ext : mv_Sh} {sk sv : Nat → Nat} (hi : mv_inj (mg dA D al ext)) (h : mv_H) (hb : Br 74 (mv_r h))  {rv : Option Int32} {rg : mv_H} (hf : f_Book_literal 74 h = some (rv, rg)) : mv_C l y_Book_literal (Cond.code y_Book_literal b_Book_literal 10 (Option.some Jvm.ClassFile.FieldType.int) :: ma) ({ frames := 6, cells := 0, slots := 0, locals := 126 }) (mg dA D al ext) (mK sk sv) [.ref (al 74)] h (mv_Ui (fun v σ1 => rv = some v ∧ rg = σ1 ∧ mv_r σ1 = mv_r h) ("MachineLoomModel$Book$Wrong", al 107) (fun σ1 => rv = none ∧ rg = σ1 ∧ mv_r σ1 = mv_r h)) := by
  refine mv_C.ofV (cc := b_Book_literal) (nL := 10) (ret := (Option.some Jvm.ClassFile.FieldType.int)) (by decide +kernel) rfl hi (Nat.le_of_ble_eq_true rfl) ?_
  intro p e s m below meth c B hNs hr hnm hno
  have jn121 : ∀ (x4 : Int64) (y0 : Int32) (y1 : Int32) (y2 : Int32) (y3 : Int32) (y4 : Int32) (hz : mv_H), mv_r hz = mv_r h → f_Book_literal_121 74 x4 y0 y1 y2 y3 y4 hz = some (rv, rg) → mv_V p l e ({ frames := 6, cells := 0, slots := 0, locals := 126 }) s m ([.ref (al 74)] : List Value).toArray below meth c (mg dA D al ext) 10 0 0 (mv_Q (mg dA D al ext) below s 0 0 (mv_Ui (fun v σ1 => rv = some v ∧ rg = σ1 ∧ mv_r σ1 = mv_r h) ("MachineLoomModel$Book$Wrong", al 107) (fun σ1 => rv = none ∧ rg = σ1 ∧ mv_r σ1 = mv_r h))) hz 121 [(0, .ref (al 74)), (4, .long x4)] [.int y0, .int y1, .int y2, .int y3, .int y4, .ref (al 74)] := by
    intro x4 y0 y1 y2 y3 y4 hz r_hz hf
    unfold f_Book_literal_121 at hf
    obtain ⟨u2, g1, eg1, hf⟩ := xhb_e hf
    refine mv_callVi (pc := 121) (n := 5) (ci := 12) (C := R_Book) B (mK_ok sk sv) hNs rfl rfl (ch_Book_node_x l hi _ (xrw r_hz hb) _ _ _ _ _ eg1) rfl (ma_goodc kc_Book_node) (B.2.2.2.1 _ k_2269) (B.2.2.2.1 _ k_2271) (B.2.2.2.1 _ ks_110) (B.2.2.2.1 _ k_13) ⟨by decide +kernel, by decide +kernel, by decide +kernel⟩ rfl d_Book_literal_121 rfl (Nat.le_of_ble_eq_true rfl) ⟨by decide, by decide⟩ ⟨by decide, by decide⟩ ⟨by decide, by decide⟩ (mv_noH hno _) (fun w121 σ121 h121 => ?_)
    obtain ⟨rfl, rfl, s_g1⟩ := h121
    have r_g1 : mv_r g1 = mv_r h := s_g1.trans r_hz
    refine mv_istore (pc := 124) B d_Book_literal_124 (by decide) rfl ?_
    refine mv_aload_n (pc := 126) B d_Book_literal_126 rfl 1 rfl ?_
    refine mv_getR (pc := 127) (ci := 12) (C := R_Book) (T := F_Book) (N := 65) B 46 rfl rfl (by decide) i_Book (B.2.2.2.1 _ k_1895) rfl ((congrFun (congrFun r_g1 74) 46).trans (hb.1 74 46 _ rfl)) d_Book_literal_127 ?_
    refine mv_iload (pc := 130) B d_Book_literal_130 0 rfl ?_
    refine mv_lload (pc := 132) B d_Book_literal_132 2 rfl ?_
    obtain ⟨q3, hf⟩ := xvi_e hf
    refine mv_last (pc := 134) B rfl q3 d_Book_literal_134 ?_
    refine mvh_hp (R9 := mv_r h) hf r_g1 (fun g4 hf r_g4 => ?_)
    refine mv_iload (pc := 135) B d_Book_literal_135 0 rfl ?_
    exact mv_iret (pc := 137) B hr rfl d_Book_literal_137 (Nat.le_refl _) (Nat.le_refl _) (Or.inl ⟨_, rfl, xrt_i hf r_g4⟩)
  have jn105 : ∀ (x1 : Int64) (x4 : Int64) (x8 : Int32) (hz : mv_H), mv_r hz = mv_r h → f_Book_literal_105 74 x1 x4 x8 hz = some (rv, rg) → mv_V p l e ({ frames := 6, cells := 0, slots := 0, locals := 126 }) s m ([.ref (al 74)] : List Value).toArray below meth c (mg dA D al ext) 10 0 0 (mv_Q (mg dA D al ext) below s 0 0 (mv_Ui (fun v σ1 => rv = some v ∧ rg = σ1 ∧ mv_r σ1 = mv_r h) ("MachineLoomModel$Book$Wrong", al 107) (fun σ1 => rv = none ∧ rg = σ1 ∧ mv_r σ1 = mv_r h))) hz 105 [(0, .ref (al 74)), (1, .long x1), (4, .long x4), (8, .int x8)] [] := by
    intro x1 x4 x8 hz r_hz hf
    unfold f_Book_literal_105 at hf
    refine mv_aload_n (pc := 105) B d_Book_literal_105 rfl 0 rfl ?_
    refine mv_iconst (pc := 106) (v := 1) B d_Book_literal_106 (by decide) ?_
    refine mv_iconst (pc := 107) (v := 0) B d_Book_literal_107 (by decide) ?_
    refine mv_iconst (pc := 108) (v := 0) B d_Book_literal_108 (by decide) ?_
    refine mv_iconst (pc := 109) (v := 0) B d_Book_literal_109 (by decide) ?_
    refine mv_iload (pc := 110) B d_Book_literal_110 3 rfl ?_
    refine mv_if_eq (pc := 112) (tgt := 120) B d_Book_literal_112 rfl (fun h112 => ?_) (fun h112 => ?_)
    · skip
      have hf := xif_t h112 hf
      refine mv_iconst (pc := 120) (v := 0) B d_Book_literal_120 (by decide) ?_
      refine mv_lpick [0, 2] rfl ?_
      exact jn121 _ _ _ _ _ _ _ r_hz hf
    · skip
      have hf := xif_f h112 hf
      refine mv_lload_n (pc := 115) B d_Book_literal_115 rfl 1 rfl ?_
      refine mv_l2i (pc := 116) B d_Book_literal_116 ?_
      refine mv_goto (pc := 117) (tgt := 121) B d_Book_literal_117 rfl ?_
      refine mv_lpick [0, 2] rfl ?_
      exact jn121 _ _ _ _ _ _ _ r_hz hf
  have jn86 : ∀ (x1 : Int64) (x4 : Int64) (x6 : Int32) (x7 : Int32) (y0 : Int32) (hz : mv_H), mv_r hz = mv_r h → f_Book_literal_86 74 x1 x4 x6 x7 y0 hz = some (rv, rg) → mv_V p l e ({ frames := 6, cells := 0, slots := 0, locals := 126 }) s m ([.ref (al 74)] : List Value).toArray below meth c (mg dA D al ext) 10 0 0 (mv_Q (mg dA D al ext) below s 0 0 (mv_Ui (fun v σ1 => rv = some v ∧ rg = σ1 ∧ mv_r σ1 = mv_r h) ("MachineLoomModel$Book$Wrong", al 107) (fun σ1 => rv = none ∧ rg = σ1 ∧ mv_r σ1 = mv_r h))) hz 86 [(0, .ref (al 74)), (1, .long x1), (4, .long x4), (6, .int x6), (7, .int x7)] [.int y0] := by
    intro x1 x4 x6 x7 y0 hz r_hz hf
    unfold f_Book_literal_86 at hf
    refine mv_istore (pc := 86) B d_Book_literal_86 (by decide) rfl ?_
    refine mv_iload (pc := 88) B d_Book_literal_88 5 rfl ?_
    refine mv_if_eq (pc := 90) (tgt := 105) B d_Book_literal_90 rfl (fun h90 => ?_) (fun h90 => ?_)
    · skip
      have hf := xif_t h90 hf
      refine mv_lpick [1, 2, 3, 0] rfl ?_
      exact jn105 _ _ _ _ r_hz hf
    · skip
      have hf := xif_f h90 hf
      refine mv_iload (pc := 93) B d_Book_literal_93 0 rfl ?_
      refine mv_if_ne (pc := 95) (tgt := 105) B d_Book_literal_95 rfl (fun h95 => ?_) (fun h95 => ?_)
      · skip
        have hf := xif_f h95 hf
        refine mv_lpick [1, 2, 3, 0] rfl ?_
        exact jn105 _ _ _ _ r_hz hf
      · skip
        have hf := xif_t h95 hf
        refine mv_aload_n (pc := 98) B d_Book_literal_98 rfl 1 rfl ?_
        refine mv_iconst (pc := 99) (v := 3) B d_Book_literal_99 (by decide) ?_
        refine mv_iload (pc := 100) B d_Book_literal_100 4 rfl ?_
        obtain ⟨g5, eg5, hf⟩ := xhv_e hf
        refine mv_callVv (pc := 102) (n := 2) (ci := 12) (C := R_Book) B (mK_ok sk sv) hNs rfl rfl (ch_Book_fault_x l hi _ _ _ eg5) rfl (ma_goodc kc_Book_fault) (B.2.2.2.1 _ k_2185) (B.2.2.2.1 _ k_2187) (B.2.2.2.1 _ ks_92) (B.2.2.2.1 _ k_13) ⟨by decide +kernel, by decide +kernel, by decide +kernel⟩ rfl d_Book_literal_102 rfl (Nat.le_of_ble_eq_true rfl) ⟨by decide, by decide⟩ ⟨by decide, by decide⟩ ⟨by decide, by decide⟩ (mv_noH hno _) (fun σ102 h102 => ?_)
        obtain ⟨rfl, s_g5⟩ := h102
        have r_g5 : mv_r g5 = mv_r h := s_g5.trans r_hz
        refine mv_lpick [1, 2, 3, 0] rfl ?_
        exact jn105 _ _ _ _ r_g5 hf
  have jn85 : ∀ (x1 : Int64) (x4 : Int64) (x6 : Int32) (x7 : Int32) (hz : mv_H), mv_r hz = mv_r h → f_Book_literal_85 74 x1 x4 x6 x7 hz = some (rv, rg) → mv_V p l e ({ frames := 6, cells := 0, slots := 0, locals := 126 }) s m ([.ref (al 74)] : List Value).toArray below meth c (mg dA D al ext) 10 0 0 (mv_Q (mg dA D al ext) below s 0 0 (mv_Ui (fun v σ1 => rv = some v ∧ rg = σ1 ∧ mv_r σ1 = mv_r h) ("MachineLoomModel$Book$Wrong", al 107) (fun σ1 => rv = none ∧ rg = σ1 ∧ mv_r σ1 = mv_r h))) hz 85 [(0, .ref (al 74)), (1, .long x1), (4, .long x4), (6, .int x6), (7, .int x7)] [] := by
    intro x1 x4 x6 x7 hz r_hz hf
    unfold f_Book_literal_85 at hf
    refine mv_iconst (pc := 85) (v := 0) B d_Book_literal_85 (by decide) ?_
    refine mv_lpick [0, 1, 2, 3, 4] rfl ?_
    exact jn86 _ _ _ _ _ _ r_hz hf
  have jn81 : ∀ (x1 : Int64) (x4 : Int64) (x6 : Int32) (x7 : Int32) (hz : mv_H), mv_r hz = mv_r h → f_Book_literal_81 74 x1 x4 x6 x7 hz = some (rv, rg) → mv_V p l e ({ frames := 6, cells := 0, slots := 0, locals := 126 }) s m ([.ref (al 74)] : List Value).toArray below meth c (mg dA D al ext) 10 0 0 (mv_Q (mg dA D al ext) below s 0 0 (mv_Ui (fun v σ1 => rv = some v ∧ rg = σ1 ∧ mv_r σ1 = mv_r h) ("MachineLoomModel$Book$Wrong", al 107) (fun σ1 => rv = none ∧ rg = σ1 ∧ mv_r σ1 = mv_r h))) hz 81 [(0, .ref (al 74)), (1, .long x1), (4, .long x4), (6, .int x6), (7, .int x7)] [] := by
    intro x1 x4 x6 x7 hz r_hz hf
    unfold f_Book_literal_81 at hf
    refine mv_iconst (pc := 81) (v := 1) B d_Book_literal_81 (by decide) ?_
    refine mv_goto (pc := 82) (tgt := 86) B d_Book_literal_82 rfl ?_
    refine mv_lpick [0, 1, 2, 3, 4] rfl ?_
    exact jn86 _ _ _ _ _ _ r_hz hf
  have jn58 : ∀ (x1 : Int64) (x4 : Int64) (x6 : Int32) (x7 : Int32) (hz : mv_H), mv_r hz = mv_r h → f_Book_literal_58 74 x1 x4 x6 x7 hz = some (rv, rg) → mv_V p l e ({ frames := 6, cells := 0, slots := 0, locals := 126 }) s m ([.ref (al 74)] : List Value).toArray below meth c (mg dA D al ext) 10 0 0 (mv_Q (mg dA D al ext) below s 0 0 (mv_Ui (fun v σ1 => rv = some v ∧ rg = σ1 ∧ mv_r σ1 = mv_r h) ("MachineLoomModel$Book$Wrong", al 107) (fun σ1 => rv = none ∧ rg = σ1 ∧ mv_r σ1 = mv_r h))) hz 58 [(0, .ref (al 74)), (1, .long x1), (4, .long x4), (6, .int x6), (7, .int x7)] [] := by
    intro x1 x4 x6 x7 hz r_hz hf
    unfold f_Book_literal_58 at hf
    refine mv_iload (pc := 58) B d_Book_literal_58 4 rfl ?_
    refine mv_if_eq (pc := 60) (tgt := 85) B d_Book_literal_60 rfl (fun h60 => ?_) (fun h60 => ?_)
    · skip
      have hf := xif_t h60 hf
      refine mv_lpick [0, 1, 2, 3, 4] rfl ?_
      exact jn85 _ _ _ _ _ r_hz hf
    · skip
      have hf := xif_f h60 hf
      refine mv_lload_n (pc := 63) B d_Book_literal_63 rfl 1 rfl ?_
      refine mv_ldc2 (pc := 64) (v := 64) B (B.2.2.2.1 _ k_2184) d_Book_literal_64 ?_
      refine mv_lcmp (pc := 67) B d_Book_literal_67 ?_
      refine mv_if_eq (pc := 68) (tgt := 81) B d_Book_literal_68 rfl (fun h68 => ?_) (fun h68 => ?_)
      · skip
        have hf := xif_t h68 hf
        refine mv_lpick [0, 1, 2, 3, 4] rfl ?_
        exact jn81 _ _ _ _ _ r_hz hf
      · skip
        have hf := xif_f h68 hf
        refine mv_lload (pc := 71) B d_Book_literal_71 2 rfl ?_
        refine mv_lload_n (pc := 73) B d_Book_literal_73 rfl 1 rfl ?_
        refine mv_l2i (pc := 74) B d_Book_literal_74 ?_
        refine mv_lushr (pc := 75) B d_Book_literal_75 ?_
        refine mv_lconst (pc := 76) (v := 0) B d_Book_literal_76 (by decide) ?_
        refine mv_lcmp (pc := 77) B d_Book_literal_77 ?_
        refine mv_if_ne (pc := 78) (tgt := 85) B d_Book_literal_78 rfl (fun h78 => ?_) (fun h78 => ?_)
        · skip
          have hf := xif_f h78 hf
          refine mv_lpick [0, 1, 2, 3, 4] rfl ?_
          exact jn85 _ _ _ _ _ r_hz hf
        · skip
          have hf := xif_t h78 hf
          refine mv_lpick [0, 1, 2, 3, 4] rfl ?_
          exact jn81 _ _ _ _ _ r_hz hf
  unfold f_Book_literal at hf
  refine mv_aload_n (pc := 0) B d_Book_literal_0 rfl 0 rfl ?_
  refine mv_getL (pc := 1) (ci := 12) (C := R_Book) (T := F_Book) (N := 65) B 9 rfl rfl (by decide) i_Book (B.2.2.2.1 _ k_1852) rfl d_Book_literal_1 ?_
  refine mv_lstore_n (pc := 4) B d_Book_literal_4 rfl (by decide) rfl ?_
  refine mv_aload_n (pc := 5) B d_Book_literal_5 rfl 1 rfl ?_
  refine mv_getI (pc := 6) (ci := 12) (C := R_Book) (T := F_Book) (N := 65) B 5 rfl rfl (by decide) i_Book (B.2.2.2.1 _ k_1848) rfl d_Book_literal_6 ?_
  refine mv_istore_n (pc := 9) B d_Book_literal_9 rfl (by decide) rfl ?_
  refine mv_aload_n (pc := 10) B d_Book_literal_10 rfl 2 rfl ?_
  obtain ⟨og7, g7, eg7, hf⟩ := xtb_e hf
  refine mv_callVUv (pc := 11) (n := 0) (ci := 12) (C := R_Book) B (mK_ok sk sv) hNs rfl rfl (ch_Book_pass_x l hi _ (hb) eg7) rfl (ma_goodc kc_Book_pass) (B.2.2.2.1 _ k_2173) (B.2.2.2.1 _ k_2175) (B.2.2.2.1 _ ks_90) (B.2.2.2.1 _ k_13) ⟨by decide +kernel, by decide +kernel, by decide +kernel⟩ rfl d_Book_literal_11 rfl (Nat.le_of_ble_eq_true rfl) ⟨by decide, by decide⟩ ⟨by decide, by decide⟩ ⟨by decide, by decide⟩ (mv_noH hno _) (fun τ9 g9 => Or.inr ⟨rfl, xth hf g9 rfl⟩) (fun σ11 h11 => ?_)
  obtain ⟨rfl, rfl, s_g7⟩ := h11
  have hf := xt2_s hf
  have r_g7 : mv_r g7 = mv_r h := s_g7.trans rfl
  refine mv_aload_n (pc := 14) B d_Book_literal_14 rfl 2 rfl ?_
  refine mv_bipush (pc := 15) (v := 39) B d_Book_literal_15 (by decide) ?_
  obtain ⟨og9, g9, eg9, hf⟩ := xtb_e hf
  refine mv_callVUv (pc := 17) (n := 1) (ci := 12) (C := R_Book) B (mK_ok sk sv) hNs rfl rfl (ch_Book_need_x l hi _ (xrw r_g7 hb) _ eg9) rfl (ma_goodc kc_Book_need) (B.2.2.2.1 _ k_2177) (B.2.2.2.1 _ k_2179) (B.2.2.2.1 _ ks_91) (B.2.2.2.1 _ k_13) ⟨by decide +kernel, by decide +kernel, by decide +kernel⟩ rfl d_Book_literal_17 rfl (Nat.le_of_ble_eq_true rfl) ⟨by decide, by decide⟩ ⟨by decide, by decide⟩ ⟨by decide, by decide⟩ (mv_noH hno _) (fun τ9 g9 => Or.inr ⟨rfl, xth hf g9 r_g7⟩) (fun σ17 h17 => ?_)
  obtain ⟨rfl, rfl, s_g9⟩ := h17
  have hf := xt2_s hf
  have r_g9 : mv_r g9 = mv_r h := s_g9.trans r_g7
  refine mv_aload_n (pc := 20) B d_Book_literal_20 rfl 2 rfl ?_
  refine mv_getL (pc := 21) (ci := 12) (C := R_Book) (T := F_Book) (N := 65) B 9 rfl rfl (by decide) i_Book (B.2.2.2.1 _ k_1852) rfl d_Book_literal_21 ?_
  refine mv_lstore (pc := 24) B d_Book_literal_24 (by decide) rfl ?_
  refine mv_aload_n (pc := 26) B d_Book_literal_26 rfl 3 rfl ?_
  refine mv_getI (pc := 27) (ci := 12) (C := R_Book) (T := F_Book) (N := 65) B 5 rfl rfl (by decide) i_Book (B.2.2.2.1 _ k_1848) rfl d_Book_literal_27 ?_
  refine mv_istore (pc := 30) B d_Book_literal_30 (by decide) rfl ?_
  refine mv_aload_n (pc := 32) B d_Book_literal_32 rfl 4 rfl ?_
  refine mv_iconst (pc := 33) (v := 2) B d_Book_literal_33 (by decide) ?_
  obtain ⟨og11, g11, eg11, hf⟩ := xtb_e hf
  refine mv_callVUv (pc := 34) (n := 1) (ci := 12) (C := R_Book) B (mK_ok sk sv) hNs rfl rfl (ch_Book_need_x l hi _ (xrw r_g9 hb) _ eg11) rfl (ma_goodc kc_Book_need) (B.2.2.2.1 _ k_2177) (B.2.2.2.1 _ k_2179) (B.2.2.2.1 _ ks_91) (B.2.2.2.1 _ k_13) ⟨by decide +kernel, by decide +kernel, by decide +kernel⟩ rfl d_Book_literal_34 rfl (Nat.le_of_ble_eq_true rfl) ⟨by decide, by decide⟩ ⟨by decide, by decide⟩ ⟨by decide, by decide⟩ (mv_noH hno _) (fun τ9 g9 => Or.inr ⟨rfl, xth hf g9 r_g9⟩) (fun σ34 h34 => ?_)
  obtain ⟨rfl, rfl, s_g11⟩ := h34
  have hf := xt2_s hf
  have r_g11 : mv_r g11 = mv_r h := s_g11.trans r_g9
  refine mv_lload_n (pc := 37) B d_Book_literal_37 rfl 3 rfl ?_
  refine mv_lconst (pc := 38) (v := 1) B d_Book_literal_38 (by decide) ?_
  refine mv_ldc2 (pc := 39) (v := 64) B (B.2.2.2.1 _ k_2184) d_Book_literal_39 ?_
  obtain ⟨u14, g13, eg13, hf⟩ := xhb_e hf
  refine mv_callSNi (pc := 42) (n := 3) B (mK_ok sk sv) hNs (ch_Model_in l hi _ _ _ _ eg13) rfl (ma_goodc kc_Model_in) (va_Nw.use rfl (hNs.1 _ (List.mem_of_getElem? (i := 7) rfl))) (B.2.2.2.1 _ k_2208) (B.2.2.2.1 _ k_12) ⟨by decide +kernel, by decide +kernel, by decide +kernel⟩ rfl d_Book_literal_42 rfl (Nat.le_of_ble_eq_true rfl) ⟨by decide, by decide⟩ ⟨by decide, by decide⟩ ⟨by decide, by decide⟩ (mv_noH hno _) (fun w42 σ42 h42 => ?_)
  obtain ⟨rfl, rfl, s_g13⟩ := h42
  have r_g13 : mv_r g13 = mv_r h := s_g13.trans r_g11
  refine mv_istore (pc := 45) B d_Book_literal_45 (by decide) rfl ?_
  refine mv_iload (pc := 47) B d_Book_literal_47 0 rfl ?_
  refine mv_if_ne (pc := 49) (tgt := 58) B d_Book_literal_49 rfl (fun h49 => ?_) (fun h49 => ?_)
  · skip
    have hf := xif_f h49 hf
    refine mv_lpick [5, 4, 2, 1, 0] rfl ?_
    exact jn58 _ _ _ _ _ r_g13 hf
  · skip
    have hf := xif_t h49 hf
    refine mv_aload_n (pc := 52) B d_Book_literal_52 rfl 5 rfl ?_
    refine mv_iconst (pc := 53) (v := 3) B d_Book_literal_53 (by decide) ?_
    refine mv_iload_n (pc := 54) B d_Book_literal_54 rfl 3 rfl ?_
    obtain ⟨g15, eg15, hf⟩ := xhv_e hf
    refine mv_callVv (pc := 55) (n := 2) (ci := 12) (C := R_Book) B (mK_ok sk sv) hNs rfl rfl (ch_Book_fault_x l hi _ _ _ eg15) rfl (ma_goodc kc_Book_fault) (B.2.2.2.1 _ k_2185) (B.2.2.2.1 _ k_2187) (B.2.2.2.1 _ ks_92) (B.2.2.2.1 _ k_13) ⟨by decide +kernel, by decide +kernel, by decide +kernel⟩ rfl d_Book_literal_55 rfl (Nat.le_of_ble_eq_true rfl) ⟨by decide, by decide⟩ ⟨by decide, by decide⟩ ⟨by decide, by decide⟩ (mv_noH hno _) (fun σ55 h55 => ?_)
    obtain ⟨rfl, s_g15⟩ := h55
    have r_g15 : mv_r g15 = mv_r h := s_g15.trans r_g13
    refine mv_lpick [5, 4, 2, 1, 0] rfl ?_
    exact jn58 _ _ _ _ _ r_g15 hf
set_option maxHeartbeats 4000000 in
set_option maxRecDepth 100000 in
theorem ch_Book_literal_y (l : Launch) {dA : FieldType → ClassId} {D : va_G} {al : Nat → Nat} {ext : mv_Sh} {sk sv : Nat → Nat} (hi : mv_inj (mg dA D al ext)) (h : mv_H) (hb : Br 108 (mv_r h))  {rv : Option Int32} {rg : mv_H} (hf : f_Book_literal 108 h = some (rv, rg)) : mv_C l y_Book_literal (Cond.code y_Book_literal b_Book_literal 10 (Option.some Jvm.ClassFile.FieldType.int) :: ma) ({ frames := 6, cells := 0, slots := 0, locals := 126 }) (mg dA D al ext) (mK sk sv) [.ref (al 108)] h (mv_Ui (fun v σ1 => rv = some v ∧ rg = σ1 ∧ mv_r σ1 = mv_r h) ("MachineLoomModel$Book$Wrong", al 141) (fun σ1 => rv = none ∧ rg = σ1 ∧ mv_r σ1 = mv_r h)) := by
  refine mv_C.ofV (cc := b_Book_literal) (nL := 10) (ret := (Option.some Jvm.ClassFile.FieldType.int)) (by decide +kernel) rfl hi (Nat.le_of_ble_eq_true rfl) ?_
  intro p e s m below meth c B hNs hr hnm hno
  have jn121 : ∀ (x4 : Int64) (y0 : Int32) (y1 : Int32) (y2 : Int32) (y3 : Int32) (y4 : Int32) (hz : mv_H), mv_r hz = mv_r h → f_Book_literal_121 108 x4 y0 y1 y2 y3 y4 hz = some (rv, rg) → mv_V p l e ({ frames := 6, cells := 0, slots := 0, locals := 126 }) s m ([.ref (al 108)] : List Value).toArray below meth c (mg dA D al ext) 10 0 0 (mv_Q (mg dA D al ext) below s 0 0 (mv_Ui (fun v σ1 => rv = some v ∧ rg = σ1 ∧ mv_r σ1 = mv_r h) ("MachineLoomModel$Book$Wrong", al 141) (fun σ1 => rv = none ∧ rg = σ1 ∧ mv_r σ1 = mv_r h))) hz 121 [(0, .ref (al 108)), (4, .long x4)] [.int y0, .int y1, .int y2, .int y3, .int y4, .ref (al 108)] := by
    intro x4 y0 y1 y2 y3 y4 hz r_hz hf
    unfold f_Book_literal_121 at hf
    obtain ⟨u2, g1, eg1, hf⟩ := xhb_e hf
    refine mv_callVi (pc := 121) (n := 5) (ci := 12) (C := R_Book) B (mK_ok sk sv) hNs rfl rfl (ch_Book_node_y l hi _ (xrw r_hz hb) _ _ _ _ _ eg1) rfl (ma_goodc kc_Book_node) (B.2.2.2.1 _ k_2269) (B.2.2.2.1 _ k_2271) (B.2.2.2.1 _ ks_110) (B.2.2.2.1 _ k_13) ⟨by decide +kernel, by decide +kernel, by decide +kernel⟩ rfl d_Book_literal_121 rfl (Nat.le_of_ble_eq_true rfl) ⟨by decide, by decide⟩ ⟨by decide, by decide⟩ ⟨by decide, by decide⟩ (mv_noH hno _) (fun w121 σ121 h121 => ?_)
    obtain ⟨rfl, rfl, s_g1⟩ := h121
    have r_g1 : mv_r g1 = mv_r h := s_g1.trans r_hz
    refine mv_istore (pc := 124) B d_Book_literal_124 (by decide) rfl ?_
    refine mv_aload_n (pc := 126) B d_Book_literal_126 rfl 1 rfl ?_
    refine mv_getR (pc := 127) (ci := 12) (C := R_Book) (T := F_Book) (N := 65) B 46 rfl rfl (by decide) i_Book (B.2.2.2.1 _ k_1895) rfl ((congrFun (congrFun r_g1 108) 46).trans (hb.1 108 46 _ rfl)) d_Book_literal_127 ?_
    refine mv_iload (pc := 130) B d_Book_literal_130 0 rfl ?_
    refine mv_lload (pc := 132) B d_Book_literal_132 2 rfl ?_
    obtain ⟨q3, hf⟩ := xvi_e hf
    refine mv_last (pc := 134) B rfl q3 d_Book_literal_134 ?_
    refine mvh_hp (R9 := mv_r h) hf r_g1 (fun g4 hf r_g4 => ?_)
    refine mv_iload (pc := 135) B d_Book_literal_135 0 rfl ?_
    exact mv_iret (pc := 137) B hr rfl d_Book_literal_137 (Nat.le_refl _) (Nat.le_refl _) (Or.inl ⟨_, rfl, xrt_i hf r_g4⟩)
  have jn105 : ∀ (x1 : Int64) (x4 : Int64) (x8 : Int32) (hz : mv_H), mv_r hz = mv_r h → f_Book_literal_105 108 x1 x4 x8 hz = some (rv, rg) → mv_V p l e ({ frames := 6, cells := 0, slots := 0, locals := 126 }) s m ([.ref (al 108)] : List Value).toArray below meth c (mg dA D al ext) 10 0 0 (mv_Q (mg dA D al ext) below s 0 0 (mv_Ui (fun v σ1 => rv = some v ∧ rg = σ1 ∧ mv_r σ1 = mv_r h) ("MachineLoomModel$Book$Wrong", al 141) (fun σ1 => rv = none ∧ rg = σ1 ∧ mv_r σ1 = mv_r h))) hz 105 [(0, .ref (al 108)), (1, .long x1), (4, .long x4), (8, .int x8)] [] := by
    intro x1 x4 x8 hz r_hz hf
    unfold f_Book_literal_105 at hf
    refine mv_aload_n (pc := 105) B d_Book_literal_105 rfl 0 rfl ?_
    refine mv_iconst (pc := 106) (v := 1) B d_Book_literal_106 (by decide) ?_
    refine mv_iconst (pc := 107) (v := 0) B d_Book_literal_107 (by decide) ?_
    refine mv_iconst (pc := 108) (v := 0) B d_Book_literal_108 (by decide) ?_
    refine mv_iconst (pc := 109) (v := 0) B d_Book_literal_109 (by decide) ?_
    refine mv_iload (pc := 110) B d_Book_literal_110 3 rfl ?_
    refine mv_if_eq (pc := 112) (tgt := 120) B d_Book_literal_112 rfl (fun h112 => ?_) (fun h112 => ?_)
    · skip
      have hf := xif_t h112 hf
      refine mv_iconst (pc := 120) (v := 0) B d_Book_literal_120 (by decide) ?_
      refine mv_lpick [0, 2] rfl ?_
      exact jn121 _ _ _ _ _ _ _ r_hz hf
    · skip
      have hf := xif_f h112 hf
      refine mv_lload_n (pc := 115) B d_Book_literal_115 rfl 1 rfl ?_
      refine mv_l2i (pc := 116) B d_Book_literal_116 ?_
      refine mv_goto (pc := 117) (tgt := 121) B d_Book_literal_117 rfl ?_
      refine mv_lpick [0, 2] rfl ?_
      exact jn121 _ _ _ _ _ _ _ r_hz hf
  have jn86 : ∀ (x1 : Int64) (x4 : Int64) (x6 : Int32) (x7 : Int32) (y0 : Int32) (hz : mv_H), mv_r hz = mv_r h → f_Book_literal_86 108 x1 x4 x6 x7 y0 hz = some (rv, rg) → mv_V p l e ({ frames := 6, cells := 0, slots := 0, locals := 126 }) s m ([.ref (al 108)] : List Value).toArray below meth c (mg dA D al ext) 10 0 0 (mv_Q (mg dA D al ext) below s 0 0 (mv_Ui (fun v σ1 => rv = some v ∧ rg = σ1 ∧ mv_r σ1 = mv_r h) ("MachineLoomModel$Book$Wrong", al 141) (fun σ1 => rv = none ∧ rg = σ1 ∧ mv_r σ1 = mv_r h))) hz 86 [(0, .ref (al 108)), (1, .long x1), (4, .long x4), (6, .int x6), (7, .int x7)] [.int y0] := by
    intro x1 x4 x6 x7 y0 hz r_hz hf
    unfold f_Book_literal_86 at hf
    refine mv_istore (pc := 86) B d_Book_literal_86 (by decide) rfl ?_
    refine mv_iload (pc := 88) B d_Book_literal_88 5 rfl ?_
    refine mv_if_eq (pc := 90) (tgt := 105) B d_Book_literal_90 rfl (fun h90 => ?_) (fun h90 => ?_)
    · skip
      have hf := xif_t h90 hf
      refine mv_lpick [1, 2, 3, 0] rfl ?_
      exact jn105 _ _ _ _ r_hz hf
    · skip
      have hf := xif_f h90 hf
      refine mv_iload (pc := 93) B d_Book_literal_93 0 rfl ?_
      refine mv_if_ne (pc := 95) (tgt := 105) B d_Book_literal_95 rfl (fun h95 => ?_) (fun h95 => ?_)
      · skip
        have hf := xif_f h95 hf
        refine mv_lpick [1, 2, 3, 0] rfl ?_
        exact jn105 _ _ _ _ r_hz hf
      · skip
        have hf := xif_t h95 hf
        refine mv_aload_n (pc := 98) B d_Book_literal_98 rfl 1 rfl ?_
        refine mv_iconst (pc := 99) (v := 3) B d_Book_literal_99 (by decide) ?_
        refine mv_iload (pc := 100) B d_Book_literal_100 4 rfl ?_
        obtain ⟨g5, eg5, hf⟩ := xhv_e hf
        refine mv_callVv (pc := 102) (n := 2) (ci := 12) (C := R_Book) B (mK_ok sk sv) hNs rfl rfl (ch_Book_fault_y l hi _ _ _ eg5) rfl (ma_goodc kc_Book_fault) (B.2.2.2.1 _ k_2185) (B.2.2.2.1 _ k_2187) (B.2.2.2.1 _ ks_92) (B.2.2.2.1 _ k_13) ⟨by decide +kernel, by decide +kernel, by decide +kernel⟩ rfl d_Book_literal_102 rfl (Nat.le_of_ble_eq_true rfl) ⟨by decide, by decide⟩ ⟨by decide, by decide⟩ ⟨by decide, by decide⟩ (mv_noH hno _) (fun σ102 h102 => ?_)
        obtain ⟨rfl, s_g5⟩ := h102
        have r_g5 : mv_r g5 = mv_r h := s_g5.trans r_hz
        refine mv_lpick [1, 2, 3, 0] rfl ?_
        exact jn105 _ _ _ _ r_g5 hf
  have jn85 : ∀ (x1 : Int64) (x4 : Int64) (x6 : Int32) (x7 : Int32) (hz : mv_H), mv_r hz = mv_r h → f_Book_literal_85 108 x1 x4 x6 x7 hz = some (rv, rg) → mv_V p l e ({ frames := 6, cells := 0, slots := 0, locals := 126 }) s m ([.ref (al 108)] : List Value).toArray below meth c (mg dA D al ext) 10 0 0 (mv_Q (mg dA D al ext) below s 0 0 (mv_Ui (fun v σ1 => rv = some v ∧ rg = σ1 ∧ mv_r σ1 = mv_r h) ("MachineLoomModel$Book$Wrong", al 141) (fun σ1 => rv = none ∧ rg = σ1 ∧ mv_r σ1 = mv_r h))) hz 85 [(0, .ref (al 108)), (1, .long x1), (4, .long x4), (6, .int x6), (7, .int x7)] [] := by
    intro x1 x4 x6 x7 hz r_hz hf
    unfold f_Book_literal_85 at hf
    refine mv_iconst (pc := 85) (v := 0) B d_Book_literal_85 (by decide) ?_
    refine mv_lpick [0, 1, 2, 3, 4] rfl ?_
    exact jn86 _ _ _ _ _ _ r_hz hf
  have jn81 : ∀ (x1 : Int64) (x4 : Int64) (x6 : Int32) (x7 : Int32) (hz : mv_H), mv_r hz = mv_r h → f_Book_literal_81 108 x1 x4 x6 x7 hz = some (rv, rg) → mv_V p l e ({ frames := 6, cells := 0, slots := 0, locals := 126 }) s m ([.ref (al 108)] : List Value).toArray below meth c (mg dA D al ext) 10 0 0 (mv_Q (mg dA D al ext) below s 0 0 (mv_Ui (fun v σ1 => rv = some v ∧ rg = σ1 ∧ mv_r σ1 = mv_r h) ("MachineLoomModel$Book$Wrong", al 141) (fun σ1 => rv = none ∧ rg = σ1 ∧ mv_r σ1 = mv_r h))) hz 81 [(0, .ref (al 108)), (1, .long x1), (4, .long x4), (6, .int x6), (7, .int x7)] [] := by
    intro x1 x4 x6 x7 hz r_hz hf
    unfold f_Book_literal_81 at hf
    refine mv_iconst (pc := 81) (v := 1) B d_Book_literal_81 (by decide) ?_
    refine mv_goto (pc := 82) (tgt := 86) B d_Book_literal_82 rfl ?_
    refine mv_lpick [0, 1, 2, 3, 4] rfl ?_
    exact jn86 _ _ _ _ _ _ r_hz hf
  have jn58 : ∀ (x1 : Int64) (x4 : Int64) (x6 : Int32) (x7 : Int32) (hz : mv_H), mv_r hz = mv_r h → f_Book_literal_58 108 x1 x4 x6 x7 hz = some (rv, rg) → mv_V p l e ({ frames := 6, cells := 0, slots := 0, locals := 126 }) s m ([.ref (al 108)] : List Value).toArray below meth c (mg dA D al ext) 10 0 0 (mv_Q (mg dA D al ext) below s 0 0 (mv_Ui (fun v σ1 => rv = some v ∧ rg = σ1 ∧ mv_r σ1 = mv_r h) ("MachineLoomModel$Book$Wrong", al 141) (fun σ1 => rv = none ∧ rg = σ1 ∧ mv_r σ1 = mv_r h))) hz 58 [(0, .ref (al 108)), (1, .long x1), (4, .long x4), (6, .int x6), (7, .int x7)] [] := by
    intro x1 x4 x6 x7 hz r_hz hf
    unfold f_Book_literal_58 at hf
    refine mv_iload (pc := 58) B d_Book_literal_58 4 rfl ?_
    refine mv_if_eq (pc := 60) (tgt := 85) B d_Book_literal_60 rfl (fun h60 => ?_) (fun h60 => ?_)
    · skip
      have hf := xif_t h60 hf
      refine mv_lpick [0, 1, 2, 3, 4] rfl ?_
      exact jn85 _ _ _ _ _ r_hz hf
    · skip
      have hf := xif_f h60 hf
      refine mv_lload_n (pc := 63) B d_Book_literal_63 rfl 1 rfl ?_
      refine mv_ldc2 (pc := 64) (v := 64) B (B.2.2.2.1 _ k_2184) d_Book_literal_64 ?_
      refine mv_lcmp (pc := 67) B d_Book_literal_67 ?_
      refine mv_if_eq (pc := 68) (tgt := 81) B d_Book_literal_68 rfl (fun h68 => ?_) (fun h68 => ?_)
      · skip
        have hf := xif_t h68 hf
        refine mv_lpick [0, 1, 2, 3, 4] rfl ?_
        exact jn81 _ _ _ _ _ r_hz hf
      · skip
        have hf := xif_f h68 hf
        refine mv_lload (pc := 71) B d_Book_literal_71 2 rfl ?_
        refine mv_lload_n (pc := 73) B d_Book_literal_73 rfl 1 rfl ?_
        refine mv_l2i (pc := 74) B d_Book_literal_74 ?_
        refine mv_lushr (pc := 75) B d_Book_literal_75 ?_
        refine mv_lconst (pc := 76) (v := 0) B d_Book_literal_76 (by decide) ?_
        refine mv_lcmp (pc := 77) B d_Book_literal_77 ?_
        refine mv_if_ne (pc := 78) (tgt := 85) B d_Book_literal_78 rfl (fun h78 => ?_) (fun h78 => ?_)
        · skip
          have hf := xif_f h78 hf
          refine mv_lpick [0, 1, 2, 3, 4] rfl ?_
          exact jn85 _ _ _ _ _ r_hz hf
        · skip
          have hf := xif_t h78 hf
          refine mv_lpick [0, 1, 2, 3, 4] rfl ?_
          exact jn81 _ _ _ _ _ r_hz hf
  unfold f_Book_literal at hf
  refine mv_aload_n (pc := 0) B d_Book_literal_0 rfl 0 rfl ?_
  refine mv_getL (pc := 1) (ci := 12) (C := R_Book) (T := F_Book) (N := 65) B 9 rfl rfl (by decide) i_Book (B.2.2.2.1 _ k_1852) rfl d_Book_literal_1 ?_
  refine mv_lstore_n (pc := 4) B d_Book_literal_4 rfl (by decide) rfl ?_
  refine mv_aload_n (pc := 5) B d_Book_literal_5 rfl 1 rfl ?_
  refine mv_getI (pc := 6) (ci := 12) (C := R_Book) (T := F_Book) (N := 65) B 5 rfl rfl (by decide) i_Book (B.2.2.2.1 _ k_1848) rfl d_Book_literal_6 ?_
  refine mv_istore_n (pc := 9) B d_Book_literal_9 rfl (by decide) rfl ?_
  refine mv_aload_n (pc := 10) B d_Book_literal_10 rfl 2 rfl ?_
  obtain ⟨og7, g7, eg7, hf⟩ := xtb_e hf
  refine mv_callVUv (pc := 11) (n := 0) (ci := 12) (C := R_Book) B (mK_ok sk sv) hNs rfl rfl (ch_Book_pass_y l hi _ (hb) eg7) rfl (ma_goodc kc_Book_pass) (B.2.2.2.1 _ k_2173) (B.2.2.2.1 _ k_2175) (B.2.2.2.1 _ ks_90) (B.2.2.2.1 _ k_13) ⟨by decide +kernel, by decide +kernel, by decide +kernel⟩ rfl d_Book_literal_11 rfl (Nat.le_of_ble_eq_true rfl) ⟨by decide, by decide⟩ ⟨by decide, by decide⟩ ⟨by decide, by decide⟩ (mv_noH hno _) (fun τ9 g9 => Or.inr ⟨rfl, xth hf g9 rfl⟩) (fun σ11 h11 => ?_)
  obtain ⟨rfl, rfl, s_g7⟩ := h11
  have hf := xt2_s hf
  have r_g7 : mv_r g7 = mv_r h := s_g7.trans rfl
  refine mv_aload_n (pc := 14) B d_Book_literal_14 rfl 2 rfl ?_
  refine mv_bipush (pc := 15) (v := 39) B d_Book_literal_15 (by decide) ?_
  obtain ⟨og9, g9, eg9, hf⟩ := xtb_e hf
  refine mv_callVUv (pc := 17) (n := 1) (ci := 12) (C := R_Book) B (mK_ok sk sv) hNs rfl rfl (ch_Book_need_y l hi _ (xrw r_g7 hb) _ eg9) rfl (ma_goodc kc_Book_need) (B.2.2.2.1 _ k_2177) (B.2.2.2.1 _ k_2179) (B.2.2.2.1 _ ks_91) (B.2.2.2.1 _ k_13) ⟨by decide +kernel, by decide +kernel, by decide +kernel⟩ rfl d_Book_literal_17 rfl (Nat.le_of_ble_eq_true rfl) ⟨by decide, by decide⟩ ⟨by decide, by decide⟩ ⟨by decide, by decide⟩ (mv_noH hno _) (fun τ9 g9 => Or.inr ⟨rfl, xth hf g9 r_g7⟩) (fun σ17 h17 => ?_)
  obtain ⟨rfl, rfl, s_g9⟩ := h17
  have hf := xt2_s hf
  have r_g9 : mv_r g9 = mv_r h := s_g9.trans r_g7
  refine mv_aload_n (pc := 20) B d_Book_literal_20 rfl 2 rfl ?_
  refine mv_getL (pc := 21) (ci := 12) (C := R_Book) (T := F_Book) (N := 65) B 9 rfl rfl (by decide) i_Book (B.2.2.2.1 _ k_1852) rfl d_Book_literal_21 ?_
  refine mv_lstore (pc := 24) B d_Book_literal_24 (by decide) rfl ?_
  refine mv_aload_n (pc := 26) B d_Book_literal_26 rfl 3 rfl ?_
  refine mv_getI (pc := 27) (ci := 12) (C := R_Book) (T := F_Book) (N := 65) B 5 rfl rfl (by decide) i_Book (B.2.2.2.1 _ k_1848) rfl d_Book_literal_27 ?_
  refine mv_istore (pc := 30) B d_Book_literal_30 (by decide) rfl ?_
  refine mv_aload_n (pc := 32) B d_Book_literal_32 rfl 4 rfl ?_
  refine mv_iconst (pc := 33) (v := 2) B d_Book_literal_33 (by decide) ?_
  obtain ⟨og11, g11, eg11, hf⟩ := xtb_e hf
  refine mv_callVUv (pc := 34) (n := 1) (ci := 12) (C := R_Book) B (mK_ok sk sv) hNs rfl rfl (ch_Book_need_y l hi _ (xrw r_g9 hb) _ eg11) rfl (ma_goodc kc_Book_need) (B.2.2.2.1 _ k_2177) (B.2.2.2.1 _ k_2179) (B.2.2.2.1 _ ks_91) (B.2.2.2.1 _ k_13) ⟨by decide +kernel, by decide +kernel, by decide +kernel⟩ rfl d_Book_literal_34 rfl (Nat.le_of_ble_eq_true rfl) ⟨by decide, by decide⟩ ⟨by decide, by decide⟩ ⟨by decide, by decide⟩ (mv_noH hno _) (fun τ9 g9 => Or.inr ⟨rfl, xth hf g9 r_g9⟩) (fun σ34 h34 => ?_)
  obtain ⟨rfl, rfl, s_g11⟩ := h34
  have hf := xt2_s hf
  have r_g11 : mv_r g11 = mv_r h := s_g11.trans r_g9
  refine mv_lload_n (pc := 37) B d_Book_literal_37 rfl 3 rfl ?_
  refine mv_lconst (pc := 38) (v := 1) B d_Book_literal_38 (by decide) ?_
  refine mv_ldc2 (pc := 39) (v := 64) B (B.2.2.2.1 _ k_2184) d_Book_literal_39 ?_
  obtain ⟨u14, g13, eg13, hf⟩ := xhb_e hf
  refine mv_callSNi (pc := 42) (n := 3) B (mK_ok sk sv) hNs (ch_Model_in l hi _ _ _ _ eg13) rfl (ma_goodc kc_Model_in) (va_Nw.use rfl (hNs.1 _ (List.mem_of_getElem? (i := 7) rfl))) (B.2.2.2.1 _ k_2208) (B.2.2.2.1 _ k_12) ⟨by decide +kernel, by decide +kernel, by decide +kernel⟩ rfl d_Book_literal_42 rfl (Nat.le_of_ble_eq_true rfl) ⟨by decide, by decide⟩ ⟨by decide, by decide⟩ ⟨by decide, by decide⟩ (mv_noH hno _) (fun w42 σ42 h42 => ?_)
  obtain ⟨rfl, rfl, s_g13⟩ := h42
  have r_g13 : mv_r g13 = mv_r h := s_g13.trans r_g11
  refine mv_istore (pc := 45) B d_Book_literal_45 (by decide) rfl ?_
  refine mv_iload (pc := 47) B d_Book_literal_47 0 rfl ?_
  refine mv_if_ne (pc := 49) (tgt := 58) B d_Book_literal_49 rfl (fun h49 => ?_) (fun h49 => ?_)
  · skip
    have hf := xif_f h49 hf
    refine mv_lpick [5, 4, 2, 1, 0] rfl ?_
    exact jn58 _ _ _ _ _ r_g13 hf
  · skip
    have hf := xif_t h49 hf
    refine mv_aload_n (pc := 52) B d_Book_literal_52 rfl 5 rfl ?_
    refine mv_iconst (pc := 53) (v := 3) B d_Book_literal_53 (by decide) ?_
    refine mv_iload_n (pc := 54) B d_Book_literal_54 rfl 3 rfl ?_
    obtain ⟨g15, eg15, hf⟩ := xhv_e hf
    refine mv_callVv (pc := 55) (n := 2) (ci := 12) (C := R_Book) B (mK_ok sk sv) hNs rfl rfl (ch_Book_fault_y l hi _ _ _ eg15) rfl (ma_goodc kc_Book_fault) (B.2.2.2.1 _ k_2185) (B.2.2.2.1 _ k_2187) (B.2.2.2.1 _ ks_92) (B.2.2.2.1 _ k_13) ⟨by decide +kernel, by decide +kernel, by decide +kernel⟩ rfl d_Book_literal_55 rfl (Nat.le_of_ble_eq_true rfl) ⟨by decide, by decide⟩ ⟨by decide, by decide⟩ ⟨by decide, by decide⟩ (mv_noH hno _) (fun σ55 h55 => ?_)
    obtain ⟨rfl, s_g15⟩ := h55
    have r_g15 : mv_r g15 = mv_r h := s_g15.trans r_g13
    refine mv_lpick [5, 4, 2, 1, 0] rfl ?_
    exact jn58 _ _ _ _ _ r_g15 hf
def f_Book_name_15 (P : Nat) (hz : mv_H) : Option (Option Int32 × mv_H) := xk (mv_si hz (P + 33) 0 (mv_i hz P 5)) fun g1 => some (none, g1)
def f_Book_name (P : Nat) (h : mv_H) : Option (Option Int32 × mv_H) := if (mv_i h P 4) = (1 : Int32) then (xhb (f_Book_reserved P h) fun u3 g2 => if u3 = (0 : Int32) then (xk (mv_si g2 P 49 (mv_i g2 P 5)) fun g4 => xk (mv_si g4 P 50 (mv_i g4 P 6)) fun g5 => xtb (f_Book_pass P g5) fun u7 g6 => some (some 0, g6)) else (f_Book_name_15 P  g2)) else (f_Book_name_15 P  h)
set_option maxHeartbeats 4000000 in
set_option maxRecDepth 100000 in
theorem ch_Book_name_x (l : Launch) {dA : FieldType → ClassId} {D : va_G} {al : Nat → Nat} {ext : mv_Sh} {sk sv : Nat → Nat} (hi : mv_inj (mg dA D al ext)) (h : mv_H) (hb : Br 74 (mv_r h))  {rv : Option Int32} {rg : mv_H} (hf : f_Book_name 74 h = some (rv, rg)) : mv_C l y_Book_name (Cond.code y_Book_name b_Book_name 1 (Option.none : Option Jvm.ClassFile.FieldType) :: ma) ({ frames := 5, cells := 0, slots := 0, locals := 108 }) (mg dA D al ext) (mK sk sv) [.ref (al 74)] h (mv_Uv (fun σ1 => rv = some 0 ∧ rg = σ1 ∧ mv_r σ1 = mv_r h) ("MachineLoomModel$Book$Wrong", al 107) (fun σ1 => rv = none ∧ rg = σ1 ∧ mv_r σ1 = mv_r h)) := by
  refine mv_C.ofV (cc := b_Book_name) (nL := 1) (ret := (Option.none : Option Jvm.ClassFile.FieldType)) (by decide +kernel) rfl hi (Nat.le_of_ble_eq_true rfl) ?_
  intro p e s m below meth c B hNs hr hnm hno
  have jn15 : ∀ (hz : mv_H), mv_r hz = mv_r h → f_Book_name_15 74  hz = some (rv, rg) → mv_V p l e ({ frames := 5, cells := 0, slots := 0, locals := 108 }) s m ([.ref (al 74)] : List Value).toArray below meth c (mg dA D al ext) 1 0 0 (mv_Q (mg dA D al ext) below s 0 0 (mv_Uv (fun σ1 => rv = some 0 ∧ rg = σ1 ∧ mv_r σ1 = mv_r h) ("MachineLoomModel$Book$Wrong", al 107) (fun σ1 => rv = none ∧ rg = σ1 ∧ mv_r σ1 = mv_r h))) hz 15 [(0, .ref (al 74))] [] := by
    intro  hz r_hz hf
    unfold f_Book_name_15 at hf
    refine mv_aload_n (pc := 15) B d_Book_name_15 rfl 0 rfl ?_
    refine mv_aload_n (pc := 16) B d_Book_name_16 rfl 0 rfl ?_
    refine mv_getI (pc := 17) (ci := 12) (C := R_Book) (T := F_Book) (N := 65) B 5 rfl rfl (by decide) i_Book (B.2.2.2.1 _ k_1848) rfl d_Book_name_17 ?_
    refine mv_callVr (pc := 20) (n := 1) (ci := 12) (C := R_Book) B (mK_ok sk sv) hNs rfl rfl (c_Book_wrongAt_x l hi _ _ (xrw r_hz hb)) rfl (ma_goodc kc_Book_wrongAt) (B.2.2.2.1 _ k_2154) (B.2.2.2.1 _ k_2156) (B.2.2.2.1 _ ks_86) (B.2.2.2.1 _ k_13) ⟨by decide +kernel, by decide +kernel, by decide +kernel⟩ rfl d_Book_name_20 rfl (Nat.le_of_ble_eq_true rfl) ⟨by decide, by decide⟩ ⟨by decide, by decide⟩ ⟨by decide, by decide⟩ (mv_noH hno _) (fun σ20 h20 => ?_)
    obtain ⟨-, h20⟩ := h20
    subst h20
    refine mvh_hp (R9 := mv_r h) hf r_hz (fun g1 hf r_g1 => ?_)
    exact mv_athrowO (pc := 23) (o := 107) B rfl rfl (mv_noH hno _) d_Book_name_23 (Nat.le_refl _) (Nat.le_refl _) (Or.inr ⟨rfl, xrt_t hf r_g1⟩)
  unfold f_Book_name at hf
  refine mv_aload_n (pc := 0) B d_Book_name_0 rfl 0 rfl ?_
  refine mv_getI (pc := 1) (ci := 12) (C := R_Book) (T := F_Book) (N := 65) B 4 rfl rfl (by decide) i_Book (B.2.2.2.1 _ k_1847) rfl d_Book_name_1 ?_
  refine mv_iconst (pc := 4) (v := 1) B d_Book_name_4 (by decide) ?_
  refine mv_icmp_ne (pc := 5) (tgt := 15) B d_Book_name_5 rfl (fun h5 => ?_) (fun h5 => ?_)
  · skip
    have hf := xif_f h5 hf
    refine mv_lpick [0] rfl ?_
    exact jn15  _ rfl hf
  · skip
    have hf := xif_t h5 hf
    refine mv_aload_n (pc := 8) B d_Book_name_8 rfl 0 rfl ?_
    obtain ⟨u3, g2, eg2, hf⟩ := xhb_e hf
    refine mv_callVi (pc := 9) (n := 0) (ci := 12) (C := R_Book) B (mK_ok sk sv) hNs rfl rfl (ch_Book_reserved_x l hi _ (hb) eg2) rfl (ma_goodc kc_Book_reserved) (B.2.2.2.1 _ k_2198) (B.2.2.2.1 _ k_2200) (B.2.2.2.1 _ ks_95) (B.2.2.2.1 _ k_13) ⟨by decide +kernel, by decide +kernel, by decide +kernel⟩ rfl d_Book_name_9 rfl (Nat.le_of_ble_eq_true rfl) ⟨by decide, by decide⟩ ⟨by decide, by decide⟩ ⟨by decide, by decide⟩ (mv_noH hno _) (fun w9 σ9 h9 => ?_)
    obtain ⟨rfl, rfl, s_g2⟩ := h9
    have r_g2 : mv_r g2 = mv_r h := s_g2.trans rfl
    refine mv_if_eq (pc := 12) (tgt := 24) B d_Book_name_12 rfl (fun h12 => ?_) (fun h12 => ?_)
    · skip
      have hf := xif_t h12 hf
      refine mv_aload_n (pc := 24) B d_Book_name_24 rfl 0 rfl ?_
      refine mv_aload_n (pc := 25) B d_Book_name_25 rfl 0 rfl ?_
      refine mv_getI (pc := 26) (ci := 12) (C := R_Book) (T := F_Book) (N := 65) B 5 rfl rfl (by decide) i_Book (B.2.2.2.1 _ k_1848) rfl d_Book_name_26 ?_
      refine mv_putI (pc := 29) (ci := 12) (C := R_Book) (T := F_Book) (N := 65) B 49 rfl rfl (by decide) i_Book t_Book_ok n_Book (B.2.2.2.1 _ k_1898) rfl rfl rfl rfl d_Book_name_29 ?_
      refine mvh_hp (R9 := mv_r h) hf r_g2 (fun g4 hf r_g4 => ?_)
      refine mv_aload_n (pc := 32) B d_Book_name_32 rfl 0 rfl ?_
      refine mv_aload_n (pc := 33) B d_Book_name_33 rfl 0 rfl ?_
      refine mv_getI (pc := 34) (ci := 12) (C := R_Book) (T := F_Book) (N := 65) B 6 rfl rfl (by decide) i_Book (B.2.2.2.1 _ k_1849) rfl d_Book_name_34 ?_
      refine mv_putI (pc := 37) (ci := 12) (C := R_Book) (T := F_Book) (N := 65) B 50 rfl rfl (by decide) i_Book t_Book_ok n_Book (B.2.2.2.1 _ k_1899) rfl rfl rfl rfl d_Book_name_37 ?_
      refine mvh_hp (R9 := mv_r h) hf r_g4 (fun g5 hf r_g5 => ?_)
      refine mv_aload_n (pc := 40) B d_Book_name_40 rfl 0 rfl ?_
      obtain ⟨og6, g6, eg6, hf⟩ := xtb_e hf
      refine mv_callVUv (pc := 41) (n := 0) (ci := 12) (C := R_Book) B (mK_ok sk sv) hNs rfl rfl (ch_Book_pass_x l hi _ (xrw r_g5 hb) eg6) rfl (ma_goodc kc_Book_pass) (B.2.2.2.1 _ k_2173) (B.2.2.2.1 _ k_2175) (B.2.2.2.1 _ ks_90) (B.2.2.2.1 _ k_13) ⟨by decide +kernel, by decide +kernel, by decide +kernel⟩ rfl d_Book_name_41 rfl (Nat.le_of_ble_eq_true rfl) ⟨by decide, by decide⟩ ⟨by decide, by decide⟩ ⟨by decide, by decide⟩ (mv_noH hno _) (fun τ9 g9 => Or.inr ⟨rfl, xth hf g9 r_g5⟩) (fun σ41 h41 => ?_)
      obtain ⟨rfl, rfl, s_g6⟩ := h41
      have hf := xt2_s hf
      have r_g6 : mv_r g6 = mv_r h := s_g6.trans r_g5
      exact mv_vret (pc := 44) B hr d_Book_name_44 (Nat.le_refl _) (Nat.le_refl _) (Or.inl ⟨rfl, xrt_i hf r_g6⟩)
    · skip
      have hf := xif_f h12 hf
      refine mv_lpick [0] rfl ?_
      exact jn15  _ r_g2 hf
set_option maxHeartbeats 4000000 in
set_option maxRecDepth 100000 in
theorem ch_Book_name_y (l : Launch) {dA : FieldType → ClassId} {D : va_G} {al : Nat → Nat} {ext : mv_Sh} {sk sv : Nat → Nat} (hi : mv_inj (mg dA D al ext)) (h : mv_H) (hb : Br 108 (mv_r h))  {rv : Option Int32} {rg : mv_H} (hf : f_Book_name 108 h = some (rv, rg)) : mv_C l y_Book_name (Cond.code y_Book_name b_Book_name 1 (Option.none : Option Jvm.ClassFile.FieldType) :: ma) ({ frames := 5, cells := 0, slots := 0, locals := 108 }) (mg dA D al ext) (mK sk sv) [.ref (al 108)] h (mv_Uv (fun σ1 => rv = some 0 ∧ rg = σ1 ∧ mv_r σ1 = mv_r h) ("MachineLoomModel$Book$Wrong", al 141) (fun σ1 => rv = none ∧ rg = σ1 ∧ mv_r σ1 = mv_r h)) := by
  refine mv_C.ofV (cc := b_Book_name) (nL := 1) (ret := (Option.none : Option Jvm.ClassFile.FieldType)) (by decide +kernel) rfl hi (Nat.le_of_ble_eq_true rfl) ?_
  intro p e s m below meth c B hNs hr hnm hno
  have jn15 : ∀ (hz : mv_H), mv_r hz = mv_r h → f_Book_name_15 108  hz = some (rv, rg) → mv_V p l e ({ frames := 5, cells := 0, slots := 0, locals := 108 }) s m ([.ref (al 108)] : List Value).toArray below meth c (mg dA D al ext) 1 0 0 (mv_Q (mg dA D al ext) below s 0 0 (mv_Uv (fun σ1 => rv = some 0 ∧ rg = σ1 ∧ mv_r σ1 = mv_r h) ("MachineLoomModel$Book$Wrong", al 141) (fun σ1 => rv = none ∧ rg = σ1 ∧ mv_r σ1 = mv_r h))) hz 15 [(0, .ref (al 108))] [] := by
    intro  hz r_hz hf
    unfold f_Book_name_15 at hf
    refine mv_aload_n (pc := 15) B d_Book_name_15 rfl 0 rfl ?_
    refine mv_aload_n (pc := 16) B d_Book_name_16 rfl 0 rfl ?_
    refine mv_getI (pc := 17) (ci := 12) (C := R_Book) (T := F_Book) (N := 65) B 5 rfl rfl (by decide) i_Book (B.2.2.2.1 _ k_1848) rfl d_Book_name_17 ?_
    refine mv_callVr (pc := 20) (n := 1) (ci := 12) (C := R_Book) B (mK_ok sk sv) hNs rfl rfl (c_Book_wrongAt_y l hi _ _ (xrw r_hz hb)) rfl (ma_goodc kc_Book_wrongAt) (B.2.2.2.1 _ k_2154) (B.2.2.2.1 _ k_2156) (B.2.2.2.1 _ ks_86) (B.2.2.2.1 _ k_13) ⟨by decide +kernel, by decide +kernel, by decide +kernel⟩ rfl d_Book_name_20 rfl (Nat.le_of_ble_eq_true rfl) ⟨by decide, by decide⟩ ⟨by decide, by decide⟩ ⟨by decide, by decide⟩ (mv_noH hno _) (fun σ20 h20 => ?_)
    obtain ⟨-, h20⟩ := h20
    subst h20
    refine mvh_hp (R9 := mv_r h) hf r_hz (fun g1 hf r_g1 => ?_)
    exact mv_athrowO (pc := 23) (o := 141) B rfl rfl (mv_noH hno _) d_Book_name_23 (Nat.le_refl _) (Nat.le_refl _) (Or.inr ⟨rfl, xrt_t hf r_g1⟩)
  unfold f_Book_name at hf
  refine mv_aload_n (pc := 0) B d_Book_name_0 rfl 0 rfl ?_
  refine mv_getI (pc := 1) (ci := 12) (C := R_Book) (T := F_Book) (N := 65) B 4 rfl rfl (by decide) i_Book (B.2.2.2.1 _ k_1847) rfl d_Book_name_1 ?_
  refine mv_iconst (pc := 4) (v := 1) B d_Book_name_4 (by decide) ?_
  refine mv_icmp_ne (pc := 5) (tgt := 15) B d_Book_name_5 rfl (fun h5 => ?_) (fun h5 => ?_)
  · skip
    have hf := xif_f h5 hf
    refine mv_lpick [0] rfl ?_
    exact jn15  _ rfl hf
  · skip
    have hf := xif_t h5 hf
    refine mv_aload_n (pc := 8) B d_Book_name_8 rfl 0 rfl ?_
    obtain ⟨u3, g2, eg2, hf⟩ := xhb_e hf
    refine mv_callVi (pc := 9) (n := 0) (ci := 12) (C := R_Book) B (mK_ok sk sv) hNs rfl rfl (ch_Book_reserved_y l hi _ (hb) eg2) rfl (ma_goodc kc_Book_reserved) (B.2.2.2.1 _ k_2198) (B.2.2.2.1 _ k_2200) (B.2.2.2.1 _ ks_95) (B.2.2.2.1 _ k_13) ⟨by decide +kernel, by decide +kernel, by decide +kernel⟩ rfl d_Book_name_9 rfl (Nat.le_of_ble_eq_true rfl) ⟨by decide, by decide⟩ ⟨by decide, by decide⟩ ⟨by decide, by decide⟩ (mv_noH hno _) (fun w9 σ9 h9 => ?_)
    obtain ⟨rfl, rfl, s_g2⟩ := h9
    have r_g2 : mv_r g2 = mv_r h := s_g2.trans rfl
    refine mv_if_eq (pc := 12) (tgt := 24) B d_Book_name_12 rfl (fun h12 => ?_) (fun h12 => ?_)
    · skip
      have hf := xif_t h12 hf
      refine mv_aload_n (pc := 24) B d_Book_name_24 rfl 0 rfl ?_
      refine mv_aload_n (pc := 25) B d_Book_name_25 rfl 0 rfl ?_
      refine mv_getI (pc := 26) (ci := 12) (C := R_Book) (T := F_Book) (N := 65) B 5 rfl rfl (by decide) i_Book (B.2.2.2.1 _ k_1848) rfl d_Book_name_26 ?_
      refine mv_putI (pc := 29) (ci := 12) (C := R_Book) (T := F_Book) (N := 65) B 49 rfl rfl (by decide) i_Book t_Book_ok n_Book (B.2.2.2.1 _ k_1898) rfl rfl rfl rfl d_Book_name_29 ?_
      refine mvh_hp (R9 := mv_r h) hf r_g2 (fun g4 hf r_g4 => ?_)
      refine mv_aload_n (pc := 32) B d_Book_name_32 rfl 0 rfl ?_
      refine mv_aload_n (pc := 33) B d_Book_name_33 rfl 0 rfl ?_
      refine mv_getI (pc := 34) (ci := 12) (C := R_Book) (T := F_Book) (N := 65) B 6 rfl rfl (by decide) i_Book (B.2.2.2.1 _ k_1849) rfl d_Book_name_34 ?_
      refine mv_putI (pc := 37) (ci := 12) (C := R_Book) (T := F_Book) (N := 65) B 50 rfl rfl (by decide) i_Book t_Book_ok n_Book (B.2.2.2.1 _ k_1899) rfl rfl rfl rfl d_Book_name_37 ?_
      refine mvh_hp (R9 := mv_r h) hf r_g4 (fun g5 hf r_g5 => ?_)
      refine mv_aload_n (pc := 40) B d_Book_name_40 rfl 0 rfl ?_
      obtain ⟨og6, g6, eg6, hf⟩ := xtb_e hf
      refine mv_callVUv (pc := 41) (n := 0) (ci := 12) (C := R_Book) B (mK_ok sk sv) hNs rfl rfl (ch_Book_pass_y l hi _ (xrw r_g5 hb) eg6) rfl (ma_goodc kc_Book_pass) (B.2.2.2.1 _ k_2173) (B.2.2.2.1 _ k_2175) (B.2.2.2.1 _ ks_90) (B.2.2.2.1 _ k_13) ⟨by decide +kernel, by decide +kernel, by decide +kernel⟩ rfl d_Book_name_41 rfl (Nat.le_of_ble_eq_true rfl) ⟨by decide, by decide⟩ ⟨by decide, by decide⟩ ⟨by decide, by decide⟩ (mv_noH hno _) (fun τ9 g9 => Or.inr ⟨rfl, xth hf g9 r_g5⟩) (fun σ41 h41 => ?_)
      obtain ⟨rfl, rfl, s_g6⟩ := h41
      have hf := xt2_s hf
      have r_g6 : mv_r g6 = mv_r h := s_g6.trans r_g5
      exact mv_vret (pc := 44) B hr d_Book_name_44 (Nat.le_refl _) (Nat.le_refl _) (Or.inl ⟨rfl, xrt_i hf r_g6⟩)
    · skip
      have hf := xif_f h12 hf
      refine mv_lpick [0] rfl ?_
      exact jn15  _ r_g2 hf
def f_Book_ranged (P : Nat) (h : mv_H) (a0 : Int64) (a1 : Int64) : Option (Option Int32 × mv_H) := xtb (f_Book_need P h (2 : Int32)) fun u2 g1 => xhb (f_Model_in g1 (mv_l h P 9) a0 a1) fun u4 g3 => if u4 = (0 : Int32) then (xhv (f_Book_fault P g3 (3 : Int32) (mv_i h P 5)) fun g5 => some (some (-1 : Int32), g5)) else (some (some (((mv_l h P 9)).toInt32), g3))
set_option maxHeartbeats 4000000 in
set_option maxRecDepth 100000 in
theorem ch_Book_ranged_x (l : Launch) {dA : FieldType → ClassId} {D : va_G} {al : Nat → Nat} {ext : mv_Sh} {sk sv : Nat → Nat} (hi : mv_inj (mg dA D al ext)) (h : mv_H) (hb : Br 74 (mv_r h))  (a0 : Int64) (a1 : Int64) {rv : Option Int32} {rg : mv_H} (hf : f_Book_ranged 74 h a0 a1 = some (rv, rg)) : mv_C l y_Book_ranged (Cond.code y_Book_ranged b_Book_ranged 8 (Option.some Jvm.ClassFile.FieldType.int) :: ma) ({ frames := 6, cells := 0, slots := 0, locals := 126 }) (mg dA D al ext) (mK sk sv) [.ref (al 74), .long a0, .long a1] h (mv_Ui (fun v σ1 => rv = some v ∧ rg = σ1 ∧ mv_r σ1 = mv_r h) ("MachineLoomModel$Book$Wrong", al 107) (fun σ1 => rv = none ∧ rg = σ1 ∧ mv_r σ1 = mv_r h)) := by
  refine mv_C.ofV (cc := b_Book_ranged) (nL := 8) (ret := (Option.some Jvm.ClassFile.FieldType.int)) (by decide +kernel) rfl hi (Nat.le_of_ble_eq_true rfl) ?_
  intro p e s m below meth c B hNs hr hnm hno
  unfold f_Book_ranged at hf
  refine mv_aload_n (pc := 0) B d_Book_ranged_0 rfl 0 rfl ?_
  refine mv_getL (pc := 1) (ci := 12) (C := R_Book) (T := F_Book) (N := 65) B 9 rfl rfl (by decide) i_Book (B.2.2.2.1 _ k_1852) rfl d_Book_ranged_1 ?_
  refine mv_lstore (pc := 4) B d_Book_ranged_4 (by decide) rfl ?_
  refine mv_aload_n (pc := 6) B d_Book_ranged_6 rfl 1 rfl ?_
  refine mv_getI (pc := 7) (ci := 12) (C := R_Book) (T := F_Book) (N := 65) B 5 rfl rfl (by decide) i_Book (B.2.2.2.1 _ k_1848) rfl d_Book_ranged_7 ?_
  refine mv_istore (pc := 10) B d_Book_ranged_10 (by decide) rfl ?_
  refine mv_aload_n (pc := 12) B d_Book_ranged_12 rfl 2 rfl ?_
  refine mv_iconst (pc := 13) (v := 2) B d_Book_ranged_13 (by decide) ?_
  obtain ⟨og1, g1, eg1, hf⟩ := xtb_e hf
  refine mv_callVUv (pc := 14) (n := 1) (ci := 12) (C := R_Book) B (mK_ok sk sv) hNs rfl rfl (ch_Book_need_x l hi _ (hb) _ eg1) rfl (ma_goodc kc_Book_need) (B.2.2.2.1 _ k_2177) (B.2.2.2.1 _ k_2179) (B.2.2.2.1 _ ks_91) (B.2.2.2.1 _ k_13) ⟨by decide +kernel, by decide +kernel, by decide +kernel⟩ rfl d_Book_ranged_14 rfl (Nat.le_of_ble_eq_true rfl) ⟨by decide, by decide⟩ ⟨by decide, by decide⟩ ⟨by decide, by decide⟩ (mv_noH hno _) (fun τ9 g9 => Or.inr ⟨rfl, xth hf g9 rfl⟩) (fun σ14 h14 => ?_)
  obtain ⟨rfl, rfl, s_g1⟩ := h14
  have hf := xt2_s hf
  have r_g1 : mv_r g1 = mv_r h := s_g1.trans rfl
  refine mv_lload (pc := 17) B d_Book_ranged_17 1 rfl ?_
  refine mv_lload_n (pc := 19) B d_Book_ranged_19 rfl 3 rfl ?_
  refine mv_lload_n (pc := 20) B d_Book_ranged_20 rfl 4 rfl ?_
  obtain ⟨u4, g3, eg3, hf⟩ := xhb_e hf
  refine mv_callSNi (pc := 21) (n := 3) B (mK_ok sk sv) hNs (ch_Model_in l hi _ _ _ _ eg3) rfl (ma_goodc kc_Model_in) (va_Nw.use rfl (hNs.1 _ (List.mem_of_getElem? (i := 7) rfl))) (B.2.2.2.1 _ k_2208) (B.2.2.2.1 _ k_12) ⟨by decide +kernel, by decide +kernel, by decide +kernel⟩ rfl d_Book_ranged_21 rfl (Nat.le_of_ble_eq_true rfl) ⟨by decide, by decide⟩ ⟨by decide, by decide⟩ ⟨by decide, by decide⟩ (mv_noH hno _) (fun w21 σ21 h21 => ?_)
  obtain ⟨rfl, rfl, s_g3⟩ := h21
  have r_g3 : mv_r g3 = mv_r h := s_g3.trans r_g1
  refine mv_if_eq (pc := 24) (tgt := 31) B d_Book_ranged_24 rfl (fun h24 => ?_) (fun h24 => ?_)
  · skip
    have hf := xif_t h24 hf
    refine mv_aload_n (pc := 31) B d_Book_ranged_31 rfl 2 rfl ?_
    refine mv_iconst (pc := 32) (v := 3) B d_Book_ranged_32 (by decide) ?_
    refine mv_iload (pc := 33) B d_Book_ranged_33 0 rfl ?_
    obtain ⟨g5, eg5, hf⟩ := xhv_e hf
    refine mv_callVv (pc := 35) (n := 2) (ci := 12) (C := R_Book) B (mK_ok sk sv) hNs rfl rfl (ch_Book_fault_x l hi _ _ _ eg5) rfl (ma_goodc kc_Book_fault) (B.2.2.2.1 _ k_2185) (B.2.2.2.1 _ k_2187) (B.2.2.2.1 _ ks_92) (B.2.2.2.1 _ k_13) ⟨by decide +kernel, by decide +kernel, by decide +kernel⟩ rfl d_Book_ranged_35 rfl (Nat.le_of_ble_eq_true rfl) ⟨by decide, by decide⟩ ⟨by decide, by decide⟩ ⟨by decide, by decide⟩ (mv_noH hno _) (fun σ35 h35 => ?_)
    obtain ⟨rfl, s_g5⟩ := h35
    have r_g5 : mv_r g5 = mv_r h := s_g5.trans r_g3
    refine mv_iconst (pc := 38) (v := -1) B d_Book_ranged_38 (by decide) ?_
    exact mv_iret (pc := 39) B hr rfl d_Book_ranged_39 (Nat.le_refl _) (Nat.le_refl _) (Or.inl ⟨_, rfl, xrt_i hf r_g5⟩)
  · skip
    have hf := xif_f h24 hf
    refine mv_lload (pc := 27) B d_Book_ranged_27 1 rfl ?_
    refine mv_l2i (pc := 29) B d_Book_ranged_29 ?_
    exact mv_iret (pc := 30) B hr rfl d_Book_ranged_30 (Nat.le_refl _) (Nat.le_refl _) (Or.inl ⟨_, rfl, xrt_i hf r_g3⟩)
set_option maxHeartbeats 4000000 in
set_option maxRecDepth 100000 in
theorem ch_Book_ranged_y (l : Launch) {dA : FieldType → ClassId} {D : va_G} {al : Nat → Nat} {ext : mv_Sh} {sk sv : Nat → Nat} (hi : mv_inj (mg dA D al ext)) (h : mv_H) (hb : Br 108 (mv_r h))  (a0 : Int64) (a1 : Int64) {rv : Option Int32} {rg : mv_H} (hf : f_Book_ranged 108 h a0 a1 = some (rv, rg)) : mv_C l y_Book_ranged (Cond.code y_Book_ranged b_Book_ranged 8 (Option.some Jvm.ClassFile.FieldType.int) :: ma) ({ frames := 6, cells := 0, slots := 0, locals := 126 }) (mg dA D al ext) (mK sk sv) [.ref (al 108), .long a0, .long a1] h (mv_Ui (fun v σ1 => rv = some v ∧ rg = σ1 ∧ mv_r σ1 = mv_r h) ("MachineLoomModel$Book$Wrong", al 141) (fun σ1 => rv = none ∧ rg = σ1 ∧ mv_r σ1 = mv_r h)) := by
  refine mv_C.ofV (cc := b_Book_ranged) (nL := 8) (ret := (Option.some Jvm.ClassFile.FieldType.int)) (by decide +kernel) rfl hi (Nat.le_of_ble_eq_true rfl) ?_
  intro p e s m below meth c B hNs hr hnm hno
  unfold f_Book_ranged at hf
  refine mv_aload_n (pc := 0) B d_Book_ranged_0 rfl 0 rfl ?_
  refine mv_getL (pc := 1) (ci := 12) (C := R_Book) (T := F_Book) (N := 65) B 9 rfl rfl (by decide) i_Book (B.2.2.2.1 _ k_1852) rfl d_Book_ranged_1 ?_
  refine mv_lstore (pc := 4) B d_Book_ranged_4 (by decide) rfl ?_
  refine mv_aload_n (pc := 6) B d_Book_ranged_6 rfl 1 rfl ?_
  refine mv_getI (pc := 7) (ci := 12) (C := R_Book) (T := F_Book) (N := 65) B 5 rfl rfl (by decide) i_Book (B.2.2.2.1 _ k_1848) rfl d_Book_ranged_7 ?_
  refine mv_istore (pc := 10) B d_Book_ranged_10 (by decide) rfl ?_
  refine mv_aload_n (pc := 12) B d_Book_ranged_12 rfl 2 rfl ?_
  refine mv_iconst (pc := 13) (v := 2) B d_Book_ranged_13 (by decide) ?_
  obtain ⟨og1, g1, eg1, hf⟩ := xtb_e hf
  refine mv_callVUv (pc := 14) (n := 1) (ci := 12) (C := R_Book) B (mK_ok sk sv) hNs rfl rfl (ch_Book_need_y l hi _ (hb) _ eg1) rfl (ma_goodc kc_Book_need) (B.2.2.2.1 _ k_2177) (B.2.2.2.1 _ k_2179) (B.2.2.2.1 _ ks_91) (B.2.2.2.1 _ k_13) ⟨by decide +kernel, by decide +kernel, by decide +kernel⟩ rfl d_Book_ranged_14 rfl (Nat.le_of_ble_eq_true rfl) ⟨by decide, by decide⟩ ⟨by decide, by decide⟩ ⟨by decide, by decide⟩ (mv_noH hno _) (fun τ9 g9 => Or.inr ⟨rfl, xth hf g9 rfl⟩) (fun σ14 h14 => ?_)
  obtain ⟨rfl, rfl, s_g1⟩ := h14
  have hf := xt2_s hf
  have r_g1 : mv_r g1 = mv_r h := s_g1.trans rfl
  refine mv_lload (pc := 17) B d_Book_ranged_17 1 rfl ?_
  refine mv_lload_n (pc := 19) B d_Book_ranged_19 rfl 3 rfl ?_
  refine mv_lload_n (pc := 20) B d_Book_ranged_20 rfl 4 rfl ?_
  obtain ⟨u4, g3, eg3, hf⟩ := xhb_e hf
  refine mv_callSNi (pc := 21) (n := 3) B (mK_ok sk sv) hNs (ch_Model_in l hi _ _ _ _ eg3) rfl (ma_goodc kc_Model_in) (va_Nw.use rfl (hNs.1 _ (List.mem_of_getElem? (i := 7) rfl))) (B.2.2.2.1 _ k_2208) (B.2.2.2.1 _ k_12) ⟨by decide +kernel, by decide +kernel, by decide +kernel⟩ rfl d_Book_ranged_21 rfl (Nat.le_of_ble_eq_true rfl) ⟨by decide, by decide⟩ ⟨by decide, by decide⟩ ⟨by decide, by decide⟩ (mv_noH hno _) (fun w21 σ21 h21 => ?_)
  obtain ⟨rfl, rfl, s_g3⟩ := h21
  have r_g3 : mv_r g3 = mv_r h := s_g3.trans r_g1
  refine mv_if_eq (pc := 24) (tgt := 31) B d_Book_ranged_24 rfl (fun h24 => ?_) (fun h24 => ?_)
  · skip
    have hf := xif_t h24 hf
    refine mv_aload_n (pc := 31) B d_Book_ranged_31 rfl 2 rfl ?_
    refine mv_iconst (pc := 32) (v := 3) B d_Book_ranged_32 (by decide) ?_
    refine mv_iload (pc := 33) B d_Book_ranged_33 0 rfl ?_
    obtain ⟨g5, eg5, hf⟩ := xhv_e hf
    refine mv_callVv (pc := 35) (n := 2) (ci := 12) (C := R_Book) B (mK_ok sk sv) hNs rfl rfl (ch_Book_fault_y l hi _ _ _ eg5) rfl (ma_goodc kc_Book_fault) (B.2.2.2.1 _ k_2185) (B.2.2.2.1 _ k_2187) (B.2.2.2.1 _ ks_92) (B.2.2.2.1 _ k_13) ⟨by decide +kernel, by decide +kernel, by decide +kernel⟩ rfl d_Book_ranged_35 rfl (Nat.le_of_ble_eq_true rfl) ⟨by decide, by decide⟩ ⟨by decide, by decide⟩ ⟨by decide, by decide⟩ (mv_noH hno _) (fun σ35 h35 => ?_)
    obtain ⟨rfl, s_g5⟩ := h35
    have r_g5 : mv_r g5 = mv_r h := s_g5.trans r_g3
    refine mv_iconst (pc := 38) (v := -1) B d_Book_ranged_38 (by decide) ?_
    exact mv_iret (pc := 39) B hr rfl d_Book_ranged_39 (Nat.le_refl _) (Nat.le_refl _) (Or.inl ⟨_, rfl, xrt_i hf r_g5⟩)
  · skip
    have hf := xif_f h24 hf
    refine mv_lload (pc := 27) B d_Book_ranged_27 1 rfl ?_
    refine mv_l2i (pc := 29) B d_Book_ranged_29 ?_
    exact mv_iret (pc := 30) B hr rfl d_Book_ranged_30 (Nat.le_refl _) (Nat.le_refl _) (Or.inl ⟨_, rfl, xrt_i hf r_g3⟩)
def f_Book_newThing_267 (P : Nat) (hz : mv_H) : Option (Option Int32 × mv_H) := xk (mv_si hz P 17 ((mv_i hz P 17) + (1 : Int32))) fun g1 => some (some 0, g1)
def f_Book_newThing_245 (P : Nat) (x4 : Int32) (x5 : Int32) (y0 : Int32) (y1 : Int32) (hz : mv_H) : Option (Option Int32 × mv_H) := bif xvi y1 4100 then xk (mv_sa hz (P + 4) (y1).toNatClampNeg y0) fun g3 => if x5 ≤ (0 : Int32) then (f_Book_newThing_267 P  g3) else (if x4 ≤ (0 : Int32) then (f_Book_newThing_267 P  g3) else (xk (mv_si g3 P 19 ((mv_i g3 P 19) + x5)) fun g4 => f_Book_newThing_267 P  g4)) else none
def f_Book_newThing_204 (P : Nat) (x1 : Int32) (x4 : Int32) (x5 : Int32) (x6 : Int32) (y0 : Int32) (y1 : Int32) (hz : mv_H) : Option (Option Int32 × mv_H) := bif xvi y1 4100 then xk (mv_sa hz (P + 3) (y1).toNatClampNeg y0) fun g6 => bif xvi (mv_i g6 P 17) 4100 then xk (mv_sa g6 (P + 6) ((mv_i g6 P 17)).toNatClampNeg (vp_nar .boolean x1)) fun g8 => bif xvi (mv_i g8 P 17) 4100 then xk (mv_sa g8 (P + 7) ((mv_i g8 P 17)).toNatClampNeg (vp_nar .boolean x6)) fun g10 => if (0 : Int32) ≤ x5 then (f_Book_newThing_245 P x4 x5 x5 (mv_i g10 P 17) g10) else (f_Book_newThing_245 P x4 x5 (0 : Int32) (mv_i g10 P 17) g10) else none else none else none
def f_Book_newThing_165 (P : Nat) (x1 : Int32) (x2 : Int32) (x3 : Int32) (x4 : Int32) (x5 : Int32) (x6 : Int32) (hz : mv_H) : Option (Option Int32 × mv_H) := bif xvi (mv_i hz P 17) 4100 then xk (mv_sa hz (P + 1) ((mv_i hz P 17)).toNatClampNeg x2) fun g12 => bif xvi (mv_i g12 P 17) 4100 then xk (mv_sa g12 (P + 2) ((mv_i g12 P 17)).toNatClampNeg x3) fun g14 => if (0 : Int32) ≤ x4 then (f_Book_newThing_204 P x1 x4 x5 x6 x4 (mv_i g14 P 17) g14) else (f_Book_newThing_204 P x1 x4 x5 x6 (0 : Int32) (mv_i g14 P 17) g14) else none else none
def f_Book_newThing_157 (P : Nat) (x2 : Int32) (hz : mv_H) : Option (Option Int32 × mv_H) := xhv (f_Book_fault P hz (6 : Int32) x2) fun g15 => some (some 0, g15)
def f_Book_newThing_104 (P : Nat) (x1 : Int32) (x2 : Int32) (x3 : Int32) (x4 : Int32) (x5 : Int32) (x6 : Int32) (hz : mv_H) : Option (Option Int32 × mv_H) := xtb (f_Book_need P hz (59 : Int32)) fun u18 g17 => xhb (f_Book_thing P g17 x2 x3) fun u20 g19 => if u20 < (0 : Int32) then (if (64 : Int32) ≤ (mv_i g19 P 17) then (f_Book_newThing_157 P x2 g19) else (if x5 ≤ (0 : Int32) then (f_Book_newThing_165 P x1 x2 x3 x4 x5 x6 g19) else (if x4 ≤ (0 : Int32) then (f_Book_newThing_165 P x1 x2 x3 x4 x5 x6 g19) else (if ((mv_i g19 P 19) + x5) ≤ (65536 : Int32) then (f_Book_newThing_165 P x1 x2 x3 x4 x5 x6 g19) else (f_Book_newThing_157 P x2 g19))))) else (xhv (f_Book_fault P g19 (2 : Int32) x2) fun g21 => some (some 0, g21))
def f_Book_newThing (P : Nat) (h : mv_H) (a0 : Int32) : Option (Option Int32 × mv_H) := xtb (f_Book_pass P h) fun u24 g23 => xtb (f_Book_name P g23) fun u26 g25 => xtb (f_Book_need P g25 (58 : Int32)) fun u28 g27 => xtb (f_Book_ranged P g27 (1 : Int64) (64 : Int64)) fun u30 g29 => if a0 = (0 : Int32) then (f_Book_newThing_104 P a0 (mv_i g25 P 49) (mv_i g25 P 50) u30 (0 : Int32) (0 : Int32) g29) else (xtb (f_Book_need P g29 (91 : Int32)) fun u32 g31 => xk (mv_si g31 P 8 ((mv_i g31 P 8) + (1 : Int32))) fun g33 => xtb (f_Book_ranged P g33 (1 : Int64) (65536 : Int64)) fun u35 g34 => xtb (f_Book_need P g34 (93 : Int32)) fun u37 g36 => xk (mv_si g36 P 8 ((mv_i g36 P 8) - (1 : Int32))) fun g38 => xhb (f_Book_is P g38 142) fun u40 g39 => if u40 = (0 : Int32) then (f_Book_newThing_104 P a0 (mv_i g25 P 49) (mv_i g25 P 50) u30 u35 u40 g39) else (xtb (f_Book_pass P g39) fun u42 g41 => f_Book_newThing_104 P a0 (mv_i g25 P 49) (mv_i g25 P 50) u30 u35 u40 g41))
set_option maxHeartbeats 4000000 in
set_option maxRecDepth 100000 in
theorem ch_Book_newThing_x (l : Launch) {dA : FieldType → ClassId} {D : va_G} {al : Nat → Nat} {ext : mv_Sh} {sk sv : Nat → Nat} (hi : mv_inj (mg dA D al ext)) (h : mv_H) (hb : Br 74 (mv_r h))  (a0 : Int32) {rv : Option Int32} {rg : mv_H} (hf : f_Book_newThing 74 h a0 = some (rv, rg)) : mv_C l y_Book_newThing (Cond.code y_Book_newThing b_Book_newThing 7 (Option.none : Option Jvm.ClassFile.FieldType) :: ma) ({ frames := 7, cells := 0, slots := 0, locals := 153 }) (mg dA D al ext) (mK sk sv) [.ref (al 74), .int a0] h (mv_Uv (fun σ1 => rv = some 0 ∧ rg = σ1 ∧ mv_r σ1 = mv_r h) ("MachineLoomModel$Book$Wrong", al 107) (fun σ1 => rv = none ∧ rg = σ1 ∧ mv_r σ1 = mv_r h)) := by
  refine mv_C.ofV (cc := b_Book_newThing) (nL := 7) (ret := (Option.none : Option Jvm.ClassFile.FieldType)) (by decide +kernel) rfl hi (Nat.le_of_ble_eq_true rfl) ?_
  intro p e s m below meth c B hNs hr hnm hno
  have jn267 : ∀ (hz : mv_H), mv_r hz = mv_r h → f_Book_newThing_267 74  hz = some (rv, rg) → mv_V p l e ({ frames := 7, cells := 0, slots := 0, locals := 153 }) s m ([.ref (al 74), .int a0] : List Value).toArray below meth c (mg dA D al ext) 7 0 0 (mv_Q (mg dA D al ext) below s 0 0 (mv_Uv (fun σ1 => rv = some 0 ∧ rg = σ1 ∧ mv_r σ1 = mv_r h) ("MachineLoomModel$Book$Wrong", al 107) (fun σ1 => rv = none ∧ rg = σ1 ∧ mv_r σ1 = mv_r h))) hz 267 [(0, .ref (al 74))] [] := by
    intro  hz r_hz hf
    unfold f_Book_newThing_267 at hf
    refine mv_aload_n (pc := 267) B d_Book_newThing_267 rfl 0 rfl ?_
    refine mv_dup (pc := 268) B d_Book_newThing_268 rfl ?_
    refine mv_getI (pc := 269) (ci := 12) (C := R_Book) (T := F_Book) (N := 65) B 17 rfl rfl (by decide) i_Book (B.2.2.2.1 _ k_1860) rfl d_Book_newThing_269 ?_
    refine mv_iconst (pc := 272) (v := 1) B d_Book_newThing_272 (by decide) ?_
    refine mv_iadd (pc := 273) B d_Book_newThing_273 ?_
    refine mv_putI (pc := 274) (ci := 12) (C := R_Book) (T := F_Book) (N := 65) B 17 rfl rfl (by decide) i_Book t_Book_ok n_Book (B.2.2.2.1 _ k_1860) rfl rfl rfl rfl d_Book_newThing_274 ?_
    refine mvh_hp (R9 := mv_r h) hf r_hz (fun g1 hf r_g1 => ?_)
    exact mv_vret (pc := 277) B hr d_Book_newThing_277 (Nat.le_refl _) (Nat.le_refl _) (Or.inl ⟨rfl, xrt_i hf r_g1⟩)
  have jn245 : ∀ (x4 : Int32) (x5 : Int32) (y0 : Int32) (y1 : Int32) (hz : mv_H), mv_r hz = mv_r h → f_Book_newThing_245 74 x4 x5 y0 y1 hz = some (rv, rg) → mv_V p l e ({ frames := 7, cells := 0, slots := 0, locals := 153 }) s m ([.ref (al 74), .int a0] : List Value).toArray below meth c (mg dA D al ext) 7 0 0 (mv_Q (mg dA D al ext) below s 0 0 (mv_Uv (fun σ1 => rv = some 0 ∧ rg = σ1 ∧ mv_r σ1 = mv_r h) ("MachineLoomModel$Book$Wrong", al 107) (fun σ1 => rv = none ∧ rg = σ1 ∧ mv_r σ1 = mv_r h))) hz 245 [(0, .ref (al 74)), (4, .int x4), (5, .int x5)] [.int y0, .int y1, .ref (al 78)] := by
    intro x4 x5 y0 y1 hz r_hz hf
    unfold f_Book_newThing_245 at hf
    obtain ⟨q2, hf⟩ := xvi_e hf
    refine mv_iast (pc := 245) B rfl q2 d_Book_newThing_245 ?_
    refine mvh_hp (R9 := mv_r h) hf r_hz (fun g3 hf r_g3 => ?_)
    refine mv_iload (pc := 246) B d_Book_newThing_246 2 rfl ?_
    refine mv_if_le (pc := 248) (tgt := 267) B d_Book_newThing_248 rfl (fun h248 => ?_) (fun h248 => ?_)
    · skip
      have hf := xif_t h248 hf
      refine mv_lpick [0] rfl ?_
      exact jn267  _ r_g3 hf
    · skip
      have hf := xif_f h248 hf
      refine mv_iload (pc := 251) B d_Book_newThing_251 1 rfl ?_
      refine mv_if_le (pc := 253) (tgt := 267) B d_Book_newThing_253 rfl (fun h253 => ?_) (fun h253 => ?_)
      · skip
        have hf := xif_t h253 hf
        refine mv_lpick [0] rfl ?_
        exact jn267  _ r_g3 hf
      · skip
        have hf := xif_f h253 hf
        refine mv_aload_n (pc := 256) B d_Book_newThing_256 rfl 0 rfl ?_
        refine mv_dup (pc := 257) B d_Book_newThing_257 rfl ?_
        refine mv_getI (pc := 258) (ci := 12) (C := R_Book) (T := F_Book) (N := 65) B 19 rfl rfl (by decide) i_Book (B.2.2.2.1 _ k_1864) rfl d_Book_newThing_258 ?_
        refine mv_iload (pc := 261) B d_Book_newThing_261 2 rfl ?_
        refine mv_iadd (pc := 263) B d_Book_newThing_263 ?_
        refine mv_putI (pc := 264) (ci := 12) (C := R_Book) (T := F_Book) (N := 65) B 19 rfl rfl (by decide) i_Book t_Book_ok n_Book (B.2.2.2.1 _ k_1864) rfl rfl rfl rfl d_Book_newThing_264 ?_
        refine mvh_hp (R9 := mv_r h) hf r_g3 (fun g4 hf r_g4 => ?_)
        refine mv_lpick [0] rfl ?_
        exact jn267  _ r_g4 hf
  have jn204 : ∀ (x1 : Int32) (x4 : Int32) (x5 : Int32) (x6 : Int32) (y0 : Int32) (y1 : Int32) (hz : mv_H), mv_r hz = mv_r h → f_Book_newThing_204 74 x1 x4 x5 x6 y0 y1 hz = some (rv, rg) → mv_V p l e ({ frames := 7, cells := 0, slots := 0, locals := 153 }) s m ([.ref (al 74), .int a0] : List Value).toArray below meth c (mg dA D al ext) 7 0 0 (mv_Q (mg dA D al ext) below s 0 0 (mv_Uv (fun σ1 => rv = some 0 ∧ rg = σ1 ∧ mv_r σ1 = mv_r h) ("MachineLoomModel$Book$Wrong", al 107) (fun σ1 => rv = none ∧ rg = σ1 ∧ mv_r σ1 = mv_r h))) hz 204 [(0, .ref (al 74)), (1, .int x1), (4, .int x4), (5, .int x5), (6, .int x6)] [.int y0, .int y1, .ref (al 77)] := by
    intro x1 x4 x5 x6 y0 y1 hz r_hz hf
    unfold f_Book_newThing_204 at hf
    obtain ⟨q5, hf⟩ := xvi_e hf
    refine mv_iast (pc := 204) B rfl q5 d_Book_newThing_204 ?_
    refine mvh_hp (R9 := mv_r h) hf r_hz (fun g6 hf r_g6 => ?_)
    refine mv_aload_n (pc := 205) B d_Book_newThing_205 rfl 0 rfl ?_
    refine mv_getR (pc := 206) (ci := 12) (C := R_Book) (T := F_Book) (N := 65) B 15 rfl rfl (by decide) i_Book (B.2.2.2.1 _ k_1858) rfl ((congrFun (congrFun r_g6 74) 15).trans (hb.1 74 15 _ rfl)) d_Book_newThing_206 ?_
    refine mv_aload_n (pc := 209) B d_Book_newThing_209 rfl 0 rfl ?_
    refine mv_getI (pc := 210) (ci := 12) (C := R_Book) (T := F_Book) (N := 65) B 17 rfl rfl (by decide) i_Book (B.2.2.2.1 _ k_1860) rfl d_Book_newThing_210 ?_
    refine mv_iload_n (pc := 213) B d_Book_newThing_213 rfl 1 rfl ?_
    obtain ⟨q7, hf⟩ := xvi_e hf
    refine mv_zast (pc := 214) B rfl q7 d_Book_newThing_214 ?_
    refine mvh_hp (R9 := mv_r h) hf r_g6 (fun g8 hf r_g8 => ?_)
    refine mv_aload_n (pc := 215) B d_Book_newThing_215 rfl 0 rfl ?_
    refine mv_getR (pc := 216) (ci := 12) (C := R_Book) (T := F_Book) (N := 65) B 16 rfl rfl (by decide) i_Book (B.2.2.2.1 _ k_1859) rfl ((congrFun (congrFun r_g8 74) 16).trans (hb.1 74 16 _ rfl)) d_Book_newThing_216 ?_
    refine mv_aload_n (pc := 219) B d_Book_newThing_219 rfl 0 rfl ?_
    refine mv_getI (pc := 220) (ci := 12) (C := R_Book) (T := F_Book) (N := 65) B 17 rfl rfl (by decide) i_Book (B.2.2.2.1 _ k_1860) rfl d_Book_newThing_220 ?_
    refine mv_iload (pc := 223) B d_Book_newThing_223 4 rfl ?_
    obtain ⟨q9, hf⟩ := xvi_e hf
    refine mv_zast (pc := 225) B rfl q9 d_Book_newThing_225 ?_
    refine mvh_hp (R9 := mv_r h) hf r_g8 (fun g10 hf r_g10 => ?_)
    refine mv_aload_n (pc := 226) B d_Book_newThing_226 rfl 0 rfl ?_
    refine mv_getR (pc := 227) (ci := 12) (C := R_Book) (T := F_Book) (N := 65) B 13 rfl rfl (by decide) i_Book (B.2.2.2.1 _ k_1856) rfl ((congrFun (congrFun r_g10 74) 13).trans (hb.1 74 13 _ rfl)) d_Book_newThing_227 ?_
    refine mv_aload_n (pc := 230) B d_Book_newThing_230 rfl 0 rfl ?_
    refine mv_getI (pc := 231) (ci := 12) (C := R_Book) (T := F_Book) (N := 65) B 17 rfl rfl (by decide) i_Book (B.2.2.2.1 _ k_1860) rfl d_Book_newThing_231 ?_
    refine mv_iload (pc := 234) B d_Book_newThing_234 3 rfl ?_
    refine mv_if_ge (pc := 236) (tgt := 243) B d_Book_newThing_236 rfl (fun h236 => ?_) (fun h236 => ?_)
    · skip
      have hf := xif_t h236 hf
      refine mv_iload (pc := 243) B d_Book_newThing_243 3 rfl ?_
      refine mv_lpick [0, 2, 3] rfl ?_
      exact jn245 _ _ _ _ _ r_g10 hf
    · skip
      have hf := xif_f h236 hf
      refine mv_iconst (pc := 239) (v := 0) B d_Book_newThing_239 (by decide) ?_
      refine mv_goto (pc := 240) (tgt := 245) B d_Book_newThing_240 rfl ?_
      refine mv_lpick [0, 2, 3] rfl ?_
      exact jn245 _ _ _ _ _ r_g10 hf
  have jn165 : ∀ (x1 : Int32) (x2 : Int32) (x3 : Int32) (x4 : Int32) (x5 : Int32) (x6 : Int32) (hz : mv_H), mv_r hz = mv_r h → f_Book_newThing_165 74 x1 x2 x3 x4 x5 x6 hz = some (rv, rg) → mv_V p l e ({ frames := 7, cells := 0, slots := 0, locals := 153 }) s m ([.ref (al 74), .int a0] : List Value).toArray below meth c (mg dA D al ext) 7 0 0 (mv_Q (mg dA D al ext) below s 0 0 (mv_Uv (fun σ1 => rv = some 0 ∧ rg = σ1 ∧ mv_r σ1 = mv_r h) ("MachineLoomModel$Book$Wrong", al 107) (fun σ1 => rv = none ∧ rg = σ1 ∧ mv_r σ1 = mv_r h))) hz 165 [(0, .ref (al 74)), (1, .int x1), (2, .int x2), (3, .int x3), (4, .int x4), (5, .int x5), (6, .int x6)] [] := by
    intro x1 x2 x3 x4 x5 x6 hz r_hz hf
    unfold f_Book_newThing_165 at hf
    refine mv_aload_n (pc := 165) B d_Book_newThing_165 rfl 0 rfl ?_
    refine mv_getR (pc := 166) (ci := 12) (C := R_Book) (T := F_Book) (N := 65) B 10 rfl rfl (by decide) i_Book (B.2.2.2.1 _ k_1853) rfl ((congrFun (congrFun r_hz 74) 10).trans (hb.1 74 10 _ rfl)) d_Book_newThing_166 ?_
    refine mv_aload_n (pc := 169) B d_Book_newThing_169 rfl 0 rfl ?_
    refine mv_getI (pc := 170) (ci := 12) (C := R_Book) (T := F_Book) (N := 65) B 17 rfl rfl (by decide) i_Book (B.2.2.2.1 _ k_1860) rfl d_Book_newThing_170 ?_
    refine mv_iload_n (pc := 173) B d_Book_newThing_173 rfl 2 rfl ?_
    obtain ⟨q11, hf⟩ := xvi_e hf
    refine mv_iast (pc := 174) B rfl q11 d_Book_newThing_174 ?_
    refine mvh_hp (R9 := mv_r h) hf r_hz (fun g12 hf r_g12 => ?_)
    refine mv_aload_n (pc := 175) B d_Book_newThing_175 rfl 0 rfl ?_
    refine mv_getR (pc := 176) (ci := 12) (C := R_Book) (T := F_Book) (N := 65) B 11 rfl rfl (by decide) i_Book (B.2.2.2.1 _ k_1854) rfl ((congrFun (congrFun r_g12 74) 11).trans (hb.1 74 11 _ rfl)) d_Book_newThing_176 ?_
    refine mv_aload_n (pc := 179) B d_Book_newThing_179 rfl 0 rfl ?_
    refine mv_getI (pc := 180) (ci := 12) (C := R_Book) (T := F_Book) (N := 65) B 17 rfl rfl (by decide) i_Book (B.2.2.2.1 _ k_1860) rfl d_Book_newThing_180 ?_
    refine mv_iload_n (pc := 183) B d_Book_newThing_183 rfl 3 rfl ?_
    obtain ⟨q13, hf⟩ := xvi_e hf
    refine mv_iast (pc := 184) B rfl q13 d_Book_newThing_184 ?_
    refine mvh_hp (R9 := mv_r h) hf r_g12 (fun g14 hf r_g14 => ?_)
    refine mv_aload_n (pc := 185) B d_Book_newThing_185 rfl 0 rfl ?_
    refine mv_getR (pc := 186) (ci := 12) (C := R_Book) (T := F_Book) (N := 65) B 12 rfl rfl (by decide) i_Book (B.2.2.2.1 _ k_1855) rfl ((congrFun (congrFun r_g14 74) 12).trans (hb.1 74 12 _ rfl)) d_Book_newThing_186 ?_
    refine mv_aload_n (pc := 189) B d_Book_newThing_189 rfl 0 rfl ?_
    refine mv_getI (pc := 190) (ci := 12) (C := R_Book) (T := F_Book) (N := 65) B 17 rfl rfl (by decide) i_Book (B.2.2.2.1 _ k_1860) rfl d_Book_newThing_190 ?_
    refine mv_iload (pc := 193) B d_Book_newThing_193 4 rfl ?_
    refine mv_if_ge (pc := 195) (tgt := 202) B d_Book_newThing_195 rfl (fun h195 => ?_) (fun h195 => ?_)
    · skip
      have hf := xif_t h195 hf
      refine mv_iload (pc := 202) B d_Book_newThing_202 4 rfl ?_
      refine mv_lpick [0, 1, 4, 5, 6] rfl ?_
      exact jn204 _ _ _ _ _ _ _ r_g14 hf
    · skip
      have hf := xif_f h195 hf
      refine mv_iconst (pc := 198) (v := 0) B d_Book_newThing_198 (by decide) ?_
      refine mv_goto (pc := 199) (tgt := 204) B d_Book_newThing_199 rfl ?_
      refine mv_lpick [0, 1, 4, 5, 6] rfl ?_
      exact jn204 _ _ _ _ _ _ _ r_g14 hf
  have jn157 : ∀ (x2 : Int32) (hz : mv_H), mv_r hz = mv_r h → f_Book_newThing_157 74 x2 hz = some (rv, rg) → mv_V p l e ({ frames := 7, cells := 0, slots := 0, locals := 153 }) s m ([.ref (al 74), .int a0] : List Value).toArray below meth c (mg dA D al ext) 7 0 0 (mv_Q (mg dA D al ext) below s 0 0 (mv_Uv (fun σ1 => rv = some 0 ∧ rg = σ1 ∧ mv_r σ1 = mv_r h) ("MachineLoomModel$Book$Wrong", al 107) (fun σ1 => rv = none ∧ rg = σ1 ∧ mv_r σ1 = mv_r h))) hz 157 [(0, .ref (al 74)), (2, .int x2)] [] := by
    intro x2 hz r_hz hf
    unfold f_Book_newThing_157 at hf
    refine mv_aload_n (pc := 157) B d_Book_newThing_157 rfl 0 rfl ?_
    refine mv_bipush (pc := 158) (v := 6) B d_Book_newThing_158 (by decide) ?_
    refine mv_iload_n (pc := 160) B d_Book_newThing_160 rfl 1 rfl ?_
    obtain ⟨g15, eg15, hf⟩ := xhv_e hf
    refine mv_callVv (pc := 161) (n := 2) (ci := 12) (C := R_Book) B (mK_ok sk sv) hNs rfl rfl (ch_Book_fault_x l hi _ _ _ eg15) rfl (ma_goodc kc_Book_fault) (B.2.2.2.1 _ k_2185) (B.2.2.2.1 _ k_2187) (B.2.2.2.1 _ ks_92) (B.2.2.2.1 _ k_13) ⟨by decide +kernel, by decide +kernel, by decide +kernel⟩ rfl d_Book_newThing_161 rfl (Nat.le_of_ble_eq_true rfl) ⟨by decide, by decide⟩ ⟨by decide, by decide⟩ ⟨by decide, by decide⟩ (mv_noH hno _) (fun σ161 h161 => ?_)
    obtain ⟨rfl, s_g15⟩ := h161
    have r_g15 : mv_r g15 = mv_r h := s_g15.trans r_hz
    exact mv_vret (pc := 164) B hr d_Book_newThing_164 (Nat.le_refl _) (Nat.le_refl _) (Or.inl ⟨rfl, xrt_i hf r_g15⟩)
  have jn104 : ∀ (x1 : Int32) (x2 : Int32) (x3 : Int32) (x4 : Int32) (x5 : Int32) (x6 : Int32) (hz : mv_H), mv_r hz = mv_r h → f_Book_newThing_104 74 x1 x2 x3 x4 x5 x6 hz = some (rv, rg) → mv_V p l e ({ frames := 7, cells := 0, slots := 0, locals := 153 }) s m ([.ref (al 74), .int a0] : List Value).toArray below meth c (mg dA D al ext) 7 0 0 (mv_Q (mg dA D al ext) below s 0 0 (mv_Uv (fun σ1 => rv = some 0 ∧ rg = σ1 ∧ mv_r σ1 = mv_r h) ("MachineLoomModel$Book$Wrong", al 107) (fun σ1 => rv = none ∧ rg = σ1 ∧ mv_r σ1 = mv_r h))) hz 104 [(0, .ref (al 74)), (1, .int x1), (2, .int x2), (3, .int x3), (4, .int x4), (5, .int x5), (6, .int x6)] [] := by
    intro x1 x2 x3 x4 x5 x6 hz r_hz hf
    unfold f_Book_newThing_104 at hf
    refine mv_aload_n (pc := 104) B d_Book_newThing_104 rfl 0 rfl ?_
    refine mv_bipush (pc := 105) (v := 59) B d_Book_newThing_105 (by decide) ?_
    obtain ⟨og17, g17, eg17, hf⟩ := xtb_e hf
    refine mv_callVUv (pc := 107) (n := 1) (ci := 12) (C := R_Book) B (mK_ok sk sv) hNs rfl rfl (ch_Book_need_x l hi _ (xrw r_hz hb) _ eg17) rfl (ma_goodc kc_Book_need) (B.2.2.2.1 _ k_2177) (B.2.2.2.1 _ k_2179) (B.2.2.2.1 _ ks_91) (B.2.2.2.1 _ k_13) ⟨by decide +kernel, by decide +kernel, by decide +kernel⟩ rfl d_Book_newThing_107 rfl (Nat.le_of_ble_eq_true rfl) ⟨by decide, by decide⟩ ⟨by decide, by decide⟩ ⟨by decide, by decide⟩ (mv_noH hno _) (fun τ9 g9 => Or.inr ⟨rfl, xth hf g9 r_hz⟩) (fun σ107 h107 => ?_)
    obtain ⟨rfl, rfl, s_g17⟩ := h107
    have hf := xt2_s hf
    have r_g17 : mv_r g17 = mv_r h := s_g17.trans r_hz
    refine mv_aload_n (pc := 110) B d_Book_newThing_110 rfl 0 rfl ?_
    refine mv_iload_n (pc := 111) B d_Book_newThing_111 rfl 2 rfl ?_
    refine mv_iload_n (pc := 112) B d_Book_newThing_112 rfl 3 rfl ?_
    obtain ⟨u20, g19, eg19, hf⟩ := xhb_e hf
    refine mv_callVi (pc := 113) (n := 2) (ci := 12) (C := R_Book) B (mK_ok sk sv) hNs rfl rfl (ch_Book_thing_x l hi _ (xrw r_g17 hb) _ _ eg19) rfl (ma_goodc kc_Book_thing) (B.2.2.2.1 _ k_2212) (B.2.2.2.1 _ k_2214) (B.2.2.2.1 _ ks_97) (B.2.2.2.1 _ k_13) ⟨by decide +kernel, by decide +kernel, by decide +kernel⟩ rfl d_Book_newThing_113 rfl (Nat.le_of_ble_eq_true rfl) ⟨by decide, by decide⟩ ⟨by decide, by decide⟩ ⟨by decide, by decide⟩ (mv_noH hno _) (fun w113 σ113 h113 => ?_)
    obtain ⟨rfl, rfl, s_g19⟩ := h113
    have r_g19 : mv_r g19 = mv_r h := s_g19.trans r_g17
    refine mv_if_lt (pc := 116) (tgt := 126) B d_Book_newThing_116 rfl (fun h116 => ?_) (fun h116 => ?_)
    · skip
      have hf := xif_t h116 hf
      refine mv_aload_n (pc := 126) B d_Book_newThing_126 rfl 0 rfl ?_
      refine mv_getI (pc := 127) (ci := 12) (C := R_Book) (T := F_Book) (N := 65) B 17 rfl rfl (by decide) i_Book (B.2.2.2.1 _ k_1860) rfl d_Book_newThing_127 ?_
      refine mv_bipush (pc := 130) (v := 64) B d_Book_newThing_130 (by decide) ?_
      refine mv_icmp_ge (pc := 132) (tgt := 157) B d_Book_newThing_132 rfl (fun h132 => ?_) (fun h132 => ?_)
      · skip
        have hf := xif_t h132 hf
        refine mv_lpick [0, 2] rfl ?_
        exact jn157 _ _ r_g19 hf
      · skip
        have hf := xif_f h132 hf
        refine mv_iload (pc := 135) B d_Book_newThing_135 5 rfl ?_
        refine mv_if_le (pc := 137) (tgt := 165) B d_Book_newThing_137 rfl (fun h137 => ?_) (fun h137 => ?_)
        · skip
          have hf := xif_t h137 hf
          refine mv_lpick [0, 1, 2, 3, 4, 5, 6] rfl ?_
          exact jn165 _ _ _ _ _ _ _ r_g19 hf
        · skip
          have hf := xif_f h137 hf
          refine mv_iload (pc := 140) B d_Book_newThing_140 4 rfl ?_
          refine mv_if_le (pc := 142) (tgt := 165) B d_Book_newThing_142 rfl (fun h142 => ?_) (fun h142 => ?_)
          · skip
            have hf := xif_t h142 hf
            refine mv_lpick [0, 1, 2, 3, 4, 5, 6] rfl ?_
            exact jn165 _ _ _ _ _ _ _ r_g19 hf
          · skip
            have hf := xif_f h142 hf
            refine mv_aload_n (pc := 145) B d_Book_newThing_145 rfl 0 rfl ?_
            refine mv_getI (pc := 146) (ci := 12) (C := R_Book) (T := F_Book) (N := 65) B 19 rfl rfl (by decide) i_Book (B.2.2.2.1 _ k_1864) rfl d_Book_newThing_146 ?_
            refine mv_iload (pc := 149) B d_Book_newThing_149 5 rfl ?_
            refine mv_iadd (pc := 151) B d_Book_newThing_151 ?_
            refine mv_ldc (pc := 152) (v := 65536) B (B.2.2.2.1 _ k_1842) d_Book_newThing_152 ?_
            refine mv_icmp_le (pc := 154) (tgt := 165) B d_Book_newThing_154 rfl (fun h154 => ?_) (fun h154 => ?_)
            · skip
              have hf := xif_t h154 hf
              refine mv_lpick [0, 1, 2, 3, 4, 5, 6] rfl ?_
              exact jn165 _ _ _ _ _ _ _ r_g19 hf
            · skip
              have hf := xif_f h154 hf
              refine mv_lpick [0, 2] rfl ?_
              exact jn157 _ _ r_g19 hf
    · skip
      have hf := xif_f h116 hf
      refine mv_aload_n (pc := 119) B d_Book_newThing_119 rfl 0 rfl ?_
      refine mv_iconst (pc := 120) (v := 2) B d_Book_newThing_120 (by decide) ?_
      refine mv_iload_n (pc := 121) B d_Book_newThing_121 rfl 2 rfl ?_
      obtain ⟨g21, eg21, hf⟩ := xhv_e hf
      refine mv_callVv (pc := 122) (n := 2) (ci := 12) (C := R_Book) B (mK_ok sk sv) hNs rfl rfl (ch_Book_fault_x l hi _ _ _ eg21) rfl (ma_goodc kc_Book_fault) (B.2.2.2.1 _ k_2185) (B.2.2.2.1 _ k_2187) (B.2.2.2.1 _ ks_92) (B.2.2.2.1 _ k_13) ⟨by decide +kernel, by decide +kernel, by decide +kernel⟩ rfl d_Book_newThing_122 rfl (Nat.le_of_ble_eq_true rfl) ⟨by decide, by decide⟩ ⟨by decide, by decide⟩ ⟨by decide, by decide⟩ (mv_noH hno _) (fun σ122 h122 => ?_)
      obtain ⟨rfl, s_g21⟩ := h122
      have r_g21 : mv_r g21 = mv_r h := s_g21.trans r_g19
      exact mv_vret (pc := 125) B hr d_Book_newThing_125 (Nat.le_refl _) (Nat.le_refl _) (Or.inl ⟨rfl, xrt_i hf r_g21⟩)
  unfold f_Book_newThing at hf
  refine mv_aload_n (pc := 0) B d_Book_newThing_0 rfl 0 rfl ?_
  obtain ⟨og23, g23, eg23, hf⟩ := xtb_e hf
  refine mv_callVUv (pc := 1) (n := 0) (ci := 12) (C := R_Book) B (mK_ok sk sv) hNs rfl rfl (ch_Book_pass_x l hi _ (hb) eg23) rfl (ma_goodc kc_Book_pass) (B.2.2.2.1 _ k_2173) (B.2.2.2.1 _ k_2175) (B.2.2.2.1 _ ks_90) (B.2.2.2.1 _ k_13) ⟨by decide +kernel, by decide +kernel, by decide +kernel⟩ rfl d_Book_newThing_1 rfl (Nat.le_of_ble_eq_true rfl) ⟨by decide, by decide⟩ ⟨by decide, by decide⟩ ⟨by decide, by decide⟩ (mv_noH hno _) (fun τ9 g9 => Or.inr ⟨rfl, xth hf g9 rfl⟩) (fun σ1 h1 => ?_)
  obtain ⟨rfl, rfl, s_g23⟩ := h1
  have hf := xt2_s hf
  have r_g23 : mv_r g23 = mv_r h := s_g23.trans rfl
  refine mv_aload_n (pc := 4) B d_Book_newThing_4 rfl 0 rfl ?_
  obtain ⟨og25, g25, eg25, hf⟩ := xtb_e hf
  refine mv_callVUv (pc := 5) (n := 0) (ci := 12) (C := R_Book) B (mK_ok sk sv) hNs rfl rfl (ch_Book_name_x l hi _ (xrw r_g23 hb) eg25) rfl (ma_goodc kc_Book_name) (B.2.2.2.1 _ k_2194) (B.2.2.2.1 _ k_2196) (B.2.2.2.1 _ ks_94) (B.2.2.2.1 _ k_13) ⟨by decide +kernel, by decide +kernel, by decide +kernel⟩ rfl d_Book_newThing_5 rfl (Nat.le_of_ble_eq_true rfl) ⟨by decide, by decide⟩ ⟨by decide, by decide⟩ ⟨by decide, by decide⟩ (mv_noH hno _) (fun τ9 g9 => Or.inr ⟨rfl, xth hf g9 r_g23⟩) (fun σ5 h5 => ?_)
  obtain ⟨rfl, rfl, s_g25⟩ := h5
  have hf := xt2_s hf
  have r_g25 : mv_r g25 = mv_r h := s_g25.trans r_g23
  refine mv_aload_n (pc := 8) B d_Book_newThing_8 rfl 0 rfl ?_
  refine mv_getI (pc := 9) (ci := 12) (C := R_Book) (T := F_Book) (N := 65) B 49 rfl rfl (by decide) i_Book (B.2.2.2.1 _ k_1898) rfl d_Book_newThing_9 ?_
  refine mv_istore_n (pc := 12) B d_Book_newThing_12 rfl (by decide) rfl ?_
  refine mv_aload_n (pc := 13) B d_Book_newThing_13 rfl 1 rfl ?_
  refine mv_getI (pc := 14) (ci := 12) (C := R_Book) (T := F_Book) (N := 65) B 50 rfl rfl (by decide) i_Book (B.2.2.2.1 _ k_1899) rfl d_Book_newThing_14 ?_
  refine mv_istore_n (pc := 17) B d_Book_newThing_17 rfl (by decide) rfl ?_
  refine mv_aload_n (pc := 18) B d_Book_newThing_18 rfl 2 rfl ?_
  refine mv_bipush (pc := 19) (v := 58) B d_Book_newThing_19 (by decide) ?_
  obtain ⟨og27, g27, eg27, hf⟩ := xtb_e hf
  refine mv_callVUv (pc := 21) (n := 1) (ci := 12) (C := R_Book) B (mK_ok sk sv) hNs rfl rfl (ch_Book_need_x l hi _ (xrw r_g25 hb) _ eg27) rfl (ma_goodc kc_Book_need) (B.2.2.2.1 _ k_2177) (B.2.2.2.1 _ k_2179) (B.2.2.2.1 _ ks_91) (B.2.2.2.1 _ k_13) ⟨by decide +kernel, by decide +kernel, by decide +kernel⟩ rfl d_Book_newThing_21 rfl (Nat.le_of_ble_eq_true rfl) ⟨by decide, by decide⟩ ⟨by decide, by decide⟩ ⟨by decide, by decide⟩ (mv_noH hno _) (fun τ9 g9 => Or.inr ⟨rfl, xth hf g9 r_g25⟩) (fun σ21 h21 => ?_)
  obtain ⟨rfl, rfl, s_g27⟩ := h21
  have hf := xt2_s hf
  have r_g27 : mv_r g27 = mv_r h := s_g27.trans r_g25
  refine mv_aload_n (pc := 24) B d_Book_newThing_24 rfl 2 rfl ?_
  refine mv_lconst (pc := 25) (v := 1) B d_Book_newThing_25 (by decide) ?_
  refine mv_ldc2 (pc := 26) (v := 64) B (B.2.2.2.1 _ k_2184) d_Book_newThing_26 ?_
  obtain ⟨og29, g29, eg29, hf⟩ := xtb_e hf
  refine mv_callVUi (pc := 29) (n := 2) (ci := 12) (C := R_Book) B (mK_ok sk sv) hNs rfl rfl (ch_Book_ranged_x l hi _ (xrw r_g27 hb) _ _ eg29) rfl (ma_goodc kc_Book_ranged) (B.2.2.2.1 _ k_2203) (B.2.2.2.1 _ k_2205) (B.2.2.2.1 _ ks_96) (B.2.2.2.1 _ k_13) ⟨by decide +kernel, by decide +kernel, by decide +kernel⟩ rfl d_Book_newThing_29 rfl (Nat.le_of_ble_eq_true rfl) ⟨by decide, by decide⟩ ⟨by decide, by decide⟩ ⟨by decide, by decide⟩ (mv_noH hno _) (fun τ9 g9 => Or.inr ⟨rfl, xth hf g9 r_g27⟩) (fun u30 σ29 h29 => ?_)
  obtain ⟨rfl, rfl, s_g29⟩ := h29
  have hf := xt2_s hf
  have r_g29 : mv_r g29 = mv_r h := s_g29.trans r_g27
  refine mv_istore (pc := 32) B d_Book_newThing_32 (by decide) rfl ?_
  refine mv_iconst (pc := 34) (v := 0) B d_Book_newThing_34 (by decide) ?_
  refine mv_istore (pc := 35) B d_Book_newThing_35 (by decide) rfl ?_
  refine mv_iconst (pc := 37) (v := 0) B d_Book_newThing_37 (by decide) ?_
  refine mv_istore (pc := 38) B d_Book_newThing_38 (by decide) rfl ?_
  refine mv_iload_n (pc := 40) B d_Book_newThing_40 rfl 6 rfl ?_
  refine mv_if_eq (pc := 41) (tgt := 104) B d_Book_newThing_41 rfl (fun h41 => ?_) (fun h41 => ?_)
  · skip
    have hf := xif_t h41 hf
    refine mv_lpick [5, 6, 4, 3, 2, 1, 0] rfl ?_
    exact jn104 _ _ _ _ _ _ _ r_g29 hf
  · skip
    have hf := xif_f h41 hf
    refine mv_aload_n (pc := 44) B d_Book_newThing_44 rfl 5 rfl ?_
    refine mv_bipush (pc := 45) (v := 91) B d_Book_newThing_45 (by decide) ?_
    obtain ⟨og31, g31, eg31, hf⟩ := xtb_e hf
    refine mv_callVUv (pc := 47) (n := 1) (ci := 12) (C := R_Book) B (mK_ok sk sv) hNs rfl rfl (ch_Book_need_x l hi _ (xrw r_g29 hb) _ eg31) rfl (ma_goodc kc_Book_need) (B.2.2.2.1 _ k_2177) (B.2.2.2.1 _ k_2179) (B.2.2.2.1 _ ks_91) (B.2.2.2.1 _ k_13) ⟨by decide +kernel, by decide +kernel, by decide +kernel⟩ rfl d_Book_newThing_47 rfl (Nat.le_of_ble_eq_true rfl) ⟨by decide, by decide⟩ ⟨by decide, by decide⟩ ⟨by decide, by decide⟩ (mv_noH hno _) (fun τ9 g9 => Or.inr ⟨rfl, xth hf g9 r_g29⟩) (fun σ47 h47 => ?_)
    obtain ⟨rfl, rfl, s_g31⟩ := h47
    have hf := xt2_s hf
    have r_g31 : mv_r g31 = mv_r h := s_g31.trans r_g29
    refine mv_aload_n (pc := 50) B d_Book_newThing_50 rfl 5 rfl ?_
    refine mv_dup (pc := 51) B d_Book_newThing_51 rfl ?_
    refine mv_getI (pc := 52) (ci := 12) (C := R_Book) (T := F_Book) (N := 65) B 8 rfl rfl (by decide) i_Book (B.2.2.2.1 _ k_1851) rfl d_Book_newThing_52 ?_
    refine mv_iconst (pc := 55) (v := 1) B d_Book_newThing_55 (by decide) ?_
    refine mv_iadd (pc := 56) B d_Book_newThing_56 ?_
    refine mv_putI (pc := 57) (ci := 12) (C := R_Book) (T := F_Book) (N := 65) B 8 rfl rfl (by decide) i_Book t_Book_ok n_Book (B.2.2.2.1 _ k_1851) rfl rfl rfl rfl d_Book_newThing_57 ?_
    refine mvh_hp (R9 := mv_r h) hf r_g31 (fun g33 hf r_g33 => ?_)
    refine mv_aload_n (pc := 60) B d_Book_newThing_60 rfl 5 rfl ?_
    refine mv_lconst (pc := 61) (v := 1) B d_Book_newThing_61 (by decide) ?_
    refine mv_ldc2 (pc := 62) (v := 65536) B (B.2.2.2.1 _ k_2210) d_Book_newThing_62 ?_
    obtain ⟨og34, g34, eg34, hf⟩ := xtb_e hf
    refine mv_callVUi (pc := 65) (n := 2) (ci := 12) (C := R_Book) B (mK_ok sk sv) hNs rfl rfl (ch_Book_ranged_x l hi _ (xrw r_g33 hb) _ _ eg34) rfl (ma_goodc kc_Book_ranged) (B.2.2.2.1 _ k_2203) (B.2.2.2.1 _ k_2205) (B.2.2.2.1 _ ks_96) (B.2.2.2.1 _ k_13) ⟨by decide +kernel, by decide +kernel, by decide +kernel⟩ rfl d_Book_newThing_65 rfl (Nat.le_of_ble_eq_true rfl) ⟨by decide, by decide⟩ ⟨by decide, by decide⟩ ⟨by decide, by decide⟩ (mv_noH hno _) (fun τ9 g9 => Or.inr ⟨rfl, xth hf g9 r_g33⟩) (fun u35 σ65 h65 => ?_)
    obtain ⟨rfl, rfl, s_g34⟩ := h65
    have hf := xt2_s hf
    have r_g34 : mv_r g34 = mv_r h := s_g34.trans r_g33
    refine mv_istore (pc := 68) B d_Book_newThing_68 (by decide) rfl ?_
    refine mv_aload_n (pc := 70) B d_Book_newThing_70 rfl 5 rfl ?_
    refine mv_bipush (pc := 71) (v := 93) B d_Book_newThing_71 (by decide) ?_
    obtain ⟨og36, g36, eg36, hf⟩ := xtb_e hf
    refine mv_callVUv (pc := 73) (n := 1) (ci := 12) (C := R_Book) B (mK_ok sk sv) hNs rfl rfl (ch_Book_need_x l hi _ (xrw r_g34 hb) _ eg36) rfl (ma_goodc kc_Book_need) (B.2.2.2.1 _ k_2177) (B.2.2.2.1 _ k_2179) (B.2.2.2.1 _ ks_91) (B.2.2.2.1 _ k_13) ⟨by decide +kernel, by decide +kernel, by decide +kernel⟩ rfl d_Book_newThing_73 rfl (Nat.le_of_ble_eq_true rfl) ⟨by decide, by decide⟩ ⟨by decide, by decide⟩ ⟨by decide, by decide⟩ (mv_noH hno _) (fun τ9 g9 => Or.inr ⟨rfl, xth hf g9 r_g34⟩) (fun σ73 h73 => ?_)
    obtain ⟨rfl, rfl, s_g36⟩ := h73
    have hf := xt2_s hf
    have r_g36 : mv_r g36 = mv_r h := s_g36.trans r_g34
    refine mv_aload_n (pc := 76) B d_Book_newThing_76 rfl 5 rfl ?_
    refine mv_dup (pc := 77) B d_Book_newThing_77 rfl ?_
    refine mv_getI (pc := 78) (ci := 12) (C := R_Book) (T := F_Book) (N := 65) B 8 rfl rfl (by decide) i_Book (B.2.2.2.1 _ k_1851) rfl d_Book_newThing_78 ?_
    refine mv_iconst (pc := 81) (v := 1) B d_Book_newThing_81 (by decide) ?_
    refine mv_isub (pc := 82) B d_Book_newThing_82 ?_
    refine mv_putI (pc := 83) (ci := 12) (C := R_Book) (T := F_Book) (N := 65) B 8 rfl rfl (by decide) i_Book t_Book_ok n_Book (B.2.2.2.1 _ k_1851) rfl rfl rfl rfl d_Book_newThing_83 ?_
    refine mvh_hp (R9 := mv_r h) hf r_g36 (fun g38 hf r_g38 => ?_)
    refine mv_aload_n (pc := 86) B d_Book_newThing_86 rfl 5 rfl ?_
    refine mv_ldcwS (pc := 87) B (hNs.2.1 142 (by decide)).1 d_Book_newThing_87 ?_
    obtain ⟨u40, g39, eg39, hf⟩ := xhb_e hf
    refine mv_callVi (pc := 90) (n := 1) (ci := 12) (C := R_Book) B (mK_ok sk sv) hNs rfl rfl (ch_Book_is_x l hi _ (xrw r_g38 hb) _ (by decide) eg39) rfl (ma_goodc kc_Book_is) (B.2.2.2.1 _ k_2163) (B.2.2.2.1 _ k_2165) (B.2.2.2.1 _ ks_88) (B.2.2.2.1 _ k_13) ⟨by decide +kernel, by decide +kernel, by decide +kernel⟩ rfl d_Book_newThing_90 rfl (Nat.le_of_ble_eq_true rfl) ⟨by decide, by decide⟩ ⟨by decide, by decide⟩ ⟨by decide, by decide⟩ (mv_noH hno _) (fun w90 σ90 h90 => ?_)
    obtain ⟨rfl, rfl, s_g39⟩ := h90
    have r_g39 : mv_r g39 = mv_r h := s_g39.trans r_g38
    refine mv_istore (pc := 93) B d_Book_newThing_93 (by decide) rfl ?_
    refine mv_iload (pc := 95) B d_Book_newThing_95 0 rfl ?_
    refine mv_if_eq (pc := 97) (tgt := 104) B d_Book_newThing_97 rfl (fun h97 => ?_) (fun h97 => ?_)
    · skip
      have hf := xif_t h97 hf
      refine mv_lpick [5, 6, 4, 3, 2, 1, 0] rfl ?_
      exact jn104 _ _ _ _ _ _ _ r_g39 hf
    · skip
      have hf := xif_f h97 hf
      refine mv_aload_n (pc := 100) B d_Book_newThing_100 rfl 5 rfl ?_
      obtain ⟨og41, g41, eg41, hf⟩ := xtb_e hf
      refine mv_callVUv (pc := 101) (n := 0) (ci := 12) (C := R_Book) B (mK_ok sk sv) hNs rfl rfl (ch_Book_pass_x l hi _ (xrw r_g39 hb) eg41) rfl (ma_goodc kc_Book_pass) (B.2.2.2.1 _ k_2173) (B.2.2.2.1 _ k_2175) (B.2.2.2.1 _ ks_90) (B.2.2.2.1 _ k_13) ⟨by decide +kernel, by decide +kernel, by decide +kernel⟩ rfl d_Book_newThing_101 rfl (Nat.le_of_ble_eq_true rfl) ⟨by decide, by decide⟩ ⟨by decide, by decide⟩ ⟨by decide, by decide⟩ (mv_noH hno _) (fun τ9 g9 => Or.inr ⟨rfl, xth hf g9 r_g39⟩) (fun σ101 h101 => ?_)
      obtain ⟨rfl, rfl, s_g41⟩ := h101
      have hf := xt2_s hf
      have r_g41 : mv_r g41 = mv_r h := s_g41.trans r_g39
      refine mv_lpick [5, 6, 4, 3, 2, 1, 0] rfl ?_
      exact jn104 _ _ _ _ _ _ _ r_g41 hf
set_option maxHeartbeats 4000000 in
set_option maxRecDepth 100000 in
theorem ch_Book_newThing_y (l : Launch) {dA : FieldType → ClassId} {D : va_G} {al : Nat → Nat} {ext : mv_Sh} {sk sv : Nat → Nat} (hi : mv_inj (mg dA D al ext)) (h : mv_H) (hb : Br 108 (mv_r h))  (a0 : Int32) {rv : Option Int32} {rg : mv_H} (hf : f_Book_newThing 108 h a0 = some (rv, rg)) : mv_C l y_Book_newThing (Cond.code y_Book_newThing b_Book_newThing 7 (Option.none : Option Jvm.ClassFile.FieldType) :: ma) ({ frames := 7, cells := 0, slots := 0, locals := 153 }) (mg dA D al ext) (mK sk sv) [.ref (al 108), .int a0] h (mv_Uv (fun σ1 => rv = some 0 ∧ rg = σ1 ∧ mv_r σ1 = mv_r h) ("MachineLoomModel$Book$Wrong", al 141) (fun σ1 => rv = none ∧ rg = σ1 ∧ mv_r σ1 = mv_r h)) := by
  refine mv_C.ofV (cc := b_Book_newThing) (nL := 7) (ret := (Option.none : Option Jvm.ClassFile.FieldType)) (by decide +kernel) rfl hi (Nat.le_of_ble_eq_true rfl) ?_
  intro p e s m below meth c B hNs hr hnm hno
  have jn267 : ∀ (hz : mv_H), mv_r hz = mv_r h → f_Book_newThing_267 108  hz = some (rv, rg) → mv_V p l e ({ frames := 7, cells := 0, slots := 0, locals := 153 }) s m ([.ref (al 108), .int a0] : List Value).toArray below meth c (mg dA D al ext) 7 0 0 (mv_Q (mg dA D al ext) below s 0 0 (mv_Uv (fun σ1 => rv = some 0 ∧ rg = σ1 ∧ mv_r σ1 = mv_r h) ("MachineLoomModel$Book$Wrong", al 141) (fun σ1 => rv = none ∧ rg = σ1 ∧ mv_r σ1 = mv_r h))) hz 267 [(0, .ref (al 108))] [] := by
    intro  hz r_hz hf
    unfold f_Book_newThing_267 at hf
    refine mv_aload_n (pc := 267) B d_Book_newThing_267 rfl 0 rfl ?_
    refine mv_dup (pc := 268) B d_Book_newThing_268 rfl ?_
    refine mv_getI (pc := 269) (ci := 12) (C := R_Book) (T := F_Book) (N := 65) B 17 rfl rfl (by decide) i_Book (B.2.2.2.1 _ k_1860) rfl d_Book_newThing_269 ?_
    refine mv_iconst (pc := 272) (v := 1) B d_Book_newThing_272 (by decide) ?_
    refine mv_iadd (pc := 273) B d_Book_newThing_273 ?_
    refine mv_putI (pc := 274) (ci := 12) (C := R_Book) (T := F_Book) (N := 65) B 17 rfl rfl (by decide) i_Book t_Book_ok n_Book (B.2.2.2.1 _ k_1860) rfl rfl rfl rfl d_Book_newThing_274 ?_
    refine mvh_hp (R9 := mv_r h) hf r_hz (fun g1 hf r_g1 => ?_)
    exact mv_vret (pc := 277) B hr d_Book_newThing_277 (Nat.le_refl _) (Nat.le_refl _) (Or.inl ⟨rfl, xrt_i hf r_g1⟩)
  have jn245 : ∀ (x4 : Int32) (x5 : Int32) (y0 : Int32) (y1 : Int32) (hz : mv_H), mv_r hz = mv_r h → f_Book_newThing_245 108 x4 x5 y0 y1 hz = some (rv, rg) → mv_V p l e ({ frames := 7, cells := 0, slots := 0, locals := 153 }) s m ([.ref (al 108), .int a0] : List Value).toArray below meth c (mg dA D al ext) 7 0 0 (mv_Q (mg dA D al ext) below s 0 0 (mv_Uv (fun σ1 => rv = some 0 ∧ rg = σ1 ∧ mv_r σ1 = mv_r h) ("MachineLoomModel$Book$Wrong", al 141) (fun σ1 => rv = none ∧ rg = σ1 ∧ mv_r σ1 = mv_r h))) hz 245 [(0, .ref (al 108)), (4, .int x4), (5, .int x5)] [.int y0, .int y1, .ref (al 112)] := by
    intro x4 x5 y0 y1 hz r_hz hf
    unfold f_Book_newThing_245 at hf
    obtain ⟨q2, hf⟩ := xvi_e hf
    refine mv_iast (pc := 245) B rfl q2 d_Book_newThing_245 ?_
    refine mvh_hp (R9 := mv_r h) hf r_hz (fun g3 hf r_g3 => ?_)
    refine mv_iload (pc := 246) B d_Book_newThing_246 2 rfl ?_
    refine mv_if_le (pc := 248) (tgt := 267) B d_Book_newThing_248 rfl (fun h248 => ?_) (fun h248 => ?_)
    · skip
      have hf := xif_t h248 hf
      refine mv_lpick [0] rfl ?_
      exact jn267  _ r_g3 hf
    · skip
      have hf := xif_f h248 hf
      refine mv_iload (pc := 251) B d_Book_newThing_251 1 rfl ?_
      refine mv_if_le (pc := 253) (tgt := 267) B d_Book_newThing_253 rfl (fun h253 => ?_) (fun h253 => ?_)
      · skip
        have hf := xif_t h253 hf
        refine mv_lpick [0] rfl ?_
        exact jn267  _ r_g3 hf
      · skip
        have hf := xif_f h253 hf
        refine mv_aload_n (pc := 256) B d_Book_newThing_256 rfl 0 rfl ?_
        refine mv_dup (pc := 257) B d_Book_newThing_257 rfl ?_
        refine mv_getI (pc := 258) (ci := 12) (C := R_Book) (T := F_Book) (N := 65) B 19 rfl rfl (by decide) i_Book (B.2.2.2.1 _ k_1864) rfl d_Book_newThing_258 ?_
        refine mv_iload (pc := 261) B d_Book_newThing_261 2 rfl ?_
        refine mv_iadd (pc := 263) B d_Book_newThing_263 ?_
        refine mv_putI (pc := 264) (ci := 12) (C := R_Book) (T := F_Book) (N := 65) B 19 rfl rfl (by decide) i_Book t_Book_ok n_Book (B.2.2.2.1 _ k_1864) rfl rfl rfl rfl d_Book_newThing_264 ?_
        refine mvh_hp (R9 := mv_r h) hf r_g3 (fun g4 hf r_g4 => ?_)
        refine mv_lpick [0] rfl ?_
        exact jn267  _ r_g4 hf
  have jn204 : ∀ (x1 : Int32) (x4 : Int32) (x5 : Int32) (x6 : Int32) (y0 : Int32) (y1 : Int32) (hz : mv_H), mv_r hz = mv_r h → f_Book_newThing_204 108 x1 x4 x5 x6 y0 y1 hz = some (rv, rg) → mv_V p l e ({ frames := 7, cells := 0, slots := 0, locals := 153 }) s m ([.ref (al 108), .int a0] : List Value).toArray below meth c (mg dA D al ext) 7 0 0 (mv_Q (mg dA D al ext) below s 0 0 (mv_Uv (fun σ1 => rv = some 0 ∧ rg = σ1 ∧ mv_r σ1 = mv_r h) ("MachineLoomModel$Book$Wrong", al 141) (fun σ1 => rv = none ∧ rg = σ1 ∧ mv_r σ1 = mv_r h))) hz 204 [(0, .ref (al 108)), (1, .int x1), (4, .int x4), (5, .int x5), (6, .int x6)] [.int y0, .int y1, .ref (al 111)] := by
    intro x1 x4 x5 x6 y0 y1 hz r_hz hf
    unfold f_Book_newThing_204 at hf
    obtain ⟨q5, hf⟩ := xvi_e hf
    refine mv_iast (pc := 204) B rfl q5 d_Book_newThing_204 ?_
    refine mvh_hp (R9 := mv_r h) hf r_hz (fun g6 hf r_g6 => ?_)
    refine mv_aload_n (pc := 205) B d_Book_newThing_205 rfl 0 rfl ?_
    refine mv_getR (pc := 206) (ci := 12) (C := R_Book) (T := F_Book) (N := 65) B 15 rfl rfl (by decide) i_Book (B.2.2.2.1 _ k_1858) rfl ((congrFun (congrFun r_g6 108) 15).trans (hb.1 108 15 _ rfl)) d_Book_newThing_206 ?_
    refine mv_aload_n (pc := 209) B d_Book_newThing_209 rfl 0 rfl ?_
    refine mv_getI (pc := 210) (ci := 12) (C := R_Book) (T := F_Book) (N := 65) B 17 rfl rfl (by decide) i_Book (B.2.2.2.1 _ k_1860) rfl d_Book_newThing_210 ?_
    refine mv_iload_n (pc := 213) B d_Book_newThing_213 rfl 1 rfl ?_
    obtain ⟨q7, hf⟩ := xvi_e hf
    refine mv_zast (pc := 214) B rfl q7 d_Book_newThing_214 ?_
    refine mvh_hp (R9 := mv_r h) hf r_g6 (fun g8 hf r_g8 => ?_)
    refine mv_aload_n (pc := 215) B d_Book_newThing_215 rfl 0 rfl ?_
    refine mv_getR (pc := 216) (ci := 12) (C := R_Book) (T := F_Book) (N := 65) B 16 rfl rfl (by decide) i_Book (B.2.2.2.1 _ k_1859) rfl ((congrFun (congrFun r_g8 108) 16).trans (hb.1 108 16 _ rfl)) d_Book_newThing_216 ?_
    refine mv_aload_n (pc := 219) B d_Book_newThing_219 rfl 0 rfl ?_
    refine mv_getI (pc := 220) (ci := 12) (C := R_Book) (T := F_Book) (N := 65) B 17 rfl rfl (by decide) i_Book (B.2.2.2.1 _ k_1860) rfl d_Book_newThing_220 ?_
    refine mv_iload (pc := 223) B d_Book_newThing_223 4 rfl ?_
    obtain ⟨q9, hf⟩ := xvi_e hf
    refine mv_zast (pc := 225) B rfl q9 d_Book_newThing_225 ?_
    refine mvh_hp (R9 := mv_r h) hf r_g8 (fun g10 hf r_g10 => ?_)
    refine mv_aload_n (pc := 226) B d_Book_newThing_226 rfl 0 rfl ?_
    refine mv_getR (pc := 227) (ci := 12) (C := R_Book) (T := F_Book) (N := 65) B 13 rfl rfl (by decide) i_Book (B.2.2.2.1 _ k_1856) rfl ((congrFun (congrFun r_g10 108) 13).trans (hb.1 108 13 _ rfl)) d_Book_newThing_227 ?_
    refine mv_aload_n (pc := 230) B d_Book_newThing_230 rfl 0 rfl ?_
    refine mv_getI (pc := 231) (ci := 12) (C := R_Book) (T := F_Book) (N := 65) B 17 rfl rfl (by decide) i_Book (B.2.2.2.1 _ k_1860) rfl d_Book_newThing_231 ?_
    refine mv_iload (pc := 234) B d_Book_newThing_234 3 rfl ?_
    refine mv_if_ge (pc := 236) (tgt := 243) B d_Book_newThing_236 rfl (fun h236 => ?_) (fun h236 => ?_)
    · skip
      have hf := xif_t h236 hf
      refine mv_iload (pc := 243) B d_Book_newThing_243 3 rfl ?_
      refine mv_lpick [0, 2, 3] rfl ?_
      exact jn245 _ _ _ _ _ r_g10 hf
    · skip
      have hf := xif_f h236 hf
      refine mv_iconst (pc := 239) (v := 0) B d_Book_newThing_239 (by decide) ?_
      refine mv_goto (pc := 240) (tgt := 245) B d_Book_newThing_240 rfl ?_
      refine mv_lpick [0, 2, 3] rfl ?_
      exact jn245 _ _ _ _ _ r_g10 hf
  have jn165 : ∀ (x1 : Int32) (x2 : Int32) (x3 : Int32) (x4 : Int32) (x5 : Int32) (x6 : Int32) (hz : mv_H), mv_r hz = mv_r h → f_Book_newThing_165 108 x1 x2 x3 x4 x5 x6 hz = some (rv, rg) → mv_V p l e ({ frames := 7, cells := 0, slots := 0, locals := 153 }) s m ([.ref (al 108), .int a0] : List Value).toArray below meth c (mg dA D al ext) 7 0 0 (mv_Q (mg dA D al ext) below s 0 0 (mv_Uv (fun σ1 => rv = some 0 ∧ rg = σ1 ∧ mv_r σ1 = mv_r h) ("MachineLoomModel$Book$Wrong", al 141) (fun σ1 => rv = none ∧ rg = σ1 ∧ mv_r σ1 = mv_r h))) hz 165 [(0, .ref (al 108)), (1, .int x1), (2, .int x2), (3, .int x3), (4, .int x4), (5, .int x5), (6, .int x6)] [] := by
    intro x1 x2 x3 x4 x5 x6 hz r_hz hf
    unfold f_Book_newThing_165 at hf
    refine mv_aload_n (pc := 165) B d_Book_newThing_165 rfl 0 rfl ?_
    refine mv_getR (pc := 166) (ci := 12) (C := R_Book) (T := F_Book) (N := 65) B 10 rfl rfl (by decide) i_Book (B.2.2.2.1 _ k_1853) rfl ((congrFun (congrFun r_hz 108) 10).trans (hb.1 108 10 _ rfl)) d_Book_newThing_166 ?_
    refine mv_aload_n (pc := 169) B d_Book_newThing_169 rfl 0 rfl ?_
    refine mv_getI (pc := 170) (ci := 12) (C := R_Book) (T := F_Book) (N := 65) B 17 rfl rfl (by decide) i_Book (B.2.2.2.1 _ k_1860) rfl d_Book_newThing_170 ?_
    refine mv_iload_n (pc := 173) B d_Book_newThing_173 rfl 2 rfl ?_
    obtain ⟨q11, hf⟩ := xvi_e hf
    refine mv_iast (pc := 174) B rfl q11 d_Book_newThing_174 ?_
    refine mvh_hp (R9 := mv_r h) hf r_hz (fun g12 hf r_g12 => ?_)
    refine mv_aload_n (pc := 175) B d_Book_newThing_175 rfl 0 rfl ?_
    refine mv_getR (pc := 176) (ci := 12) (C := R_Book) (T := F_Book) (N := 65) B 11 rfl rfl (by decide) i_Book (B.2.2.2.1 _ k_1854) rfl ((congrFun (congrFun r_g12 108) 11).trans (hb.1 108 11 _ rfl)) d_Book_newThing_176 ?_
    refine mv_aload_n (pc := 179) B d_Book_newThing_179 rfl 0 rfl ?_
    refine mv_getI (pc := 180) (ci := 12) (C := R_Book) (T := F_Book) (N := 65) B 17 rfl rfl (by decide) i_Book (B.2.2.2.1 _ k_1860) rfl d_Book_newThing_180 ?_
    refine mv_iload_n (pc := 183) B d_Book_newThing_183 rfl 3 rfl ?_
    obtain ⟨q13, hf⟩ := xvi_e hf
    refine mv_iast (pc := 184) B rfl q13 d_Book_newThing_184 ?_
    refine mvh_hp (R9 := mv_r h) hf r_g12 (fun g14 hf r_g14 => ?_)
    refine mv_aload_n (pc := 185) B d_Book_newThing_185 rfl 0 rfl ?_
    refine mv_getR (pc := 186) (ci := 12) (C := R_Book) (T := F_Book) (N := 65) B 12 rfl rfl (by decide) i_Book (B.2.2.2.1 _ k_1855) rfl ((congrFun (congrFun r_g14 108) 12).trans (hb.1 108 12 _ rfl)) d_Book_newThing_186 ?_
    refine mv_aload_n (pc := 189) B d_Book_newThing_189 rfl 0 rfl ?_
    refine mv_getI (pc := 190) (ci := 12) (C := R_Book) (T := F_Book) (N := 65) B 17 rfl rfl (by decide) i_Book (B.2.2.2.1 _ k_1860) rfl d_Book_newThing_190 ?_
    refine mv_iload (pc := 193) B d_Book_newThing_193 4 rfl ?_
    refine mv_if_ge (pc := 195) (tgt := 202) B d_Book_newThing_195 rfl (fun h195 => ?_) (fun h195 => ?_)
    · skip
      have hf := xif_t h195 hf
      refine mv_iload (pc := 202) B d_Book_newThing_202 4 rfl ?_
      refine mv_lpick [0, 1, 4, 5, 6] rfl ?_
      exact jn204 _ _ _ _ _ _ _ r_g14 hf
    · skip
      have hf := xif_f h195 hf
      refine mv_iconst (pc := 198) (v := 0) B d_Book_newThing_198 (by decide) ?_
      refine mv_goto (pc := 199) (tgt := 204) B d_Book_newThing_199 rfl ?_
      refine mv_lpick [0, 1, 4, 5, 6] rfl ?_
      exact jn204 _ _ _ _ _ _ _ r_g14 hf
  have jn157 : ∀ (x2 : Int32) (hz : mv_H), mv_r hz = mv_r h → f_Book_newThing_157 108 x2 hz = some (rv, rg) → mv_V p l e ({ frames := 7, cells := 0, slots := 0, locals := 153 }) s m ([.ref (al 108), .int a0] : List Value).toArray below meth c (mg dA D al ext) 7 0 0 (mv_Q (mg dA D al ext) below s 0 0 (mv_Uv (fun σ1 => rv = some 0 ∧ rg = σ1 ∧ mv_r σ1 = mv_r h) ("MachineLoomModel$Book$Wrong", al 141) (fun σ1 => rv = none ∧ rg = σ1 ∧ mv_r σ1 = mv_r h))) hz 157 [(0, .ref (al 108)), (2, .int x2)] [] := by
    intro x2 hz r_hz hf
    unfold f_Book_newThing_157 at hf
    refine mv_aload_n (pc := 157) B d_Book_newThing_157 rfl 0 rfl ?_
    refine mv_bipush (pc := 158) (v := 6) B d_Book_newThing_158 (by decide) ?_
    refine mv_iload_n (pc := 160) B d_Book_newThing_160 rfl 1 rfl ?_
    obtain ⟨g15, eg15, hf⟩ := xhv_e hf
    refine mv_callVv (pc := 161) (n := 2) (ci := 12) (C := R_Book) B (mK_ok sk sv) hNs rfl rfl (ch_Book_fault_y l hi _ _ _ eg15) rfl (ma_goodc kc_Book_fault) (B.2.2.2.1 _ k_2185) (B.2.2.2.1 _ k_2187) (B.2.2.2.1 _ ks_92) (B.2.2.2.1 _ k_13) ⟨by decide +kernel, by decide +kernel, by decide +kernel⟩ rfl d_Book_newThing_161 rfl (Nat.le_of_ble_eq_true rfl) ⟨by decide, by decide⟩ ⟨by decide, by decide⟩ ⟨by decide, by decide⟩ (mv_noH hno _) (fun σ161 h161 => ?_)
    obtain ⟨rfl, s_g15⟩ := h161
    have r_g15 : mv_r g15 = mv_r h := s_g15.trans r_hz
    exact mv_vret (pc := 164) B hr d_Book_newThing_164 (Nat.le_refl _) (Nat.le_refl _) (Or.inl ⟨rfl, xrt_i hf r_g15⟩)
  have jn104 : ∀ (x1 : Int32) (x2 : Int32) (x3 : Int32) (x4 : Int32) (x5 : Int32) (x6 : Int32) (hz : mv_H), mv_r hz = mv_r h → f_Book_newThing_104 108 x1 x2 x3 x4 x5 x6 hz = some (rv, rg) → mv_V p l e ({ frames := 7, cells := 0, slots := 0, locals := 153 }) s m ([.ref (al 108), .int a0] : List Value).toArray below meth c (mg dA D al ext) 7 0 0 (mv_Q (mg dA D al ext) below s 0 0 (mv_Uv (fun σ1 => rv = some 0 ∧ rg = σ1 ∧ mv_r σ1 = mv_r h) ("MachineLoomModel$Book$Wrong", al 141) (fun σ1 => rv = none ∧ rg = σ1 ∧ mv_r σ1 = mv_r h))) hz 104 [(0, .ref (al 108)), (1, .int x1), (2, .int x2), (3, .int x3), (4, .int x4), (5, .int x5), (6, .int x6)] [] := by
    intro x1 x2 x3 x4 x5 x6 hz r_hz hf
    unfold f_Book_newThing_104 at hf
    refine mv_aload_n (pc := 104) B d_Book_newThing_104 rfl 0 rfl ?_
    refine mv_bipush (pc := 105) (v := 59) B d_Book_newThing_105 (by decide) ?_
    obtain ⟨og17, g17, eg17, hf⟩ := xtb_e hf
    refine mv_callVUv (pc := 107) (n := 1) (ci := 12) (C := R_Book) B (mK_ok sk sv) hNs rfl rfl (ch_Book_need_y l hi _ (xrw r_hz hb) _ eg17) rfl (ma_goodc kc_Book_need) (B.2.2.2.1 _ k_2177) (B.2.2.2.1 _ k_2179) (B.2.2.2.1 _ ks_91) (B.2.2.2.1 _ k_13) ⟨by decide +kernel, by decide +kernel, by decide +kernel⟩ rfl d_Book_newThing_107 rfl (Nat.le_of_ble_eq_true rfl) ⟨by decide, by decide⟩ ⟨by decide, by decide⟩ ⟨by decide, by decide⟩ (mv_noH hno _) (fun τ9 g9 => Or.inr ⟨rfl, xth hf g9 r_hz⟩) (fun σ107 h107 => ?_)
    obtain ⟨rfl, rfl, s_g17⟩ := h107
    have hf := xt2_s hf
    have r_g17 : mv_r g17 = mv_r h := s_g17.trans r_hz
    refine mv_aload_n (pc := 110) B d_Book_newThing_110 rfl 0 rfl ?_
    refine mv_iload_n (pc := 111) B d_Book_newThing_111 rfl 2 rfl ?_
    refine mv_iload_n (pc := 112) B d_Book_newThing_112 rfl 3 rfl ?_
    obtain ⟨u20, g19, eg19, hf⟩ := xhb_e hf
    refine mv_callVi (pc := 113) (n := 2) (ci := 12) (C := R_Book) B (mK_ok sk sv) hNs rfl rfl (ch_Book_thing_y l hi _ (xrw r_g17 hb) _ _ eg19) rfl (ma_goodc kc_Book_thing) (B.2.2.2.1 _ k_2212) (B.2.2.2.1 _ k_2214) (B.2.2.2.1 _ ks_97) (B.2.2.2.1 _ k_13) ⟨by decide +kernel, by decide +kernel, by decide +kernel⟩ rfl d_Book_newThing_113 rfl (Nat.le_of_ble_eq_true rfl) ⟨by decide, by decide⟩ ⟨by decide, by decide⟩ ⟨by decide, by decide⟩ (mv_noH hno _) (fun w113 σ113 h113 => ?_)
    obtain ⟨rfl, rfl, s_g19⟩ := h113
    have r_g19 : mv_r g19 = mv_r h := s_g19.trans r_g17
    refine mv_if_lt (pc := 116) (tgt := 126) B d_Book_newThing_116 rfl (fun h116 => ?_) (fun h116 => ?_)
    · skip
      have hf := xif_t h116 hf
      refine mv_aload_n (pc := 126) B d_Book_newThing_126 rfl 0 rfl ?_
      refine mv_getI (pc := 127) (ci := 12) (C := R_Book) (T := F_Book) (N := 65) B 17 rfl rfl (by decide) i_Book (B.2.2.2.1 _ k_1860) rfl d_Book_newThing_127 ?_
      refine mv_bipush (pc := 130) (v := 64) B d_Book_newThing_130 (by decide) ?_
      refine mv_icmp_ge (pc := 132) (tgt := 157) B d_Book_newThing_132 rfl (fun h132 => ?_) (fun h132 => ?_)
      · skip
        have hf := xif_t h132 hf
        refine mv_lpick [0, 2] rfl ?_
        exact jn157 _ _ r_g19 hf
      · skip
        have hf := xif_f h132 hf
        refine mv_iload (pc := 135) B d_Book_newThing_135 5 rfl ?_
        refine mv_if_le (pc := 137) (tgt := 165) B d_Book_newThing_137 rfl (fun h137 => ?_) (fun h137 => ?_)
        · skip
          have hf := xif_t h137 hf
          refine mv_lpick [0, 1, 2, 3, 4, 5, 6] rfl ?_
          exact jn165 _ _ _ _ _ _ _ r_g19 hf
        · skip
          have hf := xif_f h137 hf
          refine mv_iload (pc := 140) B d_Book_newThing_140 4 rfl ?_
          refine mv_if_le (pc := 142) (tgt := 165) B d_Book_newThing_142 rfl (fun h142 => ?_) (fun h142 => ?_)
          · skip
            have hf := xif_t h142 hf
            refine mv_lpick [0, 1, 2, 3, 4, 5, 6] rfl ?_
            exact jn165 _ _ _ _ _ _ _ r_g19 hf
          · skip
            have hf := xif_f h142 hf
            refine mv_aload_n (pc := 145) B d_Book_newThing_145 rfl 0 rfl ?_
            refine mv_getI (pc := 146) (ci := 12) (C := R_Book) (T := F_Book) (N := 65) B 19 rfl rfl (by decide) i_Book (B.2.2.2.1 _ k_1864) rfl d_Book_newThing_146 ?_
            refine mv_iload (pc := 149) B d_Book_newThing_149 5 rfl ?_
            refine mv_iadd (pc := 151) B d_Book_newThing_151 ?_
            refine mv_ldc (pc := 152) (v := 65536) B (B.2.2.2.1 _ k_1842) d_Book_newThing_152 ?_
            refine mv_icmp_le (pc := 154) (tgt := 165) B d_Book_newThing_154 rfl (fun h154 => ?_) (fun h154 => ?_)
            · skip
              have hf := xif_t h154 hf
              refine mv_lpick [0, 1, 2, 3, 4, 5, 6] rfl ?_
              exact jn165 _ _ _ _ _ _ _ r_g19 hf
            · skip
              have hf := xif_f h154 hf
              refine mv_lpick [0, 2] rfl ?_
              exact jn157 _ _ r_g19 hf
    · skip
      have hf := xif_f h116 hf
      refine mv_aload_n (pc := 119) B d_Book_newThing_119 rfl 0 rfl ?_
      refine mv_iconst (pc := 120) (v := 2) B d_Book_newThing_120 (by decide) ?_
      refine mv_iload_n (pc := 121) B d_Book_newThing_121 rfl 2 rfl ?_
      obtain ⟨g21, eg21, hf⟩ := xhv_e hf
      refine mv_callVv (pc := 122) (n := 2) (ci := 12) (C := R_Book) B (mK_ok sk sv) hNs rfl rfl (ch_Book_fault_y l hi _ _ _ eg21) rfl (ma_goodc kc_Book_fault) (B.2.2.2.1 _ k_2185) (B.2.2.2.1 _ k_2187) (B.2.2.2.1 _ ks_92) (B.2.2.2.1 _ k_13) ⟨by decide +kernel, by decide +kernel, by decide +kernel⟩ rfl d_Book_newThing_122 rfl (Nat.le_of_ble_eq_true rfl) ⟨by decide, by decide⟩ ⟨by decide, by decide⟩ ⟨by decide, by decide⟩ (mv_noH hno _) (fun σ122 h122 => ?_)
      obtain ⟨rfl, s_g21⟩ := h122
      have r_g21 : mv_r g21 = mv_r h := s_g21.trans r_g19
      exact mv_vret (pc := 125) B hr d_Book_newThing_125 (Nat.le_refl _) (Nat.le_refl _) (Or.inl ⟨rfl, xrt_i hf r_g21⟩)
  unfold f_Book_newThing at hf
  refine mv_aload_n (pc := 0) B d_Book_newThing_0 rfl 0 rfl ?_
  obtain ⟨og23, g23, eg23, hf⟩ := xtb_e hf
  refine mv_callVUv (pc := 1) (n := 0) (ci := 12) (C := R_Book) B (mK_ok sk sv) hNs rfl rfl (ch_Book_pass_y l hi _ (hb) eg23) rfl (ma_goodc kc_Book_pass) (B.2.2.2.1 _ k_2173) (B.2.2.2.1 _ k_2175) (B.2.2.2.1 _ ks_90) (B.2.2.2.1 _ k_13) ⟨by decide +kernel, by decide +kernel, by decide +kernel⟩ rfl d_Book_newThing_1 rfl (Nat.le_of_ble_eq_true rfl) ⟨by decide, by decide⟩ ⟨by decide, by decide⟩ ⟨by decide, by decide⟩ (mv_noH hno _) (fun τ9 g9 => Or.inr ⟨rfl, xth hf g9 rfl⟩) (fun σ1 h1 => ?_)
  obtain ⟨rfl, rfl, s_g23⟩ := h1
  have hf := xt2_s hf
  have r_g23 : mv_r g23 = mv_r h := s_g23.trans rfl
  refine mv_aload_n (pc := 4) B d_Book_newThing_4 rfl 0 rfl ?_
  obtain ⟨og25, g25, eg25, hf⟩ := xtb_e hf
  refine mv_callVUv (pc := 5) (n := 0) (ci := 12) (C := R_Book) B (mK_ok sk sv) hNs rfl rfl (ch_Book_name_y l hi _ (xrw r_g23 hb) eg25) rfl (ma_goodc kc_Book_name) (B.2.2.2.1 _ k_2194) (B.2.2.2.1 _ k_2196) (B.2.2.2.1 _ ks_94) (B.2.2.2.1 _ k_13) ⟨by decide +kernel, by decide +kernel, by decide +kernel⟩ rfl d_Book_newThing_5 rfl (Nat.le_of_ble_eq_true rfl) ⟨by decide, by decide⟩ ⟨by decide, by decide⟩ ⟨by decide, by decide⟩ (mv_noH hno _) (fun τ9 g9 => Or.inr ⟨rfl, xth hf g9 r_g23⟩) (fun σ5 h5 => ?_)
  obtain ⟨rfl, rfl, s_g25⟩ := h5
  have hf := xt2_s hf
  have r_g25 : mv_r g25 = mv_r h := s_g25.trans r_g23
  refine mv_aload_n (pc := 8) B d_Book_newThing_8 rfl 0 rfl ?_
  refine mv_getI (pc := 9) (ci := 12) (C := R_Book) (T := F_Book) (N := 65) B 49 rfl rfl (by decide) i_Book (B.2.2.2.1 _ k_1898) rfl d_Book_newThing_9 ?_
  refine mv_istore_n (pc := 12) B d_Book_newThing_12 rfl (by decide) rfl ?_
  refine mv_aload_n (pc := 13) B d_Book_newThing_13 rfl 1 rfl ?_
  refine mv_getI (pc := 14) (ci := 12) (C := R_Book) (T := F_Book) (N := 65) B 50 rfl rfl (by decide) i_Book (B.2.2.2.1 _ k_1899) rfl d_Book_newThing_14 ?_
  refine mv_istore_n (pc := 17) B d_Book_newThing_17 rfl (by decide) rfl ?_
  refine mv_aload_n (pc := 18) B d_Book_newThing_18 rfl 2 rfl ?_
  refine mv_bipush (pc := 19) (v := 58) B d_Book_newThing_19 (by decide) ?_
  obtain ⟨og27, g27, eg27, hf⟩ := xtb_e hf
  refine mv_callVUv (pc := 21) (n := 1) (ci := 12) (C := R_Book) B (mK_ok sk sv) hNs rfl rfl (ch_Book_need_y l hi _ (xrw r_g25 hb) _ eg27) rfl (ma_goodc kc_Book_need) (B.2.2.2.1 _ k_2177) (B.2.2.2.1 _ k_2179) (B.2.2.2.1 _ ks_91) (B.2.2.2.1 _ k_13) ⟨by decide +kernel, by decide +kernel, by decide +kernel⟩ rfl d_Book_newThing_21 rfl (Nat.le_of_ble_eq_true rfl) ⟨by decide, by decide⟩ ⟨by decide, by decide⟩ ⟨by decide, by decide⟩ (mv_noH hno _) (fun τ9 g9 => Or.inr ⟨rfl, xth hf g9 r_g25⟩) (fun σ21 h21 => ?_)
  obtain ⟨rfl, rfl, s_g27⟩ := h21
  have hf := xt2_s hf
  have r_g27 : mv_r g27 = mv_r h := s_g27.trans r_g25
  refine mv_aload_n (pc := 24) B d_Book_newThing_24 rfl 2 rfl ?_
  refine mv_lconst (pc := 25) (v := 1) B d_Book_newThing_25 (by decide) ?_
  refine mv_ldc2 (pc := 26) (v := 64) B (B.2.2.2.1 _ k_2184) d_Book_newThing_26 ?_
  obtain ⟨og29, g29, eg29, hf⟩ := xtb_e hf
  refine mv_callVUi (pc := 29) (n := 2) (ci := 12) (C := R_Book) B (mK_ok sk sv) hNs rfl rfl (ch_Book_ranged_y l hi _ (xrw r_g27 hb) _ _ eg29) rfl (ma_goodc kc_Book_ranged) (B.2.2.2.1 _ k_2203) (B.2.2.2.1 _ k_2205) (B.2.2.2.1 _ ks_96) (B.2.2.2.1 _ k_13) ⟨by decide +kernel, by decide +kernel, by decide +kernel⟩ rfl d_Book_newThing_29 rfl (Nat.le_of_ble_eq_true rfl) ⟨by decide, by decide⟩ ⟨by decide, by decide⟩ ⟨by decide, by decide⟩ (mv_noH hno _) (fun τ9 g9 => Or.inr ⟨rfl, xth hf g9 r_g27⟩) (fun u30 σ29 h29 => ?_)
  obtain ⟨rfl, rfl, s_g29⟩ := h29
  have hf := xt2_s hf
  have r_g29 : mv_r g29 = mv_r h := s_g29.trans r_g27
  refine mv_istore (pc := 32) B d_Book_newThing_32 (by decide) rfl ?_
  refine mv_iconst (pc := 34) (v := 0) B d_Book_newThing_34 (by decide) ?_
  refine mv_istore (pc := 35) B d_Book_newThing_35 (by decide) rfl ?_
  refine mv_iconst (pc := 37) (v := 0) B d_Book_newThing_37 (by decide) ?_
  refine mv_istore (pc := 38) B d_Book_newThing_38 (by decide) rfl ?_
  refine mv_iload_n (pc := 40) B d_Book_newThing_40 rfl 6 rfl ?_
  refine mv_if_eq (pc := 41) (tgt := 104) B d_Book_newThing_41 rfl (fun h41 => ?_) (fun h41 => ?_)
  · skip
    have hf := xif_t h41 hf
    refine mv_lpick [5, 6, 4, 3, 2, 1, 0] rfl ?_
    exact jn104 _ _ _ _ _ _ _ r_g29 hf
  · skip
    have hf := xif_f h41 hf
    refine mv_aload_n (pc := 44) B d_Book_newThing_44 rfl 5 rfl ?_
    refine mv_bipush (pc := 45) (v := 91) B d_Book_newThing_45 (by decide) ?_
    obtain ⟨og31, g31, eg31, hf⟩ := xtb_e hf
    refine mv_callVUv (pc := 47) (n := 1) (ci := 12) (C := R_Book) B (mK_ok sk sv) hNs rfl rfl (ch_Book_need_y l hi _ (xrw r_g29 hb) _ eg31) rfl (ma_goodc kc_Book_need) (B.2.2.2.1 _ k_2177) (B.2.2.2.1 _ k_2179) (B.2.2.2.1 _ ks_91) (B.2.2.2.1 _ k_13) ⟨by decide +kernel, by decide +kernel, by decide +kernel⟩ rfl d_Book_newThing_47 rfl (Nat.le_of_ble_eq_true rfl) ⟨by decide, by decide⟩ ⟨by decide, by decide⟩ ⟨by decide, by decide⟩ (mv_noH hno _) (fun τ9 g9 => Or.inr ⟨rfl, xth hf g9 r_g29⟩) (fun σ47 h47 => ?_)
    obtain ⟨rfl, rfl, s_g31⟩ := h47
    have hf := xt2_s hf
    have r_g31 : mv_r g31 = mv_r h := s_g31.trans r_g29
    refine mv_aload_n (pc := 50) B d_Book_newThing_50 rfl 5 rfl ?_
    refine mv_dup (pc := 51) B d_Book_newThing_51 rfl ?_
    refine mv_getI (pc := 52) (ci := 12) (C := R_Book) (T := F_Book) (N := 65) B 8 rfl rfl (by decide) i_Book (B.2.2.2.1 _ k_1851) rfl d_Book_newThing_52 ?_
    refine mv_iconst (pc := 55) (v := 1) B d_Book_newThing_55 (by decide) ?_
    refine mv_iadd (pc := 56) B d_Book_newThing_56 ?_
    refine mv_putI (pc := 57) (ci := 12) (C := R_Book) (T := F_Book) (N := 65) B 8 rfl rfl (by decide) i_Book t_Book_ok n_Book (B.2.2.2.1 _ k_1851) rfl rfl rfl rfl d_Book_newThing_57 ?_
    refine mvh_hp (R9 := mv_r h) hf r_g31 (fun g33 hf r_g33 => ?_)
    refine mv_aload_n (pc := 60) B d_Book_newThing_60 rfl 5 rfl ?_
    refine mv_lconst (pc := 61) (v := 1) B d_Book_newThing_61 (by decide) ?_
    refine mv_ldc2 (pc := 62) (v := 65536) B (B.2.2.2.1 _ k_2210) d_Book_newThing_62 ?_
    obtain ⟨og34, g34, eg34, hf⟩ := xtb_e hf
    refine mv_callVUi (pc := 65) (n := 2) (ci := 12) (C := R_Book) B (mK_ok sk sv) hNs rfl rfl (ch_Book_ranged_y l hi _ (xrw r_g33 hb) _ _ eg34) rfl (ma_goodc kc_Book_ranged) (B.2.2.2.1 _ k_2203) (B.2.2.2.1 _ k_2205) (B.2.2.2.1 _ ks_96) (B.2.2.2.1 _ k_13) ⟨by decide +kernel, by decide +kernel, by decide +kernel⟩ rfl d_Book_newThing_65 rfl (Nat.le_of_ble_eq_true rfl) ⟨by decide, by decide⟩ ⟨by decide, by decide⟩ ⟨by decide, by decide⟩ (mv_noH hno _) (fun τ9 g9 => Or.inr ⟨rfl, xth hf g9 r_g33⟩) (fun u35 σ65 h65 => ?_)
    obtain ⟨rfl, rfl, s_g34⟩ := h65
    have hf := xt2_s hf
    have r_g34 : mv_r g34 = mv_r h := s_g34.trans r_g33
    refine mv_istore (pc := 68) B d_Book_newThing_68 (by decide) rfl ?_
    refine mv_aload_n (pc := 70) B d_Book_newThing_70 rfl 5 rfl ?_
    refine mv_bipush (pc := 71) (v := 93) B d_Book_newThing_71 (by decide) ?_
    obtain ⟨og36, g36, eg36, hf⟩ := xtb_e hf
    refine mv_callVUv (pc := 73) (n := 1) (ci := 12) (C := R_Book) B (mK_ok sk sv) hNs rfl rfl (ch_Book_need_y l hi _ (xrw r_g34 hb) _ eg36) rfl (ma_goodc kc_Book_need) (B.2.2.2.1 _ k_2177) (B.2.2.2.1 _ k_2179) (B.2.2.2.1 _ ks_91) (B.2.2.2.1 _ k_13) ⟨by decide +kernel, by decide +kernel, by decide +kernel⟩ rfl d_Book_newThing_73 rfl (Nat.le_of_ble_eq_true rfl) ⟨by decide, by decide⟩ ⟨by decide, by decide⟩ ⟨by decide, by decide⟩ (mv_noH hno _) (fun τ9 g9 => Or.inr ⟨rfl, xth hf g9 r_g34⟩) (fun σ73 h73 => ?_)
    obtain ⟨rfl, rfl, s_g36⟩ := h73
    have hf := xt2_s hf
    have r_g36 : mv_r g36 = mv_r h := s_g36.trans r_g34
    refine mv_aload_n (pc := 76) B d_Book_newThing_76 rfl 5 rfl ?_
    refine mv_dup (pc := 77) B d_Book_newThing_77 rfl ?_
    refine mv_getI (pc := 78) (ci := 12) (C := R_Book) (T := F_Book) (N := 65) B 8 rfl rfl (by decide) i_Book (B.2.2.2.1 _ k_1851) rfl d_Book_newThing_78 ?_
    refine mv_iconst (pc := 81) (v := 1) B d_Book_newThing_81 (by decide) ?_
    refine mv_isub (pc := 82) B d_Book_newThing_82 ?_
    refine mv_putI (pc := 83) (ci := 12) (C := R_Book) (T := F_Book) (N := 65) B 8 rfl rfl (by decide) i_Book t_Book_ok n_Book (B.2.2.2.1 _ k_1851) rfl rfl rfl rfl d_Book_newThing_83 ?_
    refine mvh_hp (R9 := mv_r h) hf r_g36 (fun g38 hf r_g38 => ?_)
    refine mv_aload_n (pc := 86) B d_Book_newThing_86 rfl 5 rfl ?_
    refine mv_ldcwS (pc := 87) B (hNs.2.1 142 (by decide)).1 d_Book_newThing_87 ?_
    obtain ⟨u40, g39, eg39, hf⟩ := xhb_e hf
    refine mv_callVi (pc := 90) (n := 1) (ci := 12) (C := R_Book) B (mK_ok sk sv) hNs rfl rfl (ch_Book_is_y l hi _ (xrw r_g38 hb) _ (by decide) eg39) rfl (ma_goodc kc_Book_is) (B.2.2.2.1 _ k_2163) (B.2.2.2.1 _ k_2165) (B.2.2.2.1 _ ks_88) (B.2.2.2.1 _ k_13) ⟨by decide +kernel, by decide +kernel, by decide +kernel⟩ rfl d_Book_newThing_90 rfl (Nat.le_of_ble_eq_true rfl) ⟨by decide, by decide⟩ ⟨by decide, by decide⟩ ⟨by decide, by decide⟩ (mv_noH hno _) (fun w90 σ90 h90 => ?_)
    obtain ⟨rfl, rfl, s_g39⟩ := h90
    have r_g39 : mv_r g39 = mv_r h := s_g39.trans r_g38
    refine mv_istore (pc := 93) B d_Book_newThing_93 (by decide) rfl ?_
    refine mv_iload (pc := 95) B d_Book_newThing_95 0 rfl ?_
    refine mv_if_eq (pc := 97) (tgt := 104) B d_Book_newThing_97 rfl (fun h97 => ?_) (fun h97 => ?_)
    · skip
      have hf := xif_t h97 hf
      refine mv_lpick [5, 6, 4, 3, 2, 1, 0] rfl ?_
      exact jn104 _ _ _ _ _ _ _ r_g39 hf
    · skip
      have hf := xif_f h97 hf
      refine mv_aload_n (pc := 100) B d_Book_newThing_100 rfl 5 rfl ?_
      obtain ⟨og41, g41, eg41, hf⟩ := xtb_e hf
      refine mv_callVUv (pc := 101) (n := 0) (ci := 12) (C := R_Book) B (mK_ok sk sv) hNs rfl rfl (ch_Book_pass_y l hi _ (xrw r_g39 hb) eg41) rfl (ma_goodc kc_Book_pass) (B.2.2.2.1 _ k_2173) (B.2.2.2.1 _ k_2175) (B.2.2.2.1 _ ks_90) (B.2.2.2.1 _ k_13) ⟨by decide +kernel, by decide +kernel, by decide +kernel⟩ rfl d_Book_newThing_101 rfl (Nat.le_of_ble_eq_true rfl) ⟨by decide, by decide⟩ ⟨by decide, by decide⟩ ⟨by decide, by decide⟩ (mv_noH hno _) (fun τ9 g9 => Or.inr ⟨rfl, xth hf g9 r_g39⟩) (fun σ101 h101 => ?_)
      obtain ⟨rfl, rfl, s_g41⟩ := h101
      have hf := xt2_s hf
      have r_g41 : mv_r g41 = mv_r h := s_g41.trans r_g39
      refine mv_lpick [5, 6, 4, 3, 2, 1, 0] rfl ?_
      exact jn104 _ _ _ _ _ _ _ r_g41 hf
def f_Book_fetch_167 (P : Nat) (x4 : Int32) (x5 : Int32) (x6 : Int32) (x7 : Int32) (hz : mv_H) : Option (Option Int32 × mv_H) := xk (mv_si hz P 22 ((mv_i hz P 22) + (1 : Int32))) fun g1 => if (1 : Int32) < (mv_i g1 P 22) then (some (some 0, g1)) else (if x6 = (0 : Int32) then (some (some 0, g1)) else (if x7 = (0 : Int32) then (some (some 0, g1)) else (xk (mv_si g1 P 18 x4) fun g2 => xk (mv_si g2 P 21 x5) fun g3 => some (some 0, g3))))
def f_Book_fetch_153 (P : Nat) (x1 : Int32) (x4 : Int32) (x5 : Int32) (x6 : Int32) (x7 : Int32) (hz : mv_H) : Option (Option Int32 × mv_H) := if (mv_i hz P 22) ≤ (0 : Int32) then (f_Book_fetch_167 P x4 x5 x6 x7 hz) else (xhv (f_Book_fault P hz (6 : Int32) x1) fun g4 => f_Book_fetch_167 P x4 x5 x6 x7 g4)
def f_Book_fetch_139 (P : Nat) (x1 : Int32) (x4 : Int32) (x5 : Int32) (x6 : Int32) (x7 : Int32) (hz : mv_H) : Option (Option Int32 × mv_H) := if x7 = (0 : Int32) then (xhv (f_Book_fault P hz (2 : Int32) (mv_i hz P 49)) fun g6 => f_Book_fetch_153 P x1 x4 x5 x6 x7 g6) else (f_Book_fetch_153 P x1 x4 x5 x6 x7 hz)
def f_Book_fetch_126 (P : Nat) (x1 : Int32) (x2 : Int32) (x4 : Int32) (x5 : Int32) (x6 : Int32) (y0 : Int32) (hz : mv_H) : Option (Option Int32 × mv_H) := if x6 = (0 : Int32) then (xhv (f_Book_fault P hz (2 : Int32) x2) fun g8 => f_Book_fetch_139 P x1 x4 x5 x6 y0 g8) else (f_Book_fetch_139 P x1 x4 x5 x6 y0 hz)
def f_Book_fetch_125 (P : Nat) (x1 : Int32) (x2 : Int32) (x4 : Int32) (x5 : Int32) (x6 : Int32) (hz : mv_H) : Option (Option Int32 × mv_H) := f_Book_fetch_126 P x1 x2 x4 x5 x6 (0 : Int32) hz
def f_Book_fetch_121 (P : Nat) (x1 : Int32) (x2 : Int32) (x4 : Int32) (x5 : Int32) (x6 : Int32) (hz : mv_H) : Option (Option Int32 × mv_H) := f_Book_fetch_126 P x1 x2 x4 x5 x6 (1 : Int32) hz
def f_Book_fetch_82 (P : Nat) (x1 : Int32) (x2 : Int32) (x4 : Int32) (x5 : Int32) (y0 : Int32) (hz : mv_H) : Option (Option Int32 × mv_H) := if x5 < (0 : Int32) then (f_Book_fetch_125 P x1 x2 x4 x5 y0 hz) else (bif xvi x5 4100 then if (mv_a hz (P + 6) (x5).toNatClampNeg) = (0 : Int32) then (f_Book_fetch_125 P x1 x2 x4 x5 y0 hz) else (bif xvi x5 4100 then if (mv_a hz (P + 3) (x5).toNatClampNeg) = (8 : Int32) then (f_Book_fetch_121 P x1 x2 x4 x5 y0 hz) else (bif xvi x5 4100 then if (mv_a hz (P + 3) (x5).toNatClampNeg) = (0 : Int32) then (f_Book_fetch_121 P x1 x2 x4 x5 y0 hz) else (f_Book_fetch_125 P x1 x2 x4 x5 y0 hz) else none) else none) else none)
def f_Book_fetch_81 (P : Nat) (x1 : Int32) (x2 : Int32) (x4 : Int32) (x5 : Int32) (hz : mv_H) : Option (Option Int32 × mv_H) := f_Book_fetch_82 P x1 x2 x4 x5 (0 : Int32) hz
def f_Book_fetch (P : Nat) (h : mv_H) : Option (Option Int32 × mv_H) := xtb (f_Book_pass P h) fun u14 g13 => xtb (f_Book_name P g13) fun u16 g15 => xtb (f_Book_needWord P g15 145) fun u18 g17 => xtb (f_Book_name P g17) fun u20 g19 => xtb (f_Book_need P g19 (59 : Int32)) fun u22 g21 => xhb (f_Book_thing P g21 (mv_i g15 P 49) (mv_i g15 P 50)) fun u24 g23 => xhb (f_Book_thing P g23 (mv_i g23 P 49) (mv_i g23 P 50)) fun u26 g25 => if u24 < (0 : Int32) then (f_Book_fetch_81 P (mv_i h P 5) (mv_i g15 P 49) u24 u26 g25) else (bif xvi u24 4100 then if (mv_a g25 (P + 6) (u24).toNatClampNeg) = (0 : Int32) then (f_Book_fetch_82 P (mv_i h P 5) (mv_i g15 P 49) u24 u26 (1 : Int32) g25) else (f_Book_fetch_81 P (mv_i h P 5) (mv_i g15 P 49) u24 u26 g25) else none)
set_option maxHeartbeats 4000000 in
set_option maxRecDepth 100000 in
theorem ch_Book_fetch_x (l : Launch) {dA : FieldType → ClassId} {D : va_G} {al : Nat → Nat} {ext : mv_Sh} {sk sv : Nat → Nat} (hi : mv_inj (mg dA D al ext)) (h : mv_H) (hb : Br 74 (mv_r h))  {rv : Option Int32} {rg : mv_H} (hf : f_Book_fetch 74 h = some (rv, rg)) : mv_C l y_Book_fetch (Cond.code y_Book_fetch b_Book_fetch 8 (Option.none : Option Jvm.ClassFile.FieldType) :: ma) ({ frames := 7, cells := 0, slots := 0, locals := 151 }) (mg dA D al ext) (mK sk sv) [.ref (al 74)] h (mv_Uv (fun σ1 => rv = some 0 ∧ rg = σ1 ∧ mv_r σ1 = mv_r h) ("MachineLoomModel$Book$Wrong", al 107) (fun σ1 => rv = none ∧ rg = σ1 ∧ mv_r σ1 = mv_r h)) := by
  refine mv_C.ofV (cc := b_Book_fetch) (nL := 8) (ret := (Option.none : Option Jvm.ClassFile.FieldType)) (by decide +kernel) rfl hi (Nat.le_of_ble_eq_true rfl) ?_
  intro p e s m below meth c B hNs hr hnm hno
  have jn167 : ∀ (x4 : Int32) (x5 : Int32) (x6 : Int32) (x7 : Int32) (hz : mv_H), mv_r hz = mv_r h → f_Book_fetch_167 74 x4 x5 x6 x7 hz = some (rv, rg) → mv_V p l e ({ frames := 7, cells := 0, slots := 0, locals := 151 }) s m ([.ref (al 74)] : List Value).toArray below meth c (mg dA D al ext) 8 0 0 (mv_Q (mg dA D al ext) below s 0 0 (mv_Uv (fun σ1 => rv = some 0 ∧ rg = σ1 ∧ mv_r σ1 = mv_r h) ("MachineLoomModel$Book$Wrong", al 107) (fun σ1 => rv = none ∧ rg = σ1 ∧ mv_r σ1 = mv_r h))) hz 167 [(0, .ref (al 74)), (4, .int x4), (5, .int x5), (6, .int x6), (7, .int x7)] [] := by
    intro x4 x5 x6 x7 hz r_hz hf
    unfold f_Book_fetch_167 at hf
    refine mv_aload_n (pc := 167) B d_Book_fetch_167 rfl 0 rfl ?_
    refine mv_dup (pc := 168) B d_Book_fetch_168 rfl ?_
    refine mv_getI (pc := 169) (ci := 12) (C := R_Book) (T := F_Book) (N := 65) B 22 rfl rfl (by decide) i_Book (B.2.2.2.1 _ k_1867) rfl d_Book_fetch_169 ?_
    refine mv_iconst (pc := 172) (v := 1) B d_Book_fetch_172 (by decide) ?_
    refine mv_iadd (pc := 173) B d_Book_fetch_173 ?_
    refine mv_putI (pc := 174) (ci := 12) (C := R_Book) (T := F_Book) (N := 65) B 22 rfl rfl (by decide) i_Book t_Book_ok n_Book (B.2.2.2.1 _ k_1867) rfl rfl rfl rfl d_Book_fetch_174 ?_
    refine mvh_hp (R9 := mv_r h) hf r_hz (fun g1 hf r_g1 => ?_)
    refine mv_aload_n (pc := 177) B d_Book_fetch_177 rfl 0 rfl ?_
    refine mv_getI (pc := 178) (ci := 12) (C := R_Book) (T := F_Book) (N := 65) B 22 rfl rfl (by decide) i_Book (B.2.2.2.1 _ k_1867) rfl d_Book_fetch_178 ?_
    refine mv_iconst (pc := 181) (v := 1) B d_Book_fetch_181 (by decide) ?_
    refine mv_icmp_gt (pc := 182) (tgt := 195) B d_Book_fetch_182 rfl (fun h182 => ?_) (fun h182 => ?_)
    · skip
      have hf := xif_t h182 hf
      exact mv_vret (pc := 195) B hr d_Book_fetch_195 (Nat.le_refl _) (Nat.le_refl _) (Or.inl ⟨rfl, xrt_i hf r_g1⟩)
    · skip
      have hf := xif_f h182 hf
      refine mv_iload (pc := 185) B d_Book_fetch_185 3 rfl ?_
      refine mv_if_eq (pc := 187) (tgt := 195) B d_Book_fetch_187 rfl (fun h187 => ?_) (fun h187 => ?_)
      · skip
        have hf := xif_t h187 hf
        exact mv_vret (pc := 195) B hr d_Book_fetch_195 (Nat.le_refl _) (Nat.le_refl _) (Or.inl ⟨rfl, xrt_i hf r_g1⟩)
      · skip
        have hf := xif_f h187 hf
        refine mv_iload (pc := 190) B d_Book_fetch_190 4 rfl ?_
        refine mv_if_ne (pc := 192) (tgt := 196) B d_Book_fetch_192 rfl (fun h192 => ?_) (fun h192 => ?_)
        · skip
          have hf := xif_f h192 hf
          refine mv_aload_n (pc := 196) B d_Book_fetch_196 rfl 0 rfl ?_
          refine mv_iload (pc := 197) B d_Book_fetch_197 1 rfl ?_
          refine mv_putI (pc := 199) (ci := 12) (C := R_Book) (T := F_Book) (N := 65) B 18 rfl rfl (by decide) i_Book t_Book_ok n_Book (B.2.2.2.1 _ k_1862) rfl rfl rfl rfl d_Book_fetch_199 ?_
          refine mvh_hp (R9 := mv_r h) hf r_g1 (fun g2 hf r_g2 => ?_)
          refine mv_aload_n (pc := 202) B d_Book_fetch_202 rfl 0 rfl ?_
          refine mv_iload (pc := 203) B d_Book_fetch_203 2 rfl ?_
          refine mv_putI (pc := 205) (ci := 12) (C := R_Book) (T := F_Book) (N := 65) B 21 rfl rfl (by decide) i_Book t_Book_ok n_Book (B.2.2.2.1 _ k_1866) rfl rfl rfl rfl d_Book_fetch_205 ?_
          refine mvh_hp (R9 := mv_r h) hf r_g2 (fun g3 hf r_g3 => ?_)
          exact mv_vret (pc := 208) B hr d_Book_fetch_208 (Nat.le_refl _) (Nat.le_refl _) (Or.inl ⟨rfl, xrt_i hf r_g3⟩)
        · skip
          have hf := xif_t h192 hf
          exact mv_vret (pc := 195) B hr d_Book_fetch_195 (Nat.le_refl _) (Nat.le_refl _) (Or.inl ⟨rfl, xrt_i hf r_g1⟩)
  have jn153 : ∀ (x1 : Int32) (x4 : Int32) (x5 : Int32) (x6 : Int32) (x7 : Int32) (hz : mv_H), mv_r hz = mv_r h → f_Book_fetch_153 74 x1 x4 x5 x6 x7 hz = some (rv, rg) → mv_V p l e ({ frames := 7, cells := 0, slots := 0, locals := 151 }) s m ([.ref (al 74)] : List Value).toArray below meth c (mg dA D al ext) 8 0 0 (mv_Q (mg dA D al ext) below s 0 0 (mv_Uv (fun σ1 => rv = some 0 ∧ rg = σ1 ∧ mv_r σ1 = mv_r h) ("MachineLoomModel$Book$Wrong", al 107) (fun σ1 => rv = none ∧ rg = σ1 ∧ mv_r σ1 = mv_r h))) hz 153 [(0, .ref (al 74)), (1, .int x1), (4, .int x4), (5, .int x5), (6, .int x6), (7, .int x7)] [] := by
    intro x1 x4 x5 x6 x7 hz r_hz hf
    unfold f_Book_fetch_153 at hf
    refine mv_aload_n (pc := 153) B d_Book_fetch_153 rfl 0 rfl ?_
    refine mv_getI (pc := 154) (ci := 12) (C := R_Book) (T := F_Book) (N := 65) B 22 rfl rfl (by decide) i_Book (B.2.2.2.1 _ k_1867) rfl d_Book_fetch_154 ?_
    refine mv_if_le (pc := 157) (tgt := 167) B d_Book_fetch_157 rfl (fun h157 => ?_) (fun h157 => ?_)
    · skip
      have hf := xif_t h157 hf
      refine mv_lpick [0, 2, 3, 4, 5] rfl ?_
      exact jn167 _ _ _ _ _ r_hz hf
    · skip
      have hf := xif_f h157 hf
      refine mv_aload_n (pc := 160) B d_Book_fetch_160 rfl 0 rfl ?_
      refine mv_bipush (pc := 161) (v := 6) B d_Book_fetch_161 (by decide) ?_
      refine mv_iload_n (pc := 163) B d_Book_fetch_163 rfl 1 rfl ?_
      obtain ⟨g4, eg4, hf⟩ := xhv_e hf
      refine mv_callVv (pc := 164) (n := 2) (ci := 12) (C := R_Book) B (mK_ok sk sv) hNs rfl rfl (ch_Book_fault_x l hi _ _ _ eg4) rfl (ma_goodc kc_Book_fault) (B.2.2.2.1 _ k_2185) (B.2.2.2.1 _ k_2187) (B.2.2.2.1 _ ks_92) (B.2.2.2.1 _ k_13) ⟨by decide +kernel, by decide +kernel, by decide +kernel⟩ rfl d_Book_fetch_164 rfl (Nat.le_of_ble_eq_true rfl) ⟨by decide, by decide⟩ ⟨by decide, by decide⟩ ⟨by decide, by decide⟩ (mv_noH hno _) (fun σ164 h164 => ?_)
      obtain ⟨rfl, s_g4⟩ := h164
      have r_g4 : mv_r g4 = mv_r h := s_g4.trans r_hz
      refine mv_lpick [0, 2, 3, 4, 5] rfl ?_
      exact jn167 _ _ _ _ _ r_g4 hf
  have jn139 : ∀ (x1 : Int32) (x4 : Int32) (x5 : Int32) (x6 : Int32) (x7 : Int32) (hz : mv_H), mv_r hz = mv_r h → f_Book_fetch_139 74 x1 x4 x5 x6 x7 hz = some (rv, rg) → mv_V p l e ({ frames := 7, cells := 0, slots := 0, locals := 151 }) s m ([.ref (al 74)] : List Value).toArray below meth c (mg dA D al ext) 8 0 0 (mv_Q (mg dA D al ext) below s 0 0 (mv_Uv (fun σ1 => rv = some 0 ∧ rg = σ1 ∧ mv_r σ1 = mv_r h) ("MachineLoomModel$Book$Wrong", al 107) (fun σ1 => rv = none ∧ rg = σ1 ∧ mv_r σ1 = mv_r h))) hz 139 [(0, .ref (al 74)), (1, .int x1), (4, .int x4), (5, .int x5), (6, .int x6), (7, .int x7)] [] := by
    intro x1 x4 x5 x6 x7 hz r_hz hf
    unfold f_Book_fetch_139 at hf
    refine mv_iload (pc := 139) B d_Book_fetch_139 5 rfl ?_
    refine mv_if_ne (pc := 141) (tgt := 153) B d_Book_fetch_141 rfl (fun h141 => ?_) (fun h141 => ?_)
    · skip
      have hf := xif_f h141 hf
      refine mv_lpick [0, 1, 2, 3, 4, 5] rfl ?_
      exact jn153 _ _ _ _ _ _ r_hz hf
    · skip
      have hf := xif_t h141 hf
      refine mv_aload_n (pc := 144) B d_Book_fetch_144 rfl 0 rfl ?_
      refine mv_iconst (pc := 145) (v := 2) B d_Book_fetch_145 (by decide) ?_
      refine mv_aload_n (pc := 146) B d_Book_fetch_146 rfl 0 rfl ?_
      refine mv_getI (pc := 147) (ci := 12) (C := R_Book) (T := F_Book) (N := 65) B 49 rfl rfl (by decide) i_Book (B.2.2.2.1 _ k_1898) rfl d_Book_fetch_147 ?_
      obtain ⟨g6, eg6, hf⟩ := xhv_e hf
      refine mv_callVv (pc := 150) (n := 2) (ci := 12) (C := R_Book) B (mK_ok sk sv) hNs rfl rfl (ch_Book_fault_x l hi _ _ _ eg6) rfl (ma_goodc kc_Book_fault) (B.2.2.2.1 _ k_2185) (B.2.2.2.1 _ k_2187) (B.2.2.2.1 _ ks_92) (B.2.2.2.1 _ k_13) ⟨by decide +kernel, by decide +kernel, by decide +kernel⟩ rfl d_Book_fetch_150 rfl (Nat.le_of_ble_eq_true rfl) ⟨by decide, by decide⟩ ⟨by decide, by decide⟩ ⟨by decide, by decide⟩ (mv_noH hno _) (fun σ150 h150 => ?_)
      obtain ⟨rfl, s_g6⟩ := h150
      have r_g6 : mv_r g6 = mv_r h := s_g6.trans r_hz
      refine mv_lpick [0, 1, 2, 3, 4, 5] rfl ?_
      exact jn153 _ _ _ _ _ _ r_g6 hf
  have jn126 : ∀ (x1 : Int32) (x2 : Int32) (x4 : Int32) (x5 : Int32) (x6 : Int32) (y0 : Int32) (hz : mv_H), mv_r hz = mv_r h → f_Book_fetch_126 74 x1 x2 x4 x5 x6 y0 hz = some (rv, rg) → mv_V p l e ({ frames := 7, cells := 0, slots := 0, locals := 151 }) s m ([.ref (al 74)] : List Value).toArray below meth c (mg dA D al ext) 8 0 0 (mv_Q (mg dA D al ext) below s 0 0 (mv_Uv (fun σ1 => rv = some 0 ∧ rg = σ1 ∧ mv_r σ1 = mv_r h) ("MachineLoomModel$Book$Wrong", al 107) (fun σ1 => rv = none ∧ rg = σ1 ∧ mv_r σ1 = mv_r h))) hz 126 [(0, .ref (al 74)), (1, .int x1), (2, .int x2), (4, .int x4), (5, .int x5), (6, .int x6)] [.int y0] := by
    intro x1 x2 x4 x5 x6 y0 hz r_hz hf
    unfold f_Book_fetch_126 at hf
    refine mv_istore (pc := 126) B d_Book_fetch_126 (by decide) rfl ?_
    refine mv_iload (pc := 128) B d_Book_fetch_128 6 rfl ?_
    refine mv_if_ne (pc := 130) (tgt := 139) B d_Book_fetch_130 rfl (fun h130 => ?_) (fun h130 => ?_)
    · skip
      have hf := xif_f h130 hf
      refine mv_lpick [1, 2, 4, 5, 6, 0] rfl ?_
      exact jn139 _ _ _ _ _ _ r_hz hf
    · skip
      have hf := xif_t h130 hf
      refine mv_aload_n (pc := 133) B d_Book_fetch_133 rfl 1 rfl ?_
      refine mv_iconst (pc := 134) (v := 2) B d_Book_fetch_134 (by decide) ?_
      refine mv_iload_n (pc := 135) B d_Book_fetch_135 rfl 3 rfl ?_
      obtain ⟨g8, eg8, hf⟩ := xhv_e hf
      refine mv_callVv (pc := 136) (n := 2) (ci := 12) (C := R_Book) B (mK_ok sk sv) hNs rfl rfl (ch_Book_fault_x l hi _ _ _ eg8) rfl (ma_goodc kc_Book_fault) (B.2.2.2.1 _ k_2185) (B.2.2.2.1 _ k_2187) (B.2.2.2.1 _ ks_92) (B.2.2.2.1 _ k_13) ⟨by decide +kernel, by decide +kernel, by decide +kernel⟩ rfl d_Book_fetch_136 rfl (Nat.le_of_ble_eq_true rfl) ⟨by decide, by decide⟩ ⟨by decide, by decide⟩ ⟨by decide, by decide⟩ (mv_noH hno _) (fun σ136 h136 => ?_)
      obtain ⟨rfl, s_g8⟩ := h136
      have r_g8 : mv_r g8 = mv_r h := s_g8.trans r_hz
      refine mv_lpick [1, 2, 4, 5, 6, 0] rfl ?_
      exact jn139 _ _ _ _ _ _ r_g8 hf
  have jn125 : ∀ (x1 : Int32) (x2 : Int32) (x4 : Int32) (x5 : Int32) (x6 : Int32) (hz : mv_H), mv_r hz = mv_r h → f_Book_fetch_125 74 x1 x2 x4 x5 x6 hz = some (rv, rg) → mv_V p l e ({ frames := 7, cells := 0, slots := 0, locals := 151 }) s m ([.ref (al 74)] : List Value).toArray below meth c (mg dA D al ext) 8 0 0 (mv_Q (mg dA D al ext) below s 0 0 (mv_Uv (fun σ1 => rv = some 0 ∧ rg = σ1 ∧ mv_r σ1 = mv_r h) ("MachineLoomModel$Book$Wrong", al 107) (fun σ1 => rv = none ∧ rg = σ1 ∧ mv_r σ1 = mv_r h))) hz 125 [(0, .ref (al 74)), (1, .int x1), (2, .int x2), (4, .int x4), (5, .int x5), (6, .int x6)] [] := by
    intro x1 x2 x4 x5 x6 hz r_hz hf
    unfold f_Book_fetch_125 at hf
    refine mv_iconst (pc := 125) (v := 0) B d_Book_fetch_125 (by decide) ?_
    refine mv_lpick [0, 1, 2, 3, 4, 5] rfl ?_
    exact jn126 _ _ _ _ _ _ _ r_hz hf
  have jn121 : ∀ (x1 : Int32) (x2 : Int32) (x4 : Int32) (x5 : Int32) (x6 : Int32) (hz : mv_H), mv_r hz = mv_r h → f_Book_fetch_121 74 x1 x2 x4 x5 x6 hz = some (rv, rg) → mv_V p l e ({ frames := 7, cells := 0, slots := 0, locals := 151 }) s m ([.ref (al 74)] : List Value).toArray below meth c (mg dA D al ext) 8 0 0 (mv_Q (mg dA D al ext) below s 0 0 (mv_Uv (fun σ1 => rv = some 0 ∧ rg = σ1 ∧ mv_r σ1 = mv_r h) ("MachineLoomModel$Book$Wrong", al 107) (fun σ1 => rv = none ∧ rg = σ1 ∧ mv_r σ1 = mv_r h))) hz 121 [(0, .ref (al 74)), (1, .int x1), (2, .int x2), (4, .int x4), (5, .int x5), (6, .int x6)] [] := by
    intro x1 x2 x4 x5 x6 hz r_hz hf
    unfold f_Book_fetch_121 at hf
    refine mv_iconst (pc := 121) (v := 1) B d_Book_fetch_121 (by decide) ?_
    refine mv_goto (pc := 122) (tgt := 126) B d_Book_fetch_122 rfl ?_
    refine mv_lpick [0, 1, 2, 3, 4, 5] rfl ?_
    exact jn126 _ _ _ _ _ _ _ r_hz hf
  have jn82 : ∀ (x1 : Int32) (x2 : Int32) (x4 : Int32) (x5 : Int32) (y0 : Int32) (hz : mv_H), mv_r hz = mv_r h → f_Book_fetch_82 74 x1 x2 x4 x5 y0 hz = some (rv, rg) → mv_V p l e ({ frames := 7, cells := 0, slots := 0, locals := 151 }) s m ([.ref (al 74)] : List Value).toArray below meth c (mg dA D al ext) 8 0 0 (mv_Q (mg dA D al ext) below s 0 0 (mv_Uv (fun σ1 => rv = some 0 ∧ rg = σ1 ∧ mv_r σ1 = mv_r h) ("MachineLoomModel$Book$Wrong", al 107) (fun σ1 => rv = none ∧ rg = σ1 ∧ mv_r σ1 = mv_r h))) hz 82 [(0, .ref (al 74)), (1, .int x1), (2, .int x2), (4, .int x4), (5, .int x5)] [.int y0] := by
    intro x1 x2 x4 x5 y0 hz r_hz hf
    unfold f_Book_fetch_82 at hf
    refine mv_istore (pc := 82) B d_Book_fetch_82 (by decide) rfl ?_
    refine mv_iload (pc := 84) B d_Book_fetch_84 5 rfl ?_
    refine mv_if_lt (pc := 86) (tgt := 125) B d_Book_fetch_86 rfl (fun h86 => ?_) (fun h86 => ?_)
    · skip
      have hf := xif_t h86 hf
      refine mv_lpick [1, 2, 3, 4, 5, 0] rfl ?_
      exact jn125 _ _ _ _ _ _ r_hz hf
    · skip
      have hf := xif_f h86 hf
      refine mv_aload_n (pc := 89) B d_Book_fetch_89 rfl 1 rfl ?_
      refine mv_getR (pc := 90) (ci := 12) (C := R_Book) (T := F_Book) (N := 65) B 15 rfl rfl (by decide) i_Book (B.2.2.2.1 _ k_1858) rfl ((congrFun (congrFun r_hz 74) 15).trans (hb.1 74 15 _ rfl)) d_Book_fetch_90 ?_
      refine mv_iload (pc := 93) B d_Book_fetch_93 5 rfl ?_
      obtain ⟨q10, hf⟩ := xvi_e hf
      refine mv_zald (pc := 95) B rfl q10 d_Book_fetch_95 ?_
      refine mv_if_eq (pc := 96) (tgt := 125) B d_Book_fetch_96 rfl (fun h96 => ?_) (fun h96 => ?_)
      · skip
        have hf := xif_t h96 hf
        refine mv_lpick [1, 2, 3, 4, 5, 0] rfl ?_
        exact jn125 _ _ _ _ _ _ r_hz hf
      · skip
        have hf := xif_f h96 hf
        refine mv_aload_n (pc := 99) B d_Book_fetch_99 rfl 1 rfl ?_
        refine mv_getR (pc := 100) (ci := 12) (C := R_Book) (T := F_Book) (N := 65) B 12 rfl rfl (by decide) i_Book (B.2.2.2.1 _ k_1855) rfl ((congrFun (congrFun r_hz 74) 12).trans (hb.1 74 12 _ rfl)) d_Book_fetch_100 ?_
        refine mv_iload (pc := 103) B d_Book_fetch_103 5 rfl ?_
        obtain ⟨q11, hf⟩ := xvi_e hf
        refine mv_iald (pc := 105) B rfl q11 d_Book_fetch_105 ?_
        refine mv_bipush (pc := 106) (v := 8) B d_Book_fetch_106 (by decide) ?_
        refine mv_icmp_eq (pc := 108) (tgt := 121) B d_Book_fetch_108 rfl (fun h108 => ?_) (fun h108 => ?_)
        · skip
          have hf := xif_t h108 hf
          refine mv_lpick [1, 2, 3, 4, 5, 0] rfl ?_
          exact jn121 _ _ _ _ _ _ r_hz hf
        · skip
          have hf := xif_f h108 hf
          refine mv_aload_n (pc := 111) B d_Book_fetch_111 rfl 1 rfl ?_
          refine mv_getR (pc := 112) (ci := 12) (C := R_Book) (T := F_Book) (N := 65) B 12 rfl rfl (by decide) i_Book (B.2.2.2.1 _ k_1855) rfl ((congrFun (congrFun r_hz 74) 12).trans (hb.1 74 12 _ rfl)) d_Book_fetch_112 ?_
          refine mv_iload (pc := 115) B d_Book_fetch_115 5 rfl ?_
          obtain ⟨q12, hf⟩ := xvi_e hf
          refine mv_iald (pc := 117) B rfl q12 d_Book_fetch_117 ?_
          refine mv_if_ne (pc := 118) (tgt := 125) B d_Book_fetch_118 rfl (fun h118 => ?_) (fun h118 => ?_)
          · skip
            have hf := xif_f h118 hf
            refine mv_lpick [1, 2, 3, 4, 5, 0] rfl ?_
            exact jn125 _ _ _ _ _ _ r_hz hf
          · skip
            have hf := xif_t h118 hf
            refine mv_lpick [1, 2, 3, 4, 5, 0] rfl ?_
            exact jn121 _ _ _ _ _ _ r_hz hf
  have jn81 : ∀ (x1 : Int32) (x2 : Int32) (x4 : Int32) (x5 : Int32) (hz : mv_H), mv_r hz = mv_r h → f_Book_fetch_81 74 x1 x2 x4 x5 hz = some (rv, rg) → mv_V p l e ({ frames := 7, cells := 0, slots := 0, locals := 151 }) s m ([.ref (al 74)] : List Value).toArray below meth c (mg dA D al ext) 8 0 0 (mv_Q (mg dA D al ext) below s 0 0 (mv_Uv (fun σ1 => rv = some 0 ∧ rg = σ1 ∧ mv_r σ1 = mv_r h) ("MachineLoomModel$Book$Wrong", al 107) (fun σ1 => rv = none ∧ rg = σ1 ∧ mv_r σ1 = mv_r h))) hz 81 [(0, .ref (al 74)), (1, .int x1), (2, .int x2), (4, .int x4), (5, .int x5)] [] := by
    intro x1 x2 x4 x5 hz r_hz hf
    unfold f_Book_fetch_81 at hf
    refine mv_iconst (pc := 81) (v := 0) B d_Book_fetch_81 (by decide) ?_
    refine mv_lpick [0, 1, 2, 3, 4] rfl ?_
    exact jn82 _ _ _ _ _ _ r_hz hf
  unfold f_Book_fetch at hf
  refine mv_aload_n (pc := 0) B d_Book_fetch_0 rfl 0 rfl ?_
  refine mv_getI (pc := 1) (ci := 12) (C := R_Book) (T := F_Book) (N := 65) B 5 rfl rfl (by decide) i_Book (B.2.2.2.1 _ k_1848) rfl d_Book_fetch_1 ?_
  refine mv_istore_n (pc := 4) B d_Book_fetch_4 rfl (by decide) rfl ?_
  refine mv_aload_n (pc := 5) B d_Book_fetch_5 rfl 1 rfl ?_
  obtain ⟨og13, g13, eg13, hf⟩ := xtb_e hf
  refine mv_callVUv (pc := 6) (n := 0) (ci := 12) (C := R_Book) B (mK_ok sk sv) hNs rfl rfl (ch_Book_pass_x l hi _ (hb) eg13) rfl (ma_goodc kc_Book_pass) (B.2.2.2.1 _ k_2173) (B.2.2.2.1 _ k_2175) (B.2.2.2.1 _ ks_90) (B.2.2.2.1 _ k_13) ⟨by decide +kernel, by decide +kernel, by decide +kernel⟩ rfl d_Book_fetch_6 rfl (Nat.le_of_ble_eq_true rfl) ⟨by decide, by decide⟩ ⟨by decide, by decide⟩ ⟨by decide, by decide⟩ (mv_noH hno _) (fun τ9 g9 => Or.inr ⟨rfl, xth hf g9 rfl⟩) (fun σ6 h6 => ?_)
  obtain ⟨rfl, rfl, s_g13⟩ := h6
  have hf := xt2_s hf
  have r_g13 : mv_r g13 = mv_r h := s_g13.trans rfl
  refine mv_aload_n (pc := 9) B d_Book_fetch_9 rfl 1 rfl ?_
  obtain ⟨og15, g15, eg15, hf⟩ := xtb_e hf
  refine mv_callVUv (pc := 10) (n := 0) (ci := 12) (C := R_Book) B (mK_ok sk sv) hNs rfl rfl (ch_Book_name_x l hi _ (xrw r_g13 hb) eg15) rfl (ma_goodc kc_Book_name) (B.2.2.2.1 _ k_2194) (B.2.2.2.1 _ k_2196) (B.2.2.2.1 _ ks_94) (B.2.2.2.1 _ k_13) ⟨by decide +kernel, by decide +kernel, by decide +kernel⟩ rfl d_Book_fetch_10 rfl (Nat.le_of_ble_eq_true rfl) ⟨by decide, by decide⟩ ⟨by decide, by decide⟩ ⟨by decide, by decide⟩ (mv_noH hno _) (fun τ9 g9 => Or.inr ⟨rfl, xth hf g9 r_g13⟩) (fun σ10 h10 => ?_)
  obtain ⟨rfl, rfl, s_g15⟩ := h10
  have hf := xt2_s hf
  have r_g15 : mv_r g15 = mv_r h := s_g15.trans r_g13
  refine mv_aload_n (pc := 13) B d_Book_fetch_13 rfl 1 rfl ?_
  refine mv_getI (pc := 14) (ci := 12) (C := R_Book) (T := F_Book) (N := 65) B 49 rfl rfl (by decide) i_Book (B.2.2.2.1 _ k_1898) rfl d_Book_fetch_14 ?_
  refine mv_istore_n (pc := 17) B d_Book_fetch_17 rfl (by decide) rfl ?_
  refine mv_aload_n (pc := 18) B d_Book_fetch_18 rfl 2 rfl ?_
  refine mv_getI (pc := 19) (ci := 12) (C := R_Book) (T := F_Book) (N := 65) B 50 rfl rfl (by decide) i_Book (B.2.2.2.1 _ k_1899) rfl d_Book_fetch_19 ?_
  refine mv_istore_n (pc := 22) B d_Book_fetch_22 rfl (by decide) rfl ?_
  refine mv_aload_n (pc := 23) B d_Book_fetch_23 rfl 3 rfl ?_
  refine mv_ldcwS (pc := 24) B (hNs.2.1 145 (by decide)).1 d_Book_fetch_24 ?_
  obtain ⟨og17, g17, eg17, hf⟩ := xtb_e hf
  refine mv_callVUv (pc := 27) (n := 1) (ci := 12) (C := R_Book) B (mK_ok sk sv) hNs rfl rfl (ch_Book_needWord_x l hi _ (xrw r_g15 hb) _ (by decide) eg17) rfl (ma_goodc kc_Book_needWord) (B.2.2.2.1 _ k_2159) (B.2.2.2.1 _ k_2161) (B.2.2.2.1 _ ks_87) (B.2.2.2.1 _ k_13) ⟨by decide +kernel, by decide +kernel, by decide +kernel⟩ rfl d_Book_fetch_27 rfl (Nat.le_of_ble_eq_true rfl) ⟨by decide, by decide⟩ ⟨by decide, by decide⟩ ⟨by decide, by decide⟩ (mv_noH hno _) (fun τ9 g9 => Or.inr ⟨rfl, xth hf g9 r_g15⟩) (fun σ27 h27 => ?_)
  obtain ⟨rfl, rfl, s_g17⟩ := h27
  have hf := xt2_s hf
  have r_g17 : mv_r g17 = mv_r h := s_g17.trans r_g15
  refine mv_aload_n (pc := 30) B d_Book_fetch_30 rfl 3 rfl ?_
  obtain ⟨og19, g19, eg19, hf⟩ := xtb_e hf
  refine mv_callVUv (pc := 31) (n := 0) (ci := 12) (C := R_Book) B (mK_ok sk sv) hNs rfl rfl (ch_Book_name_x l hi _ (xrw r_g17 hb) eg19) rfl (ma_goodc kc_Book_name) (B.2.2.2.1 _ k_2194) (B.2.2.2.1 _ k_2196) (B.2.2.2.1 _ ks_94) (B.2.2.2.1 _ k_13) ⟨by decide +kernel, by decide +kernel, by decide +kernel⟩ rfl d_Book_fetch_31 rfl (Nat.le_of_ble_eq_true rfl) ⟨by decide, by decide⟩ ⟨by decide, by decide⟩ ⟨by decide, by decide⟩ (mv_noH hno _) (fun τ9 g9 => Or.inr ⟨rfl, xth hf g9 r_g17⟩) (fun σ31 h31 => ?_)
  obtain ⟨rfl, rfl, s_g19⟩ := h31
  have hf := xt2_s hf
  have r_g19 : mv_r g19 = mv_r h := s_g19.trans r_g17
  refine mv_aload_n (pc := 34) B d_Book_fetch_34 rfl 3 rfl ?_
  refine mv_bipush (pc := 35) (v := 59) B d_Book_fetch_35 (by decide) ?_
  obtain ⟨og21, g21, eg21, hf⟩ := xtb_e hf
  refine mv_callVUv (pc := 37) (n := 1) (ci := 12) (C := R_Book) B (mK_ok sk sv) hNs rfl rfl (ch_Book_need_x l hi _ (xrw r_g19 hb) _ eg21) rfl (ma_goodc kc_Book_need) (B.2.2.2.1 _ k_2177) (B.2.2.2.1 _ k_2179) (B.2.2.2.1 _ ks_91) (B.2.2.2.1 _ k_13) ⟨by decide +kernel, by decide +kernel, by decide +kernel⟩ rfl d_Book_fetch_37 rfl (Nat.le_of_ble_eq_true rfl) ⟨by decide, by decide⟩ ⟨by decide, by decide⟩ ⟨by decide, by decide⟩ (mv_noH hno _) (fun τ9 g9 => Or.inr ⟨rfl, xth hf g9 r_g19⟩) (fun σ37 h37 => ?_)
  obtain ⟨rfl, rfl, s_g21⟩ := h37
  have hf := xt2_s hf
  have r_g21 : mv_r g21 = mv_r h := s_g21.trans r_g19
  refine mv_aload_n (pc := 40) B d_Book_fetch_40 rfl 3 rfl ?_
  refine mv_iload_n (pc := 41) B d_Book_fetch_41 rfl 1 rfl ?_
  refine mv_iload_n (pc := 42) B d_Book_fetch_42 rfl 0 rfl ?_
  obtain ⟨u24, g23, eg23, hf⟩ := xhb_e hf
  refine mv_callVi (pc := 43) (n := 2) (ci := 12) (C := R_Book) B (mK_ok sk sv) hNs rfl rfl (ch_Book_thing_x l hi _ (xrw r_g21 hb) _ _ eg23) rfl (ma_goodc kc_Book_thing) (B.2.2.2.1 _ k_2212) (B.2.2.2.1 _ k_2214) (B.2.2.2.1 _ ks_97) (B.2.2.2.1 _ k_13) ⟨by decide +kernel, by decide +kernel, by decide +kernel⟩ rfl d_Book_fetch_43 rfl (Nat.le_of_ble_eq_true rfl) ⟨by decide, by decide⟩ ⟨by decide, by decide⟩ ⟨by decide, by decide⟩ (mv_noH hno _) (fun w43 σ43 h43 => ?_)
  obtain ⟨rfl, rfl, s_g23⟩ := h43
  have r_g23 : mv_r g23 = mv_r h := s_g23.trans r_g21
  refine mv_istore (pc := 46) B d_Book_fetch_46 (by decide) rfl ?_
  refine mv_aload_n (pc := 48) B d_Book_fetch_48 rfl 4 rfl ?_
  refine mv_aload_n (pc := 49) B d_Book_fetch_49 rfl 4 rfl ?_
  refine mv_getI (pc := 50) (ci := 12) (C := R_Book) (T := F_Book) (N := 65) B 49 rfl rfl (by decide) i_Book (B.2.2.2.1 _ k_1898) rfl d_Book_fetch_50 ?_
  refine mv_aload_n (pc := 53) B d_Book_fetch_53 rfl 4 rfl ?_
  refine mv_getI (pc := 54) (ci := 12) (C := R_Book) (T := F_Book) (N := 65) B 50 rfl rfl (by decide) i_Book (B.2.2.2.1 _ k_1899) rfl d_Book_fetch_54 ?_
  obtain ⟨u26, g25, eg25, hf⟩ := xhb_e hf
  refine mv_callVi (pc := 57) (n := 2) (ci := 12) (C := R_Book) B (mK_ok sk sv) hNs rfl rfl (ch_Book_thing_x l hi _ (xrw r_g23 hb) _ _ eg25) rfl (ma_goodc kc_Book_thing) (B.2.2.2.1 _ k_2212) (B.2.2.2.1 _ k_2214) (B.2.2.2.1 _ ks_97) (B.2.2.2.1 _ k_13) ⟨by decide +kernel, by decide +kernel, by decide +kernel⟩ rfl d_Book_fetch_57 rfl (Nat.le_of_ble_eq_true rfl) ⟨by decide, by decide⟩ ⟨by decide, by decide⟩ ⟨by decide, by decide⟩ (mv_noH hno _) (fun w57 σ57 h57 => ?_)
  obtain ⟨rfl, rfl, s_g25⟩ := h57
  have r_g25 : mv_r g25 = mv_r h := s_g25.trans r_g23
  refine mv_istore (pc := 60) B d_Book_fetch_60 (by decide) rfl ?_
  refine mv_iload (pc := 62) B d_Book_fetch_62 1 rfl ?_
  refine mv_if_lt (pc := 64) (tgt := 81) B d_Book_fetch_64 rfl (fun h64 => ?_) (fun h64 => ?_)
  · skip
    have hf := xif_t h64 hf
    refine mv_lpick [5, 4, 3, 1, 0] rfl ?_
    exact jn81 _ _ _ _ _ r_g25 hf
  · skip
    have hf := xif_f h64 hf
    refine mv_aload_n (pc := 67) B d_Book_fetch_67 rfl 5 rfl ?_
    refine mv_getR (pc := 68) (ci := 12) (C := R_Book) (T := F_Book) (N := 65) B 15 rfl rfl (by decide) i_Book (B.2.2.2.1 _ k_1858) rfl ((congrFun (congrFun r_g25 74) 15).trans (hb.1 74 15 _ rfl)) d_Book_fetch_68 ?_
    refine mv_iload (pc := 71) B d_Book_fetch_71 1 rfl ?_
    obtain ⟨q27, hf⟩ := xvi_e hf
    refine mv_zald (pc := 73) B rfl q27 d_Book_fetch_73 ?_
    refine mv_if_ne (pc := 74) (tgt := 81) B d_Book_fetch_74 rfl (fun h74 => ?_) (fun h74 => ?_)
    · skip
      have hf := xif_f h74 hf
      refine mv_lpick [5, 4, 3, 1, 0] rfl ?_
      exact jn81 _ _ _ _ _ r_g25 hf
    · skip
      have hf := xif_t h74 hf
      refine mv_iconst (pc := 77) (v := 1) B d_Book_fetch_77 (by decide) ?_
      refine mv_goto (pc := 78) (tgt := 82) B d_Book_fetch_78 rfl ?_
      refine mv_lpick [5, 4, 3, 1, 0] rfl ?_
      exact jn82 _ _ _ _ _ _ r_g25 hf
set_option maxHeartbeats 4000000 in
set_option maxRecDepth 100000 in
theorem ch_Book_fetch_y (l : Launch) {dA : FieldType → ClassId} {D : va_G} {al : Nat → Nat} {ext : mv_Sh} {sk sv : Nat → Nat} (hi : mv_inj (mg dA D al ext)) (h : mv_H) (hb : Br 108 (mv_r h))  {rv : Option Int32} {rg : mv_H} (hf : f_Book_fetch 108 h = some (rv, rg)) : mv_C l y_Book_fetch (Cond.code y_Book_fetch b_Book_fetch 8 (Option.none : Option Jvm.ClassFile.FieldType) :: ma) ({ frames := 7, cells := 0, slots := 0, locals := 151 }) (mg dA D al ext) (mK sk sv) [.ref (al 108)] h (mv_Uv (fun σ1 => rv = some 0 ∧ rg = σ1 ∧ mv_r σ1 = mv_r h) ("MachineLoomModel$Book$Wrong", al 141) (fun σ1 => rv = none ∧ rg = σ1 ∧ mv_r σ1 = mv_r h)) := by
  refine mv_C.ofV (cc := b_Book_fetch) (nL := 8) (ret := (Option.none : Option Jvm.ClassFile.FieldType)) (by decide +kernel) rfl hi (Nat.le_of_ble_eq_true rfl) ?_
  intro p e s m below meth c B hNs hr hnm hno
  have jn167 : ∀ (x4 : Int32) (x5 : Int32) (x6 : Int32) (x7 : Int32) (hz : mv_H), mv_r hz = mv_r h → f_Book_fetch_167 108 x4 x5 x6 x7 hz = some (rv, rg) → mv_V p l e ({ frames := 7, cells := 0, slots := 0, locals := 151 }) s m ([.ref (al 108)] : List Value).toArray below meth c (mg dA D al ext) 8 0 0 (mv_Q (mg dA D al ext) below s 0 0 (mv_Uv (fun σ1 => rv = some 0 ∧ rg = σ1 ∧ mv_r σ1 = mv_r h) ("MachineLoomModel$Book$Wrong", al 141) (fun σ1 => rv = none ∧ rg = σ1 ∧ mv_r σ1 = mv_r h))) hz 167 [(0, .ref (al 108)), (4, .int x4), (5, .int x5), (6, .int x6), (7, .int x7)] [] := by
    intro x4 x5 x6 x7 hz r_hz hf
    unfold f_Book_fetch_167 at hf
    refine mv_aload_n (pc := 167) B d_Book_fetch_167 rfl 0 rfl ?_
    refine mv_dup (pc := 168) B d_Book_fetch_168 rfl ?_
    refine mv_getI (pc := 169) (ci := 12) (C := R_Book) (T := F_Book) (N := 65) B 22 rfl rfl (by decide) i_Book (B.2.2.2.1 _ k_1867) rfl d_Book_fetch_169 ?_
    refine mv_iconst (pc := 172) (v := 1) B d_Book_fetch_172 (by decide) ?_
    refine mv_iadd (pc := 173) B d_Book_fetch_173 ?_
    refine mv_putI (pc := 174) (ci := 12) (C := R_Book) (T := F_Book) (N := 65) B 22 rfl rfl (by decide) i_Book t_Book_ok n_Book (B.2.2.2.1 _ k_1867) rfl rfl rfl rfl d_Book_fetch_174 ?_
    refine mvh_hp (R9 := mv_r h) hf r_hz (fun g1 hf r_g1 => ?_)
    refine mv_aload_n (pc := 177) B d_Book_fetch_177 rfl 0 rfl ?_
    refine mv_getI (pc := 178) (ci := 12) (C := R_Book) (T := F_Book) (N := 65) B 22 rfl rfl (by decide) i_Book (B.2.2.2.1 _ k_1867) rfl d_Book_fetch_178 ?_
    refine mv_iconst (pc := 181) (v := 1) B d_Book_fetch_181 (by decide) ?_
    refine mv_icmp_gt (pc := 182) (tgt := 195) B d_Book_fetch_182 rfl (fun h182 => ?_) (fun h182 => ?_)
    · skip
      have hf := xif_t h182 hf
      exact mv_vret (pc := 195) B hr d_Book_fetch_195 (Nat.le_refl _) (Nat.le_refl _) (Or.inl ⟨rfl, xrt_i hf r_g1⟩)
    · skip
      have hf := xif_f h182 hf
      refine mv_iload (pc := 185) B d_Book_fetch_185 3 rfl ?_
      refine mv_if_eq (pc := 187) (tgt := 195) B d_Book_fetch_187 rfl (fun h187 => ?_) (fun h187 => ?_)
      · skip
        have hf := xif_t h187 hf
        exact mv_vret (pc := 195) B hr d_Book_fetch_195 (Nat.le_refl _) (Nat.le_refl _) (Or.inl ⟨rfl, xrt_i hf r_g1⟩)
      · skip
        have hf := xif_f h187 hf
        refine mv_iload (pc := 190) B d_Book_fetch_190 4 rfl ?_
        refine mv_if_ne (pc := 192) (tgt := 196) B d_Book_fetch_192 rfl (fun h192 => ?_) (fun h192 => ?_)
        · skip
          have hf := xif_f h192 hf
          refine mv_aload_n (pc := 196) B d_Book_fetch_196 rfl 0 rfl ?_
          refine mv_iload (pc := 197) B d_Book_fetch_197 1 rfl ?_
          refine mv_putI (pc := 199) (ci := 12) (C := R_Book) (T := F_Book) (N := 65) B 18 rfl rfl (by decide) i_Book t_Book_ok n_Book (B.2.2.2.1 _ k_1862) rfl rfl rfl rfl d_Book_fetch_199 ?_
          refine mvh_hp (R9 := mv_r h) hf r_g1 (fun g2 hf r_g2 => ?_)
          refine mv_aload_n (pc := 202) B d_Book_fetch_202 rfl 0 rfl ?_
          refine mv_iload (pc := 203) B d_Book_fetch_203 2 rfl ?_
          refine mv_putI (pc := 205) (ci := 12) (C := R_Book) (T := F_Book) (N := 65) B 21 rfl rfl (by decide) i_Book t_Book_ok n_Book (B.2.2.2.1 _ k_1866) rfl rfl rfl rfl d_Book_fetch_205 ?_
          refine mvh_hp (R9 := mv_r h) hf r_g2 (fun g3 hf r_g3 => ?_)
          exact mv_vret (pc := 208) B hr d_Book_fetch_208 (Nat.le_refl _) (Nat.le_refl _) (Or.inl ⟨rfl, xrt_i hf r_g3⟩)
        · skip
          have hf := xif_t h192 hf
          exact mv_vret (pc := 195) B hr d_Book_fetch_195 (Nat.le_refl _) (Nat.le_refl _) (Or.inl ⟨rfl, xrt_i hf r_g1⟩)
  have jn153 : ∀ (x1 : Int32) (x4 : Int32) (x5 : Int32) (x6 : Int32) (x7 : Int32) (hz : mv_H), mv_r hz = mv_r h → f_Book_fetch_153 108 x1 x4 x5 x6 x7 hz = some (rv, rg) → mv_V p l e ({ frames := 7, cells := 0, slots := 0, locals := 151 }) s m ([.ref (al 108)] : List Value).toArray below meth c (mg dA D al ext) 8 0 0 (mv_Q (mg dA D al ext) below s 0 0 (mv_Uv (fun σ1 => rv = some 0 ∧ rg = σ1 ∧ mv_r σ1 = mv_r h) ("MachineLoomModel$Book$Wrong", al 141) (fun σ1 => rv = none ∧ rg = σ1 ∧ mv_r σ1 = mv_r h))) hz 153 [(0, .ref (al 108)), (1, .int x1), (4, .int x4), (5, .int x5), (6, .int x6), (7, .int x7)] [] := by
    intro x1 x4 x5 x6 x7 hz r_hz hf
    unfold f_Book_fetch_153 at hf
    refine mv_aload_n (pc := 153) B d_Book_fetch_153 rfl 0 rfl ?_
    refine mv_getI (pc := 154) (ci := 12) (C := R_Book) (T := F_Book) (N := 65) B 22 rfl rfl (by decide) i_Book (B.2.2.2.1 _ k_1867) rfl d_Book_fetch_154 ?_
    refine mv_if_le (pc := 157) (tgt := 167) B d_Book_fetch_157 rfl (fun h157 => ?_) (fun h157 => ?_)
    · skip
      have hf := xif_t h157 hf
      refine mv_lpick [0, 2, 3, 4, 5] rfl ?_
      exact jn167 _ _ _ _ _ r_hz hf
    · skip
      have hf := xif_f h157 hf
      refine mv_aload_n (pc := 160) B d_Book_fetch_160 rfl 0 rfl ?_
      refine mv_bipush (pc := 161) (v := 6) B d_Book_fetch_161 (by decide) ?_
      refine mv_iload_n (pc := 163) B d_Book_fetch_163 rfl 1 rfl ?_
      obtain ⟨g4, eg4, hf⟩ := xhv_e hf
      refine mv_callVv (pc := 164) (n := 2) (ci := 12) (C := R_Book) B (mK_ok sk sv) hNs rfl rfl (ch_Book_fault_y l hi _ _ _ eg4) rfl (ma_goodc kc_Book_fault) (B.2.2.2.1 _ k_2185) (B.2.2.2.1 _ k_2187) (B.2.2.2.1 _ ks_92) (B.2.2.2.1 _ k_13) ⟨by decide +kernel, by decide +kernel, by decide +kernel⟩ rfl d_Book_fetch_164 rfl (Nat.le_of_ble_eq_true rfl) ⟨by decide, by decide⟩ ⟨by decide, by decide⟩ ⟨by decide, by decide⟩ (mv_noH hno _) (fun σ164 h164 => ?_)
      obtain ⟨rfl, s_g4⟩ := h164
      have r_g4 : mv_r g4 = mv_r h := s_g4.trans r_hz
      refine mv_lpick [0, 2, 3, 4, 5] rfl ?_
      exact jn167 _ _ _ _ _ r_g4 hf
  have jn139 : ∀ (x1 : Int32) (x4 : Int32) (x5 : Int32) (x6 : Int32) (x7 : Int32) (hz : mv_H), mv_r hz = mv_r h → f_Book_fetch_139 108 x1 x4 x5 x6 x7 hz = some (rv, rg) → mv_V p l e ({ frames := 7, cells := 0, slots := 0, locals := 151 }) s m ([.ref (al 108)] : List Value).toArray below meth c (mg dA D al ext) 8 0 0 (mv_Q (mg dA D al ext) below s 0 0 (mv_Uv (fun σ1 => rv = some 0 ∧ rg = σ1 ∧ mv_r σ1 = mv_r h) ("MachineLoomModel$Book$Wrong", al 141) (fun σ1 => rv = none ∧ rg = σ1 ∧ mv_r σ1 = mv_r h))) hz 139 [(0, .ref (al 108)), (1, .int x1), (4, .int x4), (5, .int x5), (6, .int x6), (7, .int x7)] [] := by
    intro x1 x4 x5 x6 x7 hz r_hz hf
    unfold f_Book_fetch_139 at hf
    refine mv_iload (pc := 139) B d_Book_fetch_139 5 rfl ?_
    refine mv_if_ne (pc := 141) (tgt := 153) B d_Book_fetch_141 rfl (fun h141 => ?_) (fun h141 => ?_)
    · skip
      have hf := xif_f h141 hf
      refine mv_lpick [0, 1, 2, 3, 4, 5] rfl ?_
      exact jn153 _ _ _ _ _ _ r_hz hf
    · skip
      have hf := xif_t h141 hf
      refine mv_aload_n (pc := 144) B d_Book_fetch_144 rfl 0 rfl ?_
      refine mv_iconst (pc := 145) (v := 2) B d_Book_fetch_145 (by decide) ?_
      refine mv_aload_n (pc := 146) B d_Book_fetch_146 rfl 0 rfl ?_
      refine mv_getI (pc := 147) (ci := 12) (C := R_Book) (T := F_Book) (N := 65) B 49 rfl rfl (by decide) i_Book (B.2.2.2.1 _ k_1898) rfl d_Book_fetch_147 ?_
      obtain ⟨g6, eg6, hf⟩ := xhv_e hf
      refine mv_callVv (pc := 150) (n := 2) (ci := 12) (C := R_Book) B (mK_ok sk sv) hNs rfl rfl (ch_Book_fault_y l hi _ _ _ eg6) rfl (ma_goodc kc_Book_fault) (B.2.2.2.1 _ k_2185) (B.2.2.2.1 _ k_2187) (B.2.2.2.1 _ ks_92) (B.2.2.2.1 _ k_13) ⟨by decide +kernel, by decide +kernel, by decide +kernel⟩ rfl d_Book_fetch_150 rfl (Nat.le_of_ble_eq_true rfl) ⟨by decide, by decide⟩ ⟨by decide, by decide⟩ ⟨by decide, by decide⟩ (mv_noH hno _) (fun σ150 h150 => ?_)
      obtain ⟨rfl, s_g6⟩ := h150
      have r_g6 : mv_r g6 = mv_r h := s_g6.trans r_hz
      refine mv_lpick [0, 1, 2, 3, 4, 5] rfl ?_
      exact jn153 _ _ _ _ _ _ r_g6 hf
  have jn126 : ∀ (x1 : Int32) (x2 : Int32) (x4 : Int32) (x5 : Int32) (x6 : Int32) (y0 : Int32) (hz : mv_H), mv_r hz = mv_r h → f_Book_fetch_126 108 x1 x2 x4 x5 x6 y0 hz = some (rv, rg) → mv_V p l e ({ frames := 7, cells := 0, slots := 0, locals := 151 }) s m ([.ref (al 108)] : List Value).toArray below meth c (mg dA D al ext) 8 0 0 (mv_Q (mg dA D al ext) below s 0 0 (mv_Uv (fun σ1 => rv = some 0 ∧ rg = σ1 ∧ mv_r σ1 = mv_r h) ("MachineLoomModel$Book$Wrong", al 141) (fun σ1 => rv = none ∧ rg = σ1 ∧ mv_r σ1 = mv_r h))) hz 126 [(0, .ref (al 108)), (1, .int x1), (2, .int x2), (4, .int x4), (5, .int x5), (6, .int x6)] [.int y0] := by
    intro x1 x2 x4 x5 x6 y0 hz r_hz hf
    unfold f_Book_fetch_126 at hf
    refine mv_istore (pc := 126) B d_Book_fetch_126 (by decide) rfl ?_
    refine mv_iload (pc := 128) B d_Book_fetch_128 6 rfl ?_
    refine mv_if_ne (pc := 130) (tgt := 139) B d_Book_fetch_130 rfl (fun h130 => ?_) (fun h130 => ?_)
    · skip
      have hf := xif_f h130 hf
      refine mv_lpick [1, 2, 4, 5, 6, 0] rfl ?_
      exact jn139 _ _ _ _ _ _ r_hz hf
    · skip
      have hf := xif_t h130 hf
      refine mv_aload_n (pc := 133) B d_Book_fetch_133 rfl 1 rfl ?_
      refine mv_iconst (pc := 134) (v := 2) B d_Book_fetch_134 (by decide) ?_
      refine mv_iload_n (pc := 135) B d_Book_fetch_135 rfl 3 rfl ?_
      obtain ⟨g8, eg8, hf⟩ := xhv_e hf
      refine mv_callVv (pc := 136) (n := 2) (ci := 12) (C := R_Book) B (mK_ok sk sv) hNs rfl rfl (ch_Book_fault_y l hi _ _ _ eg8) rfl (ma_goodc kc_Book_fault) (B.2.2.2.1 _ k_2185) (B.2.2.2.1 _ k_2187) (B.2.2.2.1 _ ks_92) (B.2.2.2.1 _ k_13) ⟨by decide +kernel, by decide +kernel, by decide +kernel⟩ rfl d_Book_fetch_136 rfl (Nat.le_of_ble_eq_true rfl) ⟨by decide, by decide⟩ ⟨by decide, by decide⟩ ⟨by decide, by decide⟩ (mv_noH hno _) (fun σ136 h136 => ?_)
      obtain ⟨rfl, s_g8⟩ := h136
      have r_g8 : mv_r g8 = mv_r h := s_g8.trans r_hz
      refine mv_lpick [1, 2, 4, 5, 6, 0] rfl ?_
      exact jn139 _ _ _ _ _ _ r_g8 hf
  have jn125 : ∀ (x1 : Int32) (x2 : Int32) (x4 : Int32) (x5 : Int32) (x6 : Int32) (hz : mv_H), mv_r hz = mv_r h → f_Book_fetch_125 108 x1 x2 x4 x5 x6 hz = some (rv, rg) → mv_V p l e ({ frames := 7, cells := 0, slots := 0, locals := 151 }) s m ([.ref (al 108)] : List Value).toArray below meth c (mg dA D al ext) 8 0 0 (mv_Q (mg dA D al ext) below s 0 0 (mv_Uv (fun σ1 => rv = some 0 ∧ rg = σ1 ∧ mv_r σ1 = mv_r h) ("MachineLoomModel$Book$Wrong", al 141) (fun σ1 => rv = none ∧ rg = σ1 ∧ mv_r σ1 = mv_r h))) hz 125 [(0, .ref (al 108)), (1, .int x1), (2, .int x2), (4, .int x4), (5, .int x5), (6, .int x6)] [] := by
    intro x1 x2 x4 x5 x6 hz r_hz hf
    unfold f_Book_fetch_125 at hf
    refine mv_iconst (pc := 125) (v := 0) B d_Book_fetch_125 (by decide) ?_
    refine mv_lpick [0, 1, 2, 3, 4, 5] rfl ?_
    exact jn126 _ _ _ _ _ _ _ r_hz hf
  have jn121 : ∀ (x1 : Int32) (x2 : Int32) (x4 : Int32) (x5 : Int32) (x6 : Int32) (hz : mv_H), mv_r hz = mv_r h → f_Book_fetch_121 108 x1 x2 x4 x5 x6 hz = some (rv, rg) → mv_V p l e ({ frames := 7, cells := 0, slots := 0, locals := 151 }) s m ([.ref (al 108)] : List Value).toArray below meth c (mg dA D al ext) 8 0 0 (mv_Q (mg dA D al ext) below s 0 0 (mv_Uv (fun σ1 => rv = some 0 ∧ rg = σ1 ∧ mv_r σ1 = mv_r h) ("MachineLoomModel$Book$Wrong", al 141) (fun σ1 => rv = none ∧ rg = σ1 ∧ mv_r σ1 = mv_r h))) hz 121 [(0, .ref (al 108)), (1, .int x1), (2, .int x2), (4, .int x4), (5, .int x5), (6, .int x6)] [] := by
    intro x1 x2 x4 x5 x6 hz r_hz hf
    unfold f_Book_fetch_121 at hf
    refine mv_iconst (pc := 121) (v := 1) B d_Book_fetch_121 (by decide) ?_
    refine mv_goto (pc := 122) (tgt := 126) B d_Book_fetch_122 rfl ?_
    refine mv_lpick [0, 1, 2, 3, 4, 5] rfl ?_
    exact jn126 _ _ _ _ _ _ _ r_hz hf
  have jn82 : ∀ (x1 : Int32) (x2 : Int32) (x4 : Int32) (x5 : Int32) (y0 : Int32) (hz : mv_H), mv_r hz = mv_r h → f_Book_fetch_82 108 x1 x2 x4 x5 y0 hz = some (rv, rg) → mv_V p l e ({ frames := 7, cells := 0, slots := 0, locals := 151 }) s m ([.ref (al 108)] : List Value).toArray below meth c (mg dA D al ext) 8 0 0 (mv_Q (mg dA D al ext) below s 0 0 (mv_Uv (fun σ1 => rv = some 0 ∧ rg = σ1 ∧ mv_r σ1 = mv_r h) ("MachineLoomModel$Book$Wrong", al 141) (fun σ1 => rv = none ∧ rg = σ1 ∧ mv_r σ1 = mv_r h))) hz 82 [(0, .ref (al 108)), (1, .int x1), (2, .int x2), (4, .int x4), (5, .int x5)] [.int y0] := by
    intro x1 x2 x4 x5 y0 hz r_hz hf
    unfold f_Book_fetch_82 at hf
    refine mv_istore (pc := 82) B d_Book_fetch_82 (by decide) rfl ?_
    refine mv_iload (pc := 84) B d_Book_fetch_84 5 rfl ?_
    refine mv_if_lt (pc := 86) (tgt := 125) B d_Book_fetch_86 rfl (fun h86 => ?_) (fun h86 => ?_)
    · skip
      have hf := xif_t h86 hf
      refine mv_lpick [1, 2, 3, 4, 5, 0] rfl ?_
      exact jn125 _ _ _ _ _ _ r_hz hf
    · skip
      have hf := xif_f h86 hf
      refine mv_aload_n (pc := 89) B d_Book_fetch_89 rfl 1 rfl ?_
      refine mv_getR (pc := 90) (ci := 12) (C := R_Book) (T := F_Book) (N := 65) B 15 rfl rfl (by decide) i_Book (B.2.2.2.1 _ k_1858) rfl ((congrFun (congrFun r_hz 108) 15).trans (hb.1 108 15 _ rfl)) d_Book_fetch_90 ?_
      refine mv_iload (pc := 93) B d_Book_fetch_93 5 rfl ?_
      obtain ⟨q10, hf⟩ := xvi_e hf
      refine mv_zald (pc := 95) B rfl q10 d_Book_fetch_95 ?_
      refine mv_if_eq (pc := 96) (tgt := 125) B d_Book_fetch_96 rfl (fun h96 => ?_) (fun h96 => ?_)
      · skip
        have hf := xif_t h96 hf
        refine mv_lpick [1, 2, 3, 4, 5, 0] rfl ?_
        exact jn125 _ _ _ _ _ _ r_hz hf
      · skip
        have hf := xif_f h96 hf
        refine mv_aload_n (pc := 99) B d_Book_fetch_99 rfl 1 rfl ?_
        refine mv_getR (pc := 100) (ci := 12) (C := R_Book) (T := F_Book) (N := 65) B 12 rfl rfl (by decide) i_Book (B.2.2.2.1 _ k_1855) rfl ((congrFun (congrFun r_hz 108) 12).trans (hb.1 108 12 _ rfl)) d_Book_fetch_100 ?_
        refine mv_iload (pc := 103) B d_Book_fetch_103 5 rfl ?_
        obtain ⟨q11, hf⟩ := xvi_e hf
        refine mv_iald (pc := 105) B rfl q11 d_Book_fetch_105 ?_
        refine mv_bipush (pc := 106) (v := 8) B d_Book_fetch_106 (by decide) ?_
        refine mv_icmp_eq (pc := 108) (tgt := 121) B d_Book_fetch_108 rfl (fun h108 => ?_) (fun h108 => ?_)
        · skip
          have hf := xif_t h108 hf
          refine mv_lpick [1, 2, 3, 4, 5, 0] rfl ?_
          exact jn121 _ _ _ _ _ _ r_hz hf
        · skip
          have hf := xif_f h108 hf
          refine mv_aload_n (pc := 111) B d_Book_fetch_111 rfl 1 rfl ?_
          refine mv_getR (pc := 112) (ci := 12) (C := R_Book) (T := F_Book) (N := 65) B 12 rfl rfl (by decide) i_Book (B.2.2.2.1 _ k_1855) rfl ((congrFun (congrFun r_hz 108) 12).trans (hb.1 108 12 _ rfl)) d_Book_fetch_112 ?_
          refine mv_iload (pc := 115) B d_Book_fetch_115 5 rfl ?_
          obtain ⟨q12, hf⟩ := xvi_e hf
          refine mv_iald (pc := 117) B rfl q12 d_Book_fetch_117 ?_
          refine mv_if_ne (pc := 118) (tgt := 125) B d_Book_fetch_118 rfl (fun h118 => ?_) (fun h118 => ?_)
          · skip
            have hf := xif_f h118 hf
            refine mv_lpick [1, 2, 3, 4, 5, 0] rfl ?_
            exact jn125 _ _ _ _ _ _ r_hz hf
          · skip
            have hf := xif_t h118 hf
            refine mv_lpick [1, 2, 3, 4, 5, 0] rfl ?_
            exact jn121 _ _ _ _ _ _ r_hz hf
  have jn81 : ∀ (x1 : Int32) (x2 : Int32) (x4 : Int32) (x5 : Int32) (hz : mv_H), mv_r hz = mv_r h → f_Book_fetch_81 108 x1 x2 x4 x5 hz = some (rv, rg) → mv_V p l e ({ frames := 7, cells := 0, slots := 0, locals := 151 }) s m ([.ref (al 108)] : List Value).toArray below meth c (mg dA D al ext) 8 0 0 (mv_Q (mg dA D al ext) below s 0 0 (mv_Uv (fun σ1 => rv = some 0 ∧ rg = σ1 ∧ mv_r σ1 = mv_r h) ("MachineLoomModel$Book$Wrong", al 141) (fun σ1 => rv = none ∧ rg = σ1 ∧ mv_r σ1 = mv_r h))) hz 81 [(0, .ref (al 108)), (1, .int x1), (2, .int x2), (4, .int x4), (5, .int x5)] [] := by
    intro x1 x2 x4 x5 hz r_hz hf
    unfold f_Book_fetch_81 at hf
    refine mv_iconst (pc := 81) (v := 0) B d_Book_fetch_81 (by decide) ?_
    refine mv_lpick [0, 1, 2, 3, 4] rfl ?_
    exact jn82 _ _ _ _ _ _ r_hz hf
  unfold f_Book_fetch at hf
  refine mv_aload_n (pc := 0) B d_Book_fetch_0 rfl 0 rfl ?_
  refine mv_getI (pc := 1) (ci := 12) (C := R_Book) (T := F_Book) (N := 65) B 5 rfl rfl (by decide) i_Book (B.2.2.2.1 _ k_1848) rfl d_Book_fetch_1 ?_
  refine mv_istore_n (pc := 4) B d_Book_fetch_4 rfl (by decide) rfl ?_
  refine mv_aload_n (pc := 5) B d_Book_fetch_5 rfl 1 rfl ?_
  obtain ⟨og13, g13, eg13, hf⟩ := xtb_e hf
  refine mv_callVUv (pc := 6) (n := 0) (ci := 12) (C := R_Book) B (mK_ok sk sv) hNs rfl rfl (ch_Book_pass_y l hi _ (hb) eg13) rfl (ma_goodc kc_Book_pass) (B.2.2.2.1 _ k_2173) (B.2.2.2.1 _ k_2175) (B.2.2.2.1 _ ks_90) (B.2.2.2.1 _ k_13) ⟨by decide +kernel, by decide +kernel, by decide +kernel⟩ rfl d_Book_fetch_6 rfl (Nat.le_of_ble_eq_true rfl) ⟨by decide, by decide⟩ ⟨by decide, by decide⟩ ⟨by decide, by decide⟩ (mv_noH hno _) (fun τ9 g9 => Or.inr ⟨rfl, xth hf g9 rfl⟩) (fun σ6 h6 => ?_)
  obtain ⟨rfl, rfl, s_g13⟩ := h6
  have hf := xt2_s hf
  have r_g13 : mv_r g13 = mv_r h := s_g13.trans rfl
  refine mv_aload_n (pc := 9) B d_Book_fetch_9 rfl 1 rfl ?_
  obtain ⟨og15, g15, eg15, hf⟩ := xtb_e hf
  refine mv_callVUv (pc := 10) (n := 0) (ci := 12) (C := R_Book) B (mK_ok sk sv) hNs rfl rfl (ch_Book_name_y l hi _ (xrw r_g13 hb) eg15) rfl (ma_goodc kc_Book_name) (B.2.2.2.1 _ k_2194) (B.2.2.2.1 _ k_2196) (B.2.2.2.1 _ ks_94) (B.2.2.2.1 _ k_13) ⟨by decide +kernel, by decide +kernel, by decide +kernel⟩ rfl d_Book_fetch_10 rfl (Nat.le_of_ble_eq_true rfl) ⟨by decide, by decide⟩ ⟨by decide, by decide⟩ ⟨by decide, by decide⟩ (mv_noH hno _) (fun τ9 g9 => Or.inr ⟨rfl, xth hf g9 r_g13⟩) (fun σ10 h10 => ?_)
  obtain ⟨rfl, rfl, s_g15⟩ := h10
  have hf := xt2_s hf
  have r_g15 : mv_r g15 = mv_r h := s_g15.trans r_g13
  refine mv_aload_n (pc := 13) B d_Book_fetch_13 rfl 1 rfl ?_
  refine mv_getI (pc := 14) (ci := 12) (C := R_Book) (T := F_Book) (N := 65) B 49 rfl rfl (by decide) i_Book (B.2.2.2.1 _ k_1898) rfl d_Book_fetch_14 ?_
  refine mv_istore_n (pc := 17) B d_Book_fetch_17 rfl (by decide) rfl ?_
  refine mv_aload_n (pc := 18) B d_Book_fetch_18 rfl 2 rfl ?_
  refine mv_getI (pc := 19) (ci := 12) (C := R_Book) (T := F_Book) (N := 65) B 50 rfl rfl (by decide) i_Book (B.2.2.2.1 _ k_1899) rfl d_Book_fetch_19 ?_
  refine mv_istore_n (pc := 22) B d_Book_fetch_22 rfl (by decide) rfl ?_
  refine mv_aload_n (pc := 23) B d_Book_fetch_23 rfl 3 rfl ?_
  refine mv_ldcwS (pc := 24) B (hNs.2.1 145 (by decide)).1 d_Book_fetch_24 ?_
  obtain ⟨og17, g17, eg17, hf⟩ := xtb_e hf
  refine mv_callVUv (pc := 27) (n := 1) (ci := 12) (C := R_Book) B (mK_ok sk sv) hNs rfl rfl (ch_Book_needWord_y l hi _ (xrw r_g15 hb) _ (by decide) eg17) rfl (ma_goodc kc_Book_needWord) (B.2.2.2.1 _ k_2159) (B.2.2.2.1 _ k_2161) (B.2.2.2.1 _ ks_87) (B.2.2.2.1 _ k_13) ⟨by decide +kernel, by decide +kernel, by decide +kernel⟩ rfl d_Book_fetch_27 rfl (Nat.le_of_ble_eq_true rfl) ⟨by decide, by decide⟩ ⟨by decide, by decide⟩ ⟨by decide, by decide⟩ (mv_noH hno _) (fun τ9 g9 => Or.inr ⟨rfl, xth hf g9 r_g15⟩) (fun σ27 h27 => ?_)
  obtain ⟨rfl, rfl, s_g17⟩ := h27
  have hf := xt2_s hf
  have r_g17 : mv_r g17 = mv_r h := s_g17.trans r_g15
  refine mv_aload_n (pc := 30) B d_Book_fetch_30 rfl 3 rfl ?_
  obtain ⟨og19, g19, eg19, hf⟩ := xtb_e hf
  refine mv_callVUv (pc := 31) (n := 0) (ci := 12) (C := R_Book) B (mK_ok sk sv) hNs rfl rfl (ch_Book_name_y l hi _ (xrw r_g17 hb) eg19) rfl (ma_goodc kc_Book_name) (B.2.2.2.1 _ k_2194) (B.2.2.2.1 _ k_2196) (B.2.2.2.1 _ ks_94) (B.2.2.2.1 _ k_13) ⟨by decide +kernel, by decide +kernel, by decide +kernel⟩ rfl d_Book_fetch_31 rfl (Nat.le_of_ble_eq_true rfl) ⟨by decide, by decide⟩ ⟨by decide, by decide⟩ ⟨by decide, by decide⟩ (mv_noH hno _) (fun τ9 g9 => Or.inr ⟨rfl, xth hf g9 r_g17⟩) (fun σ31 h31 => ?_)
  obtain ⟨rfl, rfl, s_g19⟩ := h31
  have hf := xt2_s hf
  have r_g19 : mv_r g19 = mv_r h := s_g19.trans r_g17
  refine mv_aload_n (pc := 34) B d_Book_fetch_34 rfl 3 rfl ?_
  refine mv_bipush (pc := 35) (v := 59) B d_Book_fetch_35 (by decide) ?_
  obtain ⟨og21, g21, eg21, hf⟩ := xtb_e hf
  refine mv_callVUv (pc := 37) (n := 1) (ci := 12) (C := R_Book) B (mK_ok sk sv) hNs rfl rfl (ch_Book_need_y l hi _ (xrw r_g19 hb) _ eg21) rfl (ma_goodc kc_Book_need) (B.2.2.2.1 _ k_2177) (B.2.2.2.1 _ k_2179) (B.2.2.2.1 _ ks_91) (B.2.2.2.1 _ k_13) ⟨by decide +kernel, by decide +kernel, by decide +kernel⟩ rfl d_Book_fetch_37 rfl (Nat.le_of_ble_eq_true rfl) ⟨by decide, by decide⟩ ⟨by decide, by decide⟩ ⟨by decide, by decide⟩ (mv_noH hno _) (fun τ9 g9 => Or.inr ⟨rfl, xth hf g9 r_g19⟩) (fun σ37 h37 => ?_)
  obtain ⟨rfl, rfl, s_g21⟩ := h37
  have hf := xt2_s hf
  have r_g21 : mv_r g21 = mv_r h := s_g21.trans r_g19
  refine mv_aload_n (pc := 40) B d_Book_fetch_40 rfl 3 rfl ?_
  refine mv_iload_n (pc := 41) B d_Book_fetch_41 rfl 1 rfl ?_
  refine mv_iload_n (pc := 42) B d_Book_fetch_42 rfl 0 rfl ?_
  obtain ⟨u24, g23, eg23, hf⟩ := xhb_e hf
  refine mv_callVi (pc := 43) (n := 2) (ci := 12) (C := R_Book) B (mK_ok sk sv) hNs rfl rfl (ch_Book_thing_y l hi _ (xrw r_g21 hb) _ _ eg23) rfl (ma_goodc kc_Book_thing) (B.2.2.2.1 _ k_2212) (B.2.2.2.1 _ k_2214) (B.2.2.2.1 _ ks_97) (B.2.2.2.1 _ k_13) ⟨by decide +kernel, by decide +kernel, by decide +kernel⟩ rfl d_Book_fetch_43 rfl (Nat.le_of_ble_eq_true rfl) ⟨by decide, by decide⟩ ⟨by decide, by decide⟩ ⟨by decide, by decide⟩ (mv_noH hno _) (fun w43 σ43 h43 => ?_)
  obtain ⟨rfl, rfl, s_g23⟩ := h43
  have r_g23 : mv_r g23 = mv_r h := s_g23.trans r_g21
  refine mv_istore (pc := 46) B d_Book_fetch_46 (by decide) rfl ?_
  refine mv_aload_n (pc := 48) B d_Book_fetch_48 rfl 4 rfl ?_
  refine mv_aload_n (pc := 49) B d_Book_fetch_49 rfl 4 rfl ?_
  refine mv_getI (pc := 50) (ci := 12) (C := R_Book) (T := F_Book) (N := 65) B 49 rfl rfl (by decide) i_Book (B.2.2.2.1 _ k_1898) rfl d_Book_fetch_50 ?_
  refine mv_aload_n (pc := 53) B d_Book_fetch_53 rfl 4 rfl ?_
  refine mv_getI (pc := 54) (ci := 12) (C := R_Book) (T := F_Book) (N := 65) B 50 rfl rfl (by decide) i_Book (B.2.2.2.1 _ k_1899) rfl d_Book_fetch_54 ?_
  obtain ⟨u26, g25, eg25, hf⟩ := xhb_e hf
  refine mv_callVi (pc := 57) (n := 2) (ci := 12) (C := R_Book) B (mK_ok sk sv) hNs rfl rfl (ch_Book_thing_y l hi _ (xrw r_g23 hb) _ _ eg25) rfl (ma_goodc kc_Book_thing) (B.2.2.2.1 _ k_2212) (B.2.2.2.1 _ k_2214) (B.2.2.2.1 _ ks_97) (B.2.2.2.1 _ k_13) ⟨by decide +kernel, by decide +kernel, by decide +kernel⟩ rfl d_Book_fetch_57 rfl (Nat.le_of_ble_eq_true rfl) ⟨by decide, by decide⟩ ⟨by decide, by decide⟩ ⟨by decide, by decide⟩ (mv_noH hno _) (fun w57 σ57 h57 => ?_)
  obtain ⟨rfl, rfl, s_g25⟩ := h57
  have r_g25 : mv_r g25 = mv_r h := s_g25.trans r_g23
  refine mv_istore (pc := 60) B d_Book_fetch_60 (by decide) rfl ?_
  refine mv_iload (pc := 62) B d_Book_fetch_62 1 rfl ?_
  refine mv_if_lt (pc := 64) (tgt := 81) B d_Book_fetch_64 rfl (fun h64 => ?_) (fun h64 => ?_)
  · skip
    have hf := xif_t h64 hf
    refine mv_lpick [5, 4, 3, 1, 0] rfl ?_
    exact jn81 _ _ _ _ _ r_g25 hf
  · skip
    have hf := xif_f h64 hf
    refine mv_aload_n (pc := 67) B d_Book_fetch_67 rfl 5 rfl ?_
    refine mv_getR (pc := 68) (ci := 12) (C := R_Book) (T := F_Book) (N := 65) B 15 rfl rfl (by decide) i_Book (B.2.2.2.1 _ k_1858) rfl ((congrFun (congrFun r_g25 108) 15).trans (hb.1 108 15 _ rfl)) d_Book_fetch_68 ?_
    refine mv_iload (pc := 71) B d_Book_fetch_71 1 rfl ?_
    obtain ⟨q27, hf⟩ := xvi_e hf
    refine mv_zald (pc := 73) B rfl q27 d_Book_fetch_73 ?_
    refine mv_if_ne (pc := 74) (tgt := 81) B d_Book_fetch_74 rfl (fun h74 => ?_) (fun h74 => ?_)
    · skip
      have hf := xif_f h74 hf
      refine mv_lpick [5, 4, 3, 1, 0] rfl ?_
      exact jn81 _ _ _ _ _ r_g25 hf
    · skip
      have hf := xif_t h74 hf
      refine mv_iconst (pc := 77) (v := 1) B d_Book_fetch_77 (by decide) ?_
      refine mv_goto (pc := 78) (tgt := 82) B d_Book_fetch_78 rfl ?_
      refine mv_lpick [5, 4, 3, 1, 0] rfl ?_
      exact jn82 _ _ _ _ _ _ r_g25 hf
def f_Book_apart_70 (P : Nat) (k2 : Int32 → Int32 → Int32 → mv_H → Option (Int32 × mv_H)) (x1 : Int32) (x2 : Int32) (x3 : Int32) (hz : mv_H) : Option (Int32 × mv_H) := k2 x1 x2 (x3 + 1) hz
def f_Book_apart_68 (P : Nat) (hz : mv_H) : Option (Int32 × mv_H) := bif xzb (1 : Int32) then some ((1 : Int32), hz) else none
def f_Book_apart_54 (P : Nat) (k2 : Int32 → Int32 → Int32 → mv_H → Option (Int32 × mv_H)) (x1 : Int32) (x2 : Int32) (x3 : Int32) (x4 : Int32) (x5 : Int32) (hz : mv_H) : Option (Int32 × mv_H) := if x4 = (49 : Int32) then (if x5 = (48 : Int32) then (f_Book_apart_68 P  hz) else (f_Book_apart_70 P k2 x1 x2 x3 hz)) else (f_Book_apart_70 P k2 x1 x2 x3 hz)
def fF_Book_apart_2 (P : Nat) (k2 : Int32 → Int32 → Int32 → mv_H → Option (Int32 × mv_H)) (x1 : Int32) (x2 : Int32) (x3 : Int32) (hz : mv_H) : Option (Int32 × mv_H) := if (mv_i hz P 20) ≤ x3 then (bif xzb (0 : Int32) then some ((0 : Int32), hz) else none) else (bif xvi x1 4100 then bif xvi ((mv_a hz (P + 10) (x1).toNatClampNeg) + x3) 32768 then bif xvi x2 4100 then bif xvi ((mv_a hz (P + 10) (x2).toNatClampNeg) + x3) 32768 then if (mv_a hz (P + 13) (((mv_a hz (P + 10) (x1).toNatClampNeg) + x3)).toNatClampNeg) = (48 : Int32) then (if (mv_a hz (P + 13) (((mv_a hz (P + 10) (x2).toNatClampNeg) + x3)).toNatClampNeg) = (49 : Int32) then (f_Book_apart_68 P  hz) else (f_Book_apart_54 P k2 x1 x2 x3 (mv_a hz (P + 13) (((mv_a hz (P + 10) (x1).toNatClampNeg) + x3)).toNatClampNeg) (mv_a hz (P + 13) (((mv_a hz (P + 10) (x2).toNatClampNeg) + x3)).toNatClampNeg) hz)) else (f_Book_apart_54 P k2 x1 x2 x3 (mv_a hz (P + 13) (((mv_a hz (P + 10) (x1).toNatClampNeg) + x3)).toNatClampNeg) (mv_a hz (P + 13) (((mv_a hz (P + 10) (x2).toNatClampNeg) + x3)).toNatClampNeg) hz) else none else none else none else none)
def f_Book_apart_2 (P : Nat) : Nat → Int32 → Int32 → Int32 → mv_H → Option (Int32 × mv_H)
  | 0 => fun _ _ _ _ => none
  | nn + 1 => fF_Book_apart_2 P (f_Book_apart_2 P nn)
def f_Book_apart (P : Nat) (h : mv_H) (a0 : Int32) (a1 : Int32) : Option (Int32 × mv_H) := f_Book_apart_2 P 200000 a0 a1 (0 : Int32) h
set_option maxHeartbeats 4000000 in
set_option maxRecDepth 100000 in
theorem ch_Book_apart_x (l : Launch) {dA : FieldType → ClassId} {D : va_G} {al : Nat → Nat} {ext : mv_Sh} {sk sv : Nat → Nat} (hi : mv_inj (mg dA D al ext)) (h : mv_H) (hb : Br 74 (mv_r h))  (a0 : Int32) (a1 : Int32) {rv : Int32} {rg : mv_H} (hf : f_Book_apart 74 h a0 a1 = some (rv, rg)) : mv_C l y_Book_apart (Cond.code y_Book_apart b_Book_apart 6 (Option.some Jvm.ClassFile.FieldType.boolean) :: ma) ({ frames := 0, cells := 0, slots := 0, locals := 0 }) (mg dA D al ext) (mK sk sv) [.ref (al 74), .int a0, .int a1] h (mv_Ri (fun v σ1 => rv = v ∧ rg = σ1 ∧ mv_r σ1 = mv_r h)) := by
  refine mv_C.ofV (cc := b_Book_apart) (nL := 6) (ret := (Option.some Jvm.ClassFile.FieldType.boolean)) (by decide +kernel) rfl hi (Nat.le_of_ble_eq_true rfl) ?_
  intro p e s m below meth c B hNs hr hnm hno
  have jn68 : ∀ (hz : mv_H), mv_r hz = mv_r h → f_Book_apart_68 74  hz = some (rv, rg) → mv_V p l e ({ frames := 0, cells := 0, slots := 0, locals := 0 }) s m ([.ref (al 74), .int a0, .int a1] : List Value).toArray below meth c (mg dA D al ext) 6 0 0 (mv_Q (mg dA D al ext) below s 0 0 (mv_Ri (fun v σ1 => rv = v ∧ rg = σ1 ∧ mv_r σ1 = mv_r h))) hz 68 [] [] := by
    intro  hz r_hz hf
    unfold f_Book_apart_68 at hf
    refine mv_iconst (pc := 68) (v := 1) B d_Book_apart_68 (by decide) ?_
    obtain ⟨q1, hf⟩ := xzb_e hf
    exact mv_iret (pc := 69) B hr (xzb_n q1) d_Book_apart_69 (Nat.le_refl _) (Nat.le_refl _) ⟨_, rfl, xrh_i hf r_hz⟩
  have lp2 : ∀ (nn2 : Nat) (x1 : Int32) (x2 : Int32) (x3 : Int32) (hz : mv_H), mv_r hz = mv_r h → f_Book_apart_2 74 nn2 x1 x2 x3 hz = some (rv, rg) → mv_V p l e ({ frames := 0, cells := 0, slots := 0, locals := 0 }) s m ([.ref (al 74), .int a0, .int a1] : List Value).toArray below meth c (mg dA D al ext) 6 0 0 (mv_Q (mg dA D al ext) below s 0 0 (mv_Ri (fun v σ1 => rv = v ∧ rg = σ1 ∧ mv_r σ1 = mv_r h))) hz 2 [(0, .ref (al 74)), (1, .int x1), (2, .int x2), (3, .int x3)] [] := by
    intro nn2
    induction nn2 with
    | zero => intro x1 x2 x3 hz r_hz hf; cases hf
    | succ nn2 ih2 =>
      intro x1 x2 x3 hz r_hz hf
      have jn70 : ∀ (x1 : Int32) (x2 : Int32) (x3 : Int32) (hz : mv_H), mv_r hz = mv_r h → f_Book_apart_70 74 (f_Book_apart_2 74 nn2) x1 x2 x3 hz = some (rv, rg) → mv_V p l e ({ frames := 0, cells := 0, slots := 0, locals := 0 }) s m ([.ref (al 74), .int a0, .int a1] : List Value).toArray below meth c (mg dA D al ext) 6 0 0 (mv_Q (mg dA D al ext) below s 0 0 (mv_Ri (fun v σ1 => rv = v ∧ rg = σ1 ∧ mv_r σ1 = mv_r h))) hz 70 [(0, .ref (al 74)), (1, .int x1), (2, .int x2), (3, .int x3)] [] := by
        intro x1 x2 x3 hz r_hz hf
        unfold f_Book_apart_70 at hf
        refine mv_iinc (pc := 70) (j := 3) (v := 1) B d_Book_apart_70 rfl (by decide) (by decide) rfl ?_
        refine mv_goto (pc := 73) (tgt := 2) B d_Book_apart_73 rfl ?_
        refine mv_lpick [1, 2, 3, 0] rfl ?_
        exact ih2 _ _ _ _ r_hz hf
      have jn54 : ∀ (x1 : Int32) (x2 : Int32) (x3 : Int32) (x4 : Int32) (x5 : Int32) (hz : mv_H), mv_r hz = mv_r h → f_Book_apart_54 74 (f_Book_apart_2 74 nn2) x1 x2 x3 x4 x5 hz = some (rv, rg) → mv_V p l e ({ frames := 0, cells := 0, slots := 0, locals := 0 }) s m ([.ref (al 74), .int a0, .int a1] : List Value).toArray below meth c (mg dA D al ext) 6 0 0 (mv_Q (mg dA D al ext) below s 0 0 (mv_Ri (fun v σ1 => rv = v ∧ rg = σ1 ∧ mv_r σ1 = mv_r h))) hz 54 [(0, .ref (al 74)), (1, .int x1), (2, .int x2), (3, .int x3), (4, .int x4), (5, .int x5)] [] := by
        intro x1 x2 x3 x4 x5 hz r_hz hf
        unfold f_Book_apart_54 at hf
        refine mv_iload (pc := 54) B d_Book_apart_54 4 rfl ?_
        refine mv_bipush (pc := 56) (v := 49) B d_Book_apart_56 (by decide) ?_
        refine mv_icmp_ne (pc := 58) (tgt := 70) B d_Book_apart_58 rfl (fun h58 => ?_) (fun h58 => ?_)
        · skip
          have hf := xif_f h58 hf
          refine mv_lpick [0, 1, 2, 3] rfl ?_
          exact jn70 _ _ _ _ r_hz hf
        · skip
          have hf := xif_t h58 hf
          refine mv_iload (pc := 61) B d_Book_apart_61 5 rfl ?_
          refine mv_bipush (pc := 63) (v := 48) B d_Book_apart_63 (by decide) ?_
          refine mv_icmp_ne (pc := 65) (tgt := 70) B d_Book_apart_65 rfl (fun h65 => ?_) (fun h65 => ?_)
          · skip
            have hf := xif_f h65 hf
            refine mv_lpick [0, 1, 2, 3] rfl ?_
            exact jn70 _ _ _ _ r_hz hf
          · skip
            have hf := xif_t h65 hf
            refine mv_lpick [] rfl ?_
            exact jn68  _ r_hz hf
      have hf : fF_Book_apart_2 74 (f_Book_apart_2 74 nn2) x1 x2 x3 hz = some (rv, rg) := hf
      unfold fF_Book_apart_2 at hf
      refine mv_iload_n (pc := 2) B d_Book_apart_2 rfl 3 rfl ?_
      refine mv_aload_n (pc := 3) B d_Book_apart_3 rfl 0 rfl ?_
      refine mv_getI (pc := 4) (ci := 12) (C := R_Book) (T := F_Book) (N := 65) B 20 rfl rfl (by decide) i_Book (B.2.2.2.1 _ k_1865) rfl d_Book_apart_4 ?_
      refine mv_icmp_ge (pc := 7) (tgt := 76) B d_Book_apart_7 rfl (fun h7 => ?_) (fun h7 => ?_)
      · skip
        have hf := xif_t h7 hf
        refine mv_iconst (pc := 76) (v := 0) B d_Book_apart_76 (by decide) ?_
        obtain ⟨q2, hf⟩ := xzb_e hf
        exact mv_iret (pc := 77) B hr (xzb_n q2) d_Book_apart_77 (Nat.le_refl _) (Nat.le_refl _) ⟨_, rfl, xrh_i hf r_hz⟩
      · skip
        have hf := xif_f h7 hf
        refine mv_aload_n (pc := 10) B d_Book_apart_10 rfl 0 rfl ?_
        refine mv_getR (pc := 11) (ci := 12) (C := R_Book) (T := F_Book) (N := 65) B 28 rfl rfl (by decide) i_Book (B.2.2.2.1 _ k_1873) rfl ((congrFun (congrFun r_hz 74) 28).trans (hb.1 74 28 _ rfl)) d_Book_apart_11 ?_
        refine mv_aload_n (pc := 14) B d_Book_apart_14 rfl 0 rfl ?_
        refine mv_getR (pc := 15) (ci := 12) (C := R_Book) (T := F_Book) (N := 65) B 25 rfl rfl (by decide) i_Book (B.2.2.2.1 _ k_1870) rfl ((congrFun (congrFun r_hz 74) 25).trans (hb.1 74 25 _ rfl)) d_Book_apart_15 ?_
        refine mv_iload_n (pc := 18) B d_Book_apart_18 rfl 1 rfl ?_
        obtain ⟨q3, hf⟩ := xvi_e hf
        refine mv_iald (pc := 19) B rfl q3 d_Book_apart_19 ?_
        refine mv_iload_n (pc := 20) B d_Book_apart_20 rfl 3 rfl ?_
        refine mv_iadd (pc := 21) B d_Book_apart_21 ?_
        obtain ⟨q4, hf⟩ := xvi_e hf
        refine mv_bald (pc := 22) B rfl q4 d_Book_apart_22 ?_
        refine mv_istore (pc := 23) B d_Book_apart_23 (by decide) rfl ?_
        refine mv_aload_n (pc := 25) B d_Book_apart_25 rfl 1 rfl ?_
        refine mv_getR (pc := 26) (ci := 12) (C := R_Book) (T := F_Book) (N := 65) B 28 rfl rfl (by decide) i_Book (B.2.2.2.1 _ k_1873) rfl ((congrFun (congrFun r_hz 74) 28).trans (hb.1 74 28 _ rfl)) d_Book_apart_26 ?_
        refine mv_aload_n (pc := 29) B d_Book_apart_29 rfl 1 rfl ?_
        refine mv_getR (pc := 30) (ci := 12) (C := R_Book) (T := F_Book) (N := 65) B 25 rfl rfl (by decide) i_Book (B.2.2.2.1 _ k_1870) rfl ((congrFun (congrFun r_hz 74) 25).trans (hb.1 74 25 _ rfl)) d_Book_apart_30 ?_
        refine mv_iload_n (pc := 33) B d_Book_apart_33 rfl 3 rfl ?_
        obtain ⟨q5, hf⟩ := xvi_e hf
        refine mv_iald (pc := 34) B rfl q5 d_Book_apart_34 ?_
        refine mv_iload_n (pc := 35) B d_Book_apart_35 rfl 4 rfl ?_
        refine mv_iadd (pc := 36) B d_Book_apart_36 ?_
        obtain ⟨q6, hf⟩ := xvi_e hf
        refine mv_bald (pc := 37) B rfl q6 d_Book_apart_37 ?_
        refine mv_istore (pc := 38) B d_Book_apart_38 (by decide) rfl ?_
        refine mv_iload (pc := 40) B d_Book_apart_40 1 rfl ?_
        refine mv_bipush (pc := 42) (v := 48) B d_Book_apart_42 (by decide) ?_
        refine mv_icmp_ne (pc := 44) (tgt := 54) B d_Book_apart_44 rfl (fun h44 => ?_) (fun h44 => ?_)
        · skip
          have hf := xif_f h44 hf
          refine mv_lpick [2, 3, 4, 5, 1, 0] rfl ?_
          exact jn54 _ _ _ _ _ _ r_hz hf
        · skip
          have hf := xif_t h44 hf
          refine mv_iload (pc := 47) B d_Book_apart_47 0 rfl ?_
          refine mv_bipush (pc := 49) (v := 49) B d_Book_apart_49 (by decide) ?_
          refine mv_icmp_eq (pc := 51) (tgt := 68) B d_Book_apart_51 rfl (fun h51 => ?_) (fun h51 => ?_)
          · skip
            have hf := xif_t h51 hf
            refine mv_lpick [] rfl ?_
            exact jn68  _ r_hz hf
          · skip
            have hf := xif_f h51 hf
            refine mv_lpick [2, 3, 4, 5, 1, 0] rfl ?_
            exact jn54 _ _ _ _ _ _ r_hz hf
  unfold f_Book_apart at hf
  refine mv_iconst (pc := 0) (v := 0) B d_Book_apart_0 (by decide) ?_
  refine mv_istore_n (pc := 1) B d_Book_apart_1 rfl (by decide) rfl ?_
  refine mv_lpick [1, 2, 3, 0] rfl ?_
  exact lp2 _ _ _ _ _ rfl hf
set_option maxHeartbeats 4000000 in
set_option maxRecDepth 100000 in
theorem ch_Book_apart_y (l : Launch) {dA : FieldType → ClassId} {D : va_G} {al : Nat → Nat} {ext : mv_Sh} {sk sv : Nat → Nat} (hi : mv_inj (mg dA D al ext)) (h : mv_H) (hb : Br 108 (mv_r h))  (a0 : Int32) (a1 : Int32) {rv : Int32} {rg : mv_H} (hf : f_Book_apart 108 h a0 a1 = some (rv, rg)) : mv_C l y_Book_apart (Cond.code y_Book_apart b_Book_apart 6 (Option.some Jvm.ClassFile.FieldType.boolean) :: ma) ({ frames := 0, cells := 0, slots := 0, locals := 0 }) (mg dA D al ext) (mK sk sv) [.ref (al 108), .int a0, .int a1] h (mv_Ri (fun v σ1 => rv = v ∧ rg = σ1 ∧ mv_r σ1 = mv_r h)) := by
  refine mv_C.ofV (cc := b_Book_apart) (nL := 6) (ret := (Option.some Jvm.ClassFile.FieldType.boolean)) (by decide +kernel) rfl hi (Nat.le_of_ble_eq_true rfl) ?_
  intro p e s m below meth c B hNs hr hnm hno
  have jn68 : ∀ (hz : mv_H), mv_r hz = mv_r h → f_Book_apart_68 108  hz = some (rv, rg) → mv_V p l e ({ frames := 0, cells := 0, slots := 0, locals := 0 }) s m ([.ref (al 108), .int a0, .int a1] : List Value).toArray below meth c (mg dA D al ext) 6 0 0 (mv_Q (mg dA D al ext) below s 0 0 (mv_Ri (fun v σ1 => rv = v ∧ rg = σ1 ∧ mv_r σ1 = mv_r h))) hz 68 [] [] := by
    intro  hz r_hz hf
    unfold f_Book_apart_68 at hf
    refine mv_iconst (pc := 68) (v := 1) B d_Book_apart_68 (by decide) ?_
    obtain ⟨q1, hf⟩ := xzb_e hf
    exact mv_iret (pc := 69) B hr (xzb_n q1) d_Book_apart_69 (Nat.le_refl _) (Nat.le_refl _) ⟨_, rfl, xrh_i hf r_hz⟩
  have lp2 : ∀ (nn2 : Nat) (x1 : Int32) (x2 : Int32) (x3 : Int32) (hz : mv_H), mv_r hz = mv_r h → f_Book_apart_2 108 nn2 x1 x2 x3 hz = some (rv, rg) → mv_V p l e ({ frames := 0, cells := 0, slots := 0, locals := 0 }) s m ([.ref (al 108), .int a0, .int a1] : List Value).toArray below meth c (mg dA D al ext) 6 0 0 (mv_Q (mg dA D al ext) below s 0 0 (mv_Ri (fun v σ1 => rv = v ∧ rg = σ1 ∧ mv_r σ1 = mv_r h))) hz 2 [(0, .ref (al 108)), (1, .int x1), (2, .int x2), (3, .int x3)] [] := by
    intro nn2
    induction nn2 with
    | zero => intro x1 x2 x3 hz r_hz hf; cases hf
    | succ nn2 ih2 =>
      intro x1 x2 x3 hz r_hz hf
      have jn70 : ∀ (x1 : Int32) (x2 : Int32) (x3 : Int32) (hz : mv_H), mv_r hz = mv_r h → f_Book_apart_70 108 (f_Book_apart_2 108 nn2) x1 x2 x3 hz = some (rv, rg) → mv_V p l e ({ frames := 0, cells := 0, slots := 0, locals := 0 }) s m ([.ref (al 108), .int a0, .int a1] : List Value).toArray below meth c (mg dA D al ext) 6 0 0 (mv_Q (mg dA D al ext) below s 0 0 (mv_Ri (fun v σ1 => rv = v ∧ rg = σ1 ∧ mv_r σ1 = mv_r h))) hz 70 [(0, .ref (al 108)), (1, .int x1), (2, .int x2), (3, .int x3)] [] := by
        intro x1 x2 x3 hz r_hz hf
        unfold f_Book_apart_70 at hf
        refine mv_iinc (pc := 70) (j := 3) (v := 1) B d_Book_apart_70 rfl (by decide) (by decide) rfl ?_
        refine mv_goto (pc := 73) (tgt := 2) B d_Book_apart_73 rfl ?_
        refine mv_lpick [1, 2, 3, 0] rfl ?_
        exact ih2 _ _ _ _ r_hz hf
      have jn54 : ∀ (x1 : Int32) (x2 : Int32) (x3 : Int32) (x4 : Int32) (x5 : Int32) (hz : mv_H), mv_r hz = mv_r h → f_Book_apart_54 108 (f_Book_apart_2 108 nn2) x1 x2 x3 x4 x5 hz = some (rv, rg) → mv_V p l e ({ frames := 0, cells := 0, slots := 0, locals := 0 }) s m ([.ref (al 108), .int a0, .int a1] : List Value).toArray below meth c (mg dA D al ext) 6 0 0 (mv_Q (mg dA D al ext) below s 0 0 (mv_Ri (fun v σ1 => rv = v ∧ rg = σ1 ∧ mv_r σ1 = mv_r h))) hz 54 [(0, .ref (al 108)), (1, .int x1), (2, .int x2), (3, .int x3), (4, .int x4), (5, .int x5)] [] := by
        intro x1 x2 x3 x4 x5 hz r_hz hf
        unfold f_Book_apart_54 at hf
        refine mv_iload (pc := 54) B d_Book_apart_54 4 rfl ?_
        refine mv_bipush (pc := 56) (v := 49) B d_Book_apart_56 (by decide) ?_
        refine mv_icmp_ne (pc := 58) (tgt := 70) B d_Book_apart_58 rfl (fun h58 => ?_) (fun h58 => ?_)
        · skip
          have hf := xif_f h58 hf
          refine mv_lpick [0, 1, 2, 3] rfl ?_
          exact jn70 _ _ _ _ r_hz hf
        · skip
          have hf := xif_t h58 hf
          refine mv_iload (pc := 61) B d_Book_apart_61 5 rfl ?_
          refine mv_bipush (pc := 63) (v := 48) B d_Book_apart_63 (by decide) ?_
          refine mv_icmp_ne (pc := 65) (tgt := 70) B d_Book_apart_65 rfl (fun h65 => ?_) (fun h65 => ?_)
          · skip
            have hf := xif_f h65 hf
            refine mv_lpick [0, 1, 2, 3] rfl ?_
            exact jn70 _ _ _ _ r_hz hf
          · skip
            have hf := xif_t h65 hf
            refine mv_lpick [] rfl ?_
            exact jn68  _ r_hz hf
      have hf : fF_Book_apart_2 108 (f_Book_apart_2 108 nn2) x1 x2 x3 hz = some (rv, rg) := hf
      unfold fF_Book_apart_2 at hf
      refine mv_iload_n (pc := 2) B d_Book_apart_2 rfl 3 rfl ?_
      refine mv_aload_n (pc := 3) B d_Book_apart_3 rfl 0 rfl ?_
      refine mv_getI (pc := 4) (ci := 12) (C := R_Book) (T := F_Book) (N := 65) B 20 rfl rfl (by decide) i_Book (B.2.2.2.1 _ k_1865) rfl d_Book_apart_4 ?_
      refine mv_icmp_ge (pc := 7) (tgt := 76) B d_Book_apart_7 rfl (fun h7 => ?_) (fun h7 => ?_)
      · skip
        have hf := xif_t h7 hf
        refine mv_iconst (pc := 76) (v := 0) B d_Book_apart_76 (by decide) ?_
        obtain ⟨q2, hf⟩ := xzb_e hf
        exact mv_iret (pc := 77) B hr (xzb_n q2) d_Book_apart_77 (Nat.le_refl _) (Nat.le_refl _) ⟨_, rfl, xrh_i hf r_hz⟩
      · skip
        have hf := xif_f h7 hf
        refine mv_aload_n (pc := 10) B d_Book_apart_10 rfl 0 rfl ?_
        refine mv_getR (pc := 11) (ci := 12) (C := R_Book) (T := F_Book) (N := 65) B 28 rfl rfl (by decide) i_Book (B.2.2.2.1 _ k_1873) rfl ((congrFun (congrFun r_hz 108) 28).trans (hb.1 108 28 _ rfl)) d_Book_apart_11 ?_
        refine mv_aload_n (pc := 14) B d_Book_apart_14 rfl 0 rfl ?_
        refine mv_getR (pc := 15) (ci := 12) (C := R_Book) (T := F_Book) (N := 65) B 25 rfl rfl (by decide) i_Book (B.2.2.2.1 _ k_1870) rfl ((congrFun (congrFun r_hz 108) 25).trans (hb.1 108 25 _ rfl)) d_Book_apart_15 ?_
        refine mv_iload_n (pc := 18) B d_Book_apart_18 rfl 1 rfl ?_
        obtain ⟨q3, hf⟩ := xvi_e hf
        refine mv_iald (pc := 19) B rfl q3 d_Book_apart_19 ?_
        refine mv_iload_n (pc := 20) B d_Book_apart_20 rfl 3 rfl ?_
        refine mv_iadd (pc := 21) B d_Book_apart_21 ?_
        obtain ⟨q4, hf⟩ := xvi_e hf
        refine mv_bald (pc := 22) B rfl q4 d_Book_apart_22 ?_
        refine mv_istore (pc := 23) B d_Book_apart_23 (by decide) rfl ?_
        refine mv_aload_n (pc := 25) B d_Book_apart_25 rfl 1 rfl ?_
        refine mv_getR (pc := 26) (ci := 12) (C := R_Book) (T := F_Book) (N := 65) B 28 rfl rfl (by decide) i_Book (B.2.2.2.1 _ k_1873) rfl ((congrFun (congrFun r_hz 108) 28).trans (hb.1 108 28 _ rfl)) d_Book_apart_26 ?_
        refine mv_aload_n (pc := 29) B d_Book_apart_29 rfl 1 rfl ?_
        refine mv_getR (pc := 30) (ci := 12) (C := R_Book) (T := F_Book) (N := 65) B 25 rfl rfl (by decide) i_Book (B.2.2.2.1 _ k_1870) rfl ((congrFun (congrFun r_hz 108) 25).trans (hb.1 108 25 _ rfl)) d_Book_apart_30 ?_
        refine mv_iload_n (pc := 33) B d_Book_apart_33 rfl 3 rfl ?_
        obtain ⟨q5, hf⟩ := xvi_e hf
        refine mv_iald (pc := 34) B rfl q5 d_Book_apart_34 ?_
        refine mv_iload_n (pc := 35) B d_Book_apart_35 rfl 4 rfl ?_
        refine mv_iadd (pc := 36) B d_Book_apart_36 ?_
        obtain ⟨q6, hf⟩ := xvi_e hf
        refine mv_bald (pc := 37) B rfl q6 d_Book_apart_37 ?_
        refine mv_istore (pc := 38) B d_Book_apart_38 (by decide) rfl ?_
        refine mv_iload (pc := 40) B d_Book_apart_40 1 rfl ?_
        refine mv_bipush (pc := 42) (v := 48) B d_Book_apart_42 (by decide) ?_
        refine mv_icmp_ne (pc := 44) (tgt := 54) B d_Book_apart_44 rfl (fun h44 => ?_) (fun h44 => ?_)
        · skip
          have hf := xif_f h44 hf
          refine mv_lpick [2, 3, 4, 5, 1, 0] rfl ?_
          exact jn54 _ _ _ _ _ _ r_hz hf
        · skip
          have hf := xif_t h44 hf
          refine mv_iload (pc := 47) B d_Book_apart_47 0 rfl ?_
          refine mv_bipush (pc := 49) (v := 49) B d_Book_apart_49 (by decide) ?_
          refine mv_icmp_eq (pc := 51) (tgt := 68) B d_Book_apart_51 rfl (fun h51 => ?_) (fun h51 => ?_)
          · skip
            have hf := xif_t h51 hf
            refine mv_lpick [] rfl ?_
            exact jn68  _ r_hz hf
          · skip
            have hf := xif_f h51 hf
            refine mv_lpick [2, 3, 4, 5, 1, 0] rfl ?_
            exact jn54 _ _ _ _ _ _ r_hz hf
  unfold f_Book_apart at hf
  refine mv_iconst (pc := 0) (v := 0) B d_Book_apart_0 (by decide) ?_
  refine mv_istore_n (pc := 1) B d_Book_apart_1 rfl (by decide) rfl ?_
  refine mv_lpick [1, 2, 3, 0] rfl ?_
  exact lp2 _ _ _ _ _ rfl hf
def f_Book_clash_65 (P : Nat) (k2 : Int32 → mv_H → Option mv_H) (x1 : Int32) (hz : mv_H) : Option mv_H := k2 (x1 + 1) hz
def f_Book_clash_59 (P : Nat) (k2 : Int32 → mv_H → Option mv_H) (k19 : Int32 → Int32 → mv_H → Option mv_H) (x1 : Int32) (x2 : Int32) (hz : mv_H) : Option mv_H := k19 x1 (x2 + 1) hz
def fF_Book_clash_19 (P : Nat) (k2 : Int32 → mv_H → Option mv_H) (k19 : Int32 → Int32 → mv_H → Option mv_H) (x1 : Int32) (x2 : Int32) (hz : mv_H) : Option mv_H := if x1 ≤ x2 then (f_Book_clash_65 P k2 x1 hz) else (if (mv_i hz P 38) = (0 : Int32) then (xhb (f_Book_apart P hz x1 x2) fun u2 g1 => if u2 = (0 : Int32) then (xk (mv_si g1 P 37 x1) fun g3 => xk (mv_si g3 P 38 (7 : Int32)) fun g4 => xk (mv_si g4 P 39 x2) fun g5 => f_Book_clash_59 P k2 k19 x1 x2 g5) else (f_Book_clash_59 P k2 k19 x1 x2 g1)) else (f_Book_clash_65 P k2 x1 hz))
def f_Book_clash_19 (P : Nat) (k2 : Int32 → mv_H → Option mv_H) : Nat → Int32 → Int32 → mv_H → Option mv_H
  | 0 => fun _ _ _ => none
  | nn + 1 => fF_Book_clash_19 P k2 (f_Book_clash_19 P k2 nn)
def fF_Book_clash_2 (P : Nat) (k2 : Int32 → mv_H → Option mv_H) (x1 : Int32) (hz : mv_H) : Option mv_H := if (mv_i hz P 29) ≤ x1 then (some hz) else (if (mv_i hz P 38) = (0 : Int32) then (f_Book_clash_19 P k2 200000 x1 (0 : Int32) hz) else (some hz))
def f_Book_clash_2 (P : Nat) : Nat → Int32 → mv_H → Option mv_H
  | 0 => fun _ _ => none
  | nn + 1 => fF_Book_clash_2 P (f_Book_clash_2 P nn)
def f_Book_clash (P : Nat) (h : mv_H) : Option mv_H := f_Book_clash_2 P 200000 (0 : Int32) h
set_option maxHeartbeats 4000000 in
set_option maxRecDepth 100000 in
theorem ch_Book_clash_x (l : Launch) {dA : FieldType → ClassId} {D : va_G} {al : Nat → Nat} {ext : mv_Sh} {sk sv : Nat → Nat} (hi : mv_inj (mg dA D al ext)) (h : mv_H) (hb : Br 74 (mv_r h))  {rg : mv_H} (hf : f_Book_clash 74 h = some rg) : mv_C l y_Book_clash (Cond.code y_Book_clash b_Book_clash 3 (Option.none : Option Jvm.ClassFile.FieldType) :: ma) ({ frames := 1, cells := 0, slots := 0, locals := 25 }) (mg dA D al ext) (mK sk sv) [.ref (al 74)] h (mv_Rv (fun σ1 => rg = σ1 ∧ mv_r σ1 = mv_r h)) := by
  refine mv_C.ofV (cc := b_Book_clash) (nL := 3) (ret := (Option.none : Option Jvm.ClassFile.FieldType)) (by decide +kernel) rfl hi (Nat.le_of_ble_eq_true rfl) ?_
  intro p e s m below meth c B hNs hr hnm hno
  have lp2 : ∀ (nn2 : Nat) (x1 : Int32) (hz : mv_H), mv_r hz = mv_r h → f_Book_clash_2 74 nn2 x1 hz = some rg → mv_V p l e ({ frames := 1, cells := 0, slots := 0, locals := 25 }) s m ([.ref (al 74)] : List Value).toArray below meth c (mg dA D al ext) 3 0 0 (mv_Q (mg dA D al ext) below s 0 0 (mv_Rv (fun σ1 => rg = σ1 ∧ mv_r σ1 = mv_r h))) hz 2 [(0, .ref (al 74)), (1, .int x1)] [] := by
    intro nn2
    induction nn2 with
    | zero => intro x1 hz r_hz hf; cases hf
    | succ nn2 ih2 =>
      intro x1 hz r_hz hf
      have jn65 : ∀ (x1 : Int32) (hz : mv_H), mv_r hz = mv_r h → f_Book_clash_65 74 (f_Book_clash_2 74 nn2) x1 hz = some rg → mv_V p l e ({ frames := 1, cells := 0, slots := 0, locals := 25 }) s m ([.ref (al 74)] : List Value).toArray below meth c (mg dA D al ext) 3 0 0 (mv_Q (mg dA D al ext) below s 0 0 (mv_Rv (fun σ1 => rg = σ1 ∧ mv_r σ1 = mv_r h))) hz 65 [(0, .ref (al 74)), (1, .int x1)] [] := by
        intro x1 hz r_hz hf
        unfold f_Book_clash_65 at hf
        refine mv_iinc (pc := 65) (j := 1) (v := 1) B d_Book_clash_65 rfl (by decide) (by decide) rfl ?_
        refine mv_goto (pc := 68) (tgt := 2) B d_Book_clash_68 rfl ?_
        refine mv_lpick [1, 0] rfl ?_
        exact ih2 _ _ r_hz hf
      have lp19 : ∀ (nn19 : Nat) (x1 : Int32) (x2 : Int32) (hz : mv_H), mv_r hz = mv_r h → f_Book_clash_19 74 (f_Book_clash_2 74 nn2) nn19 x1 x2 hz = some rg → mv_V p l e ({ frames := 1, cells := 0, slots := 0, locals := 25 }) s m ([.ref (al 74)] : List Value).toArray below meth c (mg dA D al ext) 3 0 0 (mv_Q (mg dA D al ext) below s 0 0 (mv_Rv (fun σ1 => rg = σ1 ∧ mv_r σ1 = mv_r h))) hz 19 [(0, .ref (al 74)), (1, .int x1), (2, .int x2)] [] := by
        intro nn19
        induction nn19 with
        | zero => intro x1 x2 hz r_hz hf; cases hf
        | succ nn19 ih19 =>
          intro x1 x2 hz r_hz hf
          have jn59 : ∀ (x1 : Int32) (x2 : Int32) (hz : mv_H), mv_r hz = mv_r h → f_Book_clash_59 74 (f_Book_clash_2 74 nn2) (f_Book_clash_19 74 (f_Book_clash_2 74 nn2) nn19) x1 x2 hz = some rg → mv_V p l e ({ frames := 1, cells := 0, slots := 0, locals := 25 }) s m ([.ref (al 74)] : List Value).toArray below meth c (mg dA D al ext) 3 0 0 (mv_Q (mg dA D al ext) below s 0 0 (mv_Rv (fun σ1 => rg = σ1 ∧ mv_r σ1 = mv_r h))) hz 59 [(0, .ref (al 74)), (1, .int x1), (2, .int x2)] [] := by
            intro x1 x2 hz r_hz hf
            unfold f_Book_clash_59 at hf
            refine mv_iinc (pc := 59) (j := 2) (v := 1) B d_Book_clash_59 rfl (by decide) (by decide) rfl ?_
            refine mv_goto (pc := 62) (tgt := 19) B d_Book_clash_62 rfl ?_
            refine mv_lpick [1, 2, 0] rfl ?_
            exact ih19 _ _ _ r_hz hf
          have hf : fF_Book_clash_19 74 (f_Book_clash_2 74 nn2) (f_Book_clash_19 74 (f_Book_clash_2 74 nn2) nn19) x1 x2 hz = some rg := hf
          unfold fF_Book_clash_19 at hf
          refine mv_iload_n (pc := 19) B d_Book_clash_19 rfl 2 rfl ?_
          refine mv_iload_n (pc := 20) B d_Book_clash_20 rfl 1 rfl ?_
          refine mv_icmp_ge (pc := 21) (tgt := 65) B d_Book_clash_21 rfl (fun h21 => ?_) (fun h21 => ?_)
          · skip
            have hf := xif_t h21 hf
            refine mv_lpick [0, 1] rfl ?_
            exact jn65 _ _ r_hz hf
          · skip
            have hf := xif_f h21 hf
            refine mv_aload_n (pc := 24) B d_Book_clash_24 rfl 0 rfl ?_
            refine mv_getI (pc := 25) (ci := 12) (C := R_Book) (T := F_Book) (N := 65) B 38 rfl rfl (by decide) i_Book (B.2.2.2.1 _ k_1885) rfl d_Book_clash_25 ?_
            refine mv_if_ne (pc := 28) (tgt := 65) B d_Book_clash_28 rfl (fun h28 => ?_) (fun h28 => ?_)
            · skip
              have hf := xif_f h28 hf
              refine mv_lpick [0, 1] rfl ?_
              exact jn65 _ _ r_hz hf
            · skip
              have hf := xif_t h28 hf
              refine mv_aload_n (pc := 31) B d_Book_clash_31 rfl 0 rfl ?_
              refine mv_iload_n (pc := 32) B d_Book_clash_32 rfl 1 rfl ?_
              refine mv_iload_n (pc := 33) B d_Book_clash_33 rfl 2 rfl ?_
              obtain ⟨u2, g1, eg1, hf⟩ := xhb_e hf
              refine mv_callVi (pc := 34) (n := 2) (ci := 12) (C := R_Book) B (mK_ok sk sv) hNs rfl rfl (ch_Book_apart_x l hi _ (xrw r_hz hb) _ _ eg1) rfl (ma_goodc kc_Book_apart) (B.2.2.2.1 _ k_2337) (B.2.2.2.1 _ k_2339) (B.2.2.2.1 _ ks_122) (B.2.2.2.1 _ k_13) ⟨by decide +kernel, by decide +kernel, by decide +kernel⟩ rfl d_Book_clash_34 rfl (Nat.le_of_ble_eq_true rfl) ⟨by decide, by decide⟩ ⟨by decide, by decide⟩ ⟨by decide, by decide⟩ (mv_noH hno _) (fun w34 σ34 h34 => ?_)
              obtain ⟨rfl, rfl, s_g1⟩ := h34
              have r_g1 : mv_r g1 = mv_r h := s_g1.trans r_hz
              refine mv_if_eq (pc := 37) (tgt := 43) B d_Book_clash_37 rfl (fun h37 => ?_) (fun h37 => ?_)
              · skip
                have hf := xif_t h37 hf
                refine mv_aload_n (pc := 43) B d_Book_clash_43 rfl 0 rfl ?_
                refine mv_iload_n (pc := 44) B d_Book_clash_44 rfl 1 rfl ?_
                refine mv_putI (pc := 45) (ci := 12) (C := R_Book) (T := F_Book) (N := 65) B 37 rfl rfl (by decide) i_Book t_Book_ok n_Book (B.2.2.2.1 _ k_1883) rfl rfl rfl rfl d_Book_clash_45 ?_
                refine mvh_hp (R9 := mv_r h) hf r_g1 (fun g3 hf r_g3 => ?_)
                refine mv_aload_n (pc := 48) B d_Book_clash_48 rfl 0 rfl ?_
                refine mv_bipush (pc := 49) (v := 7) B d_Book_clash_49 (by decide) ?_
                refine mv_putI (pc := 51) (ci := 12) (C := R_Book) (T := F_Book) (N := 65) B 38 rfl rfl (by decide) i_Book t_Book_ok n_Book (B.2.2.2.1 _ k_1885) rfl rfl rfl rfl d_Book_clash_51 ?_
                refine mvh_hp (R9 := mv_r h) hf r_g3 (fun g4 hf r_g4 => ?_)
                refine mv_aload_n (pc := 54) B d_Book_clash_54 rfl 0 rfl ?_
                refine mv_iload_n (pc := 55) B d_Book_clash_55 rfl 2 rfl ?_
                refine mv_putI (pc := 56) (ci := 12) (C := R_Book) (T := F_Book) (N := 65) B 39 rfl rfl (by decide) i_Book t_Book_ok n_Book (B.2.2.2.1 _ k_1888) rfl rfl rfl rfl d_Book_clash_56 ?_
                refine mvh_hp (R9 := mv_r h) hf r_g4 (fun g5 hf r_g5 => ?_)
                refine mv_lpick [0, 1, 2] rfl ?_
                exact jn59 _ _ _ r_g5 hf
              · skip
                have hf := xif_f h37 hf
                refine mv_goto (pc := 40) (tgt := 59) B d_Book_clash_40 rfl ?_
                refine mv_lpick [0, 1, 2] rfl ?_
                exact jn59 _ _ _ r_g1 hf
      have hf : fF_Book_clash_2 74 (f_Book_clash_2 74 nn2) x1 hz = some rg := hf
      unfold fF_Book_clash_2 at hf
      refine mv_iload_n (pc := 2) B d_Book_clash_2 rfl 1 rfl ?_
      refine mv_aload_n (pc := 3) B d_Book_clash_3 rfl 0 rfl ?_
      refine mv_getI (pc := 4) (ci := 12) (C := R_Book) (T := F_Book) (N := 65) B 29 rfl rfl (by decide) i_Book (B.2.2.2.1 _ k_1874) rfl d_Book_clash_4 ?_
      refine mv_icmp_ge (pc := 7) (tgt := 71) B d_Book_clash_7 rfl (fun h7 => ?_) (fun h7 => ?_)
      · skip
        have hf := xif_t h7 hf
        exact mv_vret (pc := 71) B hr d_Book_clash_71 (Nat.le_refl _) (Nat.le_refl _) ⟨rfl, xrh_v hf r_hz⟩
      · skip
        have hf := xif_f h7 hf
        refine mv_aload_n (pc := 10) B d_Book_clash_10 rfl 0 rfl ?_
        refine mv_getI (pc := 11) (ci := 12) (C := R_Book) (T := F_Book) (N := 65) B 38 rfl rfl (by decide) i_Book (B.2.2.2.1 _ k_1885) rfl d_Book_clash_11 ?_
        refine mv_if_ne (pc := 14) (tgt := 71) B d_Book_clash_14 rfl (fun h14 => ?_) (fun h14 => ?_)
        · skip
          have hf := xif_f h14 hf
          exact mv_vret (pc := 71) B hr d_Book_clash_71 (Nat.le_refl _) (Nat.le_refl _) ⟨rfl, xrh_v hf r_hz⟩
        · skip
          have hf := xif_t h14 hf
          refine mv_iconst (pc := 17) (v := 0) B d_Book_clash_17 (by decide) ?_
          refine mv_istore_n (pc := 18) B d_Book_clash_18 rfl (by decide) rfl ?_
          refine mv_lpick [1, 2, 0] rfl ?_
          exact lp19 _ _ _ _ r_hz hf
  unfold f_Book_clash at hf
  refine mv_iconst (pc := 0) (v := 0) B d_Book_clash_0 (by decide) ?_
  refine mv_istore_n (pc := 1) B d_Book_clash_1 rfl (by decide) rfl ?_
  refine mv_lpick [1, 0] rfl ?_
  exact lp2 _ _ _ rfl hf
set_option maxHeartbeats 4000000 in
set_option maxRecDepth 100000 in
theorem ch_Book_clash_y (l : Launch) {dA : FieldType → ClassId} {D : va_G} {al : Nat → Nat} {ext : mv_Sh} {sk sv : Nat → Nat} (hi : mv_inj (mg dA D al ext)) (h : mv_H) (hb : Br 108 (mv_r h))  {rg : mv_H} (hf : f_Book_clash 108 h = some rg) : mv_C l y_Book_clash (Cond.code y_Book_clash b_Book_clash 3 (Option.none : Option Jvm.ClassFile.FieldType) :: ma) ({ frames := 1, cells := 0, slots := 0, locals := 25 }) (mg dA D al ext) (mK sk sv) [.ref (al 108)] h (mv_Rv (fun σ1 => rg = σ1 ∧ mv_r σ1 = mv_r h)) := by
  refine mv_C.ofV (cc := b_Book_clash) (nL := 3) (ret := (Option.none : Option Jvm.ClassFile.FieldType)) (by decide +kernel) rfl hi (Nat.le_of_ble_eq_true rfl) ?_
  intro p e s m below meth c B hNs hr hnm hno
  have lp2 : ∀ (nn2 : Nat) (x1 : Int32) (hz : mv_H), mv_r hz = mv_r h → f_Book_clash_2 108 nn2 x1 hz = some rg → mv_V p l e ({ frames := 1, cells := 0, slots := 0, locals := 25 }) s m ([.ref (al 108)] : List Value).toArray below meth c (mg dA D al ext) 3 0 0 (mv_Q (mg dA D al ext) below s 0 0 (mv_Rv (fun σ1 => rg = σ1 ∧ mv_r σ1 = mv_r h))) hz 2 [(0, .ref (al 108)), (1, .int x1)] [] := by
    intro nn2
    induction nn2 with
    | zero => intro x1 hz r_hz hf; cases hf
    | succ nn2 ih2 =>
      intro x1 hz r_hz hf
      have jn65 : ∀ (x1 : Int32) (hz : mv_H), mv_r hz = mv_r h → f_Book_clash_65 108 (f_Book_clash_2 108 nn2) x1 hz = some rg → mv_V p l e ({ frames := 1, cells := 0, slots := 0, locals := 25 }) s m ([.ref (al 108)] : List Value).toArray below meth c (mg dA D al ext) 3 0 0 (mv_Q (mg dA D al ext) below s 0 0 (mv_Rv (fun σ1 => rg = σ1 ∧ mv_r σ1 = mv_r h))) hz 65 [(0, .ref (al 108)), (1, .int x1)] [] := by
        intro x1 hz r_hz hf
        unfold f_Book_clash_65 at hf
        refine mv_iinc (pc := 65) (j := 1) (v := 1) B d_Book_clash_65 rfl (by decide) (by decide) rfl ?_
        refine mv_goto (pc := 68) (tgt := 2) B d_Book_clash_68 rfl ?_
        refine mv_lpick [1, 0] rfl ?_
        exact ih2 _ _ r_hz hf
      have lp19 : ∀ (nn19 : Nat) (x1 : Int32) (x2 : Int32) (hz : mv_H), mv_r hz = mv_r h → f_Book_clash_19 108 (f_Book_clash_2 108 nn2) nn19 x1 x2 hz = some rg → mv_V p l e ({ frames := 1, cells := 0, slots := 0, locals := 25 }) s m ([.ref (al 108)] : List Value).toArray below meth c (mg dA D al ext) 3 0 0 (mv_Q (mg dA D al ext) below s 0 0 (mv_Rv (fun σ1 => rg = σ1 ∧ mv_r σ1 = mv_r h))) hz 19 [(0, .ref (al 108)), (1, .int x1), (2, .int x2)] [] := by
        intro nn19
        induction nn19 with
        | zero => intro x1 x2 hz r_hz hf; cases hf
        | succ nn19 ih19 =>
          intro x1 x2 hz r_hz hf
          have jn59 : ∀ (x1 : Int32) (x2 : Int32) (hz : mv_H), mv_r hz = mv_r h → f_Book_clash_59 108 (f_Book_clash_2 108 nn2) (f_Book_clash_19 108 (f_Book_clash_2 108 nn2) nn19) x1 x2 hz = some rg → mv_V p l e ({ frames := 1, cells := 0, slots := 0, locals := 25 }) s m ([.ref (al 108)] : List Value).toArray below meth c (mg dA D al ext) 3 0 0 (mv_Q (mg dA D al ext) below s 0 0 (mv_Rv (fun σ1 => rg = σ1 ∧ mv_r σ1 = mv_r h))) hz 59 [(0, .ref (al 108)), (1, .int x1), (2, .int x2)] [] := by
            intro x1 x2 hz r_hz hf
            unfold f_Book_clash_59 at hf
            refine mv_iinc (pc := 59) (j := 2) (v := 1) B d_Book_clash_59 rfl (by decide) (by decide) rfl ?_
            refine mv_goto (pc := 62) (tgt := 19) B d_Book_clash_62 rfl ?_
            refine mv_lpick [1, 2, 0] rfl ?_
            exact ih19 _ _ _ r_hz hf
          have hf : fF_Book_clash_19 108 (f_Book_clash_2 108 nn2) (f_Book_clash_19 108 (f_Book_clash_2 108 nn2) nn19) x1 x2 hz = some rg := hf
          unfold fF_Book_clash_19 at hf
          refine mv_iload_n (pc := 19) B d_Book_clash_19 rfl 2 rfl ?_
          refine mv_iload_n (pc := 20) B d_Book_clash_20 rfl 1 rfl ?_
          refine mv_icmp_ge (pc := 21) (tgt := 65) B d_Book_clash_21 rfl (fun h21 => ?_) (fun h21 => ?_)
          · skip
            have hf := xif_t h21 hf
            refine mv_lpick [0, 1] rfl ?_
            exact jn65 _ _ r_hz hf
          · skip
            have hf := xif_f h21 hf
            refine mv_aload_n (pc := 24) B d_Book_clash_24 rfl 0 rfl ?_
            refine mv_getI (pc := 25) (ci := 12) (C := R_Book) (T := F_Book) (N := 65) B 38 rfl rfl (by decide) i_Book (B.2.2.2.1 _ k_1885) rfl d_Book_clash_25 ?_
            refine mv_if_ne (pc := 28) (tgt := 65) B d_Book_clash_28 rfl (fun h28 => ?_) (fun h28 => ?_)
            · skip
              have hf := xif_f h28 hf
              refine mv_lpick [0, 1] rfl ?_
              exact jn65 _ _ r_hz hf
            · skip
              have hf := xif_t h28 hf
              refine mv_aload_n (pc := 31) B d_Book_clash_31 rfl 0 rfl ?_
              refine mv_iload_n (pc := 32) B d_Book_clash_32 rfl 1 rfl ?_
              refine mv_iload_n (pc := 33) B d_Book_clash_33 rfl 2 rfl ?_
              obtain ⟨u2, g1, eg1, hf⟩ := xhb_e hf
              refine mv_callVi (pc := 34) (n := 2) (ci := 12) (C := R_Book) B (mK_ok sk sv) hNs rfl rfl (ch_Book_apart_y l hi _ (xrw r_hz hb) _ _ eg1) rfl (ma_goodc kc_Book_apart) (B.2.2.2.1 _ k_2337) (B.2.2.2.1 _ k_2339) (B.2.2.2.1 _ ks_122) (B.2.2.2.1 _ k_13) ⟨by decide +kernel, by decide +kernel, by decide +kernel⟩ rfl d_Book_clash_34 rfl (Nat.le_of_ble_eq_true rfl) ⟨by decide, by decide⟩ ⟨by decide, by decide⟩ ⟨by decide, by decide⟩ (mv_noH hno _) (fun w34 σ34 h34 => ?_)
              obtain ⟨rfl, rfl, s_g1⟩ := h34
              have r_g1 : mv_r g1 = mv_r h := s_g1.trans r_hz
              refine mv_if_eq (pc := 37) (tgt := 43) B d_Book_clash_37 rfl (fun h37 => ?_) (fun h37 => ?_)
              · skip
                have hf := xif_t h37 hf
                refine mv_aload_n (pc := 43) B d_Book_clash_43 rfl 0 rfl ?_
                refine mv_iload_n (pc := 44) B d_Book_clash_44 rfl 1 rfl ?_
                refine mv_putI (pc := 45) (ci := 12) (C := R_Book) (T := F_Book) (N := 65) B 37 rfl rfl (by decide) i_Book t_Book_ok n_Book (B.2.2.2.1 _ k_1883) rfl rfl rfl rfl d_Book_clash_45 ?_
                refine mvh_hp (R9 := mv_r h) hf r_g1 (fun g3 hf r_g3 => ?_)
                refine mv_aload_n (pc := 48) B d_Book_clash_48 rfl 0 rfl ?_
                refine mv_bipush (pc := 49) (v := 7) B d_Book_clash_49 (by decide) ?_
                refine mv_putI (pc := 51) (ci := 12) (C := R_Book) (T := F_Book) (N := 65) B 38 rfl rfl (by decide) i_Book t_Book_ok n_Book (B.2.2.2.1 _ k_1885) rfl rfl rfl rfl d_Book_clash_51 ?_
                refine mvh_hp (R9 := mv_r h) hf r_g3 (fun g4 hf r_g4 => ?_)
                refine mv_aload_n (pc := 54) B d_Book_clash_54 rfl 0 rfl ?_
                refine mv_iload_n (pc := 55) B d_Book_clash_55 rfl 2 rfl ?_
                refine mv_putI (pc := 56) (ci := 12) (C := R_Book) (T := F_Book) (N := 65) B 39 rfl rfl (by decide) i_Book t_Book_ok n_Book (B.2.2.2.1 _ k_1888) rfl rfl rfl rfl d_Book_clash_56 ?_
                refine mvh_hp (R9 := mv_r h) hf r_g4 (fun g5 hf r_g5 => ?_)
                refine mv_lpick [0, 1, 2] rfl ?_
                exact jn59 _ _ _ r_g5 hf
              · skip
                have hf := xif_f h37 hf
                refine mv_goto (pc := 40) (tgt := 59) B d_Book_clash_40 rfl ?_
                refine mv_lpick [0, 1, 2] rfl ?_
                exact jn59 _ _ _ r_g1 hf
      have hf : fF_Book_clash_2 108 (f_Book_clash_2 108 nn2) x1 hz = some rg := hf
      unfold fF_Book_clash_2 at hf
      refine mv_iload_n (pc := 2) B d_Book_clash_2 rfl 1 rfl ?_
      refine mv_aload_n (pc := 3) B d_Book_clash_3 rfl 0 rfl ?_
      refine mv_getI (pc := 4) (ci := 12) (C := R_Book) (T := F_Book) (N := 65) B 29 rfl rfl (by decide) i_Book (B.2.2.2.1 _ k_1874) rfl d_Book_clash_4 ?_
      refine mv_icmp_ge (pc := 7) (tgt := 71) B d_Book_clash_7 rfl (fun h7 => ?_) (fun h7 => ?_)
      · skip
        have hf := xif_t h7 hf
        exact mv_vret (pc := 71) B hr d_Book_clash_71 (Nat.le_refl _) (Nat.le_refl _) ⟨rfl, xrh_v hf r_hz⟩
      · skip
        have hf := xif_f h7 hf
        refine mv_aload_n (pc := 10) B d_Book_clash_10 rfl 0 rfl ?_
        refine mv_getI (pc := 11) (ci := 12) (C := R_Book) (T := F_Book) (N := 65) B 38 rfl rfl (by decide) i_Book (B.2.2.2.1 _ k_1885) rfl d_Book_clash_11 ?_
        refine mv_if_ne (pc := 14) (tgt := 71) B d_Book_clash_14 rfl (fun h14 => ?_) (fun h14 => ?_)
        · skip
          have hf := xif_f h14 hf
          exact mv_vret (pc := 71) B hr d_Book_clash_71 (Nat.le_refl _) (Nat.le_refl _) ⟨rfl, xrh_v hf r_hz⟩
        · skip
          have hf := xif_t h14 hf
          refine mv_iconst (pc := 17) (v := 0) B d_Book_clash_17 (by decide) ?_
          refine mv_istore_n (pc := 18) B d_Book_clash_18 rfl (by decide) rfl ?_
          refine mv_lpick [1, 2, 0] rfl ?_
          exact lp19 _ _ _ _ r_hz hf
  unfold f_Book_clash at hf
  refine mv_iconst (pc := 0) (v := 0) B d_Book_clash_0 (by decide) ?_
  refine mv_istore_n (pc := 1) B d_Book_clash_1 rfl (by decide) rfl ?_
  refine mv_lpick [1, 0] rfl ?_
  exact lp2 _ _ _ rfl hf
