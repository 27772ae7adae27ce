/-! Arrays.fill, Long.bitCount -/
def mv_cb (σ : mv_H) (o : Nat) (f : Nat → Int64) : mv_H := (σ.1, σ.2.1, σ.2.2.1, σ.2.2.2.1, (fun o' => if o' = o then f else σ.2.2.2.2 o'))
/-- the places a .. b - 1 of an array hold v -/
def mv_fi (σ : mv_H) (o a b : Nat) (v : Int32) : mv_H := mv_ca σ o (fun j => if a ≤ j ∧ j < b then v else mv_a σ o j)
def mv_fl (σ : mv_H) (o a b : Nat) (v : Int64) : mv_H := mv_cb σ o (fun j => if a ≤ j ∧ j < b then v else mv_b σ o j)
theorem mv_fi_0 (σ : mv_H) (o a : Nat) (v : Int32) : mv_fi σ o a a v = σ := by
  have e : (fun j => if a ≤ j ∧ j < a then v else mv_a σ o j) = mv_a σ o := funext fun j => if_neg (by omega)
  unfold mv_fi mv_ca
  rw [e]
  have e2 : (fun o' => if o' = o then mv_a σ o else σ.2.2.2.1 o') = σ.2.2.2.1 := funext fun o' => by
    split
    · rename_i h; rw [h]
    · rfl
  rw [e2]
theorem mv_fl_0 (σ : mv_H) (o a : Nat) (v : Int64) : mv_fl σ o a a v = σ := by
  have e : (fun j => if a ≤ j ∧ j < a then v else mv_b σ o j) = mv_b σ o := funext fun j => if_neg (by omega)
  unfold mv_fl mv_cb
  rw [e]
  have e2 : (fun o' => if o' = o then mv_b σ o else σ.2.2.2.2 o') = σ.2.2.2.2 := funext fun o' => by
    split
    · rename_i h; rw [h]
    · rfl
  rw [e2]
theorem mv_fi_s (σ : mv_H) (o a k : Nat) (v : Int32) (h : a ≤ k) : mv_sa (mv_fi σ o a k v) o k v = mv_fi σ o a (k + 1) v := by
  have e : mv_u (fun o' => if o' = o then (fun j => if a ≤ j ∧ j < k then v else mv_a σ o j) else σ.2.2.2.1 o') o k v = (fun o' => if o' = o then (fun j => if a ≤ j ∧ j < k + 1 then v else mv_a σ o j) else σ.2.2.2.1 o') := by
    funext o' j
    unfold mv_u
    by_cases h1 : o' = o
    · subst h1
      by_cases h2 : j = k
      · subst h2
        rw [if_pos ⟨rfl, rfl⟩, if_pos rfl, if_pos ⟨h, by omega⟩]
      · rw [if_neg (fun q => h2 q.2)]
        simp only [↓reduceIte]
        show (if a ≤ j ∧ j < k then v else _) = (if a ≤ j ∧ j < k + 1 then v else _)
        by_cases h3 : a ≤ j ∧ j < k
        · rw [if_pos h3, if_pos ⟨h3.1, by omega⟩]
        · rw [if_neg h3, if_neg (by omega)]
    · rw [if_neg (fun q => h1 q.1)]
      simp only [h1, ↓reduceIte]
  unfold mv_fi mv_sa mv_ca
  simp only
  rw [e]
theorem mv_fl_s (σ : mv_H) (o a k : Nat) (v : Int64) (h : a ≤ k) : mv_sb (mv_fl σ o a k v) o k v = mv_fl σ o a (k + 1) v := by
  have e : mv_u (fun o' => if o' = o then (fun j => if a ≤ j ∧ j < k then v else mv_b σ o j) else σ.2.2.2.2 o') o k v = (fun o' => if o' = o then (fun j => if a ≤ j ∧ j < k + 1 then v else mv_b σ o j) else σ.2.2.2.2 o') := by
    funext o' j
    unfold mv_u
    by_cases h1 : o' = o
    · subst h1
      by_cases h2 : j = k
      · subst h2
        rw [if_pos ⟨rfl, rfl⟩, if_pos rfl, if_pos ⟨h, by omega⟩]
      · rw [if_neg (fun q => h2 q.2)]
        simp only [↓reduceIte]
        show (if a ≤ j ∧ j < k then v else _) = (if a ≤ j ∧ j < k + 1 then v else _)
        by_cases h3 : a ≤ j ∧ j < k
        · rw [if_pos h3, if_pos ⟨h3.1, by omega⟩]
        · rw [if_neg h3, if_neg (by omega)]
    · rw [if_neg (fun q => h1 q.1)]
      simp only [h1, ↓reduceIte]
  unfold mv_fl mv_sb mv_cb
  simp only
  rw [e]
def y_Arrays_rangeCheck : MethodName := ⟨"java/util/Arrays", "rangeCheck", "(III)V"⟩
abbrev b_Arrays_rangeCheck : ByteArray := prog_35_method_30_code
theorem kc_Arrays_rangeCheck : Cond.code y_Arrays_rangeCheck b_Arrays_rangeCheck 3 (Option.none : Option Jvm.ClassFile.FieldType) ∈ ma := ma_of (tb_4 _ (List.mem_of_getElem? (i := 233) rfl)) rfl
theorem d_Arrays_rangeCheck_0 : decode b_Arrays_rangeCheck 0 = .ok (.iload_n 1, 1) := by decide +kernel
theorem d_Arrays_rangeCheck_1 : decode b_Arrays_rangeCheck 1 = .ok (.iload_n 2, 1) := by decide +kernel
theorem d_Arrays_rangeCheck_2 : decode b_Arrays_rangeCheck 2 = .ok (.if_icmp .le (44), 3) := by decide +kernel
theorem d_Arrays_rangeCheck_46 : decode b_Arrays_rangeCheck 46 = .ok (.iload_n 1, 1) := by decide +kernel
theorem d_Arrays_rangeCheck_47 : decode b_Arrays_rangeCheck 47 = .ok (.ifCond .ge (12), 3) := by decide +kernel
theorem d_Arrays_rangeCheck_59 : decode b_Arrays_rangeCheck 59 = .ok (.iload_n 2, 1) := by decide +kernel
theorem d_Arrays_rangeCheck_60 : decode b_Arrays_rangeCheck 60 = .ok (.iload_n 0, 1) := by decide +kernel
theorem d_Arrays_rangeCheck_61 : decode b_Arrays_rangeCheck 61 = .ok (.if_icmp .le (12), 3) := by decide +kernel
theorem d_Arrays_rangeCheck_73 : decode b_Arrays_rangeCheck 73 = .ok (.return_, 1) := by decide +kernel
set_option maxHeartbeats 4000000 in
set_option maxRecDepth 100000 in
theorem c_Arrays_rangeCheck (l : Launch) {dA : FieldType → ClassId} {D : va_G} {al : Nat → Nat} {ext : mv_Sh} {sk sv : Nat → Nat} (hi : mv_inj (mg dA D al ext)) (σ : mv_H) (n a b : Int32) (g0 : 0 ≤ a.toInt) (g1 : a.toInt ≤ b.toInt) (g2 : b.toInt ≤ n.toInt) : mv_C l y_Arrays_rangeCheck (Cond.code y_Arrays_rangeCheck b_Arrays_rangeCheck 3 (Option.none : Option Jvm.ClassFile.FieldType) :: ma) ({ frames := 0, cells := 0, slots := 0, locals := 0 }) (mg dA D al ext) (mK sk sv) [.int n, .int a, .int b] σ (mv_Rv (fun σ1 => σ1 = σ)) := by
  refine mv_C.ofV (cc := b_Arrays_rangeCheck) (nL := 3) (ret := (Option.none : Option Jvm.ClassFile.FieldType)) (by decide +kernel) rfl hi (Nat.le_of_ble_eq_true rfl) ?_
  intro p e s m below meth c B hNs hr hnm hno
  refine mv_iload_n (pc := 0) B d_Arrays_rangeCheck_0 rfl 1 rfl ?_
  refine mv_iload_n (pc := 1) B d_Arrays_rangeCheck_1 rfl 2 rfl ?_
  refine mv_icmp_le (pc := 2) (tgt := 46) B d_Arrays_rangeCheck_2 rfl (fun h2 => ?_) (fun h2 => ?_)
  · skip
    refine mv_iload_n (pc := 46) B d_Arrays_rangeCheck_46 rfl 1 rfl ?_
    refine mv_if_ge (pc := 47) (tgt := 59) B d_Arrays_rangeCheck_47 rfl (fun h47 => ?_) (fun h47 => ?_)
    · skip
      refine mv_iload_n (pc := 59) B d_Arrays_rangeCheck_59 rfl 2 rfl ?_
      refine mv_iload_n (pc := 60) B d_Arrays_rangeCheck_60 rfl 0 rfl ?_
      refine mv_icmp_le (pc := 61) (tgt := 73) B d_Arrays_rangeCheck_61 rfl (fun h61 => ?_) (fun h61 => ?_)
      · skip
        exact mv_vret (pc := 73) B hr d_Arrays_rangeCheck_73 (Nat.le_refl _) (Nat.le_refl _) ⟨rfl, rfl⟩
      · skip
        exact absurd (Int32.le_iff_toInt_le.mpr g2) h61
    · skip
      exact absurd (Int32.not_lt.mp (ltc g0)) h47
  · skip
    exact absurd (Int32.le_iff_toInt_le.mpr g1) h2
def y_Arrays_fill_0 : MethodName := ⟨"java/util/Arrays", "fill", "([II)V"⟩
abbrev b_Arrays_fill_0 : ByteArray := prog_35_method_103_code
theorem kc_Arrays_fill_0 : Cond.code y_Arrays_fill_0 b_Arrays_fill_0 4 (Option.none : Option Jvm.ClassFile.FieldType) ∈ ma := ma_of (tb_4 _ (List.mem_of_getElem? (i := 79) rfl)) rfl
theorem d_Arrays_fill_0_0 : decode b_Arrays_fill_0 0 = .ok (.iconst 0, 1) := by decide +kernel
theorem d_Arrays_fill_0_1 : decode b_Arrays_fill_0 1 = .ok (.istore_n 2, 1) := by decide +kernel
theorem d_Arrays_fill_0_2 : decode b_Arrays_fill_0 2 = .ok (.aload_n 0, 1) := by decide +kernel
theorem d_Arrays_fill_0_3 : decode b_Arrays_fill_0 3 = .ok (.arraylength, 1) := by decide +kernel
theorem d_Arrays_fill_0_4 : decode b_Arrays_fill_0 4 = .ok (.istore_n 3, 1) := by decide +kernel
theorem d_Arrays_fill_0_5 : decode b_Arrays_fill_0 5 = .ok (.iload_n 2, 1) := by decide +kernel
theorem d_Arrays_fill_0_6 : decode b_Arrays_fill_0 6 = .ok (.iload_n 3, 1) := by decide +kernel
theorem d_Arrays_fill_0_7 : decode b_Arrays_fill_0 7 = .ok (.if_icmp .ge (13), 3) := by decide +kernel
theorem d_Arrays_fill_0_10 : decode b_Arrays_fill_0 10 = .ok (.aload_n 0, 1) := by decide +kernel
theorem d_Arrays_fill_0_11 : decode b_Arrays_fill_0 11 = .ok (.iload_n 2, 1) := by decide +kernel
theorem d_Arrays_fill_0_12 : decode b_Arrays_fill_0 12 = .ok (.iload_n 1, 1) := by decide +kernel
theorem d_Arrays_fill_0_13 : decode b_Arrays_fill_0 13 = .ok (.iastore, 1) := by decide +kernel
theorem d_Arrays_fill_0_14 : decode b_Arrays_fill_0 14 = .ok (.iinc 2 (1), 3) := by decide +kernel
theorem d_Arrays_fill_0_17 : decode b_Arrays_fill_0 17 = .ok (.goto (-12), 3) := by decide +kernel
theorem d_Arrays_fill_0_20 : decode b_Arrays_fill_0 20 = .ok (.return_, 1) := by decide +kernel
set_option maxHeartbeats 4000000 in
set_option maxRecDepth 100000 in
theorem c_Arrays_fill_0 (l : Launch) {dA : FieldType → ClassId} {D : va_G} {al : Nat → Nat} {ext : mv_Sh} {sk sv : Nat → Nat} (hi : mv_inj (mg dA D al ext)) (σ : mv_H) (o n : Nat) (hs : (mb ++ ext)[o]? = some (.inr (.int, n))) (hn : n < 2147483648) (v : Int32) : mv_C l y_Arrays_fill_0 (Cond.code y_Arrays_fill_0 b_Arrays_fill_0 4 (Option.none : Option Jvm.ClassFile.FieldType) :: ma) ({ frames := 0, cells := 0, slots := 0, locals := 0 }) (mg dA D al ext) (mK sk sv) [.ref (al o), .int v] σ (mv_Rv (fun σ1 => σ1 = mv_fi σ o 0 n v)) := by
  refine mv_C.ofV (cc := b_Arrays_fill_0) (nL := 4) (ret := (Option.none : Option Jvm.ClassFile.FieldType)) (by decide +kernel) rfl hi (Nat.le_of_ble_eq_true rfl) ?_
  intro p e s m below meth c B hNs hr hnm hno
  have en : (Int32.ofNat n).toInt = n := nI_toInt hn
  have lp : ∀ (nn : Nat) (τ : mv_H) (j : Int32) (q0 : 0 ≤ j.toInt) (q1 : j.toInt ≤ n) (qt : τ = mv_fi σ o 0 j.toNatClampNeg v), (n - j.toInt).toNat < nn → mv_V p l e ({ frames := 0, cells := 0, slots := 0, locals := 0 }) s m ([.ref (al o), .int v] : List Value).toArray below meth c (mg dA D al ext) 4 0 0 (mv_Q (mg dA D al ext) below s 0 0 (mv_Rv (fun σ1 => σ1 = mv_fi σ o 0 n v))) τ 5 [(3, .int (Int32.ofNat n)), (2, .int j), (0, .ref (al o)), (1, .int v)] [] := by
    intro nn
    induction nn with
    | zero => intro τ j q0 q1 qt hm; exact absurd hm (Nat.not_lt_zero _)
    | succ nn ih =>
      intro τ j q0 q1 qt hm
      refine mv_iload_n (pc := 5) B d_Arrays_fill_0_5 rfl 1 rfl ?_
      refine mv_iload_n (pc := 6) B d_Arrays_fill_0_6 rfl 0 rfl ?_
      refine mv_icmp_ge (pc := 7) (tgt := 20) B d_Arrays_fill_0_7 rfl (fun h7 => ?_) (fun h7 => ?_)
      · skip
        rw [Int32.le_iff_toInt_le, en] at h7
        have ej := i32_cl q0
        exact mv_vret (pc := 20) B hr d_Arrays_fill_0_20 (Nat.le_refl _) (Nat.le_refl _) ⟨rfl, by rw [qt]; congr 1; omega⟩
      · skip
        rw [Int32.le_iff_toInt_le, en] at h7
        have ej := i32_cl q0
        refine mv_aload_n (pc := 10) B d_Arrays_fill_0_10 rfl 2 rfl ?_
        refine mv_iload_n (pc := 11) B d_Arrays_fill_0_11 rfl 1 rfl ?_
        refine mv_iload_n (pc := 12) B d_Arrays_fill_0_12 rfl 3 rfl ?_
        refine mv_iast (pc := 13) B hs (i32_in q0 (by omega)) d_Arrays_fill_0_13 ?_
        refine mv_iinc (pc := 14) (j := 1) (v := 1) B d_Arrays_fill_0_14 rfl (by decide) (by decide) rfl ?_
        refine mv_goto (pc := 17) (tgt := 5) B d_Arrays_fill_0_17 rfl ?_
        refine mv_lpick [1, 0, 2, 3] rfl ?_
        exact ih _ _ (by rw [i32_inc (by omega)]; omega) (by rw [i32_inc (by omega)]; omega) (by rw [qt, mv_fi_s _ _ _ _ _ (Nat.zero_le _)]; congr 1; have e2 := i32_cl (x := j + 1) (by rw [i32_inc (by omega)]; omega); rw [i32_inc (by omega)] at e2; omega) (by rw [i32_inc (by omega)]; omega)
  refine mv_iconst (pc := 0) (v := 0) B d_Arrays_fill_0_0 (by decide) ?_
  refine mv_istore_n (pc := 1) B d_Arrays_fill_0_1 rfl (by decide) rfl ?_
  refine mv_aload_n (pc := 2) B d_Arrays_fill_0_2 rfl 1 rfl ?_
  refine mv_alenI (pc := 3) B hs rfl d_Arrays_fill_0_3 ?_
  refine mv_istore_n (pc := 4) B d_Arrays_fill_0_4 rfl (by decide) rfl ?_
  refine mv_lpick [0, 1, 2, 3] rfl ?_
  exact lp _ _ _ (by decide) (by show (0 : Int) ≤ n; omega) (by rw [show ((0 : Int32).toNatClampNeg) = 0 from rfl, mv_fi_0]) (Nat.lt_succ_self _)
def y_Arrays_fill_3 : MethodName := ⟨"java/util/Arrays", "fill", "([JJ)V"⟩
abbrev b_Arrays_fill_3 : ByteArray := prog_35_method_101_code
theorem kc_Arrays_fill_3 : Cond.code y_Arrays_fill_3 b_Arrays_fill_3 5 (Option.none : Option Jvm.ClassFile.FieldType) ∈ ma := ma_of (tb_6 _ (List.mem_of_getElem? (i := 57) rfl)) rfl
theorem d_Arrays_fill_3_0 : decode b_Arrays_fill_3 0 = .ok (.iconst 0, 1) := by decide +kernel
theorem d_Arrays_fill_3_1 : decode b_Arrays_fill_3 1 = .ok (.istore_n 3, 1) := by decide +kernel
theorem d_Arrays_fill_3_2 : decode b_Arrays_fill_3 2 = .ok (.aload_n 0, 1) := by decide +kernel
theorem d_Arrays_fill_3_3 : decode b_Arrays_fill_3 3 = .ok (.arraylength, 1) := by decide +kernel
theorem d_Arrays_fill_3_4 : decode b_Arrays_fill_3 4 = .ok (.istore 4, 2) := by decide +kernel
theorem d_Arrays_fill_3_6 : decode b_Arrays_fill_3 6 = .ok (.iload_n 3, 1) := by decide +kernel
theorem d_Arrays_fill_3_7 : decode b_Arrays_fill_3 7 = .ok (.iload 4, 2) := by decide +kernel
theorem d_Arrays_fill_3_9 : decode b_Arrays_fill_3 9 = .ok (.if_icmp .ge (13), 3) := by decide +kernel
theorem d_Arrays_fill_3_12 : decode b_Arrays_fill_3 12 = .ok (.aload_n 0, 1) := by decide +kernel
theorem d_Arrays_fill_3_13 : decode b_Arrays_fill_3 13 = .ok (.iload_n 3, 1) := by decide +kernel
theorem d_Arrays_fill_3_14 : decode b_Arrays_fill_3 14 = .ok (.lload_n 1, 1) := by decide +kernel
theorem d_Arrays_fill_3_15 : decode b_Arrays_fill_3 15 = .ok (.lastore, 1) := by decide +kernel
theorem d_Arrays_fill_3_16 : decode b_Arrays_fill_3 16 = .ok (.iinc 3 (1), 3) := by decide +kernel
theorem d_Arrays_fill_3_19 : decode b_Arrays_fill_3 19 = .ok (.goto (-13), 3) := by decide +kernel
theorem d_Arrays_fill_3_22 : decode b_Arrays_fill_3 22 = .ok (.return_, 1) := by decide +kernel
set_option maxHeartbeats 4000000 in
set_option maxRecDepth 100000 in
theorem c_Arrays_fill_3 (l : Launch) {dA : FieldType → ClassId} {D : va_G} {al : Nat → Nat} {ext : mv_Sh} {sk sv : Nat → Nat} (hi : mv_inj (mg dA D al ext)) (σ : mv_H) (o n : Nat) (hs : (mb ++ ext)[o]? = some (.inr (.long, n))) (hn : n < 2147483648) (v : Int64) : mv_C l y_Arrays_fill_3 (Cond.code y_Arrays_fill_3 b_Arrays_fill_3 5 (Option.none : Option Jvm.ClassFile.FieldType) :: ma) ({ frames := 0, cells := 0, slots := 0, locals := 0 }) (mg dA D al ext) (mK sk sv) [.ref (al o), .long v] σ (mv_Rv (fun σ1 => σ1 = mv_fl σ o 0 n v)) := by
  refine mv_C.ofV (cc := b_Arrays_fill_3) (nL := 5) (ret := (Option.none : Option Jvm.ClassFile.FieldType)) (by decide +kernel) rfl hi (Nat.le_of_ble_eq_true rfl) ?_
  intro p e s m below meth c B hNs hr hnm hno
  have en : (Int32.ofNat n).toInt = n := nI_toInt hn
  have lp : ∀ (nn : Nat) (τ : mv_H) (j : Int32) (q0 : 0 ≤ j.toInt) (q1 : j.toInt ≤ n) (qt : τ = mv_fl σ o 0 j.toNatClampNeg v), (n - j.toInt).toNat < nn → mv_V p l e ({ frames := 0, cells := 0, slots := 0, locals := 0 }) s m ([.ref (al o), .long v] : List Value).toArray below meth c (mg dA D al ext) 5 0 0 (mv_Q (mg dA D al ext) below s 0 0 (mv_Rv (fun σ1 => σ1 = mv_fl σ o 0 n v))) τ 6 [(4, .int (Int32.ofNat n)), (3, .int j), (0, .ref (al o)), (1, .long v)] [] := by
    intro nn
    induction nn with
    | zero => intro τ j q0 q1 qt hm; exact absurd hm (Nat.not_lt_zero _)
    | succ nn ih =>
      intro τ j q0 q1 qt hm
      refine mv_iload_n (pc := 6) B d_Arrays_fill_3_6 rfl 1 rfl ?_
      refine mv_iload (pc := 7) B d_Arrays_fill_3_7 0 rfl ?_
      refine mv_icmp_ge (pc := 9) (tgt := 22) B d_Arrays_fill_3_9 rfl (fun h9 => ?_) (fun h9 => ?_)
      · skip
        rw [Int32.le_iff_toInt_le, en] at h9
        have ej := i32_cl q0
        exact mv_vret (pc := 22) B hr d_Arrays_fill_3_22 (Nat.le_refl _) (Nat.le_refl _) ⟨rfl, by rw [qt]; congr 1; omega⟩
      · skip
        rw [Int32.le_iff_toInt_le, en] at h9
        have ej := i32_cl q0
        refine mv_aload_n (pc := 12) B d_Arrays_fill_3_12 rfl 2 rfl ?_
        refine mv_iload_n (pc := 13) B d_Arrays_fill_3_13 rfl 1 rfl ?_
        refine mv_lload_n (pc := 14) B d_Arrays_fill_3_14 rfl 3 rfl ?_
        refine mv_last (pc := 15) B hs (i32_in q0 (by omega)) d_Arrays_fill_3_15 ?_
        refine mv_iinc (pc := 16) (j := 1) (v := 1) B d_Arrays_fill_3_16 rfl (by decide) (by decide) rfl ?_
        refine mv_goto (pc := 19) (tgt := 6) B d_Arrays_fill_3_19 rfl ?_
        refine mv_lpick [1, 0, 2, 3] rfl ?_
        exact ih _ _ (by rw [i32_inc (by omega)]; omega) (by rw [i32_inc (by omega)]; omega) (by rw [qt, mv_fl_s _ _ _ _ _ (Nat.zero_le _)]; congr 1; have e2 := i32_cl (x := j + 1) (by rw [i32_inc (by omega)]; omega); rw [i32_inc (by omega)] at e2; omega) (by rw [i32_inc (by omega)]; omega)
  refine mv_iconst (pc := 0) (v := 0) B d_Arrays_fill_3_0 (by decide) ?_
  refine mv_istore_n (pc := 1) B d_Arrays_fill_3_1 rfl (by decide) rfl ?_
  refine mv_aload_n (pc := 2) B d_Arrays_fill_3_2 rfl 1 rfl ?_
  refine mv_alenL (pc := 3) B hs rfl d_Arrays_fill_3_3 ?_
  refine mv_istore (pc := 4) B d_Arrays_fill_3_4 (by decide) rfl ?_
  refine mv_lpick [0, 1, 2, 3] rfl ?_
  exact lp _ _ _ (by decide) (by show (0 : Int) ≤ n; omega) (by rw [show ((0 : Int32).toNatClampNeg) = 0 from rfl, mv_fl_0]) (Nat.lt_succ_self _)
def y_Arrays_fill_1 : MethodName := ⟨"java/util/Arrays", "fill", "([IIII)V"⟩
abbrev b_Arrays_fill_1 : ByteArray := prog_35_method_104_code
theorem kc_Arrays_fill_1 : Cond.code y_Arrays_fill_1 b_Arrays_fill_1 5 (Option.none : Option Jvm.ClassFile.FieldType) ∈ ma := ma_of (tb_4 _ (List.mem_of_getElem? (i := 230) rfl)) rfl
theorem k_951 : (Jvm.Cond.methodLink "java/util/Arrays" (13 : Nat) ({ cls := "java/util/Arrays", name := "rangeCheck", desc := "(III)V" } : Jvm.MethodName)) ∈ ma := ma_of (tb_4 _ (List.mem_of_getElem? (i := 231) rfl)) rfl
theorem k_20 : (Jvm.Cond.initialized "java/util/Arrays") ∈ ma := ma_of (tb_1 _ (List.mem_of_getElem? (i := 20) rfl)) rfl
theorem k_952 : (Jvm.Cond.static ({ cls := "java/util/Arrays", name := "rangeCheck", desc := "(III)V" } : Jvm.MethodName)) ∈ ma := ma_of (tb_4 _ (List.mem_of_getElem? (i := 232) rfl)) rfl
theorem d_Arrays_fill_1_0 : decode b_Arrays_fill_1 0 = .ok (.aload_n 0, 1) := by decide +kernel
theorem d_Arrays_fill_1_1 : decode b_Arrays_fill_1 1 = .ok (.arraylength, 1) := by decide +kernel
theorem d_Arrays_fill_1_2 : decode b_Arrays_fill_1 2 = .ok (.iload_n 1, 1) := by decide +kernel
theorem d_Arrays_fill_1_3 : decode b_Arrays_fill_1 3 = .ok (.iload_n 2, 1) := by decide +kernel
theorem d_Arrays_fill_1_4 : decode b_Arrays_fill_1 4 = .ok (.invokestatic 13, 3) := by decide +kernel
theorem d_Arrays_fill_1_7 : decode b_Arrays_fill_1 7 = .ok (.iload_n 1, 1) := by decide +kernel
theorem d_Arrays_fill_1_8 : decode b_Arrays_fill_1 8 = .ok (.istore 4, 2) := by decide +kernel
theorem d_Arrays_fill_1_10 : decode b_Arrays_fill_1 10 = .ok (.iload 4, 2) := by decide +kernel
theorem d_Arrays_fill_1_12 : decode b_Arrays_fill_1 12 = .ok (.iload_n 2, 1) := by decide +kernel
theorem d_Arrays_fill_1_13 : decode b_Arrays_fill_1 13 = .ok (.if_icmp .ge (14), 3) := by decide +kernel
theorem d_Arrays_fill_1_16 : decode b_Arrays_fill_1 16 = .ok (.aload_n 0, 1) := by decide +kernel
theorem d_Arrays_fill_1_17 : decode b_Arrays_fill_1 17 = .ok (.iload 4, 2) := by decide +kernel
theorem d_Arrays_fill_1_19 : decode b_Arrays_fill_1 19 = .ok (.iload_n 3, 1) := by decide +kernel
theorem d_Arrays_fill_1_20 : decode b_Arrays_fill_1 20 = .ok (.iastore, 1) := by decide +kernel
theorem d_Arrays_fill_1_21 : decode b_Arrays_fill_1 21 = .ok (.iinc 4 (1), 3) := by decide +kernel
theorem d_Arrays_fill_1_24 : decode b_Arrays_fill_1 24 = .ok (.goto (-14), 3) := by decide +kernel
theorem d_Arrays_fill_1_27 : decode b_Arrays_fill_1 27 = .ok (.return_, 1) := by decide +kernel
set_option maxHeartbeats 4000000 in
set_option maxRecDepth 100000 in
theorem c_Arrays_fill_1 (l : Launch) {dA : FieldType → ClassId} {D : va_G} {al : Nat → Nat} {ext : mv_Sh} {sk sv : Nat → Nat} (hi : mv_inj (mg dA D al ext)) (σ : mv_H) (o n : Nat) (hs : (mb ++ ext)[o]? = some (.inr (.int, n))) (hn : n < 2147483648) (a b : Int32) (v : Int32) (g0 : 0 ≤ a.toInt) (g1 : a.toInt ≤ b.toInt) (g2 : b.toInt ≤ n) : mv_C l y_Arrays_fill_1 (Cond.code y_Arrays_fill_1 b_Arrays_fill_1 5 (Option.none : Option Jvm.ClassFile.FieldType) :: ma) ({ frames := 1, cells := 0, slots := 0, locals := 22 }) (mg dA D al ext) (mK sk sv) [.ref (al o), .int a, .int b, .int v] σ (mv_Rv (fun σ1 => σ1 = mv_fi σ o a.toNatClampNeg b.toNatClampNeg v)) := by
  refine mv_C.ofV (cc := b_Arrays_fill_1) (nL := 5) (ret := (Option.none : Option Jvm.ClassFile.FieldType)) (by decide +kernel) rfl hi (Nat.le_of_ble_eq_true rfl) ?_
  intro p e s m below meth c B hNs hr hnm hno
  have en : (Int32.ofNat n).toInt = n := nI_toInt hn
  have ea := i32_cl g0
  have eb := i32_cl (x := b) (by omega)
  have lp : ∀ (nn : Nat) (τ : mv_H) (j : Int32) (q0 : a.toInt ≤ j.toInt) (q1 : j.toInt ≤ b.toInt) (qt : τ = mv_fi σ o a.toNatClampNeg j.toNatClampNeg v), (b.toInt - j.toInt).toNat < nn → mv_V p l e ({ frames := 1, cells := 0, slots := 0, locals := 22 }) s m ([.ref (al o), .int a, .int b, .int v] : List Value).toArray below meth c (mg dA D al ext) 5 0 0 (mv_Q (mg dA D al ext) below s 0 0 (mv_Rv (fun σ1 => σ1 = mv_fi σ o a.toNatClampNeg b.toNatClampNeg v))) τ 10 [(4, .int j), (0, .ref (al o)), (1, .int a), (2, .int b), (3, .int v)] [] := by
    intro nn
    induction nn with
    | zero => intro τ j q0 q1 qt hm; exact absurd hm (Nat.not_lt_zero _)
    | succ nn ih =>
      intro τ j q0 q1 qt hm
      refine mv_iload (pc := 10) B d_Arrays_fill_1_10 0 rfl ?_
      refine mv_iload_n (pc := 12) B d_Arrays_fill_1_12 rfl 3 rfl ?_
      refine mv_icmp_ge (pc := 13) (tgt := 27) B d_Arrays_fill_1_13 rfl (fun h13 => ?_) (fun h13 => ?_)
      · skip
        rw [Int32.le_iff_toInt_le] at h13
        have ej := i32_cl (x := j) (by omega)
        exact mv_vret (pc := 27) B hr d_Arrays_fill_1_27 (Nat.le_refl _) (Nat.le_refl _) ⟨rfl, by rw [qt]; congr 1; omega⟩
      · skip
        rw [Int32.le_iff_toInt_le] at h13
        have ej := i32_cl (x := j) (by omega)
        refine mv_aload_n (pc := 16) B d_Arrays_fill_1_16 rfl 1 rfl ?_
        refine mv_iload (pc := 17) B d_Arrays_fill_1_17 0 rfl ?_
        refine mv_iload_n (pc := 19) B d_Arrays_fill_1_19 rfl 4 rfl ?_
        refine mv_iast (pc := 20) B hs (i32_in (by omega) (by omega)) d_Arrays_fill_1_20 ?_
        refine mv_iinc (pc := 21) (j := 0) (v := 1) B d_Arrays_fill_1_21 rfl (by decide) (by decide) rfl ?_
        refine mv_goto (pc := 24) (tgt := 10) B d_Arrays_fill_1_24 rfl ?_
        refine mv_lpick [0, 1, 2, 3, 4] rfl ?_
        exact ih _ _ (by rw [i32_inc (by omega)]; omega) (by rw [i32_inc (by omega)]; omega) (by rw [qt, mv_fi_s _ _ _ _ _ (by omega)]; congr 1; have e2 := i32_cl (x := j + 1) (by rw [i32_inc (by omega)]; omega); rw [i32_inc (by omega)] at e2; omega) (by rw [i32_inc (by omega)]; omega)
  refine mv_aload_n (pc := 0) B d_Arrays_fill_1_0 rfl 0 rfl ?_
  refine mv_alenI (pc := 1) B hs rfl d_Arrays_fill_1_1 ?_
  refine mv_iload_n (pc := 2) B d_Arrays_fill_1_2 rfl 1 rfl ?_
  refine mv_iload_n (pc := 3) B d_Arrays_fill_1_3 rfl 2 rfl ?_
  refine mv_callSv (pc := 4) (n := 3) B (mK_ok sk sv) hNs (c_Arrays_rangeCheck l hi _ _ _ _ g0 g1 (by rw [en]; exact g2)) rfl (ma_goodc kc_Arrays_rangeCheck) (B.2.2.2.1 _ k_951) (B.2.2.2.1 _ k_952) (B.2.2.2.1 _ k_20) ⟨by decide +kernel, by decide +kernel, by decide +kernel⟩ rfl d_Arrays_fill_1_4 rfl (Nat.le_of_ble_eq_true rfl) ⟨by decide, by decide⟩ ⟨by decide, by decide⟩ ⟨by decide, by decide⟩ (mv_noH hno _) (fun σ4 h4 => ?_)
  subst h4
  refine mv_iload_n (pc := 7) B d_Arrays_fill_1_7 rfl 1 rfl ?_
  refine mv_istore (pc := 8) B d_Arrays_fill_1_8 (by decide) rfl ?_
  refine mv_lpick [0, 1, 2, 3, 4] rfl ?_
  exact lp _ _ _ (Int.le_refl _) g1 (by rw [mv_fi_0]) (Nat.lt_succ_self _)
def y_Arrays_fill_2 : MethodName := ⟨"java/util/Arrays", "fill", "([BIIB)V"⟩
abbrev b_Arrays_fill_2 : ByteArray := prog_35_method_110_code
theorem kc_Arrays_fill_2 : Cond.code y_Arrays_fill_2 b_Arrays_fill_2 5 (Option.none : Option Jvm.ClassFile.FieldType) ∈ ma := ma_of (tb_6 _ (List.mem_of_getElem? (i := 49) rfl)) rfl
theorem d_Arrays_fill_2_0 : decode b_Arrays_fill_2 0 = .ok (.aload_n 0, 1) := by decide +kernel
theorem d_Arrays_fill_2_1 : decode b_Arrays_fill_2 1 = .ok (.arraylength, 1) := by decide +kernel
theorem d_Arrays_fill_2_2 : decode b_Arrays_fill_2 2 = .ok (.iload_n 1, 1) := by decide +kernel
theorem d_Arrays_fill_2_3 : decode b_Arrays_fill_2 3 = .ok (.iload_n 2, 1) := by decide +kernel
theorem d_Arrays_fill_2_4 : decode b_Arrays_fill_2 4 = .ok (.invokestatic 13, 3) := by decide +kernel
theorem d_Arrays_fill_2_7 : decode b_Arrays_fill_2 7 = .ok (.iload_n 1, 1) := by decide +kernel
theorem d_Arrays_fill_2_8 : decode b_Arrays_fill_2 8 = .ok (.istore 4, 2) := by decide +kernel
theorem d_Arrays_fill_2_10 : decode b_Arrays_fill_2 10 = .ok (.iload 4, 2) := by decide +kernel
theorem d_Arrays_fill_2_12 : decode b_Arrays_fill_2 12 = .ok (.iload_n 2, 1) := by decide +kernel
theorem d_Arrays_fill_2_13 : decode b_Arrays_fill_2 13 = .ok (.if_icmp .ge (14), 3) := by decide +kernel
theorem d_Arrays_fill_2_16 : decode b_Arrays_fill_2 16 = .ok (.aload_n 0, 1) := by decide +kernel
theorem d_Arrays_fill_2_17 : decode b_Arrays_fill_2 17 = .ok (.iload 4, 2) := by decide +kernel
theorem d_Arrays_fill_2_19 : decode b_Arrays_fill_2 19 = .ok (.iload_n 3, 1) := by decide +kernel
theorem d_Arrays_fill_2_20 : decode b_Arrays_fill_2 20 = .ok (.bastore, 1) := by decide +kernel
theorem d_Arrays_fill_2_21 : decode b_Arrays_fill_2 21 = .ok (.iinc 4 (1), 3) := by decide +kernel
theorem d_Arrays_fill_2_24 : decode b_Arrays_fill_2 24 = .ok (.goto (-14), 3) := by decide +kernel
theorem d_Arrays_fill_2_27 : decode b_Arrays_fill_2 27 = .ok (.return_, 1) := by decide +kernel
set_option maxHeartbeats 4000000 in
set_option maxRecDepth 100000 in
theorem c_Arrays_fill_2 (l : Launch) {dA : FieldType → ClassId} {D : va_G} {al : Nat → Nat} {ext : mv_Sh} {sk sv : Nat → Nat} (hi : mv_inj (mg dA D al ext)) (σ : mv_H) (o n : Nat) (hs : (mb ++ ext)[o]? = some (.inr (.byte, n))) (hn : n < 2147483648) (a b : Int32) (v : Int32) (g0 : 0 ≤ a.toInt) (g1 : a.toInt ≤ b.toInt) (g2 : b.toInt ≤ n) : mv_C l y_Arrays_fill_2 (Cond.code y_Arrays_fill_2 b_Arrays_fill_2 5 (Option.none : Option Jvm.ClassFile.FieldType) :: ma) ({ frames := 1, cells := 0, slots := 0, locals := 22 }) (mg dA D al ext) (mK sk sv) [.ref (al o), .int a, .int b, .int v] σ (mv_Rv (fun σ1 => σ1 = mv_fi σ o a.toNatClampNeg b.toNatClampNeg (vp_nar .byte v))) := by
  refine mv_C.ofV (cc := b_Arrays_fill_2) (nL := 5) (ret := (Option.none : Option Jvm.ClassFile.FieldType)) (by decide +kernel) rfl hi (Nat.le_of_ble_eq_true rfl) ?_
  intro p e s m below meth c B hNs hr hnm hno
  have en : (Int32.ofNat n).toInt = n := nI_toInt hn
  have ea := i32_cl g0
  have eb := i32_cl (x := b) (by omega)
  have lp : ∀ (nn : Nat) (τ : mv_H) (j : Int32) (q0 : a.toInt ≤ j.toInt) (q1 : j.toInt ≤ b.toInt) (qt : τ = mv_fi σ o a.toNatClampNeg j.toNatClampNeg (vp_nar .byte v)), (b.toInt - j.toInt).toNat < nn → mv_V p l e ({ frames := 1, cells := 0, slots := 0, locals := 22 }) s m ([.ref (al o), .int a, .int b, .int v] : List Value).toArray below meth c (mg dA D al ext) 5 0 0 (mv_Q (mg dA D al ext) below s 0 0 (mv_Rv (fun σ1 => σ1 = mv_fi σ o a.toNatClampNeg b.toNatClampNeg (vp_nar .byte v)))) τ 10 [(4, .int j), (0, .ref (al o)), (1, .int a), (2, .int b), (3, .int v)] [] := by
    intro nn
    induction nn with
    | zero => intro τ j q0 q1 qt hm; exact absurd hm (Nat.not_lt_zero _)
    | succ nn ih =>
      intro τ j q0 q1 qt hm
      refine mv_iload (pc := 10) B d_Arrays_fill_2_10 0 rfl ?_
      refine mv_iload_n (pc := 12) B d_Arrays_fill_2_12 rfl 3 rfl ?_
      refine mv_icmp_ge (pc := 13) (tgt := 27) B d_Arrays_fill_2_13 rfl (fun h13 => ?_) (fun h13 => ?_)
      · skip
        rw [Int32.le_iff_toInt_le] at h13
        have ej := i32_cl (x := j) (by omega)
        exact mv_vret (pc := 27) B hr d_Arrays_fill_2_27 (Nat.le_refl _) (Nat.le_refl _) ⟨rfl, by rw [qt]; congr 1; omega⟩
      · skip
        rw [Int32.le_iff_toInt_le] at h13
        have ej := i32_cl (x := j) (by omega)
        refine mv_aload_n (pc := 16) B d_Arrays_fill_2_16 rfl 1 rfl ?_
        refine mv_iload (pc := 17) B d_Arrays_fill_2_17 0 rfl ?_
        refine mv_iload_n (pc := 19) B d_Arrays_fill_2_19 rfl 4 rfl ?_
        refine mv_bast (pc := 20) B hs (i32_in (by omega) (by omega)) d_Arrays_fill_2_20 ?_
        refine mv_iinc (pc := 21) (j := 0) (v := 1) B d_Arrays_fill_2_21 rfl (by decide) (by decide) rfl ?_
        refine mv_goto (pc := 24) (tgt := 10) B d_Arrays_fill_2_24 rfl ?_
        refine mv_lpick [0, 1, 2, 3, 4] rfl ?_
        exact ih _ _ (by rw [i32_inc (by omega)]; omega) (by rw [i32_inc (by omega)]; omega) (by rw [qt, mv_fi_s _ _ _ _ _ (by omega)]; congr 1; have e2 := i32_cl (x := j + 1) (by rw [i32_inc (by omega)]; omega); rw [i32_inc (by omega)] at e2; omega) (by rw [i32_inc (by omega)]; omega)
  refine mv_aload_n (pc := 0) B d_Arrays_fill_2_0 rfl 0 rfl ?_
  refine mv_alenB (pc := 1) B hs rfl d_Arrays_fill_2_1 ?_
  refine mv_iload_n (pc := 2) B d_Arrays_fill_2_2 rfl 1 rfl ?_
  refine mv_iload_n (pc := 3) B d_Arrays_fill_2_3 rfl 2 rfl ?_
  refine mv_callSv (pc := 4) (n := 3) B (mK_ok sk sv) hNs (c_Arrays_rangeCheck l hi _ _ _ _ g0 g1 (by rw [en]; exact g2)) rfl (ma_goodc kc_Arrays_rangeCheck) (B.2.2.2.1 _ k_951) (B.2.2.2.1 _ k_952) (B.2.2.2.1 _ k_20) ⟨by decide +kernel, by decide +kernel, by decide +kernel⟩ rfl d_Arrays_fill_2_4 rfl (Nat.le_of_ble_eq_true rfl) ⟨by decide, by decide⟩ ⟨by decide, by decide⟩ ⟨by decide, by decide⟩ (mv_noH hno _) (fun σ4 h4 => ?_)
  subst h4
  refine mv_iload_n (pc := 7) B d_Arrays_fill_2_7 rfl 1 rfl ?_
  refine mv_istore (pc := 8) B d_Arrays_fill_2_8 (by decide) rfl ?_
  refine mv_lpick [0, 1, 2, 3, 4] rfl ?_
  exact lp _ _ _ (Int.le_refl _) g1 (by rw [mv_fi_0]) (Nat.lt_succ_self _)
def y_Arrays_fill_4 : MethodName := ⟨"java/util/Arrays", "fill", "([JIIJ)V"⟩
abbrev b_Arrays_fill_4 : ByteArray := prog_35_method_102_code
theorem kc_Arrays_fill_4 : Cond.code y_Arrays_fill_4 b_Arrays_fill_4 6 (Option.none : Option Jvm.ClassFile.FieldType) ∈ ma := ma_of (tb_7 _ (List.mem_of_getElem? (i := 115) rfl)) rfl
theorem d_Arrays_fill_4_0 : decode b_Arrays_fill_4 0 = .ok (.aload_n 0, 1) := by decide +kernel
theorem d_Arrays_fill_4_1 : decode b_Arrays_fill_4 1 = .ok (.arraylength, 1) := by decide +kernel
theorem d_Arrays_fill_4_2 : decode b_Arrays_fill_4 2 = .ok (.iload_n 1, 1) := by decide +kernel
theorem d_Arrays_fill_4_3 : decode b_Arrays_fill_4 3 = .ok (.iload_n 2, 1) := by decide +kernel
theorem d_Arrays_fill_4_4 : decode b_Arrays_fill_4 4 = .ok (.invokestatic 13, 3) := by decide +kernel
theorem d_Arrays_fill_4_7 : decode b_Arrays_fill_4 7 = .ok (.iload_n 1, 1) := by decide +kernel
theorem d_Arrays_fill_4_8 : decode b_Arrays_fill_4 8 = .ok (.istore 5, 2) := by decide +kernel
theorem d_Arrays_fill_4_10 : decode b_Arrays_fill_4 10 = .ok (.iload 5, 2) := by decide +kernel
theorem d_Arrays_fill_4_12 : decode b_Arrays_fill_4 12 = .ok (.iload_n 2, 1) := by decide +kernel
theorem d_Arrays_fill_4_13 : decode b_Arrays_fill_4 13 = .ok (.if_icmp .ge (14), 3) := by decide +kernel
theorem d_Arrays_fill_4_16 : decode b_Arrays_fill_4 16 = .ok (.aload_n 0, 1) := by decide +kernel
theorem d_Arrays_fill_4_17 : decode b_Arrays_fill_4 17 = .ok (.iload 5, 2) := by decide +kernel
theorem d_Arrays_fill_4_19 : decode b_Arrays_fill_4 19 = .ok (.lload_n 3, 1) := by decide +kernel
theorem d_Arrays_fill_4_20 : decode b_Arrays_fill_4 20 = .ok (.lastore, 1) := by decide +kernel
theorem d_Arrays_fill_4_21 : decode b_Arrays_fill_4 21 = .ok (.iinc 5 (1), 3) := by decide +kernel
theorem d_Arrays_fill_4_24 : decode b_Arrays_fill_4 24 = .ok (.goto (-14), 3) := by decide +kernel
theorem d_Arrays_fill_4_27 : decode b_Arrays_fill_4 27 = .ok (.return_, 1) := by decide +kernel
set_option maxHeartbeats 4000000 in
set_option maxRecDepth 100000 in
theorem c_Arrays_fill_4 (l : Launch) {dA : FieldType → ClassId} {D : va_G} {al : Nat → Nat} {ext : mv_Sh} {sk sv : Nat → Nat} (hi : mv_inj (mg dA D al ext)) (σ : mv_H) (o n : Nat) (hs : (mb ++ ext)[o]? = some (.inr (.long, n))) (hn : n < 2147483648) (a b : Int32) (v : Int64) (g0 : 0 ≤ a.toInt) (g1 : a.toInt ≤ b.toInt) (g2 : b.toInt ≤ n) : mv_C l y_Arrays_fill_4 (Cond.code y_Arrays_fill_4 b_Arrays_fill_4 6 (Option.none : Option Jvm.ClassFile.FieldType) :: ma) ({ frames := 1, cells := 0, slots := 0, locals := 22 }) (mg dA D al ext) (mK sk sv) [.ref (al o), .int a, .int b, .long v] σ (mv_Rv (fun σ1 => σ1 = mv_fl σ o a.toNatClampNeg b.toNatClampNeg v)) := by
  refine mv_C.ofV (cc := b_Arrays_fill_4) (nL := 6) (ret := (Option.none : Option Jvm.ClassFile.FieldType)) (by decide +kernel) rfl hi (Nat.le_of_ble_eq_true rfl) ?_
  intro p e s m below meth c B hNs hr hnm hno
  have en : (Int32.ofNat n).toInt = n := nI_toInt hn
  have ea := i32_cl g0
  have eb := i32_cl (x := b) (by omega)
  have lp : ∀ (nn : Nat) (τ : mv_H) (j : Int32) (q0 : a.toInt ≤ j.toInt) (q1 : j.toInt ≤ b.toInt) (qt : τ = mv_fl σ o a.toNatClampNeg j.toNatClampNeg v), (b.toInt - j.toInt).toNat < nn → mv_V p l e ({ frames := 1, cells := 0, slots := 0, locals := 22 }) s m ([.ref (al o), .int a, .int b, .long v] : List Value).toArray below meth c (mg dA D al ext) 6 0 0 (mv_Q (mg dA D al ext) below s 0 0 (mv_Rv (fun σ1 => σ1 = mv_fl σ o a.toNatClampNeg b.toNatClampNeg v))) τ 10 [(5, .int j), (0, .ref (al o)), (1, .int a), (2, .int b), (3, .long v)] [] := by
    intro nn
    induction nn with
    | zero => intro τ j q0 q1 qt hm; exact absurd hm (Nat.not_lt_zero _)
    | succ nn ih =>
      intro τ j q0 q1 qt hm
      refine mv_iload (pc := 10) B d_Arrays_fill_4_10 0 rfl ?_
      refine mv_iload_n (pc := 12) B d_Arrays_fill_4_12 rfl 3 rfl ?_
      refine mv_icmp_ge (pc := 13) (tgt := 27) B d_Arrays_fill_4_13 rfl (fun h13 => ?_) (fun h13 => ?_)
      · skip
        rw [Int32.le_iff_toInt_le] at h13
        have ej := i32_cl (x := j) (by omega)
        exact mv_vret (pc := 27) B hr d_Arrays_fill_4_27 (Nat.le_refl _) (Nat.le_refl _) ⟨rfl, by rw [qt]; congr 1; omega⟩
      · skip
        rw [Int32.le_iff_toInt_le] at h13
        have ej := i32_cl (x := j) (by omega)
        refine mv_aload_n (pc := 16) B d_Arrays_fill_4_16 rfl 1 rfl ?_
        refine mv_iload (pc := 17) B d_Arrays_fill_4_17 0 rfl ?_
        refine mv_lload_n (pc := 19) B d_Arrays_fill_4_19 rfl 4 rfl ?_
        refine mv_last (pc := 20) B hs (i32_in (by omega) (by omega)) d_Arrays_fill_4_20 ?_
        refine mv_iinc (pc := 21) (j := 0) (v := 1) B d_Arrays_fill_4_21 rfl (by decide) (by decide) rfl ?_
        refine mv_goto (pc := 24) (tgt := 10) B d_Arrays_fill_4_24 rfl ?_
        refine mv_lpick [0, 1, 2, 3, 4] rfl ?_
        exact ih _ _ (by rw [i32_inc (by omega)]; omega) (by rw [i32_inc (by omega)]; omega) (by rw [qt, mv_fl_s _ _ _ _ _ (by omega)]; congr 1; have e2 := i32_cl (x := j + 1) (by rw [i32_inc (by omega)]; omega); rw [i32_inc (by omega)] at e2; omega) (by rw [i32_inc (by omega)]; omega)
  refine mv_aload_n (pc := 0) B d_Arrays_fill_4_0 rfl 0 rfl ?_
  refine mv_alenL (pc := 1) B hs rfl d_Arrays_fill_4_1 ?_
  refine mv_iload_n (pc := 2) B d_Arrays_fill_4_2 rfl 1 rfl ?_
  refine mv_iload_n (pc := 3) B d_Arrays_fill_4_3 rfl 2 rfl ?_
  refine mv_callSv (pc := 4) (n := 3) B (mK_ok sk sv) hNs (c_Arrays_rangeCheck l hi _ _ _ _ g0 g1 (by rw [en]; exact g2)) rfl (ma_goodc kc_Arrays_rangeCheck) (B.2.2.2.1 _ k_951) (B.2.2.2.1 _ k_952) (B.2.2.2.1 _ k_20) ⟨by decide +kernel, by decide +kernel, by decide +kernel⟩ rfl d_Arrays_fill_4_4 rfl (Nat.le_of_ble_eq_true rfl) ⟨by decide, by decide⟩ ⟨by decide, by decide⟩ ⟨by decide, by decide⟩ (mv_noH hno _) (fun σ4 h4 => ?_)
  subst h4
  refine mv_iload_n (pc := 7) B d_Arrays_fill_4_7 rfl 1 rfl ?_
  refine mv_istore (pc := 8) B d_Arrays_fill_4_8 (by decide) rfl ?_
  refine mv_lpick [0, 1, 2, 3, 4] rfl ?_
  exact lp _ _ _ (Int.le_refl _) g1 (by rw [mv_fl_0]) (Nat.lt_succ_self _)
def y_Long_bitCount : MethodName := ⟨"java/lang/Long", "bitCount", "(J)I"⟩
abbrev b_Long_bitCount : ByteArray := prog_26_method_50_code
theorem kc_Long_bitCount : Cond.code y_Long_bitCount b_Long_bitCount 2 (Option.some Jvm.ClassFile.FieldType.int) ∈ ma := ma_of (tb_2 _ (List.mem_of_getElem? (i := 185) rfl)) rfl
theorem k_426 : (Jvm.Cond.constantLong "java/lang/Long" (314 : Nat) (6148914691236517205 : Int64)) ∈ ma := ma_of (tb_2 _ (List.mem_of_getElem? (i := 186) rfl)) rfl
theorem k_427 : (Jvm.Cond.constantLong "java/lang/Long" (316 : Nat) (3689348814741910323 : Int64)) ∈ ma := ma_of (tb_2 _ (List.mem_of_getElem? (i := 187) rfl)) rfl
theorem k_428 : (Jvm.Cond.constantLong "java/lang/Long" (318 : Nat) (1085102592571150095 : Int64)) ∈ ma := ma_of (tb_2 _ (List.mem_of_getElem? (i := 188) rfl)) rfl
theorem d_Long_bitCount_0 : decode b_Long_bitCount 0 = .ok (.lload_n 0, 1) := by decide +kernel
theorem d_Long_bitCount_1 : decode b_Long_bitCount 1 = .ok (.lload_n 0, 1) := by decide +kernel
theorem d_Long_bitCount_2 : decode b_Long_bitCount 2 = .ok (.iconst 1, 1) := by decide +kernel
theorem d_Long_bitCount_3 : decode b_Long_bitCount 3 = .ok (.lushr, 1) := by decide +kernel
theorem d_Long_bitCount_4 : decode b_Long_bitCount 4 = .ok (.ldc2_w 314, 3) := by decide +kernel
theorem d_Long_bitCount_7 : decode b_Long_bitCount 7 = .ok (.land, 1) := by decide +kernel
theorem d_Long_bitCount_8 : decode b_Long_bitCount 8 = .ok (.lsub, 1) := by decide +kernel
theorem d_Long_bitCount_9 : decode b_Long_bitCount 9 = .ok (.lstore_n 0, 1) := by decide +kernel
theorem d_Long_bitCount_10 : decode b_Long_bitCount 10 = .ok (.lload_n 0, 1) := by decide +kernel
theorem d_Long_bitCount_11 : decode b_Long_bitCount 11 = .ok (.ldc2_w 316, 3) := by decide +kernel
theorem d_Long_bitCount_14 : decode b_Long_bitCount 14 = .ok (.land, 1) := by decide +kernel
theorem d_Long_bitCount_15 : decode b_Long_bitCount 15 = .ok (.lload_n 0, 1) := by decide +kernel
theorem d_Long_bitCount_16 : decode b_Long_bitCount 16 = .ok (.iconst 2, 1) := by decide +kernel
theorem d_Long_bitCount_17 : decode b_Long_bitCount 17 = .ok (.lushr, 1) := by decide +kernel
theorem d_Long_bitCount_18 : decode b_Long_bitCount 18 = .ok (.ldc2_w 316, 3) := by decide +kernel
theorem d_Long_bitCount_21 : decode b_Long_bitCount 21 = .ok (.land, 1) := by decide +kernel
theorem d_Long_bitCount_22 : decode b_Long_bitCount 22 = .ok (.ladd, 1) := by decide +kernel
theorem d_Long_bitCount_23 : decode b_Long_bitCount 23 = .ok (.lstore_n 0, 1) := by decide +kernel
theorem d_Long_bitCount_24 : decode b_Long_bitCount 24 = .ok (.lload_n 0, 1) := by decide +kernel
theorem d_Long_bitCount_25 : decode b_Long_bitCount 25 = .ok (.lload_n 0, 1) := by decide +kernel
theorem d_Long_bitCount_26 : decode b_Long_bitCount 26 = .ok (.iconst 4, 1) := by decide +kernel
theorem d_Long_bitCount_27 : decode b_Long_bitCount 27 = .ok (.lushr, 1) := by decide +kernel
theorem d_Long_bitCount_28 : decode b_Long_bitCount 28 = .ok (.ladd, 1) := by decide +kernel
theorem d_Long_bitCount_29 : decode b_Long_bitCount 29 = .ok (.ldc2_w 318, 3) := by decide +kernel
theorem d_Long_bitCount_32 : decode b_Long_bitCount 32 = .ok (.land, 1) := by decide +kernel
theorem d_Long_bitCount_33 : decode b_Long_bitCount 33 = .ok (.lstore_n 0, 1) := by decide +kernel
theorem d_Long_bitCount_34 : decode b_Long_bitCount 34 = .ok (.lload_n 0, 1) := by decide +kernel
theorem d_Long_bitCount_35 : decode b_Long_bitCount 35 = .ok (.lload_n 0, 1) := by decide +kernel
theorem d_Long_bitCount_36 : decode b_Long_bitCount 36 = .ok (.bipush 8, 2) := by decide +kernel
theorem d_Long_bitCount_38 : decode b_Long_bitCount 38 = .ok (.lushr, 1) := by decide +kernel
theorem d_Long_bitCount_39 : decode b_Long_bitCount 39 = .ok (.ladd, 1) := by decide +kernel
theorem d_Long_bitCount_40 : decode b_Long_bitCount 40 = .ok (.lstore_n 0, 1) := by decide +kernel
theorem d_Long_bitCount_41 : decode b_Long_bitCount 41 = .ok (.lload_n 0, 1) := by decide +kernel
theorem d_Long_bitCount_42 : decode b_Long_bitCount 42 = .ok (.lload_n 0, 1) := by decide +kernel
theorem d_Long_bitCount_43 : decode b_Long_bitCount 43 = .ok (.bipush 16, 2) := by decide +kernel
theorem d_Long_bitCount_45 : decode b_Long_bitCount 45 = .ok (.lushr, 1) := by decide +kernel
theorem d_Long_bitCount_46 : decode b_Long_bitCount 46 = .ok (.ladd, 1) := by decide +kernel
theorem d_Long_bitCount_47 : decode b_Long_bitCount 47 = .ok (.lstore_n 0, 1) := by decide +kernel
theorem d_Long_bitCount_48 : decode b_Long_bitCount 48 = .ok (.lload_n 0, 1) := by decide +kernel
theorem d_Long_bitCount_49 : decode b_Long_bitCount 49 = .ok (.lload_n 0, 1) := by decide +kernel
theorem d_Long_bitCount_50 : decode b_Long_bitCount 50 = .ok (.bipush 32, 2) := by decide +kernel
theorem d_Long_bitCount_52 : decode b_Long_bitCount 52 = .ok (.lushr, 1) := by decide +kernel
theorem d_Long_bitCount_53 : decode b_Long_bitCount 53 = .ok (.ladd, 1) := by decide +kernel
theorem d_Long_bitCount_54 : decode b_Long_bitCount 54 = .ok (.lstore_n 0, 1) := by decide +kernel
theorem d_Long_bitCount_55 : decode b_Long_bitCount 55 = .ok (.lload_n 0, 1) := by decide +kernel
theorem d_Long_bitCount_56 : decode b_Long_bitCount 56 = .ok (.l2i, 1) := by decide +kernel
theorem d_Long_bitCount_57 : decode b_Long_bitCount 57 = .ok (.bipush 127, 2) := by decide +kernel
theorem d_Long_bitCount_59 : decode b_Long_bitCount 59 = .ok (.iand, 1) := by decide +kernel
theorem d_Long_bitCount_60 : decode b_Long_bitCount 60 = .ok (.ireturn, 1) := by decide +kernel
set_option maxHeartbeats 4000000 in
set_option maxRecDepth 100000 in
theorem c_Long_bitCount (l : Launch) {dA : FieldType → ClassId} {D : va_G} {al : Nat → Nat} {ext : mv_Sh} {sk sv : Nat → Nat} (hi : mv_inj (mg dA D al ext)) (σ : mv_H) (x : Int64) : mv_C l y_Long_bitCount (Cond.code y_Long_bitCount b_Long_bitCount 2 (Option.some Jvm.ClassFile.FieldType.int) :: ma) ({ frames := 0, cells := 0, slots := 0, locals := 0 }) (mg dA D al ext) (mK sk sv) [.long x] σ (mv_Ri (fun v σ1 => σ1 = σ)) := by
  refine mv_C.ofV (cc := b_Long_bitCount) (nL := 2) (ret := (Option.some Jvm.ClassFile.FieldType.int)) (by decide +kernel) rfl hi (Nat.le_of_ble_eq_true rfl) ?_
  intro p e s m below meth c B hNs hr hnm hno
  refine mv_lload_n (pc := 0) B d_Long_bitCount_0 rfl 0 rfl ?_
  refine mv_lload_n (pc := 1) B d_Long_bitCount_1 rfl 0 rfl ?_
  refine mv_iconst (pc := 2) (v := 1) B d_Long_bitCount_2 (by decide) ?_
  refine mv_lushr (pc := 3) B d_Long_bitCount_3 ?_
  refine mv_ldc2 (pc := 4) (v := 6148914691236517205) B (B.2.2.2.1 _ k_426) d_Long_bitCount_4 ?_
  refine mv_land (pc := 7) B d_Long_bitCount_7 ?_
  refine mv_lsub (pc := 8) B d_Long_bitCount_8 ?_
  refine mv_lstore_n (pc := 9) B d_Long_bitCount_9 rfl (by decide) rfl ?_
  refine mv_lload_n (pc := 10) B d_Long_bitCount_10 rfl 0 rfl ?_
  refine mv_ldc2 (pc := 11) (v := 3689348814741910323) B (B.2.2.2.1 _ k_427) d_Long_bitCount_11 ?_
  refine mv_land (pc := 14) B d_Long_bitCount_14 ?_
  refine mv_lload_n (pc := 15) B d_Long_bitCount_15 rfl 0 rfl ?_
  refine mv_iconst (pc := 16) (v := 2) B d_Long_bitCount_16 (by decide) ?_
  refine mv_lushr (pc := 17) B d_Long_bitCount_17 ?_
  refine mv_ldc2 (pc := 18) (v := 3689348814741910323) B (B.2.2.2.1 _ k_427) d_Long_bitCount_18 ?_
  refine mv_land (pc := 21) B d_Long_bitCount_21 ?_
  refine mv_ladd (pc := 22) B d_Long_bitCount_22 ?_
  refine mv_lstore_n (pc := 23) B d_Long_bitCount_23 rfl (by decide) rfl ?_
  refine mv_lload_n (pc := 24) B d_Long_bitCount_24 rfl 0 rfl ?_
  refine mv_lload_n (pc := 25) B d_Long_bitCount_25 rfl 0 rfl ?_
  refine mv_iconst (pc := 26) (v := 4) B d_Long_bitCount_26 (by decide) ?_
  refine mv_lushr (pc := 27) B d_Long_bitCount_27 ?_
  refine mv_ladd (pc := 28) B d_Long_bitCount_28 ?_
  refine mv_ldc2 (pc := 29) (v := 1085102592571150095) B (B.2.2.2.1 _ k_428) d_Long_bitCount_29 ?_
  refine mv_land (pc := 32) B d_Long_bitCount_32 ?_
  refine mv_lstore_n (pc := 33) B d_Long_bitCount_33 rfl (by decide) rfl ?_
  refine mv_lload_n (pc := 34) B d_Long_bitCount_34 rfl 0 rfl ?_
  refine mv_lload_n (pc := 35) B d_Long_bitCount_35 rfl 0 rfl ?_
  refine mv_bipush (pc := 36) (v := 8) B d_Long_bitCount_36 (by decide) ?_
  refine mv_lushr (pc := 38) B d_Long_bitCount_38 ?_
  refine mv_ladd (pc := 39) B d_Long_bitCount_39 ?_
  refine mv_lstore_n (pc := 40) B d_Long_bitCount_40 rfl (by decide) rfl ?_
  refine mv_lload_n (pc := 41) B d_Long_bitCount_41 rfl 0 rfl ?_
  refine mv_lload_n (pc := 42) B d_Long_bitCount_42 rfl 0 rfl ?_
  refine mv_bipush (pc := 43) (v := 16) B d_Long_bitCount_43 (by decide) ?_
  refine mv_lushr (pc := 45) B d_Long_bitCount_45 ?_
  refine mv_ladd (pc := 46) B d_Long_bitCount_46 ?_
  refine mv_lstore_n (pc := 47) B d_Long_bitCount_47 rfl (by decide) rfl ?_
  refine mv_lload_n (pc := 48) B d_Long_bitCount_48 rfl 0 rfl ?_
  refine mv_lload_n (pc := 49) B d_Long_bitCount_49 rfl 0 rfl ?_
  refine mv_bipush (pc := 50) (v := 32) B d_Long_bitCount_50 (by decide) ?_
  refine mv_lushr (pc := 52) B d_Long_bitCount_52 ?_
  refine mv_ladd (pc := 53) B d_Long_bitCount_53 ?_
  refine mv_lstore_n (pc := 54) B d_Long_bitCount_54 rfl (by decide) rfl ?_
  refine mv_lload_n (pc := 55) B d_Long_bitCount_55 rfl 0 rfl ?_
  refine mv_l2i (pc := 56) B d_Long_bitCount_56 ?_
  refine mv_bipush (pc := 57) (v := 127) B d_Long_bitCount_57 (by decide) ?_
  refine mv_iand (pc := 59) B d_Long_bitCount_59 ?_
  exact mv_iret (pc := 60) B hr rfl d_Long_bitCount_60 (Nat.le_refl _) (Nat.le_refl _) ⟨_, rfl, rfl⟩
