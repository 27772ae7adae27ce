/-! no word is counted beyond -/
theorem pg_le : ∀ (m n : Nat) (g : Nat → Nat), (∀ i, i < n → g i < m) → (∀ i j, i < n → j < n → g i = g j → i = j) → n ≤ m := by
  intro m
  induction m with
  | zero => exact fun n g h1 _ => Nat.le_of_not_lt fun h => absurd (h1 0 h) (Nat.not_lt_zero _)
  | succ m ih =>
    intro n g h1 h2
    cases n with
    | zero => exact Nat.zero_le _
    | succ k =>
      refine Nat.succ_le_succ (ih k (fun i => if g i = m then g k else g i) (fun i hi => ?_) (fun i j hi hj e => ?_))
      · show (if g i = m then g k else g i) < m
        have b1 := h1 i (by omega)
        have b2 := h1 k (by omega)
        by_cases c : g i = m
        · rw [if_pos c]
          have : ¬ g k = m := fun q => by have := h2 i k (by omega) (by omega) (c.trans q.symm); omega
          omega
        · rw [if_neg c]; omega
      · have e : (if g i = m then g k else g i) = (if g j = m then g k else g j) := e
        by_cases c : g i = m
        · by_cases d : g j = m
          · exact h2 i j (by omega) (by omega) (c.trans d.symm)
          · rw [if_pos c, if_neg d] at e
            have := h2 k j (by omega) (by omega) e
            omega
        · by_cases d : g j = m
          · rw [if_neg c, if_pos d] at e
            have := h2 i k (by omega) (by omega) e
            omega
          · rw [if_neg c, if_neg d] at e
            exact h2 i j (by omega) (by omega) e
theorem on_inj {n : Nat} {f : Nat → Nat} (ho : ∀ a, a < n → ∃ i, i < n ∧ f i = a) : ∀ i j, i < n → j < n → f i < n → f i = f j → i = j := by
  intro i j hi hj hb e
  by_cases c : i = j
  · exact c
  exfalso
  obtain ⟨g, hg⟩ : ∃ g : Nat → Nat, ∀ a, a < n → g a < n ∧ f (g a) = a := ⟨fun a => if h : a < n then Classical.choose (ho a h) else 0, fun a h => by
    show (if h : a < n then Classical.choose (ho a h) else 0) < n ∧ f (if h : a < n then Classical.choose (ho a h) else 0) = a
    rw [dif_pos h]
    exact Classical.choose_spec (ho a h)⟩
  obtain ⟨y, hy, hyn, hyf⟩ : ∃ y, y < n ∧ ¬ g (f i) = y ∧ f y = f i := by
    by_cases d : g (f i) = i
    · exact ⟨j, hj, fun q => c (d.symm.trans q), e.symm⟩
    · exact ⟨i, hi, d, rfl⟩
  have ny : ∀ a, a < n → ¬ g a = y := fun a ha q => by
    have e1 := (hg a ha).2
    rw [q, hyf] at e1
    rw [← e1] at q
    exact hyn q
  have hle := pg_le (n - 1) n (fun a => if g a < y then g a else g a - 1) (fun a ha => by
    show (if g a < y then g a else g a - 1) < n - 1
    have b1 := (hg a ha).1
    have b2 := ny a ha
    by_cases q : g a < y
    · rw [if_pos q]; omega
    · rw [if_neg q]; omega) (fun a b ha hb' q => by
    have q : (if g a < y then g a else g a - 1) = (if g b < y then g b else g b - 1) := q
    have b2 := ny a ha
    have b3 := ny b hb'
    have ge : g a = g b := by
      by_cases u : g a < y
      · by_cases v : g b < y
        · rw [if_pos u, if_pos v] at q; exact q
        · rw [if_pos u, if_neg v] at q; omega
      · by_cases v : g b < y
        · rw [if_neg u, if_pos v] at q; omega
        · rw [if_neg u, if_neg v] at q; omega
    rw [← (hg a ha).2, ← (hg b hb').2, ge])
  omega
theorem tree_on {K V : Nat → Int64} {f bt lw hg : Nat → Int32} {ops n : Nat} {S : Nat → Nat → Prop} {dq : Nat → Nat} (hs : SmT K V f bt lw hg ops n S) (h6 : ∀ j, j < n → dq j ≤ 64 ∧ Tn bt lw hg ops n dq j) : ∀ (d j : Nat), 64 - dq j ≤ d → j < n → ∀ a, S j a → ∃ i : Nat, i < ops ∧ (f i).toInt = a := by
  intro d
  induction d with
  | zero =>
    intro j hd hj a ha
    obtain ⟨q1, q2⟩ := h6 j hj
    rcases q2 with ⟨e, l1, l2⟩ | ⟨e, c, d, c1, c2, c3, c4, c5, c6⟩
    · obtain ⟨i, i1, i2, i3⟩ := hs.2.1 j hj e a ha
      exact ⟨i, by omega, i3⟩
    · have := (h6 c c3).1
      omega
  | succ d ih =>
    intro j hd hj a ha
    obtain ⟨q1, q2⟩ := h6 j hj
    rcases q2 with ⟨e, l1, l2⟩ | ⟨e, c, d', c1, c2, c3, c4, c5, c6⟩
    · obtain ⟨i, i1, i2, i3⟩ := hs.2.1 j hj e a ha
      exact ⟨i, by omega, i3⟩
    · obtain ⟨b, c', d2, hb, eb, e14, e15, hc, hd2, hst⟩ := hs.2.2.1 j hj e
      have y1 : c' = c := by omega
      have y2 : d2 = d' := by omega
      subst y1
      subst y2
      obtain ⟨-, s1, s2⟩ := hst a ha
      cases hv : (V a).toBitVec.getLsbD b with
      | false => exact ih c' (by omega) hc a (s1 hv)
      | true => exact ih d2 (by omega) hd2 a (s2 hv)
theorem TreeOK.ij {P M : Nat} {σ : mv_H} (h : TreeOK P M σ) {i j : Nat} (hi : (i : Int) < (mv_i σ P 10).toInt) (hj : (j : Int) < (mv_i σ P 10).toInt) (e : (mv_a σ (P + 12) i).toInt = (mv_a σ (P + 12) j).toInt) : i = j := by
  obtain ⟨ops, n, dq, h1, h2, ⟨h3, S, hs⟩, h4, h5, h6⟩ := h
  have on : ∀ a, a < ops → ∃ i, i < ops ∧ (mv_a σ (P + 12) i).toInt.toNat = a := fun a ha => by
    obtain ⟨i, i1, i2⟩ := tree_on hs h6 64 0 (by omega) (by omega) a (hs.1 a ha)
    exact ⟨i, i1, by omega⟩
  have b := h5 i (by omega)
  exact on_inj (f := fun i => (mv_a σ (P + 12) i).toInt.toNat) on i j (by omega) (by omega) (show (mv_a σ (P + 12) i).toInt.toNat < ops by omega) (show (mv_a σ (P + 12) i).toInt.toNat = (mv_a σ (P + 12) j).toInt.toNat by rw [e])
def LfY (P M : Nat) (σ : mv_H) (w : Int64) (v : Int32) : Prop := LfX P M σ w v ∧ (mv_a σ (P + 15) v.toNatClampNeg).toInt ≤ (mv_i σ P 10).toInt
def FDq (P : Nat) (σ : mv_H) (w : Int64) (lo : Int) (fd jj : Int32) : Prop := (fd = -1 ∧ ∀ i : Nat, lo ≤ i → (i : Int) < jj.toInt → ¬ MtO P σ w (mv_a σ (P + 12) i).toNatClampNeg) ∨ ∃ a : Nat, ((a : Int) < (mv_i σ P 10).toInt ∧ fd = nI a ∧ MtO P σ w a) ∧ ∃ i : Nat, (i : Int) < jj.toInt ∧ (i : Int) < (mv_i σ P 10).toInt ∧ (mv_a σ (P + 12) i).toInt = a
theorem op_dd {P M : Nat} {σ : mv_H} {w : Int64} {lo : Int} {fd jj : Int32} (hU : UQq P σ) (hT : TreeOK P M σ) (d : FDq P σ w lo fd jj) (h76 : ¬ fd < 0) (heq : MtO P σ w (mv_a σ (P + 12) jj.toNatClampNeg).toNatClampNeg) (hj : (jj.toNatClampNeg : Int) = jj.toInt) (hj2 : jj.toInt < (mv_i σ P 10).toInt) (ho0 : 0 ≤ (mv_a σ (P + 12) jj.toNatClampNeg).toInt) (ho1 : (mv_a σ (P + 12) jj.toNatClampNeg).toInt < (mv_i σ P 10).toInt) : False := by
  rcases d with ⟨q, -⟩ | ⟨a, ⟨a1, a2, a3⟩, i, i1, i2, i3⟩
  · exact h76 (by rw [q]; decide)
  · have z := i32_cl (x := mv_a σ (P + 12) jj.toNatClampNeg) ho0
    have ea := hU w a _ a1 (by omega) a3 heq
    have := hT.ij (i := i) (j := jj.toNatClampNeg) i2 (by omega) (by omega)
    omega
set_option maxHeartbeats 4000000 in
set_option maxRecDepth 100000 in
theorem c_kv_Tree_leafOf_a (l : Launch) {dA : FieldType → ClassId} {D : va_G} {al : Nat → Nat} {ext : mv_Sh} {sk sv : Nat → Nat} (hi : mv_inj (mg dA D al ext)) (σ : mv_H) (w9 : Int64) (hq : Ph 32 (mv_r σ)) (hT : TreeOK 32 512 σ) : mv_C l y_Tree_leafOf (Cond.code y_Tree_leafOf b_Tree_leafOf 5 (Option.some Jvm.ClassFile.FieldType.int) :: ma) ({ frames := 0, cells := 0, slots := 0, locals := 0 }) (mg dA D al ext) (mK sk sv) [.ref (al 43), .long w9] σ (mv_Ri (fun v σ1 => σ1 = σ ∧ LfY 32 512 σ w9 v)) := by
  refine mv_C.ofV (cc := b_Tree_leafOf) (nL := 5) (ret := (Option.some Jvm.ClassFile.FieldType.int)) (by decide +kernel) rfl hi (Nat.le_of_ble_eq_true rfl) ?_
  intro p e s m below meth c B hNs hr hnm hno
  have hT9 := hT
  obtain ⟨ops, n, dq, h1, h2, h3, h4, h5, h6⟩ := hT
  obtain ⟨S, hs⟩ := h3.2
  have lp : ∀ (nn : Nat) (t9 : Int32) (v : Int32) (j : Nat) (qt : 0 ≤ t9.toInt) (qt2 : t9.toInt ≤ 65) (qj : v.toInt = j) (qn : j < n) (qd : t9.toInt ≤ dq j) (qS : LfS (mv_b σ 37) (mv_b σ 38) w9 ops S j), (65 - t9.toInt).toNat < nn → mv_V p l e ({ frames := 0, cells := 0, slots := 0, locals := 0 }) s m ([.ref (al 43), .long w9] : List Value).toArray below meth c (mg dA D al ext) 5 0 0 (mv_Q (mg dA D al ext) below s 0 0 (mv_Ri (fun v σ1 => σ1 = σ ∧ LfY 32 512 σ w9 v))) σ 5 [(4, .int t9), (3, .int v), (0, .ref (al 43)), (1, .long w9)] [] := by
    intro nn
    induction nn with
    | zero => intro t9 v j qt qt2 qj qn qd qS hm; exact absurd hm (Nat.not_lt_zero _)
    | succ nn ih =>
      intro t9 v j qt qt2 qj qn qd qS hm
      refine mv_iload (pc := 5) B d_Tree_leafOf_5 0 rfl ?_
      refine mv_bipush (pc := 7) (v := 64) B d_Tree_leafOf_7 (by decide) ?_
      refine mv_icmp_gt (pc := 9) (tgt := 59) B d_Tree_leafOf_9 rfl (fun h9 => ?_) (fun h9 => ?_)
      · skip
        exact absurd (show (64 : Int) < t9.toInt from Int32.lt_iff_toInt_lt.mp h9) (by have z9 := (h6 j qn).1; omega)
      · skip
        rw [Int32.lt_iff_toInt_lt] at h9
        simp only [Int32.reduceToInt] at h9
        have evv := i32_cl (x := v) (by omega)
        have zj : v.toNatClampNeg = j := by omega
        have hjM : j < 1025 := by omega
        refine mv_aload_n (pc := 12) B d_Tree_leafOf_12 rfl 2 rfl ?_
        refine mv_getR (pc := 13) (ci := 8) (C := R_Tree) (T := F_Tree) (N := 5) B 1 rfl rfl (by decide) i_Tree (B.2.2.2.1 _ k_293) rfl (hq _ 1 45 rfl) d_Tree_leafOf_13 ?_
        refine mv_iload_n (pc := 16) B d_Tree_leafOf_16 rfl 1 rfl ?_
        refine mv_iald (pc := 17) B rfl (i32_in (by omega) (by omega)) d_Tree_leafOf_17 ?_
        refine mv_iconst (pc := 18) (v := -1) B d_Tree_leafOf_18 (by decide) ?_
        refine mv_icmp_eq (pc := 19) (tgt := 59) B d_Tree_leafOf_19 rfl (fun h19 => ?_) (fun h19 => ?_)
        · skip
          have hv : LfX 32 512 σ w9 v := ⟨leaf_t (P := 32) (M := 512) (j := j) (t := 0) ⟨ops, n, dq, h1, h2, h3, h4, h5, h6, qn, by omega⟩ qj (by rw [← zj]; exact h19), fun a ha hm => by
            rw [zj]
            exact hs.2.1 j qn (by rw [← zj]; exact h19) a (qS a (by omega) hm)⟩
          have hy : (mv_a σ 47 v.toNatClampNeg).toInt ≤ (mv_i σ 32 10).toInt := by
            rw [zj, h1]
            rcases (h6 j qn).2 with ⟨-, -, q⟩ | ⟨q, -⟩
            · exact q
            · exact absurd (by rw [← zj]; exact h19) q
          refine mv_iload_n (pc := 59) B d_Tree_leafOf_59 rfl 1 rfl ?_
          exact mv_iret (pc := 60) B hr rfl d_Tree_leafOf_60 (Nat.le_refl _) (Nat.le_refl _) ⟨_, rfl, rfl, hv, hy⟩
        · skip
          have w2 : (t9 + 1).toInt = t9.toInt + 1 := i32_inc (by omega)
          obtain ⟨b, c, d, hb, eb, e14, e15, hc, hd, hstep⟩ := hs.2.2.1 j qn (by rw [← zj]; exact h19)
          have eb2 : mv_a σ 45 v.toNatClampNeg = Int32.ofNat b := by rw [zj]; exact eb
          have hdq : dq c = dq j + 1 ∧ dq d = dq j + 1 := by
            rcases (h6 j qn).2 with ⟨q1, -⟩ | ⟨-, c2, d2, q1, q2, q3, q4, q5, q6⟩
            · exact absurd q1 (by rw [← zj]; exact h19)
            · have y1 : c2 = c := by omega
              have y2 : d2 = d := by omega
              rw [← y1, ← y2]
              exact ⟨q5, q6⟩
          refine mv_lload_n (pc := 22) B d_Tree_leafOf_22 rfl 3 rfl ?_
          refine mv_aload_n (pc := 23) B d_Tree_leafOf_23 rfl 2 rfl ?_
          refine mv_getR (pc := 24) (ci := 8) (C := R_Tree) (T := F_Tree) (N := 5) B 1 rfl rfl (by decide) i_Tree (B.2.2.2.1 _ k_293) rfl (hq _ 1 45 rfl) d_Tree_leafOf_24 ?_
          refine mv_iload_n (pc := 27) B d_Tree_leafOf_27 rfl 1 rfl ?_
          refine mv_iald (pc := 28) B rfl (i32_in (by omega) (by omega)) d_Tree_leafOf_28 ?_
          refine mv_lushr (pc := 29) B d_Tree_leafOf_29 ?_
          refine mv_lconst (pc := 30) (v := 1) B d_Tree_leafOf_30 (by decide) ?_
          refine mv_land (pc := 31) B d_Tree_leafOf_31 ?_
          refine mv_lconst (pc := 32) (v := 0) B d_Tree_leafOf_32 (by decide) ?_
          refine mv_lcmp (pc := 33) B d_Tree_leafOf_33 ?_
          refine mv_if_ne (pc := 34) (tgt := 46) B d_Tree_leafOf_34 rfl (fun h34 => ?_) (fun h34 => ?_)
          · skip
            rw [eb2] at h34
            have hw : w9.toBitVec.getLsbD b = true := by
              have h1 : ¬ _ = false := fun q => h34 ((lg_cmp_eq _ _).mpr ((us_bit w9 b hb).mpr q))
              exact (Bool.not_eq_false _).mp h1
            have go := ih (t9 + 1) (mv_a σ 47 v.toNatClampNeg) d (by rw [w2]; omega) (by rw [w2]; omega) (by rw [zj]; exact e15) hd (by rw [w2]; have := hdq.2; omega) ((qS.cd hstep).2 hw) (by rw [w2]; omega)
            refine mv_aload_n (pc := 46) B d_Tree_leafOf_46 rfl 2 rfl ?_
            refine mv_getR (pc := 47) (ci := 8) (C := R_Tree) (T := F_Tree) (N := 5) B 3 rfl rfl (by decide) i_Tree (B.2.2.2.1 _ k_296) rfl (hq _ 3 47 rfl) d_Tree_leafOf_47 ?_
            refine mv_iload_n (pc := 50) B d_Tree_leafOf_50 rfl 1 rfl ?_
            refine mv_iald (pc := 51) B rfl (i32_in (by omega) (by omega)) d_Tree_leafOf_51 ?_
            refine mv_istore_n (pc := 52) B d_Tree_leafOf_52 rfl (by decide) rfl ?_
            refine mv_iinc (pc := 53) (j := 1) (v := 1) B d_Tree_leafOf_53 rfl (by decide) (by decide) rfl ?_
            refine mv_goto (pc := 56) (tgt := 5) B d_Tree_leafOf_56 rfl ?_
            refine mv_lpick [0, 1, 2, 3] rfl ?_
            exact go
          · skip
            rw [eb2] at h34
            have hw : w9.toBitVec.getLsbD b = false := (us_bit w9 b hb).mp ((lg_cmp_eq _ _).mp h34)
            have go := ih (t9 + 1) (mv_a σ 46 v.toNatClampNeg) c (by rw [w2]; omega) (by rw [w2]; omega) (by rw [zj]; exact e14) hc (by rw [w2]; have := hdq.1; omega) ((qS.cd hstep).1 hw) (by rw [w2]; omega)
            refine mv_aload_n (pc := 37) B d_Tree_leafOf_37 rfl 2 rfl ?_
            refine mv_getR (pc := 38) (ci := 8) (C := R_Tree) (T := F_Tree) (N := 5) B 2 rfl rfl (by decide) i_Tree (B.2.2.2.1 _ k_294) rfl (hq _ 2 46 rfl) d_Tree_leafOf_38 ?_
            refine mv_iload_n (pc := 41) B d_Tree_leafOf_41 rfl 1 rfl ?_
            refine mv_iald (pc := 42) B rfl (i32_in (by omega) (by omega)) d_Tree_leafOf_42 ?_
            refine mv_goto (pc := 43) (tgt := 52) B d_Tree_leafOf_43 rfl ?_
            refine mv_istore_n (pc := 52) B d_Tree_leafOf_52 rfl (by decide) rfl ?_
            refine mv_iinc (pc := 53) (j := 1) (v := 1) B d_Tree_leafOf_53 rfl (by decide) (by decide) rfl ?_
            refine mv_goto (pc := 56) (tgt := 5) B d_Tree_leafOf_56 rfl ?_
            refine mv_lpick [0, 1, 2, 3] rfl ?_
            exact go
  refine mv_iconst (pc := 0) (v := 0) B d_Tree_leafOf_0 (by decide) ?_
  refine mv_istore_n (pc := 1) B d_Tree_leafOf_1 rfl (by decide) rfl ?_
  refine mv_iconst (pc := 2) (v := 0) B d_Tree_leafOf_2 (by decide) ?_
  refine mv_istore (pc := 3) B d_Tree_leafOf_3 (by decide) rfl ?_
  refine mv_lpick [0, 1, 2, 3] rfl ?_
  exact lp _ _ _ 0 (by decide) (by decide) rfl (by omega) (by show (0 : Int) ≤ dq 0; omega) (fun a ha _ => hs.1 a ha) (Nat.lt_succ_self _)
set_option maxHeartbeats 4000000 in
set_option maxRecDepth 100000 in
theorem c_kv_Tree_leafOf_b (l : Launch) {dA : FieldType → ClassId} {D : va_G} {al : Nat → Nat} {ext : mv_Sh} {sk sv : Nat → Nat} (hi : mv_inj (mg dA D al ext)) (σ : mv_H) (w9 : Int64) (hq : Ph 48 (mv_r σ)) (hT : TreeOK 48 512 σ) : mv_C l y_Tree_leafOf (Cond.code y_Tree_leafOf b_Tree_leafOf 5 (Option.some Jvm.ClassFile.FieldType.int) :: ma) ({ frames := 0, cells := 0, slots := 0, locals := 0 }) (mg dA D al ext) (mK sk sv) [.ref (al 59), .long w9] σ (mv_Ri (fun v σ1 => σ1 = σ ∧ LfY 48 512 σ w9 v)) := by
  refine mv_C.ofV (cc := b_Tree_leafOf) (nL := 5) (ret := (Option.some Jvm.ClassFile.FieldType.int)) (by decide +kernel) rfl hi (Nat.le_of_ble_eq_true rfl) ?_
  intro p e s m below meth c B hNs hr hnm hno
  have hT9 := hT
  obtain ⟨ops, n, dq, h1, h2, h3, h4, h5, h6⟩ := hT
  obtain ⟨S, hs⟩ := h3.2
  have lp : ∀ (nn : Nat) (t9 : Int32) (v : Int32) (j : Nat) (qt : 0 ≤ t9.toInt) (qt2 : t9.toInt ≤ 65) (qj : v.toInt = j) (qn : j < n) (qd : t9.toInt ≤ dq j) (qS : LfS (mv_b σ 53) (mv_b σ 54) w9 ops S j), (65 - t9.toInt).toNat < nn → mv_V p l e ({ frames := 0, cells := 0, slots := 0, locals := 0 }) s m ([.ref (al 59), .long w9] : List Value).toArray below meth c (mg dA D al ext) 5 0 0 (mv_Q (mg dA D al ext) below s 0 0 (mv_Ri (fun v σ1 => σ1 = σ ∧ LfY 48 512 σ w9 v))) σ 5 [(4, .int t9), (3, .int v), (0, .ref (al 59)), (1, .long w9)] [] := by
    intro nn
    induction nn with
    | zero => intro t9 v j qt qt2 qj qn qd qS hm; exact absurd hm (Nat.not_lt_zero _)
    | succ nn ih =>
      intro t9 v j qt qt2 qj qn qd qS hm
      refine mv_iload (pc := 5) B d_Tree_leafOf_5 0 rfl ?_
      refine mv_bipush (pc := 7) (v := 64) B d_Tree_leafOf_7 (by decide) ?_
      refine mv_icmp_gt (pc := 9) (tgt := 59) B d_Tree_leafOf_9 rfl (fun h9 => ?_) (fun h9 => ?_)
      · skip
        exact absurd (show (64 : Int) < t9.toInt from Int32.lt_iff_toInt_lt.mp h9) (by have z9 := (h6 j qn).1; omega)
      · skip
        rw [Int32.lt_iff_toInt_lt] at h9
        simp only [Int32.reduceToInt] at h9
        have evv := i32_cl (x := v) (by omega)
        have zj : v.toNatClampNeg = j := by omega
        have hjM : j < 1025 := by omega
        refine mv_aload_n (pc := 12) B d_Tree_leafOf_12 rfl 2 rfl ?_
        refine mv_getR (pc := 13) (ci := 8) (C := R_Tree) (T := F_Tree) (N := 5) B 1 rfl rfl (by decide) i_Tree (B.2.2.2.1 _ k_293) rfl (hq _ 1 61 rfl) d_Tree_leafOf_13 ?_
        refine mv_iload_n (pc := 16) B d_Tree_leafOf_16 rfl 1 rfl ?_
        refine mv_iald (pc := 17) B rfl (i32_in (by omega) (by omega)) d_Tree_leafOf_17 ?_
        refine mv_iconst (pc := 18) (v := -1) B d_Tree_leafOf_18 (by decide) ?_
        refine mv_icmp_eq (pc := 19) (tgt := 59) B d_Tree_leafOf_19 rfl (fun h19 => ?_) (fun h19 => ?_)
        · skip
          have hv : LfX 48 512 σ w9 v := ⟨leaf_t (P := 48) (M := 512) (j := j) (t := 0) ⟨ops, n, dq, h1, h2, h3, h4, h5, h6, qn, by omega⟩ qj (by rw [← zj]; exact h19), fun a ha hm => by
            rw [zj]
            exact hs.2.1 j qn (by rw [← zj]; exact h19) a (qS a (by omega) hm)⟩
          have hy : (mv_a σ 63 v.toNatClampNeg).toInt ≤ (mv_i σ 48 10).toInt := by
            rw [zj, h1]
            rcases (h6 j qn).2 with ⟨-, -, q⟩ | ⟨q, -⟩
            · exact q
            · exact absurd (by rw [← zj]; exact h19) q
          refine mv_iload_n (pc := 59) B d_Tree_leafOf_59 rfl 1 rfl ?_
          exact mv_iret (pc := 60) B hr rfl d_Tree_leafOf_60 (Nat.le_refl _) (Nat.le_refl _) ⟨_, rfl, rfl, hv, hy⟩
        · skip
          have w2 : (t9 + 1).toInt = t9.toInt + 1 := i32_inc (by omega)
          obtain ⟨b, c, d, hb, eb, e14, e15, hc, hd, hstep⟩ := hs.2.2.1 j qn (by rw [← zj]; exact h19)
          have eb2 : mv_a σ 61 v.toNatClampNeg = Int32.ofNat b := by rw [zj]; exact eb
          have hdq : dq c = dq j + 1 ∧ dq d = dq j + 1 := by
            rcases (h6 j qn).2 with ⟨q1, -⟩ | ⟨-, c2, d2, q1, q2, q3, q4, q5, q6⟩
            · exact absurd q1 (by rw [← zj]; exact h19)
            · have y1 : c2 = c := by omega
              have y2 : d2 = d := by omega
              rw [← y1, ← y2]
              exact ⟨q5, q6⟩
          refine mv_lload_n (pc := 22) B d_Tree_leafOf_22 rfl 3 rfl ?_
          refine mv_aload_n (pc := 23) B d_Tree_leafOf_23 rfl 2 rfl ?_
          refine mv_getR (pc := 24) (ci := 8) (C := R_Tree) (T := F_Tree) (N := 5) B 1 rfl rfl (by decide) i_Tree (B.2.2.2.1 _ k_293) rfl (hq _ 1 61 rfl) d_Tree_leafOf_24 ?_
          refine mv_iload_n (pc := 27) B d_Tree_leafOf_27 rfl 1 rfl ?_
          refine mv_iald (pc := 28) B rfl (i32_in (by omega) (by omega)) d_Tree_leafOf_28 ?_
          refine mv_lushr (pc := 29) B d_Tree_leafOf_29 ?_
          refine mv_lconst (pc := 30) (v := 1) B d_Tree_leafOf_30 (by decide) ?_
          refine mv_land (pc := 31) B d_Tree_leafOf_31 ?_
          refine mv_lconst (pc := 32) (v := 0) B d_Tree_leafOf_32 (by decide) ?_
          refine mv_lcmp (pc := 33) B d_Tree_leafOf_33 ?_
          refine mv_if_ne (pc := 34) (tgt := 46) B d_Tree_leafOf_34 rfl (fun h34 => ?_) (fun h34 => ?_)
          · skip
            rw [eb2] at h34
            have hw : w9.toBitVec.getLsbD b = true := by
              have h1 : ¬ _ = false := fun q => h34 ((lg_cmp_eq _ _).mpr ((us_bit w9 b hb).mpr q))
              exact (Bool.not_eq_false _).mp h1
            have go := ih (t9 + 1) (mv_a σ 63 v.toNatClampNeg) d (by rw [w2]; omega) (by rw [w2]; omega) (by rw [zj]; exact e15) hd (by rw [w2]; have := hdq.2; omega) ((qS.cd hstep).2 hw) (by rw [w2]; omega)
            refine mv_aload_n (pc := 46) B d_Tree_leafOf_46 rfl 2 rfl ?_
            refine mv_getR (pc := 47) (ci := 8) (C := R_Tree) (T := F_Tree) (N := 5) B 3 rfl rfl (by decide) i_Tree (B.2.2.2.1 _ k_296) rfl (hq _ 3 63 rfl) d_Tree_leafOf_47 ?_
            refine mv_iload_n (pc := 50) B d_Tree_leafOf_50 rfl 1 rfl ?_
            refine mv_iald (pc := 51) B rfl (i32_in (by omega) (by omega)) d_Tree_leafOf_51 ?_
            refine mv_istore_n (pc := 52) B d_Tree_leafOf_52 rfl (by decide) rfl ?_
            refine mv_iinc (pc := 53) (j := 1) (v := 1) B d_Tree_leafOf_53 rfl (by decide) (by decide) rfl ?_
            refine mv_goto (pc := 56) (tgt := 5) B d_Tree_leafOf_56 rfl ?_
            refine mv_lpick [0, 1, 2, 3] rfl ?_
            exact go
          · skip
            rw [eb2] at h34
            have hw : w9.toBitVec.getLsbD b = false := (us_bit w9 b hb).mp ((lg_cmp_eq _ _).mp h34)
            have go := ih (t9 + 1) (mv_a σ 62 v.toNatClampNeg) c (by rw [w2]; omega) (by rw [w2]; omega) (by rw [zj]; exact e14) hc (by rw [w2]; have := hdq.1; omega) ((qS.cd hstep).1 hw) (by rw [w2]; omega)
            refine mv_aload_n (pc := 37) B d_Tree_leafOf_37 rfl 2 rfl ?_
            refine mv_getR (pc := 38) (ci := 8) (C := R_Tree) (T := F_Tree) (N := 5) B 2 rfl rfl (by decide) i_Tree (B.2.2.2.1 _ k_294) rfl (hq _ 2 62 rfl) d_Tree_leafOf_38 ?_
            refine mv_iload_n (pc := 41) B d_Tree_leafOf_41 rfl 1 rfl ?_
            refine mv_iald (pc := 42) B rfl (i32_in (by omega) (by omega)) d_Tree_leafOf_42 ?_
            refine mv_goto (pc := 43) (tgt := 52) B d_Tree_leafOf_43 rfl ?_
            refine mv_istore_n (pc := 52) B d_Tree_leafOf_52 rfl (by decide) rfl ?_
            refine mv_iinc (pc := 53) (j := 1) (v := 1) B d_Tree_leafOf_53 rfl (by decide) (by decide) rfl ?_
            refine mv_goto (pc := 56) (tgt := 5) B d_Tree_leafOf_56 rfl ?_
            refine mv_lpick [0, 1, 2, 3] rfl ?_
            exact go
  refine mv_iconst (pc := 0) (v := 0) B d_Tree_leafOf_0 (by decide) ?_
  refine mv_istore_n (pc := 1) B d_Tree_leafOf_1 rfl (by decide) rfl ?_
  refine mv_iconst (pc := 2) (v := 0) B d_Tree_leafOf_2 (by decide) ?_
  refine mv_istore (pc := 3) B d_Tree_leafOf_3 (by decide) rfl ?_
  refine mv_lpick [0, 1, 2, 3] rfl ?_
  exact lp _ _ _ 0 (by decide) (by decide) rfl (by omega) (by show (0 : Int) ≤ dq 0; omega) (fun a ha _ => hs.1 a ha) (Nat.lt_succ_self _)
set_option maxHeartbeats 4000000 in
set_option maxRecDepth 100000 in
theorem c_kv_Tree_leafOf_c (l : Launch) {dA : FieldType → ClassId} {D : va_G} {al : Nat → Nat} {sk sv : Nat → Nat} (hi : mv_inj (mg dA D al me)) (σ : mv_H) (w9 : Int64) (hq : Ph 145 (mv_r σ)) (hT : TreeOK 145 48 σ) : mv_C l y_Tree_leafOf (Cond.code y_Tree_leafOf b_Tree_leafOf 5 (Option.some Jvm.ClassFile.FieldType.int) :: ma) ({ frames := 0, cells := 0, slots := 0, locals := 0 }) (mg dA D al me) (mK sk sv) [.ref (al 156), .long w9] σ (mv_Ri (fun v σ1 => σ1 = σ ∧ LfY 145 48 σ w9 v)) := by
  refine mv_C.ofV (cc := b_Tree_leafOf) (nL := 5) (ret := (Option.some Jvm.ClassFile.FieldType.int)) (by decide +kernel) rfl hi (Nat.le_of_ble_eq_true rfl) ?_
  intro p e s m below meth c B hNs hr hnm hno
  have hT9 := hT
  obtain ⟨ops, n, dq, h1, h2, h3, h4, h5, h6⟩ := hT
  obtain ⟨S, hs⟩ := h3.2
  have lp : ∀ (nn : Nat) (t9 : Int32) (v : Int32) (j : Nat) (qt : 0 ≤ t9.toInt) (qt2 : t9.toInt ≤ 65) (qj : v.toInt = j) (qn : j < n) (qd : t9.toInt ≤ dq j) (qS : LfS (mv_b σ 150) (mv_b σ 151) w9 ops S j), (65 - t9.toInt).toNat < nn → mv_V p l e ({ frames := 0, cells := 0, slots := 0, locals := 0 }) s m ([.ref (al 156), .long w9] : List Value).toArray below meth c (mg dA D al me) 5 0 0 (mv_Q (mg dA D al me) below s 0 0 (mv_Ri (fun v σ1 => σ1 = σ ∧ LfY 145 48 σ w9 v))) σ 5 [(4, .int t9), (3, .int v), (0, .ref (al 156)), (1, .long w9)] [] := by
    intro nn
    induction nn with
    | zero => intro t9 v j qt qt2 qj qn qd qS hm; exact absurd hm (Nat.not_lt_zero _)
    | succ nn ih =>
      intro t9 v j qt qt2 qj qn qd qS hm
      refine mv_iload (pc := 5) B d_Tree_leafOf_5 0 rfl ?_
      refine mv_bipush (pc := 7) (v := 64) B d_Tree_leafOf_7 (by decide) ?_
      refine mv_icmp_gt (pc := 9) (tgt := 59) B d_Tree_leafOf_9 rfl (fun h9 => ?_) (fun h9 => ?_)
      · skip
        exact absurd (show (64 : Int) < t9.toInt from Int32.lt_iff_toInt_lt.mp h9) (by have z9 := (h6 j qn).1; omega)
      · skip
        rw [Int32.lt_iff_toInt_lt] at h9
        simp only [Int32.reduceToInt] at h9
        have evv := i32_cl (x := v) (by omega)
        have zj : v.toNatClampNeg = j := by omega
        have hjM : j < 97 := by omega
        refine mv_aload_n (pc := 12) B d_Tree_leafOf_12 rfl 2 rfl ?_
        refine mv_getR (pc := 13) (ci := 8) (C := R_Tree) (T := F_Tree) (N := 5) B 1 rfl rfl (by decide) i_Tree (B.2.2.2.1 _ k_293) rfl (hq _ 1 158 rfl) d_Tree_leafOf_13 ?_
        refine mv_iload_n (pc := 16) B d_Tree_leafOf_16 rfl 1 rfl ?_
        refine mv_iald (pc := 17) B rfl (i32_in (by omega) (by omega)) d_Tree_leafOf_17 ?_
        refine mv_iconst (pc := 18) (v := -1) B d_Tree_leafOf_18 (by decide) ?_
        refine mv_icmp_eq (pc := 19) (tgt := 59) B d_Tree_leafOf_19 rfl (fun h19 => ?_) (fun h19 => ?_)
        · skip
          have hv : LfX 145 48 σ w9 v := ⟨leaf_t (P := 145) (M := 48) (j := j) (t := 0) ⟨ops, n, dq, h1, h2, h3, h4, h5, h6, qn, by omega⟩ qj (by rw [← zj]; exact h19), fun a ha hm => by
            rw [zj]
            exact hs.2.1 j qn (by rw [← zj]; exact h19) a (qS a (by omega) hm)⟩
          have hy : (mv_a σ 160 v.toNatClampNeg).toInt ≤ (mv_i σ 145 10).toInt := by
            rw [zj, h1]
            rcases (h6 j qn).2 with ⟨-, -, q⟩ | ⟨q, -⟩
            · exact q
            · exact absurd (by rw [← zj]; exact h19) q
          refine mv_iload_n (pc := 59) B d_Tree_leafOf_59 rfl 1 rfl ?_
          exact mv_iret (pc := 60) B hr rfl d_Tree_leafOf_60 (Nat.le_refl _) (Nat.le_refl _) ⟨_, rfl, rfl, hv, hy⟩
        · skip
          have w2 : (t9 + 1).toInt = t9.toInt + 1 := i32_inc (by omega)
          obtain ⟨b, c, d, hb, eb, e14, e15, hc, hd, hstep⟩ := hs.2.2.1 j qn (by rw [← zj]; exact h19)
          have eb2 : mv_a σ 158 v.toNatClampNeg = Int32.ofNat b := by rw [zj]; exact eb
          have hdq : dq c = dq j + 1 ∧ dq d = dq j + 1 := by
            rcases (h6 j qn).2 with ⟨q1, -⟩ | ⟨-, c2, d2, q1, q2, q3, q4, q5, q6⟩
            · exact absurd q1 (by rw [← zj]; exact h19)
            · have y1 : c2 = c := by omega
              have y2 : d2 = d := by omega
              rw [← y1, ← y2]
              exact ⟨q5, q6⟩
          refine mv_lload_n (pc := 22) B d_Tree_leafOf_22 rfl 3 rfl ?_
          refine mv_aload_n (pc := 23) B d_Tree_leafOf_23 rfl 2 rfl ?_
          refine mv_getR (pc := 24) (ci := 8) (C := R_Tree) (T := F_Tree) (N := 5) B 1 rfl rfl (by decide) i_Tree (B.2.2.2.1 _ k_293) rfl (hq _ 1 158 rfl) d_Tree_leafOf_24 ?_
          refine mv_iload_n (pc := 27) B d_Tree_leafOf_27 rfl 1 rfl ?_
          refine mv_iald (pc := 28) B rfl (i32_in (by omega) (by omega)) d_Tree_leafOf_28 ?_
          refine mv_lushr (pc := 29) B d_Tree_leafOf_29 ?_
          refine mv_lconst (pc := 30) (v := 1) B d_Tree_leafOf_30 (by decide) ?_
          refine mv_land (pc := 31) B d_Tree_leafOf_31 ?_
          refine mv_lconst (pc := 32) (v := 0) B d_Tree_leafOf_32 (by decide) ?_
          refine mv_lcmp (pc := 33) B d_Tree_leafOf_33 ?_
          refine mv_if_ne (pc := 34) (tgt := 46) B d_Tree_leafOf_34 rfl (fun h34 => ?_) (fun h34 => ?_)
          · skip
            rw [eb2] at h34
            have hw : w9.toBitVec.getLsbD b = true := by
              have h1 : ¬ _ = false := fun q => h34 ((lg_cmp_eq _ _).mpr ((us_bit w9 b hb).mpr q))
              exact (Bool.not_eq_false _).mp h1
            have go := ih (t9 + 1) (mv_a σ 160 v.toNatClampNeg) d (by rw [w2]; omega) (by rw [w2]; omega) (by rw [zj]; exact e15) hd (by rw [w2]; have := hdq.2; omega) ((qS.cd hstep).2 hw) (by rw [w2]; omega)
            refine mv_aload_n (pc := 46) B d_Tree_leafOf_46 rfl 2 rfl ?_
            refine mv_getR (pc := 47) (ci := 8) (C := R_Tree) (T := F_Tree) (N := 5) B 3 rfl rfl (by decide) i_Tree (B.2.2.2.1 _ k_296) rfl (hq _ 3 160 rfl) d_Tree_leafOf_47 ?_
            refine mv_iload_n (pc := 50) B d_Tree_leafOf_50 rfl 1 rfl ?_
            refine mv_iald (pc := 51) B rfl (i32_in (by omega) (by omega)) d_Tree_leafOf_51 ?_
            refine mv_istore_n (pc := 52) B d_Tree_leafOf_52 rfl (by decide) rfl ?_
            refine mv_iinc (pc := 53) (j := 1) (v := 1) B d_Tree_leafOf_53 rfl (by decide) (by decide) rfl ?_
            refine mv_goto (pc := 56) (tgt := 5) B d_Tree_leafOf_56 rfl ?_
            refine mv_lpick [0, 1, 2, 3] rfl ?_
            exact go
          · skip
            rw [eb2] at h34
            have hw : w9.toBitVec.getLsbD b = false := (us_bit w9 b hb).mp ((lg_cmp_eq _ _).mp h34)
            have go := ih (t9 + 1) (mv_a σ 159 v.toNatClampNeg) c (by rw [w2]; omega) (by rw [w2]; omega) (by rw [zj]; exact e14) hc (by rw [w2]; have := hdq.1; omega) ((qS.cd hstep).1 hw) (by rw [w2]; omega)
            refine mv_aload_n (pc := 37) B d_Tree_leafOf_37 rfl 2 rfl ?_
            refine mv_getR (pc := 38) (ci := 8) (C := R_Tree) (T := F_Tree) (N := 5) B 2 rfl rfl (by decide) i_Tree (B.2.2.2.1 _ k_294) rfl (hq _ 2 159 rfl) d_Tree_leafOf_38 ?_
            refine mv_iload_n (pc := 41) B d_Tree_leafOf_41 rfl 1 rfl ?_
            refine mv_iald (pc := 42) B rfl (i32_in (by omega) (by omega)) d_Tree_leafOf_42 ?_
            refine mv_goto (pc := 43) (tgt := 52) B d_Tree_leafOf_43 rfl ?_
            refine mv_istore_n (pc := 52) B d_Tree_leafOf_52 rfl (by decide) rfl ?_
            refine mv_iinc (pc := 53) (j := 1) (v := 1) B d_Tree_leafOf_53 rfl (by decide) (by decide) rfl ?_
            refine mv_goto (pc := 56) (tgt := 5) B d_Tree_leafOf_56 rfl ?_
            refine mv_lpick [0, 1, 2, 3] rfl ?_
            exact go
  refine mv_iconst (pc := 0) (v := 0) B d_Tree_leafOf_0 (by decide) ?_
  refine mv_istore_n (pc := 1) B d_Tree_leafOf_1 rfl (by decide) rfl ?_
  refine mv_iconst (pc := 2) (v := 0) B d_Tree_leafOf_2 (by decide) ?_
  refine mv_istore (pc := 3) B d_Tree_leafOf_3 (by decide) rfl ?_
  refine mv_lpick [0, 1, 2, 3] rfl ?_
  exact lp _ _ _ 0 (by decide) (by decide) rfl (by omega) (by show (0 : Int) ≤ dq 0; omega) (fun a ha _ => hs.1 a ha) (Nat.lt_succ_self _)
set_option maxHeartbeats 4000000 in
set_option maxRecDepth 100000 in
theorem c_kv_Machine_opOf_a (l : Launch) {dA : FieldType → ClassId} {D : va_G} {al : Nat → Nat} {ext : mv_Sh} {sk sv : Nat → Nat} (hi : mv_inj (mg dA D al ext)) (σ : mv_H) (w9 : Int64) (hR : Rf 32 (mv_r σ)) (hT : TreeOK 32 512 σ) (hUQ : UQq 32 σ) : mv_C l y_Machine_opOf (Cond.code y_Machine_opOf b_Machine_opOf 8 (Option.some Jvm.ClassFile.FieldType.int) :: ma) ({ frames := 1, cells := 0, slots := 0, locals := 24 }) (mg dA D al ext) (mK sk sv) [.ref (al 64), .long w9] σ (mv_Ri (fun v σ1 => σ1 = σ ∧ DCq 32 σ w9 v)) := by
  refine mv_C.ofV (cc := b_Machine_opOf) (nL := 8) (ret := (Option.some Jvm.ClassFile.FieldType.int)) (by decide +kernel) rfl hi (Nat.le_of_ble_eq_true rfl) ?_
  intro p e s m below meth c B hNs hr hnm hno
  have lq : ∀ (lf : Int32) (hLX : LfX 32 512 σ w9 lf) (hY : (mv_a σ 47 lf.toNatClampNeg).toInt ≤ (mv_i σ 32 10).toInt) (hl0 : 0 ≤ lf.toInt) (hl1 : lf.toInt < 1025) (hl2 : 0 ≤ (mv_a σ 46 lf.toNatClampNeg).toInt) (hl3 : (mv_a σ 47 lf.toNatClampNeg).toInt ≤ 512), ∀ (jj : Int32) (q0 : (mv_a σ 46 lf.toNatClampNeg).toInt ≤ jj.toInt) (q1 : jj.toInt ≤ (mv_a σ 46 lf.toNatClampNeg).toInt), mv_V p l e ({ frames := 1, cells := 0, slots := 0, locals := 24 }) s m ([.ref (al 64), .long w9] : List Value).toArray below meth c (mg dA D al ext) 8 0 0 (mv_Q (mg dA D al ext) below s 0 0 (mv_Ri (fun v σ1 => σ1 = σ ∧ DCq 32 σ w9 v))) σ 27 [(6, .int jj), (5, .int (-1)), (4, .int lf), (3, .ref (al 43)), (0, .ref (al 64)), (1, .long w9)] [] := by
    intro lf hLX hY hl0 hl1 hl2 hl3
    obtain ⟨hL, hX⟩ := hLX
    have lp : ∀ (nn : Nat) (τ : mv_H) (jj : Int32) (fd : Int32) (q0 : (mv_a σ 46 lf.toNatClampNeg).toInt ≤ jj.toInt) (qd : FDq 32 σ w9 (mv_a σ 46 lf.toNatClampNeg).toInt fd jj) (qE : τ = σ) (qR : Rf 32 (mv_r τ)), (512 - jj.toInt).toNat < nn → mv_V p l e ({ frames := 1, cells := 0, slots := 0, locals := 24 }) s m ([.ref (al 64), .long w9] : List Value).toArray below meth c (mg dA D al ext) 8 0 0 (mv_Q (mg dA D al ext) below s 0 0 (mv_Ri (fun v σ1 => σ1 = σ ∧ DCq 32 σ w9 v))) τ 27 [(6, .int jj), (5, .int fd), (4, .int lf), (3, .ref (al 43)), (0, .ref (al 64)), (1, .long w9)] [] := by
      intro nn
      induction nn with
      | zero => intro τ jj fd q0 qd qE qR hm; exact absurd hm (Nat.not_lt_zero _)
      | succ nn ih =>
        intro τ jj fd q0 qd qE qR hm
        have qF : F12 σ τ := by rw [qE]; exact Fr.rf
        refine mv_iload (pc := 27) B d_Machine_opOf_27 0 rfl ?_
        refine mv_aload_n (pc := 29) B d_Machine_opOf_29 rfl 3 rfl ?_
        refine mv_getR (pc := 30) (ci := 8) (C := R_Tree) (T := F_Tree) (N := 5) B 3 rfl rfl (by decide) i_Tree (B.2.2.2.1 _ k_297) rfl (qR.2.1 _ 3 47 rfl) d_Machine_opOf_30 ?_
        refine mv_iload (pc := 33) B d_Machine_opOf_33 2 rfl ?_
        refine mv_iald (pc := 35) B rfl (i32_in (by omega) (by omega)) d_Machine_opOf_35 ?_
        refine mv_icmp_ge (pc := 36) (tgt := 102) B d_Machine_opOf_36 rfl (fun h36 => ?_) (fun h36 => ?_)
        · skip
          rw [Int32.le_iff_toInt_le] at h36
          have e15 : mv_a τ 47 = mv_a σ 47 := qF.2.1 _ (fun q => q)
          rw [e15] at h36
          have hD : DCq 32 σ w9 fd := by
            rcases qd with ⟨d1, d2⟩ | d1
            · refine Or.inl ⟨d1, fun a ha hm => ?_⟩
              obtain ⟨i, i1, i2, i3⟩ := hX a ha hm
              have i2 : (i : Int) < (mv_a σ 47 lf.toNatClampNeg).toInt := i2
              have i3 : (mv_a σ 44 i).toInt = (a : Int) := i3
              refine d2 i i1 (by omega) ?_
              have z9 := i32_cl (x := mv_a σ 44 i) (by omega)
              rw [show (mv_a σ 44 i).toNatClampNeg = a by omega]
              exact hm
            · exact Or.inr (d1.imp fun a h => h.1)
          refine mv_iload (pc := 102) B d_Machine_opOf_102 1 rfl ?_
          exact mv_iret (pc := 104) B hr rfl d_Machine_opOf_104 (Nat.le_refl _) (Nat.le_refl _) ⟨_, rfl, qE, hD⟩
        · skip
          rw [Int32.le_iff_toInt_le] at h36
          have e15 : mv_a τ 47 = mv_a σ 47 := qF.2.1 _ (fun q => q)
          have e12 : mv_a τ 44 = mv_a σ 44 := qF.2.1 _ (fun q => q)
          have e5 : mv_b τ 37 = mv_b σ 37 := qF.2.2.1 _ (fun q => q)
          have e6 : mv_b τ 38 = mv_b σ 38 := qF.2.2.1 _ (fun q => q)
          rw [e15] at h36
          have ejj := i32_cl (x := jj) (by omega)
          have ho := hL.2.2.2.2 jj.toNatClampNeg (show (mv_a σ 46 lf.toNatClampNeg).toInt ≤ _ by omega) (show _ < (mv_a σ 47 lf.toNatClampNeg).toInt by omega)
          have ho0 : 0 ≤ (mv_a τ 44 jj.toNatClampNeg).toInt := by rw [e12]; exact ho.1
          have ho1 : (mv_a τ 44 jj.toNatClampNeg).toInt < (mv_i σ 32 10).toInt := by rw [e12]; exact ho.2.1
          have ho2 := ho.2.2.1
          have w2 : (jj + 1).toInt = jj.toInt + 1 := i32_inc (by omega)
          refine mv_aload_n (pc := 39) B d_Machine_opOf_39 rfl 3 rfl ?_
          refine mv_getR (pc := 40) (ci := 8) (C := R_Tree) (T := F_Tree) (N := 5) B 0 rfl rfl (by decide) i_Tree (B.2.2.2.1 _ k_292) rfl (qR.2.1 _ 0 44 rfl) d_Machine_opOf_40 ?_
          refine mv_iload (pc := 43) B d_Machine_opOf_43 0 rfl ?_
          refine mv_iald (pc := 45) B rfl (i32_in (by omega) (by omega)) d_Machine_opOf_45 ?_
          refine mv_istore (pc := 46) B d_Machine_opOf_46 (by decide) rfl ?_
          refine mv_lload_n (pc := 48) B d_Machine_opOf_48 rfl 6 rfl ?_
          refine mv_aload_n (pc := 49) B d_Machine_opOf_49 rfl 5 rfl ?_
          refine mv_getR (pc := 50) (ci := 9) (C := R_Machine) (T := F_Machine) (N := 13) B 0 rfl rfl (by decide) i_Machine (B.2.2.2.1 _ k_440) rfl qR.2.2 d_Machine_opOf_50 ?_
          refine mv_getR (pc := 53) (ci := 7) (C := R_Program) (T := F_Program) (N := 19) B 11 rfl rfl (by decide) i_Program (B.2.2.2.1 _ k_350) rfl (qR.2.1 _ 11 37 rfl) d_Machine_opOf_53 ?_
          refine mv_iload (pc := 56) B d_Machine_opOf_56 0 rfl ?_
          refine mv_lald (pc := 58) B rfl (i32_in ho0 (by omega)) d_Machine_opOf_58 ?_
          refine mv_land (pc := 59) B d_Machine_opOf_59 ?_
          refine mv_aload_n (pc := 60) B d_Machine_opOf_60 rfl 5 rfl ?_
          refine mv_getR (pc := 61) (ci := 9) (C := R_Machine) (T := F_Machine) (N := 13) B 0 rfl rfl (by decide) i_Machine (B.2.2.2.1 _ k_440) rfl qR.2.2 d_Machine_opOf_61 ?_
          refine mv_getR (pc := 64) (ci := 7) (C := R_Program) (T := F_Program) (N := 19) B 12 rfl rfl (by decide) i_Program (B.2.2.2.1 _ k_353) rfl (qR.2.1 _ 12 38 rfl) d_Machine_opOf_64 ?_
          refine mv_iload (pc := 67) B d_Machine_opOf_67 0 rfl ?_
          refine mv_lald (pc := 69) B rfl (i32_in ho0 (by omega)) d_Machine_opOf_69 ?_
          refine mv_lcmp (pc := 70) B d_Machine_opOf_70 ?_
          refine mv_if_ne (pc := 71) (tgt := 96) B d_Machine_opOf_71 rfl (fun h71 => ?_) (fun h71 => ?_)
          · skip
            have hne : ¬ MtO 32 σ w9 (mv_a σ 44 jj.toNatClampNeg).toNatClampNeg := fun q => h71 (by rw [e12, e5, e6]; exact (lg_cmp_eq _ _).mpr q)
            have go := ih τ (jj + 1) fd (by omega) (qd.imp (fun d => ⟨d.1, fun i i1 i2 => (by
              rw [w2] at i2
              by_cases z9 : i = jj.toNatClampNeg
              · rw [z9]; exact hne
              · exact d.2 i i1 (by omega))⟩) (fun d => by obtain ⟨a, h1, i, i1, i2⟩ := d; exact ⟨a, h1, i, by omega, i2⟩)) qE qR (by omega)
            refine mv_iinc (pc := 96) (j := 1) (v := 1) B d_Machine_opOf_96 rfl (by decide) (by decide) rfl ?_
            refine mv_goto (pc := 99) (tgt := 27) B d_Machine_opOf_99 rfl ?_
            refine mv_lpick [0, 2, 3, 4, 5, 6] rfl ?_
            exact go
          · skip
            have heq : MtO 32 σ w9 (mv_a σ 44 jj.toNatClampNeg).toNatClampNeg := by
              rw [e12, e5, e6] at h71
              exact (lg_cmp_eq _ _).mp h71
            refine mv_iload (pc := 74) B d_Machine_opOf_74 2 rfl ?_
            refine mv_if_lt (pc := 76) (tgt := 92) B d_Machine_opOf_76 rfl (fun h76 => ?_) (fun h76 => ?_)
            · skip
              have go := ih τ (jj + 1) (mv_a τ 44 jj.toNatClampNeg) (by omega) (Or.inr ⟨(mv_a σ 44 jj.toNatClampNeg).toNatClampNeg, ⟨by have z9 := i32_cl (x := mv_a σ 44 jj.toNatClampNeg) ho.1; have z8 : (mv_a σ 44 jj.toNatClampNeg).toInt < (mv_i σ 32 10).toInt := ho.2.1; omega, by rw [e12]; exact nI_o2 (i32_cl (x := mv_a σ 44 jj.toNatClampNeg) ho.1).symm, heq⟩, jj.toNatClampNeg, by omega, by omega, (i32_cl (x := mv_a σ 44 jj.toNatClampNeg) ho.1).symm⟩) qE qR (by omega)
              refine mv_iload (pc := 92) B d_Machine_opOf_92 0 rfl ?_
              refine mv_istore (pc := 94) B d_Machine_opOf_94 (by decide) rfl ?_
              refine mv_iinc (pc := 96) (j := 2) (v := 1) B d_Machine_opOf_96 rfl (by decide) (by decide) rfl ?_
              refine mv_goto (pc := 99) (tgt := 27) B d_Machine_opOf_99 rfl ?_
              refine mv_lpick [0, 1, 3, 4, 5, 6] rfl ?_
              exact go
            · skip
              exact (op_dd (P := 32) (M := 512) (w := w9) (jj := jj) hUQ hT qd h76 heq ejj (by omega) ho.1 ho.2.1).elim
    intro jj q0 q1
    exact lp _ σ jj (-1) q0 (Or.inl ⟨rfl, fun i i1 i2 => absurd i2 (by omega)⟩) rfl hR (Nat.lt_succ_self _)
  refine mv_aload_n (pc := 0) B d_Machine_opOf_0 rfl 0 rfl ?_
  refine mv_getR (pc := 1) (ci := 9) (C := R_Machine) (T := F_Machine) (N := 13) B 0 rfl rfl (by decide) i_Machine (B.2.2.2.1 _ k_440) rfl hR.2.2 d_Machine_opOf_1 ?_
  refine mv_getR (pc := 4) (ci := 7) (C := R_Program) (T := F_Program) (N := 19) B 18 rfl rfl (by decide) i_Program (B.2.2.2.1 _ k_366) rfl (hR.2.1 _ 18 43 rfl) d_Machine_opOf_4 ?_
  refine mv_astore_n (pc := 7) B d_Machine_opOf_7 rfl (by decide) rfl ?_
  refine mv_aload_n (pc := 8) B d_Machine_opOf_8 rfl 0 rfl ?_
  refine mv_lload_n (pc := 9) B d_Machine_opOf_9 rfl 2 rfl ?_
  refine mv_callVi (pc := 10) (n := 1) (ci := 8) (C := R_Tree) B (mK_ok sk sv) hNs rfl rfl (c_kv_Tree_leafOf_a l hi _ _ hR.2.1 hT) rfl (ma_goodc kc_Tree_leafOf) (B.2.2.2.1 _ k_1564) (B.2.2.2.1 _ k_1565) (B.2.2.2.1 _ k_1566) (B.2.2.2.1 _ k_9) ⟨by decide +kernel, by decide +kernel, by decide +kernel⟩ rfl d_Machine_opOf_10 rfl (Nat.le_of_ble_eq_true rfl) ⟨by decide, by decide⟩ ⟨by decide, by decide⟩ ⟨by decide, by decide⟩ (mv_noH hno _) (fun v10 σ10 h10 => ?_)
  obtain ⟨e10, d10⟩ := h10
  have e10 := e10.symm
  subst e10
  refine mv_istore (pc := 13) B d_Machine_opOf_13 (by decide) rfl ?_
  refine mv_iconst (pc := 15) (v := -1) B d_Machine_opOf_15 (by decide) ?_
  refine mv_istore (pc := 16) B d_Machine_opOf_16 (by decide) rfl ?_
  refine mv_aload_n (pc := 18) B d_Machine_opOf_18 rfl 2 rfl ?_
  refine mv_getR (pc := 19) (ci := 8) (C := R_Tree) (T := F_Tree) (N := 5) B 2 rfl rfl (by decide) i_Tree (B.2.2.2.1 _ k_295) rfl (hR.2.1 _ 2 46 rfl) d_Machine_opOf_19 ?_
  refine mv_iload (pc := 22) B d_Machine_opOf_22 1 rfl ?_
  refine mv_iald (pc := 24) B rfl (i32_in d10.1.1.1 d10.1.1.2.1) d_Machine_opOf_24 ?_
  refine mv_istore (pc := 25) B d_Machine_opOf_25 (by decide) rfl ?_
  refine mv_lpick [0, 1, 2, 3, 4, 5] rfl ?_
  exact lq _ d10.1 d10.2 d10.1.1.1 d10.1.1.2.1 d10.1.1.2.2.1 d10.1.1.2.2.2.1 _ (Int.le_refl _) (Int.le_refl _)
set_option maxHeartbeats 4000000 in
set_option maxRecDepth 100000 in
theorem c_kv_Machine_opOf_b (l : Launch) {dA : FieldType → ClassId} {D : va_G} {al : Nat → Nat} {ext : mv_Sh} {sk sv : Nat → Nat} (hi : mv_inj (mg dA D al ext)) (σ : mv_H) (w9 : Int64) (hR : Rf 48 (mv_r σ)) (hT : TreeOK 48 512 σ) (hUQ : UQq 48 σ) : mv_C l y_Machine_opOf (Cond.code y_Machine_opOf b_Machine_opOf 8 (Option.some Jvm.ClassFile.FieldType.int) :: ma) ({ frames := 1, cells := 0, slots := 0, locals := 24 }) (mg dA D al ext) (mK sk sv) [.ref (al 64), .long w9] σ (mv_Ri (fun v σ1 => σ1 = σ ∧ DCq 48 σ w9 v)) := by
  refine mv_C.ofV (cc := b_Machine_opOf) (nL := 8) (ret := (Option.some Jvm.ClassFile.FieldType.int)) (by decide +kernel) rfl hi (Nat.le_of_ble_eq_true rfl) ?_
  intro p e s m below meth c B hNs hr hnm hno
  have lq : ∀ (lf : Int32) (hLX : LfX 48 512 σ w9 lf) (hY : (mv_a σ 63 lf.toNatClampNeg).toInt ≤ (mv_i σ 48 10).toInt) (hl0 : 0 ≤ lf.toInt) (hl1 : lf.toInt < 1025) (hl2 : 0 ≤ (mv_a σ 62 lf.toNatClampNeg).toInt) (hl3 : (mv_a σ 63 lf.toNatClampNeg).toInt ≤ 512), ∀ (jj : Int32) (q0 : (mv_a σ 62 lf.toNatClampNeg).toInt ≤ jj.toInt) (q1 : jj.toInt ≤ (mv_a σ 62 lf.toNatClampNeg).toInt), mv_V p l e ({ frames := 1, cells := 0, slots := 0, locals := 24 }) s m ([.ref (al 64), .long w9] : List Value).toArray below meth c (mg dA D al ext) 8 0 0 (mv_Q (mg dA D al ext) below s 0 0 (mv_Ri (fun v σ1 => σ1 = σ ∧ DCq 48 σ w9 v))) σ 27 [(6, .int jj), (5, .int (-1)), (4, .int lf), (3, .ref (al 59)), (0, .ref (al 64)), (1, .long w9)] [] := by
    intro lf hLX hY hl0 hl1 hl2 hl3
    obtain ⟨hL, hX⟩ := hLX
    have lp : ∀ (nn : Nat) (τ : mv_H) (jj : Int32) (fd : Int32) (q0 : (mv_a σ 62 lf.toNatClampNeg).toInt ≤ jj.toInt) (qd : FDq 48 σ w9 (mv_a σ 62 lf.toNatClampNeg).toInt fd jj) (qE : τ = σ) (qR : Rf 48 (mv_r τ)), (512 - jj.toInt).toNat < nn → mv_V p l e ({ frames := 1, cells := 0, slots := 0, locals := 24 }) s m ([.ref (al 64), .long w9] : List Value).toArray below meth c (mg dA D al ext) 8 0 0 (mv_Q (mg dA D al ext) below s 0 0 (mv_Ri (fun v σ1 => σ1 = σ ∧ DCq 48 σ w9 v))) τ 27 [(6, .int jj), (5, .int fd), (4, .int lf), (3, .ref (al 59)), (0, .ref (al 64)), (1, .long w9)] [] := by
      intro nn
      induction nn with
      | zero => intro τ jj fd q0 qd qE qR hm; exact absurd hm (Nat.not_lt_zero _)
      | succ nn ih =>
        intro τ jj fd q0 qd qE qR hm
        have qF : F12 σ τ := by rw [qE]; exact Fr.rf
        refine mv_iload (pc := 27) B d_Machine_opOf_27 0 rfl ?_
        refine mv_aload_n (pc := 29) B d_Machine_opOf_29 rfl 3 rfl ?_
        refine mv_getR (pc := 30) (ci := 8) (C := R_Tree) (T := F_Tree) (N := 5) B 3 rfl rfl (by decide) i_Tree (B.2.2.2.1 _ k_297) rfl (qR.2.1 _ 3 63 rfl) d_Machine_opOf_30 ?_
        refine mv_iload (pc := 33) B d_Machine_opOf_33 2 rfl ?_
        refine mv_iald (pc := 35) B rfl (i32_in (by omega) (by omega)) d_Machine_opOf_35 ?_
        refine mv_icmp_ge (pc := 36) (tgt := 102) B d_Machine_opOf_36 rfl (fun h36 => ?_) (fun h36 => ?_)
        · skip
          rw [Int32.le_iff_toInt_le] at h36
          have e15 : mv_a τ 63 = mv_a σ 63 := qF.2.1 _ (fun q => q)
          rw [e15] at h36
          have hD : DCq 48 σ w9 fd := by
            rcases qd with ⟨d1, d2⟩ | d1
            · refine Or.inl ⟨d1, fun a ha hm => ?_⟩
              obtain ⟨i, i1, i2, i3⟩ := hX a ha hm
              have i2 : (i : Int) < (mv_a σ 63 lf.toNatClampNeg).toInt := i2
              have i3 : (mv_a σ 60 i).toInt = (a : Int) := i3
              refine d2 i i1 (by omega) ?_
              have z9 := i32_cl (x := mv_a σ 60 i) (by omega)
              rw [show (mv_a σ 60 i).toNatClampNeg = a by omega]
              exact hm
            · exact Or.inr (d1.imp fun a h => h.1)
          refine mv_iload (pc := 102) B d_Machine_opOf_102 1 rfl ?_
          exact mv_iret (pc := 104) B hr rfl d_Machine_opOf_104 (Nat.le_refl _) (Nat.le_refl _) ⟨_, rfl, qE, hD⟩
        · skip
          rw [Int32.le_iff_toInt_le] at h36
          have e15 : mv_a τ 63 = mv_a σ 63 := qF.2.1 _ (fun q => q)
          have e12 : mv_a τ 60 = mv_a σ 60 := qF.2.1 _ (fun q => q)
          have e5 : mv_b τ 53 = mv_b σ 53 := qF.2.2.1 _ (fun q => q)
          have e6 : mv_b τ 54 = mv_b σ 54 := qF.2.2.1 _ (fun q => q)
          rw [e15] at h36
          have ejj := i32_cl (x := jj) (by omega)
          have ho := hL.2.2.2.2 jj.toNatClampNeg (show (mv_a σ 62 lf.toNatClampNeg).toInt ≤ _ by omega) (show _ < (mv_a σ 63 lf.toNatClampNeg).toInt by omega)
          have ho0 : 0 ≤ (mv_a τ 60 jj.toNatClampNeg).toInt := by rw [e12]; exact ho.1
          have ho1 : (mv_a τ 60 jj.toNatClampNeg).toInt < (mv_i σ 48 10).toInt := by rw [e12]; exact ho.2.1
          have ho2 := ho.2.2.1
          have w2 : (jj + 1).toInt = jj.toInt + 1 := i32_inc (by omega)
          refine mv_aload_n (pc := 39) B d_Machine_opOf_39 rfl 3 rfl ?_
          refine mv_getR (pc := 40) (ci := 8) (C := R_Tree) (T := F_Tree) (N := 5) B 0 rfl rfl (by decide) i_Tree (B.2.2.2.1 _ k_292) rfl (qR.2.1 _ 0 60 rfl) d_Machine_opOf_40 ?_
          refine mv_iload (pc := 43) B d_Machine_opOf_43 0 rfl ?_
          refine mv_iald (pc := 45) B rfl (i32_in (by omega) (by omega)) d_Machine_opOf_45 ?_
          refine mv_istore (pc := 46) B d_Machine_opOf_46 (by decide) rfl ?_
          refine mv_lload_n (pc := 48) B d_Machine_opOf_48 rfl 6 rfl ?_
          refine mv_aload_n (pc := 49) B d_Machine_opOf_49 rfl 5 rfl ?_
          refine mv_getR (pc := 50) (ci := 9) (C := R_Machine) (T := F_Machine) (N := 13) B 0 rfl rfl (by decide) i_Machine (B.2.2.2.1 _ k_440) rfl qR.2.2 d_Machine_opOf_50 ?_
          refine mv_getR (pc := 53) (ci := 7) (C := R_Program) (T := F_Program) (N := 19) B 11 rfl rfl (by decide) i_Program (B.2.2.2.1 _ k_350) rfl (qR.2.1 _ 11 53 rfl) d_Machine_opOf_53 ?_
          refine mv_iload (pc := 56) B d_Machine_opOf_56 0 rfl ?_
          refine mv_lald (pc := 58) B rfl (i32_in ho0 (by omega)) d_Machine_opOf_58 ?_
          refine mv_land (pc := 59) B d_Machine_opOf_59 ?_
          refine mv_aload_n (pc := 60) B d_Machine_opOf_60 rfl 5 rfl ?_
          refine mv_getR (pc := 61) (ci := 9) (C := R_Machine) (T := F_Machine) (N := 13) B 0 rfl rfl (by decide) i_Machine (B.2.2.2.1 _ k_440) rfl qR.2.2 d_Machine_opOf_61 ?_
          refine mv_getR (pc := 64) (ci := 7) (C := R_Program) (T := F_Program) (N := 19) B 12 rfl rfl (by decide) i_Program (B.2.2.2.1 _ k_353) rfl (qR.2.1 _ 12 54 rfl) d_Machine_opOf_64 ?_
          refine mv_iload (pc := 67) B d_Machine_opOf_67 0 rfl ?_
          refine mv_lald (pc := 69) B rfl (i32_in ho0 (by omega)) d_Machine_opOf_69 ?_
          refine mv_lcmp (pc := 70) B d_Machine_opOf_70 ?_
          refine mv_if_ne (pc := 71) (tgt := 96) B d_Machine_opOf_71 rfl (fun h71 => ?_) (fun h71 => ?_)
          · skip
            have hne : ¬ MtO 48 σ w9 (mv_a σ 60 jj.toNatClampNeg).toNatClampNeg := fun q => h71 (by rw [e12, e5, e6]; exact (lg_cmp_eq _ _).mpr q)
            have go := ih τ (jj + 1) fd (by omega) (qd.imp (fun d => ⟨d.1, fun i i1 i2 => (by
              rw [w2] at i2
              by_cases z9 : i = jj.toNatClampNeg
              · rw [z9]; exact hne
              · exact d.2 i i1 (by omega))⟩) (fun d => by obtain ⟨a, h1, i, i1, i2⟩ := d; exact ⟨a, h1, i, by omega, i2⟩)) qE qR (by omega)
            refine mv_iinc (pc := 96) (j := 1) (v := 1) B d_Machine_opOf_96 rfl (by decide) (by decide) rfl ?_
            refine mv_goto (pc := 99) (tgt := 27) B d_Machine_opOf_99 rfl ?_
            refine mv_lpick [0, 2, 3, 4, 5, 6] rfl ?_
            exact go
          · skip
            have heq : MtO 48 σ w9 (mv_a σ 60 jj.toNatClampNeg).toNatClampNeg := by
              rw [e12, e5, e6] at h71
              exact (lg_cmp_eq _ _).mp h71
            refine mv_iload (pc := 74) B d_Machine_opOf_74 2 rfl ?_
            refine mv_if_lt (pc := 76) (tgt := 92) B d_Machine_opOf_76 rfl (fun h76 => ?_) (fun h76 => ?_)
            · skip
              have go := ih τ (jj + 1) (mv_a τ 60 jj.toNatClampNeg) (by omega) (Or.inr ⟨(mv_a σ 60 jj.toNatClampNeg).toNatClampNeg, ⟨by have z9 := i32_cl (x := mv_a σ 60 jj.toNatClampNeg) ho.1; have z8 : (mv_a σ 60 jj.toNatClampNeg).toInt < (mv_i σ 48 10).toInt := ho.2.1; omega, by rw [e12]; exact nI_o2 (i32_cl (x := mv_a σ 60 jj.toNatClampNeg) ho.1).symm, heq⟩, jj.toNatClampNeg, by omega, by omega, (i32_cl (x := mv_a σ 60 jj.toNatClampNeg) ho.1).symm⟩) qE qR (by omega)
              refine mv_iload (pc := 92) B d_Machine_opOf_92 0 rfl ?_
              refine mv_istore (pc := 94) B d_Machine_opOf_94 (by decide) rfl ?_
              refine mv_iinc (pc := 96) (j := 2) (v := 1) B d_Machine_opOf_96 rfl (by decide) (by decide) rfl ?_
              refine mv_goto (pc := 99) (tgt := 27) B d_Machine_opOf_99 rfl ?_
              refine mv_lpick [0, 1, 3, 4, 5, 6] rfl ?_
              exact go
            · skip
              exact (op_dd (P := 48) (M := 512) (w := w9) (jj := jj) hUQ hT qd h76 heq ejj (by omega) ho.1 ho.2.1).elim
    intro jj q0 q1
    exact lp _ σ jj (-1) q0 (Or.inl ⟨rfl, fun i i1 i2 => absurd i2 (by omega)⟩) rfl hR (Nat.lt_succ_self _)
  refine mv_aload_n (pc := 0) B d_Machine_opOf_0 rfl 0 rfl ?_
  refine mv_getR (pc := 1) (ci := 9) (C := R_Machine) (T := F_Machine) (N := 13) B 0 rfl rfl (by decide) i_Machine (B.2.2.2.1 _ k_440) rfl hR.2.2 d_Machine_opOf_1 ?_
  refine mv_getR (pc := 4) (ci := 7) (C := R_Program) (T := F_Program) (N := 19) B 18 rfl rfl (by decide) i_Program (B.2.2.2.1 _ k_366) rfl (hR.2.1 _ 18 59 rfl) d_Machine_opOf_4 ?_
  refine mv_astore_n (pc := 7) B d_Machine_opOf_7 rfl (by decide) rfl ?_
  refine mv_aload_n (pc := 8) B d_Machine_opOf_8 rfl 0 rfl ?_
  refine mv_lload_n (pc := 9) B d_Machine_opOf_9 rfl 2 rfl ?_
  refine mv_callVi (pc := 10) (n := 1) (ci := 8) (C := R_Tree) B (mK_ok sk sv) hNs rfl rfl (c_kv_Tree_leafOf_b l hi _ _ hR.2.1 hT) rfl (ma_goodc kc_Tree_leafOf) (B.2.2.2.1 _ k_1564) (B.2.2.2.1 _ k_1565) (B.2.2.2.1 _ k_1566) (B.2.2.2.1 _ k_9) ⟨by decide +kernel, by decide +kernel, by decide +kernel⟩ rfl d_Machine_opOf_10 rfl (Nat.le_of_ble_eq_true rfl) ⟨by decide, by decide⟩ ⟨by decide, by decide⟩ ⟨by decide, by decide⟩ (mv_noH hno _) (fun v10 σ10 h10 => ?_)
  obtain ⟨e10, d10⟩ := h10
  have e10 := e10.symm
  subst e10
  refine mv_istore (pc := 13) B d_Machine_opOf_13 (by decide) rfl ?_
  refine mv_iconst (pc := 15) (v := -1) B d_Machine_opOf_15 (by decide) ?_
  refine mv_istore (pc := 16) B d_Machine_opOf_16 (by decide) rfl ?_
  refine mv_aload_n (pc := 18) B d_Machine_opOf_18 rfl 2 rfl ?_
  refine mv_getR (pc := 19) (ci := 8) (C := R_Tree) (T := F_Tree) (N := 5) B 2 rfl rfl (by decide) i_Tree (B.2.2.2.1 _ k_295) rfl (hR.2.1 _ 2 62 rfl) d_Machine_opOf_19 ?_
  refine mv_iload (pc := 22) B d_Machine_opOf_22 1 rfl ?_
  refine mv_iald (pc := 24) B rfl (i32_in d10.1.1.1 d10.1.1.2.1) d_Machine_opOf_24 ?_
  refine mv_istore (pc := 25) B d_Machine_opOf_25 (by decide) rfl ?_
  refine mv_lpick [0, 1, 2, 3, 4, 5] rfl ?_
  exact lq _ d10.1 d10.2 d10.1.1.1 d10.1.1.2.1 d10.1.1.2.2.1 d10.1.1.2.2.2.1 _ (Int.le_refl _) (Int.le_refl _)
set_option maxHeartbeats 4000000 in
set_option maxRecDepth 100000 in
theorem c_kv_Machine_opOf_c (l : Launch) {dA : FieldType → ClassId} {D : va_G} {al : Nat → Nat} {sk sv : Nat → Nat} (hi : mv_inj (mg dA D al me)) (σ : mv_H) (w9 : Int64) (hR : Rf 145 (mv_r σ)) (hT : TreeOK 145 48 σ) (hUQ : UQq 145 σ) : mv_C l y_Machine_opOf (Cond.code y_Machine_opOf b_Machine_opOf 8 (Option.some Jvm.ClassFile.FieldType.int) :: ma) ({ frames := 1, cells := 0, slots := 0, locals := 24 }) (mg dA D al me) (mK sk sv) [.ref (al 64), .long w9] σ (mv_Ri (fun v σ1 => σ1 = σ ∧ DCq 145 σ w9 v)) := by
  refine mv_C.ofV (cc := b_Machine_opOf) (nL := 8) (ret := (Option.some Jvm.ClassFile.FieldType.int)) (by decide +kernel) rfl hi (Nat.le_of_ble_eq_true rfl) ?_
  intro p e s m below meth c B hNs hr hnm hno
  have lq : ∀ (lf : Int32) (hLX : LfX 145 48 σ w9 lf) (hY : (mv_a σ 160 lf.toNatClampNeg).toInt ≤ (mv_i σ 145 10).toInt) (hl0 : 0 ≤ lf.toInt) (hl1 : lf.toInt < 97) (hl2 : 0 ≤ (mv_a σ 159 lf.toNatClampNeg).toInt) (hl3 : (mv_a σ 160 lf.toNatClampNeg).toInt ≤ 48), ∀ (jj : Int32) (q0 : (mv_a σ 159 lf.toNatClampNeg).toInt ≤ jj.toInt) (q1 : jj.toInt ≤ (mv_a σ 159 lf.toNatClampNeg).toInt), mv_V p l e ({ frames := 1, cells := 0, slots := 0, locals := 24 }) s m ([.ref (al 64), .long w9] : List Value).toArray below meth c (mg dA D al me) 8 0 0 (mv_Q (mg dA D al me) below s 0 0 (mv_Ri (fun v σ1 => σ1 = σ ∧ DCq 145 σ w9 v))) σ 27 [(6, .int jj), (5, .int (-1)), (4, .int lf), (3, .ref (al 156)), (0, .ref (al 64)), (1, .long w9)] [] := by
    intro lf hLX hY hl0 hl1 hl2 hl3
    obtain ⟨hL, hX⟩ := hLX
    have lp : ∀ (nn : Nat) (τ : mv_H) (jj : Int32) (fd : Int32) (q0 : (mv_a σ 159 lf.toNatClampNeg).toInt ≤ jj.toInt) (qd : FDq 145 σ w9 (mv_a σ 159 lf.toNatClampNeg).toInt fd jj) (qE : τ = σ) (qR : Rf 145 (mv_r τ)), (48 - jj.toInt).toNat < nn → mv_V p l e ({ frames := 1, cells := 0, slots := 0, locals := 24 }) s m ([.ref (al 64), .long w9] : List Value).toArray below meth c (mg dA D al me) 8 0 0 (mv_Q (mg dA D al me) below s 0 0 (mv_Ri (fun v σ1 => σ1 = σ ∧ DCq 145 σ w9 v))) τ 27 [(6, .int jj), (5, .int fd), (4, .int lf), (3, .ref (al 156)), (0, .ref (al 64)), (1, .long w9)] [] := by
      intro nn
      induction nn with
      | zero => intro τ jj fd q0 qd qE qR hm; exact absurd hm (Nat.not_lt_zero _)
      | succ nn ih =>
        intro τ jj fd q0 qd qE qR hm
        have qF : F12 σ τ := by rw [qE]; exact Fr.rf
        refine mv_iload (pc := 27) B d_Machine_opOf_27 0 rfl ?_
        refine mv_aload_n (pc := 29) B d_Machine_opOf_29 rfl 3 rfl ?_
        refine mv_getR (pc := 30) (ci := 8) (C := R_Tree) (T := F_Tree) (N := 5) B 3 rfl rfl (by decide) i_Tree (B.2.2.2.1 _ k_297) rfl (qR.2.1 _ 3 160 rfl) d_Machine_opOf_30 ?_
        refine mv_iload (pc := 33) B d_Machine_opOf_33 2 rfl ?_
        refine mv_iald (pc := 35) B rfl (i32_in (by omega) (by omega)) d_Machine_opOf_35 ?_
        refine mv_icmp_ge (pc := 36) (tgt := 102) B d_Machine_opOf_36 rfl (fun h36 => ?_) (fun h36 => ?_)
        · skip
          rw [Int32.le_iff_toInt_le] at h36
          have e15 : mv_a τ 160 = mv_a σ 160 := qF.2.1 _ (fun q => q)
          rw [e15] at h36
          have hD : DCq 145 σ w9 fd := by
            rcases qd with ⟨d1, d2⟩ | d1
            · refine Or.inl ⟨d1, fun a ha hm => ?_⟩
              obtain ⟨i, i1, i2, i3⟩ := hX a ha hm
              have i2 : (i : Int) < (mv_a σ 160 lf.toNatClampNeg).toInt := i2
              have i3 : (mv_a σ 157 i).toInt = (a : Int) := i3
              refine d2 i i1 (by omega) ?_
              have z9 := i32_cl (x := mv_a σ 157 i) (by omega)
              rw [show (mv_a σ 157 i).toNatClampNeg = a by omega]
              exact hm
            · exact Or.inr (d1.imp fun a h => h.1)
          refine mv_iload (pc := 102) B d_Machine_opOf_102 1 rfl ?_
          exact mv_iret (pc := 104) B hr rfl d_Machine_opOf_104 (Nat.le_refl _) (Nat.le_refl _) ⟨_, rfl, qE, hD⟩
        · skip
          rw [Int32.le_iff_toInt_le] at h36
          have e15 : mv_a τ 160 = mv_a σ 160 := qF.2.1 _ (fun q => q)
          have e12 : mv_a τ 157 = mv_a σ 157 := qF.2.1 _ (fun q => q)
          have e5 : mv_b τ 150 = mv_b σ 150 := qF.2.2.1 _ (fun q => q)
          have e6 : mv_b τ 151 = mv_b σ 151 := qF.2.2.1 _ (fun q => q)
          rw [e15] at h36
          have ejj := i32_cl (x := jj) (by omega)
          have ho := hL.2.2.2.2 jj.toNatClampNeg (show (mv_a σ 159 lf.toNatClampNeg).toInt ≤ _ by omega) (show _ < (mv_a σ 160 lf.toNatClampNeg).toInt by omega)
          have ho0 : 0 ≤ (mv_a τ 157 jj.toNatClampNeg).toInt := by rw [e12]; exact ho.1
          have ho1 : (mv_a τ 157 jj.toNatClampNeg).toInt < (mv_i σ 145 10).toInt := by rw [e12]; exact ho.2.1
          have ho2 := ho.2.2.1
          have w2 : (jj + 1).toInt = jj.toInt + 1 := i32_inc (by omega)
          refine mv_aload_n (pc := 39) B d_Machine_opOf_39 rfl 3 rfl ?_
          refine mv_getR (pc := 40) (ci := 8) (C := R_Tree) (T := F_Tree) (N := 5) B 0 rfl rfl (by decide) i_Tree (B.2.2.2.1 _ k_292) rfl (qR.2.1 _ 0 157 rfl) d_Machine_opOf_40 ?_
          refine mv_iload (pc := 43) B d_Machine_opOf_43 0 rfl ?_
          refine mv_iald (pc := 45) B rfl (i32_in (by omega) (by omega)) d_Machine_opOf_45 ?_
          refine mv_istore (pc := 46) B d_Machine_opOf_46 (by decide) rfl ?_
          refine mv_lload_n (pc := 48) B d_Machine_opOf_48 rfl 6 rfl ?_
          refine mv_aload_n (pc := 49) B d_Machine_opOf_49 rfl 5 rfl ?_
          refine mv_getR (pc := 50) (ci := 9) (C := R_Machine) (T := F_Machine) (N := 13) B 0 rfl rfl (by decide) i_Machine (B.2.2.2.1 _ k_440) rfl qR.2.2 d_Machine_opOf_50 ?_
          refine mv_getR (pc := 53) (ci := 7) (C := R_Program) (T := F_Program) (N := 19) B 11 rfl rfl (by decide) i_Program (B.2.2.2.1 _ k_350) rfl (qR.2.1 _ 11 150 rfl) d_Machine_opOf_53 ?_
          refine mv_iload (pc := 56) B d_Machine_opOf_56 0 rfl ?_
          refine mv_lald (pc := 58) B rfl (i32_in ho0 (by omega)) d_Machine_opOf_58 ?_
          refine mv_land (pc := 59) B d_Machine_opOf_59 ?_
          refine mv_aload_n (pc := 60) B d_Machine_opOf_60 rfl 5 rfl ?_
          refine mv_getR (pc := 61) (ci := 9) (C := R_Machine) (T := F_Machine) (N := 13) B 0 rfl rfl (by decide) i_Machine (B.2.2.2.1 _ k_440) rfl qR.2.2 d_Machine_opOf_61 ?_
          refine mv_getR (pc := 64) (ci := 7) (C := R_Program) (T := F_Program) (N := 19) B 12 rfl rfl (by decide) i_Program (B.2.2.2.1 _ k_353) rfl (qR.2.1 _ 12 151 rfl) d_Machine_opOf_64 ?_
          refine mv_iload (pc := 67) B d_Machine_opOf_67 0 rfl ?_
          refine mv_lald (pc := 69) B rfl (i32_in ho0 (by omega)) d_Machine_opOf_69 ?_
          refine mv_lcmp (pc := 70) B d_Machine_opOf_70 ?_
          refine mv_if_ne (pc := 71) (tgt := 96) B d_Machine_opOf_71 rfl (fun h71 => ?_) (fun h71 => ?_)
          · skip
            have hne : ¬ MtO 145 σ w9 (mv_a σ 157 jj.toNatClampNeg).toNatClampNeg := fun q => h71 (by rw [e12, e5, e6]; exact (lg_cmp_eq _ _).mpr q)
            have go := ih τ (jj + 1) fd (by omega) (qd.imp (fun d => ⟨d.1, fun i i1 i2 => (by
              rw [w2] at i2
              by_cases z9 : i = jj.toNatClampNeg
              · rw [z9]; exact hne
              · exact d.2 i i1 (by omega))⟩) (fun d => by obtain ⟨a, h1, i, i1, i2⟩ := d; exact ⟨a, h1, i, by omega, i2⟩)) qE qR (by omega)
            refine mv_iinc (pc := 96) (j := 1) (v := 1) B d_Machine_opOf_96 rfl (by decide) (by decide) rfl ?_
            refine mv_goto (pc := 99) (tgt := 27) B d_Machine_opOf_99 rfl ?_
            refine mv_lpick [0, 2, 3, 4, 5, 6] rfl ?_
            exact go
          · skip
            have heq : MtO 145 σ w9 (mv_a σ 157 jj.toNatClampNeg).toNatClampNeg := by
              rw [e12, e5, e6] at h71
              exact (lg_cmp_eq _ _).mp h71
            refine mv_iload (pc := 74) B d_Machine_opOf_74 2 rfl ?_
            refine mv_if_lt (pc := 76) (tgt := 92) B d_Machine_opOf_76 rfl (fun h76 => ?_) (fun h76 => ?_)
            · skip
              have go := ih τ (jj + 1) (mv_a τ 157 jj.toNatClampNeg) (by omega) (Or.inr ⟨(mv_a σ 157 jj.toNatClampNeg).toNatClampNeg, ⟨by have z9 := i32_cl (x := mv_a σ 157 jj.toNatClampNeg) ho.1; have z8 : (mv_a σ 157 jj.toNatClampNeg).toInt < (mv_i σ 145 10).toInt := ho.2.1; omega, by rw [e12]; exact nI_o2 (i32_cl (x := mv_a σ 157 jj.toNatClampNeg) ho.1).symm, heq⟩, jj.toNatClampNeg, by omega, by omega, (i32_cl (x := mv_a σ 157 jj.toNatClampNeg) ho.1).symm⟩) qE qR (by omega)
              refine mv_iload (pc := 92) B d_Machine_opOf_92 0 rfl ?_
              refine mv_istore (pc := 94) B d_Machine_opOf_94 (by decide) rfl ?_
              refine mv_iinc (pc := 96) (j := 2) (v := 1) B d_Machine_opOf_96 rfl (by decide) (by decide) rfl ?_
              refine mv_goto (pc := 99) (tgt := 27) B d_Machine_opOf_99 rfl ?_
              refine mv_lpick [0, 1, 3, 4, 5, 6] rfl ?_
              exact go
            · skip
              exact (op_dd (P := 145) (M := 48) (w := w9) (jj := jj) hUQ hT qd h76 heq ejj (by omega) ho.1 ho.2.1).elim
    intro jj q0 q1
    exact lp _ σ jj (-1) q0 (Or.inl ⟨rfl, fun i i1 i2 => absurd i2 (by omega)⟩) rfl hR (Nat.lt_succ_self _)
  refine mv_aload_n (pc := 0) B d_Machine_opOf_0 rfl 0 rfl ?_
  refine mv_getR (pc := 1) (ci := 9) (C := R_Machine) (T := F_Machine) (N := 13) B 0 rfl rfl (by decide) i_Machine (B.2.2.2.1 _ k_440) rfl hR.2.2 d_Machine_opOf_1 ?_
  refine mv_getR (pc := 4) (ci := 7) (C := R_Program) (T := F_Program) (N := 19) B 18 rfl rfl (by decide) i_Program (B.2.2.2.1 _ k_366) rfl (hR.2.1 _ 18 156 rfl) d_Machine_opOf_4 ?_
  refine mv_astore_n (pc := 7) B d_Machine_opOf_7 rfl (by decide) rfl ?_
  refine mv_aload_n (pc := 8) B d_Machine_opOf_8 rfl 0 rfl ?_
  refine mv_lload_n (pc := 9) B d_Machine_opOf_9 rfl 2 rfl ?_
  refine mv_callVi (pc := 10) (n := 1) (ci := 8) (C := R_Tree) B (mK_ok sk sv) hNs rfl rfl (c_kv_Tree_leafOf_c l hi _ _ hR.2.1 hT) rfl (ma_goodc kc_Tree_leafOf) (B.2.2.2.1 _ k_1564) (B.2.2.2.1 _ k_1565) (B.2.2.2.1 _ k_1566) (B.2.2.2.1 _ k_9) ⟨by decide +kernel, by decide +kernel, by decide +kernel⟩ rfl d_Machine_opOf_10 rfl (Nat.le_of_ble_eq_true rfl) ⟨by decide, by decide⟩ ⟨by decide, by decide⟩ ⟨by decide, by decide⟩ (mv_noH hno _) (fun v10 σ10 h10 => ?_)
  obtain ⟨e10, d10⟩ := h10
  have e10 := e10.symm
  subst e10
  refine mv_istore (pc := 13) B d_Machine_opOf_13 (by decide) rfl ?_
  refine mv_iconst (pc := 15) (v := -1) B d_Machine_opOf_15 (by decide) ?_
  refine mv_istore (pc := 16) B d_Machine_opOf_16 (by decide) rfl ?_
  refine mv_aload_n (pc := 18) B d_Machine_opOf_18 rfl 2 rfl ?_
  refine mv_getR (pc := 19) (ci := 8) (C := R_Tree) (T := F_Tree) (N := 5) B 2 rfl rfl (by decide) i_Tree (B.2.2.2.1 _ k_295) rfl (hR.2.1 _ 2 159 rfl) d_Machine_opOf_19 ?_
  refine mv_iload (pc := 22) B d_Machine_opOf_22 1 rfl ?_
  refine mv_iald (pc := 24) B rfl (i32_in d10.1.1.1 d10.1.1.2.1) d_Machine_opOf_24 ?_
  refine mv_istore (pc := 25) B d_Machine_opOf_25 (by decide) rfl ?_
  refine mv_lpick [0, 1, 2, 3, 4, 5] rfl ?_
  exact lq _ d10.1 d10.2 d10.1.1.1 d10.1.1.2.1 d10.1.1.2.2.1 d10.1.1.2.2.2.1 _ (Int.le_refl _) (Int.le_refl _)
set_option maxHeartbeats 4000000 in
set_option maxRecDepth 100000 in
theorem c_kv_Loom_decode_a (l : Launch) {dA : FieldType → ClassId} {D : va_G} {al : Nat → Nat} {ext : mv_Sh} {sk sv : Nat → Nat} (hi : mv_inj (mg dA D al ext)) (σ : mv_H) (w9 : Int64) (hR : Rf 32 (mv_r σ)) (hT : TreeOK 32 512 σ) (hUQ : UQq 32 σ) : mv_C l y_Loom_decode (Cond.code y_Loom_decode b_Loom_decode 3 (Option.some Jvm.ClassFile.FieldType.int) :: ma) ({ frames := 2, cells := 0, slots := 0, locals := 51 }) (mg dA D al ext) (mK sk sv) [.ref (al 0), .long w9] σ (mv_Ri (fun v σ1 => σ1 = σ ∧ DCq 32 σ w9 v)) := by
  refine mv_C.ofV (cc := b_Loom_decode) (nL := 3) (ret := (Option.some Jvm.ClassFile.FieldType.int)) (by decide +kernel) rfl hi (Nat.le_of_ble_eq_true rfl) ?_
  intro p e s m below meth c B hNs hr hnm hno
  refine mv_aload_n (pc := 0) B d_Loom_decode_0 rfl 0 rfl ?_
  refine mv_getR (pc := 1) (ci := 0) (C := R_Loom) (T := F_Loom) (N := 10) B 9 rfl rfl (by decide) i_Loom (B.2.2.2.1 _ k_495) rfl (hR.1 _ 9 _ rfl) d_Loom_decode_1 ?_
  refine mv_lload_n (pc := 4) B d_Loom_decode_4 rfl 1 rfl ?_
  refine mv_callVi (pc := 5) (n := 1) (ci := 9) (C := R_Machine) B (mK_ok sk sv) hNs rfl rfl (c_kv_Machine_opOf_a l hi _ _ hR hT hUQ) rfl (ma_goodc kc_Machine_opOf) (B.2.2.2.1 _ k_1560) (B.2.2.2.1 _ k_1561) (B.2.2.2.1 _ k_1562) (B.2.2.2.1 _ k_11) ⟨by decide +kernel, by decide +kernel, by decide +kernel⟩ rfl d_Loom_decode_5 rfl (Nat.le_of_ble_eq_true rfl) ⟨by decide, by decide⟩ ⟨by decide, by decide⟩ ⟨by decide, by decide⟩ (mv_noH hno _) (fun v5 σ5 h5 => ?_)
  exact mv_iret (pc := 8) B hr rfl d_Loom_decode_8 (Nat.le_refl _) (Nat.le_refl _) ⟨_, rfl, h5⟩
set_option maxHeartbeats 4000000 in
set_option maxRecDepth 100000 in
theorem c_kv_Loom_decode_b (l : Launch) {dA : FieldType → ClassId} {D : va_G} {al : Nat → Nat} {ext : mv_Sh} {sk sv : Nat → Nat} (hi : mv_inj (mg dA D al ext)) (σ : mv_H) (w9 : Int64) (hR : Rf 48 (mv_r σ)) (hT : TreeOK 48 512 σ) (hUQ : UQq 48 σ) : mv_C l y_Loom_decode (Cond.code y_Loom_decode b_Loom_decode 3 (Option.some Jvm.ClassFile.FieldType.int) :: ma) ({ frames := 2, cells := 0, slots := 0, locals := 51 }) (mg dA D al ext) (mK sk sv) [.ref (al 0), .long w9] σ (mv_Ri (fun v σ1 => σ1 = σ ∧ DCq 48 σ w9 v)) := by
  refine mv_C.ofV (cc := b_Loom_decode) (nL := 3) (ret := (Option.some Jvm.ClassFile.FieldType.int)) (by decide +kernel) rfl hi (Nat.le_of_ble_eq_true rfl) ?_
  intro p e s m below meth c B hNs hr hnm hno
  refine mv_aload_n (pc := 0) B d_Loom_decode_0 rfl 0 rfl ?_
  refine mv_getR (pc := 1) (ci := 0) (C := R_Loom) (T := F_Loom) (N := 10) B 9 rfl rfl (by decide) i_Loom (B.2.2.2.1 _ k_495) rfl (hR.1 _ 9 _ rfl) d_Loom_decode_1 ?_
  refine mv_lload_n (pc := 4) B d_Loom_decode_4 rfl 1 rfl ?_
  refine mv_callVi (pc := 5) (n := 1) (ci := 9) (C := R_Machine) B (mK_ok sk sv) hNs rfl rfl (c_kv_Machine_opOf_b l hi _ _ hR hT hUQ) rfl (ma_goodc kc_Machine_opOf) (B.2.2.2.1 _ k_1560) (B.2.2.2.1 _ k_1561) (B.2.2.2.1 _ k_1562) (B.2.2.2.1 _ k_11) ⟨by decide +kernel, by decide +kernel, by decide +kernel⟩ rfl d_Loom_decode_5 rfl (Nat.le_of_ble_eq_true rfl) ⟨by decide, by decide⟩ ⟨by decide, by decide⟩ ⟨by decide, by decide⟩ (mv_noH hno _) (fun v5 σ5 h5 => ?_)
  exact mv_iret (pc := 8) B hr rfl d_Loom_decode_8 (Nat.le_refl _) (Nat.le_refl _) ⟨_, rfl, h5⟩
set_option maxHeartbeats 4000000 in
set_option maxRecDepth 100000 in
theorem c_kv_Loom_decode_c (l : Launch) {dA : FieldType → ClassId} {D : va_G} {al : Nat → Nat} {sk sv : Nat → Nat} (hi : mv_inj (mg dA D al me)) (σ : mv_H) (w9 : Int64) (hR : Rf 145 (mv_r σ)) (hT : TreeOK 145 48 σ) (hUQ : UQq 145 σ) : mv_C l y_Loom_decode (Cond.code y_Loom_decode b_Loom_decode 3 (Option.some Jvm.ClassFile.FieldType.int) :: ma) ({ frames := 2, cells := 0, slots := 0, locals := 51 }) (mg dA D al me) (mK sk sv) [.ref (al 0), .long w9] σ (mv_Ri (fun v σ1 => σ1 = σ ∧ DCq 145 σ w9 v)) := by
  refine mv_C.ofV (cc := b_Loom_decode) (nL := 3) (ret := (Option.some Jvm.ClassFile.FieldType.int)) (by decide +kernel) rfl hi (Nat.le_of_ble_eq_true rfl) ?_
  intro p e s m below meth c B hNs hr hnm hno
  refine mv_aload_n (pc := 0) B d_Loom_decode_0 rfl 0 rfl ?_
  refine mv_getR (pc := 1) (ci := 0) (C := R_Loom) (T := F_Loom) (N := 10) B 9 rfl rfl (by decide) i_Loom (B.2.2.2.1 _ k_495) rfl (hR.1 _ 9 _ rfl) d_Loom_decode_1 ?_
  refine mv_lload_n (pc := 4) B d_Loom_decode_4 rfl 1 rfl ?_
  refine mv_callVi (pc := 5) (n := 1) (ci := 9) (C := R_Machine) B (mK_ok sk sv) hNs rfl rfl (c_kv_Machine_opOf_c l hi _ _ hR hT hUQ) rfl (ma_goodc kc_Machine_opOf) (B.2.2.2.1 _ k_1560) (B.2.2.2.1 _ k_1561) (B.2.2.2.1 _ k_1562) (B.2.2.2.1 _ k_11) ⟨by decide +kernel, by decide +kernel, by decide +kernel⟩ rfl d_Loom_decode_5 rfl (Nat.le_of_ble_eq_true rfl) ⟨by decide, by decide⟩ ⟨by decide, by decide⟩ ⟨by decide, by decide⟩ (mv_noH hno _) (fun v5 σ5 h5 => ?_)
  exact mv_iret (pc := 8) B hr rfl d_Loom_decode_8 (Nat.le_refl _) (Nat.le_refl _) ⟨_, rfl, h5⟩
