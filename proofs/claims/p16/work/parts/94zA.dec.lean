/-! decode, exactly -/
/-- the word has op a's code -/
def MtO (P : Nat) (σ : mv_H) (w : Int64) (a : Nat) : Prop := w &&& mv_b σ (P + 5) a = mv_b σ (P + 6) a
/-- every op that the word matches belongs to node j -/
def LfS (K V : Nat → Int64) (w : Int64) (ops : Nat) (S : Nat → Nat → Prop) (j : Nat) : Prop := ∀ a, a < ops → w &&& K a = V a → S j a
theorem LfS.cd {K V : Nat → Int64} {w : Int64} {ops j b c d : Nat} {S : Nat → Nat → Prop} (h : LfS K V w ops S j) (hs : ∀ a, S j a → (K a).toBitVec.getLsbD b = true ∧ ((V a).toBitVec.getLsbD b = false → S c a) ∧ ((V a).toBitVec.getLsbD b = true → S d a)) : (w.toBitVec.getLsbD b = false → LfS K V w ops S c) ∧ (w.toBitVec.getLsbD b = true → LfS K V w ops S d) := by
  have key : ∀ a, w &&& K a = V a → (K a).toBitVec.getLsbD b = true → (V a).toBitVec.getLsbD b = w.toBitVec.getLsbD b := fun a e k => by
    rw [← e, Int64.toBitVec_and, BitVec.getLsbD_and, k, Bool.and_true]
  exact ⟨fun z a q e => (hs a (h a q e)).2.1 (by rw [key a e (hs a (h a q e)).1]; exact z), fun z a q e => (hs a (h a q e)).2.2 (by rw [key a e (hs a (h a q e)).1]; exact z)⟩
/-- the leaf, and what it has of the word -/
def LfX (P M : Nat) (σ : mv_H) (w : Int64) (v : Int32) : Prop := LeafOK P M σ v ∧ ∀ a : Nat, (a : Int) < (mv_i σ P 10).toInt → MtO P σ w a → ∃ i : Nat, (mv_a σ (P + 14) v.toNatClampNeg).toInt ≤ i ∧ (i : Int) < (mv_a σ (P + 15) v.toNatClampNeg).toInt ∧ (mv_a σ (P + 12) i).toInt = a
/-- what decode answers: the class -/
def DCq (P : Nat) (σ : mv_H) (w : Int64) (v : Int32) : Prop := (v = -1 ∧ ∀ a : Nat, (a : Int) < (mv_i σ P 10).toInt → ¬ MtO P σ w a) ∨ ∃ a : Nat, (a : Int) < (mv_i σ P 10).toInt ∧ v = nI a ∧ MtO P σ w a
/-! the reference -/
def FT1 (r : Nat → Int32) (c L : Nat) (w : Int64) (i : Nat) : Prop := (r (c + i) = 48 → w.toBitVec.getLsbD (L - 1 - i) = false) ∧ (r (c + i) = 49 → w.toBitVec.getLsbD (L - 1 - i) = true)
def FTo (B : Nat) (σ : mv_H) (w : Int64) (a : Nat) : Prop := ∀ i, i < (mv_i σ B 20).toNatClampNeg → FT1 (mv_a σ (B + 13)) (mv_a σ (B + 10) a).toNatClampNeg (mv_i σ B 20).toNatClampNeg w i
theorem ftS {r : Nat → Int32} {c L k k' : Nat} {w : Int64} (hn : ∀ i, i < k → FT1 r c L w i) (hk : k' = k + 1) (h : FT1 r c L w k) : ∀ i, i < k' → FT1 r c L w i := fun i hi => by
  by_cases e : i = k
  · rw [e]; exact h
  · exact hn i (by omega)
theorem us_v (w : Int64) {k : Nat} (hk : k < 64) : us w (Int32.ofNat k) &&& 1 = if w.toBitVec.getLsbD k = true then 1 else 0 := by
  by_cases z : w.toBitVec.getLsbD k = true
  · rw [if_pos z]
    apply Int64.toBitVec_inj.mp
    apply BitVec.eq_of_getLsbD_eq
    intro i hi
    have e1 : Int64.toBitVec 1 = BitVec.twoPow 64 0 := by decide
    rw [Int64.toBitVec_and, us_bv w hk, BitVec.getLsbD_and, e1, BitVec.getLsbD_twoPow, BitVec.getLsbD_ushiftRight]
    by_cases y : i = 0
    · subst y; rw [Nat.add_zero, z] <;> rfl
    · rw [show decide (0 = i) = false from decide_eq_false (fun q => y q.symm), Bool.and_false, Bool.and_false]
  · rw [if_neg z]
    exact (us_bit w k hk).mpr (Bool.eq_false_iff.mpr z)
theorem ft_c {w : Int64} {n x : Int32} {q : Nat} (h0 : n.toInt = (q : Int)) (h1 : q < 64) : (lg_cmp ((x - 48).toInt64) ((w.toUInt64 >>> (n.toInt64.toUInt64 &&& Int64.toUInt64 63)).toInt64 &&& 1) = 0 → (x = 48 → w.toBitVec.getLsbD q = false) ∧ (x = 49 → w.toBitVec.getLsbD q = true)) ∧ (¬ lg_cmp ((x - 48).toInt64) ((w.toUInt64 >>> (n.toInt64.toUInt64 &&& Int64.toUInt64 63)).toInt64 &&& 1) = 0 → (x = 48 ∨ x = 49) → ¬ ((x = 48 → w.toBitVec.getLsbD q = false) ∧ (x = 49 → w.toBitVec.getLsbD q = true))) := by
  have en : n = Int32.ofNat q := nI_o2 h0
  have e : (w.toUInt64 >>> (n.toInt64.toUInt64 &&& Int64.toUInt64 63)).toInt64 &&& 1 = if w.toBitVec.getLsbD q = true then 1 else 0 := by
    rw [en]
    exact us_v w h1
  rw [e, lg_cmp_eq]
  have d0 : ((48 : Int32) - 48).toInt64 = 0 := by decide
  have d1 : ((49 : Int32) - 48).toInt64 = 1 := by decide
  by_cases z : w.toBitVec.getLsbD q = true
  · rw [if_pos z]
    refine ⟨fun h => ⟨fun hx => ?_, fun _ => z⟩, fun h hx c => ?_⟩
    · rw [hx, d0] at h
      exact absurd h (by decide)
    · rcases hx with hx | hx
      · have := c.1 hx
        rw [z] at this
        cases this
      · rw [hx, d1] at h
        exact h rfl
  · rw [if_neg z]
    have z' := Bool.eq_false_iff.mpr z
    refine ⟨fun h => ⟨fun _ => z', fun hx => ?_⟩, fun h hx c => ?_⟩
    · rw [hx, d1] at h
      exact absurd h (by decide)
    · rcases hx with hx | hx
      · rw [hx, d0] at h
        exact h rfl
      · exact z (c.2 hx)
def DRq (B : Nat) (σ : mv_H) (w : Int64) (v : Int32) : Prop := (v = -1 ∧ ∀ a : Nat, (a : Int) < (mv_i σ B 29).toInt → ¬ FTo B σ w a) ∨ ∃ a : Nat, (a : Int) < (mv_i σ B 29).toInt ∧ v = nI a ∧ FTo B σ w a

set_option maxHeartbeats 4000000 in
set_option maxRecDepth 100000 in
theorem c_kd_Tree_leafOf_a (l : Launch) {dA : FieldType → ClassId} {D : va_G} {al : Nat → Nat} {ext : mv_Sh} {sk sv : Nat → Nat} (hi : mv_inj (mg dA D al ext)) (σ : mv_H) (w9 : Int64) (hq : Ph 32 (mv_r σ)) (hT : TreeOK 32 512 σ) : mv_C l y_Tree_leafOf (Cond.code y_Tree_leafOf b_Tree_leafOf 5 (Option.some Jvm.ClassFile.FieldType.int) :: ma) ({ frames := 0, cells := 0, slots := 0, locals := 0 }) (mg dA D al ext) (mK sk sv) [.ref (al 43), .long w9] σ (mv_Ri (fun v σ1 => σ1 = σ ∧ LfX 32 512 σ w9 v)) := by
  refine mv_C.ofV (cc := b_Tree_leafOf) (nL := 5) (ret := (Option.some Jvm.ClassFile.FieldType.int)) (by decide +kernel) rfl hi (Nat.le_of_ble_eq_true rfl) ?_
  intro p e s m below meth c B hNs hr hnm hno
  have hT9 := hT
  obtain ⟨ops, n, dq, h1, h2, h3, h4, h5, h6⟩ := hT
  obtain ⟨S, hs⟩ := h3.2
  have lp : ∀ (nn : Nat) (t9 : Int32) (v : Int32) (j : Nat) (qt : 0 ≤ t9.toInt) (qt2 : t9.toInt ≤ 65) (qj : v.toInt = j) (qn : j < n) (qd : t9.toInt ≤ dq j) (qS : LfS (mv_b σ 37) (mv_b σ 38) w9 ops S j), (65 - t9.toInt).toNat < nn → mv_V p l e ({ frames := 0, cells := 0, slots := 0, locals := 0 }) s m ([.ref (al 43), .long w9] : List Value).toArray below meth c (mg dA D al ext) 5 0 0 (mv_Q (mg dA D al ext) below s 0 0 (mv_Ri (fun v σ1 => σ1 = σ ∧ LfX 32 512 σ w9 v))) σ 5 [(4, .int t9), (3, .int v), (0, .ref (al 43)), (1, .long w9)] [] := by
    intro nn
    induction nn with
    | zero => intro t9 v j qt qt2 qj qn qd qS hm; exact absurd hm (Nat.not_lt_zero _)
    | succ nn ih =>
      intro t9 v j qt qt2 qj qn qd qS hm
      refine mv_iload (pc := 5) B d_Tree_leafOf_5 0 rfl ?_
      refine mv_bipush (pc := 7) (v := 64) B d_Tree_leafOf_7 (by decide) ?_
      refine mv_icmp_gt (pc := 9) (tgt := 59) B d_Tree_leafOf_9 rfl (fun h9 => ?_) (fun h9 => ?_)
      · skip
        exact absurd (show (64 : Int) < t9.toInt from Int32.lt_iff_toInt_lt.mp h9) (by have z9 := (h6 j qn).1; omega)
      · skip
        rw [Int32.lt_iff_toInt_lt] at h9
        simp only [Int32.reduceToInt] at h9
        have evv := i32_cl (x := v) (by omega)
        have zj : v.toNatClampNeg = j := by omega
        have hjM : j < 1025 := by omega
        refine mv_aload_n (pc := 12) B d_Tree_leafOf_12 rfl 2 rfl ?_
        refine mv_getR (pc := 13) (ci := 8) (C := R_Tree) (T := F_Tree) (N := 5) B 1 rfl rfl (by decide) i_Tree (B.2.2.2.1 _ k_293) rfl (hq _ 1 45 rfl) d_Tree_leafOf_13 ?_
        refine mv_iload_n (pc := 16) B d_Tree_leafOf_16 rfl 1 rfl ?_
        refine mv_iald (pc := 17) B rfl (i32_in (by omega) (by omega)) d_Tree_leafOf_17 ?_
        refine mv_iconst (pc := 18) (v := -1) B d_Tree_leafOf_18 (by decide) ?_
        refine mv_icmp_eq (pc := 19) (tgt := 59) B d_Tree_leafOf_19 rfl (fun h19 => ?_) (fun h19 => ?_)
        · skip
          have hv : LfX 32 512 σ w9 v := ⟨leaf_t (P := 32) (M := 512) (j := j) (t := 0) ⟨ops, n, dq, h1, h2, h3, h4, h5, h6, qn, by omega⟩ qj (by rw [← zj]; exact h19), fun a ha hm => by
            rw [zj]
            exact hs.2.1 j qn (by rw [← zj]; exact h19) a (qS a (by omega) hm)⟩
          refine mv_iload_n (pc := 59) B d_Tree_leafOf_59 rfl 1 rfl ?_
          exact mv_iret (pc := 60) B hr rfl d_Tree_leafOf_60 (Nat.le_refl _) (Nat.le_refl _) ⟨_, rfl, rfl, hv⟩
        · skip
          have w2 : (t9 + 1).toInt = t9.toInt + 1 := i32_inc (by omega)
          obtain ⟨b, c, d, hb, eb, e14, e15, hc, hd, hstep⟩ := hs.2.2.1 j qn (by rw [← zj]; exact h19)
          have eb2 : mv_a σ 45 v.toNatClampNeg = Int32.ofNat b := by rw [zj]; exact eb
          have hdq : dq c = dq j + 1 ∧ dq d = dq j + 1 := by
            rcases (h6 j qn).2 with ⟨q1, -⟩ | ⟨-, c2, d2, q1, q2, q3, q4, q5, q6⟩
            · exact absurd q1 (by rw [← zj]; exact h19)
            · have y1 : c2 = c := by omega
              have y2 : d2 = d := by omega
              rw [← y1, ← y2]
              exact ⟨q5, q6⟩
          refine mv_lload_n (pc := 22) B d_Tree_leafOf_22 rfl 3 rfl ?_
          refine mv_aload_n (pc := 23) B d_Tree_leafOf_23 rfl 2 rfl ?_
          refine mv_getR (pc := 24) (ci := 8) (C := R_Tree) (T := F_Tree) (N := 5) B 1 rfl rfl (by decide) i_Tree (B.2.2.2.1 _ k_293) rfl (hq _ 1 45 rfl) d_Tree_leafOf_24 ?_
          refine mv_iload_n (pc := 27) B d_Tree_leafOf_27 rfl 1 rfl ?_
          refine mv_iald (pc := 28) B rfl (i32_in (by omega) (by omega)) d_Tree_leafOf_28 ?_
          refine mv_lushr (pc := 29) B d_Tree_leafOf_29 ?_
          refine mv_lconst (pc := 30) (v := 1) B d_Tree_leafOf_30 (by decide) ?_
          refine mv_land (pc := 31) B d_Tree_leafOf_31 ?_
          refine mv_lconst (pc := 32) (v := 0) B d_Tree_leafOf_32 (by decide) ?_
          refine mv_lcmp (pc := 33) B d_Tree_leafOf_33 ?_
          refine mv_if_ne (pc := 34) (tgt := 46) B d_Tree_leafOf_34 rfl (fun h34 => ?_) (fun h34 => ?_)
          · skip
            rw [eb2] at h34
            have hw : w9.toBitVec.getLsbD b = true := by
              have h1 : ¬ _ = false := fun q => h34 ((lg_cmp_eq _ _).mpr ((us_bit w9 b hb).mpr q))
              exact (Bool.not_eq_false _).mp h1
            have go := ih (t9 + 1) (mv_a σ 47 v.toNatClampNeg) d (by rw [w2]; omega) (by rw [w2]; omega) (by rw [zj]; exact e15) hd (by rw [w2]; have := hdq.2; omega) ((qS.cd hstep).2 hw) (by rw [w2]; omega)
            refine mv_aload_n (pc := 46) B d_Tree_leafOf_46 rfl 2 rfl ?_
            refine mv_getR (pc := 47) (ci := 8) (C := R_Tree) (T := F_Tree) (N := 5) B 3 rfl rfl (by decide) i_Tree (B.2.2.2.1 _ k_296) rfl (hq _ 3 47 rfl) d_Tree_leafOf_47 ?_
            refine mv_iload_n (pc := 50) B d_Tree_leafOf_50 rfl 1 rfl ?_
            refine mv_iald (pc := 51) B rfl (i32_in (by omega) (by omega)) d_Tree_leafOf_51 ?_
            refine mv_istore_n (pc := 52) B d_Tree_leafOf_52 rfl (by decide) rfl ?_
            refine mv_iinc (pc := 53) (j := 1) (v := 1) B d_Tree_leafOf_53 rfl (by decide) (by decide) rfl ?_
            refine mv_goto (pc := 56) (tgt := 5) B d_Tree_leafOf_56 rfl ?_
            refine mv_lpick [0, 1, 2, 3] rfl ?_
            exact go
          · skip
            rw [eb2] at h34
            have hw : w9.toBitVec.getLsbD b = false := (us_bit w9 b hb).mp ((lg_cmp_eq _ _).mp h34)
            have go := ih (t9 + 1) (mv_a σ 46 v.toNatClampNeg) c (by rw [w2]; omega) (by rw [w2]; omega) (by rw [zj]; exact e14) hc (by rw [w2]; have := hdq.1; omega) ((qS.cd hstep).1 hw) (by rw [w2]; omega)
            refine mv_aload_n (pc := 37) B d_Tree_leafOf_37 rfl 2 rfl ?_
            refine mv_getR (pc := 38) (ci := 8) (C := R_Tree) (T := F_Tree) (N := 5) B 2 rfl rfl (by decide) i_Tree (B.2.2.2.1 _ k_294) rfl (hq _ 2 46 rfl) d_Tree_leafOf_38 ?_
            refine mv_iload_n (pc := 41) B d_Tree_leafOf_41 rfl 1 rfl ?_
            refine mv_iald (pc := 42) B rfl (i32_in (by omega) (by omega)) d_Tree_leafOf_42 ?_
            refine mv_goto (pc := 43) (tgt := 52) B d_Tree_leafOf_43 rfl ?_
            refine mv_istore_n (pc := 52) B d_Tree_leafOf_52 rfl (by decide) rfl ?_
            refine mv_iinc (pc := 53) (j := 1) (v := 1) B d_Tree_leafOf_53 rfl (by decide) (by decide) rfl ?_
            refine mv_goto (pc := 56) (tgt := 5) B d_Tree_leafOf_56 rfl ?_
            refine mv_lpick [0, 1, 2, 3] rfl ?_
            exact go
  refine mv_iconst (pc := 0) (v := 0) B d_Tree_leafOf_0 (by decide) ?_
  refine mv_istore_n (pc := 1) B d_Tree_leafOf_1 rfl (by decide) rfl ?_
  refine mv_iconst (pc := 2) (v := 0) B d_Tree_leafOf_2 (by decide) ?_
  refine mv_istore (pc := 3) B d_Tree_leafOf_3 (by decide) rfl ?_
  refine mv_lpick [0, 1, 2, 3] rfl ?_
  exact lp _ _ _ 0 (by decide) (by decide) rfl (by omega) (by show (0 : Int) ≤ dq 0; omega) (fun a ha _ => hs.1 a ha) (Nat.lt_succ_self _)
set_option maxHeartbeats 4000000 in
set_option maxRecDepth 100000 in
theorem c_kd_Tree_leafOf_b (l : Launch) {dA : FieldType → ClassId} {D : va_G} {al : Nat → Nat} {ext : mv_Sh} {sk sv : Nat → Nat} (hi : mv_inj (mg dA D al ext)) (σ : mv_H) (w9 : Int64) (hq : Ph 48 (mv_r σ)) (hT : TreeOK 48 512 σ) : mv_C l y_Tree_leafOf (Cond.code y_Tree_leafOf b_Tree_leafOf 5 (Option.some Jvm.ClassFile.FieldType.int) :: ma) ({ frames := 0, cells := 0, slots := 0, locals := 0 }) (mg dA D al ext) (mK sk sv) [.ref (al 59), .long w9] σ (mv_Ri (fun v σ1 => σ1 = σ ∧ LfX 48 512 σ w9 v)) := by
  refine mv_C.ofV (cc := b_Tree_leafOf) (nL := 5) (ret := (Option.some Jvm.ClassFile.FieldType.int)) (by decide +kernel) rfl hi (Nat.le_of_ble_eq_true rfl) ?_
  intro p e s m below meth c B hNs hr hnm hno
  have hT9 := hT
  obtain ⟨ops, n, dq, h1, h2, h3, h4, h5, h6⟩ := hT
  obtain ⟨S, hs⟩ := h3.2
  have lp : ∀ (nn : Nat) (t9 : Int32) (v : Int32) (j : Nat) (qt : 0 ≤ t9.toInt) (qt2 : t9.toInt ≤ 65) (qj : v.toInt = j) (qn : j < n) (qd : t9.toInt ≤ dq j) (qS : LfS (mv_b σ 53) (mv_b σ 54) w9 ops S j), (65 - t9.toInt).toNat < nn → mv_V p l e ({ frames := 0, cells := 0, slots := 0, locals := 0 }) s m ([.ref (al 59), .long w9] : List Value).toArray below meth c (mg dA D al ext) 5 0 0 (mv_Q (mg dA D al ext) below s 0 0 (mv_Ri (fun v σ1 => σ1 = σ ∧ LfX 48 512 σ w9 v))) σ 5 [(4, .int t9), (3, .int v), (0, .ref (al 59)), (1, .long w9)] [] := by
    intro nn
    induction nn with
    | zero => intro t9 v j qt qt2 qj qn qd qS hm; exact absurd hm (Nat.not_lt_zero _)
    | succ nn ih =>
      intro t9 v j qt qt2 qj qn qd qS hm
      refine mv_iload (pc := 5) B d_Tree_leafOf_5 0 rfl ?_
      refine mv_bipush (pc := 7) (v := 64) B d_Tree_leafOf_7 (by decide) ?_
      refine mv_icmp_gt (pc := 9) (tgt := 59) B d_Tree_leafOf_9 rfl (fun h9 => ?_) (fun h9 => ?_)
      · skip
        exact absurd (show (64 : Int) < t9.toInt from Int32.lt_iff_toInt_lt.mp h9) (by have z9 := (h6 j qn).1; omega)
      · skip
        rw [Int32.lt_iff_toInt_lt] at h9
        simp only [Int32.reduceToInt] at h9
        have evv := i32_cl (x := v) (by omega)
        have zj : v.toNatClampNeg = j := by omega
        have hjM : j < 1025 := by omega
        refine mv_aload_n (pc := 12) B d_Tree_leafOf_12 rfl 2 rfl ?_
        refine mv_getR (pc := 13) (ci := 8) (C := R_Tree) (T := F_Tree) (N := 5) B 1 rfl rfl (by decide) i_Tree (B.2.2.2.1 _ k_293) rfl (hq _ 1 61 rfl) d_Tree_leafOf_13 ?_
        refine mv_iload_n (pc := 16) B d_Tree_leafOf_16 rfl 1 rfl ?_
        refine mv_iald (pc := 17) B rfl (i32_in (by omega) (by omega)) d_Tree_leafOf_17 ?_
        refine mv_iconst (pc := 18) (v := -1) B d_Tree_leafOf_18 (by decide) ?_
        refine mv_icmp_eq (pc := 19) (tgt := 59) B d_Tree_leafOf_19 rfl (fun h19 => ?_) (fun h19 => ?_)
        · skip
          have hv : LfX 48 512 σ w9 v := ⟨leaf_t (P := 48) (M := 512) (j := j) (t := 0) ⟨ops, n, dq, h1, h2, h3, h4, h5, h6, qn, by omega⟩ qj (by rw [← zj]; exact h19), fun a ha hm => by
            rw [zj]
            exact hs.2.1 j qn (by rw [← zj]; exact h19) a (qS a (by omega) hm)⟩
          refine mv_iload_n (pc := 59) B d_Tree_leafOf_59 rfl 1 rfl ?_
          exact mv_iret (pc := 60) B hr rfl d_Tree_leafOf_60 (Nat.le_refl _) (Nat.le_refl _) ⟨_, rfl, rfl, hv⟩
        · skip
          have w2 : (t9 + 1).toInt = t9.toInt + 1 := i32_inc (by omega)
          obtain ⟨b, c, d, hb, eb, e14, e15, hc, hd, hstep⟩ := hs.2.2.1 j qn (by rw [← zj]; exact h19)
          have eb2 : mv_a σ 61 v.toNatClampNeg = Int32.ofNat b := by rw [zj]; exact eb
          have hdq : dq c = dq j + 1 ∧ dq d = dq j + 1 := by
            rcases (h6 j qn).2 with ⟨q1, -⟩ | ⟨-, c2, d2, q1, q2, q3, q4, q5, q6⟩
            · exact absurd q1 (by rw [← zj]; exact h19)
            · have y1 : c2 = c := by omega
              have y2 : d2 = d := by omega
              rw [← y1, ← y2]
              exact ⟨q5, q6⟩
          refine mv_lload_n (pc := 22) B d_Tree_leafOf_22 rfl 3 rfl ?_
          refine mv_aload_n (pc := 23) B d_Tree_leafOf_23 rfl 2 rfl ?_
          refine mv_getR (pc := 24) (ci := 8) (C := R_Tree) (T := F_Tree) (N := 5) B 1 rfl rfl (by decide) i_Tree (B.2.2.2.1 _ k_293) rfl (hq _ 1 61 rfl) d_Tree_leafOf_24 ?_
          refine mv_iload_n (pc := 27) B d_Tree_leafOf_27 rfl 1 rfl ?_
          refine mv_iald (pc := 28) B rfl (i32_in (by omega) (by omega)) d_Tree_leafOf_28 ?_
          refine mv_lushr (pc := 29) B d_Tree_leafOf_29 ?_
          refine mv_lconst (pc := 30) (v := 1) B d_Tree_leafOf_30 (by decide) ?_
          refine mv_land (pc := 31) B d_Tree_leafOf_31 ?_
          refine mv_lconst (pc := 32) (v := 0) B d_Tree_leafOf_32 (by decide) ?_
          refine mv_lcmp (pc := 33) B d_Tree_leafOf_33 ?_
          refine mv_if_ne (pc := 34) (tgt := 46) B d_Tree_leafOf_34 rfl (fun h34 => ?_) (fun h34 => ?_)
          · skip
            rw [eb2] at h34
            have hw : w9.toBitVec.getLsbD b = true := by
              have h1 : ¬ _ = false := fun q => h34 ((lg_cmp_eq _ _).mpr ((us_bit w9 b hb).mpr q))
              exact (Bool.not_eq_false _).mp h1
            have go := ih (t9 + 1) (mv_a σ 63 v.toNatClampNeg) d (by rw [w2]; omega) (by rw [w2]; omega) (by rw [zj]; exact e15) hd (by rw [w2]; have := hdq.2; omega) ((qS.cd hstep).2 hw) (by rw [w2]; omega)
            refine mv_aload_n (pc := 46) B d_Tree_leafOf_46 rfl 2 rfl ?_
            refine mv_getR (pc := 47) (ci := 8) (C := R_Tree) (T := F_Tree) (N := 5) B 3 rfl rfl (by decide) i_Tree (B.2.2.2.1 _ k_296) rfl (hq _ 3 63 rfl) d_Tree_leafOf_47 ?_
            refine mv_iload_n (pc := 50) B d_Tree_leafOf_50 rfl 1 rfl ?_
            refine mv_iald (pc := 51) B rfl (i32_in (by omega) (by omega)) d_Tree_leafOf_51 ?_
            refine mv_istore_n (pc := 52) B d_Tree_leafOf_52 rfl (by decide) rfl ?_
            refine mv_iinc (pc := 53) (j := 1) (v := 1) B d_Tree_leafOf_53 rfl (by decide) (by decide) rfl ?_
            refine mv_goto (pc := 56) (tgt := 5) B d_Tree_leafOf_56 rfl ?_
            refine mv_lpick [0, 1, 2, 3] rfl ?_
            exact go
          · skip
            rw [eb2] at h34
            have hw : w9.toBitVec.getLsbD b = false := (us_bit w9 b hb).mp ((lg_cmp_eq _ _).mp h34)
            have go := ih (t9 + 1) (mv_a σ 62 v.toNatClampNeg) c (by rw [w2]; omega) (by rw [w2]; omega) (by rw [zj]; exact e14) hc (by rw [w2]; have := hdq.1; omega) ((qS.cd hstep).1 hw) (by rw [w2]; omega)
            refine mv_aload_n (pc := 37) B d_Tree_leafOf_37 rfl 2 rfl ?_
            refine mv_getR (pc := 38) (ci := 8) (C := R_Tree) (T := F_Tree) (N := 5) B 2 rfl rfl (by decide) i_Tree (B.2.2.2.1 _ k_294) rfl (hq _ 2 62 rfl) d_Tree_leafOf_38 ?_
            refine mv_iload_n (pc := 41) B d_Tree_leafOf_41 rfl 1 rfl ?_
            refine mv_iald (pc := 42) B rfl (i32_in (by omega) (by omega)) d_Tree_leafOf_42 ?_
            refine mv_goto (pc := 43) (tgt := 52) B d_Tree_leafOf_43 rfl ?_
            refine mv_istore_n (pc := 52) B d_Tree_leafOf_52 rfl (by decide) rfl ?_
            refine mv_iinc (pc := 53) (j := 1) (v := 1) B d_Tree_leafOf_53 rfl (by decide) (by decide) rfl ?_
            refine mv_goto (pc := 56) (tgt := 5) B d_Tree_leafOf_56 rfl ?_
            refine mv_lpick [0, 1, 2, 3] rfl ?_
            exact go
  refine mv_iconst (pc := 0) (v := 0) B d_Tree_leafOf_0 (by decide) ?_
  refine mv_istore_n (pc := 1) B d_Tree_leafOf_1 rfl (by decide) rfl ?_
  refine mv_iconst (pc := 2) (v := 0) B d_Tree_leafOf_2 (by decide) ?_
  refine mv_istore (pc := 3) B d_Tree_leafOf_3 (by decide) rfl ?_
  refine mv_lpick [0, 1, 2, 3] rfl ?_
  exact lp _ _ _ 0 (by decide) (by decide) rfl (by omega) (by show (0 : Int) ≤ dq 0; omega) (fun a ha _ => hs.1 a ha) (Nat.lt_succ_self _)
set_option maxHeartbeats 4000000 in
set_option maxRecDepth 100000 in
theorem c_kd_Tree_leafOf_c (l : Launch) {dA : FieldType → ClassId} {D : va_G} {al : Nat → Nat} {sk sv : Nat → Nat} (hi : mv_inj (mg dA D al me)) (σ : mv_H) (w9 : Int64) (hq : Ph 145 (mv_r σ)) (hT : TreeOK 145 48 σ) : mv_C l y_Tree_leafOf (Cond.code y_Tree_leafOf b_Tree_leafOf 5 (Option.some Jvm.ClassFile.FieldType.int) :: ma) ({ frames := 0, cells := 0, slots := 0, locals := 0 }) (mg dA D al me) (mK sk sv) [.ref (al 156), .long w9] σ (mv_Ri (fun v σ1 => σ1 = σ ∧ LfX 145 48 σ w9 v)) := by
  refine mv_C.ofV (cc := b_Tree_leafOf) (nL := 5) (ret := (Option.some Jvm.ClassFile.FieldType.int)) (by decide +kernel) rfl hi (Nat.le_of_ble_eq_true rfl) ?_
  intro p e s m below meth c B hNs hr hnm hno
  have hT9 := hT
  obtain ⟨ops, n, dq, h1, h2, h3, h4, h5, h6⟩ := hT
  obtain ⟨S, hs⟩ := h3.2
  have lp : ∀ (nn : Nat) (t9 : Int32) (v : Int32) (j : Nat) (qt : 0 ≤ t9.toInt) (qt2 : t9.toInt ≤ 65) (qj : v.toInt = j) (qn : j < n) (qd : t9.toInt ≤ dq j) (qS : LfS (mv_b σ 150) (mv_b σ 151) w9 ops S j), (65 - t9.toInt).toNat < nn → mv_V p l e ({ frames := 0, cells := 0, slots := 0, locals := 0 }) s m ([.ref (al 156), .long w9] : List Value).toArray below meth c (mg dA D al me) 5 0 0 (mv_Q (mg dA D al me) below s 0 0 (mv_Ri (fun v σ1 => σ1 = σ ∧ LfX 145 48 σ w9 v))) σ 5 [(4, .int t9), (3, .int v), (0, .ref (al 156)), (1, .long w9)] [] := by
    intro nn
    induction nn with
    | zero => intro t9 v j qt qt2 qj qn qd qS hm; exact absurd hm (Nat.not_lt_zero _)
    | succ nn ih =>
      intro t9 v j qt qt2 qj qn qd qS hm
      refine mv_iload (pc := 5) B d_Tree_leafOf_5 0 rfl ?_
      refine mv_bipush (pc := 7) (v := 64) B d_Tree_leafOf_7 (by decide) ?_
      refine mv_icmp_gt (pc := 9) (tgt := 59) B d_Tree_leafOf_9 rfl (fun h9 => ?_) (fun h9 => ?_)
      · skip
        exact absurd (show (64 : Int) < t9.toInt from Int32.lt_iff_toInt_lt.mp h9) (by have z9 := (h6 j qn).1; omega)
      · skip
        rw [Int32.lt_iff_toInt_lt] at h9
        simp only [Int32.reduceToInt] at h9
        have evv := i32_cl (x := v) (by omega)
        have zj : v.toNatClampNeg = j := by omega
        have hjM : j < 97 := by omega
        refine mv_aload_n (pc := 12) B d_Tree_leafOf_12 rfl 2 rfl ?_
        refine mv_getR (pc := 13) (ci := 8) (C := R_Tree) (T := F_Tree) (N := 5) B 1 rfl rfl (by decide) i_Tree (B.2.2.2.1 _ k_293) rfl (hq _ 1 158 rfl) d_Tree_leafOf_13 ?_
        refine mv_iload_n (pc := 16) B d_Tree_leafOf_16 rfl 1 rfl ?_
        refine mv_iald (pc := 17) B rfl (i32_in (by omega) (by omega)) d_Tree_leafOf_17 ?_
        refine mv_iconst (pc := 18) (v := -1) B d_Tree_leafOf_18 (by decide) ?_
        refine mv_icmp_eq (pc := 19) (tgt := 59) B d_Tree_leafOf_19 rfl (fun h19 => ?_) (fun h19 => ?_)
        · skip
          have hv : LfX 145 48 σ w9 v := ⟨leaf_t (P := 145) (M := 48) (j := j) (t := 0) ⟨ops, n, dq, h1, h2, h3, h4, h5, h6, qn, by omega⟩ qj (by rw [← zj]; exact h19), fun a ha hm => by
            rw [zj]
            exact hs.2.1 j qn (by rw [← zj]; exact h19) a (qS a (by omega) hm)⟩
          refine mv_iload_n (pc := 59) B d_Tree_leafOf_59 rfl 1 rfl ?_
          exact mv_iret (pc := 60) B hr rfl d_Tree_leafOf_60 (Nat.le_refl _) (Nat.le_refl _) ⟨_, rfl, rfl, hv⟩
        · skip
          have w2 : (t9 + 1).toInt = t9.toInt + 1 := i32_inc (by omega)
          obtain ⟨b, c, d, hb, eb, e14, e15, hc, hd, hstep⟩ := hs.2.2.1 j qn (by rw [← zj]; exact h19)
          have eb2 : mv_a σ 158 v.toNatClampNeg = Int32.ofNat b := by rw [zj]; exact eb
          have hdq : dq c = dq j + 1 ∧ dq d = dq j + 1 := by
            rcases (h6 j qn).2 with ⟨q1, -⟩ | ⟨-, c2, d2, q1, q2, q3, q4, q5, q6⟩
            · exact absurd q1 (by rw [← zj]; exact h19)
            · have y1 : c2 = c := by omega
              have y2 : d2 = d := by omega
              rw [← y1, ← y2]
              exact ⟨q5, q6⟩
          refine mv_lload_n (pc := 22) B d_Tree_leafOf_22 rfl 3 rfl ?_
          refine mv_aload_n (pc := 23) B d_Tree_leafOf_23 rfl 2 rfl ?_
          refine mv_getR (pc := 24) (ci := 8) (C := R_Tree) (T := F_Tree) (N := 5) B 1 rfl rfl (by decide) i_Tree (B.2.2.2.1 _ k_293) rfl (hq _ 1 158 rfl) d_Tree_leafOf_24 ?_
          refine mv_iload_n (pc := 27) B d_Tree_leafOf_27 rfl 1 rfl ?_
          refine mv_iald (pc := 28) B rfl (i32_in (by omega) (by omega)) d_Tree_leafOf_28 ?_
          refine mv_lushr (pc := 29) B d_Tree_leafOf_29 ?_
          refine mv_lconst (pc := 30) (v := 1) B d_Tree_leafOf_30 (by decide) ?_
          refine mv_land (pc := 31) B d_Tree_leafOf_31 ?_
          refine mv_lconst (pc := 32) (v := 0) B d_Tree_leafOf_32 (by decide) ?_
          refine mv_lcmp (pc := 33) B d_Tree_leafOf_33 ?_
          refine mv_if_ne (pc := 34) (tgt := 46) B d_Tree_leafOf_34 rfl (fun h34 => ?_) (fun h34 => ?_)
          · skip
            rw [eb2] at h34
            have hw : w9.toBitVec.getLsbD b = true := by
              have h1 : ¬ _ = false := fun q => h34 ((lg_cmp_eq _ _).mpr ((us_bit w9 b hb).mpr q))
              exact (Bool.not_eq_false _).mp h1
            have go := ih (t9 + 1) (mv_a σ 160 v.toNatClampNeg) d (by rw [w2]; omega) (by rw [w2]; omega) (by rw [zj]; exact e15) hd (by rw [w2]; have := hdq.2; omega) ((qS.cd hstep).2 hw) (by rw [w2]; omega)
            refine mv_aload_n (pc := 46) B d_Tree_leafOf_46 rfl 2 rfl ?_
            refine mv_getR (pc := 47) (ci := 8) (C := R_Tree) (T := F_Tree) (N := 5) B 3 rfl rfl (by decide) i_Tree (B.2.2.2.1 _ k_296) rfl (hq _ 3 160 rfl) d_Tree_leafOf_47 ?_
            refine mv_iload_n (pc := 50) B d_Tree_leafOf_50 rfl 1 rfl ?_
            refine mv_iald (pc := 51) B rfl (i32_in (by omega) (by omega)) d_Tree_leafOf_51 ?_
            refine mv_istore_n (pc := 52) B d_Tree_leafOf_52 rfl (by decide) rfl ?_
            refine mv_iinc (pc := 53) (j := 1) (v := 1) B d_Tree_leafOf_53 rfl (by decide) (by decide) rfl ?_
            refine mv_goto (pc := 56) (tgt := 5) B d_Tree_leafOf_56 rfl ?_
            refine mv_lpick [0, 1, 2, 3] rfl ?_
            exact go
          · skip
            rw [eb2] at h34
            have hw : w9.toBitVec.getLsbD b = false := (us_bit w9 b hb).mp ((lg_cmp_eq _ _).mp h34)
            have go := ih (t9 + 1) (mv_a σ 159 v.toNatClampNeg) c (by rw [w2]; omega) (by rw [w2]; omega) (by rw [zj]; exact e14) hc (by rw [w2]; have := hdq.1; omega) ((qS.cd hstep).1 hw) (by rw [w2]; omega)
            refine mv_aload_n (pc := 37) B d_Tree_leafOf_37 rfl 2 rfl ?_
            refine mv_getR (pc := 38) (ci := 8) (C := R_Tree) (T := F_Tree) (N := 5) B 2 rfl rfl (by decide) i_Tree (B.2.2.2.1 _ k_294) rfl (hq _ 2 159 rfl) d_Tree_leafOf_38 ?_
            refine mv_iload_n (pc := 41) B d_Tree_leafOf_41 rfl 1 rfl ?_
            refine mv_iald (pc := 42) B rfl (i32_in (by omega) (by omega)) d_Tree_leafOf_42 ?_
            refine mv_goto (pc := 43) (tgt := 52) B d_Tree_leafOf_43 rfl ?_
            refine mv_istore_n (pc := 52) B d_Tree_leafOf_52 rfl (by decide) rfl ?_
            refine mv_iinc (pc := 53) (j := 1) (v := 1) B d_Tree_leafOf_53 rfl (by decide) (by decide) rfl ?_
            refine mv_goto (pc := 56) (tgt := 5) B d_Tree_leafOf_56 rfl ?_
            refine mv_lpick [0, 1, 2, 3] rfl ?_
            exact go
  refine mv_iconst (pc := 0) (v := 0) B d_Tree_leafOf_0 (by decide) ?_
  refine mv_istore_n (pc := 1) B d_Tree_leafOf_1 rfl (by decide) rfl ?_
  refine mv_iconst (pc := 2) (v := 0) B d_Tree_leafOf_2 (by decide) ?_
  refine mv_istore (pc := 3) B d_Tree_leafOf_3 (by decide) rfl ?_
  refine mv_lpick [0, 1, 2, 3] rfl ?_
  exact lp _ _ _ 0 (by decide) (by decide) rfl (by omega) (by show (0 : Int) ≤ dq 0; omega) (fun a ha _ => hs.1 a ha) (Nat.lt_succ_self _)
set_option maxHeartbeats 4000000 in
set_option maxRecDepth 100000 in
theorem c_kd_Machine_opOf_a (l : Launch) {dA : FieldType → ClassId} {D : va_G} {al : Nat → Nat} {ext : mv_Sh} {sk sv : Nat → Nat} (hi : mv_inj (mg dA D al ext)) (σ : mv_H) (w9 : Int64) (hR : Rf 32 (mv_r σ)) (hT : TreeOK 32 512 σ) : mv_C l y_Machine_opOf (Cond.code y_Machine_opOf b_Machine_opOf 8 (Option.some Jvm.ClassFile.FieldType.int) :: ma) ({ frames := 1, cells := 0, slots := 0, locals := 24 }) (mg dA D al ext) (mK sk sv) [.ref (al 64), .long w9] σ (mv_Ri (fun v σ1 => F12 σ σ1 ∧ DCq 32 σ w9 v)) := by
  refine mv_C.ofV (cc := b_Machine_opOf) (nL := 8) (ret := (Option.some Jvm.ClassFile.FieldType.int)) (by decide +kernel) rfl hi (Nat.le_of_ble_eq_true rfl) ?_
  intro p e s m below meth c B hNs hr hnm hno
  have lq : ∀ (lf : Int32) (hLX : LfX 32 512 σ w9 lf) (hl0 : 0 ≤ lf.toInt) (hl1 : lf.toInt < 1025) (hl2 : 0 ≤ (mv_a σ 46 lf.toNatClampNeg).toInt) (hl3 : (mv_a σ 47 lf.toNatClampNeg).toInt ≤ 512), ∀ (jj : Int32) (q0 : (mv_a σ 46 lf.toNatClampNeg).toInt ≤ jj.toInt) (q1 : jj.toInt ≤ (mv_a σ 46 lf.toNatClampNeg).toInt), mv_V p l e ({ frames := 1, cells := 0, slots := 0, locals := 24 }) s m ([.ref (al 64), .long w9] : List Value).toArray below meth c (mg dA D al ext) 8 0 0 (mv_Q (mg dA D al ext) below s 0 0 (mv_Ri (fun v σ1 => F12 σ σ1 ∧ DCq 32 σ w9 v))) σ 27 [(6, .int jj), (5, .int (-1)), (4, .int lf), (3, .ref (al 43)), (0, .ref (al 64)), (1, .long w9)] [] := by
    intro lf hLX hl0 hl1 hl2 hl3
    obtain ⟨hL, hX⟩ := hLX
    have lp : ∀ (nn : Nat) (τ : mv_H) (jj : Int32) (fd : Int32) (q0 : (mv_a σ 46 lf.toNatClampNeg).toInt ≤ jj.toInt) (qd : ((fd = -1 ∧ ∀ i : Nat, (mv_a σ 46 lf.toNatClampNeg).toInt ≤ i → (i : Int) < jj.toInt → ¬ MtO 32 σ w9 (mv_a σ 44 i).toNatClampNeg) ∨ ∃ a : Nat, (a : Int) < (mv_i σ 32 10).toInt ∧ fd = nI a ∧ MtO 32 σ w9 a)) (qF : F12 σ τ) (qR : Rf 32 (mv_r τ)), (512 - jj.toInt).toNat < nn → mv_V p l e ({ frames := 1, cells := 0, slots := 0, locals := 24 }) s m ([.ref (al 64), .long w9] : List Value).toArray below meth c (mg dA D al ext) 8 0 0 (mv_Q (mg dA D al ext) below s 0 0 (mv_Ri (fun v σ1 => F12 σ σ1 ∧ DCq 32 σ w9 v))) τ 27 [(6, .int jj), (5, .int fd), (4, .int lf), (3, .ref (al 43)), (0, .ref (al 64)), (1, .long w9)] [] := by
      intro nn
      induction nn with
      | zero => intro τ jj fd q0 qd qF qR hm; exact absurd hm (Nat.not_lt_zero _)
      | succ nn ih =>
        intro τ jj fd q0 qd qF qR hm
        refine mv_iload (pc := 27) B d_Machine_opOf_27 0 rfl ?_
        refine mv_aload_n (pc := 29) B d_Machine_opOf_29 rfl 3 rfl ?_
        refine mv_getR (pc := 30) (ci := 8) (C := R_Tree) (T := F_Tree) (N := 5) B 3 rfl rfl (by decide) i_Tree (B.2.2.2.1 _ k_297) rfl (qR.2.1 _ 3 47 rfl) d_Machine_opOf_30 ?_
        refine mv_iload (pc := 33) B d_Machine_opOf_33 2 rfl ?_
        refine mv_iald (pc := 35) B rfl (i32_in (by omega) (by omega)) d_Machine_opOf_35 ?_
        refine mv_icmp_ge (pc := 36) (tgt := 102) B d_Machine_opOf_36 rfl (fun h36 => ?_) (fun h36 => ?_)
        · skip
          rw [Int32.le_iff_toInt_le] at h36
          have e15 : mv_a τ 47 = mv_a σ 47 := qF.2.1 _ (fun q => q)
          rw [e15] at h36
          have hD : DCq 32 σ w9 fd := by
            rcases qd with ⟨d1, d2⟩ | d1
            · refine Or.inl ⟨d1, fun a ha hm => ?_⟩
              obtain ⟨i, i1, i2, i3⟩ := hX a ha hm
              have i2 : (i : Int) < (mv_a σ 47 lf.toNatClampNeg).toInt := i2
              have i3 : (mv_a σ 44 i).toInt = (a : Int) := i3
              refine d2 i i1 (by omega) ?_
              have z9 := i32_cl (x := mv_a σ 44 i) (by omega)
              rw [show (mv_a σ 44 i).toNatClampNeg = a by omega]
              exact hm
            · exact Or.inr d1
          refine mv_iload (pc := 102) B d_Machine_opOf_102 1 rfl ?_
          exact mv_iret (pc := 104) B hr rfl d_Machine_opOf_104 (Nat.le_refl _) (Nat.le_refl _) ⟨_, rfl, qF, hD⟩
        · skip
          rw [Int32.le_iff_toInt_le] at h36
          have e15 : mv_a τ 47 = mv_a σ 47 := qF.2.1 _ (fun q => q)
          have e12 : mv_a τ 44 = mv_a σ 44 := qF.2.1 _ (fun q => q)
          have e5 : mv_b τ 37 = mv_b σ 37 := qF.2.2.1 _ (fun q => q)
          have e6 : mv_b τ 38 = mv_b σ 38 := qF.2.2.1 _ (fun q => q)
          rw [e15] at h36
          have ejj := i32_cl (x := jj) (by omega)
          have ho := hL.2.2.2.2 jj.toNatClampNeg (show (mv_a σ 46 lf.toNatClampNeg).toInt ≤ _ by omega) (show _ < (mv_a σ 47 lf.toNatClampNeg).toInt by omega)
          have ho0 : 0 ≤ (mv_a τ 44 jj.toNatClampNeg).toInt := by rw [e12]; exact ho.1
          have ho1 : (mv_a τ 44 jj.toNatClampNeg).toInt < (mv_i σ 32 10).toInt := by rw [e12]; exact ho.2.1
          have ho2 := ho.2.2.1
          have w2 : (jj + 1).toInt = jj.toInt + 1 := i32_inc (by omega)
          refine mv_aload_n (pc := 39) B d_Machine_opOf_39 rfl 3 rfl ?_
          refine mv_getR (pc := 40) (ci := 8) (C := R_Tree) (T := F_Tree) (N := 5) B 0 rfl rfl (by decide) i_Tree (B.2.2.2.1 _ k_292) rfl (qR.2.1 _ 0 44 rfl) d_Machine_opOf_40 ?_
          refine mv_iload (pc := 43) B d_Machine_opOf_43 0 rfl ?_
          refine mv_iald (pc := 45) B rfl (i32_in (by omega) (by omega)) d_Machine_opOf_45 ?_
          refine mv_istore (pc := 46) B d_Machine_opOf_46 (by decide) rfl ?_
          refine mv_lload_n (pc := 48) B d_Machine_opOf_48 rfl 6 rfl ?_
          refine mv_aload_n (pc := 49) B d_Machine_opOf_49 rfl 5 rfl ?_
          refine mv_getR (pc := 50) (ci := 9) (C := R_Machine) (T := F_Machine) (N := 13) B 0 rfl rfl (by decide) i_Machine (B.2.2.2.1 _ k_440) rfl qR.2.2 d_Machine_opOf_50 ?_
          refine mv_getR (pc := 53) (ci := 7) (C := R_Program) (T := F_Program) (N := 19) B 11 rfl rfl (by decide) i_Program (B.2.2.2.1 _ k_350) rfl (qR.2.1 _ 11 37 rfl) d_Machine_opOf_53 ?_
          refine mv_iload (pc := 56) B d_Machine_opOf_56 0 rfl ?_
          refine mv_lald (pc := 58) B rfl (i32_in ho0 (by omega)) d_Machine_opOf_58 ?_
          refine mv_land (pc := 59) B d_Machine_opOf_59 ?_
          refine mv_aload_n (pc := 60) B d_Machine_opOf_60 rfl 5 rfl ?_
          refine mv_getR (pc := 61) (ci := 9) (C := R_Machine) (T := F_Machine) (N := 13) B 0 rfl rfl (by decide) i_Machine (B.2.2.2.1 _ k_440) rfl qR.2.2 d_Machine_opOf_61 ?_
          refine mv_getR (pc := 64) (ci := 7) (C := R_Program) (T := F_Program) (N := 19) B 12 rfl rfl (by decide) i_Program (B.2.2.2.1 _ k_353) rfl (qR.2.1 _ 12 38 rfl) d_Machine_opOf_64 ?_
          refine mv_iload (pc := 67) B d_Machine_opOf_67 0 rfl ?_
          refine mv_lald (pc := 69) B rfl (i32_in ho0 (by omega)) d_Machine_opOf_69 ?_
          refine mv_lcmp (pc := 70) B d_Machine_opOf_70 ?_
          refine mv_if_ne (pc := 71) (tgt := 96) B d_Machine_opOf_71 rfl (fun h71 => ?_) (fun h71 => ?_)
          · skip
            have hne : ¬ MtO 32 σ w9 (mv_a σ 44 jj.toNatClampNeg).toNatClampNeg := fun q => h71 (by rw [e12, e5, e6]; exact (lg_cmp_eq _ _).mpr q)
            have go := ih τ (jj + 1) fd (by omega) (qd.imp (fun d => ⟨d.1, fun i i1 i2 => (by
              rw [w2] at i2
              by_cases z9 : i = jj.toNatClampNeg
              · rw [z9]; exact hne
              · exact d.2 i i1 (by omega))⟩) id) qF qR (by omega)
            refine mv_iinc (pc := 96) (j := 1) (v := 1) B d_Machine_opOf_96 rfl (by decide) (by decide) rfl ?_
            refine mv_goto (pc := 99) (tgt := 27) B d_Machine_opOf_99 rfl ?_
            refine mv_lpick [0, 2, 3, 4, 5, 6] rfl ?_
            exact go
          · skip
            have heq : MtO 32 σ w9 (mv_a σ 44 jj.toNatClampNeg).toNatClampNeg := by
              rw [e12, e5, e6] at h71
              exact (lg_cmp_eq _ _).mp h71
            refine mv_iload (pc := 74) B d_Machine_opOf_74 2 rfl ?_
            refine mv_if_lt (pc := 76) (tgt := 92) B d_Machine_opOf_76 rfl (fun h76 => ?_) (fun h76 => ?_)
            · skip
              have go := ih τ (jj + 1) (mv_a τ 44 jj.toNatClampNeg) (by omega) (Or.inr ⟨(mv_a σ 44 jj.toNatClampNeg).toNatClampNeg, by have z9 := i32_cl (x := mv_a σ 44 jj.toNatClampNeg) ho.1; have z8 : (mv_a σ 44 jj.toNatClampNeg).toInt < (mv_i σ 32 10).toInt := ho.2.1; omega, by rw [e12]; exact nI_o2 (i32_cl (x := mv_a σ 44 jj.toNatClampNeg) ho.1).symm, heq⟩) qF qR (by omega)
              refine mv_iload (pc := 92) B d_Machine_opOf_92 0 rfl ?_
              refine mv_istore (pc := 94) B d_Machine_opOf_94 (by decide) rfl ?_
              refine mv_iinc (pc := 96) (j := 2) (v := 1) B d_Machine_opOf_96 rfl (by decide) (by decide) rfl ?_
              refine mv_goto (pc := 99) (tgt := 27) B d_Machine_opOf_99 rfl ?_
              refine mv_lpick [0, 1, 3, 4, 5, 6] rfl ?_
              exact go
            · skip
              have go := ih (mv_si τ 64 12 (mv_i τ 64 12 + 1)) (jj + 1) fd (by omega) (qd.imp (fun d => absurd (show fd < 0 by rw [d.1]; decide) h76) id) (qF.si ⟨rfl, rfl⟩) qR (by omega)
              refine mv_aload_n (pc := 79) B d_Machine_opOf_79 rfl 5 rfl ?_
              refine mv_dup (pc := 80) B d_Machine_opOf_80 rfl ?_
              refine mv_getI (pc := 81) (ci := 9) (C := R_Machine) (T := F_Machine) (N := 13) B 12 rfl rfl (by decide) i_Machine (B.2.2.2.1 _ k_457) rfl d_Machine_opOf_81 ?_
              refine mv_iconst (pc := 84) (v := 1) B d_Machine_opOf_84 (by decide) ?_
              refine mv_iadd (pc := 85) B d_Machine_opOf_85 ?_
              refine mv_putI (pc := 86) (ci := 9) (C := R_Machine) (T := F_Machine) (N := 13) B 12 rfl rfl (by decide) i_Machine t_Machine_ok n_Machine (B.2.2.2.1 _ k_457) rfl rfl rfl rfl d_Machine_opOf_86 ?_
              refine mv_goto (pc := 89) (tgt := 96) B d_Machine_opOf_89 rfl ?_
              refine mv_iinc (pc := 96) (j := 1) (v := 1) B d_Machine_opOf_96 rfl (by decide) (by decide) rfl ?_
              refine mv_goto (pc := 99) (tgt := 27) B d_Machine_opOf_99 rfl ?_
              refine mv_lpick [0, 2, 3, 4, 5, 6] rfl ?_
              exact go
    intro jj q0 q1
    exact lp _ σ jj (-1) q0 (Or.inl ⟨rfl, fun i i1 i2 => absurd i2 (by omega)⟩) Fr.rf hR (Nat.lt_succ_self _)
  refine mv_aload_n (pc := 0) B d_Machine_opOf_0 rfl 0 rfl ?_
  refine mv_getR (pc := 1) (ci := 9) (C := R_Machine) (T := F_Machine) (N := 13) B 0 rfl rfl (by decide) i_Machine (B.2.2.2.1 _ k_440) rfl hR.2.2 d_Machine_opOf_1 ?_
  refine mv_getR (pc := 4) (ci := 7) (C := R_Program) (T := F_Program) (N := 19) B 18 rfl rfl (by decide) i_Program (B.2.2.2.1 _ k_366) rfl (hR.2.1 _ 18 43 rfl) d_Machine_opOf_4 ?_
  refine mv_astore_n (pc := 7) B d_Machine_opOf_7 rfl (by decide) rfl ?_
  refine mv_aload_n (pc := 8) B d_Machine_opOf_8 rfl 0 rfl ?_
  refine mv_lload_n (pc := 9) B d_Machine_opOf_9 rfl 2 rfl ?_
  refine mv_callVi (pc := 10) (n := 1) (ci := 8) (C := R_Tree) B (mK_ok sk sv) hNs rfl rfl (c_kd_Tree_leafOf_a l hi _ _ hR.2.1 hT) rfl (ma_goodc kc_Tree_leafOf) (B.2.2.2.1 _ k_1564) (B.2.2.2.1 _ k_1565) (B.2.2.2.1 _ k_1566) (B.2.2.2.1 _ k_9) ⟨by decide +kernel, by decide +kernel, by decide +kernel⟩ rfl d_Machine_opOf_10 rfl (Nat.le_of_ble_eq_true rfl) ⟨by decide, by decide⟩ ⟨by decide, by decide⟩ ⟨by decide, by decide⟩ (mv_noH hno _) (fun v10 σ10 h10 => ?_)
  obtain ⟨e10, d10⟩ := h10
  have e10 := e10.symm
  subst e10
  refine mv_istore (pc := 13) B d_Machine_opOf_13 (by decide) rfl ?_
  refine mv_iconst (pc := 15) (v := -1) B d_Machine_opOf_15 (by decide) ?_
  refine mv_istore (pc := 16) B d_Machine_opOf_16 (by decide) rfl ?_
  refine mv_aload_n (pc := 18) B d_Machine_opOf_18 rfl 2 rfl ?_
  refine mv_getR (pc := 19) (ci := 8) (C := R_Tree) (T := F_Tree) (N := 5) B 2 rfl rfl (by decide) i_Tree (B.2.2.2.1 _ k_295) rfl (hR.2.1 _ 2 46 rfl) d_Machine_opOf_19 ?_
  refine mv_iload (pc := 22) B d_Machine_opOf_22 1 rfl ?_
  refine mv_iald (pc := 24) B rfl (i32_in d10.1.1 d10.1.2.1) d_Machine_opOf_24 ?_
  refine mv_istore (pc := 25) B d_Machine_opOf_25 (by decide) rfl ?_
  refine mv_lpick [0, 1, 2, 3, 4, 5] rfl ?_
  exact lq _ d10 d10.1.1 d10.1.2.1 d10.1.2.2.1 d10.1.2.2.2.1 _ (Int.le_refl _) (Int.le_refl _)
set_option maxHeartbeats 4000000 in
set_option maxRecDepth 100000 in
theorem c_kd_Machine_opOf_b (l : Launch) {dA : FieldType → ClassId} {D : va_G} {al : Nat → Nat} {ext : mv_Sh} {sk sv : Nat → Nat} (hi : mv_inj (mg dA D al ext)) (σ : mv_H) (w9 : Int64) (hR : Rf 48 (mv_r σ)) (hT : TreeOK 48 512 σ) : mv_C l y_Machine_opOf (Cond.code y_Machine_opOf b_Machine_opOf 8 (Option.some Jvm.ClassFile.FieldType.int) :: ma) ({ frames := 1, cells := 0, slots := 0, locals := 24 }) (mg dA D al ext) (mK sk sv) [.ref (al 64), .long w9] σ (mv_Ri (fun v σ1 => F12 σ σ1 ∧ DCq 48 σ w9 v)) := by
  refine mv_C.ofV (cc := b_Machine_opOf) (nL := 8) (ret := (Option.some Jvm.ClassFile.FieldType.int)) (by decide +kernel) rfl hi (Nat.le_of_ble_eq_true rfl) ?_
  intro p e s m below meth c B hNs hr hnm hno
  have lq : ∀ (lf : Int32) (hLX : LfX 48 512 σ w9 lf) (hl0 : 0 ≤ lf.toInt) (hl1 : lf.toInt < 1025) (hl2 : 0 ≤ (mv_a σ 62 lf.toNatClampNeg).toInt) (hl3 : (mv_a σ 63 lf.toNatClampNeg).toInt ≤ 512), ∀ (jj : Int32) (q0 : (mv_a σ 62 lf.toNatClampNeg).toInt ≤ jj.toInt) (q1 : jj.toInt ≤ (mv_a σ 62 lf.toNatClampNeg).toInt), mv_V p l e ({ frames := 1, cells := 0, slots := 0, locals := 24 }) s m ([.ref (al 64), .long w9] : List Value).toArray below meth c (mg dA D al ext) 8 0 0 (mv_Q (mg dA D al ext) below s 0 0 (mv_Ri (fun v σ1 => F12 σ σ1 ∧ DCq 48 σ w9 v))) σ 27 [(6, .int jj), (5, .int (-1)), (4, .int lf), (3, .ref (al 59)), (0, .ref (al 64)), (1, .long w9)] [] := by
    intro lf hLX hl0 hl1 hl2 hl3
    obtain ⟨hL, hX⟩ := hLX
    have lp : ∀ (nn : Nat) (τ : mv_H) (jj : Int32) (fd : Int32) (q0 : (mv_a σ 62 lf.toNatClampNeg).toInt ≤ jj.toInt) (qd : ((fd = -1 ∧ ∀ i : Nat, (mv_a σ 62 lf.toNatClampNeg).toInt ≤ i → (i : Int) < jj.toInt → ¬ MtO 48 σ w9 (mv_a σ 60 i).toNatClampNeg) ∨ ∃ a : Nat, (a : Int) < (mv_i σ 48 10).toInt ∧ fd = nI a ∧ MtO 48 σ w9 a)) (qF : F12 σ τ) (qR : Rf 48 (mv_r τ)), (512 - jj.toInt).toNat < nn → mv_V p l e ({ frames := 1, cells := 0, slots := 0, locals := 24 }) s m ([.ref (al 64), .long w9] : List Value).toArray below meth c (mg dA D al ext) 8 0 0 (mv_Q (mg dA D al ext) below s 0 0 (mv_Ri (fun v σ1 => F12 σ σ1 ∧ DCq 48 σ w9 v))) τ 27 [(6, .int jj), (5, .int fd), (4, .int lf), (3, .ref (al 59)), (0, .ref (al 64)), (1, .long w9)] [] := by
      intro nn
      induction nn with
      | zero => intro τ jj fd q0 qd qF qR hm; exact absurd hm (Nat.not_lt_zero _)
      | succ nn ih =>
        intro τ jj fd q0 qd qF qR hm
        refine mv_iload (pc := 27) B d_Machine_opOf_27 0 rfl ?_
        refine mv_aload_n (pc := 29) B d_Machine_opOf_29 rfl 3 rfl ?_
        refine mv_getR (pc := 30) (ci := 8) (C := R_Tree) (T := F_Tree) (N := 5) B 3 rfl rfl (by decide) i_Tree (B.2.2.2.1 _ k_297) rfl (qR.2.1 _ 3 63 rfl) d_Machine_opOf_30 ?_
        refine mv_iload (pc := 33) B d_Machine_opOf_33 2 rfl ?_
        refine mv_iald (pc := 35) B rfl (i32_in (by omega) (by omega)) d_Machine_opOf_35 ?_
        refine mv_icmp_ge (pc := 36) (tgt := 102) B d_Machine_opOf_36 rfl (fun h36 => ?_) (fun h36 => ?_)
        · skip
          rw [Int32.le_iff_toInt_le] at h36
          have e15 : mv_a τ 63 = mv_a σ 63 := qF.2.1 _ (fun q => q)
          rw [e15] at h36
          have hD : DCq 48 σ w9 fd := by
            rcases qd with ⟨d1, d2⟩ | d1
            · refine Or.inl ⟨d1, fun a ha hm => ?_⟩
              obtain ⟨i, i1, i2, i3⟩ := hX a ha hm
              have i2 : (i : Int) < (mv_a σ 63 lf.toNatClampNeg).toInt := i2
              have i3 : (mv_a σ 60 i).toInt = (a : Int) := i3
              refine d2 i i1 (by omega) ?_
              have z9 := i32_cl (x := mv_a σ 60 i) (by omega)
              rw [show (mv_a σ 60 i).toNatClampNeg = a by omega]
              exact hm
            · exact Or.inr d1
          refine mv_iload (pc := 102) B d_Machine_opOf_102 1 rfl ?_
          exact mv_iret (pc := 104) B hr rfl d_Machine_opOf_104 (Nat.le_refl _) (Nat.le_refl _) ⟨_, rfl, qF, hD⟩
        · skip
          rw [Int32.le_iff_toInt_le] at h36
          have e15 : mv_a τ 63 = mv_a σ 63 := qF.2.1 _ (fun q => q)
          have e12 : mv_a τ 60 = mv_a σ 60 := qF.2.1 _ (fun q => q)
          have e5 : mv_b τ 53 = mv_b σ 53 := qF.2.2.1 _ (fun q => q)
          have e6 : mv_b τ 54 = mv_b σ 54 := qF.2.2.1 _ (fun q => q)
          rw [e15] at h36
          have ejj := i32_cl (x := jj) (by omega)
          have ho := hL.2.2.2.2 jj.toNatClampNeg (show (mv_a σ 62 lf.toNatClampNeg).toInt ≤ _ by omega) (show _ < (mv_a σ 63 lf.toNatClampNeg).toInt by omega)
          have ho0 : 0 ≤ (mv_a τ 60 jj.toNatClampNeg).toInt := by rw [e12]; exact ho.1
          have ho1 : (mv_a τ 60 jj.toNatClampNeg).toInt < (mv_i σ 48 10).toInt := by rw [e12]; exact ho.2.1
          have ho2 := ho.2.2.1
          have w2 : (jj + 1).toInt = jj.toInt + 1 := i32_inc (by omega)
          refine mv_aload_n (pc := 39) B d_Machine_opOf_39 rfl 3 rfl ?_
          refine mv_getR (pc := 40) (ci := 8) (C := R_Tree) (T := F_Tree) (N := 5) B 0 rfl rfl (by decide) i_Tree (B.2.2.2.1 _ k_292) rfl (qR.2.1 _ 0 60 rfl) d_Machine_opOf_40 ?_
          refine mv_iload (pc := 43) B d_Machine_opOf_43 0 rfl ?_
          refine mv_iald (pc := 45) B rfl (i32_in (by omega) (by omega)) d_Machine_opOf_45 ?_
          refine mv_istore (pc := 46) B d_Machine_opOf_46 (by decide) rfl ?_
          refine mv_lload_n (pc := 48) B d_Machine_opOf_48 rfl 6 rfl ?_
          refine mv_aload_n (pc := 49) B d_Machine_opOf_49 rfl 5 rfl ?_
          refine mv_getR (pc := 50) (ci := 9) (C := R_Machine) (T := F_Machine) (N := 13) B 0 rfl rfl (by decide) i_Machine (B.2.2.2.1 _ k_440) rfl qR.2.2 d_Machine_opOf_50 ?_
          refine mv_getR (pc := 53) (ci := 7) (C := R_Program) (T := F_Program) (N := 19) B 11 rfl rfl (by decide) i_Program (B.2.2.2.1 _ k_350) rfl (qR.2.1 _ 11 53 rfl) d_Machine_opOf_53 ?_
          refine mv_iload (pc := 56) B d_Machine_opOf_56 0 rfl ?_
          refine mv_lald (pc := 58) B rfl (i32_in ho0 (by omega)) d_Machine_opOf_58 ?_
          refine mv_land (pc := 59) B d_Machine_opOf_59 ?_
          refine mv_aload_n (pc := 60) B d_Machine_opOf_60 rfl 5 rfl ?_
          refine mv_getR (pc := 61) (ci := 9) (C := R_Machine) (T := F_Machine) (N := 13) B 0 rfl rfl (by decide) i_Machine (B.2.2.2.1 _ k_440) rfl qR.2.2 d_Machine_opOf_61 ?_
          refine mv_getR (pc := 64) (ci := 7) (C := R_Program) (T := F_Program) (N := 19) B 12 rfl rfl (by decide) i_Program (B.2.2.2.1 _ k_353) rfl (qR.2.1 _ 12 54 rfl) d_Machine_opOf_64 ?_
          refine mv_iload (pc := 67) B d_Machine_opOf_67 0 rfl ?_
          refine mv_lald (pc := 69) B rfl (i32_in ho0 (by omega)) d_Machine_opOf_69 ?_
          refine mv_lcmp (pc := 70) B d_Machine_opOf_70 ?_
          refine mv_if_ne (pc := 71) (tgt := 96) B d_Machine_opOf_71 rfl (fun h71 => ?_) (fun h71 => ?_)
          · skip
            have hne : ¬ MtO 48 σ w9 (mv_a σ 60 jj.toNatClampNeg).toNatClampNeg := fun q => h71 (by rw [e12, e5, e6]; exact (lg_cmp_eq _ _).mpr q)
            have go := ih τ (jj + 1) fd (by omega) (qd.imp (fun d => ⟨d.1, fun i i1 i2 => (by
              rw [w2] at i2
              by_cases z9 : i = jj.toNatClampNeg
              · rw [z9]; exact hne
              · exact d.2 i i1 (by omega))⟩) id) qF qR (by omega)
            refine mv_iinc (pc := 96) (j := 1) (v := 1) B d_Machine_opOf_96 rfl (by decide) (by decide) rfl ?_
            refine mv_goto (pc := 99) (tgt := 27) B d_Machine_opOf_99 rfl ?_
            refine mv_lpick [0, 2, 3, 4, 5, 6] rfl ?_
            exact go
          · skip
            have heq : MtO 48 σ w9 (mv_a σ 60 jj.toNatClampNeg).toNatClampNeg := by
              rw [e12, e5, e6] at h71
              exact (lg_cmp_eq _ _).mp h71
            refine mv_iload (pc := 74) B d_Machine_opOf_74 2 rfl ?_
            refine mv_if_lt (pc := 76) (tgt := 92) B d_Machine_opOf_76 rfl (fun h76 => ?_) (fun h76 => ?_)
            · skip
              have go := ih τ (jj + 1) (mv_a τ 60 jj.toNatClampNeg) (by omega) (Or.inr ⟨(mv_a σ 60 jj.toNatClampNeg).toNatClampNeg, by have z9 := i32_cl (x := mv_a σ 60 jj.toNatClampNeg) ho.1; have z8 : (mv_a σ 60 jj.toNatClampNeg).toInt < (mv_i σ 48 10).toInt := ho.2.1; omega, by rw [e12]; exact nI_o2 (i32_cl (x := mv_a σ 60 jj.toNatClampNeg) ho.1).symm, heq⟩) qF qR (by omega)
              refine mv_iload (pc := 92) B d_Machine_opOf_92 0 rfl ?_
              refine mv_istore (pc := 94) B d_Machine_opOf_94 (by decide) rfl ?_
              refine mv_iinc (pc := 96) (j := 2) (v := 1) B d_Machine_opOf_96 rfl (by decide) (by decide) rfl ?_
              refine mv_goto (pc := 99) (tgt := 27) B d_Machine_opOf_99 rfl ?_
              refine mv_lpick [0, 1, 3, 4, 5, 6] rfl ?_
              exact go
            · skip
              have go := ih (mv_si τ 64 12 (mv_i τ 64 12 + 1)) (jj + 1) fd (by omega) (qd.imp (fun d => absurd (show fd < 0 by rw [d.1]; decide) h76) id) (qF.si ⟨rfl, rfl⟩) qR (by omega)
              refine mv_aload_n (pc := 79) B d_Machine_opOf_79 rfl 5 rfl ?_
              refine mv_dup (pc := 80) B d_Machine_opOf_80 rfl ?_
              refine mv_getI (pc := 81) (ci := 9) (C := R_Machine) (T := F_Machine) (N := 13) B 12 rfl rfl (by decide) i_Machine (B.2.2.2.1 _ k_457) rfl d_Machine_opOf_81 ?_
              refine mv_iconst (pc := 84) (v := 1) B d_Machine_opOf_84 (by decide) ?_
              refine mv_iadd (pc := 85) B d_Machine_opOf_85 ?_
              refine mv_putI (pc := 86) (ci := 9) (C := R_Machine) (T := F_Machine) (N := 13) B 12 rfl rfl (by decide) i_Machine t_Machine_ok n_Machine (B.2.2.2.1 _ k_457) rfl rfl rfl rfl d_Machine_opOf_86 ?_
              refine mv_goto (pc := 89) (tgt := 96) B d_Machine_opOf_89 rfl ?_
              refine mv_iinc (pc := 96) (j := 1) (v := 1) B d_Machine_opOf_96 rfl (by decide) (by decide) rfl ?_
              refine mv_goto (pc := 99) (tgt := 27) B d_Machine_opOf_99 rfl ?_
              refine mv_lpick [0, 2, 3, 4, 5, 6] rfl ?_
              exact go
    intro jj q0 q1
    exact lp _ σ jj (-1) q0 (Or.inl ⟨rfl, fun i i1 i2 => absurd i2 (by omega)⟩) Fr.rf hR (Nat.lt_succ_self _)
  refine mv_aload_n (pc := 0) B d_Machine_opOf_0 rfl 0 rfl ?_
  refine mv_getR (pc := 1) (ci := 9) (C := R_Machine) (T := F_Machine) (N := 13) B 0 rfl rfl (by decide) i_Machine (B.2.2.2.1 _ k_440) rfl hR.2.2 d_Machine_opOf_1 ?_
  refine mv_getR (pc := 4) (ci := 7) (C := R_Program) (T := F_Program) (N := 19) B 18 rfl rfl (by decide) i_Program (B.2.2.2.1 _ k_366) rfl (hR.2.1 _ 18 59 rfl) d_Machine_opOf_4 ?_
  refine mv_astore_n (pc := 7) B d_Machine_opOf_7 rfl (by decide) rfl ?_
  refine mv_aload_n (pc := 8) B d_Machine_opOf_8 rfl 0 rfl ?_
  refine mv_lload_n (pc := 9) B d_Machine_opOf_9 rfl 2 rfl ?_
  refine mv_callVi (pc := 10) (n := 1) (ci := 8) (C := R_Tree) B (mK_ok sk sv) hNs rfl rfl (c_kd_Tree_leafOf_b l hi _ _ hR.2.1 hT) rfl (ma_goodc kc_Tree_leafOf) (B.2.2.2.1 _ k_1564) (B.2.2.2.1 _ k_1565) (B.2.2.2.1 _ k_1566) (B.2.2.2.1 _ k_9) ⟨by decide +kernel, by decide +kernel, by decide +kernel⟩ rfl d_Machine_opOf_10 rfl (Nat.le_of_ble_eq_true rfl) ⟨by decide, by decide⟩ ⟨by decide, by decide⟩ ⟨by decide, by decide⟩ (mv_noH hno _) (fun v10 σ10 h10 => ?_)
  obtain ⟨e10, d10⟩ := h10
  have e10 := e10.symm
  subst e10
  refine mv_istore (pc := 13) B d_Machine_opOf_13 (by decide) rfl ?_
  refine mv_iconst (pc := 15) (v := -1) B d_Machine_opOf_15 (by decide) ?_
  refine mv_istore (pc := 16) B d_Machine_opOf_16 (by decide) rfl ?_
  refine mv_aload_n (pc := 18) B d_Machine_opOf_18 rfl 2 rfl ?_
  refine mv_getR (pc := 19) (ci := 8) (C := R_Tree) (T := F_Tree) (N := 5) B 2 rfl rfl (by decide) i_Tree (B.2.2.2.1 _ k_295) rfl (hR.2.1 _ 2 62 rfl) d_Machine_opOf_19 ?_
  refine mv_iload (pc := 22) B d_Machine_opOf_22 1 rfl ?_
  refine mv_iald (pc := 24) B rfl (i32_in d10.1.1 d10.1.2.1) d_Machine_opOf_24 ?_
  refine mv_istore (pc := 25) B d_Machine_opOf_25 (by decide) rfl ?_
  refine mv_lpick [0, 1, 2, 3, 4, 5] rfl ?_
  exact lq _ d10 d10.1.1 d10.1.2.1 d10.1.2.2.1 d10.1.2.2.2.1 _ (Int.le_refl _) (Int.le_refl _)
set_option maxHeartbeats 4000000 in
set_option maxRecDepth 100000 in
theorem c_kd_Machine_opOf_c (l : Launch) {dA : FieldType → ClassId} {D : va_G} {al : Nat → Nat} {sk sv : Nat → Nat} (hi : mv_inj (mg dA D al me)) (σ : mv_H) (w9 : Int64) (hR : Rf 145 (mv_r σ)) (hT : TreeOK 145 48 σ) : mv_C l y_Machine_opOf (Cond.code y_Machine_opOf b_Machine_opOf 8 (Option.some Jvm.ClassFile.FieldType.int) :: ma) ({ frames := 1, cells := 0, slots := 0, locals := 24 }) (mg dA D al me) (mK sk sv) [.ref (al 64), .long w9] σ (mv_Ri (fun v σ1 => F12 σ σ1 ∧ DCq 145 σ w9 v)) := by
  refine mv_C.ofV (cc := b_Machine_opOf) (nL := 8) (ret := (Option.some Jvm.ClassFile.FieldType.int)) (by decide +kernel) rfl hi (Nat.le_of_ble_eq_true rfl) ?_
  intro p e s m below meth c B hNs hr hnm hno
  have lq : ∀ (lf : Int32) (hLX : LfX 145 48 σ w9 lf) (hl0 : 0 ≤ lf.toInt) (hl1 : lf.toInt < 97) (hl2 : 0 ≤ (mv_a σ 159 lf.toNatClampNeg).toInt) (hl3 : (mv_a σ 160 lf.toNatClampNeg).toInt ≤ 48), ∀ (jj : Int32) (q0 : (mv_a σ 159 lf.toNatClampNeg).toInt ≤ jj.toInt) (q1 : jj.toInt ≤ (mv_a σ 159 lf.toNatClampNeg).toInt), mv_V p l e ({ frames := 1, cells := 0, slots := 0, locals := 24 }) s m ([.ref (al 64), .long w9] : List Value).toArray below meth c (mg dA D al me) 8 0 0 (mv_Q (mg dA D al me) below s 0 0 (mv_Ri (fun v σ1 => F12 σ σ1 ∧ DCq 145 σ w9 v))) σ 27 [(6, .int jj), (5, .int (-1)), (4, .int lf), (3, .ref (al 156)), (0, .ref (al 64)), (1, .long w9)] [] := by
    intro lf hLX hl0 hl1 hl2 hl3
    obtain ⟨hL, hX⟩ := hLX
    have lp : ∀ (nn : Nat) (τ : mv_H) (jj : Int32) (fd : Int32) (q0 : (mv_a σ 159 lf.toNatClampNeg).toInt ≤ jj.toInt) (qd : ((fd = -1 ∧ ∀ i : Nat, (mv_a σ 159 lf.toNatClampNeg).toInt ≤ i → (i : Int) < jj.toInt → ¬ MtO 145 σ w9 (mv_a σ 157 i).toNatClampNeg) ∨ ∃ a : Nat, (a : Int) < (mv_i σ 145 10).toInt ∧ fd = nI a ∧ MtO 145 σ w9 a)) (qF : F12 σ τ) (qR : Rf 145 (mv_r τ)), (48 - jj.toInt).toNat < nn → mv_V p l e ({ frames := 1, cells := 0, slots := 0, locals := 24 }) s m ([.ref (al 64), .long w9] : List Value).toArray below meth c (mg dA D al me) 8 0 0 (mv_Q (mg dA D al me) below s 0 0 (mv_Ri (fun v σ1 => F12 σ σ1 ∧ DCq 145 σ w9 v))) τ 27 [(6, .int jj), (5, .int fd), (4, .int lf), (3, .ref (al 156)), (0, .ref (al 64)), (1, .long w9)] [] := by
      intro nn
      induction nn with
      | zero => intro τ jj fd q0 qd qF qR hm; exact absurd hm (Nat.not_lt_zero _)
      | succ nn ih =>
        intro τ jj fd q0 qd qF qR hm
        refine mv_iload (pc := 27) B d_Machine_opOf_27 0 rfl ?_
        refine mv_aload_n (pc := 29) B d_Machine_opOf_29 rfl 3 rfl ?_
        refine mv_getR (pc := 30) (ci := 8) (C := R_Tree) (T := F_Tree) (N := 5) B 3 rfl rfl (by decide) i_Tree (B.2.2.2.1 _ k_297) rfl (qR.2.1 _ 3 160 rfl) d_Machine_opOf_30 ?_
        refine mv_iload (pc := 33) B d_Machine_opOf_33 2 rfl ?_
        refine mv_iald (pc := 35) B rfl (i32_in (by omega) (by omega)) d_Machine_opOf_35 ?_
        refine mv_icmp_ge (pc := 36) (tgt := 102) B d_Machine_opOf_36 rfl (fun h36 => ?_) (fun h36 => ?_)
        · skip
          rw [Int32.le_iff_toInt_le] at h36
          have e15 : mv_a τ 160 = mv_a σ 160 := qF.2.1 _ (fun q => q)
          rw [e15] at h36
          have hD : DCq 145 σ w9 fd := by
            rcases qd with ⟨d1, d2⟩ | d1
            · refine Or.inl ⟨d1, fun a ha hm => ?_⟩
              obtain ⟨i, i1, i2, i3⟩ := hX a ha hm
              have i2 : (i : Int) < (mv_a σ 160 lf.toNatClampNeg).toInt := i2
              have i3 : (mv_a σ 157 i).toInt = (a : Int) := i3
              refine d2 i i1 (by omega) ?_
              have z9 := i32_cl (x := mv_a σ 157 i) (by omega)
              rw [show (mv_a σ 157 i).toNatClampNeg = a by omega]
              exact hm
            · exact Or.inr d1
          refine mv_iload (pc := 102) B d_Machine_opOf_102 1 rfl ?_
          exact mv_iret (pc := 104) B hr rfl d_Machine_opOf_104 (Nat.le_refl _) (Nat.le_refl _) ⟨_, rfl, qF, hD⟩
        · skip
          rw [Int32.le_iff_toInt_le] at h36
          have e15 : mv_a τ 160 = mv_a σ 160 := qF.2.1 _ (fun q => q)
          have e12 : mv_a τ 157 = mv_a σ 157 := qF.2.1 _ (fun q => q)
          have e5 : mv_b τ 150 = mv_b σ 150 := qF.2.2.1 _ (fun q => q)
          have e6 : mv_b τ 151 = mv_b σ 151 := qF.2.2.1 _ (fun q => q)
          rw [e15] at h36
          have ejj := i32_cl (x := jj) (by omega)
          have ho := hL.2.2.2.2 jj.toNatClampNeg (show (mv_a σ 159 lf.toNatClampNeg).toInt ≤ _ by omega) (show _ < (mv_a σ 160 lf.toNatClampNeg).toInt by omega)
          have ho0 : 0 ≤ (mv_a τ 157 jj.toNatClampNeg).toInt := by rw [e12]; exact ho.1
          have ho1 : (mv_a τ 157 jj.toNatClampNeg).toInt < (mv_i σ 145 10).toInt := by rw [e12]; exact ho.2.1
          have ho2 := ho.2.2.1
          have w2 : (jj + 1).toInt = jj.toInt + 1 := i32_inc (by omega)
          refine mv_aload_n (pc := 39) B d_Machine_opOf_39 rfl 3 rfl ?_
          refine mv_getR (pc := 40) (ci := 8) (C := R_Tree) (T := F_Tree) (N := 5) B 0 rfl rfl (by decide) i_Tree (B.2.2.2.1 _ k_292) rfl (qR.2.1 _ 0 157 rfl) d_Machine_opOf_40 ?_
          refine mv_iload (pc := 43) B d_Machine_opOf_43 0 rfl ?_
          refine mv_iald (pc := 45) B rfl (i32_in (by omega) (by omega)) d_Machine_opOf_45 ?_
          refine mv_istore (pc := 46) B d_Machine_opOf_46 (by decide) rfl ?_
          refine mv_lload_n (pc := 48) B d_Machine_opOf_48 rfl 6 rfl ?_
          refine mv_aload_n (pc := 49) B d_Machine_opOf_49 rfl 5 rfl ?_
          refine mv_getR (pc := 50) (ci := 9) (C := R_Machine) (T := F_Machine) (N := 13) B 0 rfl rfl (by decide) i_Machine (B.2.2.2.1 _ k_440) rfl qR.2.2 d_Machine_opOf_50 ?_
          refine mv_getR (pc := 53) (ci := 7) (C := R_Program) (T := F_Program) (N := 19) B 11 rfl rfl (by decide) i_Program (B.2.2.2.1 _ k_350) rfl (qR.2.1 _ 11 150 rfl) d_Machine_opOf_53 ?_
          refine mv_iload (pc := 56) B d_Machine_opOf_56 0 rfl ?_
          refine mv_lald (pc := 58) B rfl (i32_in ho0 (by omega)) d_Machine_opOf_58 ?_
          refine mv_land (pc := 59) B d_Machine_opOf_59 ?_
          refine mv_aload_n (pc := 60) B d_Machine_opOf_60 rfl 5 rfl ?_
          refine mv_getR (pc := 61) (ci := 9) (C := R_Machine) (T := F_Machine) (N := 13) B 0 rfl rfl (by decide) i_Machine (B.2.2.2.1 _ k_440) rfl qR.2.2 d_Machine_opOf_61 ?_
          refine mv_getR (pc := 64) (ci := 7) (C := R_Program) (T := F_Program) (N := 19) B 12 rfl rfl (by decide) i_Program (B.2.2.2.1 _ k_353) rfl (qR.2.1 _ 12 151 rfl) d_Machine_opOf_64 ?_
          refine mv_iload (pc := 67) B d_Machine_opOf_67 0 rfl ?_
          refine mv_lald (pc := 69) B rfl (i32_in ho0 (by omega)) d_Machine_opOf_69 ?_
          refine mv_lcmp (pc := 70) B d_Machine_opOf_70 ?_
          refine mv_if_ne (pc := 71) (tgt := 96) B d_Machine_opOf_71 rfl (fun h71 => ?_) (fun h71 => ?_)
          · skip
            have hne : ¬ MtO 145 σ w9 (mv_a σ 157 jj.toNatClampNeg).toNatClampNeg := fun q => h71 (by rw [e12, e5, e6]; exact (lg_cmp_eq _ _).mpr q)
            have go := ih τ (jj + 1) fd (by omega) (qd.imp (fun d => ⟨d.1, fun i i1 i2 => (by
              rw [w2] at i2
              by_cases z9 : i = jj.toNatClampNeg
              · rw [z9]; exact hne
              · exact d.2 i i1 (by omega))⟩) id) qF qR (by omega)
            refine mv_iinc (pc := 96) (j := 1) (v := 1) B d_Machine_opOf_96 rfl (by decide) (by decide) rfl ?_
            refine mv_goto (pc := 99) (tgt := 27) B d_Machine_opOf_99 rfl ?_
            refine mv_lpick [0, 2, 3, 4, 5, 6] rfl ?_
            exact go
          · skip
            have heq : MtO 145 σ w9 (mv_a σ 157 jj.toNatClampNeg).toNatClampNeg := by
              rw [e12, e5, e6] at h71
              exact (lg_cmp_eq _ _).mp h71
            refine mv_iload (pc := 74) B d_Machine_opOf_74 2 rfl ?_
            refine mv_if_lt (pc := 76) (tgt := 92) B d_Machine_opOf_76 rfl (fun h76 => ?_) (fun h76 => ?_)
            · skip
              have go := ih τ (jj + 1) (mv_a τ 157 jj.toNatClampNeg) (by omega) (Or.inr ⟨(mv_a σ 157 jj.toNatClampNeg).toNatClampNeg, by have z9 := i32_cl (x := mv_a σ 157 jj.toNatClampNeg) ho.1; have z8 : (mv_a σ 157 jj.toNatClampNeg).toInt < (mv_i σ 145 10).toInt := ho.2.1; omega, by rw [e12]; exact nI_o2 (i32_cl (x := mv_a σ 157 jj.toNatClampNeg) ho.1).symm, heq⟩) qF qR (by omega)
              refine mv_iload (pc := 92) B d_Machine_opOf_92 0 rfl ?_
              refine mv_istore (pc := 94) B d_Machine_opOf_94 (by decide) rfl ?_
              refine mv_iinc (pc := 96) (j := 2) (v := 1) B d_Machine_opOf_96 rfl (by decide) (by decide) rfl ?_
              refine mv_goto (pc := 99) (tgt := 27) B d_Machine_opOf_99 rfl ?_
              refine mv_lpick [0, 1, 3, 4, 5, 6] rfl ?_
              exact go
            · skip
              have go := ih (mv_si τ 64 12 (mv_i τ 64 12 + 1)) (jj + 1) fd (by omega) (qd.imp (fun d => absurd (show fd < 0 by rw [d.1]; decide) h76) id) (qF.si ⟨rfl, rfl⟩) qR (by omega)
              refine mv_aload_n (pc := 79) B d_Machine_opOf_79 rfl 5 rfl ?_
              refine mv_dup (pc := 80) B d_Machine_opOf_80 rfl ?_
              refine mv_getI (pc := 81) (ci := 9) (C := R_Machine) (T := F_Machine) (N := 13) B 12 rfl rfl (by decide) i_Machine (B.2.2.2.1 _ k_457) rfl d_Machine_opOf_81 ?_
              refine mv_iconst (pc := 84) (v := 1) B d_Machine_opOf_84 (by decide) ?_
              refine mv_iadd (pc := 85) B d_Machine_opOf_85 ?_
              refine mv_putI (pc := 86) (ci := 9) (C := R_Machine) (T := F_Machine) (N := 13) B 12 rfl rfl (by decide) i_Machine t_Machine_ok n_Machine (B.2.2.2.1 _ k_457) rfl rfl rfl rfl d_Machine_opOf_86 ?_
              refine mv_goto (pc := 89) (tgt := 96) B d_Machine_opOf_89 rfl ?_
              refine mv_iinc (pc := 96) (j := 1) (v := 1) B d_Machine_opOf_96 rfl (by decide) (by decide) rfl ?_
              refine mv_goto (pc := 99) (tgt := 27) B d_Machine_opOf_99 rfl ?_
              refine mv_lpick [0, 2, 3, 4, 5, 6] rfl ?_
              exact go
    intro jj q0 q1
    exact lp _ σ jj (-1) q0 (Or.inl ⟨rfl, fun i i1 i2 => absurd i2 (by omega)⟩) Fr.rf hR (Nat.lt_succ_self _)
  refine mv_aload_n (pc := 0) B d_Machine_opOf_0 rfl 0 rfl ?_
  refine mv_getR (pc := 1) (ci := 9) (C := R_Machine) (T := F_Machine) (N := 13) B 0 rfl rfl (by decide) i_Machine (B.2.2.2.1 _ k_440) rfl hR.2.2 d_Machine_opOf_1 ?_
  refine mv_getR (pc := 4) (ci := 7) (C := R_Program) (T := F_Program) (N := 19) B 18 rfl rfl (by decide) i_Program (B.2.2.2.1 _ k_366) rfl (hR.2.1 _ 18 156 rfl) d_Machine_opOf_4 ?_
  refine mv_astore_n (pc := 7) B d_Machine_opOf_7 rfl (by decide) rfl ?_
  refine mv_aload_n (pc := 8) B d_Machine_opOf_8 rfl 0 rfl ?_
  refine mv_lload_n (pc := 9) B d_Machine_opOf_9 rfl 2 rfl ?_
  refine mv_callVi (pc := 10) (n := 1) (ci := 8) (C := R_Tree) B (mK_ok sk sv) hNs rfl rfl (c_kd_Tree_leafOf_c l hi _ _ hR.2.1 hT) rfl (ma_goodc kc_Tree_leafOf) (B.2.2.2.1 _ k_1564) (B.2.2.2.1 _ k_1565) (B.2.2.2.1 _ k_1566) (B.2.2.2.1 _ k_9) ⟨by decide +kernel, by decide +kernel, by decide +kernel⟩ rfl d_Machine_opOf_10 rfl (Nat.le_of_ble_eq_true rfl) ⟨by decide, by decide⟩ ⟨by decide, by decide⟩ ⟨by decide, by decide⟩ (mv_noH hno _) (fun v10 σ10 h10 => ?_)
  obtain ⟨e10, d10⟩ := h10
  have e10 := e10.symm
  subst e10
  refine mv_istore (pc := 13) B d_Machine_opOf_13 (by decide) rfl ?_
  refine mv_iconst (pc := 15) (v := -1) B d_Machine_opOf_15 (by decide) ?_
  refine mv_istore (pc := 16) B d_Machine_opOf_16 (by decide) rfl ?_
  refine mv_aload_n (pc := 18) B d_Machine_opOf_18 rfl 2 rfl ?_
  refine mv_getR (pc := 19) (ci := 8) (C := R_Tree) (T := F_Tree) (N := 5) B 2 rfl rfl (by decide) i_Tree (B.2.2.2.1 _ k_295) rfl (hR.2.1 _ 2 159 rfl) d_Machine_opOf_19 ?_
  refine mv_iload (pc := 22) B d_Machine_opOf_22 1 rfl ?_
  refine mv_iald (pc := 24) B rfl (i32_in d10.1.1 d10.1.2.1) d_Machine_opOf_24 ?_
  refine mv_istore (pc := 25) B d_Machine_opOf_25 (by decide) rfl ?_
  refine mv_lpick [0, 1, 2, 3, 4, 5] rfl ?_
  exact lq _ d10 d10.1.1 d10.1.2.1 d10.1.2.2.1 d10.1.2.2.2.1 _ (Int.le_refl _) (Int.le_refl _)
set_option maxHeartbeats 4000000 in
set_option maxRecDepth 100000 in
theorem c_kd_Loom_decode_a (l : Launch) {dA : FieldType → ClassId} {D : va_G} {al : Nat → Nat} {ext : mv_Sh} {sk sv : Nat → Nat} (hi : mv_inj (mg dA D al ext)) (σ : mv_H) (w9 : Int64) (hR : Rf 32 (mv_r σ)) (hT : TreeOK 32 512 σ) : mv_C l y_Loom_decode (Cond.code y_Loom_decode b_Loom_decode 3 (Option.some Jvm.ClassFile.FieldType.int) :: ma) ({ frames := 2, cells := 0, slots := 0, locals := 51 }) (mg dA D al ext) (mK sk sv) [.ref (al 0), .long w9] σ (mv_Ri (fun v σ1 => FM σ σ1 ∧ DCq 32 σ w9 v)) := by
  refine mv_C.ofV (cc := b_Loom_decode) (nL := 3) (ret := (Option.some Jvm.ClassFile.FieldType.int)) (by decide +kernel) rfl hi (Nat.le_of_ble_eq_true rfl) ?_
  intro p e s m below meth c B hNs hr hnm hno
  refine mv_aload_n (pc := 0) B d_Loom_decode_0 rfl 0 rfl ?_
  refine mv_getR (pc := 1) (ci := 0) (C := R_Loom) (T := F_Loom) (N := 10) B 9 rfl rfl (by decide) i_Loom (B.2.2.2.1 _ k_495) rfl (hR.1 _ 9 _ rfl) d_Loom_decode_1 ?_
  refine mv_lload_n (pc := 4) B d_Loom_decode_4 rfl 1 rfl ?_
  refine mv_callVi (pc := 5) (n := 1) (ci := 9) (C := R_Machine) B (mK_ok sk sv) hNs rfl rfl (c_kd_Machine_opOf_a l hi _ _ hR hT) rfl (ma_goodc kc_Machine_opOf) (B.2.2.2.1 _ k_1560) (B.2.2.2.1 _ k_1561) (B.2.2.2.1 _ k_1562) (B.2.2.2.1 _ k_11) ⟨by decide +kernel, by decide +kernel, by decide +kernel⟩ rfl d_Loom_decode_5 rfl (Nat.le_of_ble_eq_true rfl) ⟨by decide, by decide⟩ ⟨by decide, by decide⟩ ⟨by decide, by decide⟩ (mv_noH hno _) (fun v5 σ5 h5 => ?_)
  exact mv_iret (pc := 8) B hr rfl d_Loom_decode_8 (Nat.le_refl _) (Nat.le_refl _) ⟨_, rfl, h5.1.fm, h5.2⟩
set_option maxHeartbeats 4000000 in
set_option maxRecDepth 100000 in
theorem c_kd_Loom_decode_b (l : Launch) {dA : FieldType → ClassId} {D : va_G} {al : Nat → Nat} {ext : mv_Sh} {sk sv : Nat → Nat} (hi : mv_inj (mg dA D al ext)) (σ : mv_H) (w9 : Int64) (hR : Rf 48 (mv_r σ)) (hT : TreeOK 48 512 σ) : mv_C l y_Loom_decode (Cond.code y_Loom_decode b_Loom_decode 3 (Option.some Jvm.ClassFile.FieldType.int) :: ma) ({ frames := 2, cells := 0, slots := 0, locals := 51 }) (mg dA D al ext) (mK sk sv) [.ref (al 0), .long w9] σ (mv_Ri (fun v σ1 => FM σ σ1 ∧ DCq 48 σ w9 v)) := by
  refine mv_C.ofV (cc := b_Loom_decode) (nL := 3) (ret := (Option.some Jvm.ClassFile.FieldType.int)) (by decide +kernel) rfl hi (Nat.le_of_ble_eq_true rfl) ?_
  intro p e s m below meth c B hNs hr hnm hno
  refine mv_aload_n (pc := 0) B d_Loom_decode_0 rfl 0 rfl ?_
  refine mv_getR (pc := 1) (ci := 0) (C := R_Loom) (T := F_Loom) (N := 10) B 9 rfl rfl (by decide) i_Loom (B.2.2.2.1 _ k_495) rfl (hR.1 _ 9 _ rfl) d_Loom_decode_1 ?_
  refine mv_lload_n (pc := 4) B d_Loom_decode_4 rfl 1 rfl ?_
  refine mv_callVi (pc := 5) (n := 1) (ci := 9) (C := R_Machine) B (mK_ok sk sv) hNs rfl rfl (c_kd_Machine_opOf_b l hi _ _ hR hT) rfl (ma_goodc kc_Machine_opOf) (B.2.2.2.1 _ k_1560) (B.2.2.2.1 _ k_1561) (B.2.2.2.1 _ k_1562) (B.2.2.2.1 _ k_11) ⟨by decide +kernel, by decide +kernel, by decide +kernel⟩ rfl d_Loom_decode_5 rfl (Nat.le_of_ble_eq_true rfl) ⟨by decide, by decide⟩ ⟨by decide, by decide⟩ ⟨by decide, by decide⟩ (mv_noH hno _) (fun v5 σ5 h5 => ?_)
  exact mv_iret (pc := 8) B hr rfl d_Loom_decode_8 (Nat.le_refl _) (Nat.le_refl _) ⟨_, rfl, h5.1.fm, h5.2⟩
set_option maxHeartbeats 4000000 in
set_option maxRecDepth 100000 in
theorem c_kd_Loom_decode_c (l : Launch) {dA : FieldType → ClassId} {D : va_G} {al : Nat → Nat} {sk sv : Nat → Nat} (hi : mv_inj (mg dA D al me)) (σ : mv_H) (w9 : Int64) (hR : Rf 145 (mv_r σ)) (hT : TreeOK 145 48 σ) : mv_C l y_Loom_decode (Cond.code y_Loom_decode b_Loom_decode 3 (Option.some Jvm.ClassFile.FieldType.int) :: ma) ({ frames := 2, cells := 0, slots := 0, locals := 51 }) (mg dA D al me) (mK sk sv) [.ref (al 0), .long w9] σ (mv_Ri (fun v σ1 => FM σ σ1 ∧ DCq 145 σ w9 v)) := by
  refine mv_C.ofV (cc := b_Loom_decode) (nL := 3) (ret := (Option.some Jvm.ClassFile.FieldType.int)) (by decide +kernel) rfl hi (Nat.le_of_ble_eq_true rfl) ?_
  intro p e s m below meth c B hNs hr hnm hno
  refine mv_aload_n (pc := 0) B d_Loom_decode_0 rfl 0 rfl ?_
  refine mv_getR (pc := 1) (ci := 0) (C := R_Loom) (T := F_Loom) (N := 10) B 9 rfl rfl (by decide) i_Loom (B.2.2.2.1 _ k_495) rfl (hR.1 _ 9 _ rfl) d_Loom_decode_1 ?_
  refine mv_lload_n (pc := 4) B d_Loom_decode_4 rfl 1 rfl ?_
  refine mv_callVi (pc := 5) (n := 1) (ci := 9) (C := R_Machine) B (mK_ok sk sv) hNs rfl rfl (c_kd_Machine_opOf_c l hi _ _ hR hT) rfl (ma_goodc kc_Machine_opOf) (B.2.2.2.1 _ k_1560) (B.2.2.2.1 _ k_1561) (B.2.2.2.1 _ k_1562) (B.2.2.2.1 _ k_11) ⟨by decide +kernel, by decide +kernel, by decide +kernel⟩ rfl d_Loom_decode_5 rfl (Nat.le_of_ble_eq_true rfl) ⟨by decide, by decide⟩ ⟨by decide, by decide⟩ ⟨by decide, by decide⟩ (mv_noH hno _) (fun v5 σ5 h5 => ?_)
  exact mv_iret (pc := 8) B hr rfl d_Loom_decode_8 (Nat.le_refl _) (Nat.le_refl _) ⟨_, rfl, h5.1.fm, h5.2⟩
set_option maxHeartbeats 4000000 in
set_option maxRecDepth 100000 in
theorem c_kd_Book_fits_1_x (l : Launch) {dA : FieldType → ClassId} {D : va_G} {al : Nat → Nat} {ext : mv_Sh} {sk sv : Nat → Nat} (hi : mv_inj (mg dA D al ext)) (σ : mv_H) (o9 : Int32) (w9 : Int64) (k : Nat) (hmr : mh (mv_r σ)) (hC : CO 74 k σ) (ho0 : 0 ≤ o9.toInt) (ho1 : o9.toInt < k) : mv_C l y_Book_fits_1 (Cond.code y_Book_fits_1 b_Book_fits_1 6 (Option.some Jvm.ClassFile.FieldType.boolean) :: ma) ({ frames := 0, cells := 0, slots := 0, locals := 0 }) (mg dA D al ext) (mK sk sv) [.ref (al 74), .int o9, .long w9] σ (mv_Ri (fun v σ1 => σ1 = σ ∧ ((v = 1 ∧ FTo 74 σ w9 o9.toNatClampNeg) ∨ (v = 0 ∧ ¬ FTo 74 σ w9 o9.toNatClampNeg)))) := by
  refine mv_C.ofV (cc := b_Book_fits_1) (nL := 6) (ret := (Option.some Jvm.ClassFile.FieldType.boolean)) (by decide +kernel) rfl hi (Nat.le_of_ble_eq_true rfl) ?_
  intro p e s m below meth c B hNs hr hnm hno
  obtain ⟨c1, c2, ⟨c3, c4⟩, c5⟩ := hC
  have ci : 0 ≤ (mv_a σ 84 o9.toNatClampNeg).toInt ∧ (mv_a σ 84 o9.toNatClampNeg).toInt + (mv_i σ 74 20).toInt ≤ 32768 := c5 o9.toNatClampNeg (by have := i32_cl ho0; omega)
  have cl20 := i32_cl c3
  have lp : ∀ (nn : Nat) (i9 : Int32) (q0 : 0 ≤ i9.toInt) (hn : ∀ i, i < i9.toNatClampNeg → FT1 (mv_a σ 87) (mv_a σ 84 o9.toNatClampNeg).toNatClampNeg (mv_i σ 74 20).toNatClampNeg w9 i), (20000 - i9.toInt).toNat < nn → mv_V p l e ({ frames := 0, cells := 0, slots := 0, locals := 0 }) s m ([.ref (al 74), .int o9, .long w9] : List Value).toArray below meth c (mg dA D al ext) 6 0 0 (mv_Q (mg dA D al ext) below s 0 0 (mv_Ri (fun v σ1 => σ1 = σ ∧ ((v = 1 ∧ FTo 74 σ w9 o9.toNatClampNeg) ∨ (v = 0 ∧ ¬ FTo 74 σ w9 o9.toNatClampNeg))))) σ 3 [(4, .int i9), (0, .ref (al 74)), (1, .int o9), (2, .long w9)] [] := by
    intro nn
    induction nn with
    | zero => intro i9 q0 hn hm; exact absurd hm (Nat.not_lt_zero _)
    | succ nn ih =>
      intro i9 q0 hn hm
      refine mv_iload (pc := 3) B d_Book_fits_1_3 0 rfl ?_
      refine mv_aload_n (pc := 5) B d_Book_fits_1_5 rfl 1 rfl ?_
      refine mv_getI (pc := 6) (ci := 12) (C := R_Book) (T := F_Book) (N := 65) B 20 rfl rfl (by decide) i_Book (B.2.2.2.1 _ k_1865) rfl d_Book_fits_1_6 ?_
      refine mv_icmp_ge (pc := 9) (tgt := 73) B d_Book_fits_1_9 rfl (fun h9 => ?_) (fun h9 => ?_)
      · skip
        rw [Int32.le_iff_toInt_le] at h9
        refine mv_iconst (pc := 73) (v := 1) B d_Book_fits_1_73 (by decide) ?_
        exact mv_iret (pc := 74) B hr rfl d_Book_fits_1_74 (Nat.le_refl _) (Nat.le_refl _) ⟨_, rfl, rfl, Or.inl ⟨rfl, fun i hi => hn i (by have a9 := i32_cl q0; omega)⟩⟩
      · skip
        rw [Int32.le_iff_toInt_le] at h9
        have w2 : (i9 + 1).toInt = i9.toInt + 1 := i32_inc (by omega)
        have a9 := i32_cl q0
        have hci := cl_inc q0 (show i9.toInt < 2147483647 by omega)
        have hcd : ∀ y : Int32, y.toInt = (mv_a σ 84 o9.toNatClampNeg).toInt + i9.toInt → mv_a σ 87 y.toNatClampNeg = mv_a σ 87 ((mv_a σ 84 o9.toNatClampNeg).toNatClampNeg + i9.toNatClampNeg) := fun y fy => cd_at fy ci.1 q0
        refine mv_aload_n (pc := 12) B d_Book_fits_1_12 rfl 1 rfl ?_
        refine mv_getR (pc := 13) (ci := 12) (C := R_Book) (T := F_Book) (N := 65) B 28 rfl rfl (by decide) i_Book (B.2.2.2.1 _ k_1873) rfl (hmr _ 28 _ rfl) d_Book_fits_1_13 ?_
        refine mv_aload_n (pc := 16) B d_Book_fits_1_16 rfl 1 rfl ?_
        refine mv_getR (pc := 17) (ci := 12) (C := R_Book) (T := F_Book) (N := 65) B 25 rfl rfl (by decide) i_Book (B.2.2.2.1 _ k_1870) rfl (hmr _ 25 _ rfl) d_Book_fits_1_17 ?_
        refine mv_iload_n (pc := 20) B d_Book_fits_1_20 rfl 2 rfl ?_
        refine mv_iald (pc := 21) B rfl (i32_in ho0 (show o9.toInt < 4100 by omega)) d_Book_fits_1_21 ?_
        refine mv_iload (pc := 22) B d_Book_fits_1_22 0 rfl ?_
        refine mv_iadd (pc := 24) B d_Book_fits_1_24 ?_
        refine mv_topi (fun y24 ey24 => ?_)
        have fy24 := i32_addE ey24 (by (try simp only [Int32.reduceToInt]); omega) (by (try simp only [Int32.reduceToInt]); omega)
        try simp only [Int32.reduceToInt] at fy24
        refine mv_bald (pc := 25) B rfl (i32_in (show 0 ≤ y24.toInt by omega) (show y24.toInt < 32768 by omega)) d_Book_fits_1_25 ?_
        refine mv_istore (pc := 26) B d_Book_fits_1_26 (by decide) rfl ?_
        refine mv_iload (pc := 28) B d_Book_fits_1_28 0 rfl ?_
        refine mv_bipush (pc := 30) (v := 48) B d_Book_fits_1_30 (by decide) ?_
        refine mv_icmp_eq (pc := 32) (tgt := 42) B d_Book_fits_1_32 rfl (fun h32 => ?_) (fun h32 => ?_)
        · skip
          have hx9 := Or.inl (b := mv_a σ 87 y24.toNatClampNeg = 49) h32
          refine mv_iload (pc := 42) B d_Book_fits_1_42 0 rfl ?_
          refine mv_bipush (pc := 44) (v := 48) B d_Book_fits_1_44 (by decide) ?_
          refine mv_isub (pc := 46) B d_Book_fits_1_46 ?_
          refine mv_i2l (pc := 47) B d_Book_fits_1_47 ?_
          refine mv_lload_n (pc := 48) B d_Book_fits_1_48 rfl 4 rfl ?_
          refine mv_aload_n (pc := 49) B d_Book_fits_1_49 rfl 2 rfl ?_
          refine mv_getI (pc := 50) (ci := 12) (C := R_Book) (T := F_Book) (N := 65) B 20 rfl rfl (by decide) i_Book (B.2.2.2.1 _ k_1865) rfl d_Book_fits_1_50 ?_
          refine mv_iconst (pc := 53) (v := 1) B d_Book_fits_1_53 (by decide) ?_
          refine mv_isub (pc := 54) B d_Book_fits_1_54 ?_
          refine mv_topi (fun y54 ey54 => ?_)
          have fy54 := i32_subE ey54 (by (try simp only [Int32.reduceToInt]); omega) (by (try simp only [Int32.reduceToInt]); omega)
          try simp only [Int32.reduceToInt] at fy54
          refine mv_iload (pc := 55) B d_Book_fits_1_55 1 rfl ?_
          refine mv_isub (pc := 57) B d_Book_fits_1_57 ?_
          refine mv_topi (fun y57 ey57 => ?_)
          have fy57 := i32_subE ey57 (by (try simp only [Int32.reduceToInt]); omega) (by (try simp only [Int32.reduceToInt]); omega)
          try simp only [Int32.reduceToInt] at fy57
          refine mv_lushr (pc := 58) B d_Book_fits_1_58 ?_
          refine mv_lconst (pc := 59) (v := 1) B d_Book_fits_1_59 (by decide) ?_
          refine mv_land (pc := 60) B d_Book_fits_1_60 ?_
          refine mv_lcmp (pc := 61) B d_Book_fits_1_61 ?_
          refine mv_if_eq (pc := 62) (tgt := 67) B d_Book_fits_1_62 rfl (fun h62 => ?_) (fun h62 => ?_)
          · skip
            have hft := (ft_c (q := (mv_i σ 74 20).toNatClampNeg - 1 - i9.toNatClampNeg) (by omega) (by omega)).1 h62
            have hf9 : FT1 (mv_a σ 87) (mv_a σ 84 o9.toNatClampNeg).toNatClampNeg (mv_i σ 74 20).toNatClampNeg w9 i9.toNatClampNeg := ⟨fun z => hft.1 ((hcd _ fy24).trans z), fun z => hft.2 ((hcd _ fy24).trans z)⟩
            refine mv_iinc (pc := 67) (j := 1) (v := 1) B d_Book_fits_1_67 rfl (by decide) (by decide) rfl ?_
            refine mv_goto (pc := 70) (tgt := 3) B d_Book_fits_1_70 rfl ?_
            refine mv_lpick [0, 2, 3, 4] rfl ?_
            exact ih _ (by omega) (ftS hn hci hf9) (by omega)
          · skip
            have hft := (ft_c (q := (mv_i σ 74 20).toNatClampNeg - 1 - i9.toNatClampNeg) (by omega) (by omega)).2 h62 hx9
            refine mv_iconst (pc := 65) (v := 0) B d_Book_fits_1_65 (by decide) ?_
            exact mv_iret (pc := 66) B hr rfl d_Book_fits_1_66 (Nat.le_refl _) (Nat.le_refl _) ⟨_, rfl, rfl, Or.inr ⟨rfl, fun q => hft ⟨fun z => (q i9.toNatClampNeg (by omega)).1 ((hcd _ fy24).symm.trans z), fun z => (q i9.toNatClampNeg (by omega)).2 ((hcd _ fy24).symm.trans z)⟩⟩⟩
        · skip
          refine mv_iload (pc := 35) B d_Book_fits_1_35 0 rfl ?_
          refine mv_bipush (pc := 37) (v := 49) B d_Book_fits_1_37 (by decide) ?_
          refine mv_icmp_ne (pc := 39) (tgt := 67) B d_Book_fits_1_39 rfl (fun h39 => ?_) (fun h39 => ?_)
          · skip
            have hf9 : FT1 (mv_a σ 87) (mv_a σ 84 o9.toNatClampNeg).toNatClampNeg (mv_i σ 74 20).toNatClampNeg w9 i9.toNatClampNeg := ⟨fun z => absurd ((hcd _ fy24).trans z) h32, fun z => absurd ((hcd _ fy24).trans z) h39⟩
            refine mv_iinc (pc := 67) (j := 1) (v := 1) B d_Book_fits_1_67 rfl (by decide) (by decide) rfl ?_
            refine mv_goto (pc := 70) (tgt := 3) B d_Book_fits_1_70 rfl ?_
            refine mv_lpick [0, 2, 3, 4] rfl ?_
            exact ih _ (by omega) (ftS hn hci hf9) (by omega)
          · skip
            have hx9 := Or.inr (a := mv_a σ 87 y24.toNatClampNeg = 48) h39
            refine mv_iload (pc := 42) B d_Book_fits_1_42 0 rfl ?_
            refine mv_bipush (pc := 44) (v := 48) B d_Book_fits_1_44 (by decide) ?_
            refine mv_isub (pc := 46) B d_Book_fits_1_46 ?_
            refine mv_i2l (pc := 47) B d_Book_fits_1_47 ?_
            refine mv_lload_n (pc := 48) B d_Book_fits_1_48 rfl 4 rfl ?_
            refine mv_aload_n (pc := 49) B d_Book_fits_1_49 rfl 2 rfl ?_
            refine mv_getI (pc := 50) (ci := 12) (C := R_Book) (T := F_Book) (N := 65) B 20 rfl rfl (by decide) i_Book (B.2.2.2.1 _ k_1865) rfl d_Book_fits_1_50 ?_
            refine mv_iconst (pc := 53) (v := 1) B d_Book_fits_1_53 (by decide) ?_
            refine mv_isub (pc := 54) B d_Book_fits_1_54 ?_
            refine mv_topi (fun y54 ey54 => ?_)
            have fy54 := i32_subE ey54 (by (try simp only [Int32.reduceToInt]); omega) (by (try simp only [Int32.reduceToInt]); omega)
            try simp only [Int32.reduceToInt] at fy54
            refine mv_iload (pc := 55) B d_Book_fits_1_55 1 rfl ?_
            refine mv_isub (pc := 57) B d_Book_fits_1_57 ?_
            refine mv_topi (fun y57 ey57 => ?_)
            have fy57 := i32_subE ey57 (by (try simp only [Int32.reduceToInt]); omega) (by (try simp only [Int32.reduceToInt]); omega)
            try simp only [Int32.reduceToInt] at fy57
            refine mv_lushr (pc := 58) B d_Book_fits_1_58 ?_
            refine mv_lconst (pc := 59) (v := 1) B d_Book_fits_1_59 (by decide) ?_
            refine mv_land (pc := 60) B d_Book_fits_1_60 ?_
            refine mv_lcmp (pc := 61) B d_Book_fits_1_61 ?_
            refine mv_if_eq (pc := 62) (tgt := 67) B d_Book_fits_1_62 rfl (fun h62 => ?_) (fun h62 => ?_)
            · skip
              have hft := (ft_c (q := (mv_i σ 74 20).toNatClampNeg - 1 - i9.toNatClampNeg) (by omega) (by omega)).1 h62
              have hf9 : FT1 (mv_a σ 87) (mv_a σ 84 o9.toNatClampNeg).toNatClampNeg (mv_i σ 74 20).toNatClampNeg w9 i9.toNatClampNeg := ⟨fun z => hft.1 ((hcd _ fy24).trans z), fun z => hft.2 ((hcd _ fy24).trans z)⟩
              refine mv_iinc (pc := 67) (j := 1) (v := 1) B d_Book_fits_1_67 rfl (by decide) (by decide) rfl ?_
              refine mv_goto (pc := 70) (tgt := 3) B d_Book_fits_1_70 rfl ?_
              refine mv_lpick [0, 2, 3, 4] rfl ?_
              exact ih _ (by omega) (ftS hn hci hf9) (by omega)
            · skip
              have hft := (ft_c (q := (mv_i σ 74 20).toNatClampNeg - 1 - i9.toNatClampNeg) (by omega) (by omega)).2 h62 hx9
              refine mv_iconst (pc := 65) (v := 0) B d_Book_fits_1_65 (by decide) ?_
              exact mv_iret (pc := 66) B hr rfl d_Book_fits_1_66 (Nat.le_refl _) (Nat.le_refl _) ⟨_, rfl, rfl, Or.inr ⟨rfl, fun q => hft ⟨fun z => (q i9.toNatClampNeg (by omega)).1 ((hcd _ fy24).symm.trans z), fun z => (q i9.toNatClampNeg (by omega)).2 ((hcd _ fy24).symm.trans z)⟩⟩⟩
  refine mv_iconst (pc := 0) (v := 0) B d_Book_fits_1_0 (by decide) ?_
  refine mv_istore (pc := 1) B d_Book_fits_1_1 (by decide) rfl ?_
  refine mv_lpick [0, 1, 2, 3] rfl ?_
  exact lp _ _ (by decide) (fun i hi => absurd hi (Nat.not_lt_zero _)) (Nat.lt_succ_self _)
set_option maxHeartbeats 4000000 in
set_option maxRecDepth 100000 in
theorem c_kd_Book_fits_1_y (l : Launch) {dA : FieldType → ClassId} {D : va_G} {al : Nat → Nat} {ext : mv_Sh} {sk sv : Nat → Nat} (hi : mv_inj (mg dA D al ext)) (σ : mv_H) (o9 : Int32) (w9 : Int64) (k : Nat) (hmr : mh (mv_r σ)) (hC : CO 108 k σ) (ho0 : 0 ≤ o9.toInt) (ho1 : o9.toInt < k) : mv_C l y_Book_fits_1 (Cond.code y_Book_fits_1 b_Book_fits_1 6 (Option.some Jvm.ClassFile.FieldType.boolean) :: ma) ({ frames := 0, cells := 0, slots := 0, locals := 0 }) (mg dA D al ext) (mK sk sv) [.ref (al 108), .int o9, .long w9] σ (mv_Ri (fun v σ1 => σ1 = σ ∧ ((v = 1 ∧ FTo 108 σ w9 o9.toNatClampNeg) ∨ (v = 0 ∧ ¬ FTo 108 σ w9 o9.toNatClampNeg)))) := by
  refine mv_C.ofV (cc := b_Book_fits_1) (nL := 6) (ret := (Option.some Jvm.ClassFile.FieldType.boolean)) (by decide +kernel) rfl hi (Nat.le_of_ble_eq_true rfl) ?_
  intro p e s m below meth c B hNs hr hnm hno
  obtain ⟨c1, c2, ⟨c3, c4⟩, c5⟩ := hC
  have ci : 0 ≤ (mv_a σ 118 o9.toNatClampNeg).toInt ∧ (mv_a σ 118 o9.toNatClampNeg).toInt + (mv_i σ 108 20).toInt ≤ 32768 := c5 o9.toNatClampNeg (by have := i32_cl ho0; omega)
  have cl20 := i32_cl c3
  have lp : ∀ (nn : Nat) (i9 : Int32) (q0 : 0 ≤ i9.toInt) (hn : ∀ i, i < i9.toNatClampNeg → FT1 (mv_a σ 121) (mv_a σ 118 o9.toNatClampNeg).toNatClampNeg (mv_i σ 108 20).toNatClampNeg w9 i), (20000 - i9.toInt).toNat < nn → mv_V p l e ({ frames := 0, cells := 0, slots := 0, locals := 0 }) s m ([.ref (al 108), .int o9, .long w9] : List Value).toArray below meth c (mg dA D al ext) 6 0 0 (mv_Q (mg dA D al ext) below s 0 0 (mv_Ri (fun v σ1 => σ1 = σ ∧ ((v = 1 ∧ FTo 108 σ w9 o9.toNatClampNeg) ∨ (v = 0 ∧ ¬ FTo 108 σ w9 o9.toNatClampNeg))))) σ 3 [(4, .int i9), (0, .ref (al 108)), (1, .int o9), (2, .long w9)] [] := by
    intro nn
    induction nn with
    | zero => intro i9 q0 hn hm; exact absurd hm (Nat.not_lt_zero _)
    | succ nn ih =>
      intro i9 q0 hn hm
      refine mv_iload (pc := 3) B d_Book_fits_1_3 0 rfl ?_
      refine mv_aload_n (pc := 5) B d_Book_fits_1_5 rfl 1 rfl ?_
      refine mv_getI (pc := 6) (ci := 12) (C := R_Book) (T := F_Book) (N := 65) B 20 rfl rfl (by decide) i_Book (B.2.2.2.1 _ k_1865) rfl d_Book_fits_1_6 ?_
      refine mv_icmp_ge (pc := 9) (tgt := 73) B d_Book_fits_1_9 rfl (fun h9 => ?_) (fun h9 => ?_)
      · skip
        rw [Int32.le_iff_toInt_le] at h9
        refine mv_iconst (pc := 73) (v := 1) B d_Book_fits_1_73 (by decide) ?_
        exact mv_iret (pc := 74) B hr rfl d_Book_fits_1_74 (Nat.le_refl _) (Nat.le_refl _) ⟨_, rfl, rfl, Or.inl ⟨rfl, fun i hi => hn i (by have a9 := i32_cl q0; omega)⟩⟩
      · skip
        rw [Int32.le_iff_toInt_le] at h9
        have w2 : (i9 + 1).toInt = i9.toInt + 1 := i32_inc (by omega)
        have a9 := i32_cl q0
        have hci := cl_inc q0 (show i9.toInt < 2147483647 by omega)
        have hcd : ∀ y : Int32, y.toInt = (mv_a σ 118 o9.toNatClampNeg).toInt + i9.toInt → mv_a σ 121 y.toNatClampNeg = mv_a σ 121 ((mv_a σ 118 o9.toNatClampNeg).toNatClampNeg + i9.toNatClampNeg) := fun y fy => cd_at fy ci.1 q0
        refine mv_aload_n (pc := 12) B d_Book_fits_1_12 rfl 1 rfl ?_
        refine mv_getR (pc := 13) (ci := 12) (C := R_Book) (T := F_Book) (N := 65) B 28 rfl rfl (by decide) i_Book (B.2.2.2.1 _ k_1873) rfl (hmr _ 28 _ rfl) d_Book_fits_1_13 ?_
        refine mv_aload_n (pc := 16) B d_Book_fits_1_16 rfl 1 rfl ?_
        refine mv_getR (pc := 17) (ci := 12) (C := R_Book) (T := F_Book) (N := 65) B 25 rfl rfl (by decide) i_Book (B.2.2.2.1 _ k_1870) rfl (hmr _ 25 _ rfl) d_Book_fits_1_17 ?_
        refine mv_iload_n (pc := 20) B d_Book_fits_1_20 rfl 2 rfl ?_
        refine mv_iald (pc := 21) B rfl (i32_in ho0 (show o9.toInt < 4100 by omega)) d_Book_fits_1_21 ?_
        refine mv_iload (pc := 22) B d_Book_fits_1_22 0 rfl ?_
        refine mv_iadd (pc := 24) B d_Book_fits_1_24 ?_
        refine mv_topi (fun y24 ey24 => ?_)
        have fy24 := i32_addE ey24 (by (try simp only [Int32.reduceToInt]); omega) (by (try simp only [Int32.reduceToInt]); omega)
        try simp only [Int32.reduceToInt] at fy24
        refine mv_bald (pc := 25) B rfl (i32_in (show 0 ≤ y24.toInt by omega) (show y24.toInt < 32768 by omega)) d_Book_fits_1_25 ?_
        refine mv_istore (pc := 26) B d_Book_fits_1_26 (by decide) rfl ?_
        refine mv_iload (pc := 28) B d_Book_fits_1_28 0 rfl ?_
        refine mv_bipush (pc := 30) (v := 48) B d_Book_fits_1_30 (by decide) ?_
        refine mv_icmp_eq (pc := 32) (tgt := 42) B d_Book_fits_1_32 rfl (fun h32 => ?_) (fun h32 => ?_)
        · skip
          have hx9 := Or.inl (b := mv_a σ 121 y24.toNatClampNeg = 49) h32
          refine mv_iload (pc := 42) B d_Book_fits_1_42 0 rfl ?_
          refine mv_bipush (pc := 44) (v := 48) B d_Book_fits_1_44 (by decide) ?_
          refine mv_isub (pc := 46) B d_Book_fits_1_46 ?_
          refine mv_i2l (pc := 47) B d_Book_fits_1_47 ?_
          refine mv_lload_n (pc := 48) B d_Book_fits_1_48 rfl 4 rfl ?_
          refine mv_aload_n (pc := 49) B d_Book_fits_1_49 rfl 2 rfl ?_
          refine mv_getI (pc := 50) (ci := 12) (C := R_Book) (T := F_Book) (N := 65) B 20 rfl rfl (by decide) i_Book (B.2.2.2.1 _ k_1865) rfl d_Book_fits_1_50 ?_
          refine mv_iconst (pc := 53) (v := 1) B d_Book_fits_1_53 (by decide) ?_
          refine mv_isub (pc := 54) B d_Book_fits_1_54 ?_
          refine mv_topi (fun y54 ey54 => ?_)
          have fy54 := i32_subE ey54 (by (try simp only [Int32.reduceToInt]); omega) (by (try simp only [Int32.reduceToInt]); omega)
          try simp only [Int32.reduceToInt] at fy54
          refine mv_iload (pc := 55) B d_Book_fits_1_55 1 rfl ?_
          refine mv_isub (pc := 57) B d_Book_fits_1_57 ?_
          refine mv_topi (fun y57 ey57 => ?_)
          have fy57 := i32_subE ey57 (by (try simp only [Int32.reduceToInt]); omega) (by (try simp only [Int32.reduceToInt]); omega)
          try simp only [Int32.reduceToInt] at fy57
          refine mv_lushr (pc := 58) B d_Book_fits_1_58 ?_
          refine mv_lconst (pc := 59) (v := 1) B d_Book_fits_1_59 (by decide) ?_
          refine mv_land (pc := 60) B d_Book_fits_1_60 ?_
          refine mv_lcmp (pc := 61) B d_Book_fits_1_61 ?_
          refine mv_if_eq (pc := 62) (tgt := 67) B d_Book_fits_1_62 rfl (fun h62 => ?_) (fun h62 => ?_)
          · skip
            have hft := (ft_c (q := (mv_i σ 108 20).toNatClampNeg - 1 - i9.toNatClampNeg) (by omega) (by omega)).1 h62
            have hf9 : FT1 (mv_a σ 121) (mv_a σ 118 o9.toNatClampNeg).toNatClampNeg (mv_i σ 108 20).toNatClampNeg w9 i9.toNatClampNeg := ⟨fun z => hft.1 ((hcd _ fy24).trans z), fun z => hft.2 ((hcd _ fy24).trans z)⟩
            refine mv_iinc (pc := 67) (j := 1) (v := 1) B d_Book_fits_1_67 rfl (by decide) (by decide) rfl ?_
            refine mv_goto (pc := 70) (tgt := 3) B d_Book_fits_1_70 rfl ?_
            refine mv_lpick [0, 2, 3, 4] rfl ?_
            exact ih _ (by omega) (ftS hn hci hf9) (by omega)
          · skip
            have hft := (ft_c (q := (mv_i σ 108 20).toNatClampNeg - 1 - i9.toNatClampNeg) (by omega) (by omega)).2 h62 hx9
            refine mv_iconst (pc := 65) (v := 0) B d_Book_fits_1_65 (by decide) ?_
            exact mv_iret (pc := 66) B hr rfl d_Book_fits_1_66 (Nat.le_refl _) (Nat.le_refl _) ⟨_, rfl, rfl, Or.inr ⟨rfl, fun q => hft ⟨fun z => (q i9.toNatClampNeg (by omega)).1 ((hcd _ fy24).symm.trans z), fun z => (q i9.toNatClampNeg (by omega)).2 ((hcd _ fy24).symm.trans z)⟩⟩⟩
        · skip
          refine mv_iload (pc := 35) B d_Book_fits_1_35 0 rfl ?_
          refine mv_bipush (pc := 37) (v := 49) B d_Book_fits_1_37 (by decide) ?_
          refine mv_icmp_ne (pc := 39) (tgt := 67) B d_Book_fits_1_39 rfl (fun h39 => ?_) (fun h39 => ?_)
          · skip
            have hf9 : FT1 (mv_a σ 121) (mv_a σ 118 o9.toNatClampNeg).toNatClampNeg (mv_i σ 108 20).toNatClampNeg w9 i9.toNatClampNeg := ⟨fun z => absurd ((hcd _ fy24).trans z) h32, fun z => absurd ((hcd _ fy24).trans z) h39⟩
            refine mv_iinc (pc := 67) (j := 1) (v := 1) B d_Book_fits_1_67 rfl (by decide) (by decide) rfl ?_
            refine mv_goto (pc := 70) (tgt := 3) B d_Book_fits_1_70 rfl ?_
            refine mv_lpick [0, 2, 3, 4] rfl ?_
            exact ih _ (by omega) (ftS hn hci hf9) (by omega)
          · skip
            have hx9 := Or.inr (a := mv_a σ 121 y24.toNatClampNeg = 48) h39
            refine mv_iload (pc := 42) B d_Book_fits_1_42 0 rfl ?_
            refine mv_bipush (pc := 44) (v := 48) B d_Book_fits_1_44 (by decide) ?_
            refine mv_isub (pc := 46) B d_Book_fits_1_46 ?_
            refine mv_i2l (pc := 47) B d_Book_fits_1_47 ?_
            refine mv_lload_n (pc := 48) B d_Book_fits_1_48 rfl 4 rfl ?_
            refine mv_aload_n (pc := 49) B d_Book_fits_1_49 rfl 2 rfl ?_
            refine mv_getI (pc := 50) (ci := 12) (C := R_Book) (T := F_Book) (N := 65) B 20 rfl rfl (by decide) i_Book (B.2.2.2.1 _ k_1865) rfl d_Book_fits_1_50 ?_
            refine mv_iconst (pc := 53) (v := 1) B d_Book_fits_1_53 (by decide) ?_
            refine mv_isub (pc := 54) B d_Book_fits_1_54 ?_
            refine mv_topi (fun y54 ey54 => ?_)
            have fy54 := i32_subE ey54 (by (try simp only [Int32.reduceToInt]); omega) (by (try simp only [Int32.reduceToInt]); omega)
            try simp only [Int32.reduceToInt] at fy54
            refine mv_iload (pc := 55) B d_Book_fits_1_55 1 rfl ?_
            refine mv_isub (pc := 57) B d_Book_fits_1_57 ?_
            refine mv_topi (fun y57 ey57 => ?_)
            have fy57 := i32_subE ey57 (by (try simp only [Int32.reduceToInt]); omega) (by (try simp only [Int32.reduceToInt]); omega)
            try simp only [Int32.reduceToInt] at fy57
            refine mv_lushr (pc := 58) B d_Book_fits_1_58 ?_
            refine mv_lconst (pc := 59) (v := 1) B d_Book_fits_1_59 (by decide) ?_
            refine mv_land (pc := 60) B d_Book_fits_1_60 ?_
            refine mv_lcmp (pc := 61) B d_Book_fits_1_61 ?_
            refine mv_if_eq (pc := 62) (tgt := 67) B d_Book_fits_1_62 rfl (fun h62 => ?_) (fun h62 => ?_)
            · skip
              have hft := (ft_c (q := (mv_i σ 108 20).toNatClampNeg - 1 - i9.toNatClampNeg) (by omega) (by omega)).1 h62
              have hf9 : FT1 (mv_a σ 121) (mv_a σ 118 o9.toNatClampNeg).toNatClampNeg (mv_i σ 108 20).toNatClampNeg w9 i9.toNatClampNeg := ⟨fun z => hft.1 ((hcd _ fy24).trans z), fun z => hft.2 ((hcd _ fy24).trans z)⟩
              refine mv_iinc (pc := 67) (j := 1) (v := 1) B d_Book_fits_1_67 rfl (by decide) (by decide) rfl ?_
              refine mv_goto (pc := 70) (tgt := 3) B d_Book_fits_1_70 rfl ?_
              refine mv_lpick [0, 2, 3, 4] rfl ?_
              exact ih _ (by omega) (ftS hn hci hf9) (by omega)
            · skip
              have hft := (ft_c (q := (mv_i σ 108 20).toNatClampNeg - 1 - i9.toNatClampNeg) (by omega) (by omega)).2 h62 hx9
              refine mv_iconst (pc := 65) (v := 0) B d_Book_fits_1_65 (by decide) ?_
              exact mv_iret (pc := 66) B hr rfl d_Book_fits_1_66 (Nat.le_refl _) (Nat.le_refl _) ⟨_, rfl, rfl, Or.inr ⟨rfl, fun q => hft ⟨fun z => (q i9.toNatClampNeg (by omega)).1 ((hcd _ fy24).symm.trans z), fun z => (q i9.toNatClampNeg (by omega)).2 ((hcd _ fy24).symm.trans z)⟩⟩⟩
  refine mv_iconst (pc := 0) (v := 0) B d_Book_fits_1_0 (by decide) ?_
  refine mv_istore (pc := 1) B d_Book_fits_1_1 (by decide) rfl ?_
  refine mv_lpick [0, 1, 2, 3] rfl ?_
  exact lp _ _ (by decide) (fun i hi => absurd hi (Nat.not_lt_zero _)) (Nat.lt_succ_self _)
set_option maxHeartbeats 4000000 in
set_option maxRecDepth 100000 in
theorem c_kd_Book_decode_x (l : Launch) {dA : FieldType → ClassId} {D : va_G} {al : Nat → Nat} {ext : mv_Sh} {sk sv : Nat → Nat} (hi : mv_inj (mg dA D al ext)) (σ : mv_H) (w9 : Int64) (k : Nat) (hmr : mh (mv_r σ)) (hC : CO 74 k σ) : mv_C l y_Book_decode (Cond.code y_Book_decode b_Book_decode 5 (Option.some Jvm.ClassFile.FieldType.int) :: ma) ({ frames := 1, cells := 0, slots := 0, locals := 25 }) (mg dA D al ext) (mK sk sv) [.ref (al 74), .long w9] σ (mv_Ri (fun v σ1 => MB 74 σ σ1 ∧ ((mv_i σ1 74 63 = -1 ∧ ∀ a : Nat, (a : Int) < k → ¬ FTo 74 σ w9 a) ∨ ∃ a : Nat, (a : Int) < k ∧ mv_i σ1 74 63 = nI a ∧ FTo 74 σ w9 a))) := by
  refine mv_C.ofV (cc := b_Book_decode) (nL := 5) (ret := (Option.some Jvm.ClassFile.FieldType.int)) (by decide +kernel) rfl hi (Nat.le_of_ble_eq_true rfl) ?_
  intro p e s m below meth c B hNs hr hnm hno
  have lp : ∀ (nn : Nat) (τ : mv_H) (i9 : Int32) (n9 : Int32) (hF : MB 74 σ τ) (hc9 : (mv_i τ 74 63 = -1 ∧ n9 = 0 ∧ ∀ a : Nat, (a : Int) < i9.toInt → ¬ FTo 74 σ w9 a) ∨ (¬ n9 = 0 ∧ ∃ a : Nat, (a : Int) < k ∧ mv_i τ 74 63 = nI a ∧ FTo 74 σ w9 a)) (q0 : 0 ≤ i9.toInt) (p0 : 0 ≤ n9.toInt) (p1 : n9.toInt ≤ i9.toInt), (20000 - i9.toInt).toNat < nn → mv_V p l e ({ frames := 1, cells := 0, slots := 0, locals := 25 }) s m ([.ref (al 74), .long w9] : List Value).toArray below meth c (mg dA D al ext) 5 0 0 (mv_Q (mg dA D al ext) below s 0 0 (mv_Ri (fun v σ1 => MB 74 σ σ1 ∧ ((mv_i σ1 74 63 = -1 ∧ ∀ a : Nat, (a : Int) < k → ¬ FTo 74 σ w9 a) ∨ ∃ a : Nat, (a : Int) < k ∧ mv_i σ1 74 63 = nI a ∧ FTo 74 σ w9 a)))) τ 10 [(4, .int i9), (3, .int n9), (0, .ref (al 74)), (1, .long w9)] [] := by
    intro nn
    induction nn with
    | zero => intro τ i9 n9 hF hc9 q0 p0 p1 hm; exact absurd hm (Nat.not_lt_zero _)
    | succ nn ih =>
      intro τ i9 n9 hF hc9 q0 p0 p1 hm
      have hmt : mh (mv_r τ) := by rw [hF.2.2.1]; exact hmr
      have hCt : CO 74 k τ := hC.fr (hF.1 _ _ (by omega)) (hF.1 _ _ (by omega)) (fun j => hF.2.2.2.1 _ _ (by omega))
      have eT : ∀ a, FTo 74 τ w9 a = FTo 74 σ w9 a := fun a => by unfold FTo; rw [hF.1 74 20 (by omega), show mv_a τ (74 + 13) = mv_a σ (74 + 13) from funext fun j => hF.2.2.2.1 _ _ (by omega), show mv_a τ (74 + 10) = mv_a σ (74 + 10) from funext fun j => hF.2.2.2.1 _ _ (by omega)]
      refine mv_iload (pc := 10) B d_Book_decode_10 0 rfl ?_
      refine mv_aload_n (pc := 12) B d_Book_decode_12 rfl 2 rfl ?_
      refine mv_getI (pc := 13) (ci := 12) (C := R_Book) (T := F_Book) (N := 65) B 29 rfl rfl (by decide) i_Book (B.2.2.2.1 _ k_1874) rfl d_Book_decode_13 ?_
      refine mv_icmp_ge (pc := 16) (tgt := 51) B d_Book_decode_16 rfl (fun h16 => ?_) (fun h16 => ?_)
      · skip
        rw [Int32.le_iff_toInt_le] at h16
        have hk1 := hCt.1
        refine mv_iload_n (pc := 51) B d_Book_decode_51 rfl 1 rfl ?_
        exact mv_iret (pc := 52) B hr rfl d_Book_decode_52 (Nat.le_refl _) (Nat.le_refl _) ⟨_, rfl, hF, hc9.elim (fun q => Or.inl ⟨q.1, fun a ha => q.2.2 a (by omega)⟩) (fun q => Or.inr q.2)⟩
      · skip
        rw [Int32.le_iff_toInt_le] at h16
        have hk1 := hCt.1
        have hk2 := hCt.2.1
        have w2 : (i9 + 1).toInt = i9.toInt + 1 := i32_inc (by omega)
        have w3 : (n9 + 1).toInt = n9.toInt + 1 := i32_inc (by omega)
        have a9 := i32_cl q0
        refine mv_aload_n (pc := 19) B d_Book_decode_19 rfl 2 rfl ?_
        refine mv_iload (pc := 20) B d_Book_decode_20 0 rfl ?_
        refine mv_lload_n (pc := 22) B d_Book_decode_22 rfl 3 rfl ?_
        refine mv_callVi (pc := 23) (n := 2) (ci := 12) (C := R_Book) B (mK_ok sk sv) hNs rfl rfl (c_kd_Book_fits_1_x l hi _ _ _ k hmt hCt q0 (by omega)) rfl (ma_goodc kc_Book_fits_1) (B.2.2.2.1 _ k_2374) (B.2.2.2.1 _ k_2375) (B.2.2.2.1 _ k_2376) (B.2.2.2.1 _ k_13) ⟨by decide +kernel, by decide +kernel, by decide +kernel⟩ rfl d_Book_decode_23 rfl (Nat.le_of_ble_eq_true rfl) ⟨by decide, by decide⟩ ⟨by decide, by decide⟩ ⟨by decide, by decide⟩ (mv_noH hno _) (fun v23 σ23 h23 => ?_)
        obtain ⟨e23, z23⟩ := h23
        have e23 := e23.symm
        subst e23
        rw [eT] at z23
        refine mv_if_ne (pc := 26) (tgt := 32) B d_Book_decode_26 rfl (fun h26 => ?_) (fun h26 => ?_)
        · skip
          have hfi := (z23.resolve_right (fun z => h26 z.1)).2
          refine mv_iload_n (pc := 32) B d_Book_decode_32 rfl 1 rfl ?_
          refine mv_if_ne (pc := 33) (tgt := 42) B d_Book_decode_33 rfl (fun h33 => ?_) (fun h33 => ?_)
          · skip
            refine mv_iinc (pc := 42) (j := 1) (v := 1) B d_Book_decode_42 rfl (by decide) (by decide) rfl ?_
            refine mv_iinc (pc := 45) (j := 1) (v := 1) B d_Book_decode_45 rfl (by decide) (by decide) rfl ?_
            refine mv_goto (pc := 48) (tgt := 10) B d_Book_decode_48 rfl ?_
            refine mv_lpick [0, 1, 2, 3] rfl ?_
            exact ih _ _ _ hF (hc9.elim (fun q => absurd q.2.1 h33) (fun q => Or.inr ⟨(fun z => by have z := congrArg Int32.toInt z; rw [w3] at z; have z : n9.toInt + 1 = 0 := z; omega), q.2⟩)) (by omega) (by omega) (by omega) (by omega)
          · skip
            refine mv_aload_n (pc := 36) B d_Book_decode_36 rfl 2 rfl ?_
            refine mv_iload (pc := 37) B d_Book_decode_37 0 rfl ?_
            refine mv_putI (pc := 39) (ci := 12) (C := R_Book) (T := F_Book) (N := 65) B 63 rfl rfl (by decide) i_Book t_Book_ok n_Book (B.2.2.2.1 _ k_1912) rfl rfl rfl rfl d_Book_decode_39 ?_
            refine mv_iinc (pc := 42) (j := 1) (v := 1) B d_Book_decode_42 rfl (by decide) (by decide) rfl ?_
            refine mv_iinc (pc := 45) (j := 1) (v := 1) B d_Book_decode_45 rfl (by decide) (by decide) rfl ?_
            refine mv_goto (pc := 48) (tgt := 10) B d_Book_decode_48 rfl ?_
            refine mv_lpick [0, 1, 2, 3] rfl ?_
            exact ih _ _ _ (hF.si ⟨rfl, Or.inr (Or.inr (Or.inr rfl))⟩) (Or.inr ⟨(fun z => by have z := congrArg Int32.toInt z; rw [w3] at z; have z : n9.toInt + 1 = 0 := z; omega), i9.toNatClampNeg, by omega, by show mv_i (mv_si τ 74 63 i9) 74 63 = _; rw [mv_si_s]; exact nI_o2 a9.symm, hfi⟩) (by omega) (by omega) (by omega) (by omega)
        · skip
          have hnf := (z23.resolve_left (fun z => by rw [h26] at z; exact absurd z.1 (by decide))).2
          refine mv_goto (pc := 29) (tgt := 45) B d_Book_decode_29 rfl ?_
          refine mv_iinc (pc := 45) (j := 0) (v := 1) B d_Book_decode_45 rfl (by decide) (by decide) rfl ?_
          refine mv_goto (pc := 48) (tgt := 10) B d_Book_decode_48 rfl ?_
          refine mv_lpick [0, 1, 2, 3] rfl ?_
          exact ih _ _ _ hF (hc9.imp (fun q => ⟨q.1, q.2.1, fun a ha => (by
            by_cases z9 : a = i9.toNatClampNeg
            · rw [z9]; exact hnf
            · exact q.2.2 a (by omega))⟩) id) (by omega) (by omega) (by omega) (by omega)
  refine mv_iconst (pc := 0) (v := 0) B d_Book_decode_0 (by decide) ?_
  refine mv_istore_n (pc := 1) B d_Book_decode_1 rfl (by decide) rfl ?_
  refine mv_aload_n (pc := 2) B d_Book_decode_2 rfl 1 rfl ?_
  refine mv_iconst (pc := 3) (v := -1) B d_Book_decode_3 (by decide) ?_
  refine mv_putI (pc := 4) (ci := 12) (C := R_Book) (T := F_Book) (N := 65) B 63 rfl rfl (by decide) i_Book t_Book_ok n_Book (B.2.2.2.1 _ k_1912) rfl rfl rfl rfl d_Book_decode_4 ?_
  refine mv_iconst (pc := 7) (v := 0) B d_Book_decode_7 (by decide) ?_
  refine mv_istore (pc := 8) B d_Book_decode_8 (by decide) rfl ?_
  refine mv_lpick [0, 1, 2, 3] rfl ?_
  exact lp _ _ _ _ (Fx.rf.si ⟨rfl, Or.inr (Or.inr (Or.inr rfl))⟩) (Or.inl ⟨rfl, rfl, fun a ha => absurd ha (by show ¬ (a : Int) < 0; omega)⟩) (by decide) (by decide) (by decide) (Nat.lt_succ_self _)
set_option maxHeartbeats 4000000 in
set_option maxRecDepth 100000 in
theorem c_kd_Book_op_x (l : Launch) {dA : FieldType → ClassId} {D : va_G} {al : Nat → Nat} {ext : mv_Sh} {sk sv : Nat → Nat} (hi : mv_inj (mg dA D al ext)) (σ : mv_H)  : mv_C l y_Book_op (Cond.code y_Book_op b_Book_op 1 (Option.some Jvm.ClassFile.FieldType.int) :: ma) ({ frames := 0, cells := 0, slots := 0, locals := 0 }) (mg dA D al ext) (mK sk sv) [.ref (al 74)] σ (mv_Ri (fun v σ1 => σ1 = σ ∧ v = mv_i σ 74 63)) := by
  refine mv_C.ofV (cc := b_Book_op) (nL := 1) (ret := (Option.some Jvm.ClassFile.FieldType.int)) (by decide +kernel) rfl hi (Nat.le_of_ble_eq_true rfl) ?_
  intro p e s m below meth c B hNs hr hnm hno
  refine mv_aload_n (pc := 0) B d_Book_op_0 rfl 0 rfl ?_
  refine mv_getI (pc := 1) (ci := 12) (C := R_Book) (T := F_Book) (N := 65) B 63 rfl rfl (by decide) i_Book (B.2.2.2.1 _ k_1912) rfl d_Book_op_1 ?_
  exact mv_iret (pc := 4) B hr rfl d_Book_op_4 (Nat.le_refl _) (Nat.le_refl _) ⟨_, rfl, rfl, rfl⟩
set_option maxHeartbeats 4000000 in
set_option maxRecDepth 100000 in
theorem c_kd_Book_decode_y (l : Launch) {dA : FieldType → ClassId} {D : va_G} {al : Nat → Nat} {ext : mv_Sh} {sk sv : Nat → Nat} (hi : mv_inj (mg dA D al ext)) (σ : mv_H) (w9 : Int64) (k : Nat) (hmr : mh (mv_r σ)) (hC : CO 108 k σ) : mv_C l y_Book_decode (Cond.code y_Book_decode b_Book_decode 5 (Option.some Jvm.ClassFile.FieldType.int) :: ma) ({ frames := 1, cells := 0, slots := 0, locals := 25 }) (mg dA D al ext) (mK sk sv) [.ref (al 108), .long w9] σ (mv_Ri (fun v σ1 => MB 108 σ σ1 ∧ ((mv_i σ1 108 63 = -1 ∧ ∀ a : Nat, (a : Int) < k → ¬ FTo 108 σ w9 a) ∨ ∃ a : Nat, (a : Int) < k ∧ mv_i σ1 108 63 = nI a ∧ FTo 108 σ w9 a))) := by
  refine mv_C.ofV (cc := b_Book_decode) (nL := 5) (ret := (Option.some Jvm.ClassFile.FieldType.int)) (by decide +kernel) rfl hi (Nat.le_of_ble_eq_true rfl) ?_
  intro p e s m below meth c B hNs hr hnm hno
  have lp : ∀ (nn : Nat) (τ : mv_H) (i9 : Int32) (n9 : Int32) (hF : MB 108 σ τ) (hc9 : (mv_i τ 108 63 = -1 ∧ n9 = 0 ∧ ∀ a : Nat, (a : Int) < i9.toInt → ¬ FTo 108 σ w9 a) ∨ (¬ n9 = 0 ∧ ∃ a : Nat, (a : Int) < k ∧ mv_i τ 108 63 = nI a ∧ FTo 108 σ w9 a)) (q0 : 0 ≤ i9.toInt) (p0 : 0 ≤ n9.toInt) (p1 : n9.toInt ≤ i9.toInt), (20000 - i9.toInt).toNat < nn → mv_V p l e ({ frames := 1, cells := 0, slots := 0, locals := 25 }) s m ([.ref (al 108), .long w9] : List Value).toArray below meth c (mg dA D al ext) 5 0 0 (mv_Q (mg dA D al ext) below s 0 0 (mv_Ri (fun v σ1 => MB 108 σ σ1 ∧ ((mv_i σ1 108 63 = -1 ∧ ∀ a : Nat, (a : Int) < k → ¬ FTo 108 σ w9 a) ∨ ∃ a : Nat, (a : Int) < k ∧ mv_i σ1 108 63 = nI a ∧ FTo 108 σ w9 a)))) τ 10 [(4, .int i9), (3, .int n9), (0, .ref (al 108)), (1, .long w9)] [] := by
    intro nn
    induction nn with
    | zero => intro τ i9 n9 hF hc9 q0 p0 p1 hm; exact absurd hm (Nat.not_lt_zero _)
    | succ nn ih =>
      intro τ i9 n9 hF hc9 q0 p0 p1 hm
      have hmt : mh (mv_r τ) := by rw [hF.2.2.1]; exact hmr
      have hCt : CO 108 k τ := hC.fr (hF.1 _ _ (by omega)) (hF.1 _ _ (by omega)) (fun j => hF.2.2.2.1 _ _ (by omega))
      have eT : ∀ a, FTo 108 τ w9 a = FTo 108 σ w9 a := fun a => by unfold FTo; rw [hF.1 108 20 (by omega), show mv_a τ (108 + 13) = mv_a σ (108 + 13) from funext fun j => hF.2.2.2.1 _ _ (by omega), show mv_a τ (108 + 10) = mv_a σ (108 + 10) from funext fun j => hF.2.2.2.1 _ _ (by omega)]
      refine mv_iload (pc := 10) B d_Book_decode_10 0 rfl ?_
      refine mv_aload_n (pc := 12) B d_Book_decode_12 rfl 2 rfl ?_
      refine mv_getI (pc := 13) (ci := 12) (C := R_Book) (T := F_Book) (N := 65) B 29 rfl rfl (by decide) i_Book (B.2.2.2.1 _ k_1874) rfl d_Book_decode_13 ?_
      refine mv_icmp_ge (pc := 16) (tgt := 51) B d_Book_decode_16 rfl (fun h16 => ?_) (fun h16 => ?_)
      · skip
        rw [Int32.le_iff_toInt_le] at h16
        have hk1 := hCt.1
        refine mv_iload_n (pc := 51) B d_Book_decode_51 rfl 1 rfl ?_
        exact mv_iret (pc := 52) B hr rfl d_Book_decode_52 (Nat.le_refl _) (Nat.le_refl _) ⟨_, rfl, hF, hc9.elim (fun q => Or.inl ⟨q.1, fun a ha => q.2.2 a (by omega)⟩) (fun q => Or.inr q.2)⟩
      · skip
        rw [Int32.le_iff_toInt_le] at h16
        have hk1 := hCt.1
        have hk2 := hCt.2.1
        have w2 : (i9 + 1).toInt = i9.toInt + 1 := i32_inc (by omega)
        have w3 : (n9 + 1).toInt = n9.toInt + 1 := i32_inc (by omega)
        have a9 := i32_cl q0
        refine mv_aload_n (pc := 19) B d_Book_decode_19 rfl 2 rfl ?_
        refine mv_iload (pc := 20) B d_Book_decode_20 0 rfl ?_
        refine mv_lload_n (pc := 22) B d_Book_decode_22 rfl 3 rfl ?_
        refine mv_callVi (pc := 23) (n := 2) (ci := 12) (C := R_Book) B (mK_ok sk sv) hNs rfl rfl (c_kd_Book_fits_1_y l hi _ _ _ k hmt hCt q0 (by omega)) rfl (ma_goodc kc_Book_fits_1) (B.2.2.2.1 _ k_2374) (B.2.2.2.1 _ k_2375) (B.2.2.2.1 _ k_2376) (B.2.2.2.1 _ k_13) ⟨by decide +kernel, by decide +kernel, by decide +kernel⟩ rfl d_Book_decode_23 rfl (Nat.le_of_ble_eq_true rfl) ⟨by decide, by decide⟩ ⟨by decide, by decide⟩ ⟨by decide, by decide⟩ (mv_noH hno _) (fun v23 σ23 h23 => ?_)
        obtain ⟨e23, z23⟩ := h23
        have e23 := e23.symm
        subst e23
        rw [eT] at z23
        refine mv_if_ne (pc := 26) (tgt := 32) B d_Book_decode_26 rfl (fun h26 => ?_) (fun h26 => ?_)
        · skip
          have hfi := (z23.resolve_right (fun z => h26 z.1)).2
          refine mv_iload_n (pc := 32) B d_Book_decode_32 rfl 1 rfl ?_
          refine mv_if_ne (pc := 33) (tgt := 42) B d_Book_decode_33 rfl (fun h33 => ?_) (fun h33 => ?_)
          · skip
            refine mv_iinc (pc := 42) (j := 1) (v := 1) B d_Book_decode_42 rfl (by decide) (by decide) rfl ?_
            refine mv_iinc (pc := 45) (j := 1) (v := 1) B d_Book_decode_45 rfl (by decide) (by decide) rfl ?_
            refine mv_goto (pc := 48) (tgt := 10) B d_Book_decode_48 rfl ?_
            refine mv_lpick [0, 1, 2, 3] rfl ?_
            exact ih _ _ _ hF (hc9.elim (fun q => absurd q.2.1 h33) (fun q => Or.inr ⟨(fun z => by have z := congrArg Int32.toInt z; rw [w3] at z; have z : n9.toInt + 1 = 0 := z; omega), q.2⟩)) (by omega) (by omega) (by omega) (by omega)
          · skip
            refine mv_aload_n (pc := 36) B d_Book_decode_36 rfl 2 rfl ?_
            refine mv_iload (pc := 37) B d_Book_decode_37 0 rfl ?_
            refine mv_putI (pc := 39) (ci := 12) (C := R_Book) (T := F_Book) (N := 65) B 63 rfl rfl (by decide) i_Book t_Book_ok n_Book (B.2.2.2.1 _ k_1912) rfl rfl rfl rfl d_Book_decode_39 ?_
            refine mv_iinc (pc := 42) (j := 1) (v := 1) B d_Book_decode_42 rfl (by decide) (by decide) rfl ?_
            refine mv_iinc (pc := 45) (j := 1) (v := 1) B d_Book_decode_45 rfl (by decide) (by decide) rfl ?_
            refine mv_goto (pc := 48) (tgt := 10) B d_Book_decode_48 rfl ?_
            refine mv_lpick [0, 1, 2, 3] rfl ?_
            exact ih _ _ _ (hF.si ⟨rfl, Or.inr (Or.inr (Or.inr rfl))⟩) (Or.inr ⟨(fun z => by have z := congrArg Int32.toInt z; rw [w3] at z; have z : n9.toInt + 1 = 0 := z; omega), i9.toNatClampNeg, by omega, by show mv_i (mv_si τ 108 63 i9) 108 63 = _; rw [mv_si_s]; exact nI_o2 a9.symm, hfi⟩) (by omega) (by omega) (by omega) (by omega)
        · skip
          have hnf := (z23.resolve_left (fun z => by rw [h26] at z; exact absurd z.1 (by decide))).2
          refine mv_goto (pc := 29) (tgt := 45) B d_Book_decode_29 rfl ?_
          refine mv_iinc (pc := 45) (j := 0) (v := 1) B d_Book_decode_45 rfl (by decide) (by decide) rfl ?_
          refine mv_goto (pc := 48) (tgt := 10) B d_Book_decode_48 rfl ?_
          refine mv_lpick [0, 1, 2, 3] rfl ?_
          exact ih _ _ _ hF (hc9.imp (fun q => ⟨q.1, q.2.1, fun a ha => (by
            by_cases z9 : a = i9.toNatClampNeg
            · rw [z9]; exact hnf
            · exact q.2.2 a (by omega))⟩) id) (by omega) (by omega) (by omega) (by omega)
  refine mv_iconst (pc := 0) (v := 0) B d_Book_decode_0 (by decide) ?_
  refine mv_istore_n (pc := 1) B d_Book_decode_1 rfl (by decide) rfl ?_
  refine mv_aload_n (pc := 2) B d_Book_decode_2 rfl 1 rfl ?_
  refine mv_iconst (pc := 3) (v := -1) B d_Book_decode_3 (by decide) ?_
  refine mv_putI (pc := 4) (ci := 12) (C := R_Book) (T := F_Book) (N := 65) B 63 rfl rfl (by decide) i_Book t_Book_ok n_Book (B.2.2.2.1 _ k_1912) rfl rfl rfl rfl d_Book_decode_4 ?_
  refine mv_iconst (pc := 7) (v := 0) B d_Book_decode_7 (by decide) ?_
  refine mv_istore (pc := 8) B d_Book_decode_8 (by decide) rfl ?_
  refine mv_lpick [0, 1, 2, 3] rfl ?_
  exact lp _ _ _ _ (Fx.rf.si ⟨rfl, Or.inr (Or.inr (Or.inr rfl))⟩) (Or.inl ⟨rfl, rfl, fun a ha => absurd ha (by show ¬ (a : Int) < 0; omega)⟩) (by decide) (by decide) (by decide) (Nat.lt_succ_self _)
set_option maxHeartbeats 4000000 in
set_option maxRecDepth 100000 in
theorem c_kd_Book_op_y (l : Launch) {dA : FieldType → ClassId} {D : va_G} {al : Nat → Nat} {ext : mv_Sh} {sk sv : Nat → Nat} (hi : mv_inj (mg dA D al ext)) (σ : mv_H)  : mv_C l y_Book_op (Cond.code y_Book_op b_Book_op 1 (Option.some Jvm.ClassFile.FieldType.int) :: ma) ({ frames := 0, cells := 0, slots := 0, locals := 0 }) (mg dA D al ext) (mK sk sv) [.ref (al 108)] σ (mv_Ri (fun v σ1 => σ1 = σ ∧ v = mv_i σ 108 63)) := by
  refine mv_C.ofV (cc := b_Book_op) (nL := 1) (ret := (Option.some Jvm.ClassFile.FieldType.int)) (by decide +kernel) rfl hi (Nat.le_of_ble_eq_true rfl) ?_
  intro p e s m below meth c B hNs hr hnm hno
  refine mv_aload_n (pc := 0) B d_Book_op_0 rfl 0 rfl ?_
  refine mv_getI (pc := 1) (ci := 12) (C := R_Book) (T := F_Book) (N := 65) B 63 rfl rfl (by decide) i_Book (B.2.2.2.1 _ k_1912) rfl d_Book_op_1 ?_
  exact mv_iret (pc := 4) B hr rfl d_Book_op_4 (Nat.le_refl _) (Nat.le_refl _) ⟨_, rfl, rfl, rfl⟩
def f_Model_immediateOp (h : mv_H) (a0 : Int32) (a1 : Int32) : Option (Int32 × mv_H) := if (a0).toInt = 0 then (some ((18 : Int32), h)) else (if (a0).toInt = 1 then (if a1 = (0 : Int32) then (some ((24 : Int32), h)) else (some ((-1 : Int32), h))) else (if (a0).toInt = 2 then (some ((19 : Int32), h)) else (if (a0).toInt = 3 then (some ((20 : Int32), h)) else (if (a0).toInt = 4 then (some ((21 : Int32), h)) else (if (a0).toInt = 5 then (if a1 = (0 : Int32) then (some ((25 : Int32), h)) else (if a1 = (32 : Int32) then (some ((26 : Int32), h)) else (some ((-1 : Int32), h)))) else (if (a0).toInt = 6 then (some ((22 : Int32), h)) else (some ((23 : Int32), h))))))))
set_option maxHeartbeats 4000000 in
set_option maxRecDepth 100000 in
theorem ch_Model_immediateOp (l : Launch) {dA : FieldType → ClassId} {D : va_G} {al : Nat → Nat} {ext : mv_Sh} {sk sv : Nat → Nat} (hi : mv_inj (mg dA D al ext)) (h : mv_H)  (a0 : Int32) (a1 : Int32) {rv : Int32} {rg : mv_H} (hf : f_Model_immediateOp h a0 a1 = some (rv, rg)) : mv_C l y_Model_immediateOp (Cond.code y_Model_immediateOp b_Model_immediateOp 2 (Option.some Jvm.ClassFile.FieldType.int) :: ma) ({ frames := 0, cells := 0, slots := 0, locals := 0 }) (mg dA D al ext) (mK sk sv) [.int a0, .int a1] h (mv_Ri (fun v σ1 => rv = v ∧ rg = σ1 ∧ mv_r σ1 = mv_r h)) := by
  refine mv_C.ofV (cc := b_Model_immediateOp) (nL := 2) (ret := (Option.some Jvm.ClassFile.FieldType.int)) (by decide +kernel) rfl hi (Nat.le_of_ble_eq_true rfl) ?_
  intro p e s m below meth c B hNs hr hnm hno
  unfold f_Model_immediateOp at hf
  refine mv_iload_n (pc := 0) B d_Model_immediateOp_0 rfl 0 rfl ?_
  refine mv_tsw (pc := 1) B d_Model_immediateOp_1 (by decide) (by decide) ?_
  refine ⟨fun h1 => ?_, fun h1n0 => ?_⟩
  · skip
    have hf := xif_t h1 hf
    show mv_V _ _ _ _ _ _ _ _ _ _ _ _ _ _ _ _ 44 _ _
    refine mv_bipush (pc := 44) (v := 18) B d_Model_immediateOp_44 (by decide) ?_
    exact mv_iret (pc := 46) B hr rfl d_Model_immediateOp_46 (Nat.le_refl _) (Nat.le_refl _) ⟨_, rfl, xrh_i hf rfl⟩
  have hf := xif_f h1n0 hf
  refine ⟨fun h1 => ?_, fun h1n1 => ?_⟩
  · skip
    have hf := xif_t h1 hf
    show mv_V _ _ _ _ _ _ _ _ _ _ _ _ _ _ _ _ 47 _ _
    refine mv_iload_n (pc := 47) B d_Model_immediateOp_47 rfl 1 rfl ?_
    refine mv_if_ne (pc := 48) (tgt := 56) B d_Model_immediateOp_48 rfl (fun h48 => ?_) (fun h48 => ?_)
    · skip
      have hf := xif_f h48 hf
      refine mv_iconst (pc := 56) (v := -1) B d_Model_immediateOp_56 (by decide) ?_
      exact mv_iret (pc := 57) B hr rfl d_Model_immediateOp_57 (Nat.le_refl _) (Nat.le_refl _) ⟨_, rfl, xrh_i hf rfl⟩
    · skip
      have hf := xif_t h48 hf
      refine mv_bipush (pc := 51) (v := 24) B d_Model_immediateOp_51 (by decide) ?_
      refine mv_goto (pc := 53) (tgt := 57) B d_Model_immediateOp_53 rfl ?_
      exact mv_iret (pc := 57) B hr rfl d_Model_immediateOp_57 (Nat.le_refl _) (Nat.le_refl _) ⟨_, rfl, xrh_i hf rfl⟩
  have hf := xif_f h1n1 hf
  refine ⟨fun h1 => ?_, fun h1n2 => ?_⟩
  · skip
    have hf := xif_t h1 hf
    show mv_V _ _ _ _ _ _ _ _ _ _ _ _ _ _ _ _ 58 _ _
    refine mv_bipush (pc := 58) (v := 19) B d_Model_immediateOp_58 (by decide) ?_
    exact mv_iret (pc := 60) B hr rfl d_Model_immediateOp_60 (Nat.le_refl _) (Nat.le_refl _) ⟨_, rfl, xrh_i hf rfl⟩
  have hf := xif_f h1n2 hf
  refine ⟨fun h1 => ?_, fun h1n3 => ?_⟩
  · skip
    have hf := xif_t h1 hf
    show mv_V _ _ _ _ _ _ _ _ _ _ _ _ _ _ _ _ 61 _ _
    refine mv_bipush (pc := 61) (v := 20) B d_Model_immediateOp_61 (by decide) ?_
    exact mv_iret (pc := 63) B hr rfl d_Model_immediateOp_63 (Nat.le_refl _) (Nat.le_refl _) ⟨_, rfl, xrh_i hf rfl⟩
  have hf := xif_f h1n3 hf
  refine ⟨fun h1 => ?_, fun h1n4 => ?_⟩
  · skip
    have hf := xif_t h1 hf
    show mv_V _ _ _ _ _ _ _ _ _ _ _ _ _ _ _ _ 64 _ _
    refine mv_bipush (pc := 64) (v := 21) B d_Model_immediateOp_64 (by decide) ?_
    exact mv_iret (pc := 66) B hr rfl d_Model_immediateOp_66 (Nat.le_refl _) (Nat.le_refl _) ⟨_, rfl, xrh_i hf rfl⟩
  have hf := xif_f h1n4 hf
  refine ⟨fun h1 => ?_, fun h1n5 => ?_⟩
  · skip
    have hf := xif_t h1 hf
    show mv_V _ _ _ _ _ _ _ _ _ _ _ _ _ _ _ _ 67 _ _
    refine mv_iload_n (pc := 67) B d_Model_immediateOp_67 rfl 1 rfl ?_
    refine mv_if_ne (pc := 68) (tgt := 76) B d_Model_immediateOp_68 rfl (fun h68 => ?_) (fun h68 => ?_)
    · skip
      have hf := xif_f h68 hf
      refine mv_iload_n (pc := 76) B d_Model_immediateOp_76 rfl 1 rfl ?_
      refine mv_bipush (pc := 77) (v := 32) B d_Model_immediateOp_77 (by decide) ?_
      refine mv_icmp_ne (pc := 79) (tgt := 87) B d_Model_immediateOp_79 rfl (fun h79 => ?_) (fun h79 => ?_)
      · skip
        have hf := xif_f h79 hf
        refine mv_iconst (pc := 87) (v := -1) B d_Model_immediateOp_87 (by decide) ?_
        exact mv_iret (pc := 88) B hr rfl d_Model_immediateOp_88 (Nat.le_refl _) (Nat.le_refl _) ⟨_, rfl, xrh_i hf rfl⟩
      · skip
        have hf := xif_t h79 hf
        refine mv_bipush (pc := 82) (v := 26) B d_Model_immediateOp_82 (by decide) ?_
        refine mv_goto (pc := 84) (tgt := 88) B d_Model_immediateOp_84 rfl ?_
        exact mv_iret (pc := 88) B hr rfl d_Model_immediateOp_88 (Nat.le_refl _) (Nat.le_refl _) ⟨_, rfl, xrh_i hf rfl⟩
    · skip
      have hf := xif_t h68 hf
      refine mv_bipush (pc := 71) (v := 25) B d_Model_immediateOp_71 (by decide) ?_
      refine mv_goto (pc := 73) (tgt := 88) B d_Model_immediateOp_73 rfl ?_
      exact mv_iret (pc := 88) B hr rfl d_Model_immediateOp_88 (Nat.le_refl _) (Nat.le_refl _) ⟨_, rfl, xrh_i hf rfl⟩
  have hf := xif_f h1n5 hf
  refine ⟨fun h1 => ?_, fun h1n6 => ?_⟩
  · skip
    have hf := xif_t h1 hf
    show mv_V _ _ _ _ _ _ _ _ _ _ _ _ _ _ _ _ 89 _ _
    refine mv_bipush (pc := 89) (v := 22) B d_Model_immediateOp_89 (by decide) ?_
    exact mv_iret (pc := 91) B hr rfl d_Model_immediateOp_91 (Nat.le_refl _) (Nat.le_refl _) ⟨_, rfl, xrh_i hf rfl⟩
  have hf := xif_f h1n6 hf
  show mv_V _ _ _ _ _ _ _ _ _ _ _ _ _ _ _ _ 92 _ _
  refine mv_bipush (pc := 92) (v := 23) B d_Model_immediateOp_92 (by decide) ?_
  exact mv_iret (pc := 94) B hr rfl d_Model_immediateOp_94 (Nat.le_refl _) (Nat.le_refl _) ⟨_, rfl, xrh_i hf rfl⟩
def f_Model_registerOp (h : mv_H) (a0 : Int32) (a1 : Int32) : Option (Int32 × mv_H) := if a1 = (1 : Int32) then (some (((40 : Int32) + a0), h)) else (if a1 = (32 : Int32) then (if a0 = (0 : Int32) then (some ((28 : Int32), h)) else (if a0 = (5 : Int32) then (some ((34 : Int32), h)) else (some ((-1 : Int32), h)))) else (if a1 = (0 : Int32) then (if (a0).toInt = 0 then (some ((27 : Int32), h)) else (if (a0).toInt = 1 then (some ((29 : Int32), h)) else (if (a0).toInt = 2 then (some ((30 : Int32), h)) else (if (a0).toInt = 3 then (some ((31 : Int32), h)) else (if (a0).toInt = 4 then (some ((32 : Int32), h)) else (if (a0).toInt = 5 then (some ((33 : Int32), h)) else (if (a0).toInt = 6 then (some ((35 : Int32), h)) else (some ((36 : Int32), h))))))))) else (some ((-1 : Int32), h))))
set_option maxHeartbeats 4000000 in
set_option maxRecDepth 100000 in
theorem ch_Model_registerOp (l : Launch) {dA : FieldType → ClassId} {D : va_G} {al : Nat → Nat} {ext : mv_Sh} {sk sv : Nat → Nat} (hi : mv_inj (mg dA D al ext)) (h : mv_H)  (a0 : Int32) (a1 : Int32) {rv : Int32} {rg : mv_H} (hf : f_Model_registerOp h a0 a1 = some (rv, rg)) : mv_C l y_Model_registerOp (Cond.code y_Model_registerOp b_Model_registerOp 2 (Option.some Jvm.ClassFile.FieldType.int) :: ma) ({ frames := 0, cells := 0, slots := 0, locals := 0 }) (mg dA D al ext) (mK sk sv) [.int a0, .int a1] h (mv_Ri (fun v σ1 => rv = v ∧ rg = σ1 ∧ mv_r σ1 = mv_r h)) := by
  refine mv_C.ofV (cc := b_Model_registerOp) (nL := 2) (ret := (Option.some Jvm.ClassFile.FieldType.int)) (by decide +kernel) rfl hi (Nat.le_of_ble_eq_true rfl) ?_
  intro p e s m below meth c B hNs hr hnm hno
  unfold f_Model_registerOp at hf
  refine mv_iload_n (pc := 0) B d_Model_registerOp_0 rfl 1 rfl ?_
  refine mv_iconst (pc := 1) (v := 1) B d_Model_registerOp_1 (by decide) ?_
  refine mv_icmp_ne (pc := 2) (tgt := 10) B d_Model_registerOp_2 rfl (fun h2 => ?_) (fun h2 => ?_)
  · skip
    have hf := xif_f h2 hf
    refine mv_iload_n (pc := 10) B d_Model_registerOp_10 rfl 1 rfl ?_
    refine mv_bipush (pc := 11) (v := 32) B d_Model_registerOp_11 (by decide) ?_
    refine mv_icmp_ne (pc := 13) (tgt := 37) B d_Model_registerOp_13 rfl (fun h13 => ?_) (fun h13 => ?_)
    · skip
      have hf := xif_f h13 hf
      refine mv_iload_n (pc := 37) B d_Model_registerOp_37 rfl 1 rfl ?_
      refine mv_if_eq (pc := 38) (tgt := 43) B d_Model_registerOp_38 rfl (fun h38 => ?_) (fun h38 => ?_)
      · skip
        have hf := xif_t h38 hf
        refine mv_iload_n (pc := 43) B d_Model_registerOp_43 rfl 0 rfl ?_
        refine mv_tsw (pc := 44) B d_Model_registerOp_44 (by decide) (by decide) ?_
        refine ⟨fun h44 => ?_, fun h44n0 => ?_⟩
        · skip
          have hf := xif_t h44 hf
          show mv_V _ _ _ _ _ _ _ _ _ _ _ _ _ _ _ _ 88 _ _
          refine mv_bipush (pc := 88) (v := 27) B d_Model_registerOp_88 (by decide) ?_
          exact mv_iret (pc := 90) B hr rfl d_Model_registerOp_90 (Nat.le_refl _) (Nat.le_refl _) ⟨_, rfl, xrh_i hf rfl⟩
        have hf := xif_f h44n0 hf
        refine ⟨fun h44 => ?_, fun h44n1 => ?_⟩
        · skip
          have hf := xif_t h44 hf
          show mv_V _ _ _ _ _ _ _ _ _ _ _ _ _ _ _ _ 91 _ _
          refine mv_bipush (pc := 91) (v := 29) B d_Model_registerOp_91 (by decide) ?_
          exact mv_iret (pc := 93) B hr rfl d_Model_registerOp_93 (Nat.le_refl _) (Nat.le_refl _) ⟨_, rfl, xrh_i hf rfl⟩
        have hf := xif_f h44n1 hf
        refine ⟨fun h44 => ?_, fun h44n2 => ?_⟩
        · skip
          have hf := xif_t h44 hf
          show mv_V _ _ _ _ _ _ _ _ _ _ _ _ _ _ _ _ 94 _ _
          refine mv_bipush (pc := 94) (v := 30) B d_Model_registerOp_94 (by decide) ?_
          exact mv_iret (pc := 96) B hr rfl d_Model_registerOp_96 (Nat.le_refl _) (Nat.le_refl _) ⟨_, rfl, xrh_i hf rfl⟩
        have hf := xif_f h44n2 hf
        refine ⟨fun h44 => ?_, fun h44n3 => ?_⟩
        · skip
          have hf := xif_t h44 hf
          show mv_V _ _ _ _ _ _ _ _ _ _ _ _ _ _ _ _ 97 _ _
          refine mv_bipush (pc := 97) (v := 31) B d_Model_registerOp_97 (by decide) ?_
          exact mv_iret (pc := 99) B hr rfl d_Model_registerOp_99 (Nat.le_refl _) (Nat.le_refl _) ⟨_, rfl, xrh_i hf rfl⟩
        have hf := xif_f h44n3 hf
        refine ⟨fun h44 => ?_, fun h44n4 => ?_⟩
        · skip
          have hf := xif_t h44 hf
          show mv_V _ _ _ _ _ _ _ _ _ _ _ _ _ _ _ _ 100 _ _
          refine mv_bipush (pc := 100) (v := 32) B d_Model_registerOp_100 (by decide) ?_
          exact mv_iret (pc := 102) B hr rfl d_Model_registerOp_102 (Nat.le_refl _) (Nat.le_refl _) ⟨_, rfl, xrh_i hf rfl⟩
        have hf := xif_f h44n4 hf
        refine ⟨fun h44 => ?_, fun h44n5 => ?_⟩
        · skip
          have hf := xif_t h44 hf
          show mv_V _ _ _ _ _ _ _ _ _ _ _ _ _ _ _ _ 103 _ _
          refine mv_bipush (pc := 103) (v := 33) B d_Model_registerOp_103 (by decide) ?_
          exact mv_iret (pc := 105) B hr rfl d_Model_registerOp_105 (Nat.le_refl _) (Nat.le_refl _) ⟨_, rfl, xrh_i hf rfl⟩
        have hf := xif_f h44n5 hf
        refine ⟨fun h44 => ?_, fun h44n6 => ?_⟩
        · skip
          have hf := xif_t h44 hf
          show mv_V _ _ _ _ _ _ _ _ _ _ _ _ _ _ _ _ 106 _ _
          refine mv_bipush (pc := 106) (v := 35) B d_Model_registerOp_106 (by decide) ?_
          exact mv_iret (pc := 108) B hr rfl d_Model_registerOp_108 (Nat.le_refl _) (Nat.le_refl _) ⟨_, rfl, xrh_i hf rfl⟩
        have hf := xif_f h44n6 hf
        show mv_V _ _ _ _ _ _ _ _ _ _ _ _ _ _ _ _ 109 _ _
        refine mv_bipush (pc := 109) (v := 36) B d_Model_registerOp_109 (by decide) ?_
        exact mv_iret (pc := 111) B hr rfl d_Model_registerOp_111 (Nat.le_refl _) (Nat.le_refl _) ⟨_, rfl, xrh_i hf rfl⟩
      · skip
        have hf := xif_f h38 hf
        refine mv_iconst (pc := 41) (v := -1) B d_Model_registerOp_41 (by decide) ?_
        exact mv_iret (pc := 42) B hr rfl d_Model_registerOp_42 (Nat.le_refl _) (Nat.le_refl _) ⟨_, rfl, xrh_i hf rfl⟩
    · skip
      have hf := xif_t h13 hf
      refine mv_iload_n (pc := 16) B d_Model_registerOp_16 rfl 0 rfl ?_
      refine mv_if_ne (pc := 17) (tgt := 25) B d_Model_registerOp_17 rfl (fun h17 => ?_) (fun h17 => ?_)
      · skip
        have hf := xif_f h17 hf
        refine mv_iload_n (pc := 25) B d_Model_registerOp_25 rfl 0 rfl ?_
        refine mv_iconst (pc := 26) (v := 5) B d_Model_registerOp_26 (by decide) ?_
        refine mv_icmp_ne (pc := 27) (tgt := 35) B d_Model_registerOp_27 rfl (fun h27 => ?_) (fun h27 => ?_)
        · skip
          have hf := xif_f h27 hf
          refine mv_iconst (pc := 35) (v := -1) B d_Model_registerOp_35 (by decide) ?_
          exact mv_iret (pc := 36) B hr rfl d_Model_registerOp_36 (Nat.le_refl _) (Nat.le_refl _) ⟨_, rfl, xrh_i hf rfl⟩
        · skip
          have hf := xif_t h27 hf
          refine mv_bipush (pc := 30) (v := 34) B d_Model_registerOp_30 (by decide) ?_
          refine mv_goto (pc := 32) (tgt := 36) B d_Model_registerOp_32 rfl ?_
          exact mv_iret (pc := 36) B hr rfl d_Model_registerOp_36 (Nat.le_refl _) (Nat.le_refl _) ⟨_, rfl, xrh_i hf rfl⟩
      · skip
        have hf := xif_t h17 hf
        refine mv_bipush (pc := 20) (v := 28) B d_Model_registerOp_20 (by decide) ?_
        refine mv_goto (pc := 22) (tgt := 36) B d_Model_registerOp_22 rfl ?_
        exact mv_iret (pc := 36) B hr rfl d_Model_registerOp_36 (Nat.le_refl _) (Nat.le_refl _) ⟨_, rfl, xrh_i hf rfl⟩
  · skip
    have hf := xif_t h2 hf
    refine mv_bipush (pc := 5) (v := 40) B d_Model_registerOp_5 (by decide) ?_
    refine mv_iload_n (pc := 7) B d_Model_registerOp_7 rfl 0 rfl ?_
    refine mv_iadd (pc := 8) B d_Model_registerOp_8 ?_
    exact mv_iret (pc := 9) B hr rfl d_Model_registerOp_9 (Nat.le_refl _) (Nat.le_refl _) ⟨_, rfl, xrh_i hf rfl⟩
def f_Model_shippedOp (h : mv_H) (a0 : Int32) : Option (Int32 × mv_H) := xhb (f_Model_piece h a0 (14 : Int32) (12 : Int32)) fun u2 g1 => xhb (f_Model_piece g1 a0 (31 : Int32) (25 : Int32)) fun u4 g3 => xhb (f_Model_piece g3 a0 (6 : Int32) (0 : Int32)) fun u6 g5 => if (u6).toInt = 3 then (if (3 : Int32) ≤ u2 then (if u2 = (4 : Int32) then (some ((13 : Int32), g5)) else (if u2 = (5 : Int32) then (some ((14 : Int32), g5)) else (some ((-1 : Int32), g5)))) else (some (((10 : Int32) + u2), g5))) else (if (u6).toInt = 15 then (if u2 = (0 : Int32) then (some ((37 : Int32), g5)) else (some ((-1 : Int32), g5))) else (if (u6).toInt = 19 then (xhb (f_Model_immediateOp g5 u2 u4) fun u8 g7 => some (u8, g7)) else (if (u6).toInt = 23 then (some ((1 : Int32), g5)) else (if (u6).toInt = 35 then (if (3 : Int32) ≤ u2 then (some ((-1 : Int32), g5)) else (some (((15 : Int32) + u2), g5))) else (if (u6).toInt = 51 then (xhb (f_Model_registerOp g5 u2 u4) fun u10 g9 => some (u10, g9)) else (if (u6).toInt = 55 then (some ((0 : Int32), g5)) else (if (u6).toInt = 99 then (if (2 : Int32) ≤ u2 then (if u2 ≤ (3 : Int32) then (some ((-1 : Int32), g5)) else (some (((2 : Int32) + u2), g5))) else (some (((4 : Int32) + u2), g5))) else (if (u6).toInt = 103 then (if u2 = (0 : Int32) then (some ((3 : Int32), g5)) else (some ((-1 : Int32), g5))) else (if (u6).toInt = 111 then (some ((2 : Int32), g5)) else (if (u6).toInt = 115 then (if a0 = (115 : Int32) then (some ((38 : Int32), g5)) else (if a0 = (1048691 : Int32) then (some ((39 : Int32), g5)) else (some ((-1 : Int32), g5)))) else (some ((-1 : Int32), g5))))))))))))
set_option maxHeartbeats 4000000 in
set_option maxRecDepth 100000 in
theorem ch_Model_shippedOp (l : Launch) {dA : FieldType → ClassId} {D : va_G} {al : Nat → Nat} {ext : mv_Sh} {sk sv : Nat → Nat} (hi : mv_inj (mg dA D al ext)) (h : mv_H)  (a0 : Int32) {rv : Int32} {rg : mv_H} (hf : f_Model_shippedOp h a0 = some (rv, rg)) : mv_C l y_Model_shippedOp (Cond.code y_Model_shippedOp b_Model_shippedOp 3 (Option.some Jvm.ClassFile.FieldType.int) :: ma) ({ frames := 1, cells := 0, slots := 0, locals := 22 }) (mg dA D al ext) (mK sk sv) [.int a0] h (mv_Ri (fun v σ1 => rv = v ∧ rg = σ1 ∧ mv_r σ1 = mv_r h)) := by
  refine mv_C.ofV (cc := b_Model_shippedOp) (nL := 3) (ret := (Option.some Jvm.ClassFile.FieldType.int)) (by decide +kernel) rfl hi (Nat.le_of_ble_eq_true rfl) ?_
  intro p e s m below meth c B hNs hr hnm hno
  unfold f_Model_shippedOp at hf
  refine mv_iload_n (pc := 0) B d_Model_shippedOp_0 rfl 0 rfl ?_
  refine mv_bipush (pc := 1) (v := 14) B d_Model_shippedOp_1 (by decide) ?_
  refine mv_bipush (pc := 3) (v := 12) B d_Model_shippedOp_3 (by decide) ?_
  obtain ⟨u2, g1, eg1, hf⟩ := xhb_e hf
  refine mv_callSi (pc := 5) (n := 3) B (mK_ok sk sv) hNs (ch_Model_piece l hi _ _ _ _ eg1) rfl (ma_goodc kc_Model_piece) (B.2.2.2.1 _ k_2360) (B.2.2.2.1 _ k_2361) (B.2.2.2.1 _ k_12) ⟨by decide +kernel, by decide +kernel, by decide +kernel⟩ rfl d_Model_shippedOp_5 rfl (Nat.le_of_ble_eq_true rfl) ⟨by decide, by decide⟩ ⟨by decide, by decide⟩ ⟨by decide, by decide⟩ (mv_noH hno _) (fun w5 σ5 h5 => ?_)
  obtain ⟨rfl, rfl, s_g1⟩ := h5
  have r_g1 : mv_r g1 = mv_r h := s_g1.trans rfl
  refine mv_istore_n (pc := 8) B d_Model_shippedOp_8 rfl (by decide) rfl ?_
  refine mv_iload_n (pc := 9) B d_Model_shippedOp_9 rfl 1 rfl ?_
  refine mv_bipush (pc := 10) (v := 31) B d_Model_shippedOp_10 (by decide) ?_
  refine mv_bipush (pc := 12) (v := 25) B d_Model_shippedOp_12 (by decide) ?_
  obtain ⟨u4, g3, eg3, hf⟩ := xhb_e hf
  refine mv_callSi (pc := 14) (n := 3) B (mK_ok sk sv) hNs (ch_Model_piece l hi _ _ _ _ eg3) rfl (ma_goodc kc_Model_piece) (B.2.2.2.1 _ k_2360) (B.2.2.2.1 _ k_2361) (B.2.2.2.1 _ k_12) ⟨by decide +kernel, by decide +kernel, by decide +kernel⟩ rfl d_Model_shippedOp_14 rfl (Nat.le_of_ble_eq_true rfl) ⟨by decide, by decide⟩ ⟨by decide, by decide⟩ ⟨by decide, by decide⟩ (mv_noH hno _) (fun w14 σ14 h14 => ?_)
  obtain ⟨rfl, rfl, s_g3⟩ := h14
  have r_g3 : mv_r g3 = mv_r h := s_g3.trans r_g1
  refine mv_istore_n (pc := 17) B d_Model_shippedOp_17 rfl (by decide) rfl ?_
  refine mv_iload_n (pc := 18) B d_Model_shippedOp_18 rfl 2 rfl ?_
  refine mv_bipush (pc := 19) (v := 6) B d_Model_shippedOp_19 (by decide) ?_
  refine mv_iconst (pc := 21) (v := 0) B d_Model_shippedOp_21 (by decide) ?_
  obtain ⟨u6, g5, eg5, hf⟩ := xhb_e hf
  refine mv_callSi (pc := 22) (n := 3) B (mK_ok sk sv) hNs (ch_Model_piece l hi _ _ _ _ eg5) rfl (ma_goodc kc_Model_piece) (B.2.2.2.1 _ k_2360) (B.2.2.2.1 _ k_2361) (B.2.2.2.1 _ k_12) ⟨by decide +kernel, by decide +kernel, by decide +kernel⟩ rfl d_Model_shippedOp_22 rfl (Nat.le_of_ble_eq_true rfl) ⟨by decide, by decide⟩ ⟨by decide, by decide⟩ ⟨by decide, by decide⟩ (mv_noH hno _) (fun w22 σ22 h22 => ?_)
  obtain ⟨rfl, rfl, s_g5⟩ := h22
  have r_g5 : mv_r g5 = mv_r h := s_g5.trans r_g3
  refine mv_lsw (pc := 25) B d_Model_shippedOp_25 (by decide) (by decide) ?_
  refine ⟨fun h25 => ?_, fun h25n3 => ?_⟩
  · skip
    have hf := xif_t h25 hf
    show mv_V _ _ _ _ _ _ _ _ _ _ _ _ _ _ _ _ 164 _ _
    refine mv_iload_n (pc := 164) B d_Model_shippedOp_164 rfl 1 rfl ?_
    refine mv_iconst (pc := 165) (v := 3) B d_Model_shippedOp_165 (by decide) ?_
    refine mv_icmp_ge (pc := 166) (tgt := 176) B d_Model_shippedOp_166 rfl (fun h166 => ?_) (fun h166 => ?_)
    · skip
      have hf := xif_t h166 hf
      refine mv_iload_n (pc := 176) B d_Model_shippedOp_176 rfl 1 rfl ?_
      refine mv_iconst (pc := 177) (v := 4) B d_Model_shippedOp_177 (by decide) ?_
      refine mv_icmp_ne (pc := 178) (tgt := 186) B d_Model_shippedOp_178 rfl (fun h178 => ?_) (fun h178 => ?_)
      · skip
        have hf := xif_f h178 hf
        refine mv_iload_n (pc := 186) B d_Model_shippedOp_186 rfl 1 rfl ?_
        refine mv_iconst (pc := 187) (v := 5) B d_Model_shippedOp_187 (by decide) ?_
        refine mv_icmp_ne (pc := 188) (tgt := 196) B d_Model_shippedOp_188 rfl (fun h188 => ?_) (fun h188 => ?_)
        · skip
          have hf := xif_f h188 hf
          refine mv_iconst (pc := 196) (v := -1) B d_Model_shippedOp_196 (by decide) ?_
          exact mv_iret (pc := 197) B hr rfl d_Model_shippedOp_197 (Nat.le_refl _) (Nat.le_refl _) ⟨_, rfl, xrh_i hf r_g5⟩
        · skip
          have hf := xif_t h188 hf
          refine mv_bipush (pc := 191) (v := 14) B d_Model_shippedOp_191 (by decide) ?_
          refine mv_goto (pc := 193) (tgt := 197) B d_Model_shippedOp_193 rfl ?_
          exact mv_iret (pc := 197) B hr rfl d_Model_shippedOp_197 (Nat.le_refl _) (Nat.le_refl _) ⟨_, rfl, xrh_i hf r_g5⟩
      · skip
        have hf := xif_t h178 hf
        refine mv_bipush (pc := 181) (v := 13) B d_Model_shippedOp_181 (by decide) ?_
        refine mv_goto (pc := 183) (tgt := 197) B d_Model_shippedOp_183 rfl ?_
        exact mv_iret (pc := 197) B hr rfl d_Model_shippedOp_197 (Nat.le_refl _) (Nat.le_refl _) ⟨_, rfl, xrh_i hf r_g5⟩
    · skip
      have hf := xif_f h166 hf
      refine mv_bipush (pc := 169) (v := 10) B d_Model_shippedOp_169 (by decide) ?_
      refine mv_iload_n (pc := 171) B d_Model_shippedOp_171 rfl 1 rfl ?_
      refine mv_iadd (pc := 172) B d_Model_shippedOp_172 ?_
      refine mv_goto (pc := 173) (tgt := 197) B d_Model_shippedOp_173 rfl ?_
      exact mv_iret (pc := 197) B hr rfl d_Model_shippedOp_197 (Nat.le_refl _) (Nat.le_refl _) ⟨_, rfl, xrh_i hf r_g5⟩
  have hf := xif_f h25n3 hf
  refine ⟨fun h25 => ?_, fun h25n15 => ?_⟩
  · skip
    have hf := xif_t h25 hf
    show mv_V _ _ _ _ _ _ _ _ _ _ _ _ _ _ _ _ 224 _ _
    refine mv_iload_n (pc := 224) B d_Model_shippedOp_224 rfl 1 rfl ?_
    refine mv_if_ne (pc := 225) (tgt := 233) B d_Model_shippedOp_225 rfl (fun h225 => ?_) (fun h225 => ?_)
    · skip
      have hf := xif_f h225 hf
      refine mv_iconst (pc := 233) (v := -1) B d_Model_shippedOp_233 (by decide) ?_
      exact mv_iret (pc := 234) B hr rfl d_Model_shippedOp_234 (Nat.le_refl _) (Nat.le_refl _) ⟨_, rfl, xrh_i hf r_g5⟩
    · skip
      have hf := xif_t h225 hf
      refine mv_bipush (pc := 228) (v := 37) B d_Model_shippedOp_228 (by decide) ?_
      refine mv_goto (pc := 230) (tgt := 234) B d_Model_shippedOp_230 rfl ?_
      exact mv_iret (pc := 234) B hr rfl d_Model_shippedOp_234 (Nat.le_refl _) (Nat.le_refl _) ⟨_, rfl, xrh_i hf r_g5⟩
  have hf := xif_f h25n15 hf
  refine ⟨fun h25 => ?_, fun h25n19 => ?_⟩
  · skip
    have hf := xif_t h25 hf
    show mv_V _ _ _ _ _ _ _ _ _ _ _ _ _ _ _ _ 212 _ _
    refine mv_iload_n (pc := 212) B d_Model_shippedOp_212 rfl 1 rfl ?_
    refine mv_iload_n (pc := 213) B d_Model_shippedOp_213 rfl 0 rfl ?_
    obtain ⟨u8, g7, eg7, hf⟩ := xhb_e hf
    refine mv_callSi (pc := 214) (n := 2) B (mK_ok sk sv) hNs (ch_Model_immediateOp l hi _ _ _ eg7) rfl (ma_goodc kc_Model_immediateOp) (B.2.2.2.1 _ k_2363) (B.2.2.2.1 _ k_2364) (B.2.2.2.1 _ k_12) ⟨by decide +kernel, by decide +kernel, by decide +kernel⟩ rfl d_Model_shippedOp_214 rfl (Nat.le_of_ble_eq_true rfl) ⟨by decide, by decide⟩ ⟨by decide, by decide⟩ ⟨by decide, by decide⟩ (mv_noH hno _) (fun w214 σ214 h214 => ?_)
    obtain ⟨rfl, rfl, s_g7⟩ := h214
    have r_g7 : mv_r g7 = mv_r h := s_g7.trans r_g5
    exact mv_iret (pc := 217) B hr rfl d_Model_shippedOp_217 (Nat.le_refl _) (Nat.le_refl _) ⟨_, rfl, xrh_i hf r_g7⟩
  have hf := xif_f h25n19 hf
  refine ⟨fun h25 => ?_, fun h25n23 => ?_⟩
  · skip
    have hf := xif_t h25 hf
    show mv_V _ _ _ _ _ _ _ _ _ _ _ _ _ _ _ _ 126 _ _
    refine mv_iconst (pc := 126) (v := 1) B d_Model_shippedOp_126 (by decide) ?_
    exact mv_iret (pc := 127) B hr rfl d_Model_shippedOp_127 (Nat.le_refl _) (Nat.le_refl _) ⟨_, rfl, xrh_i hf r_g5⟩
  have hf := xif_f h25n23 hf
  refine ⟨fun h25 => ?_, fun h25n35 => ?_⟩
  · skip
    have hf := xif_t h25 hf
    show mv_V _ _ _ _ _ _ _ _ _ _ _ _ _ _ _ _ 198 _ _
    refine mv_iload_n (pc := 198) B d_Model_shippedOp_198 rfl 1 rfl ?_
    refine mv_iconst (pc := 199) (v := 3) B d_Model_shippedOp_199 (by decide) ?_
    refine mv_icmp_ge (pc := 200) (tgt := 210) B d_Model_shippedOp_200 rfl (fun h200 => ?_) (fun h200 => ?_)
    · skip
      have hf := xif_t h200 hf
      refine mv_iconst (pc := 210) (v := -1) B d_Model_shippedOp_210 (by decide) ?_
      exact mv_iret (pc := 211) B hr rfl d_Model_shippedOp_211 (Nat.le_refl _) (Nat.le_refl _) ⟨_, rfl, xrh_i hf r_g5⟩
    · skip
      have hf := xif_f h200 hf
      refine mv_bipush (pc := 203) (v := 15) B d_Model_shippedOp_203 (by decide) ?_
      refine mv_iload_n (pc := 205) B d_Model_shippedOp_205 rfl 1 rfl ?_
      refine mv_iadd (pc := 206) B d_Model_shippedOp_206 ?_
      refine mv_goto (pc := 207) (tgt := 211) B d_Model_shippedOp_207 rfl ?_
      exact mv_iret (pc := 211) B hr rfl d_Model_shippedOp_211 (Nat.le_refl _) (Nat.le_refl _) ⟨_, rfl, xrh_i hf r_g5⟩
  have hf := xif_f h25n35 hf
  refine ⟨fun h25 => ?_, fun h25n51 => ?_⟩
  · skip
    have hf := xif_t h25 hf
    show mv_V _ _ _ _ _ _ _ _ _ _ _ _ _ _ _ _ 218 _ _
    refine mv_iload_n (pc := 218) B d_Model_shippedOp_218 rfl 1 rfl ?_
    refine mv_iload_n (pc := 219) B d_Model_shippedOp_219 rfl 0 rfl ?_
    obtain ⟨u10, g9, eg9, hf⟩ := xhb_e hf
    refine mv_callSi (pc := 220) (n := 2) B (mK_ok sk sv) hNs (ch_Model_registerOp l hi _ _ _ eg9) rfl (ma_goodc kc_Model_registerOp) (B.2.2.2.1 _ k_2366) (B.2.2.2.1 _ k_2367) (B.2.2.2.1 _ k_12) ⟨by decide +kernel, by decide +kernel, by decide +kernel⟩ rfl d_Model_shippedOp_220 rfl (Nat.le_of_ble_eq_true rfl) ⟨by decide, by decide⟩ ⟨by decide, by decide⟩ ⟨by decide, by decide⟩ (mv_noH hno _) (fun w220 σ220 h220 => ?_)
    obtain ⟨rfl, rfl, s_g9⟩ := h220
    have r_g9 : mv_r g9 = mv_r h := s_g9.trans r_g5
    exact mv_iret (pc := 223) B hr rfl d_Model_shippedOp_223 (Nat.le_refl _) (Nat.le_refl _) ⟨_, rfl, xrh_i hf r_g9⟩
  have hf := xif_f h25n51 hf
  refine ⟨fun h25 => ?_, fun h25n55 => ?_⟩
  · skip
    have hf := xif_t h25 hf
    show mv_V _ _ _ _ _ _ _ _ _ _ _ _ _ _ _ _ 124 _ _
    refine mv_iconst (pc := 124) (v := 0) B d_Model_shippedOp_124 (by decide) ?_
    exact mv_iret (pc := 125) B hr rfl d_Model_shippedOp_125 (Nat.le_refl _) (Nat.le_refl _) ⟨_, rfl, xrh_i hf r_g5⟩
  have hf := xif_f h25n55 hf
  refine ⟨fun h25 => ?_, fun h25n99 => ?_⟩
  · skip
    have hf := xif_t h25 hf
    show mv_V _ _ _ _ _ _ _ _ _ _ _ _ _ _ _ _ 140 _ _
    refine mv_iload_n (pc := 140) B d_Model_shippedOp_140 rfl 1 rfl ?_
    refine mv_iconst (pc := 141) (v := 2) B d_Model_shippedOp_141 (by decide) ?_
    refine mv_icmp_ge (pc := 142) (tgt := 151) B d_Model_shippedOp_142 rfl (fun h142 => ?_) (fun h142 => ?_)
    · skip
      have hf := xif_t h142 hf
      refine mv_iload_n (pc := 151) B d_Model_shippedOp_151 rfl 1 rfl ?_
      refine mv_iconst (pc := 152) (v := 3) B d_Model_shippedOp_152 (by decide) ?_
      refine mv_icmp_le (pc := 153) (tgt := 162) B d_Model_shippedOp_153 rfl (fun h153 => ?_) (fun h153 => ?_)
      · skip
        have hf := xif_t h153 hf
        refine mv_iconst (pc := 162) (v := -1) B d_Model_shippedOp_162 (by decide) ?_
        exact mv_iret (pc := 163) B hr rfl d_Model_shippedOp_163 (Nat.le_refl _) (Nat.le_refl _) ⟨_, rfl, xrh_i hf r_g5⟩
      · skip
        have hf := xif_f h153 hf
        refine mv_iconst (pc := 156) (v := 2) B d_Model_shippedOp_156 (by decide) ?_
        refine mv_iload_n (pc := 157) B d_Model_shippedOp_157 rfl 1 rfl ?_
        refine mv_iadd (pc := 158) B d_Model_shippedOp_158 ?_
        refine mv_goto (pc := 159) (tgt := 163) B d_Model_shippedOp_159 rfl ?_
        exact mv_iret (pc := 163) B hr rfl d_Model_shippedOp_163 (Nat.le_refl _) (Nat.le_refl _) ⟨_, rfl, xrh_i hf r_g5⟩
    · skip
      have hf := xif_f h142 hf
      refine mv_iconst (pc := 145) (v := 4) B d_Model_shippedOp_145 (by decide) ?_
      refine mv_iload_n (pc := 146) B d_Model_shippedOp_146 rfl 1 rfl ?_
      refine mv_iadd (pc := 147) B d_Model_shippedOp_147 ?_
      refine mv_goto (pc := 148) (tgt := 163) B d_Model_shippedOp_148 rfl ?_
      exact mv_iret (pc := 163) B hr rfl d_Model_shippedOp_163 (Nat.le_refl _) (Nat.le_refl _) ⟨_, rfl, xrh_i hf r_g5⟩
  have hf := xif_f h25n99 hf
  refine ⟨fun h25 => ?_, fun h25n103 => ?_⟩
  · skip
    have hf := xif_t h25 hf
    show mv_V _ _ _ _ _ _ _ _ _ _ _ _ _ _ _ _ 130 _ _
    refine mv_iload_n (pc := 130) B d_Model_shippedOp_130 rfl 1 rfl ?_
    refine mv_if_ne (pc := 131) (tgt := 138) B d_Model_shippedOp_131 rfl (fun h131 => ?_) (fun h131 => ?_)
    · skip
      have hf := xif_f h131 hf
      refine mv_iconst (pc := 138) (v := -1) B d_Model_shippedOp_138 (by decide) ?_
      exact mv_iret (pc := 139) B hr rfl d_Model_shippedOp_139 (Nat.le_refl _) (Nat.le_refl _) ⟨_, rfl, xrh_i hf r_g5⟩
    · skip
      have hf := xif_t h131 hf
      refine mv_iconst (pc := 134) (v := 3) B d_Model_shippedOp_134 (by decide) ?_
      refine mv_goto (pc := 135) (tgt := 139) B d_Model_shippedOp_135 rfl ?_
      exact mv_iret (pc := 139) B hr rfl d_Model_shippedOp_139 (Nat.le_refl _) (Nat.le_refl _) ⟨_, rfl, xrh_i hf r_g5⟩
  have hf := xif_f h25n103 hf
  refine ⟨fun h25 => ?_, fun h25n111 => ?_⟩
  · skip
    have hf := xif_t h25 hf
    show mv_V _ _ _ _ _ _ _ _ _ _ _ _ _ _ _ _ 128 _ _
    refine mv_iconst (pc := 128) (v := 2) B d_Model_shippedOp_128 (by decide) ?_
    exact mv_iret (pc := 129) B hr rfl d_Model_shippedOp_129 (Nat.le_refl _) (Nat.le_refl _) ⟨_, rfl, xrh_i hf r_g5⟩
  have hf := xif_f h25n111 hf
  refine ⟨fun h25 => ?_, fun h25n115 => ?_⟩
  · skip
    have hf := xif_t h25 hf
    show mv_V _ _ _ _ _ _ _ _ _ _ _ _ _ _ _ _ 235 _ _
    refine mv_iload_n (pc := 235) B d_Model_shippedOp_235 rfl 2 rfl ?_
    refine mv_bipush (pc := 236) (v := 115) B d_Model_shippedOp_236 (by decide) ?_
    refine mv_icmp_ne (pc := 238) (tgt := 246) B d_Model_shippedOp_238 rfl (fun h238 => ?_) (fun h238 => ?_)
    · skip
      have hf := xif_f h238 hf
      refine mv_iload_n (pc := 246) B d_Model_shippedOp_246 rfl 2 rfl ?_
      refine mv_ldc (pc := 247) (v := 1048691) B (B.2.2.2.1 _ k_2369) d_Model_shippedOp_247 ?_
      refine mv_icmp_ne (pc := 249) (tgt := 257) B d_Model_shippedOp_249 rfl (fun h249 => ?_) (fun h249 => ?_)
      · skip
        have hf := xif_f h249 hf
        refine mv_iconst (pc := 257) (v := -1) B d_Model_shippedOp_257 (by decide) ?_
        exact mv_iret (pc := 258) B hr rfl d_Model_shippedOp_258 (Nat.le_refl _) (Nat.le_refl _) ⟨_, rfl, xrh_i hf r_g5⟩
      · skip
        have hf := xif_t h249 hf
        refine mv_bipush (pc := 252) (v := 39) B d_Model_shippedOp_252 (by decide) ?_
        refine mv_goto (pc := 254) (tgt := 258) B d_Model_shippedOp_254 rfl ?_
        exact mv_iret (pc := 258) B hr rfl d_Model_shippedOp_258 (Nat.le_refl _) (Nat.le_refl _) ⟨_, rfl, xrh_i hf r_g5⟩
    · skip
      have hf := xif_t h238 hf
      refine mv_bipush (pc := 241) (v := 38) B d_Model_shippedOp_241 (by decide) ?_
      refine mv_goto (pc := 243) (tgt := 258) B d_Model_shippedOp_243 rfl ?_
      exact mv_iret (pc := 258) B hr rfl d_Model_shippedOp_258 (Nat.le_refl _) (Nat.le_refl _) ⟨_, rfl, xrh_i hf r_g5⟩
  have hf := xif_f h25n115 hf
  show mv_V _ _ _ _ _ _ _ _ _ _ _ _ _ _ _ _ 259 _ _
  refine mv_iconst (pc := 259) (v := -1) B d_Model_shippedOp_259 (by decide) ?_
  exact mv_iret (pc := 260) B hr rfl d_Model_shippedOp_260 (Nat.le_refl _) (Nat.le_refl _) ⟨_, rfl, xrh_i hf r_g5⟩
/-! shippedOp, exactly -/
def i9O (u2 u4 : Int32) : Int32 := if u2.toInt = 0 then (18 : Int32) else (if u2.toInt = 1 then (if u4 = (0 : Int32) then (24 : Int32) else (-1 : Int32)) else (if u2.toInt = 2 then (19 : Int32) else (if u2.toInt = 3 then (20 : Int32) else (if u2.toInt = 4 then (21 : Int32) else (if u2.toInt = 5 then (if u4 = (0 : Int32) then (25 : Int32) else (if u4 = (32 : Int32) then (26 : Int32) else (-1 : Int32))) else (if u2.toInt = 6 then (22 : Int32) else (23 : Int32)))))))
def r9O (u2 u4 : Int32) : Int32 := if u4 = (1 : Int32) then ((40 : Int32) + u2) else (if u4 = (32 : Int32) then (if u2 = (0 : Int32) then (28 : Int32) else (if u2 = (5 : Int32) then (34 : Int32) else (-1 : Int32))) else (if u4 = (0 : Int32) then (if u2.toInt = 0 then (27 : Int32) else (if u2.toInt = 1 then (29 : Int32) else (if u2.toInt = 2 then (30 : Int32) else (if u2.toInt = 3 then (31 : Int32) else (if u2.toInt = 4 then (32 : Int32) else (if u2.toInt = 5 then (33 : Int32) else (if u2.toInt = 6 then (35 : Int32) else (36 : Int32)))))))) else (-1 : Int32)))
def s9O (u2 u4 u6 a0 : Int32) : Int32 := if u6.toInt = 3 then (if (3 : Int32) ≤ u2 then (if u2 = (4 : Int32) then (13 : Int32) else (if u2 = (5 : Int32) then (14 : Int32) else (-1 : Int32))) else ((10 : Int32) + u2)) else (if u6.toInt = 15 then (if u2 = (0 : Int32) then (37 : Int32) else (-1 : Int32)) else (if u6.toInt = 19 then (i9O u2 u4) else (if u6.toInt = 23 then (1 : Int32) else (if u6.toInt = 35 then (if (3 : Int32) ≤ u2 then (-1 : Int32) else ((15 : Int32) + u2)) else (if u6.toInt = 51 then (r9O u2 u4) else (if u6.toInt = 55 then (0 : Int32) else (if u6.toInt = 99 then (if (2 : Int32) ≤ u2 then (if u2 ≤ (3 : Int32) then (-1 : Int32) else ((2 : Int32) + u2)) else ((4 : Int32) + u2)) else (if u6.toInt = 103 then (if u2 = (0 : Int32) then (3 : Int32) else (-1 : Int32)) else (if u6.toInt = 111 then (2 : Int32) else (if u6.toInt = 115 then (if a0 = (115 : Int32) then (38 : Int32) else (if a0 = (1048691 : Int32) then (39 : Int32) else (-1 : Int32))) else (-1 : Int32)))))))))))
def pcI (w : Int32) (hi lo : Int32) : Int32 := ((((w).toUInt32 >>> ((lo).toUInt32 &&& Int32.toUInt32 31)).toInt32) &&& (((1 : Int32) <<< (((hi - lo) + (1 : Int32)) &&& 31)) - (1 : Int32)))
def sOv (w : Int32) : Int32 := s9O (pcI w 14 12) (pcI w 31 25) (pcI w 6 0) w
theorem xhb_z {α β : Type} (v : α) (h : mv_H) (k : α → mv_H → Option β) : xhb (some (v, h)) k = k v h := rfl
theorem xhb_i {α β : Type} {c : Prop} [Decidable c] (x y : Option (α × mv_H)) (k : α → mv_H → Option β) : xhb (if c then x else y) k = if c then xhb x k else xhb y k := by split <;> rfl
theorem so_p {α : Type} {c : Prop} [Decidable c] (a b : α) (h : mv_H) : some ((if c then a else b), h) = if c then some (a, h) else some (b, h) := by split <;> rfl
set_option maxRecDepth 100000 in
set_option maxHeartbeats 8000000 in
theorem so_ok (h : mv_H) (w : Int32) : f_Model_shippedOp h w = some (sOv w, h) := by
  unfold sOv s9O i9O r9O pcI f_Model_shippedOp f_Model_immediateOp f_Model_registerOp f_Model_piece
  simp only [xhb_z, xhb_i, so_p]
def fmQ9 (a p f g : Nat) (w : Int32) : Prop := p = (fmG a).2.1 ∧ (1 ≤ (fmG a).1 ∧ (fmG a).1 ≤ 2 → f = (fmG a).2.2.1) ∧ ((fmG a).1 = 2 → g = (fmG a).2.2.2) ∧ ((fmG a).1 = 3 → w = if a = 38 then 115 else 1048691)
set_option maxRecDepth 100000 in
set_option maxHeartbeats 8000000 in
theorem so_1 {p f g : Nat} {w : Int32} : ∀ (a : Nat) (_ : a < 48), fmQ9 a p f g w → s9O (nI f) (nI g) (nI p) w = nI a := fun a ha h => match a, ha with
  | 0, _ => by
    obtain ⟨h1, -⟩ := h
    have h1 : p = 55 := h1
    subst h1
    rfl
  | 1, _ => by
    obtain ⟨h1, -⟩ := h
    have h1 : p = 23 := h1
    subst h1
    rfl
  | 2, _ => by
    obtain ⟨h1, -⟩ := h
    have h1 : p = 111 := h1
    subst h1
    rfl
  | 3, _ => by
    obtain ⟨h1, h2, -⟩ := h
    have h1 : p = 103 := h1
    have h2 : f = 0 := h2 (by decide)
    subst h1
    subst h2
    rfl
  | 4, _ => by
    obtain ⟨h1, h2, -⟩ := h
    have h1 : p = 99 := h1
    have h2 : f = 0 := h2 (by decide)
    subst h1
    subst h2
    rfl
  | 5, _ => by
    obtain ⟨h1, h2, -⟩ := h
    have h1 : p = 99 := h1
    have h2 : f = 1 := h2 (by decide)
    subst h1
    subst h2
    rfl
  | 6, _ => by
    obtain ⟨h1, h2, -⟩ := h
    have h1 : p = 99 := h1
    have h2 : f = 4 := h2 (by decide)
    subst h1
    subst h2
    rfl
  | 7, _ => by
    obtain ⟨h1, h2, -⟩ := h
    have h1 : p = 99 := h1
    have h2 : f = 5 := h2 (by decide)
    subst h1
    subst h2
    rfl
  | 8, _ => by
    obtain ⟨h1, h2, -⟩ := h
    have h1 : p = 99 := h1
    have h2 : f = 6 := h2 (by decide)
    subst h1
    subst h2
    rfl
  | 9, _ => by
    obtain ⟨h1, h2, -⟩ := h
    have h1 : p = 99 := h1
    have h2 : f = 7 := h2 (by decide)
    subst h1
    subst h2
    rfl
  | 10, _ => by
    obtain ⟨h1, h2, -⟩ := h
    have h1 : p = 3 := h1
    have h2 : f = 0 := h2 (by decide)
    subst h1
    subst h2
    rfl
  | 11, _ => by
    obtain ⟨h1, h2, -⟩ := h
    have h1 : p = 3 := h1
    have h2 : f = 1 := h2 (by decide)
    subst h1
    subst h2
    rfl
  | 12, _ => by
    obtain ⟨h1, h2, -⟩ := h
    have h1 : p = 3 := h1
    have h2 : f = 2 := h2 (by decide)
    subst h1
    subst h2
    rfl
  | 13, _ => by
    obtain ⟨h1, h2, -⟩ := h
    have h1 : p = 3 := h1
    have h2 : f = 4 := h2 (by decide)
    subst h1
    subst h2
    rfl
  | 14, _ => by
    obtain ⟨h1, h2, -⟩ := h
    have h1 : p = 3 := h1
    have h2 : f = 5 := h2 (by decide)
    subst h1
    subst h2
    rfl
  | 15, _ => by
    obtain ⟨h1, h2, -⟩ := h
    have h1 : p = 35 := h1
    have h2 : f = 0 := h2 (by decide)
    subst h1
    subst h2
    rfl
  | 16, _ => by
    obtain ⟨h1, h2, -⟩ := h
    have h1 : p = 35 := h1
    have h2 : f = 1 := h2 (by decide)
    subst h1
    subst h2
    rfl
  | 17, _ => by
    obtain ⟨h1, h2, -⟩ := h
    have h1 : p = 35 := h1
    have h2 : f = 2 := h2 (by decide)
    subst h1
    subst h2
    rfl
  | 18, _ => by
    obtain ⟨h1, h2, -⟩ := h
    have h1 : p = 19 := h1
    have h2 : f = 0 := h2 (by decide)
    subst h1
    subst h2
    rfl
  | 19, _ => by
    obtain ⟨h1, h2, -⟩ := h
    have h1 : p = 19 := h1
    have h2 : f = 2 := h2 (by decide)
    subst h1
    subst h2
    rfl
  | 20, _ => by
    obtain ⟨h1, h2, -⟩ := h
    have h1 : p = 19 := h1
    have h2 : f = 3 := h2 (by decide)
    subst h1
    subst h2
    rfl
  | 21, _ => by
    obtain ⟨h1, h2, -⟩ := h
    have h1 : p = 19 := h1
    have h2 : f = 4 := h2 (by decide)
    subst h1
    subst h2
    rfl
  | 22, _ => by
    obtain ⟨h1, h2, -⟩ := h
    have h1 : p = 19 := h1
    have h2 : f = 6 := h2 (by decide)
    subst h1
    subst h2
    rfl
  | 23, _ => by
    obtain ⟨h1, h2, -⟩ := h
    have h1 : p = 19 := h1
    have h2 : f = 7 := h2 (by decide)
    subst h1
    subst h2
    rfl
  | 24, _ => by
    obtain ⟨h1, h2, h3, -⟩ := h
    have h1 : p = 19 := h1
    have h2 : f = 1 := h2 (by decide)
    have h3 : g = 0 := h3 (by decide)
    subst h1
    subst h2
    subst h3
    rfl
  | 25, _ => by
    obtain ⟨h1, h2, h3, -⟩ := h
    have h1 : p = 19 := h1
    have h2 : f = 5 := h2 (by decide)
    have h3 : g = 0 := h3 (by decide)
    subst h1
    subst h2
    subst h3
    rfl
  | 26, _ => by
    obtain ⟨h1, h2, h3, -⟩ := h
    have h1 : p = 19 := h1
    have h2 : f = 5 := h2 (by decide)
    have h3 : g = 32 := h3 (by decide)
    subst h1
    subst h2
    subst h3
    rfl
  | 27, _ => by
    obtain ⟨h1, h2, h3, -⟩ := h
    have h1 : p = 51 := h1
    have h2 : f = 0 := h2 (by decide)
    have h3 : g = 0 := h3 (by decide)
    subst h1
    subst h2
    subst h3
    rfl
  | 28, _ => by
    obtain ⟨h1, h2, h3, -⟩ := h
    have h1 : p = 51 := h1
    have h2 : f = 0 := h2 (by decide)
    have h3 : g = 32 := h3 (by decide)
    subst h1
    subst h2
    subst h3
    rfl
  | 29, _ => by
    obtain ⟨h1, h2, h3, -⟩ := h
    have h1 : p = 51 := h1
    have h2 : f = 1 := h2 (by decide)
    have h3 : g = 0 := h3 (by decide)
    subst h1
    subst h2
    subst h3
    rfl
  | 30, _ => by
    obtain ⟨h1, h2, h3, -⟩ := h
    have h1 : p = 51 := h1
    have h2 : f = 2 := h2 (by decide)
    have h3 : g = 0 := h3 (by decide)
    subst h1
    subst h2
    subst h3
    rfl
  | 31, _ => by
    obtain ⟨h1, h2, h3, -⟩ := h
    have h1 : p = 51 := h1
    have h2 : f = 3 := h2 (by decide)
    have h3 : g = 0 := h3 (by decide)
    subst h1
    subst h2
    subst h3
    rfl
  | 32, _ => by
    obtain ⟨h1, h2, h3, -⟩ := h
    have h1 : p = 51 := h1
    have h2 : f = 4 := h2 (by decide)
    have h3 : g = 0 := h3 (by decide)
    subst h1
    subst h2
    subst h3
    rfl
  | 33, _ => by
    obtain ⟨h1, h2, h3, -⟩ := h
    have h1 : p = 51 := h1
    have h2 : f = 5 := h2 (by decide)
    have h3 : g = 0 := h3 (by decide)
    subst h1
    subst h2
    subst h3
    rfl
  | 34, _ => by
    obtain ⟨h1, h2, h3, -⟩ := h
    have h1 : p = 51 := h1
    have h2 : f = 5 := h2 (by decide)
    have h3 : g = 32 := h3 (by decide)
    subst h1
    subst h2
    subst h3
    rfl
  | 35, _ => by
    obtain ⟨h1, h2, h3, -⟩ := h
    have h1 : p = 51 := h1
    have h2 : f = 6 := h2 (by decide)
    have h3 : g = 0 := h3 (by decide)
    subst h1
    subst h2
    subst h3
    rfl
  | 36, _ => by
    obtain ⟨h1, h2, h3, -⟩ := h
    have h1 : p = 51 := h1
    have h2 : f = 7 := h2 (by decide)
    have h3 : g = 0 := h3 (by decide)
    subst h1
    subst h2
    subst h3
    rfl
  | 37, _ => by
    obtain ⟨h1, h2, -⟩ := h
    have h1 : p = 15 := h1
    have h2 : f = 0 := h2 (by decide)
    subst h1
    subst h2
    rfl
  | 38, _ => by
    obtain ⟨h1, -, -, h4⟩ := h
    have h1 : p = 115 := h1
    have h4 : w = 115 := h4 rfl
    subst h1
    subst h4
    rfl
  | 39, _ => by
    obtain ⟨h1, -, -, h4⟩ := h
    have h1 : p = 115 := h1
    have h4 : w = 1048691 := h4 rfl
    subst h1
    subst h4
    rfl
  | 40, _ => by
    obtain ⟨h1, h2, h3, -⟩ := h
    have h1 : p = 51 := h1
    have h2 : f = 0 := h2 (by decide)
    have h3 : g = 1 := h3 (by decide)
    subst h1
    subst h2
    subst h3
    rfl
  | 41, _ => by
    obtain ⟨h1, h2, h3, -⟩ := h
    have h1 : p = 51 := h1
    have h2 : f = 1 := h2 (by decide)
    have h3 : g = 1 := h3 (by decide)
    subst h1
    subst h2
    subst h3
    rfl
  | 42, _ => by
    obtain ⟨h1, h2, h3, -⟩ := h
    have h1 : p = 51 := h1
    have h2 : f = 2 := h2 (by decide)
    have h3 : g = 1 := h3 (by decide)
    subst h1
    subst h2
    subst h3
    rfl
  | 43, _ => by
    obtain ⟨h1, h2, h3, -⟩ := h
    have h1 : p = 51 := h1
    have h2 : f = 3 := h2 (by decide)
    have h3 : g = 1 := h3 (by decide)
    subst h1
    subst h2
    subst h3
    rfl
  | 44, _ => by
    obtain ⟨h1, h2, h3, -⟩ := h
    have h1 : p = 51 := h1
    have h2 : f = 4 := h2 (by decide)
    have h3 : g = 1 := h3 (by decide)
    subst h1
    subst h2
    subst h3
    rfl
  | 45, _ => by
    obtain ⟨h1, h2, h3, -⟩ := h
    have h1 : p = 51 := h1
    have h2 : f = 5 := h2 (by decide)
    have h3 : g = 1 := h3 (by decide)
    subst h1
    subst h2
    subst h3
    rfl
  | 46, _ => by
    obtain ⟨h1, h2, h3, -⟩ := h
    have h1 : p = 51 := h1
    have h2 : f = 6 := h2 (by decide)
    have h3 : g = 1 := h3 (by decide)
    subst h1
    subst h2
    subst h3
    rfl
  | 47, _ => by
    obtain ⟨h1, h2, h3, -⟩ := h
    have h1 : p = 51 := h1
    have h2 : f = 7 := h2 (by decide)
    have h3 : g = 1 := h3 (by decide)
    subst h1
    subst h2
    subst h3
    rfl
  | n + 48, ha => by omega
theorem nn9 {g x : Nat} (hg : g < 1000) (hx : x < 1000) (h : ¬ g = x) : ¬ nI g = nI x := fun q => h ((nIinj (by omega) (by omega)).mp q)
set_option maxRecDepth 100000 in
set_option maxHeartbeats 8000000 in
theorem so_2 {p f g : Nat} {w : Int32} (hp : p < 128) (hf : f < 8) (hg : g < 128) : s9O (nI f) (nI g) (nI p) w = -1 ∨ ∃ a, a < 48 ∧ s9O (nI f) (nI g) (nI p) w = nI a ∧ fmQ9 a p f g w := by
  have ng : ∀ x : Nat, x < 1000 → ¬ g = x → ¬ nI g = nI x := fun x hx h => nn9 (by omega) hx h
  have np : ∀ x : Nat, x < 1000 → ¬ p = x → ¬ (nI p).toInt = (x : Int) := fun x hx h => by rw [nIi (by omega)]; omega
  by_cases p3 : p = 3
  · subst p3
    rcases (show f = 0 ∨ f = 1 ∨ f = 2 ∨ f = 3 ∨ f = 4 ∨ f = 5 ∨ f = 6 ∨ f = 7 by omega) with q | q | q | q | q | q | q | q
    · subst q
      exact Or.inr ⟨10, by decide, rfl, rfl, fun z => by first | rfl | exact absurd z (by decide), fun z => by first | rfl | exact absurd z (by decide), fun z => by first | rfl | exact absurd z (by decide)⟩
    · subst q
      exact Or.inr ⟨11, by decide, rfl, rfl, fun z => by first | rfl | exact absurd z (by decide), fun z => by first | rfl | exact absurd z (by decide), fun z => by first | rfl | exact absurd z (by decide)⟩
    · subst q
      exact Or.inr ⟨12, by decide, rfl, rfl, fun z => by first | rfl | exact absurd z (by decide), fun z => by first | rfl | exact absurd z (by decide), fun z => by first | rfl | exact absurd z (by decide)⟩
    · subst q
      exact Or.inl rfl
    · subst q
      exact Or.inr ⟨13, by decide, rfl, rfl, fun z => by first | rfl | exact absurd z (by decide), fun z => by first | rfl | exact absurd z (by decide), fun z => by first | rfl | exact absurd z (by decide)⟩
    · subst q
      exact Or.inr ⟨14, by decide, rfl, rfl, fun z => by first | rfl | exact absurd z (by decide), fun z => by first | rfl | exact absurd z (by decide), fun z => by first | rfl | exact absurd z (by decide)⟩
    · subst q
      exact Or.inl rfl
    · subst q
      exact Or.inl rfl
  by_cases p15 : p = 15
  · subst p15
    rcases (show f = 0 ∨ f = 1 ∨ f = 2 ∨ f = 3 ∨ f = 4 ∨ f = 5 ∨ f = 6 ∨ f = 7 by omega) with q | q | q | q | q | q | q | q
    · subst q
      exact Or.inr ⟨37, by decide, rfl, rfl, fun z => by first | rfl | exact absurd z (by decide), fun z => by first | rfl | exact absurd z (by decide), fun z => by first | rfl | exact absurd z (by decide)⟩
    · subst q
      exact Or.inl rfl
    · subst q
      exact Or.inl rfl
    · subst q
      exact Or.inl rfl
    · subst q
      exact Or.inl rfl
    · subst q
      exact Or.inl rfl
    · subst q
      exact Or.inl rfl
    · subst q
      exact Or.inl rfl
  by_cases p19 : p = 19
  · subst p19
    rcases (show f = 0 ∨ f = 1 ∨ f = 2 ∨ f = 3 ∨ f = 4 ∨ f = 5 ∨ f = 6 ∨ f = 7 by omega) with q | q | q | q | q | q | q | q
    · subst q
      exact Or.inr ⟨18, by decide, rfl, rfl, fun z => by first | rfl | exact absurd z (by decide), fun z => by first | rfl | exact absurd z (by decide), fun z => by first | rfl | exact absurd z (by decide)⟩
    · subst q
      by_cases g0 : g = 0
      · subst g0
        exact Or.inr ⟨24, by decide, rfl, rfl, fun z => by first | rfl | exact absurd z (by decide), fun z => by first | rfl | exact absurd z (by decide), fun z => by first | rfl | exact absurd z (by decide)⟩
      · skip
        refine Or.inl ?_
        show (if nI g = (0 : Int32) then (24 : Int32) else (-1 : Int32)) = -1
        rw [if_neg (show ¬ nI g = (0 : Int32) from ng 0 (by decide) g0)]
    · subst q
      exact Or.inr ⟨19, by decide, rfl, rfl, fun z => by first | rfl | exact absurd z (by decide), fun z => by first | rfl | exact absurd z (by decide), fun z => by first | rfl | exact absurd z (by decide)⟩
    · subst q
      exact Or.inr ⟨20, by decide, rfl, rfl, fun z => by first | rfl | exact absurd z (by decide), fun z => by first | rfl | exact absurd z (by decide), fun z => by first | rfl | exact absurd z (by decide)⟩
    · subst q
      exact Or.inr ⟨21, by decide, rfl, rfl, fun z => by first | rfl | exact absurd z (by decide), fun z => by first | rfl | exact absurd z (by decide), fun z => by first | rfl | exact absurd z (by decide)⟩
    · subst q
      by_cases g0 : g = 0
      · subst g0
        exact Or.inr ⟨25, by decide, rfl, rfl, fun z => by first | rfl | exact absurd z (by decide), fun z => by first | rfl | exact absurd z (by decide), fun z => by first | rfl | exact absurd z (by decide)⟩
      · skip
        by_cases g32 : g = 32
        · subst g32
          exact Or.inr ⟨26, by decide, rfl, rfl, fun z => by first | rfl | exact absurd z (by decide), fun z => by first | rfl | exact absurd z (by decide), fun z => by first | rfl | exact absurd z (by decide)⟩
        · skip
          refine Or.inl ?_
          show (if nI g = (0 : Int32) then (25 : Int32) else (if nI g = (32 : Int32) then (26 : Int32) else (-1 : Int32))) = -1
          rw [if_neg (show ¬ nI g = (0 : Int32) from ng 0 (by decide) g0), if_neg (show ¬ nI g = (32 : Int32) from ng 32 (by decide) g32)]
    · subst q
      exact Or.inr ⟨22, by decide, rfl, rfl, fun z => by first | rfl | exact absurd z (by decide), fun z => by first | rfl | exact absurd z (by decide), fun z => by first | rfl | exact absurd z (by decide)⟩
    · subst q
      exact Or.inr ⟨23, by decide, rfl, rfl, fun z => by first | rfl | exact absurd z (by decide), fun z => by first | rfl | exact absurd z (by decide), fun z => by first | rfl | exact absurd z (by decide)⟩
  by_cases p23 : p = 23
  · subst p23
    exact Or.inr ⟨1, by decide, rfl, rfl, fun z => by first | rfl | exact absurd z (by decide), fun z => by first | rfl | exact absurd z (by decide), fun z => by first | rfl | exact absurd z (by decide)⟩
  by_cases p35 : p = 35
  · subst p35
    rcases (show f = 0 ∨ f = 1 ∨ f = 2 ∨ f = 3 ∨ f = 4 ∨ f = 5 ∨ f = 6 ∨ f = 7 by omega) with q | q | q | q | q | q | q | q
    · subst q
      exact Or.inr ⟨15, by decide, rfl, rfl, fun z => by first | rfl | exact absurd z (by decide), fun z => by first | rfl | exact absurd z (by decide), fun z => by first | rfl | exact absurd z (by decide)⟩
    · subst q
      exact Or.inr ⟨16, by decide, rfl, rfl, fun z => by first | rfl | exact absurd z (by decide), fun z => by first | rfl | exact absurd z (by decide), fun z => by first | rfl | exact absurd z (by decide)⟩
    · subst q
      exact Or.inr ⟨17, by decide, rfl, rfl, fun z => by first | rfl | exact absurd z (by decide), fun z => by first | rfl | exact absurd z (by decide), fun z => by first | rfl | exact absurd z (by decide)⟩
    · subst q
      exact Or.inl rfl
    · subst q
      exact Or.inl rfl
    · subst q
      exact Or.inl rfl
    · subst q
      exact Or.inl rfl
    · subst q
      exact Or.inl rfl
  by_cases p51 : p = 51
  · subst p51
    rcases (show f = 0 ∨ f = 1 ∨ f = 2 ∨ f = 3 ∨ f = 4 ∨ f = 5 ∨ f = 6 ∨ f = 7 by omega) with q | q | q | q | q | q | q | q
    · subst q
      by_cases g1 : g = 1
      · subst g1
        exact Or.inr ⟨40, by decide, rfl, rfl, fun z => by first | rfl | exact absurd z (by decide), fun z => by first | rfl | exact absurd z (by decide), fun z => by first | rfl | exact absurd z (by decide)⟩
      · skip
        by_cases g32 : g = 32
        · subst g32
          exact Or.inr ⟨28, by decide, rfl, rfl, fun z => by first | rfl | exact absurd z (by decide), fun z => by first | rfl | exact absurd z (by decide), fun z => by first | rfl | exact absurd z (by decide)⟩
        · skip
          by_cases g0 : g = 0
          · subst g0
            exact Or.inr ⟨27, by decide, rfl, rfl, fun z => by first | rfl | exact absurd z (by decide), fun z => by first | rfl | exact absurd z (by decide), fun z => by first | rfl | exact absurd z (by decide)⟩
          · skip
            refine Or.inl ?_
            show r9O (nI 0) (nI g) = -1
            unfold r9O
            rw [if_neg (show ¬ nI g = (1 : Int32) from ng 1 (by decide) g1), if_neg (show ¬ nI g = (32 : Int32) from ng 32 (by decide) g32), if_neg (show ¬ nI g = (0 : Int32) from ng 0 (by decide) g0)]
    · subst q
      by_cases g1 : g = 1
      · subst g1
        exact Or.inr ⟨41, by decide, rfl, rfl, fun z => by first | rfl | exact absurd z (by decide), fun z => by first | rfl | exact absurd z (by decide), fun z => by first | rfl | exact absurd z (by decide)⟩
      · skip
        by_cases g32 : g = 32
        · subst g32
          exact Or.inl rfl
        · skip
          by_cases g0 : g = 0
          · subst g0
            exact Or.inr ⟨29, by decide, rfl, rfl, fun z => by first | rfl | exact absurd z (by decide), fun z => by first | rfl | exact absurd z (by decide), fun z => by first | rfl | exact absurd z (by decide)⟩
          · skip
            refine Or.inl ?_
            show r9O (nI 1) (nI g) = -1
            unfold r9O
            rw [if_neg (show ¬ nI g = (1 : Int32) from ng 1 (by decide) g1), if_neg (show ¬ nI g = (32 : Int32) from ng 32 (by decide) g32), if_neg (show ¬ nI g = (0 : Int32) from ng 0 (by decide) g0)]
    · subst q
      by_cases g1 : g = 1
      · subst g1
        exact Or.inr ⟨42, by decide, rfl, rfl, fun z => by first | rfl | exact absurd z (by decide), fun z => by first | rfl | exact absurd z (by decide), fun z => by first | rfl | exact absurd z (by decide)⟩
      · skip
        by_cases g32 : g = 32
        · subst g32
          exact Or.inl rfl
        · skip
          by_cases g0 : g = 0
          · subst g0
            exact Or.inr ⟨30, by decide, rfl, rfl, fun z => by first | rfl | exact absurd z (by decide), fun z => by first | rfl | exact absurd z (by decide), fun z => by first | rfl | exact absurd z (by decide)⟩
          · skip
            refine Or.inl ?_
            show r9O (nI 2) (nI g) = -1
            unfold r9O
            rw [if_neg (show ¬ nI g = (1 : Int32) from ng 1 (by decide) g1), if_neg (show ¬ nI g = (32 : Int32) from ng 32 (by decide) g32), if_neg (show ¬ nI g = (0 : Int32) from ng 0 (by decide) g0)]
    · subst q
      by_cases g1 : g = 1
      · subst g1
        exact Or.inr ⟨43, by decide, rfl, rfl, fun z => by first | rfl | exact absurd z (by decide), fun z => by first | rfl | exact absurd z (by decide), fun z => by first | rfl | exact absurd z (by decide)⟩
      · skip
        by_cases g32 : g = 32
        · subst g32
          exact Or.inl rfl
        · skip
          by_cases g0 : g = 0
          · subst g0
            exact Or.inr ⟨31, by decide, rfl, rfl, fun z => by first | rfl | exact absurd z (by decide), fun z => by first | rfl | exact absurd z (by decide), fun z => by first | rfl | exact absurd z (by decide)⟩
          · skip
            refine Or.inl ?_
            show r9O (nI 3) (nI g) = -1
            unfold r9O
            rw [if_neg (show ¬ nI g = (1 : Int32) from ng 1 (by decide) g1), if_neg (show ¬ nI g = (32 : Int32) from ng 32 (by decide) g32), if_neg (show ¬ nI g = (0 : Int32) from ng 0 (by decide) g0)]
    · subst q
      by_cases g1 : g = 1
      · subst g1
        exact Or.inr ⟨44, by decide, rfl, rfl, fun z => by first | rfl | exact absurd z (by decide), fun z => by first | rfl | exact absurd z (by decide), fun z => by first | rfl | exact absurd z (by decide)⟩
      · skip
        by_cases g32 : g = 32
        · subst g32
          exact Or.inl rfl
        · skip
          by_cases g0 : g = 0
          · subst g0
            exact Or.inr ⟨32, by decide, rfl, rfl, fun z => by first | rfl | exact absurd z (by decide), fun z => by first | rfl | exact absurd z (by decide), fun z => by first | rfl | exact absurd z (by decide)⟩
          · skip
            refine Or.inl ?_
            show r9O (nI 4) (nI g) = -1
            unfold r9O
            rw [if_neg (show ¬ nI g = (1 : Int32) from ng 1 (by decide) g1), if_neg (show ¬ nI g = (32 : Int32) from ng 32 (by decide) g32), if_neg (show ¬ nI g = (0 : Int32) from ng 0 (by decide) g0)]
    · subst q
      by_cases g1 : g = 1
      · subst g1
        exact Or.inr ⟨45, by decide, rfl, rfl, fun z => by first | rfl | exact absurd z (by decide), fun z => by first | rfl | exact absurd z (by decide), fun z => by first | rfl | exact absurd z (by decide)⟩
      · skip
        by_cases g32 : g = 32
        · subst g32
          exact Or.inr ⟨34, by decide, rfl, rfl, fun z => by first | rfl | exact absurd z (by decide), fun z => by first | rfl | exact absurd z (by decide), fun z => by first | rfl | exact absurd z (by decide)⟩
        · skip
          by_cases g0 : g = 0
          · subst g0
            exact Or.inr ⟨33, by decide, rfl, rfl, fun z => by first | rfl | exact absurd z (by decide), fun z => by first | rfl | exact absurd z (by decide), fun z => by first | rfl | exact absurd z (by decide)⟩
          · skip
            refine Or.inl ?_
            show r9O (nI 5) (nI g) = -1
            unfold r9O
            rw [if_neg (show ¬ nI g = (1 : Int32) from ng 1 (by decide) g1), if_neg (show ¬ nI g = (32 : Int32) from ng 32 (by decide) g32), if_neg (show ¬ nI g = (0 : Int32) from ng 0 (by decide) g0)]
    · subst q
      by_cases g1 : g = 1
      · subst g1
        exact Or.inr ⟨46, by decide, rfl, rfl, fun z => by first | rfl | exact absurd z (by decide), fun z => by first | rfl | exact absurd z (by decide), fun z => by first | rfl | exact absurd z (by decide)⟩
      · skip
        by_cases g32 : g = 32
        · subst g32
          exact Or.inl rfl
        · skip
          by_cases g0 : g = 0
          · subst g0
            exact Or.inr ⟨35, by decide, rfl, rfl, fun z => by first | rfl | exact absurd z (by decide), fun z => by first | rfl | exact absurd z (by decide), fun z => by first | rfl | exact absurd z (by decide)⟩
          · skip
            refine Or.inl ?_
            show r9O (nI 6) (nI g) = -1
            unfold r9O
            rw [if_neg (show ¬ nI g = (1 : Int32) from ng 1 (by decide) g1), if_neg (show ¬ nI g = (32 : Int32) from ng 32 (by decide) g32), if_neg (show ¬ nI g = (0 : Int32) from ng 0 (by decide) g0)]
    · subst q
      by_cases g1 : g = 1
      · subst g1
        exact Or.inr ⟨47, by decide, rfl, rfl, fun z => by first | rfl | exact absurd z (by decide), fun z => by first | rfl | exact absurd z (by decide), fun z => by first | rfl | exact absurd z (by decide)⟩
      · skip
        by_cases g32 : g = 32
        · subst g32
          exact Or.inl rfl
        · skip
          by_cases g0 : g = 0
          · subst g0
            exact Or.inr ⟨36, by decide, rfl, rfl, fun z => by first | rfl | exact absurd z (by decide), fun z => by first | rfl | exact absurd z (by decide), fun z => by first | rfl | exact absurd z (by decide)⟩
          · skip
            refine Or.inl ?_
            show r9O (nI 7) (nI g) = -1
            unfold r9O
            rw [if_neg (show ¬ nI g = (1 : Int32) from ng 1 (by decide) g1), if_neg (show ¬ nI g = (32 : Int32) from ng 32 (by decide) g32), if_neg (show ¬ nI g = (0 : Int32) from ng 0 (by decide) g0)]
  by_cases p55 : p = 55
  · subst p55
    exact Or.inr ⟨0, by decide, rfl, rfl, fun z => by first | rfl | exact absurd z (by decide), fun z => by first | rfl | exact absurd z (by decide), fun z => by first | rfl | exact absurd z (by decide)⟩
  by_cases p99 : p = 99
  · subst p99
    rcases (show f = 0 ∨ f = 1 ∨ f = 2 ∨ f = 3 ∨ f = 4 ∨ f = 5 ∨ f = 6 ∨ f = 7 by omega) with q | q | q | q | q | q | q | q
    · subst q
      exact Or.inr ⟨4, by decide, rfl, rfl, fun z => by first | rfl | exact absurd z (by decide), fun z => by first | rfl | exact absurd z (by decide), fun z => by first | rfl | exact absurd z (by decide)⟩
    · subst q
      exact Or.inr ⟨5, by decide, rfl, rfl, fun z => by first | rfl | exact absurd z (by decide), fun z => by first | rfl | exact absurd z (by decide), fun z => by first | rfl | exact absurd z (by decide)⟩
    · subst q
      exact Or.inl rfl
    · subst q
      exact Or.inl rfl
    · subst q
      exact Or.inr ⟨6, by decide, rfl, rfl, fun z => by first | rfl | exact absurd z (by decide), fun z => by first | rfl | exact absurd z (by decide), fun z => by first | rfl | exact absurd z (by decide)⟩
    · subst q
      exact Or.inr ⟨7, by decide, rfl, rfl, fun z => by first | rfl | exact absurd z (by decide), fun z => by first | rfl | exact absurd z (by decide), fun z => by first | rfl | exact absurd z (by decide)⟩
    · subst q
      exact Or.inr ⟨8, by decide, rfl, rfl, fun z => by first | rfl | exact absurd z (by decide), fun z => by first | rfl | exact absurd z (by decide), fun z => by first | rfl | exact absurd z (by decide)⟩
    · subst q
      exact Or.inr ⟨9, by decide, rfl, rfl, fun z => by first | rfl | exact absurd z (by decide), fun z => by first | rfl | exact absurd z (by decide), fun z => by first | rfl | exact absurd z (by decide)⟩
  by_cases p103 : p = 103
  · subst p103
    rcases (show f = 0 ∨ f = 1 ∨ f = 2 ∨ f = 3 ∨ f = 4 ∨ f = 5 ∨ f = 6 ∨ f = 7 by omega) with q | q | q | q | q | q | q | q
    · subst q
      exact Or.inr ⟨3, by decide, rfl, rfl, fun z => by first | rfl | exact absurd z (by decide), fun z => by first | rfl | exact absurd z (by decide), fun z => by first | rfl | exact absurd z (by decide)⟩
    · subst q
      exact Or.inl rfl
    · subst q
      exact Or.inl rfl
    · subst q
      exact Or.inl rfl
    · subst q
      exact Or.inl rfl
    · subst q
      exact Or.inl rfl
    · subst q
      exact Or.inl rfl
    · subst q
      exact Or.inl rfl
  by_cases p111 : p = 111
  · subst p111
    exact Or.inr ⟨2, by decide, rfl, rfl, fun z => by first | rfl | exact absurd z (by decide), fun z => by first | rfl | exact absurd z (by decide), fun z => by first | rfl | exact absurd z (by decide)⟩
  by_cases p115 : p = 115
  · subst p115
    by_cases w1 : w = 115
    · subst w1
      exact Or.inr ⟨38, by decide, rfl, rfl, fun z => by first | rfl | exact absurd z (by decide), fun z => by first | rfl | exact absurd z (by decide), fun z => by first | rfl | exact absurd z (by decide)⟩
    · by_cases w2 : w = 1048691
      · subst w2
        exact Or.inr ⟨39, by decide, rfl, rfl, fun z => by first | rfl | exact absurd z (by decide), fun z => by first | rfl | exact absurd z (by decide), fun z => by first | rfl | exact absurd z (by decide)⟩
      · refine Or.inl ?_
        show (if w = (115 : Int32) then (38 : Int32) else (if w = (1048691 : Int32) then (39 : Int32) else (-1 : Int32))) = -1
        rw [if_neg w1, if_neg w2]
  refine Or.inl ?_
  unfold s9O
  rw [if_neg (show ¬ (nI p).toInt = 3 from np 3 (by decide) p3), if_neg (show ¬ (nI p).toInt = 15 from np 15 (by decide) p15), if_neg (show ¬ (nI p).toInt = 19 from np 19 (by decide) p19), if_neg (show ¬ (nI p).toInt = 23 from np 23 (by decide) p23), if_neg (show ¬ (nI p).toInt = 35 from np 35 (by decide) p35), if_neg (show ¬ (nI p).toInt = 51 from np 51 (by decide) p51), if_neg (show ¬ (nI p).toInt = 55 from np 55 (by decide) p55), if_neg (show ¬ (nI p).toInt = 99 from np 99 (by decide) p99), if_neg (show ¬ (nI p).toInt = 103 from np 103 (by decide) p103), if_neg (show ¬ (nI p).toInt = 111 from np 111 (by decide) p111), if_neg (show ¬ (nI p).toInt = 115 from np 115 (by decide) p115)]

set_option maxHeartbeats 4000000 in
set_option maxRecDepth 100000 in
theorem c_kd_Model_decode_x (l : Launch) {dA : FieldType → ClassId} {D : va_G} {al : Nat → Nat} {ext : mv_Sh} {sk sv : Nat → Nat} (hi : mv_inj (mg dA D al ext)) (σ : mv_H) (hM : MI 74 108 σ) (w0 : Int64) : mv_C l y_Model_decode (Cond.code y_Model_decode b_Model_decode 4 (Option.some Jvm.ClassFile.FieldType.int) :: ma) ({ frames := 2, cells := 0, slots := 0, locals := 49 }) (mg dA D al ext) (mK sk sv) [.ref (al 70), .long w0] σ (mv_Ri (fun v σ1 => QF 74 σ σ1 ∧ ((mv_i σ 70 11 = 0 ∧ DRq 74 σ w0 v) ∨ (¬ mv_i σ 70 11 = 0 ∧ v = sOv w0.toInt32)))) := by
  refine mv_C.ofV (cc := b_Model_decode) (nL := 4) (ret := (Option.some Jvm.ClassFile.FieldType.int)) (by decide +kernel) rfl hi (Nat.le_of_ble_eq_true rfl) ?_
  intro p e s m below meth c B hNs hr hnm hno
  have hN : 74 = 74 ∨ 74 = 108 := by decide
  refine mv_aload_n (pc := 0) B d_Model_decode_0 rfl 0 rfl ?_
  refine mv_iconst (pc := 1) (v := 0) B d_Model_decode_1 (by decide) ?_
  refine mv_putI (pc := 2) (ci := 11) (C := R_Model) (T := F_Model) (N := 16) B 2 rfl rfl (by decide) i_Model t_Model_ok n_Model (B.2.2.2.1 _ k_2047) rfl rfl rfl rfl d_Model_decode_2 ?_
  refine mv_gen (fun S5 eS5 => ?_)
  have hF : QF 74 σ S5 := by rw [eS5]; exact QF.si Fx.rf (by decide)
  have hM := hM.qf hF hN
  have e11 : mv_i S5 70 11 = mv_i σ 70 11 := hF.sh hN
  have i29 : mv_i S5 74 29 = mv_i σ 74 29 := hF.1 74 29 (by omega)
  have eS : ∀ a, FTo 74 S5 w0 a = FTo 74 σ w0 a := fun a => by unfold FTo; rw [hF.1 74 20 (by omega), show mv_a S5 = mv_a σ by rw [eS5] <;> rfl]
  clear eS5
  refine mv_aload_n (pc := 5) B d_Model_decode_5 rfl 0 rfl ?_
  refine mv_getI (pc := 6) (ci := 11) (C := R_Model) (T := F_Model) (N := 16) B 11 rfl rfl (by decide) i_Model (B.2.2.2.1 _ k_2056) rfl d_Model_decode_6 ?_
  refine mv_if_eq (pc := 9) (tgt := 18) B d_Model_decode_9 rfl (fun h9 => ?_) (fun h9 => ?_)
  · skip
    have hM0 := hM
    obtain ⟨-, -, -, th, n, k, g1, g2, g3, g4, g5, g6, g7, g8⟩ := hM0
    clear g6 g7 g8
    refine mv_aload_n (pc := 18) B d_Model_decode_18 rfl 0 rfl ?_
    refine mv_getR (pc := 19) (ci := 11) (C := R_Model) (T := F_Model) (N := 16) B 9 rfl rfl (by decide) i_Model (B.2.2.2.1 _ k_2054) rfl hM.2.1 d_Model_decode_19 ?_
    refine mv_lload_n (pc := 22) B d_Model_decode_22 rfl 1 rfl ?_
    refine mv_callVi (pc := 23) (n := 1) (ci := 12) (C := R_Book) B (mK_ok sk sv) hNs rfl rfl (c_kd_Book_decode_x l hi _ _ k hM.1 g5) rfl (ma_goodc kc_Book_decode) (B.2.2.2.1 _ k_2370) (B.2.2.2.1 _ k_2371) (B.2.2.2.1 _ k_2372) (B.2.2.2.1 _ k_13) ⟨by decide +kernel, by decide +kernel, by decide +kernel⟩ rfl d_Model_decode_23 rfl (Nat.le_of_ble_eq_true rfl) ⟨by decide, by decide⟩ ⟨by decide, by decide⟩ ⟨by decide, by decide⟩ (mv_noH hno _) (fun v23 σ23 h23 => ?_)
    obtain ⟨f23, u23⟩ := h23
    have hF := hF.tr f23.qf
    have hM := hM.qf f23.qf hN
    have hD : DRq 74 σ w0 (mv_i σ23 74 63) := by
      unfold DRq
      rw [← i29, g5.1]
      simp only [eS] at u23
      exact u23
    refine mv_istore_n (pc := 26) B d_Model_decode_26 rfl (by decide) rfl ?_
    refine mv_iload_n (pc := 27) B d_Model_decode_27 rfl 0 rfl ?_
    refine mv_iconst (pc := 28) (v := 1) B d_Model_decode_28 (by decide) ?_
    refine mv_icmp_le (pc := 29) (tgt := 44) B d_Model_decode_29 rfl (fun h29 => ?_) (fun h29 => ?_)
    · skip
      refine mv_aload_n (pc := 44) B d_Model_decode_44 rfl 1 rfl ?_
      refine mv_getR (pc := 45) (ci := 11) (C := R_Model) (T := F_Model) (N := 16) B 9 rfl rfl (by decide) i_Model (B.2.2.2.1 _ k_2054) rfl hM.2.1 d_Model_decode_45 ?_
      refine mv_callVi (pc := 48) (n := 0) (ci := 12) (C := R_Book) B (mK_ok sk sv) hNs rfl rfl (c_kd_Book_op_x l hi _) rfl (ma_goodc kc_Book_op) (B.2.2.2.1 _ k_2378) (B.2.2.2.1 _ k_2379) (B.2.2.2.1 _ k_2380) (B.2.2.2.1 _ k_13) ⟨by decide +kernel, by decide +kernel, by decide +kernel⟩ rfl d_Model_decode_48 rfl (Nat.le_of_ble_eq_true rfl) ⟨by decide, by decide⟩ ⟨by decide, by decide⟩ ⟨by decide, by decide⟩ (mv_noH hno _) (fun v48 σ48 h48 => ?_)
      obtain ⟨e48, z48⟩ := h48
      have e48 := e48.symm
      subst e48
      exact mv_iret (pc := 51) B hr rfl d_Model_decode_51 (Nat.le_refl _) (Nat.le_refl _) ⟨_, rfl, by first | exact ⟨hF, Or.inl ⟨e11.symm.trans h9, by rw [z48]; exact hD⟩⟩ | exact ⟨hF.si (by decide), Or.inl ⟨e11.symm.trans h9, by rw [z48, mv_si_o _ _ (by omega)]; exact hD⟩⟩⟩
    · skip
      refine mv_aload_n (pc := 32) B d_Model_decode_32 rfl 1 rfl ?_
      refine mv_dup (pc := 33) B d_Model_decode_33 rfl ?_
      refine mv_getI (pc := 34) (ci := 11) (C := R_Model) (T := F_Model) (N := 16) B 15 rfl rfl (by decide) i_Model (B.2.2.2.1 _ k_2060) rfl d_Model_decode_34 ?_
      refine mv_iload_n (pc := 37) B d_Model_decode_37 rfl 0 rfl ?_
      refine mv_iconst (pc := 38) (v := 1) B d_Model_decode_38 (by decide) ?_
      refine mv_isub (pc := 39) B d_Model_decode_39 ?_
      refine mv_iadd (pc := 40) B d_Model_decode_40 ?_
      refine mv_putI (pc := 41) (ci := 11) (C := R_Model) (T := F_Model) (N := 16) B 15 rfl rfl (by decide) i_Model t_Model_ok n_Model (B.2.2.2.1 _ k_2060) rfl rfl rfl rfl d_Model_decode_41 ?_
      refine mv_aload_n (pc := 44) B d_Model_decode_44 rfl 1 rfl ?_
      refine mv_getR (pc := 45) (ci := 11) (C := R_Model) (T := F_Model) (N := 16) B 9 rfl rfl (by decide) i_Model (B.2.2.2.1 _ k_2054) rfl hM.2.1 d_Model_decode_45 ?_
      refine mv_callVi (pc := 48) (n := 0) (ci := 12) (C := R_Book) B (mK_ok sk sv) hNs rfl rfl (c_kd_Book_op_x l hi _) rfl (ma_goodc kc_Book_op) (B.2.2.2.1 _ k_2378) (B.2.2.2.1 _ k_2379) (B.2.2.2.1 _ k_2380) (B.2.2.2.1 _ k_13) ⟨by decide +kernel, by decide +kernel, by decide +kernel⟩ rfl d_Model_decode_48 rfl (Nat.le_of_ble_eq_true rfl) ⟨by decide, by decide⟩ ⟨by decide, by decide⟩ ⟨by decide, by decide⟩ (mv_noH hno _) (fun v48 σ48 h48 => ?_)
      obtain ⟨e48, z48⟩ := h48
      have e48 := e48.symm
      subst e48
      exact mv_iret (pc := 51) B hr rfl d_Model_decode_51 (Nat.le_refl _) (Nat.le_refl _) ⟨_, rfl, by first | exact ⟨hF, Or.inl ⟨e11.symm.trans h9, by rw [z48]; exact hD⟩⟩ | exact ⟨hF.si (by decide), Or.inl ⟨e11.symm.trans h9, by rw [z48, mv_si_o _ _ (by omega)]; exact hD⟩⟩⟩
  · skip
    refine mv_lload_n (pc := 12) B d_Model_decode_12 rfl 1 rfl ?_
    refine mv_l2i (pc := 13) B d_Model_decode_13 ?_
    refine mv_callSi (pc := 14) (n := 1) B (mK_ok sk sv) hNs (ch_Model_shippedOp l hi _ _ (so_ok _ _)) rfl (ma_goodc kc_Model_shippedOp) (B.2.2.2.1 _ k_2357) (B.2.2.2.1 _ k_2358) (B.2.2.2.1 _ k_12) ⟨by decide +kernel, by decide +kernel, by decide +kernel⟩ rfl d_Model_decode_14 rfl (Nat.le_of_ble_eq_true rfl) ⟨by decide, by decide⟩ ⟨by decide, by decide⟩ ⟨by decide, by decide⟩ (mv_noH hno _) (fun v14 σ14 h14 => ?_)
    obtain ⟨z14, e14, -⟩ := h14
    subst e14
    subst z14
    exact mv_iret (pc := 17) B hr rfl d_Model_decode_17 (Nat.le_refl _) (Nat.le_refl _) ⟨_, rfl, hF, Or.inr ⟨fun z => h9 (e11.trans z), rfl⟩⟩
set_option maxHeartbeats 4000000 in
set_option maxRecDepth 100000 in
theorem c_kd_Model_decode_y (l : Launch) {dA : FieldType → ClassId} {D : va_G} {al : Nat → Nat} {ext : mv_Sh} {sk sv : Nat → Nat} (hi : mv_inj (mg dA D al ext)) (σ : mv_H) (hM : MI 108 74 σ) (w0 : Int64) : mv_C l y_Model_decode (Cond.code y_Model_decode b_Model_decode 4 (Option.some Jvm.ClassFile.FieldType.int) :: ma) ({ frames := 2, cells := 0, slots := 0, locals := 49 }) (mg dA D al ext) (mK sk sv) [.ref (al 70), .long w0] σ (mv_Ri (fun v σ1 => QF 108 σ σ1 ∧ ((mv_i σ 70 11 = 0 ∧ DRq 108 σ w0 v) ∨ (¬ mv_i σ 70 11 = 0 ∧ v = sOv w0.toInt32)))) := by
  refine mv_C.ofV (cc := b_Model_decode) (nL := 4) (ret := (Option.some Jvm.ClassFile.FieldType.int)) (by decide +kernel) rfl hi (Nat.le_of_ble_eq_true rfl) ?_
  intro p e s m below meth c B hNs hr hnm hno
  have hN : 108 = 74 ∨ 108 = 108 := by decide
  refine mv_aload_n (pc := 0) B d_Model_decode_0 rfl 0 rfl ?_
  refine mv_iconst (pc := 1) (v := 0) B d_Model_decode_1 (by decide) ?_
  refine mv_putI (pc := 2) (ci := 11) (C := R_Model) (T := F_Model) (N := 16) B 2 rfl rfl (by decide) i_Model t_Model_ok n_Model (B.2.2.2.1 _ k_2047) rfl rfl rfl rfl d_Model_decode_2 ?_
  refine mv_gen (fun S5 eS5 => ?_)
  have hF : QF 108 σ S5 := by rw [eS5]; exact QF.si Fx.rf (by decide)
  have hM := hM.qf hF hN
  have e11 : mv_i S5 70 11 = mv_i σ 70 11 := hF.sh hN
  have i29 : mv_i S5 108 29 = mv_i σ 108 29 := hF.1 108 29 (by omega)
  have eS : ∀ a, FTo 108 S5 w0 a = FTo 108 σ w0 a := fun a => by unfold FTo; rw [hF.1 108 20 (by omega), show mv_a S5 = mv_a σ by rw [eS5] <;> rfl]
  clear eS5
  refine mv_aload_n (pc := 5) B d_Model_decode_5 rfl 0 rfl ?_
  refine mv_getI (pc := 6) (ci := 11) (C := R_Model) (T := F_Model) (N := 16) B 11 rfl rfl (by decide) i_Model (B.2.2.2.1 _ k_2056) rfl d_Model_decode_6 ?_
  refine mv_if_eq (pc := 9) (tgt := 18) B d_Model_decode_9 rfl (fun h9 => ?_) (fun h9 => ?_)
  · skip
    have hM0 := hM
    obtain ⟨-, -, -, th, n, k, g1, g2, g3, g4, g5, g6, g7, g8⟩ := hM0
    clear g6 g7 g8
    refine mv_aload_n (pc := 18) B d_Model_decode_18 rfl 0 rfl ?_
    refine mv_getR (pc := 19) (ci := 11) (C := R_Model) (T := F_Model) (N := 16) B 9 rfl rfl (by decide) i_Model (B.2.2.2.1 _ k_2054) rfl hM.2.1 d_Model_decode_19 ?_
    refine mv_lload_n (pc := 22) B d_Model_decode_22 rfl 1 rfl ?_
    refine mv_callVi (pc := 23) (n := 1) (ci := 12) (C := R_Book) B (mK_ok sk sv) hNs rfl rfl (c_kd_Book_decode_y l hi _ _ k hM.1 g5) rfl (ma_goodc kc_Book_decode) (B.2.2.2.1 _ k_2370) (B.2.2.2.1 _ k_2371) (B.2.2.2.1 _ k_2372) (B.2.2.2.1 _ k_13) ⟨by decide +kernel, by decide +kernel, by decide +kernel⟩ rfl d_Model_decode_23 rfl (Nat.le_of_ble_eq_true rfl) ⟨by decide, by decide⟩ ⟨by decide, by decide⟩ ⟨by decide, by decide⟩ (mv_noH hno _) (fun v23 σ23 h23 => ?_)
    obtain ⟨f23, u23⟩ := h23
    have hF := hF.tr f23.qf
    have hM := hM.qf f23.qf hN
    have hD : DRq 108 σ w0 (mv_i σ23 108 63) := by
      unfold DRq
      rw [← i29, g5.1]
      simp only [eS] at u23
      exact u23
    refine mv_istore_n (pc := 26) B d_Model_decode_26 rfl (by decide) rfl ?_
    refine mv_iload_n (pc := 27) B d_Model_decode_27 rfl 0 rfl ?_
    refine mv_iconst (pc := 28) (v := 1) B d_Model_decode_28 (by decide) ?_
    refine mv_icmp_le (pc := 29) (tgt := 44) B d_Model_decode_29 rfl (fun h29 => ?_) (fun h29 => ?_)
    · skip
      refine mv_aload_n (pc := 44) B d_Model_decode_44 rfl 1 rfl ?_
      refine mv_getR (pc := 45) (ci := 11) (C := R_Model) (T := F_Model) (N := 16) B 9 rfl rfl (by decide) i_Model (B.2.2.2.1 _ k_2054) rfl hM.2.1 d_Model_decode_45 ?_
      refine mv_callVi (pc := 48) (n := 0) (ci := 12) (C := R_Book) B (mK_ok sk sv) hNs rfl rfl (c_kd_Book_op_y l hi _) rfl (ma_goodc kc_Book_op) (B.2.2.2.1 _ k_2378) (B.2.2.2.1 _ k_2379) (B.2.2.2.1 _ k_2380) (B.2.2.2.1 _ k_13) ⟨by decide +kernel, by decide +kernel, by decide +kernel⟩ rfl d_Model_decode_48 rfl (Nat.le_of_ble_eq_true rfl) ⟨by decide, by decide⟩ ⟨by decide, by decide⟩ ⟨by decide, by decide⟩ (mv_noH hno _) (fun v48 σ48 h48 => ?_)
      obtain ⟨e48, z48⟩ := h48
      have e48 := e48.symm
      subst e48
      exact mv_iret (pc := 51) B hr rfl d_Model_decode_51 (Nat.le_refl _) (Nat.le_refl _) ⟨_, rfl, by first | exact ⟨hF, Or.inl ⟨e11.symm.trans h9, by rw [z48]; exact hD⟩⟩ | exact ⟨hF.si (by decide), Or.inl ⟨e11.symm.trans h9, by rw [z48, mv_si_o _ _ (by omega)]; exact hD⟩⟩⟩
    · skip
      refine mv_aload_n (pc := 32) B d_Model_decode_32 rfl 1 rfl ?_
      refine mv_dup (pc := 33) B d_Model_decode_33 rfl ?_
      refine mv_getI (pc := 34) (ci := 11) (C := R_Model) (T := F_Model) (N := 16) B 15 rfl rfl (by decide) i_Model (B.2.2.2.1 _ k_2060) rfl d_Model_decode_34 ?_
      refine mv_iload_n (pc := 37) B d_Model_decode_37 rfl 0 rfl ?_
      refine mv_iconst (pc := 38) (v := 1) B d_Model_decode_38 (by decide) ?_
      refine mv_isub (pc := 39) B d_Model_decode_39 ?_
      refine mv_iadd (pc := 40) B d_Model_decode_40 ?_
      refine mv_putI (pc := 41) (ci := 11) (C := R_Model) (T := F_Model) (N := 16) B 15 rfl rfl (by decide) i_Model t_Model_ok n_Model (B.2.2.2.1 _ k_2060) rfl rfl rfl rfl d_Model_decode_41 ?_
      refine mv_aload_n (pc := 44) B d_Model_decode_44 rfl 1 rfl ?_
      refine mv_getR (pc := 45) (ci := 11) (C := R_Model) (T := F_Model) (N := 16) B 9 rfl rfl (by decide) i_Model (B.2.2.2.1 _ k_2054) rfl hM.2.1 d_Model_decode_45 ?_
      refine mv_callVi (pc := 48) (n := 0) (ci := 12) (C := R_Book) B (mK_ok sk sv) hNs rfl rfl (c_kd_Book_op_y l hi _) rfl (ma_goodc kc_Book_op) (B.2.2.2.1 _ k_2378) (B.2.2.2.1 _ k_2379) (B.2.2.2.1 _ k_2380) (B.2.2.2.1 _ k_13) ⟨by decide +kernel, by decide +kernel, by decide +kernel⟩ rfl d_Model_decode_48 rfl (Nat.le_of_ble_eq_true rfl) ⟨by decide, by decide⟩ ⟨by decide, by decide⟩ ⟨by decide, by decide⟩ (mv_noH hno _) (fun v48 σ48 h48 => ?_)
      obtain ⟨e48, z48⟩ := h48
      have e48 := e48.symm
      subst e48
      exact mv_iret (pc := 51) B hr rfl d_Model_decode_51 (Nat.le_refl _) (Nat.le_refl _) ⟨_, rfl, by first | exact ⟨hF, Or.inl ⟨e11.symm.trans h9, by rw [z48]; exact hD⟩⟩ | exact ⟨hF.si (by decide), Or.inl ⟨e11.symm.trans h9, by rw [z48, mv_si_o _ _ (by omega)]; exact hD⟩⟩⟩
  · skip
    refine mv_lload_n (pc := 12) B d_Model_decode_12 rfl 1 rfl ?_
    refine mv_l2i (pc := 13) B d_Model_decode_13 ?_
    refine mv_callSi (pc := 14) (n := 1) B (mK_ok sk sv) hNs (ch_Model_shippedOp l hi _ _ (so_ok _ _)) rfl (ma_goodc kc_Model_shippedOp) (B.2.2.2.1 _ k_2357) (B.2.2.2.1 _ k_2358) (B.2.2.2.1 _ k_12) ⟨by decide +kernel, by decide +kernel, by decide +kernel⟩ rfl d_Model_decode_14 rfl (Nat.le_of_ble_eq_true rfl) ⟨by decide, by decide⟩ ⟨by decide, by decide⟩ ⟨by decide, by decide⟩ (mv_noH hno _) (fun v14 σ14 h14 => ?_)
    obtain ⟨z14, e14, -⟩ := h14
    subst e14
    subst z14
    exact mv_iret (pc := 17) B hr rfl d_Model_decode_17 (Nat.le_refl _) (Nat.le_refl _) ⟨_, rfl, hF, Or.inr ⟨fun z => h9 (e11.trans z), rfl⟩⟩
