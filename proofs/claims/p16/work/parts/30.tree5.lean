/-! Tree: grow, leafOf -/
theorem SmT.step {P : Nat} {τ υ : mv_H} {ops k n b : Nat} {la ha dq : Nat → Nat} {ub : Nat → List Nat} (hs : ∃ S, SmT (mv_b τ (P + 5)) (mv_b τ (P + 6)) (mv_a τ (P + 12)) (mv_a τ (P + 13)) (mv_a τ (P + 14)) (mv_a τ (P + 15)) ops n S) (h : Gr (mv_b τ (P + 6)) (mv_a τ (P + 12)) (mv_a τ (P + 13)) (mv_a τ (P + 14)) (mv_a τ (P + 15)) ops k n la ha dq ub) (hk : k < n) (hb : b < 64) (hn : (mv_i τ (P + 11) 4).toInt = n) (hn2 : n < 100000) (hK : ∀ i, la k ≤ i → i < ha k → (mv_b τ (P + 5) (mv_a τ (P + 12) i).toNatClampNeg).toBitVec.getLsbD b = true) (hp : tr_part P τ υ k n (la k) (ha k) b) : ∃ S, SmT (mv_b υ (P + 5)) (mv_b υ (P + 6)) (mv_a υ (P + 12)) (mv_a υ (P + 13)) (mv_a υ (P + 14)) (mv_a υ (P + 15)) ops (n + 2) S := by
  obtain ⟨S, hs⟩ := hs
  obtain ⟨mm, u, hm, p1, p2, p3, p4, p5, p6⟩ := hp
  have hu := h.2.1 k (Nat.le_refl _) hk
  have e1 : (mv_i τ (P + 11) 4 + 1).toInt = n + 1 := by rw [i32_inc (by omega)]; omega
  have hV : mv_b υ (P + 6) = mv_b τ (P + 6) := p2.2.2.1 _ (fun q => q)
  have hK2 : mv_b υ (P + 5) = mv_b τ (P + 5) := p2.2.2.1 _ (fun q => q)
  rw [hV, hK2]
  exact hs.part (f' := mv_a υ (P + 12)) (bt' := mv_a υ (P + 13)) (lw' := mv_a υ (P + 14)) (hg' := mv_a υ (P + 15)) hk hb hu.1 hu.2.1 hu.2.2.1 hK p1 p4 (fun j q1 q2 q3 => ⟨by rw [p5, if_neg q1, if_neg q2, if_neg q3], by rw [p6, if_neg q1, if_neg q2, if_neg q3]⟩)
    ⟨by rw [p5, if_neg (by omega), if_pos rfl]; exact hu.2.1, by rw [p6, if_neg (by omega), if_pos rfl]; exact hm⟩ ⟨by rw [p5, if_pos rfl]; exact hm, by rw [p6, if_pos rfl]; exact hu.2.2.1⟩ ⟨by rw [p5, if_neg (by omega), if_neg (by omega), if_pos rfl]; exact hn, by rw [p6, if_neg (by omega), if_neg (by omega), if_pos rfl]; exact e1⟩
abbrev GrS (P : Nat) (σ : mv_H) (ops k n : Nat) (la ha dq : Nat → Nat) (ub : Nat → List Nat) : Prop := Gr (mv_b σ (P + 6)) (mv_a σ (P + 12)) (mv_a σ (P + 13)) (mv_a σ (P + 14)) (mv_a σ (P + 15)) ops k n la ha dq ub
theorem Gr.step {P : Nat} {τ υ : mv_H} {ops k n b : Nat} {la ha dq : Nat → Nat} {ub : Nat → List Nat} (h : GrS P τ ops k n la ha dq ub) (hk : k < n) (hb : b < 64) (hn : (mv_i τ (P + 11) 4).toInt = n) (hn2 : n < 100000) (x0 x1 : Nat) (hx0 : la k ≤ x0 ∧ x0 < ha k ∧ tB P τ b x0 = false) (hx1 : la k ≤ x1 ∧ x1 < ha k ∧ tB P τ b x1 = true) (hp : tr_part P τ υ k n (la k) (ha k) b) :
    ∃ la' ha' dq' ub', GrS P υ ops (k + 1) (n + 2) la' ha' dq' ub' := by
  obtain ⟨mm, u, hm, p1, p2, p3, p4, p5, p6⟩ := hp
  have hu := h.2.1 k (Nat.le_refl _) hk
  have e1 : (mv_i τ (P + 11) 4 + 1).toInt = n + 1 := by rw [i32_inc (by omega)]; omega
  have hV : mv_b υ (P + 6) = mv_b τ (P + 6) := p2.2.2.1 _ (fun q => q)
  have key := h.part (f' := mv_a υ (P + 12)) (bt' := mv_a υ (P + 13)) (lw' := mv_a υ (P + 14)) (hg' := mv_a υ (P + 15)) hk hb x0 x1 hx0 hx1 p1 p4 (fun j q1 q2 q3 => ⟨by rw [p5, if_neg q1, if_neg q2, if_neg q3], by rw [p6, if_neg q1, if_neg q2, if_neg q3]⟩)
    ⟨by rw [p5, if_neg (by omega), if_pos rfl]; exact hu.2.1, by rw [p6, if_neg (by omega), if_pos rfl]; exact hm⟩ ⟨by rw [p5, if_pos rfl]; exact hm, by rw [p6, if_pos rfl]; exact hu.2.2.1⟩ ⟨by rw [p5, if_neg (by omega), if_neg (by omega), if_pos rfl]; exact hn, by rw [p6, if_neg (by omega), if_neg (by omega), if_pos rfl]; exact e1⟩
  rw [← hV] at key
  exact ⟨_, _, _, _, key⟩
def y_Tree_grow : MethodName := ⟨"MachineLoom$Tree", "grow", "(LMachineLoom$Program;)V"⟩
abbrev b_Tree_grow : ByteArray := prog_11_method_2_code
theorem kc_Tree_grow : Cond.code y_Tree_grow b_Tree_grow 4 (Option.none : Option Jvm.ClassFile.FieldType) ∈ ma := ma_of (tb_2 _ (List.mem_of_getElem? (i := 173) rfl)) rfl
theorem k_418 : (Jvm.Cond.methodLink "MachineLoom$Tree" (37 : Nat) ({ cls := "MachineLoom$Tree", name := "partingBit", desc := "(LMachineLoom$Program;II)I" } : Jvm.MethodName)) ∈ ma := ma_of (tb_2 _ (List.mem_of_getElem? (i := 178) rfl)) rfl
theorem k_420 : (Jvm.Cond.instanceMethod ({ cls := "MachineLoom$Tree", name := "partingBit", desc := "(LMachineLoom$Program;II)I" } : Jvm.MethodName)) ∈ ma := ma_of (tb_2 _ (List.mem_of_getElem? (i := 180) rfl)) rfl
theorem ks_1 : Cond.selects "MachineLoom$Tree" ⟨"MachineLoom$Tree", "partingBit", "(LMachineLoom$Program;II)I"⟩ ⟨"MachineLoom$Tree", "partingBit", "(LMachineLoom$Program;II)I"⟩ ∈ ma := ma_sel 1 rfl rfl
theorem k_429 : (Jvm.Cond.methodLink "MachineLoom$Tree" (41 : Nat) ({ cls := "MachineLoom$Tree", name := "part", desc := "(LMachineLoom$Program;II)V" } : Jvm.MethodName)) ∈ ma := ma_of (tb_2 _ (List.mem_of_getElem? (i := 189) rfl)) rfl
theorem k_431 : (Jvm.Cond.instanceMethod ({ cls := "MachineLoom$Tree", name := "part", desc := "(LMachineLoom$Program;II)V" } : Jvm.MethodName)) ∈ ma := ma_of (tb_2 _ (List.mem_of_getElem? (i := 191) rfl)) rfl
theorem ks_2 : Cond.selects "MachineLoom$Tree" ⟨"MachineLoom$Tree", "part", "(LMachineLoom$Program;II)V"⟩ ⟨"MachineLoom$Tree", "part", "(LMachineLoom$Program;II)V"⟩ ∈ ma := ma_sel 2 rfl rfl
theorem k_344 : (Jvm.Cond.fieldLink "MachineLoom$Tree" (24 : Nat) "MachineLoom$Program" "ops" "I") ∈ ma := ma_of (tb_2 _ (List.mem_of_getElem? (i := 104) rfl)) rfl
theorem d_Tree_grow_0 : decode b_Tree_grow 0 = .ok (.iconst 0, 1) := by decide +kernel
theorem d_Tree_grow_1 : decode b_Tree_grow 1 = .ok (.istore_n 2, 1) := by decide +kernel
theorem d_Tree_grow_2 : decode b_Tree_grow 2 = .ok (.iload_n 2, 1) := by decide +kernel
theorem d_Tree_grow_3 : decode b_Tree_grow 3 = .ok (.aload_n 1, 1) := by decide +kernel
theorem d_Tree_grow_4 : decode b_Tree_grow 4 = .ok (.getfield 24, 3) := by decide +kernel
theorem d_Tree_grow_7 : decode b_Tree_grow 7 = .ok (.if_icmp .ge (16), 3) := by decide +kernel
theorem d_Tree_grow_10 : decode b_Tree_grow 10 = .ok (.aload_n 0, 1) := by decide +kernel
theorem d_Tree_grow_11 : decode b_Tree_grow 11 = .ok (.getfield 9, 3) := by decide +kernel
theorem d_Tree_grow_14 : decode b_Tree_grow 14 = .ok (.iload_n 2, 1) := by decide +kernel
theorem d_Tree_grow_15 : decode b_Tree_grow 15 = .ok (.iload_n 2, 1) := by decide +kernel
theorem d_Tree_grow_16 : decode b_Tree_grow 16 = .ok (.iastore, 1) := by decide +kernel
theorem d_Tree_grow_17 : decode b_Tree_grow 17 = .ok (.iinc 2 (1), 3) := by decide +kernel
theorem d_Tree_grow_20 : decode b_Tree_grow 20 = .ok (.goto (-18), 3) := by decide +kernel
theorem d_Tree_grow_23 : decode b_Tree_grow 23 = .ok (.aload_n 0, 1) := by decide +kernel
theorem d_Tree_grow_24 : decode b_Tree_grow 24 = .ok (.iconst 0, 1) := by decide +kernel
theorem d_Tree_grow_25 : decode b_Tree_grow 25 = .ok (.putfield 30, 3) := by decide +kernel
theorem d_Tree_grow_28 : decode b_Tree_grow 28 = .ok (.aload_n 0, 1) := by decide +kernel
theorem d_Tree_grow_29 : decode b_Tree_grow 29 = .ok (.iconst 0, 1) := by decide +kernel
theorem d_Tree_grow_30 : decode b_Tree_grow 30 = .ok (.aload_n 1, 1) := by decide +kernel
theorem d_Tree_grow_31 : decode b_Tree_grow 31 = .ok (.getfield 24, 3) := by decide +kernel
theorem d_Tree_grow_34 : decode b_Tree_grow 34 = .ok (.invokevirtual 33, 3) := by decide +kernel
theorem d_Tree_grow_37 : decode b_Tree_grow 37 = .ok (.iconst 0, 1) := by decide +kernel
theorem d_Tree_grow_38 : decode b_Tree_grow 38 = .ok (.istore_n 2, 1) := by decide +kernel
theorem d_Tree_grow_39 : decode b_Tree_grow 39 = .ok (.iload_n 2, 1) := by decide +kernel
theorem d_Tree_grow_40 : decode b_Tree_grow 40 = .ok (.aload_n 0, 1) := by decide +kernel
theorem d_Tree_grow_41 : decode b_Tree_grow 41 = .ok (.getfield 30, 3) := by decide +kernel
theorem d_Tree_grow_44 : decode b_Tree_grow 44 = .ok (.if_icmp .ge (47), 3) := by decide +kernel
theorem d_Tree_grow_47 : decode b_Tree_grow 47 = .ok (.iload_n 2, 1) := by decide +kernel
theorem d_Tree_grow_48 : decode b_Tree_grow 48 = .ok (.aload_n 0, 1) := by decide +kernel
theorem d_Tree_grow_49 : decode b_Tree_grow 49 = .ok (.getfield 15, 3) := by decide +kernel
theorem d_Tree_grow_52 : decode b_Tree_grow 52 = .ok (.arraylength, 1) := by decide +kernel
theorem d_Tree_grow_53 : decode b_Tree_grow 53 = .ok (.if_icmp .ge (38), 3) := by decide +kernel
theorem d_Tree_grow_56 : decode b_Tree_grow 56 = .ok (.aload_n 0, 1) := by decide +kernel
theorem d_Tree_grow_57 : decode b_Tree_grow 57 = .ok (.aload_n 1, 1) := by decide +kernel
theorem d_Tree_grow_58 : decode b_Tree_grow 58 = .ok (.aload_n 0, 1) := by decide +kernel
theorem d_Tree_grow_59 : decode b_Tree_grow 59 = .ok (.getfield 18, 3) := by decide +kernel
theorem d_Tree_grow_62 : decode b_Tree_grow 62 = .ok (.iload_n 2, 1) := by decide +kernel
theorem d_Tree_grow_63 : decode b_Tree_grow 63 = .ok (.iaload, 1) := by decide +kernel
theorem d_Tree_grow_64 : decode b_Tree_grow 64 = .ok (.aload_n 0, 1) := by decide +kernel
theorem d_Tree_grow_65 : decode b_Tree_grow 65 = .ok (.getfield 21, 3) := by decide +kernel
theorem d_Tree_grow_68 : decode b_Tree_grow 68 = .ok (.iload_n 2, 1) := by decide +kernel
theorem d_Tree_grow_69 : decode b_Tree_grow 69 = .ok (.iaload, 1) := by decide +kernel
theorem d_Tree_grow_70 : decode b_Tree_grow 70 = .ok (.invokevirtual 37, 3) := by decide +kernel
theorem d_Tree_grow_73 : decode b_Tree_grow 73 = .ok (.istore_n 3, 1) := by decide +kernel
theorem d_Tree_grow_74 : decode b_Tree_grow 74 = .ok (.iload_n 3, 1) := by decide +kernel
theorem d_Tree_grow_75 : decode b_Tree_grow 75 = .ok (.ifCond .lt (10), 3) := by decide +kernel
theorem d_Tree_grow_78 : decode b_Tree_grow 78 = .ok (.aload_n 0, 1) := by decide +kernel
theorem d_Tree_grow_79 : decode b_Tree_grow 79 = .ok (.aload_n 1, 1) := by decide +kernel
theorem d_Tree_grow_80 : decode b_Tree_grow 80 = .ok (.iload_n 2, 1) := by decide +kernel
theorem d_Tree_grow_81 : decode b_Tree_grow 81 = .ok (.iload_n 3, 1) := by decide +kernel
theorem d_Tree_grow_82 : decode b_Tree_grow 82 = .ok (.invokevirtual 41, 3) := by decide +kernel
theorem d_Tree_grow_85 : decode b_Tree_grow 85 = .ok (.iinc 2 (1), 3) := by decide +kernel
theorem d_Tree_grow_88 : decode b_Tree_grow 88 = .ok (.goto (-49), 3) := by decide +kernel
theorem d_Tree_grow_91 : decode b_Tree_grow 91 = .ok (.return_, 1) := by decide +kernel
set_option maxHeartbeats 4000000 in
set_option maxRecDepth 100000 in
theorem c_Tree_grow_a (l : Launch) {dA : FieldType → ClassId} {D : va_G} {al : Nat → Nat} {ext : mv_Sh} {sk sv : Nat → Nat} (hi : mv_inj (mg dA D al ext)) (σ : mv_H) (ops : Nat) (hq : Ph 32 (mv_r σ)) (ho : (mv_i σ 32 10).toInt = ops) (hM : ops ≤ 512) : mv_C l y_Tree_grow (Cond.code y_Tree_grow b_Tree_grow 4 (Option.none : Option Jvm.ClassFile.FieldType) :: ma) ({ frames := 2, cells := 0, slots := 0, locals := 52 }) (mg dA D al ext) (mK sk sv) [.ref (al 43), .ref (al 32)] σ (mv_Rv (fun σ1 => TrF 32 σ σ1 ∧ TreeOK 32 512 σ1)) := by
  refine mv_C.ofV (cc := b_Tree_grow) (nL := 4) (ret := (Option.none : Option Jvm.ClassFile.FieldType)) (by decide +kernel) rfl hi (Nat.le_of_ble_eq_true rfl) ?_
  intro p e s m below meth c B hNs hr hnm hno
  have lp : ∀ (nn : Nat) (τ : mv_H) (jj : Int32) (j : Nat) (n : Nat) (la : Nat → Nat) (ha : Nat → Nat) (dq : Nat → Nat) (ub : Nat → List Nat) (qj : jj.toInt = j) (qg : GrS 32 τ ops j n la ha dq ub) (qn : (mv_i τ 43 4).toInt = n) (qo : (mv_i τ 32 10).toInt = ops) (qq : Ph 32 (mv_r τ)) (qf : TrF 32 σ τ) (qs : ∃ S, SmT (mv_b τ 37) (mv_b τ 38) (mv_a τ 44) (mv_a τ 45) (mv_a τ 46) (mv_a τ 47) ops n S), 1025 - j < nn → mv_V p l e ({ frames := 2, cells := 0, slots := 0, locals := 52 }) s m ([.ref (al 43), .ref (al 32)] : List Value).toArray below meth c (mg dA D al ext) 4 0 0 (mv_Q (mg dA D al ext) below s 0 0 (mv_Rv (fun σ1 => TrF 32 σ σ1 ∧ TreeOK 32 512 σ1))) τ 39 [(2, .int jj), (0, .ref (al 43)), (1, .ref (al 32))] [] := by
    intro nn
    induction nn with
    | zero => intro τ jj j n la ha dq ub qj qg qn qo qq qf qs hm; exact absurd hm (Nat.not_lt_zero _)
    | succ nn ih =>
      intro τ jj j n la ha dq ub qj qg qn qo qq qf qs hm
      refine mv_iload_n (pc := 39) B d_Tree_grow_39 rfl 0 rfl ?_
      refine mv_aload_n (pc := 40) B d_Tree_grow_40 rfl 1 rfl ?_
      refine mv_getI (pc := 41) (ci := 8) (C := R_Tree) (T := F_Tree) (N := 5) B 4 rfl rfl (by decide) i_Tree (B.2.2.2.1 _ k_298) rfl d_Tree_grow_41 ?_
      refine mv_icmp_ge (pc := 44) (tgt := 91) B d_Tree_grow_44 rfl (fun h44 => ?_) (fun h44 => ?_)
      · skip
        rw [Int32.le_iff_toInt_le] at h44
        exact mv_vret (pc := 91) B hr d_Tree_grow_91 (Nat.le_refl _) (Nat.le_refl _) ⟨rfl, qf, qg.done (P := 32) (by omega) qo hM qs⟩
      · skip
        rw [Int32.le_iff_toInt_le] at h44
        refine mv_iload_n (pc := 47) B d_Tree_grow_47 rfl 0 rfl ?_
        refine mv_aload_n (pc := 48) B d_Tree_grow_48 rfl 1 rfl ?_
        refine mv_getR (pc := 49) (ci := 8) (C := R_Tree) (T := F_Tree) (N := 5) B 1 rfl rfl (by decide) i_Tree (B.2.2.2.1 _ k_293) rfl (qq _ 1 45 rfl) d_Tree_grow_49 ?_
        refine mv_alenI (pc := 52) B rfl rfl d_Tree_grow_52 ?_
        refine mv_icmp_ge (pc := 53) (tgt := 91) B d_Tree_grow_53 rfl (fun h53 => ?_) (fun h53 => ?_)
        · skip
          rw [Int32.le_iff_toInt_le] at h53
          have h53 : (1025 : Int) ≤ jj.toInt := h53
          have hr9 := qg.room.1
          exact mv_vret (pc := 91) B hr d_Tree_grow_91 (Nat.le_refl _) (Nat.le_refl _) ⟨rfl, qf, qg.done (P := 32) (by omega) qo hM qs⟩
        · skip
          rw [Int32.le_iff_toInt_le] at h53
          have h53 : ¬ (1025 : Int) ≤ jj.toInt := h53
          have ejj := i32_cl (x := jj) (by omega)
          have zj : jj.toNatClampNeg = j := by omega
          have hu := qg.2.1 j (Nat.le_refl _) (by omega)
          have hu4 := hu.2.2.2.1
          have hu5 := hu.2.2.2.2.1
          have w14 : (mv_a τ 46 jj.toNatClampNeg).toInt = la j := by rw [zj]; exact hu.2.1
          have w15 : (mv_a τ 47 jj.toNatClampNeg).toInt = ha j := by rw [zj]; exact hu.2.2.1
          have w2 : (jj + 1).toInt = ((j + 1 : Nat) : Int) := by rw [i32_inc (by omega)]; omega
          refine mv_aload_n (pc := 56) B d_Tree_grow_56 rfl 1 rfl ?_
          refine mv_aload_n (pc := 57) B d_Tree_grow_57 rfl 2 rfl ?_
          refine mv_aload_n (pc := 58) B d_Tree_grow_58 rfl 1 rfl ?_
          refine mv_getR (pc := 59) (ci := 8) (C := R_Tree) (T := F_Tree) (N := 5) B 2 rfl rfl (by decide) i_Tree (B.2.2.2.1 _ k_294) rfl (qq _ 2 46 rfl) d_Tree_grow_59 ?_
          refine mv_iload_n (pc := 62) B d_Tree_grow_62 rfl 0 rfl ?_
          refine mv_iald (pc := 63) B rfl (i32_in (by omega) (by omega)) d_Tree_grow_63 ?_
          refine mv_aload_n (pc := 64) B d_Tree_grow_64 rfl 1 rfl ?_
          refine mv_getR (pc := 65) (ci := 8) (C := R_Tree) (T := F_Tree) (N := 5) B 3 rfl rfl (by decide) i_Tree (B.2.2.2.1 _ k_296) rfl (qq _ 3 47 rfl) d_Tree_grow_65 ?_
          refine mv_iload_n (pc := 68) B d_Tree_grow_68 rfl 0 rfl ?_
          refine mv_iald (pc := 69) B rfl (i32_in (by omega) (by omega)) d_Tree_grow_69 ?_
          refine mv_callVi (pc := 70) (n := 3) (ci := 8) (C := R_Tree) B (mK_ok sk sv) hNs rfl rfl (c_Tree_partingBit_a l hi _ _ _ qq (by omega) (by omega) (by omega) (fun i q1 q2 => ⟨(qg.1 i (by omega)).1, Int.lt_of_lt_of_le (qg.1 i (by omega)).2 (by omega)⟩)) rfl (ma_goodc kc_Tree_partingBit) (B.2.2.2.1 _ k_418) (B.2.2.2.1 _ k_420) (B.2.2.2.1 _ ks_1) (B.2.2.2.1 _ k_9) ⟨by decide +kernel, by decide +kernel, by decide +kernel⟩ rfl d_Tree_grow_70 rfl (Nat.le_of_ble_eq_true rfl) ⟨by decide, by decide⟩ ⟨by decide, by decide⟩ ⟨by decide, by decide⟩ (mv_noH hno _) (fun v70 σ70 h70 => ?_)
          obtain ⟨e70, d70⟩ := h70
          have e70 := e70.symm
          subst e70
          refine mv_istore_n (pc := 73) B d_Tree_grow_73 rfl (by decide) rfl ?_
          refine mv_iload_n (pc := 74) B d_Tree_grow_74 rfl 0 rfl ?_
          refine mv_if_lt (pc := 75) (tgt := 85) B d_Tree_grow_75 rfl (fun h75 => ?_) (fun h75 => ?_)
          · skip
            have go := ih τ (jj + 1) (j + 1) n la ha dq ub w2 (qg.leaf (by omega)) qn qo qq qf qs (by omega)
            refine mv_iinc (pc := 85) (j := 1) (v := 1) B d_Tree_grow_85 rfl (by decide) (by decide) rfl ?_
            refine mv_goto (pc := 88) (tgt := 39) B d_Tree_grow_88 rfl ?_
            refine mv_lpick [0, 2, 3] rfl ?_
            exact go
          · skip
            obtain ⟨b, hb, eb, ⟨x1, x2, x3, x4⟩, ⟨y1, y2, y3, y4⟩, hK9⟩ := d70.resolve_left (fun q => h75 (by rw [q]; decide))
            subst eb
            have hne : x1 ≠ y1 := fun q => by rw [q, y4] at x4; cases x4
            have hr9 := qg.room2 (by omega) (by omega)
            refine mv_aload_n (pc := 78) B d_Tree_grow_78 rfl 2 rfl ?_
            refine mv_aload_n (pc := 79) B d_Tree_grow_79 rfl 3 rfl ?_
            refine mv_iload_n (pc := 80) B d_Tree_grow_80 rfl 1 rfl ?_
            refine mv_iload_n (pc := 81) B d_Tree_grow_81 rfl 0 rfl ?_
            refine mv_callVv (pc := 82) (n := 3) (ci := 8) (C := R_Tree) B (mK_ok sk sv) hNs rfl rfl (c_Tree_part_a l hi _ _ j n (la j) (ha j) b qq (by omega) (by omega) (by omega) qn (by omega) w14 w15 hu4 (by omega) hb (fun i q1 q2 => ⟨(qg.1 i (by omega)).1, Int.lt_of_lt_of_le (qg.1 i (by omega)).2 (by omega)⟩)) rfl (ma_goodc kc_Tree_part) (B.2.2.2.1 _ k_429) (B.2.2.2.1 _ k_431) (B.2.2.2.1 _ ks_2) (B.2.2.2.1 _ k_9) ⟨by decide +kernel, by decide +kernel, by decide +kernel⟩ rfl d_Tree_grow_82 rfl (Nat.le_of_ble_eq_true rfl) ⟨by decide, by decide⟩ ⟨by decide, by decide⟩ ⟨by decide, by decide⟩ (mv_noH hno _) (fun σ82 h82 => ?_)
            obtain ⟨la2, ha2, dq2, ub2, g82⟩ := Gr.step qg (by omega) hb qn (by omega) y1 x1 ⟨by omega, by omega, y4⟩ ⟨by omega, by omega, x4⟩ h82
            have s82 := SmT.step (P := 32) qs qg (by omega) hb qn (by omega) (fun i a b => hK9 i (by omega) (by omega)) h82
            obtain ⟨-, -, -, -, f82, n82, -⟩ := h82
            have go := ih σ82 (jj + 1) (j + 1) (n + 2) la2 ha2 dq2 ub2 w2 g82 (by rw [n82]; rfl) (by rw [f82.1 32 10 (by decide)]; exact qo) (by rw [f82.2.2.2.2]; exact qq) (qf.tr f82) s82 (by omega)
            refine mv_iinc (pc := 85) (j := 1) (v := 1) B d_Tree_grow_85 rfl (by decide) (by decide) rfl ?_
            refine mv_goto (pc := 88) (tgt := 39) B d_Tree_grow_88 rfl ?_
            refine mv_lpick [0, 2, 3] rfl ?_
            exact go
  have l0 : ∀ (nn : Nat) (τ : mv_H) (jj : Int32) (j : Nat) (qj : jj.toInt = j) (qle : j ≤ ops) (qi : mv_i τ 32 10 = mv_i σ 32 10) (qd : ∀ i, i < j → (mv_a τ 44 i).toInt = i) (qq : Ph 32 (mv_r τ)) (qf : TrF 32 σ τ), ops - j < nn → mv_V p l e ({ frames := 2, cells := 0, slots := 0, locals := 52 }) s m ([.ref (al 43), .ref (al 32)] : List Value).toArray below meth c (mg dA D al ext) 4 0 0 (mv_Q (mg dA D al ext) below s 0 0 (mv_Rv (fun σ1 => TrF 32 σ σ1 ∧ TreeOK 32 512 σ1))) τ 2 [(2, .int jj), (0, .ref (al 43)), (1, .ref (al 32))] [] := by
    intro nn
    induction nn with
    | zero => intro τ jj j qj qle qi qd qq qf hm; exact absurd hm (Nat.not_lt_zero _)
    | succ nn ih =>
      intro τ jj j qj qle qi qd qq qf hm
      refine mv_iload_n (pc := 2) B d_Tree_grow_2 rfl 0 rfl ?_
      refine mv_aload_n (pc := 3) B d_Tree_grow_3 rfl 2 rfl ?_
      refine mv_getI (pc := 4) (ci := 7) (C := R_Program) (T := F_Program) (N := 19) B 10 rfl rfl (by decide) i_Program (B.2.2.2.1 _ k_344) rfl d_Tree_grow_4 ?_
      refine mv_icmp_ge (pc := 7) (tgt := 23) B d_Tree_grow_7 rfl (fun h7 => ?_) (fun h7 => ?_)
      · skip
        rw [Int32.le_iff_toInt_le, qi] at h7
        refine mv_aload_n (pc := 23) B d_Tree_grow_23 rfl 1 rfl ?_
        refine mv_iconst (pc := 24) (v := 0) B d_Tree_grow_24 (by decide) ?_
        refine mv_putI (pc := 25) (ci := 8) (C := R_Tree) (T := F_Tree) (N := 5) B 4 rfl rfl (by decide) i_Tree t_Tree_ok n_Tree (B.2.2.2.1 _ k_298) rfl rfl rfl rfl d_Tree_grow_25 ?_
        refine mv_aload_n (pc := 28) B d_Tree_grow_28 rfl 1 rfl ?_
        refine mv_iconst (pc := 29) (v := 0) B d_Tree_grow_29 (by decide) ?_
        refine mv_aload_n (pc := 30) B d_Tree_grow_30 rfl 2 rfl ?_
        refine mv_getI (pc := 31) (ci := 7) (C := R_Program) (T := F_Program) (N := 19) B 10 rfl rfl (by decide) i_Program (B.2.2.2.1 _ k_344) rfl d_Tree_grow_31 ?_
        refine mv_callVv (pc := 34) (n := 2) (ci := 8) (C := R_Tree) B (mK_ok sk sv) hNs rfl rfl (c_Tree_addLeaf_a l hi _ _ _ qq (by show (0 : Int) ≤ (0 : Int32).toInt; decide) (by show (0 : Int32).toInt < 1025; decide)) rfl (ma_goodc kc_Tree_addLeaf) (B.2.2.2.1 _ k_414) (B.2.2.2.1 _ k_416) (B.2.2.2.1 _ ks_0) (B.2.2.2.1 _ k_9) ⟨by decide +kernel, by decide +kernel, by decide +kernel⟩ rfl d_Tree_grow_34 rfl (Nat.le_of_ble_eq_true rfl) ⟨by decide, by decide⟩ ⟨by decide, by decide⟩ ⟨by decide, by decide⟩ (mv_noH hno _) (fun σ34 h34 => ?_)
        subst h34
        refine mv_gen (fun S eS => ?_)
        have n34 : (mv_i S 43 4).toInt = ((1 : Nat) : Int) := by rw [eS, tr_leaf_i 32]; rfl
        have o34 : (mv_i S 32 10).toInt = ops := by rw [eS]; exact (congrArg Int32.toInt qi).trans ho
        have q34 : Ph 32 (mv_r S) := by rw [eS]; exact qq
        have f34 : TrF 32 σ S := by rw [eS]; exact (qf.si ⟨rfl, rfl⟩).tr (tr_leaf_F 32 _ _ _)
        have g34 : GrS 32 S ops 0 1 (fun _ => 0) (fun _ => ops) (fun _ => 0) (fun _ => []) := Gr.init (fun i q => by rw [eS, tr_leaf_12 32]; exact qd i (by omega)) (by rw [eS, tr_leaf_13 32]; rfl) (by rw [eS, tr_leaf_14 32]; rfl) (by rw [eS, tr_leaf_15 32]; exact (congrArg Int32.toInt qi).trans ho)
        have s34 : SmT (mv_b S 37) (mv_b S 38) (mv_a S 44) (mv_a S 45) (mv_a S 46) (mv_a S 47) ops 1 (fun _ a => a < ops) := SmT.init (fun i q => by rw [eS, tr_leaf_12 32]; exact qd i (by omega)) (by rw [eS, tr_leaf_13 32]; rfl) (by rw [eS, tr_leaf_14 32]; rfl) (by rw [eS, tr_leaf_15 32]; exact (congrArg Int32.toInt qi).trans ho)
        clear eS
        refine mv_iconst (pc := 37) (v := 0) B d_Tree_grow_37 (by decide) ?_
        refine mv_istore_n (pc := 38) B d_Tree_grow_38 rfl (by decide) rfl ?_
        refine mv_lpick [0, 1, 2] rfl ?_
        exact lp _ _ _ 0 1 _ _ _ _ rfl g34 n34 o34 q34 f34 ⟨_, s34⟩ (Nat.lt_succ_self _)
      · skip
        rw [Int32.le_iff_toInt_le, qi] at h7
        have ejj := i32_cl (x := jj) (by omega)
        have w2 : (jj + 1).toInt = ((j + 1 : Nat) : Int) := by rw [i32_inc (by omega)]; omega
        have go := ih (mv_sa τ 44 jj.toNatClampNeg jj) (jj + 1) (j + 1) w2 (by omega) qi (fun i hi9 => by show (mv_u (mv_a τ) 44 jj.toNatClampNeg jj 44 i).toInt = _; rw [u_row]; exact (Decidable.em (i = jj.toNatClampNeg)).elim (fun e9 => by rw [if_pos e9]; omega) (fun e9 => by rw [if_neg e9]; exact qd i (by omega))) qq (qf.sa (by decide)) (by omega)
        refine mv_aload_n (pc := 10) B d_Tree_grow_10 rfl 1 rfl ?_
        refine mv_getR (pc := 11) (ci := 8) (C := R_Tree) (T := F_Tree) (N := 5) B 0 rfl rfl (by decide) i_Tree (B.2.2.2.1 _ k_291) rfl (qq _ 0 44 rfl) d_Tree_grow_11 ?_
        refine mv_iload_n (pc := 14) B d_Tree_grow_14 rfl 0 rfl ?_
        refine mv_iload_n (pc := 15) B d_Tree_grow_15 rfl 0 rfl ?_
        refine mv_iast (pc := 16) B rfl (i32_in (by omega) (by omega)) d_Tree_grow_16 ?_
        refine mv_iinc (pc := 17) (j := 0) (v := 1) B d_Tree_grow_17 rfl (by decide) (by decide) rfl ?_
        refine mv_goto (pc := 20) (tgt := 2) B d_Tree_grow_20 rfl ?_
        refine mv_lpick [0, 1, 2] rfl ?_
        exact go
  refine mv_iconst (pc := 0) (v := 0) B d_Tree_grow_0 (by decide) ?_
  refine mv_istore_n (pc := 1) B d_Tree_grow_1 rfl (by decide) rfl ?_
  refine mv_lpick [0, 1, 2] rfl ?_
  exact l0 _ _ _ 0 rfl (Nat.zero_le _) rfl (fun i q => by omega) hq Fr.rf (Nat.lt_succ_self _)
set_option maxHeartbeats 4000000 in
set_option maxRecDepth 100000 in
theorem c_Tree_grow_b (l : Launch) {dA : FieldType → ClassId} {D : va_G} {al : Nat → Nat} {ext : mv_Sh} {sk sv : Nat → Nat} (hi : mv_inj (mg dA D al ext)) (σ : mv_H) (ops : Nat) (hq : Ph 48 (mv_r σ)) (ho : (mv_i σ 48 10).toInt = ops) (hM : ops ≤ 512) : mv_C l y_Tree_grow (Cond.code y_Tree_grow b_Tree_grow 4 (Option.none : Option Jvm.ClassFile.FieldType) :: ma) ({ frames := 2, cells := 0, slots := 0, locals := 52 }) (mg dA D al ext) (mK sk sv) [.ref (al 59), .ref (al 48)] σ (mv_Rv (fun σ1 => TrF 48 σ σ1 ∧ TreeOK 48 512 σ1)) := by
  refine mv_C.ofV (cc := b_Tree_grow) (nL := 4) (ret := (Option.none : Option Jvm.ClassFile.FieldType)) (by decide +kernel) rfl hi (Nat.le_of_ble_eq_true rfl) ?_
  intro p e s m below meth c B hNs hr hnm hno
  have lp : ∀ (nn : Nat) (τ : mv_H) (jj : Int32) (j : Nat) (n : Nat) (la : Nat → Nat) (ha : Nat → Nat) (dq : Nat → Nat) (ub : Nat → List Nat) (qj : jj.toInt = j) (qg : GrS 48 τ ops j n la ha dq ub) (qn : (mv_i τ 59 4).toInt = n) (qo : (mv_i τ 48 10).toInt = ops) (qq : Ph 48 (mv_r τ)) (qf : TrF 48 σ τ) (qs : ∃ S, SmT (mv_b τ 53) (mv_b τ 54) (mv_a τ 60) (mv_a τ 61) (mv_a τ 62) (mv_a τ 63) ops n S), 1025 - j < nn → mv_V p l e ({ frames := 2, cells := 0, slots := 0, locals := 52 }) s m ([.ref (al 59), .ref (al 48)] : List Value).toArray below meth c (mg dA D al ext) 4 0 0 (mv_Q (mg dA D al ext) below s 0 0 (mv_Rv (fun σ1 => TrF 48 σ σ1 ∧ TreeOK 48 512 σ1))) τ 39 [(2, .int jj), (0, .ref (al 59)), (1, .ref (al 48))] [] := by
    intro nn
    induction nn with
    | zero => intro τ jj j n la ha dq ub qj qg qn qo qq qf qs hm; exact absurd hm (Nat.not_lt_zero _)
    | succ nn ih =>
      intro τ jj j n la ha dq ub qj qg qn qo qq qf qs hm
      refine mv_iload_n (pc := 39) B d_Tree_grow_39 rfl 0 rfl ?_
      refine mv_aload_n (pc := 40) B d_Tree_grow_40 rfl 1 rfl ?_
      refine mv_getI (pc := 41) (ci := 8) (C := R_Tree) (T := F_Tree) (N := 5) B 4 rfl rfl (by decide) i_Tree (B.2.2.2.1 _ k_298) rfl d_Tree_grow_41 ?_
      refine mv_icmp_ge (pc := 44) (tgt := 91) B d_Tree_grow_44 rfl (fun h44 => ?_) (fun h44 => ?_)
      · skip
        rw [Int32.le_iff_toInt_le] at h44
        exact mv_vret (pc := 91) B hr d_Tree_grow_91 (Nat.le_refl _) (Nat.le_refl _) ⟨rfl, qf, qg.done (P := 48) (by omega) qo hM qs⟩
      · skip
        rw [Int32.le_iff_toInt_le] at h44
        refine mv_iload_n (pc := 47) B d_Tree_grow_47 rfl 0 rfl ?_
        refine mv_aload_n (pc := 48) B d_Tree_grow_48 rfl 1 rfl ?_
        refine mv_getR (pc := 49) (ci := 8) (C := R_Tree) (T := F_Tree) (N := 5) B 1 rfl rfl (by decide) i_Tree (B.2.2.2.1 _ k_293) rfl (qq _ 1 61 rfl) d_Tree_grow_49 ?_
        refine mv_alenI (pc := 52) B rfl rfl d_Tree_grow_52 ?_
        refine mv_icmp_ge (pc := 53) (tgt := 91) B d_Tree_grow_53 rfl (fun h53 => ?_) (fun h53 => ?_)
        · skip
          rw [Int32.le_iff_toInt_le] at h53
          have h53 : (1025 : Int) ≤ jj.toInt := h53
          have hr9 := qg.room.1
          exact mv_vret (pc := 91) B hr d_Tree_grow_91 (Nat.le_refl _) (Nat.le_refl _) ⟨rfl, qf, qg.done (P := 48) (by omega) qo hM qs⟩
        · skip
          rw [Int32.le_iff_toInt_le] at h53
          have h53 : ¬ (1025 : Int) ≤ jj.toInt := h53
          have ejj := i32_cl (x := jj) (by omega)
          have zj : jj.toNatClampNeg = j := by omega
          have hu := qg.2.1 j (Nat.le_refl _) (by omega)
          have hu4 := hu.2.2.2.1
          have hu5 := hu.2.2.2.2.1
          have w14 : (mv_a τ 62 jj.toNatClampNeg).toInt = la j := by rw [zj]; exact hu.2.1
          have w15 : (mv_a τ 63 jj.toNatClampNeg).toInt = ha j := by rw [zj]; exact hu.2.2.1
          have w2 : (jj + 1).toInt = ((j + 1 : Nat) : Int) := by rw [i32_inc (by omega)]; omega
          refine mv_aload_n (pc := 56) B d_Tree_grow_56 rfl 1 rfl ?_
          refine mv_aload_n (pc := 57) B d_Tree_grow_57 rfl 2 rfl ?_
          refine mv_aload_n (pc := 58) B d_Tree_grow_58 rfl 1 rfl ?_
          refine mv_getR (pc := 59) (ci := 8) (C := R_Tree) (T := F_Tree) (N := 5) B 2 rfl rfl (by decide) i_Tree (B.2.2.2.1 _ k_294) rfl (qq _ 2 62 rfl) d_Tree_grow_59 ?_
          refine mv_iload_n (pc := 62) B d_Tree_grow_62 rfl 0 rfl ?_
          refine mv_iald (pc := 63) B rfl (i32_in (by omega) (by omega)) d_Tree_grow_63 ?_
          refine mv_aload_n (pc := 64) B d_Tree_grow_64 rfl 1 rfl ?_
          refine mv_getR (pc := 65) (ci := 8) (C := R_Tree) (T := F_Tree) (N := 5) B 3 rfl rfl (by decide) i_Tree (B.2.2.2.1 _ k_296) rfl (qq _ 3 63 rfl) d_Tree_grow_65 ?_
          refine mv_iload_n (pc := 68) B d_Tree_grow_68 rfl 0 rfl ?_
          refine mv_iald (pc := 69) B rfl (i32_in (by omega) (by omega)) d_Tree_grow_69 ?_
          refine mv_callVi (pc := 70) (n := 3) (ci := 8) (C := R_Tree) B (mK_ok sk sv) hNs rfl rfl (c_Tree_partingBit_b l hi _ _ _ qq (by omega) (by omega) (by omega) (fun i q1 q2 => ⟨(qg.1 i (by omega)).1, Int.lt_of_lt_of_le (qg.1 i (by omega)).2 (by omega)⟩)) rfl (ma_goodc kc_Tree_partingBit) (B.2.2.2.1 _ k_418) (B.2.2.2.1 _ k_420) (B.2.2.2.1 _ ks_1) (B.2.2.2.1 _ k_9) ⟨by decide +kernel, by decide +kernel, by decide +kernel⟩ rfl d_Tree_grow_70 rfl (Nat.le_of_ble_eq_true rfl) ⟨by decide, by decide⟩ ⟨by decide, by decide⟩ ⟨by decide, by decide⟩ (mv_noH hno _) (fun v70 σ70 h70 => ?_)
          obtain ⟨e70, d70⟩ := h70
          have e70 := e70.symm
          subst e70
          refine mv_istore_n (pc := 73) B d_Tree_grow_73 rfl (by decide) rfl ?_
          refine mv_iload_n (pc := 74) B d_Tree_grow_74 rfl 0 rfl ?_
          refine mv_if_lt (pc := 75) (tgt := 85) B d_Tree_grow_75 rfl (fun h75 => ?_) (fun h75 => ?_)
          · skip
            have go := ih τ (jj + 1) (j + 1) n la ha dq ub w2 (qg.leaf (by omega)) qn qo qq qf qs (by omega)
            refine mv_iinc (pc := 85) (j := 1) (v := 1) B d_Tree_grow_85 rfl (by decide) (by decide) rfl ?_
            refine mv_goto (pc := 88) (tgt := 39) B d_Tree_grow_88 rfl ?_
            refine mv_lpick [0, 2, 3] rfl ?_
            exact go
          · skip
            obtain ⟨b, hb, eb, ⟨x1, x2, x3, x4⟩, ⟨y1, y2, y3, y4⟩, hK9⟩ := d70.resolve_left (fun q => h75 (by rw [q]; decide))
            subst eb
            have hne : x1 ≠ y1 := fun q => by rw [q, y4] at x4; cases x4
            have hr9 := qg.room2 (by omega) (by omega)
            refine mv_aload_n (pc := 78) B d_Tree_grow_78 rfl 2 rfl ?_
            refine mv_aload_n (pc := 79) B d_Tree_grow_79 rfl 3 rfl ?_
            refine mv_iload_n (pc := 80) B d_Tree_grow_80 rfl 1 rfl ?_
            refine mv_iload_n (pc := 81) B d_Tree_grow_81 rfl 0 rfl ?_
            refine mv_callVv (pc := 82) (n := 3) (ci := 8) (C := R_Tree) B (mK_ok sk sv) hNs rfl rfl (c_Tree_part_b l hi _ _ j n (la j) (ha j) b qq (by omega) (by omega) (by omega) qn (by omega) w14 w15 hu4 (by omega) hb (fun i q1 q2 => ⟨(qg.1 i (by omega)).1, Int.lt_of_lt_of_le (qg.1 i (by omega)).2 (by omega)⟩)) rfl (ma_goodc kc_Tree_part) (B.2.2.2.1 _ k_429) (B.2.2.2.1 _ k_431) (B.2.2.2.1 _ ks_2) (B.2.2.2.1 _ k_9) ⟨by decide +kernel, by decide +kernel, by decide +kernel⟩ rfl d_Tree_grow_82 rfl (Nat.le_of_ble_eq_true rfl) ⟨by decide, by decide⟩ ⟨by decide, by decide⟩ ⟨by decide, by decide⟩ (mv_noH hno _) (fun σ82 h82 => ?_)
            obtain ⟨la2, ha2, dq2, ub2, g82⟩ := Gr.step qg (by omega) hb qn (by omega) y1 x1 ⟨by omega, by omega, y4⟩ ⟨by omega, by omega, x4⟩ h82
            have s82 := SmT.step (P := 48) qs qg (by omega) hb qn (by omega) (fun i a b => hK9 i (by omega) (by omega)) h82
            obtain ⟨-, -, -, -, f82, n82, -⟩ := h82
            have go := ih σ82 (jj + 1) (j + 1) (n + 2) la2 ha2 dq2 ub2 w2 g82 (by rw [n82]; rfl) (by rw [f82.1 48 10 (by decide)]; exact qo) (by rw [f82.2.2.2.2]; exact qq) (qf.tr f82) s82 (by omega)
            refine mv_iinc (pc := 85) (j := 1) (v := 1) B d_Tree_grow_85 rfl (by decide) (by decide) rfl ?_
            refine mv_goto (pc := 88) (tgt := 39) B d_Tree_grow_88 rfl ?_
            refine mv_lpick [0, 2, 3] rfl ?_
            exact go
  have l0 : ∀ (nn : Nat) (τ : mv_H) (jj : Int32) (j : Nat) (qj : jj.toInt = j) (qle : j ≤ ops) (qi : mv_i τ 48 10 = mv_i σ 48 10) (qd : ∀ i, i < j → (mv_a τ 60 i).toInt = i) (qq : Ph 48 (mv_r τ)) (qf : TrF 48 σ τ), ops - j < nn → mv_V p l e ({ frames := 2, cells := 0, slots := 0, locals := 52 }) s m ([.ref (al 59), .ref (al 48)] : List Value).toArray below meth c (mg dA D al ext) 4 0 0 (mv_Q (mg dA D al ext) below s 0 0 (mv_Rv (fun σ1 => TrF 48 σ σ1 ∧ TreeOK 48 512 σ1))) τ 2 [(2, .int jj), (0, .ref (al 59)), (1, .ref (al 48))] [] := by
    intro nn
    induction nn with
    | zero => intro τ jj j qj qle qi qd qq qf hm; exact absurd hm (Nat.not_lt_zero _)
    | succ nn ih =>
      intro τ jj j qj qle qi qd qq qf hm
      refine mv_iload_n (pc := 2) B d_Tree_grow_2 rfl 0 rfl ?_
      refine mv_aload_n (pc := 3) B d_Tree_grow_3 rfl 2 rfl ?_
      refine mv_getI (pc := 4) (ci := 7) (C := R_Program) (T := F_Program) (N := 19) B 10 rfl rfl (by decide) i_Program (B.2.2.2.1 _ k_344) rfl d_Tree_grow_4 ?_
      refine mv_icmp_ge (pc := 7) (tgt := 23) B d_Tree_grow_7 rfl (fun h7 => ?_) (fun h7 => ?_)
      · skip
        rw [Int32.le_iff_toInt_le, qi] at h7
        refine mv_aload_n (pc := 23) B d_Tree_grow_23 rfl 1 rfl ?_
        refine mv_iconst (pc := 24) (v := 0) B d_Tree_grow_24 (by decide) ?_
        refine mv_putI (pc := 25) (ci := 8) (C := R_Tree) (T := F_Tree) (N := 5) B 4 rfl rfl (by decide) i_Tree t_Tree_ok n_Tree (B.2.2.2.1 _ k_298) rfl rfl rfl rfl d_Tree_grow_25 ?_
        refine mv_aload_n (pc := 28) B d_Tree_grow_28 rfl 1 rfl ?_
        refine mv_iconst (pc := 29) (v := 0) B d_Tree_grow_29 (by decide) ?_
        refine mv_aload_n (pc := 30) B d_Tree_grow_30 rfl 2 rfl ?_
        refine mv_getI (pc := 31) (ci := 7) (C := R_Program) (T := F_Program) (N := 19) B 10 rfl rfl (by decide) i_Program (B.2.2.2.1 _ k_344) rfl d_Tree_grow_31 ?_
        refine mv_callVv (pc := 34) (n := 2) (ci := 8) (C := R_Tree) B (mK_ok sk sv) hNs rfl rfl (c_Tree_addLeaf_b l hi _ _ _ qq (by show (0 : Int) ≤ (0 : Int32).toInt; decide) (by show (0 : Int32).toInt < 1025; decide)) rfl (ma_goodc kc_Tree_addLeaf) (B.2.2.2.1 _ k_414) (B.2.2.2.1 _ k_416) (B.2.2.2.1 _ ks_0) (B.2.2.2.1 _ k_9) ⟨by decide +kernel, by decide +kernel, by decide +kernel⟩ rfl d_Tree_grow_34 rfl (Nat.le_of_ble_eq_true rfl) ⟨by decide, by decide⟩ ⟨by decide, by decide⟩ ⟨by decide, by decide⟩ (mv_noH hno _) (fun σ34 h34 => ?_)
        subst h34
        refine mv_gen (fun S eS => ?_)
        have n34 : (mv_i S 59 4).toInt = ((1 : Nat) : Int) := by rw [eS, tr_leaf_i 48]; rfl
        have o34 : (mv_i S 48 10).toInt = ops := by rw [eS]; exact (congrArg Int32.toInt qi).trans ho
        have q34 : Ph 48 (mv_r S) := by rw [eS]; exact qq
        have f34 : TrF 48 σ S := by rw [eS]; exact (qf.si ⟨rfl, rfl⟩).tr (tr_leaf_F 48 _ _ _)
        have g34 : GrS 48 S ops 0 1 (fun _ => 0) (fun _ => ops) (fun _ => 0) (fun _ => []) := Gr.init (fun i q => by rw [eS, tr_leaf_12 48]; exact qd i (by omega)) (by rw [eS, tr_leaf_13 48]; rfl) (by rw [eS, tr_leaf_14 48]; rfl) (by rw [eS, tr_leaf_15 48]; exact (congrArg Int32.toInt qi).trans ho)
        have s34 : SmT (mv_b S 53) (mv_b S 54) (mv_a S 60) (mv_a S 61) (mv_a S 62) (mv_a S 63) ops 1 (fun _ a => a < ops) := SmT.init (fun i q => by rw [eS, tr_leaf_12 48]; exact qd i (by omega)) (by rw [eS, tr_leaf_13 48]; rfl) (by rw [eS, tr_leaf_14 48]; rfl) (by rw [eS, tr_leaf_15 48]; exact (congrArg Int32.toInt qi).trans ho)
        clear eS
        refine mv_iconst (pc := 37) (v := 0) B d_Tree_grow_37 (by decide) ?_
        refine mv_istore_n (pc := 38) B d_Tree_grow_38 rfl (by decide) rfl ?_
        refine mv_lpick [0, 1, 2] rfl ?_
        exact lp _ _ _ 0 1 _ _ _ _ rfl g34 n34 o34 q34 f34 ⟨_, s34⟩ (Nat.lt_succ_self _)
      · skip
        rw [Int32.le_iff_toInt_le, qi] at h7
        have ejj := i32_cl (x := jj) (by omega)
        have w2 : (jj + 1).toInt = ((j + 1 : Nat) : Int) := by rw [i32_inc (by omega)]; omega
        have go := ih (mv_sa τ 60 jj.toNatClampNeg jj) (jj + 1) (j + 1) w2 (by omega) qi (fun i hi9 => by show (mv_u (mv_a τ) 60 jj.toNatClampNeg jj 60 i).toInt = _; rw [u_row]; exact (Decidable.em (i = jj.toNatClampNeg)).elim (fun e9 => by rw [if_pos e9]; omega) (fun e9 => by rw [if_neg e9]; exact qd i (by omega))) qq (qf.sa (by decide)) (by omega)
        refine mv_aload_n (pc := 10) B d_Tree_grow_10 rfl 1 rfl ?_
        refine mv_getR (pc := 11) (ci := 8) (C := R_Tree) (T := F_Tree) (N := 5) B 0 rfl rfl (by decide) i_Tree (B.2.2.2.1 _ k_291) rfl (qq _ 0 60 rfl) d_Tree_grow_11 ?_
        refine mv_iload_n (pc := 14) B d_Tree_grow_14 rfl 0 rfl ?_
        refine mv_iload_n (pc := 15) B d_Tree_grow_15 rfl 0 rfl ?_
        refine mv_iast (pc := 16) B rfl (i32_in (by omega) (by omega)) d_Tree_grow_16 ?_
        refine mv_iinc (pc := 17) (j := 0) (v := 1) B d_Tree_grow_17 rfl (by decide) (by decide) rfl ?_
        refine mv_goto (pc := 20) (tgt := 2) B d_Tree_grow_20 rfl ?_
        refine mv_lpick [0, 1, 2] rfl ?_
        exact go
  refine mv_iconst (pc := 0) (v := 0) B d_Tree_grow_0 (by decide) ?_
  refine mv_istore_n (pc := 1) B d_Tree_grow_1 rfl (by decide) rfl ?_
  refine mv_lpick [0, 1, 2] rfl ?_
  exact l0 _ _ _ 0 rfl (Nat.zero_le _) rfl (fun i q => by omega) hq Fr.rf (Nat.lt_succ_self _)
set_option maxHeartbeats 4000000 in
set_option maxRecDepth 100000 in
theorem c_Tree_grow_c (l : Launch) {dA : FieldType → ClassId} {D : va_G} {al : Nat → Nat} {sk sv : Nat → Nat} (hi : mv_inj (mg dA D al me)) (σ : mv_H) (ops : Nat) (hq : Ph 145 (mv_r σ)) (ho : (mv_i σ 145 10).toInt = ops) (hM : ops ≤ 48) : mv_C l y_Tree_grow (Cond.code y_Tree_grow b_Tree_grow 4 (Option.none : Option Jvm.ClassFile.FieldType) :: ma) ({ frames := 2, cells := 0, slots := 0, locals := 52 }) (mg dA D al me) (mK sk sv) [.ref (al 156), .ref (al 145)] σ (mv_Rv (fun σ1 => TrF 145 σ σ1 ∧ TreeOK 145 48 σ1)) := by
  refine mv_C.ofV (cc := b_Tree_grow) (nL := 4) (ret := (Option.none : Option Jvm.ClassFile.FieldType)) (by decide +kernel) rfl hi (Nat.le_of_ble_eq_true rfl) ?_
  intro p e s m below meth c B hNs hr hnm hno
  have lp : ∀ (nn : Nat) (τ : mv_H) (jj : Int32) (j : Nat) (n : Nat) (la : Nat → Nat) (ha : Nat → Nat) (dq : Nat → Nat) (ub : Nat → List Nat) (qj : jj.toInt = j) (qg : GrS 145 τ ops j n la ha dq ub) (qn : (mv_i τ 156 4).toInt = n) (qo : (mv_i τ 145 10).toInt = ops) (qq : Ph 145 (mv_r τ)) (qf : TrF 145 σ τ) (qs : ∃ S, SmT (mv_b τ 150) (mv_b τ 151) (mv_a τ 157) (mv_a τ 158) (mv_a τ 159) (mv_a τ 160) ops n S), 97 - j < nn → mv_V p l e ({ frames := 2, cells := 0, slots := 0, locals := 52 }) s m ([.ref (al 156), .ref (al 145)] : List Value).toArray below meth c (mg dA D al me) 4 0 0 (mv_Q (mg dA D al me) below s 0 0 (mv_Rv (fun σ1 => TrF 145 σ σ1 ∧ TreeOK 145 48 σ1))) τ 39 [(2, .int jj), (0, .ref (al 156)), (1, .ref (al 145))] [] := by
    intro nn
    induction nn with
    | zero => intro τ jj j n la ha dq ub qj qg qn qo qq qf qs hm; exact absurd hm (Nat.not_lt_zero _)
    | succ nn ih =>
      intro τ jj j n la ha dq ub qj qg qn qo qq qf qs hm
      refine mv_iload_n (pc := 39) B d_Tree_grow_39 rfl 0 rfl ?_
      refine mv_aload_n (pc := 40) B d_Tree_grow_40 rfl 1 rfl ?_
      refine mv_getI (pc := 41) (ci := 8) (C := R_Tree) (T := F_Tree) (N := 5) B 4 rfl rfl (by decide) i_Tree (B.2.2.2.1 _ k_298) rfl d_Tree_grow_41 ?_
      refine mv_icmp_ge (pc := 44) (tgt := 91) B d_Tree_grow_44 rfl (fun h44 => ?_) (fun h44 => ?_)
      · skip
        rw [Int32.le_iff_toInt_le] at h44
        exact mv_vret (pc := 91) B hr d_Tree_grow_91 (Nat.le_refl _) (Nat.le_refl _) ⟨rfl, qf, qg.done (P := 145) (by omega) qo hM qs⟩
      · skip
        rw [Int32.le_iff_toInt_le] at h44
        refine mv_iload_n (pc := 47) B d_Tree_grow_47 rfl 0 rfl ?_
        refine mv_aload_n (pc := 48) B d_Tree_grow_48 rfl 1 rfl ?_
        refine mv_getR (pc := 49) (ci := 8) (C := R_Tree) (T := F_Tree) (N := 5) B 1 rfl rfl (by decide) i_Tree (B.2.2.2.1 _ k_293) rfl (qq _ 1 158 rfl) d_Tree_grow_49 ?_
        refine mv_alenI (pc := 52) B rfl rfl d_Tree_grow_52 ?_
        refine mv_icmp_ge (pc := 53) (tgt := 91) B d_Tree_grow_53 rfl (fun h53 => ?_) (fun h53 => ?_)
        · skip
          rw [Int32.le_iff_toInt_le] at h53
          have h53 : (97 : Int) ≤ jj.toInt := h53
          have hr9 := qg.room.1
          exact mv_vret (pc := 91) B hr d_Tree_grow_91 (Nat.le_refl _) (Nat.le_refl _) ⟨rfl, qf, qg.done (P := 145) (by omega) qo hM qs⟩
        · skip
          rw [Int32.le_iff_toInt_le] at h53
          have h53 : ¬ (97 : Int) ≤ jj.toInt := h53
          have ejj := i32_cl (x := jj) (by omega)
          have zj : jj.toNatClampNeg = j := by omega
          have hu := qg.2.1 j (Nat.le_refl _) (by omega)
          have hu4 := hu.2.2.2.1
          have hu5 := hu.2.2.2.2.1
          have w14 : (mv_a τ 159 jj.toNatClampNeg).toInt = la j := by rw [zj]; exact hu.2.1
          have w15 : (mv_a τ 160 jj.toNatClampNeg).toInt = ha j := by rw [zj]; exact hu.2.2.1
          have w2 : (jj + 1).toInt = ((j + 1 : Nat) : Int) := by rw [i32_inc (by omega)]; omega
          refine mv_aload_n (pc := 56) B d_Tree_grow_56 rfl 1 rfl ?_
          refine mv_aload_n (pc := 57) B d_Tree_grow_57 rfl 2 rfl ?_
          refine mv_aload_n (pc := 58) B d_Tree_grow_58 rfl 1 rfl ?_
          refine mv_getR (pc := 59) (ci := 8) (C := R_Tree) (T := F_Tree) (N := 5) B 2 rfl rfl (by decide) i_Tree (B.2.2.2.1 _ k_294) rfl (qq _ 2 159 rfl) d_Tree_grow_59 ?_
          refine mv_iload_n (pc := 62) B d_Tree_grow_62 rfl 0 rfl ?_
          refine mv_iald (pc := 63) B rfl (i32_in (by omega) (by omega)) d_Tree_grow_63 ?_
          refine mv_aload_n (pc := 64) B d_Tree_grow_64 rfl 1 rfl ?_
          refine mv_getR (pc := 65) (ci := 8) (C := R_Tree) (T := F_Tree) (N := 5) B 3 rfl rfl (by decide) i_Tree (B.2.2.2.1 _ k_296) rfl (qq _ 3 160 rfl) d_Tree_grow_65 ?_
          refine mv_iload_n (pc := 68) B d_Tree_grow_68 rfl 0 rfl ?_
          refine mv_iald (pc := 69) B rfl (i32_in (by omega) (by omega)) d_Tree_grow_69 ?_
          refine mv_callVi (pc := 70) (n := 3) (ci := 8) (C := R_Tree) B (mK_ok sk sv) hNs rfl rfl (c_Tree_partingBit_c l hi _ _ _ qq (by omega) (by omega) (by omega) (fun i q1 q2 => ⟨(qg.1 i (by omega)).1, Int.lt_of_lt_of_le (qg.1 i (by omega)).2 (by omega)⟩)) rfl (ma_goodc kc_Tree_partingBit) (B.2.2.2.1 _ k_418) (B.2.2.2.1 _ k_420) (B.2.2.2.1 _ ks_1) (B.2.2.2.1 _ k_9) ⟨by decide +kernel, by decide +kernel, by decide +kernel⟩ rfl d_Tree_grow_70 rfl (Nat.le_of_ble_eq_true rfl) ⟨by decide, by decide⟩ ⟨by decide, by decide⟩ ⟨by decide, by decide⟩ (mv_noH hno _) (fun v70 σ70 h70 => ?_)
          obtain ⟨e70, d70⟩ := h70
          have e70 := e70.symm
          subst e70
          refine mv_istore_n (pc := 73) B d_Tree_grow_73 rfl (by decide) rfl ?_
          refine mv_iload_n (pc := 74) B d_Tree_grow_74 rfl 0 rfl ?_
          refine mv_if_lt (pc := 75) (tgt := 85) B d_Tree_grow_75 rfl (fun h75 => ?_) (fun h75 => ?_)
          · skip
            have go := ih τ (jj + 1) (j + 1) n la ha dq ub w2 (qg.leaf (by omega)) qn qo qq qf qs (by omega)
            refine mv_iinc (pc := 85) (j := 1) (v := 1) B d_Tree_grow_85 rfl (by decide) (by decide) rfl ?_
            refine mv_goto (pc := 88) (tgt := 39) B d_Tree_grow_88 rfl ?_
            refine mv_lpick [0, 2, 3] rfl ?_
            exact go
          · skip
            obtain ⟨b, hb, eb, ⟨x1, x2, x3, x4⟩, ⟨y1, y2, y3, y4⟩, hK9⟩ := d70.resolve_left (fun q => h75 (by rw [q]; decide))
            subst eb
            have hne : x1 ≠ y1 := fun q => by rw [q, y4] at x4; cases x4
            have hr9 := qg.room2 (by omega) (by omega)
            refine mv_aload_n (pc := 78) B d_Tree_grow_78 rfl 2 rfl ?_
            refine mv_aload_n (pc := 79) B d_Tree_grow_79 rfl 3 rfl ?_
            refine mv_iload_n (pc := 80) B d_Tree_grow_80 rfl 1 rfl ?_
            refine mv_iload_n (pc := 81) B d_Tree_grow_81 rfl 0 rfl ?_
            refine mv_callVv (pc := 82) (n := 3) (ci := 8) (C := R_Tree) B (mK_ok sk sv) hNs rfl rfl (c_Tree_part_c l hi _ _ j n (la j) (ha j) b qq (by omega) (by omega) (by omega) qn (by omega) w14 w15 hu4 (by omega) hb (fun i q1 q2 => ⟨(qg.1 i (by omega)).1, Int.lt_of_lt_of_le (qg.1 i (by omega)).2 (by omega)⟩)) rfl (ma_goodc kc_Tree_part) (B.2.2.2.1 _ k_429) (B.2.2.2.1 _ k_431) (B.2.2.2.1 _ ks_2) (B.2.2.2.1 _ k_9) ⟨by decide +kernel, by decide +kernel, by decide +kernel⟩ rfl d_Tree_grow_82 rfl (Nat.le_of_ble_eq_true rfl) ⟨by decide, by decide⟩ ⟨by decide, by decide⟩ ⟨by decide, by decide⟩ (mv_noH hno _) (fun σ82 h82 => ?_)
            obtain ⟨la2, ha2, dq2, ub2, g82⟩ := Gr.step qg (by omega) hb qn (by omega) y1 x1 ⟨by omega, by omega, y4⟩ ⟨by omega, by omega, x4⟩ h82
            have s82 := SmT.step (P := 145) qs qg (by omega) hb qn (by omega) (fun i a b => hK9 i (by omega) (by omega)) h82
            obtain ⟨-, -, -, -, f82, n82, -⟩ := h82
            have go := ih σ82 (jj + 1) (j + 1) (n + 2) la2 ha2 dq2 ub2 w2 g82 (by rw [n82]; rfl) (by rw [f82.1 145 10 (by decide)]; exact qo) (by rw [f82.2.2.2.2]; exact qq) (qf.tr f82) s82 (by omega)
            refine mv_iinc (pc := 85) (j := 1) (v := 1) B d_Tree_grow_85 rfl (by decide) (by decide) rfl ?_
            refine mv_goto (pc := 88) (tgt := 39) B d_Tree_grow_88 rfl ?_
            refine mv_lpick [0, 2, 3] rfl ?_
            exact go
  have l0 : ∀ (nn : Nat) (τ : mv_H) (jj : Int32) (j : Nat) (qj : jj.toInt = j) (qle : j ≤ ops) (qi : mv_i τ 145 10 = mv_i σ 145 10) (qd : ∀ i, i < j → (mv_a τ 157 i).toInt = i) (qq : Ph 145 (mv_r τ)) (qf : TrF 145 σ τ), ops - j < nn → mv_V p l e ({ frames := 2, cells := 0, slots := 0, locals := 52 }) s m ([.ref (al 156), .ref (al 145)] : List Value).toArray below meth c (mg dA D al me) 4 0 0 (mv_Q (mg dA D al me) below s 0 0 (mv_Rv (fun σ1 => TrF 145 σ σ1 ∧ TreeOK 145 48 σ1))) τ 2 [(2, .int jj), (0, .ref (al 156)), (1, .ref (al 145))] [] := by
    intro nn
    induction nn with
    | zero => intro τ jj j qj qle qi qd qq qf hm; exact absurd hm (Nat.not_lt_zero _)
    | succ nn ih =>
      intro τ jj j qj qle qi qd qq qf hm
      refine mv_iload_n (pc := 2) B d_Tree_grow_2 rfl 0 rfl ?_
      refine mv_aload_n (pc := 3) B d_Tree_grow_3 rfl 2 rfl ?_
      refine mv_getI (pc := 4) (ci := 7) (C := R_Program) (T := F_Program) (N := 19) B 10 rfl rfl (by decide) i_Program (B.2.2.2.1 _ k_344) rfl d_Tree_grow_4 ?_
      refine mv_icmp_ge (pc := 7) (tgt := 23) B d_Tree_grow_7 rfl (fun h7 => ?_) (fun h7 => ?_)
      · skip
        rw [Int32.le_iff_toInt_le, qi] at h7
        refine mv_aload_n (pc := 23) B d_Tree_grow_23 rfl 1 rfl ?_
        refine mv_iconst (pc := 24) (v := 0) B d_Tree_grow_24 (by decide) ?_
        refine mv_putI (pc := 25) (ci := 8) (C := R_Tree) (T := F_Tree) (N := 5) B 4 rfl rfl (by decide) i_Tree t_Tree_ok n_Tree (B.2.2.2.1 _ k_298) rfl rfl rfl rfl d_Tree_grow_25 ?_
        refine mv_aload_n (pc := 28) B d_Tree_grow_28 rfl 1 rfl ?_
        refine mv_iconst (pc := 29) (v := 0) B d_Tree_grow_29 (by decide) ?_
        refine mv_aload_n (pc := 30) B d_Tree_grow_30 rfl 2 rfl ?_
        refine mv_getI (pc := 31) (ci := 7) (C := R_Program) (T := F_Program) (N := 19) B 10 rfl rfl (by decide) i_Program (B.2.2.2.1 _ k_344) rfl d_Tree_grow_31 ?_
        refine mv_callVv (pc := 34) (n := 2) (ci := 8) (C := R_Tree) B (mK_ok sk sv) hNs rfl rfl (c_Tree_addLeaf_c l hi _ _ _ qq (by show (0 : Int) ≤ (0 : Int32).toInt; decide) (by show (0 : Int32).toInt < 97; decide)) rfl (ma_goodc kc_Tree_addLeaf) (B.2.2.2.1 _ k_414) (B.2.2.2.1 _ k_416) (B.2.2.2.1 _ ks_0) (B.2.2.2.1 _ k_9) ⟨by decide +kernel, by decide +kernel, by decide +kernel⟩ rfl d_Tree_grow_34 rfl (Nat.le_of_ble_eq_true rfl) ⟨by decide, by decide⟩ ⟨by decide, by decide⟩ ⟨by decide, by decide⟩ (mv_noH hno _) (fun σ34 h34 => ?_)
        subst h34
        refine mv_gen (fun S eS => ?_)
        have n34 : (mv_i S 156 4).toInt = ((1 : Nat) : Int) := by rw [eS, tr_leaf_i 145]; rfl
        have o34 : (mv_i S 145 10).toInt = ops := by rw [eS]; exact (congrArg Int32.toInt qi).trans ho
        have q34 : Ph 145 (mv_r S) := by rw [eS]; exact qq
        have f34 : TrF 145 σ S := by rw [eS]; exact (qf.si ⟨rfl, rfl⟩).tr (tr_leaf_F 145 _ _ _)
        have g34 : GrS 145 S ops 0 1 (fun _ => 0) (fun _ => ops) (fun _ => 0) (fun _ => []) := Gr.init (fun i q => by rw [eS, tr_leaf_12 145]; exact qd i (by omega)) (by rw [eS, tr_leaf_13 145]; rfl) (by rw [eS, tr_leaf_14 145]; rfl) (by rw [eS, tr_leaf_15 145]; exact (congrArg Int32.toInt qi).trans ho)
        have s34 : SmT (mv_b S 150) (mv_b S 151) (mv_a S 157) (mv_a S 158) (mv_a S 159) (mv_a S 160) ops 1 (fun _ a => a < ops) := SmT.init (fun i q => by rw [eS, tr_leaf_12 145]; exact qd i (by omega)) (by rw [eS, tr_leaf_13 145]; rfl) (by rw [eS, tr_leaf_14 145]; rfl) (by rw [eS, tr_leaf_15 145]; exact (congrArg Int32.toInt qi).trans ho)
        clear eS
        refine mv_iconst (pc := 37) (v := 0) B d_Tree_grow_37 (by decide) ?_
        refine mv_istore_n (pc := 38) B d_Tree_grow_38 rfl (by decide) rfl ?_
        refine mv_lpick [0, 1, 2] rfl ?_
        exact lp _ _ _ 0 1 _ _ _ _ rfl g34 n34 o34 q34 f34 ⟨_, s34⟩ (Nat.lt_succ_self _)
      · skip
        rw [Int32.le_iff_toInt_le, qi] at h7
        have ejj := i32_cl (x := jj) (by omega)
        have w2 : (jj + 1).toInt = ((j + 1 : Nat) : Int) := by rw [i32_inc (by omega)]; omega
        have go := ih (mv_sa τ 157 jj.toNatClampNeg jj) (jj + 1) (j + 1) w2 (by omega) qi (fun i hi9 => by show (mv_u (mv_a τ) 157 jj.toNatClampNeg jj 157 i).toInt = _; rw [u_row]; exact (Decidable.em (i = jj.toNatClampNeg)).elim (fun e9 => by rw [if_pos e9]; omega) (fun e9 => by rw [if_neg e9]; exact qd i (by omega))) qq (qf.sa (by decide)) (by omega)
        refine mv_aload_n (pc := 10) B d_Tree_grow_10 rfl 1 rfl ?_
        refine mv_getR (pc := 11) (ci := 8) (C := R_Tree) (T := F_Tree) (N := 5) B 0 rfl rfl (by decide) i_Tree (B.2.2.2.1 _ k_291) rfl (qq _ 0 157 rfl) d_Tree_grow_11 ?_
        refine mv_iload_n (pc := 14) B d_Tree_grow_14 rfl 0 rfl ?_
        refine mv_iload_n (pc := 15) B d_Tree_grow_15 rfl 0 rfl ?_
        refine mv_iast (pc := 16) B rfl (i32_in (by omega) (by omega)) d_Tree_grow_16 ?_
        refine mv_iinc (pc := 17) (j := 0) (v := 1) B d_Tree_grow_17 rfl (by decide) (by decide) rfl ?_
        refine mv_goto (pc := 20) (tgt := 2) B d_Tree_grow_20 rfl ?_
        refine mv_lpick [0, 1, 2] rfl ?_
        exact go
  refine mv_iconst (pc := 0) (v := 0) B d_Tree_grow_0 (by decide) ?_
  refine mv_istore_n (pc := 1) B d_Tree_grow_1 rfl (by decide) rfl ?_
  refine mv_lpick [0, 1, 2] rfl ?_
  exact l0 _ _ _ 0 rfl (Nat.zero_le _) rfl (fun i q => by omega) hq Fr.rf (Nat.lt_succ_self _)
/-- what a leaf must keep -/
def LeafOK (P M : Nat) (σ : mv_H) (v : Int32) : Prop := 0 ≤ v.toInt ∧ v.toInt < 2 * M + 1 ∧ 0 ≤ (mv_a σ (P + 14) v.toNatClampNeg).toInt ∧ (mv_a σ (P + 15) v.toNatClampNeg).toInt ≤ M ∧ ∀ i : Nat, (mv_a σ (P + 14) v.toNatClampNeg).toInt ≤ i → (i : Int) < (mv_a σ (P + 15) v.toNatClampNeg).toInt → 0 ≤ (mv_a σ (P + 12) i).toInt ∧ (mv_a σ (P + 12) i).toInt < (mv_i σ P 10).toInt ∧ (mv_i σ P 10).toInt ≤ M ∧ TreeOK P M σ
def TrD (P M : Nat) (σ : mv_H) (j : Nat) (t : Int) : Prop := ∃ (ops n : Nat) (dq : Nat → Nat), (mv_i σ P 10).toInt = ops ∧ ops ≤ M ∧ (1 ≤ n ∧ ∃ S, SmT (mv_b σ (P + 5)) (mv_b σ (P + 6)) (mv_a σ (P + 12)) (mv_a σ (P + 13)) (mv_a σ (P + 14)) (mv_a σ (P + 15)) ops n S) ∧ n ≤ 2 * M + 1 ∧ (∀ i, i < ops → 0 ≤ (mv_a σ (P + 12) i).toInt ∧ (mv_a σ (P + 12) i).toInt < ops) ∧ (∀ j, j < n → dq j ≤ 64 ∧ Tn (mv_a σ (P + 13)) (mv_a σ (P + 14)) (mv_a σ (P + 15)) ops n dq j) ∧ j < n ∧ t ≤ dq j
def TrL (P M : Nat) (σ : mv_H) (j : Nat) (t : Int) : Prop := TrD P M σ j t ∨ (TreeZ P σ ∧ j = 0)
theorem leaf_0 {P M : Nat} {σ : mv_H} (h : TreeOK P M σ) : TrD P M σ 0 0 := by
  obtain ⟨ops, n, dq, h1, h2, h3, h4, h5, h6⟩ := h
  exact ⟨ops, n, dq, h1, h2, h3, h4, h5, h6, by omega, by omega⟩
theorem leaf_z {P M : Nat} {σ : mv_H} {v : Int32} (h : TreeZ P σ) (hv : v.toInt = 0) : LeafOK P M σ v := by
  have e : v.toNatClampNeg = 0 := by have := i32_cl (x := v) (by omega); omega
  unfold LeafOK
  rw [e, h.2.1, h.2.2]
  exact ⟨by omega, by omega, by decide, by show (0 : Int) ≤ M; omega, fun i q1 q2 => absurd q2 (by show ¬ ((i : Int) < 0); omega)⟩
theorem leaf_t {P M : Nat} {σ : mv_H} {v : Int32} {j : Nat} {t : Int} (h : TrD P M σ j t) (hv : v.toInt = j) (hb : mv_a σ (P + 13) j = -1) : LeafOK P M σ v := by
  obtain ⟨ops, n, dq, h1, h2, h3, h4, h5, h6, h7, h8⟩ := h
  have e : v.toNatClampNeg = j := by have := i32_cl (x := v) (by omega); omega
  unfold LeafOK
  rw [e]
  rcases (h6 j h7).2 with ⟨q1, q2, q3⟩ | ⟨q1, -⟩
  · exact ⟨by omega, by omega, q2, by omega, fun i r1 r2 => ⟨(h5 i (by omega)).1, by have := h5 i (by omega); omega, by omega, ops, n, dq, h1, h2, h3, h4, h5, h6⟩⟩
  · exact absurd hb q1
theorem leaf_d (P M : Nat) {σ : mv_H} {j : Nat} {t : Int} (h : TrL P M σ j t) (hb : ¬ mv_a σ (P + 13) j = -1) : (∃ c : Nat, (mv_a σ (P + 14) j).toInt = c ∧ TrL P M σ c (t + 1)) ∧ (∃ c : Nat, (mv_a σ (P + 15) j).toInt = c ∧ TrL P M σ c (t + 1)) := by
  rcases h with ⟨ops, n, dq, h1, h2, h3, h4, h5, h6, h7, h8⟩ | ⟨h1, h2⟩
  · rcases (h6 j h7).2 with ⟨q1, -⟩ | ⟨-, c, d, q1, q2, q3, q4, q5, q6⟩
    · exact absurd q1 hb
    · exact ⟨⟨c, q1, Or.inl ⟨ops, n, dq, h1, h2, h3, h4, h5, h6, q3, by omega⟩⟩, ⟨d, q2, Or.inl ⟨ops, n, dq, h1, h2, h3, h4, h5, h6, q4, by omega⟩⟩⟩
  · subst h2
    exact ⟨⟨0, by rw [h1.2.1]; rfl, Or.inr ⟨h1, rfl⟩⟩, ⟨0, by rw [h1.2.2]; rfl, Or.inr ⟨h1, rfl⟩⟩⟩
def y_Tree_leafOf : MethodName := ⟨"MachineLoom$Tree", "leafOf", "(J)I"⟩
abbrev b_Tree_leafOf : ByteArray := prog_11_method_6_code
theorem kc_Tree_leafOf : Cond.code y_Tree_leafOf b_Tree_leafOf 5 (Option.some Jvm.ClassFile.FieldType.int) ∈ ma := ma_of (tb_7 _ (List.mem_of_getElem? (i := 127) rfl)) rfl
theorem d_Tree_leafOf_0 : decode b_Tree_leafOf 0 = .ok (.iconst 0, 1) := by decide +kernel
theorem d_Tree_leafOf_1 : decode b_Tree_leafOf 1 = .ok (.istore_n 3, 1) := by decide +kernel
theorem d_Tree_leafOf_2 : decode b_Tree_leafOf 2 = .ok (.iconst 0, 1) := by decide +kernel
theorem d_Tree_leafOf_3 : decode b_Tree_leafOf 3 = .ok (.istore 4, 2) := by decide +kernel
theorem d_Tree_leafOf_5 : decode b_Tree_leafOf 5 = .ok (.iload 4, 2) := by decide +kernel
theorem d_Tree_leafOf_7 : decode b_Tree_leafOf 7 = .ok (.bipush 64, 2) := by decide +kernel
theorem d_Tree_leafOf_9 : decode b_Tree_leafOf 9 = .ok (.if_icmp .gt (50), 3) := by decide +kernel
theorem d_Tree_leafOf_12 : decode b_Tree_leafOf 12 = .ok (.aload_n 0, 1) := by decide +kernel
theorem d_Tree_leafOf_13 : decode b_Tree_leafOf 13 = .ok (.getfield 15, 3) := by decide +kernel
theorem d_Tree_leafOf_16 : decode b_Tree_leafOf 16 = .ok (.iload_n 3, 1) := by decide +kernel
theorem d_Tree_leafOf_17 : decode b_Tree_leafOf 17 = .ok (.iaload, 1) := by decide +kernel
theorem d_Tree_leafOf_18 : decode b_Tree_leafOf 18 = .ok (.iconst (-1), 1) := by decide +kernel
theorem d_Tree_leafOf_19 : decode b_Tree_leafOf 19 = .ok (.if_icmp .eq (40), 3) := by decide +kernel
theorem d_Tree_leafOf_22 : decode b_Tree_leafOf 22 = .ok (.lload_n 1, 1) := by decide +kernel
theorem d_Tree_leafOf_23 : decode b_Tree_leafOf 23 = .ok (.aload_n 0, 1) := by decide +kernel
theorem d_Tree_leafOf_24 : decode b_Tree_leafOf 24 = .ok (.getfield 15, 3) := by decide +kernel
theorem d_Tree_leafOf_27 : decode b_Tree_leafOf 27 = .ok (.iload_n 3, 1) := by decide +kernel
theorem d_Tree_leafOf_28 : decode b_Tree_leafOf 28 = .ok (.iaload, 1) := by decide +kernel
theorem d_Tree_leafOf_29 : decode b_Tree_leafOf 29 = .ok (.lushr, 1) := by decide +kernel
theorem d_Tree_leafOf_30 : decode b_Tree_leafOf 30 = .ok (.lconst 1, 1) := by decide +kernel
theorem d_Tree_leafOf_31 : decode b_Tree_leafOf 31 = .ok (.land, 1) := by decide +kernel
theorem d_Tree_leafOf_32 : decode b_Tree_leafOf 32 = .ok (.lconst 0, 1) := by decide +kernel
theorem d_Tree_leafOf_33 : decode b_Tree_leafOf 33 = .ok (.lcmp, 1) := by decide +kernel
theorem d_Tree_leafOf_34 : decode b_Tree_leafOf 34 = .ok (.ifCond .ne (12), 3) := by decide +kernel
theorem d_Tree_leafOf_37 : decode b_Tree_leafOf 37 = .ok (.aload_n 0, 1) := by decide +kernel
theorem d_Tree_leafOf_38 : decode b_Tree_leafOf 38 = .ok (.getfield 18, 3) := by decide +kernel
theorem d_Tree_leafOf_41 : decode b_Tree_leafOf 41 = .ok (.iload_n 3, 1) := by decide +kernel
theorem d_Tree_leafOf_42 : decode b_Tree_leafOf 42 = .ok (.iaload, 1) := by decide +kernel
theorem d_Tree_leafOf_43 : decode b_Tree_leafOf 43 = .ok (.goto (9), 3) := by decide +kernel
theorem d_Tree_leafOf_46 : decode b_Tree_leafOf 46 = .ok (.aload_n 0, 1) := by decide +kernel
theorem d_Tree_leafOf_47 : decode b_Tree_leafOf 47 = .ok (.getfield 21, 3) := by decide +kernel
theorem d_Tree_leafOf_50 : decode b_Tree_leafOf 50 = .ok (.iload_n 3, 1) := by decide +kernel
theorem d_Tree_leafOf_51 : decode b_Tree_leafOf 51 = .ok (.iaload, 1) := by decide +kernel
theorem d_Tree_leafOf_52 : decode b_Tree_leafOf 52 = .ok (.istore_n 3, 1) := by decide +kernel
theorem d_Tree_leafOf_53 : decode b_Tree_leafOf 53 = .ok (.iinc 4 (1), 3) := by decide +kernel
theorem d_Tree_leafOf_56 : decode b_Tree_leafOf 56 = .ok (.goto (-51), 3) := by decide +kernel
theorem d_Tree_leafOf_59 : decode b_Tree_leafOf 59 = .ok (.iload_n 3, 1) := by decide +kernel
theorem d_Tree_leafOf_60 : decode b_Tree_leafOf 60 = .ok (.ireturn, 1) := by decide +kernel
set_option maxHeartbeats 4000000 in
set_option maxRecDepth 100000 in
theorem c_Tree_leafOf_a (l : Launch) {dA : FieldType → ClassId} {D : va_G} {al : Nat → Nat} {ext : mv_Sh} {sk sv : Nat → Nat} (hi : mv_inj (mg dA D al ext)) (σ : mv_H) (w9 : Int64) (hq : Ph 32 (mv_r σ)) (hT : TreeOK 32 512 σ ∨ TreeZ 32 σ) : mv_C l y_Tree_leafOf (Cond.code y_Tree_leafOf b_Tree_leafOf 5 (Option.some Jvm.ClassFile.FieldType.int) :: ma) ({ frames := 0, cells := 0, slots := 0, locals := 0 }) (mg dA D al ext) (mK sk sv) [.ref (al 43), .long w9] σ (mv_Ri (fun v σ1 => σ1 = σ ∧ LeafOK 32 512 σ v)) := by
  refine mv_C.ofV (cc := b_Tree_leafOf) (nL := 5) (ret := (Option.some Jvm.ClassFile.FieldType.int)) (by decide +kernel) rfl hi (Nat.le_of_ble_eq_true rfl) ?_
  intro p e s m below meth c B hNs hr hnm hno
  have lp : ∀ (nn : Nat) (t9 : Int32) (v : Int32) (j : Nat) (qt : 0 ≤ t9.toInt) (qt2 : t9.toInt ≤ 65) (qj : v.toInt = j) (qd : TrL 32 512 σ j t9.toInt), (65 - t9.toInt).toNat < nn → mv_V p l e ({ frames := 0, cells := 0, slots := 0, locals := 0 }) s m ([.ref (al 43), .long w9] : List Value).toArray below meth c (mg dA D al ext) 5 0 0 (mv_Q (mg dA D al ext) below s 0 0 (mv_Ri (fun v σ1 => σ1 = σ ∧ LeafOK 32 512 σ v))) σ 5 [(4, .int t9), (3, .int v), (0, .ref (al 43)), (1, .long w9)] [] := by
    intro nn
    induction nn with
    | zero => intro t9 v j qt qt2 qj qd hm; exact absurd hm (Nat.not_lt_zero _)
    | succ nn ih =>
      intro t9 v j qt qt2 qj qd hm
      refine mv_iload (pc := 5) B d_Tree_leafOf_5 0 rfl ?_
      refine mv_bipush (pc := 7) (v := 64) B d_Tree_leafOf_7 (by decide) ?_
      refine mv_icmp_gt (pc := 9) (tgt := 59) B d_Tree_leafOf_9 rfl (fun h9 => ?_) (fun h9 => ?_)
      · skip
        rw [Int32.lt_iff_toInt_lt] at h9
        simp only [Int32.reduceToInt] at h9
        have hv : LeafOK 32 512 σ v := qd.elim (fun q => by obtain ⟨ops, n, dq, h1, h2, h3, h4, h5, h6, h7, h8⟩ := q; have := (h6 j h7).1; omega) (fun q => leaf_z q.1 (by rw [q.2] at qj; exact qj))
        refine mv_iload_n (pc := 59) B d_Tree_leafOf_59 rfl 1 rfl ?_
        exact mv_iret (pc := 60) B hr rfl d_Tree_leafOf_60 (Nat.le_refl _) (Nat.le_refl _) ⟨_, rfl, rfl, hv⟩
      · skip
        rw [Int32.lt_iff_toInt_lt] at h9
        simp only [Int32.reduceToInt] at h9
        have evv := i32_cl (x := v) (by omega)
        have zj : v.toNatClampNeg = j := by omega
        have hjM : j < 1025 := qd.elim (fun q => by obtain ⟨ops, n, dq, h1, h2, h3, h4, h5, h6, h7, h8⟩ := q; omega) (fun q => by omega)
        refine mv_aload_n (pc := 12) B d_Tree_leafOf_12 rfl 2 rfl ?_
        refine mv_getR (pc := 13) (ci := 8) (C := R_Tree) (T := F_Tree) (N := 5) B 1 rfl rfl (by decide) i_Tree (B.2.2.2.1 _ k_293) rfl (hq _ 1 45 rfl) d_Tree_leafOf_13 ?_
        refine mv_iload_n (pc := 16) B d_Tree_leafOf_16 rfl 1 rfl ?_
        refine mv_iald (pc := 17) B rfl (i32_in (by omega) (by omega)) d_Tree_leafOf_17 ?_
        refine mv_iconst (pc := 18) (v := -1) B d_Tree_leafOf_18 (by decide) ?_
        refine mv_icmp_eq (pc := 19) (tgt := 59) B d_Tree_leafOf_19 rfl (fun h19 => ?_) (fun h19 => ?_)
        · skip
          have hv : LeafOK 32 512 σ v := qd.elim (fun q => leaf_t q qj (by rw [← zj]; exact h19)) (fun q => leaf_z q.1 (by rw [q.2] at qj; exact qj))
          refine mv_iload_n (pc := 59) B d_Tree_leafOf_59 rfl 1 rfl ?_
          exact mv_iret (pc := 60) B hr rfl d_Tree_leafOf_60 (Nat.le_refl _) (Nat.le_refl _) ⟨_, rfl, rfl, hv⟩
        · skip
          have w2 : (t9 + 1).toInt = t9.toInt + 1 := i32_inc (by omega)
          have hl9 := leaf_d 32 512 qd (by rw [← zj]; exact h19)
          refine mv_lload_n (pc := 22) B d_Tree_leafOf_22 rfl 3 rfl ?_
          refine mv_aload_n (pc := 23) B d_Tree_leafOf_23 rfl 2 rfl ?_
          refine mv_getR (pc := 24) (ci := 8) (C := R_Tree) (T := F_Tree) (N := 5) B 1 rfl rfl (by decide) i_Tree (B.2.2.2.1 _ k_293) rfl (hq _ 1 45 rfl) d_Tree_leafOf_24 ?_
          refine mv_iload_n (pc := 27) B d_Tree_leafOf_27 rfl 1 rfl ?_
          refine mv_iald (pc := 28) B rfl (i32_in (by omega) (by omega)) d_Tree_leafOf_28 ?_
          refine mv_lushr (pc := 29) B d_Tree_leafOf_29 ?_
          refine mv_lconst (pc := 30) (v := 1) B d_Tree_leafOf_30 (by decide) ?_
          refine mv_land (pc := 31) B d_Tree_leafOf_31 ?_
          refine mv_lconst (pc := 32) (v := 0) B d_Tree_leafOf_32 (by decide) ?_
          refine mv_lcmp (pc := 33) B d_Tree_leafOf_33 ?_
          refine mv_if_ne (pc := 34) (tgt := 46) B d_Tree_leafOf_34 rfl (fun h34 => ?_) (fun h34 => ?_)
          · skip
            obtain ⟨c9, k1, k2⟩ := hl9.2
            have go := ih (t9 + 1) (mv_a σ 47 v.toNatClampNeg) c9 (by rw [w2]; omega) (by rw [w2]; omega) (by rw [zj]; exact k1) (by rw [w2]; exact k2) (by rw [w2]; omega)
            refine mv_aload_n (pc := 46) B d_Tree_leafOf_46 rfl 2 rfl ?_
            refine mv_getR (pc := 47) (ci := 8) (C := R_Tree) (T := F_Tree) (N := 5) B 3 rfl rfl (by decide) i_Tree (B.2.2.2.1 _ k_296) rfl (hq _ 3 47 rfl) d_Tree_leafOf_47 ?_
            refine mv_iload_n (pc := 50) B d_Tree_leafOf_50 rfl 1 rfl ?_
            refine mv_iald (pc := 51) B rfl (i32_in (by omega) (by omega)) d_Tree_leafOf_51 ?_
            refine mv_istore_n (pc := 52) B d_Tree_leafOf_52 rfl (by decide) rfl ?_
            refine mv_iinc (pc := 53) (j := 1) (v := 1) B d_Tree_leafOf_53 rfl (by decide) (by decide) rfl ?_
            refine mv_goto (pc := 56) (tgt := 5) B d_Tree_leafOf_56 rfl ?_
            refine mv_lpick [0, 1, 2, 3] rfl ?_
            exact go
          · skip
            obtain ⟨c9, k1, k2⟩ := hl9.1
            have go := ih (t9 + 1) (mv_a σ 46 v.toNatClampNeg) c9 (by rw [w2]; omega) (by rw [w2]; omega) (by rw [zj]; exact k1) (by rw [w2]; exact k2) (by rw [w2]; omega)
            refine mv_aload_n (pc := 37) B d_Tree_leafOf_37 rfl 2 rfl ?_
            refine mv_getR (pc := 38) (ci := 8) (C := R_Tree) (T := F_Tree) (N := 5) B 2 rfl rfl (by decide) i_Tree (B.2.2.2.1 _ k_294) rfl (hq _ 2 46 rfl) d_Tree_leafOf_38 ?_
            refine mv_iload_n (pc := 41) B d_Tree_leafOf_41 rfl 1 rfl ?_
            refine mv_iald (pc := 42) B rfl (i32_in (by omega) (by omega)) d_Tree_leafOf_42 ?_
            refine mv_goto (pc := 43) (tgt := 52) B d_Tree_leafOf_43 rfl ?_
            refine mv_istore_n (pc := 52) B d_Tree_leafOf_52 rfl (by decide) rfl ?_
            refine mv_iinc (pc := 53) (j := 1) (v := 1) B d_Tree_leafOf_53 rfl (by decide) (by decide) rfl ?_
            refine mv_goto (pc := 56) (tgt := 5) B d_Tree_leafOf_56 rfl ?_
            refine mv_lpick [0, 1, 2, 3] rfl ?_
            exact go
  refine mv_iconst (pc := 0) (v := 0) B d_Tree_leafOf_0 (by decide) ?_
  refine mv_istore_n (pc := 1) B d_Tree_leafOf_1 rfl (by decide) rfl ?_
  refine mv_iconst (pc := 2) (v := 0) B d_Tree_leafOf_2 (by decide) ?_
  refine mv_istore (pc := 3) B d_Tree_leafOf_3 (by decide) rfl ?_
  refine mv_lpick [0, 1, 2, 3] rfl ?_
  exact lp _ _ _ 0 (by decide) (by decide) rfl (hT.elim (fun q => Or.inl (leaf_0 q)) (fun q => Or.inr ⟨q, rfl⟩)) (Nat.lt_succ_self _)
set_option maxHeartbeats 4000000 in
set_option maxRecDepth 100000 in
theorem c_Tree_leafOf_b (l : Launch) {dA : FieldType → ClassId} {D : va_G} {al : Nat → Nat} {ext : mv_Sh} {sk sv : Nat → Nat} (hi : mv_inj (mg dA D al ext)) (σ : mv_H) (w9 : Int64) (hq : Ph 48 (mv_r σ)) (hT : TreeOK 48 512 σ ∨ TreeZ 48 σ) : mv_C l y_Tree_leafOf (Cond.code y_Tree_leafOf b_Tree_leafOf 5 (Option.some Jvm.ClassFile.FieldType.int) :: ma) ({ frames := 0, cells := 0, slots := 0, locals := 0 }) (mg dA D al ext) (mK sk sv) [.ref (al 59), .long w9] σ (mv_Ri (fun v σ1 => σ1 = σ ∧ LeafOK 48 512 σ v)) := by
  refine mv_C.ofV (cc := b_Tree_leafOf) (nL := 5) (ret := (Option.some Jvm.ClassFile.FieldType.int)) (by decide +kernel) rfl hi (Nat.le_of_ble_eq_true rfl) ?_
  intro p e s m below meth c B hNs hr hnm hno
  have lp : ∀ (nn : Nat) (t9 : Int32) (v : Int32) (j : Nat) (qt : 0 ≤ t9.toInt) (qt2 : t9.toInt ≤ 65) (qj : v.toInt = j) (qd : TrL 48 512 σ j t9.toInt), (65 - t9.toInt).toNat < nn → mv_V p l e ({ frames := 0, cells := 0, slots := 0, locals := 0 }) s m ([.ref (al 59), .long w9] : List Value).toArray below meth c (mg dA D al ext) 5 0 0 (mv_Q (mg dA D al ext) below s 0 0 (mv_Ri (fun v σ1 => σ1 = σ ∧ LeafOK 48 512 σ v))) σ 5 [(4, .int t9), (3, .int v), (0, .ref (al 59)), (1, .long w9)] [] := by
    intro nn
    induction nn with
    | zero => intro t9 v j qt qt2 qj qd hm; exact absurd hm (Nat.not_lt_zero _)
    | succ nn ih =>
      intro t9 v j qt qt2 qj qd hm
      refine mv_iload (pc := 5) B d_Tree_leafOf_5 0 rfl ?_
      refine mv_bipush (pc := 7) (v := 64) B d_Tree_leafOf_7 (by decide) ?_
      refine mv_icmp_gt (pc := 9) (tgt := 59) B d_Tree_leafOf_9 rfl (fun h9 => ?_) (fun h9 => ?_)
      · skip
        rw [Int32.lt_iff_toInt_lt] at h9
        simp only [Int32.reduceToInt] at h9
        have hv : LeafOK 48 512 σ v := qd.elim (fun q => by obtain ⟨ops, n, dq, h1, h2, h3, h4, h5, h6, h7, h8⟩ := q; have := (h6 j h7).1; omega) (fun q => leaf_z q.1 (by rw [q.2] at qj; exact qj))
        refine mv_iload_n (pc := 59) B d_Tree_leafOf_59 rfl 1 rfl ?_
        exact mv_iret (pc := 60) B hr rfl d_Tree_leafOf_60 (Nat.le_refl _) (Nat.le_refl _) ⟨_, rfl, rfl, hv⟩
      · skip
        rw [Int32.lt_iff_toInt_lt] at h9
        simp only [Int32.reduceToInt] at h9
        have evv := i32_cl (x := v) (by omega)
        have zj : v.toNatClampNeg = j := by omega
        have hjM : j < 1025 := qd.elim (fun q => by obtain ⟨ops, n, dq, h1, h2, h3, h4, h5, h6, h7, h8⟩ := q; omega) (fun q => by omega)
        refine mv_aload_n (pc := 12) B d_Tree_leafOf_12 rfl 2 rfl ?_
        refine mv_getR (pc := 13) (ci := 8) (C := R_Tree) (T := F_Tree) (N := 5) B 1 rfl rfl (by decide) i_Tree (B.2.2.2.1 _ k_293) rfl (hq _ 1 61 rfl) d_Tree_leafOf_13 ?_
        refine mv_iload_n (pc := 16) B d_Tree_leafOf_16 rfl 1 rfl ?_
        refine mv_iald (pc := 17) B rfl (i32_in (by omega) (by omega)) d_Tree_leafOf_17 ?_
        refine mv_iconst (pc := 18) (v := -1) B d_Tree_leafOf_18 (by decide) ?_
        refine mv_icmp_eq (pc := 19) (tgt := 59) B d_Tree_leafOf_19 rfl (fun h19 => ?_) (fun h19 => ?_)
        · skip
          have hv : LeafOK 48 512 σ v := qd.elim (fun q => leaf_t q qj (by rw [← zj]; exact h19)) (fun q => leaf_z q.1 (by rw [q.2] at qj; exact qj))
          refine mv_iload_n (pc := 59) B d_Tree_leafOf_59 rfl 1 rfl ?_
          exact mv_iret (pc := 60) B hr rfl d_Tree_leafOf_60 (Nat.le_refl _) (Nat.le_refl _) ⟨_, rfl, rfl, hv⟩
        · skip
          have w2 : (t9 + 1).toInt = t9.toInt + 1 := i32_inc (by omega)
          have hl9 := leaf_d 48 512 qd (by rw [← zj]; exact h19)
          refine mv_lload_n (pc := 22) B d_Tree_leafOf_22 rfl 3 rfl ?_
          refine mv_aload_n (pc := 23) B d_Tree_leafOf_23 rfl 2 rfl ?_
          refine mv_getR (pc := 24) (ci := 8) (C := R_Tree) (T := F_Tree) (N := 5) B 1 rfl rfl (by decide) i_Tree (B.2.2.2.1 _ k_293) rfl (hq _ 1 61 rfl) d_Tree_leafOf_24 ?_
          refine mv_iload_n (pc := 27) B d_Tree_leafOf_27 rfl 1 rfl ?_
          refine mv_iald (pc := 28) B rfl (i32_in (by omega) (by omega)) d_Tree_leafOf_28 ?_
          refine mv_lushr (pc := 29) B d_Tree_leafOf_29 ?_
          refine mv_lconst (pc := 30) (v := 1) B d_Tree_leafOf_30 (by decide) ?_
          refine mv_land (pc := 31) B d_Tree_leafOf_31 ?_
          refine mv_lconst (pc := 32) (v := 0) B d_Tree_leafOf_32 (by decide) ?_
          refine mv_lcmp (pc := 33) B d_Tree_leafOf_33 ?_
          refine mv_if_ne (pc := 34) (tgt := 46) B d_Tree_leafOf_34 rfl (fun h34 => ?_) (fun h34 => ?_)
          · skip
            obtain ⟨c9, k1, k2⟩ := hl9.2
            have go := ih (t9 + 1) (mv_a σ 63 v.toNatClampNeg) c9 (by rw [w2]; omega) (by rw [w2]; omega) (by rw [zj]; exact k1) (by rw [w2]; exact k2) (by rw [w2]; omega)
            refine mv_aload_n (pc := 46) B d_Tree_leafOf_46 rfl 2 rfl ?_
            refine mv_getR (pc := 47) (ci := 8) (C := R_Tree) (T := F_Tree) (N := 5) B 3 rfl rfl (by decide) i_Tree (B.2.2.2.1 _ k_296) rfl (hq _ 3 63 rfl) d_Tree_leafOf_47 ?_
            refine mv_iload_n (pc := 50) B d_Tree_leafOf_50 rfl 1 rfl ?_
            refine mv_iald (pc := 51) B rfl (i32_in (by omega) (by omega)) d_Tree_leafOf_51 ?_
            refine mv_istore_n (pc := 52) B d_Tree_leafOf_52 rfl (by decide) rfl ?_
            refine mv_iinc (pc := 53) (j := 1) (v := 1) B d_Tree_leafOf_53 rfl (by decide) (by decide) rfl ?_
            refine mv_goto (pc := 56) (tgt := 5) B d_Tree_leafOf_56 rfl ?_
            refine mv_lpick [0, 1, 2, 3] rfl ?_
            exact go
          · skip
            obtain ⟨c9, k1, k2⟩ := hl9.1
            have go := ih (t9 + 1) (mv_a σ 62 v.toNatClampNeg) c9 (by rw [w2]; omega) (by rw [w2]; omega) (by rw [zj]; exact k1) (by rw [w2]; exact k2) (by rw [w2]; omega)
            refine mv_aload_n (pc := 37) B d_Tree_leafOf_37 rfl 2 rfl ?_
            refine mv_getR (pc := 38) (ci := 8) (C := R_Tree) (T := F_Tree) (N := 5) B 2 rfl rfl (by decide) i_Tree (B.2.2.2.1 _ k_294) rfl (hq _ 2 62 rfl) d_Tree_leafOf_38 ?_
            refine mv_iload_n (pc := 41) B d_Tree_leafOf_41 rfl 1 rfl ?_
            refine mv_iald (pc := 42) B rfl (i32_in (by omega) (by omega)) d_Tree_leafOf_42 ?_
            refine mv_goto (pc := 43) (tgt := 52) B d_Tree_leafOf_43 rfl ?_
            refine mv_istore_n (pc := 52) B d_Tree_leafOf_52 rfl (by decide) rfl ?_
            refine mv_iinc (pc := 53) (j := 1) (v := 1) B d_Tree_leafOf_53 rfl (by decide) (by decide) rfl ?_
            refine mv_goto (pc := 56) (tgt := 5) B d_Tree_leafOf_56 rfl ?_
            refine mv_lpick [0, 1, 2, 3] rfl ?_
            exact go
  refine mv_iconst (pc := 0) (v := 0) B d_Tree_leafOf_0 (by decide) ?_
  refine mv_istore_n (pc := 1) B d_Tree_leafOf_1 rfl (by decide) rfl ?_
  refine mv_iconst (pc := 2) (v := 0) B d_Tree_leafOf_2 (by decide) ?_
  refine mv_istore (pc := 3) B d_Tree_leafOf_3 (by decide) rfl ?_
  refine mv_lpick [0, 1, 2, 3] rfl ?_
  exact lp _ _ _ 0 (by decide) (by decide) rfl (hT.elim (fun q => Or.inl (leaf_0 q)) (fun q => Or.inr ⟨q, rfl⟩)) (Nat.lt_succ_self _)
set_option maxHeartbeats 4000000 in
set_option maxRecDepth 100000 in
theorem c_Tree_leafOf_c (l : Launch) {dA : FieldType → ClassId} {D : va_G} {al : Nat → Nat} {sk sv : Nat → Nat} (hi : mv_inj (mg dA D al me)) (σ : mv_H) (w9 : Int64) (hq : Ph 145 (mv_r σ)) (hT : TreeOK 145 48 σ ∨ TreeZ 145 σ) : mv_C l y_Tree_leafOf (Cond.code y_Tree_leafOf b_Tree_leafOf 5 (Option.some Jvm.ClassFile.FieldType.int) :: ma) ({ frames := 0, cells := 0, slots := 0, locals := 0 }) (mg dA D al me) (mK sk sv) [.ref (al 156), .long w9] σ (mv_Ri (fun v σ1 => σ1 = σ ∧ LeafOK 145 48 σ v)) := by
  refine mv_C.ofV (cc := b_Tree_leafOf) (nL := 5) (ret := (Option.some Jvm.ClassFile.FieldType.int)) (by decide +kernel) rfl hi (Nat.le_of_ble_eq_true rfl) ?_
  intro p e s m below meth c B hNs hr hnm hno
  have lp : ∀ (nn : Nat) (t9 : Int32) (v : Int32) (j : Nat) (qt : 0 ≤ t9.toInt) (qt2 : t9.toInt ≤ 65) (qj : v.toInt = j) (qd : TrL 145 48 σ j t9.toInt), (65 - t9.toInt).toNat < nn → mv_V p l e ({ frames := 0, cells := 0, slots := 0, locals := 0 }) s m ([.ref (al 156), .long w9] : List Value).toArray below meth c (mg dA D al me) 5 0 0 (mv_Q (mg dA D al me) below s 0 0 (mv_Ri (fun v σ1 => σ1 = σ ∧ LeafOK 145 48 σ v))) σ 5 [(4, .int t9), (3, .int v), (0, .ref (al 156)), (1, .long w9)] [] := by
    intro nn
    induction nn with
    | zero => intro t9 v j qt qt2 qj qd hm; exact absurd hm (Nat.not_lt_zero _)
    | succ nn ih =>
      intro t9 v j qt qt2 qj qd hm
      refine mv_iload (pc := 5) B d_Tree_leafOf_5 0 rfl ?_
      refine mv_bipush (pc := 7) (v := 64) B d_Tree_leafOf_7 (by decide) ?_
      refine mv_icmp_gt (pc := 9) (tgt := 59) B d_Tree_leafOf_9 rfl (fun h9 => ?_) (fun h9 => ?_)
      · skip
        rw [Int32.lt_iff_toInt_lt] at h9
        simp only [Int32.reduceToInt] at h9
        have hv : LeafOK 145 48 σ v := qd.elim (fun q => by obtain ⟨ops, n, dq, h1, h2, h3, h4, h5, h6, h7, h8⟩ := q; have := (h6 j h7).1; omega) (fun q => leaf_z q.1 (by rw [q.2] at qj; exact qj))
        refine mv_iload_n (pc := 59) B d_Tree_leafOf_59 rfl 1 rfl ?_
        exact mv_iret (pc := 60) B hr rfl d_Tree_leafOf_60 (Nat.le_refl _) (Nat.le_refl _) ⟨_, rfl, rfl, hv⟩
      · skip
        rw [Int32.lt_iff_toInt_lt] at h9
        simp only [Int32.reduceToInt] at h9
        have evv := i32_cl (x := v) (by omega)
        have zj : v.toNatClampNeg = j := by omega
        have hjM : j < 97 := qd.elim (fun q => by obtain ⟨ops, n, dq, h1, h2, h3, h4, h5, h6, h7, h8⟩ := q; omega) (fun q => by omega)
        refine mv_aload_n (pc := 12) B d_Tree_leafOf_12 rfl 2 rfl ?_
        refine mv_getR (pc := 13) (ci := 8) (C := R_Tree) (T := F_Tree) (N := 5) B 1 rfl rfl (by decide) i_Tree (B.2.2.2.1 _ k_293) rfl (hq _ 1 158 rfl) d_Tree_leafOf_13 ?_
        refine mv_iload_n (pc := 16) B d_Tree_leafOf_16 rfl 1 rfl ?_
        refine mv_iald (pc := 17) B rfl (i32_in (by omega) (by omega)) d_Tree_leafOf_17 ?_
        refine mv_iconst (pc := 18) (v := -1) B d_Tree_leafOf_18 (by decide) ?_
        refine mv_icmp_eq (pc := 19) (tgt := 59) B d_Tree_leafOf_19 rfl (fun h19 => ?_) (fun h19 => ?_)
        · skip
          have hv : LeafOK 145 48 σ v := qd.elim (fun q => leaf_t q qj (by rw [← zj]; exact h19)) (fun q => leaf_z q.1 (by rw [q.2] at qj; exact qj))
          refine mv_iload_n (pc := 59) B d_Tree_leafOf_59 rfl 1 rfl ?_
          exact mv_iret (pc := 60) B hr rfl d_Tree_leafOf_60 (Nat.le_refl _) (Nat.le_refl _) ⟨_, rfl, rfl, hv⟩
        · skip
          have w2 : (t9 + 1).toInt = t9.toInt + 1 := i32_inc (by omega)
          have hl9 := leaf_d 145 48 qd (by rw [← zj]; exact h19)
          refine mv_lload_n (pc := 22) B d_Tree_leafOf_22 rfl 3 rfl ?_
          refine mv_aload_n (pc := 23) B d_Tree_leafOf_23 rfl 2 rfl ?_
          refine mv_getR (pc := 24) (ci := 8) (C := R_Tree) (T := F_Tree) (N := 5) B 1 rfl rfl (by decide) i_Tree (B.2.2.2.1 _ k_293) rfl (hq _ 1 158 rfl) d_Tree_leafOf_24 ?_
          refine mv_iload_n (pc := 27) B d_Tree_leafOf_27 rfl 1 rfl ?_
          refine mv_iald (pc := 28) B rfl (i32_in (by omega) (by omega)) d_Tree_leafOf_28 ?_
          refine mv_lushr (pc := 29) B d_Tree_leafOf_29 ?_
          refine mv_lconst (pc := 30) (v := 1) B d_Tree_leafOf_30 (by decide) ?_
          refine mv_land (pc := 31) B d_Tree_leafOf_31 ?_
          refine mv_lconst (pc := 32) (v := 0) B d_Tree_leafOf_32 (by decide) ?_
          refine mv_lcmp (pc := 33) B d_Tree_leafOf_33 ?_
          refine mv_if_ne (pc := 34) (tgt := 46) B d_Tree_leafOf_34 rfl (fun h34 => ?_) (fun h34 => ?_)
          · skip
            obtain ⟨c9, k1, k2⟩ := hl9.2
            have go := ih (t9 + 1) (mv_a σ 160 v.toNatClampNeg) c9 (by rw [w2]; omega) (by rw [w2]; omega) (by rw [zj]; exact k1) (by rw [w2]; exact k2) (by rw [w2]; omega)
            refine mv_aload_n (pc := 46) B d_Tree_leafOf_46 rfl 2 rfl ?_
            refine mv_getR (pc := 47) (ci := 8) (C := R_Tree) (T := F_Tree) (N := 5) B 3 rfl rfl (by decide) i_Tree (B.2.2.2.1 _ k_296) rfl (hq _ 3 160 rfl) d_Tree_leafOf_47 ?_
            refine mv_iload_n (pc := 50) B d_Tree_leafOf_50 rfl 1 rfl ?_
            refine mv_iald (pc := 51) B rfl (i32_in (by omega) (by omega)) d_Tree_leafOf_51 ?_
            refine mv_istore_n (pc := 52) B d_Tree_leafOf_52 rfl (by decide) rfl ?_
            refine mv_iinc (pc := 53) (j := 1) (v := 1) B d_Tree_leafOf_53 rfl (by decide) (by decide) rfl ?_
            refine mv_goto (pc := 56) (tgt := 5) B d_Tree_leafOf_56 rfl ?_
            refine mv_lpick [0, 1, 2, 3] rfl ?_
            exact go
          · skip
            obtain ⟨c9, k1, k2⟩ := hl9.1
            have go := ih (t9 + 1) (mv_a σ 159 v.toNatClampNeg) c9 (by rw [w2]; omega) (by rw [w2]; omega) (by rw [zj]; exact k1) (by rw [w2]; exact k2) (by rw [w2]; omega)
            refine mv_aload_n (pc := 37) B d_Tree_leafOf_37 rfl 2 rfl ?_
            refine mv_getR (pc := 38) (ci := 8) (C := R_Tree) (T := F_Tree) (N := 5) B 2 rfl rfl (by decide) i_Tree (B.2.2.2.1 _ k_294) rfl (hq _ 2 159 rfl) d_Tree_leafOf_38 ?_
            refine mv_iload_n (pc := 41) B d_Tree_leafOf_41 rfl 1 rfl ?_
            refine mv_iald (pc := 42) B rfl (i32_in (by omega) (by omega)) d_Tree_leafOf_42 ?_
            refine mv_goto (pc := 43) (tgt := 52) B d_Tree_leafOf_43 rfl ?_
            refine mv_istore_n (pc := 52) B d_Tree_leafOf_52 rfl (by decide) rfl ?_
            refine mv_iinc (pc := 53) (j := 1) (v := 1) B d_Tree_leafOf_53 rfl (by decide) (by decide) rfl ?_
            refine mv_goto (pc := 56) (tgt := 5) B d_Tree_leafOf_56 rfl ?_
            refine mv_lpick [0, 1, 2, 3] rfl ?_
            exact go
  refine mv_iconst (pc := 0) (v := 0) B d_Tree_leafOf_0 (by decide) ?_
  refine mv_istore_n (pc := 1) B d_Tree_leafOf_1 rfl (by decide) rfl ?_
  refine mv_iconst (pc := 2) (v := 0) B d_Tree_leafOf_2 (by decide) ?_
  refine mv_istore (pc := 3) B d_Tree_leafOf_3 (by decide) rfl ?_
  refine mv_lpick [0, 1, 2, 3] rfl ?_
  exact lp _ _ _ 0 (by decide) (by decide) rfl (hT.elim (fun q => Or.inl (leaf_0 q)) (fun q => Or.inr ⟨q, rfl⟩)) (Nat.lt_succ_self _)
