/-! the reference's Book: the readers of expressions -/
section XTY
variable {B len th d n a1 n' b1 b2 : Nat} {σ S T : mv_H} {L : List (Nat × Nat × Nat)}
theorem XT.w {lo hi R R' : Nat} (h : XT B len th σ n a1 S d n' b1 b2 ((lo, hi, R) :: L)) (hR : R ≤ R') : XT B len th σ n a1 S d n' b1 b2 [(lo, hi, R')] := ⟨h.1, XG.nil.cons (h.2 _ List.mem_cons_self).1 (fun z => (h.2.at 0 rfl z).up hR)⟩
theorem XT.val {k : Nat} {v : Int64} (h : XT B len th σ n a1 S d n' b1 b2 L) : XT B len th σ n a1 (mv_sb S (B + 24) k v) d n' b1 b2 L := ⟨h.1.val, h.2.xf (XF.rf.sb rfl) (Nat.le_refl _) (fun z => z)⟩
theorem XT.link {lo mid R k : Nat} {v : Int32} (h : XT B len th σ n a1 S d n' b1 b2 ((mid, n', R) :: (lo, mid, R) :: L)) (g1 : lo < mid) (g2 : mid < n') (hk : k + 1 = mid) (hv : v.toInt + 1 = n') (hn : n ≤ k) : XT B len th σ n a1 (mv_sa S (B + 22) k v) d n' b1 b2 [(lo, n', R)] := ⟨h.1.fol hn, XG.nil.cons (Nat.le_refl _) (fun z => XR.link (h.2.at 1 rfl z) (h.2.at 0 rfl z) g1 g2 hk hv)⟩
theorem XT.nodeE {s x y z w : Int32} {lo R : Nat} (h : XT B len th σ n a1 S d n' b1 b2 L) (e : T = nd B S s x y z w) (hb : n' + 1 + a1 ≤ n + b1) (hn : n ≤ a1) (hx : (mv_i S B 38).toInt ≤ 0 → XR B th (nd B S s x y z w) lo (n' + 1) R) : XT B len th σ n a1 T d (n' + 1) b1 b2 [(lo, n' + 1, R)] := by
  subst e
  exact h.node hb hn hx
end XTY

def y_Book_literal : MethodName := ⟨"MachineLoomModel$Book", "literal", "()I"⟩
abbrev b_Book_literal : ByteArray := prog_15_method_36_code
theorem kc_Book_literal : Cond.code y_Book_literal b_Book_literal 10 (Option.some Jvm.ClassFile.FieldType.int) ∈ ma := ma_of (tb_10 _ (List.mem_of_getElem? (i := 108) rfl)) rfl
theorem k_1895 : (Jvm.Cond.fieldLink "MachineLoomModel$Book" (100 : Nat) "MachineLoomModel$Book" "value" "[J") ∈ ma := ma_of (tb_8 _ (List.mem_of_getElem? (i := 215) rfl)) rfl
theorem k_2184 : (Jvm.Cond.constantLong "MachineLoomModel$Book" (306 : Nat) (64 : Int64)) ∈ ma := ma_of (tb_10 _ (List.mem_of_getElem? (i := 24) rfl)) rfl
theorem d_Book_literal_0 : decode b_Book_literal 0 = .ok (.aload_n 0, 1) := by decide +kernel
theorem d_Book_literal_1 : decode b_Book_literal 1 = .ok (.getfield 154, 3) := by decide +kernel
theorem d_Book_literal_4 : decode b_Book_literal 4 = .ok (.lstore_n 1, 1) := by decide +kernel
theorem d_Book_literal_5 : decode b_Book_literal 5 = .ok (.aload_n 0, 1) := by decide +kernel
theorem d_Book_literal_6 : decode b_Book_literal 6 = .ok (.getfield 174, 3) := by decide +kernel
theorem d_Book_literal_9 : decode b_Book_literal 9 = .ok (.istore_n 3, 1) := by decide +kernel
theorem d_Book_literal_10 : decode b_Book_literal 10 = .ok (.aload_n 0, 1) := by decide +kernel
theorem d_Book_literal_11 : decode b_Book_literal 11 = .ok (.invokevirtual 203, 3) := by decide +kernel
theorem d_Book_literal_14 : decode b_Book_literal 14 = .ok (.aload_n 0, 1) := by decide +kernel
theorem d_Book_literal_15 : decode b_Book_literal 15 = .ok (.bipush 39, 2) := by decide +kernel
theorem d_Book_literal_17 : decode b_Book_literal 17 = .ok (.invokevirtual 259, 3) := by decide +kernel
theorem d_Book_literal_20 : decode b_Book_literal 20 = .ok (.aload_n 0, 1) := by decide +kernel
theorem d_Book_literal_21 : decode b_Book_literal 21 = .ok (.getfield 154, 3) := by decide +kernel
theorem d_Book_literal_24 : decode b_Book_literal 24 = .ok (.lstore 4, 2) := by decide +kernel
theorem d_Book_literal_26 : decode b_Book_literal 26 = .ok (.aload_n 0, 1) := by decide +kernel
theorem d_Book_literal_27 : decode b_Book_literal 27 = .ok (.getfield 174, 3) := by decide +kernel
theorem d_Book_literal_30 : decode b_Book_literal 30 = .ok (.istore 6, 2) := by decide +kernel
theorem d_Book_literal_32 : decode b_Book_literal 32 = .ok (.aload_n 0, 1) := by decide +kernel
theorem d_Book_literal_33 : decode b_Book_literal 33 = .ok (.iconst 2, 1) := by decide +kernel
theorem d_Book_literal_34 : decode b_Book_literal 34 = .ok (.invokevirtual 259, 3) := by decide +kernel
theorem d_Book_literal_37 : decode b_Book_literal 37 = .ok (.lload_n 1, 1) := by decide +kernel
theorem d_Book_literal_38 : decode b_Book_literal 38 = .ok (.lconst 1, 1) := by decide +kernel
theorem d_Book_literal_39 : decode b_Book_literal 39 = .ok (.ldc2_w 306, 3) := by decide +kernel
theorem d_Book_literal_42 : decode b_Book_literal 42 = .ok (.invokestatic 296, 3) := by decide +kernel
theorem d_Book_literal_45 : decode b_Book_literal 45 = .ok (.istore 7, 2) := by decide +kernel
theorem d_Book_literal_47 : decode b_Book_literal 47 = .ok (.iload 7, 2) := by decide +kernel
theorem d_Book_literal_49 : decode b_Book_literal 49 = .ok (.ifCond .ne (9), 3) := by decide +kernel
theorem d_Book_literal_52 : decode b_Book_literal 52 = .ok (.aload_n 0, 1) := by decide +kernel
theorem d_Book_literal_53 : decode b_Book_literal 53 = .ok (.iconst 3, 1) := by decide +kernel
theorem d_Book_literal_54 : decode b_Book_literal 54 = .ok (.iload_n 3, 1) := by decide +kernel
theorem d_Book_literal_55 : decode b_Book_literal 55 = .ok (.invokevirtual 267, 3) := by decide +kernel
theorem d_Book_literal_58 : decode b_Book_literal 58 = .ok (.iload 7, 2) := by decide +kernel
theorem d_Book_literal_60 : decode b_Book_literal 60 = .ok (.ifCond .eq (25), 3) := by decide +kernel
theorem d_Book_literal_63 : decode b_Book_literal 63 = .ok (.lload_n 1, 1) := by decide +kernel
theorem d_Book_literal_64 : decode b_Book_literal 64 = .ok (.ldc2_w 306, 3) := by decide +kernel
theorem d_Book_literal_67 : decode b_Book_literal 67 = .ok (.lcmp, 1) := by decide +kernel
theorem d_Book_literal_68 : decode b_Book_literal 68 = .ok (.ifCond .eq (13), 3) := by decide +kernel
theorem d_Book_literal_71 : decode b_Book_literal 71 = .ok (.lload 4, 2) := by decide +kernel
theorem d_Book_literal_73 : decode b_Book_literal 73 = .ok (.lload_n 1, 1) := by decide +kernel
theorem d_Book_literal_74 : decode b_Book_literal 74 = .ok (.l2i, 1) := by decide +kernel
theorem d_Book_literal_75 : decode b_Book_literal 75 = .ok (.lushr, 1) := by decide +kernel
theorem d_Book_literal_76 : decode b_Book_literal 76 = .ok (.lconst 0, 1) := by decide +kernel
theorem d_Book_literal_77 : decode b_Book_literal 77 = .ok (.lcmp, 1) := by decide +kernel
theorem d_Book_literal_78 : decode b_Book_literal 78 = .ok (.ifCond .ne (7), 3) := by decide +kernel
theorem d_Book_literal_81 : decode b_Book_literal 81 = .ok (.iconst 1, 1) := by decide +kernel
theorem d_Book_literal_82 : decode b_Book_literal 82 = .ok (.goto (4), 3) := by decide +kernel
theorem d_Book_literal_85 : decode b_Book_literal 85 = .ok (.iconst 0, 1) := by decide +kernel
theorem d_Book_literal_86 : decode b_Book_literal 86 = .ok (.istore 8, 2) := by decide +kernel
theorem d_Book_literal_88 : decode b_Book_literal 88 = .ok (.iload 7, 2) := by decide +kernel
theorem d_Book_literal_90 : decode b_Book_literal 90 = .ok (.ifCond .eq (15), 3) := by decide +kernel
theorem d_Book_literal_93 : decode b_Book_literal 93 = .ok (.iload 8, 2) := by decide +kernel
theorem d_Book_literal_95 : decode b_Book_literal 95 = .ok (.ifCond .ne (10), 3) := by decide +kernel
theorem d_Book_literal_98 : decode b_Book_literal 98 = .ok (.aload_n 0, 1) := by decide +kernel
theorem d_Book_literal_99 : decode b_Book_literal 99 = .ok (.iconst 3, 1) := by decide +kernel
theorem d_Book_literal_100 : decode b_Book_literal 100 = .ok (.iload 6, 2) := by decide +kernel
theorem d_Book_literal_102 : decode b_Book_literal 102 = .ok (.invokevirtual 267, 3) := by decide +kernel
theorem d_Book_literal_105 : decode b_Book_literal 105 = .ok (.aload_n 0, 1) := by decide +kernel
theorem d_Book_literal_106 : decode b_Book_literal 106 = .ok (.iconst 1, 1) := by decide +kernel
theorem d_Book_literal_107 : decode b_Book_literal 107 = .ok (.iconst 0, 1) := by decide +kernel
theorem d_Book_literal_108 : decode b_Book_literal 108 = .ok (.iconst 0, 1) := by decide +kernel
theorem d_Book_literal_109 : decode b_Book_literal 109 = .ok (.iconst 0, 1) := by decide +kernel
theorem d_Book_literal_110 : decode b_Book_literal 110 = .ok (.iload 8, 2) := by decide +kernel
theorem d_Book_literal_112 : decode b_Book_literal 112 = .ok (.ifCond .eq (8), 3) := by decide +kernel
theorem d_Book_literal_115 : decode b_Book_literal 115 = .ok (.lload_n 1, 1) := by decide +kernel
theorem d_Book_literal_116 : decode b_Book_literal 116 = .ok (.l2i, 1) := by decide +kernel
theorem d_Book_literal_117 : decode b_Book_literal 117 = .ok (.goto (4), 3) := by decide +kernel
theorem d_Book_literal_120 : decode b_Book_literal 120 = .ok (.iconst 0, 1) := by decide +kernel
theorem d_Book_literal_121 : decode b_Book_literal 121 = .ok (.invokevirtual 271, 3) := by decide +kernel
theorem d_Book_literal_124 : decode b_Book_literal 124 = .ok (.istore 9, 2) := by decide +kernel
theorem d_Book_literal_126 : decode b_Book_literal 126 = .ok (.aload_n 0, 1) := by decide +kernel
theorem d_Book_literal_127 : decode b_Book_literal 127 = .ok (.getfield 100, 3) := by decide +kernel
theorem d_Book_literal_130 : decode b_Book_literal 130 = .ok (.iload 9, 2) := by decide +kernel
theorem d_Book_literal_132 : decode b_Book_literal 132 = .ok (.lload 4, 2) := by decide +kernel
theorem d_Book_literal_134 : decode b_Book_literal 134 = .ok (.lastore, 1) := by decide +kernel
theorem d_Book_literal_135 : decode b_Book_literal 135 = .ok (.iload 9, 2) := by decide +kernel
theorem d_Book_literal_137 : decode b_Book_literal 137 = .ok (.ireturn, 1) := by decide +kernel
set_option maxHeartbeats 4000000 in
set_option maxRecDepth 100000 in
theorem c_Book_literal_x (l : Launch) {dA : FieldType → ClassId} {D : va_G} {al : Nat → Nat} {ext : mv_Sh} {sk sv : Nat → Nat} (hi : mv_inj (mg dA D al ext)) (σ : mv_H) (f len th d n a1 a2 : Nat) (hf : d + f = 61) (hP : PS 74 len th d n a1 a2 σ) (hk : mv_i σ 74 4 = 2) : mv_C l y_Book_literal (Cond.code y_Book_literal b_Book_literal 10 (Option.some Jvm.ClassFile.FieldType.int) :: ma) ({ frames := 14 * f + 10, cells := 0, slots := 0, locals := 500 * f + 400 }) (mg dA D al ext) (mK sk sv) [.ref (al 74)] σ (mv_Ui (XO 74 len th d n a1 (10 * f) σ) ("MachineLoomModel$Book$Wrong", al 107) (BF 74 σ)) := by
  refine mv_C.ofV (cc := b_Book_literal) (nL := 10) (ret := (Option.some Jvm.ClassFile.FieldType.int)) (by decide +kernel) rfl hi (Nat.le_of_ble_eq_true rfl) ?_
  intro p e s m below meth c B hNs hr hnm hno
  have hS := XT.rf hP
  have hn0 := hP.le.1
  refine mv_aload_n (pc := 0) B d_Book_literal_0 rfl 0 rfl ?_
  refine mv_getL (pc := 1) (ci := 12) (C := R_Book) (T := F_Book) (N := 65) B 9 rfl rfl (by decide) i_Book (B.2.2.2.1 _ k_1852) rfl d_Book_literal_1 ?_
  refine mv_lstore_n (pc := 4) B d_Book_literal_4 rfl (by decide) rfl ?_
  refine mv_aload_n (pc := 5) B d_Book_literal_5 rfl 1 rfl ?_
  refine mv_getI (pc := 6) (ci := 12) (C := R_Book) (T := F_Book) (N := 65) B 5 rfl rfl (by decide) i_Book (B.2.2.2.1 _ k_1848) rfl d_Book_literal_6 ?_
  refine mv_istore_n (pc := 9) B d_Book_literal_9 rfl (by decide) rfl ?_
  refine mv_aload_n (pc := 10) B d_Book_literal_10 rfl 2 rfl ?_
  refine mv_callVUv (pc := 11) (n := 0) (ci := 12) (C := R_Book) B (mK_ok sk sv) hNs rfl rfl (c_Book_pass_x l hi _ len _ _ hS.P.1) rfl (ma_goodc kc_Book_pass) (B.2.2.2.1 _ k_2173) (B.2.2.2.1 _ k_2175) (B.2.2.2.1 _ ks_90) (B.2.2.2.1 _ k_13) ⟨by decide +kernel, by decide +kernel, by decide +kernel⟩ rfl d_Book_literal_11 rfl (Nat.le_of_ble_eq_true rfl) ⟨by first | decide | (dsimp only; omega), by first | decide | (dsimp only; omega)⟩ ⟨Nat.le_refl _, Nat.le_refl _⟩ ⟨Nat.le_refl _, Nat.le_refl _⟩ (mv_noH hno _) (fun τ9 g9 => Or.inr ⟨rfl, hS.1.2.1.bf.tr g9.bf⟩) (fun σ11 h11 => ?_)
  have w11 := hS.P.w (by rw [hk]; decide)
  obtain ⟨d11, t11, u11, q11, g11⟩ := h11
  rw [hS.P.2.1] at d11
  have hL0 := hS.le
  have hS := hS.pass q11 g11
  refine mv_aload_n (pc := 14) B d_Book_literal_14 rfl 2 rfl ?_
  refine mv_bipush (pc := 15) (v := 39) B d_Book_literal_15 (by decide) ?_
  refine mv_callVUv (pc := 17) (n := 1) (ci := 12) (C := R_Book) B (mK_ok sk sv) hNs rfl rfl (c_Book_need_x l hi _ _ len _ _ hS.P.1) rfl (ma_goodc kc_Book_need) (B.2.2.2.1 _ k_2177) (B.2.2.2.1 _ k_2179) (B.2.2.2.1 _ ks_91) (B.2.2.2.1 _ k_13) ⟨by decide +kernel, by decide +kernel, by decide +kernel⟩ rfl d_Book_literal_17 rfl (Nat.le_of_ble_eq_true rfl) ⟨by first | decide | (dsimp only; omega), by first | decide | (dsimp only; omega)⟩ ⟨Nat.le_refl _, Nat.le_refl _⟩ ⟨Nat.le_refl _, Nat.le_refl _⟩ (mv_noH hno _) (fun τ9 g9 => Or.inr ⟨rfl, hS.1.2.1.bf.tr g9.bf⟩) (fun σ17 h17 => ?_)
  obtain ⟨k17, d17, t17, u17, q17, g17⟩ := h17
  have w17 := hS.P.w (by rw [k17]; decide)
  rw [hS.P.2.1] at d17
  have hL0 := hS.le
  have hS := hS.pass q17 g17
  refine mv_aload_n (pc := 20) B d_Book_literal_20 rfl 2 rfl ?_
  refine mv_getL (pc := 21) (ci := 12) (C := R_Book) (T := F_Book) (N := 65) B 9 rfl rfl (by decide) i_Book (B.2.2.2.1 _ k_1852) rfl d_Book_literal_21 ?_
  refine mv_lstore (pc := 24) B d_Book_literal_24 (by decide) rfl ?_
  refine mv_aload_n (pc := 26) B d_Book_literal_26 rfl 3 rfl ?_
  refine mv_getI (pc := 27) (ci := 12) (C := R_Book) (T := F_Book) (N := 65) B 5 rfl rfl (by decide) i_Book (B.2.2.2.1 _ k_1848) rfl d_Book_literal_27 ?_
  refine mv_istore (pc := 30) B d_Book_literal_30 (by decide) rfl ?_
  refine mv_aload_n (pc := 32) B d_Book_literal_32 rfl 4 rfl ?_
  refine mv_iconst (pc := 33) (v := 2) B d_Book_literal_33 (by decide) ?_
  refine mv_callVUv (pc := 34) (n := 1) (ci := 12) (C := R_Book) B (mK_ok sk sv) hNs rfl rfl (c_Book_need_x l hi _ _ len _ _ hS.P.1) rfl (ma_goodc kc_Book_need) (B.2.2.2.1 _ k_2177) (B.2.2.2.1 _ k_2179) (B.2.2.2.1 _ ks_91) (B.2.2.2.1 _ k_13) ⟨by decide +kernel, by decide +kernel, by decide +kernel⟩ rfl d_Book_literal_34 rfl (Nat.le_of_ble_eq_true rfl) ⟨by first | decide | (dsimp only; omega), by first | decide | (dsimp only; omega)⟩ ⟨Nat.le_refl _, Nat.le_refl _⟩ ⟨Nat.le_refl _, Nat.le_refl _⟩ (mv_noH hno _) (fun τ9 g9 => Or.inr ⟨rfl, hS.1.2.1.bf.tr g9.bf⟩) (fun σ34 h34 => ?_)
  obtain ⟨k34, d34, t34, u34, q34, g34⟩ := h34
  have w34 := hS.P.w (by rw [k34]; decide)
  rw [hS.P.2.1] at d34
  have hL0 := hS.le
  have hS := hS.pass q34 g34
  have j105 : ∀ (τ : mv_H) (w9 : Int64) (m9 : Int64) (k9 : Int32) (hT : FT 74 σ34 τ), mv_V p l e ({ frames := 14 * f + 10, cells := 0, slots := 0, locals := 500 * f + 400 }) s m ([.ref (al 74)] : List Value).toArray below meth c (mg dA D al ext) 10 0 0 (mv_Q (mg dA D al ext) below s 0 0 (mv_Ui (XO 74 len th d n a1 (10 * f) σ) ("MachineLoomModel$Book$Wrong", al 107) (BF 74 σ))) τ 105 [(0, .ref (al 74)), (1, .long w9), (4, .long m9), (8, .int k9)] [] := by
    intro τ w9 m9 k9 hT
    have hS := hS.ft hT
    refine mv_aload_n (pc := 105) B d_Book_literal_105 rfl 0 rfl ?_
    refine mv_iconst (pc := 106) (v := 1) B d_Book_literal_106 (by decide) ?_
    refine mv_iconst (pc := 107) (v := 0) B d_Book_literal_107 (by decide) ?_
    refine mv_iconst (pc := 108) (v := 0) B d_Book_literal_108 (by decide) ?_
    refine mv_iconst (pc := 109) (v := 0) B d_Book_literal_109 (by decide) ?_
    refine mv_iload (pc := 110) B d_Book_literal_110 3 rfl ?_
    refine mv_if_eq (pc := 112) (tgt := 120) B d_Book_literal_112 rfl (fun h112 => ?_) (fun h112 => ?_)
    · skip
      refine mv_iconst (pc := 120) (v := 0) B d_Book_literal_120 (by decide) ?_
      refine mv_callVi (pc := 121) (n := 5) (ci := 12) (C := R_Book) B (mK_ok sk sv) hNs rfl rfl (c_Book_node_x l hi _ _ _ _ _ _ hS.R (by have := hS.le; omega) (by have := hS.le; omega)) rfl (ma_goodc kc_Book_node) (B.2.2.2.1 _ k_2269) (B.2.2.2.1 _ k_2271) (B.2.2.2.1 _ ks_110) (B.2.2.2.1 _ k_13) ⟨by decide +kernel, by decide +kernel, by decide +kernel⟩ rfl d_Book_literal_121 rfl (Nat.le_of_ble_eq_true rfl) ⟨by first | decide | (dsimp only; omega), by first | decide | (dsimp only; omega)⟩ ⟨Nat.le_refl _, Nat.le_refl _⟩ ⟨Nat.le_refl _, Nat.le_refl _⟩ (mv_noH hno _) (fun v121 σ121 h121 => ?_)
      obtain ⟨e121, z121⟩ := h121
      have hL121 := hS.le
      have hN := hS.nodeE z121 (lo := n) (R := 10 * f) (by omega) hn0 (fun zz => XR.leaf hS.P.nn (Or.inl (by decide)))
      have hv121 : v121.toInt + 1 = ((n + 1 : Nat) : Int) := by rw [e121]; omega
      refine mv_istore (pc := 124) B d_Book_literal_124 (by decide) rfl ?_
      refine mv_aload_n (pc := 126) B d_Book_literal_126 rfl 1 rfl ?_
      refine mv_getR (pc := 127) (ci := 12) (C := R_Book) (T := F_Book) (N := 65) B 46 rfl rfl (by decide) i_Book (B.2.2.2.1 _ k_1895) rfl (hN.R.1 _ 46 _ rfl) d_Book_literal_127 ?_
      refine mv_iload (pc := 130) B d_Book_literal_130 0 rfl ?_
      refine mv_lload (pc := 132) B d_Book_literal_132 3 rfl ?_
      refine mv_last (pc := 134) B rfl (i32_in (by omega) (by omega)) d_Book_literal_134 ?_
      refine mv_gen (fun S135 eS135 => ?_)
      have hN := hN.val (k := v121.toNatClampNeg) (v := m9)
      rw [← eS135] at hN
      clear eS135
      refine mv_iload (pc := 135) B d_Book_literal_135 0 rfl ?_
      exact mv_iret (pc := 137) B hr rfl d_Book_literal_137 (Nat.le_refl _) (Nat.le_refl _) (Or.inl ⟨_, rfl, hN.out hv121 (by omega) 0 rfl (Nat.le_refl _)⟩)
    · skip
      refine mv_lload_n (pc := 115) B d_Book_literal_115 rfl 1 rfl ?_
      refine mv_l2i (pc := 116) B d_Book_literal_116 ?_
      refine mv_goto (pc := 117) (tgt := 121) B d_Book_literal_117 rfl ?_
      refine mv_callVi (pc := 121) (n := 5) (ci := 12) (C := R_Book) B (mK_ok sk sv) hNs rfl rfl (c_Book_node_x l hi _ _ _ _ _ _ hS.R (by have := hS.le; omega) (by have := hS.le; omega)) rfl (ma_goodc kc_Book_node) (B.2.2.2.1 _ k_2269) (B.2.2.2.1 _ k_2271) (B.2.2.2.1 _ ks_110) (B.2.2.2.1 _ k_13) ⟨by decide +kernel, by decide +kernel, by decide +kernel⟩ rfl d_Book_literal_121 rfl (Nat.le_of_ble_eq_true rfl) ⟨by first | decide | (dsimp only; omega), by first | decide | (dsimp only; omega)⟩ ⟨Nat.le_refl _, Nat.le_refl _⟩ ⟨Nat.le_refl _, Nat.le_refl _⟩ (mv_noH hno _) (fun v121 σ121 h121 => ?_)
      obtain ⟨e121, z121⟩ := h121
      have hL121 := hS.le
      have hN := hS.nodeE z121 (lo := n) (R := 10 * f) (by omega) hn0 (fun zz => XR.leaf hS.P.nn (Or.inl (by decide)))
      have hv121 : v121.toInt + 1 = ((n + 1 : Nat) : Int) := by rw [e121]; omega
      refine mv_istore (pc := 124) B d_Book_literal_124 (by decide) rfl ?_
      refine mv_aload_n (pc := 126) B d_Book_literal_126 rfl 1 rfl ?_
      refine mv_getR (pc := 127) (ci := 12) (C := R_Book) (T := F_Book) (N := 65) B 46 rfl rfl (by decide) i_Book (B.2.2.2.1 _ k_1895) rfl (hN.R.1 _ 46 _ rfl) d_Book_literal_127 ?_
      refine mv_iload (pc := 130) B d_Book_literal_130 0 rfl ?_
      refine mv_lload (pc := 132) B d_Book_literal_132 3 rfl ?_
      refine mv_last (pc := 134) B rfl (i32_in (by omega) (by omega)) d_Book_literal_134 ?_
      refine mv_gen (fun S135 eS135 => ?_)
      have hN := hN.val (k := v121.toNatClampNeg) (v := m9)
      rw [← eS135] at hN
      clear eS135
      refine mv_iload (pc := 135) B d_Book_literal_135 0 rfl ?_
      exact mv_iret (pc := 137) B hr rfl d_Book_literal_137 (Nat.le_refl _) (Nat.le_refl _) (Or.inl ⟨_, rfl, hN.out hv121 (by omega) 0 rfl (Nat.le_refl _)⟩)
  have j86 : ∀ (τ : mv_H) (w9 : Int64) (m9 : Int64) (q9 : Int32) (r9 : Int32) (k9 : Int32) (hT : FT 74 σ34 τ), mv_V p l e ({ frames := 14 * f + 10, cells := 0, slots := 0, locals := 500 * f + 400 }) s m ([.ref (al 74)] : List Value).toArray below meth c (mg dA D al ext) 10 0 0 (mv_Q (mg dA D al ext) below s 0 0 (mv_Ui (XO 74 len th d n a1 (10 * f) σ) ("MachineLoomModel$Book$Wrong", al 107) (BF 74 σ))) τ 86 [(0, .ref (al 74)), (1, .long w9), (4, .long m9), (6, .int q9), (7, .int r9)] [.int k9] := by
    intro τ w9 m9 q9 r9 k9 hT
    refine mv_istore (pc := 86) B d_Book_literal_86 (by decide) rfl ?_
    refine mv_iload (pc := 88) B d_Book_literal_88 5 rfl ?_
    refine mv_if_eq (pc := 90) (tgt := 105) B d_Book_literal_90 rfl (fun h90 => ?_) (fun h90 => ?_)
    · skip
      refine mv_lpick [1, 2, 3, 0] rfl ?_
      exact j105 _ _ _ _ (by first | exact hT | exact hT.of h102)
    · skip
      refine mv_iload (pc := 93) B d_Book_literal_93 0 rfl ?_
      refine mv_if_ne (pc := 95) (tgt := 105) B d_Book_literal_95 rfl (fun h95 => ?_) (fun h95 => ?_)
      · skip
        refine mv_lpick [1, 2, 3, 0] rfl ?_
        exact j105 _ _ _ _ (by first | exact hT | exact hT.of h102)
      · skip
        refine mv_aload_n (pc := 98) B d_Book_literal_98 rfl 1 rfl ?_
        refine mv_iconst (pc := 99) (v := 3) B d_Book_literal_99 (by decide) ?_
        refine mv_iload (pc := 100) B d_Book_literal_100 4 rfl ?_
        refine mv_callVv (pc := 102) (n := 2) (ci := 12) (C := R_Book) B (mK_ok sk sv) hNs rfl rfl (c_Book_fault_x l hi _ _ _ (by decide)) rfl (ma_goodc kc_Book_fault) (B.2.2.2.1 _ k_2185) (B.2.2.2.1 _ k_2187) (B.2.2.2.1 _ ks_92) (B.2.2.2.1 _ k_13) ⟨by decide +kernel, by decide +kernel, by decide +kernel⟩ rfl d_Book_literal_102 rfl (Nat.le_of_ble_eq_true rfl) ⟨by first | decide | (dsimp only; omega), by first | decide | (dsimp only; omega)⟩ ⟨Nat.le_refl _, Nat.le_refl _⟩ ⟨Nat.le_refl _, Nat.le_refl _⟩ (mv_noH hno _) (fun σ102 h102 => ?_)
        refine mv_lpick [1, 2, 3, 0] rfl ?_
        exact j105 _ _ _ _ (by first | exact hT | exact hT.of h102)
  have j58 : ∀ (τ : mv_H) (w9 : Int64) (m9 : Int64) (q9 : Int32) (r9 : Int32) (hT : FT 74 σ34 τ), mv_V p l e ({ frames := 14 * f + 10, cells := 0, slots := 0, locals := 500 * f + 400 }) s m ([.ref (al 74)] : List Value).toArray below meth c (mg dA D al ext) 10 0 0 (mv_Q (mg dA D al ext) below s 0 0 (mv_Ui (XO 74 len th d n a1 (10 * f) σ) ("MachineLoomModel$Book$Wrong", al 107) (BF 74 σ))) τ 58 [(0, .ref (al 74)), (1, .long w9), (4, .long m9), (6, .int q9), (7, .int r9)] [] := by
    intro τ w9 m9 q9 r9 hT
    refine mv_iload (pc := 58) B d_Book_literal_58 4 rfl ?_
    refine mv_if_eq (pc := 60) (tgt := 85) B d_Book_literal_60 rfl (fun h60 => ?_) (fun h60 => ?_)
    · skip
      refine mv_iconst (pc := 85) (v := 0) B d_Book_literal_85 (by decide) ?_
      refine mv_lpick [0, 1, 2, 3, 4] rfl ?_
      exact j86 _ _ _ _ _ _ hT
    · skip
      refine mv_lload_n (pc := 63) B d_Book_literal_63 rfl 1 rfl ?_
      refine mv_ldc2 (pc := 64) (v := 64) B (B.2.2.2.1 _ k_2184) d_Book_literal_64 ?_
      refine mv_lcmp (pc := 67) B d_Book_literal_67 ?_
      refine mv_if_eq (pc := 68) (tgt := 81) B d_Book_literal_68 rfl (fun h68 => ?_) (fun h68 => ?_)
      · skip
        refine mv_iconst (pc := 81) (v := 1) B d_Book_literal_81 (by decide) ?_
        refine mv_goto (pc := 82) (tgt := 86) B d_Book_literal_82 rfl ?_
        refine mv_lpick [0, 1, 2, 3, 4] rfl ?_
        exact j86 _ _ _ _ _ _ hT
      · skip
        refine mv_lload (pc := 71) B d_Book_literal_71 2 rfl ?_
        refine mv_lload_n (pc := 73) B d_Book_literal_73 rfl 1 rfl ?_
        refine mv_l2i (pc := 74) B d_Book_literal_74 ?_
        refine mv_lushr (pc := 75) B d_Book_literal_75 ?_
        refine mv_lconst (pc := 76) (v := 0) B d_Book_literal_76 (by decide) ?_
        refine mv_lcmp (pc := 77) B d_Book_literal_77 ?_
        refine mv_if_ne (pc := 78) (tgt := 85) B d_Book_literal_78 rfl (fun h78 => ?_) (fun h78 => ?_)
        · skip
          refine mv_iconst (pc := 85) (v := 0) B d_Book_literal_85 (by decide) ?_
          refine mv_lpick [0, 1, 2, 3, 4] rfl ?_
          exact j86 _ _ _ _ _ _ hT
        · skip
          refine mv_iconst (pc := 81) (v := 1) B d_Book_literal_81 (by decide) ?_
          refine mv_goto (pc := 82) (tgt := 86) B d_Book_literal_82 rfl ?_
          refine mv_lpick [0, 1, 2, 3, 4] rfl ?_
          exact j86 _ _ _ _ _ _ hT
  refine mv_lload_n (pc := 37) B d_Book_literal_37 rfl 3 rfl ?_
  refine mv_lconst (pc := 38) (v := 1) B d_Book_literal_38 (by decide) ?_
  refine mv_ldc2 (pc := 39) (v := 64) B (B.2.2.2.1 _ k_2184) d_Book_literal_39 ?_
  refine mv_callSNi (pc := 42) (n := 3) B (mK_ok sk sv) hNs (c_Model_in l hi _ _ _ _) rfl (ma_goodc kc_Model_in) (va_Nw.use rfl (hNs.1 _ (List.mem_of_getElem? (i := 7) rfl))) (B.2.2.2.1 _ k_2208) (B.2.2.2.1 _ k_12) ⟨by decide +kernel, by decide +kernel, by decide +kernel⟩ rfl d_Book_literal_42 rfl (Nat.le_of_ble_eq_true rfl) ⟨by first | decide | (dsimp only; omega), by first | decide | (dsimp only; omega)⟩ ⟨Nat.le_refl _, Nat.le_refl _⟩ ⟨Nat.le_refl _, Nat.le_refl _⟩ (mv_noH hno _) (fun v42 σ42 h42 => ?_)
  obtain ⟨e42, z42⟩ := h42
  have e42 := e42.symm
  subst e42
  refine mv_istore (pc := 45) B d_Book_literal_45 (by decide) rfl ?_
  refine mv_iload (pc := 47) B d_Book_literal_47 0 rfl ?_
  refine mv_if_ne (pc := 49) (tgt := 58) B d_Book_literal_49 rfl (fun h49 => ?_) (fun h49 => ?_)
  · skip
    refine mv_lpick [5, 4, 2, 1, 0] rfl ?_
    exact j58 _ _ _ _ _ (by first | exact FT.rf | exact FT.rf.of h55)
  · skip
    refine mv_aload_n (pc := 52) B d_Book_literal_52 rfl 5 rfl ?_
    refine mv_iconst (pc := 53) (v := 3) B d_Book_literal_53 (by decide) ?_
    refine mv_iload_n (pc := 54) B d_Book_literal_54 rfl 3 rfl ?_
    refine mv_callVv (pc := 55) (n := 2) (ci := 12) (C := R_Book) B (mK_ok sk sv) hNs rfl rfl (c_Book_fault_x l hi _ _ _ (by decide)) rfl (ma_goodc kc_Book_fault) (B.2.2.2.1 _ k_2185) (B.2.2.2.1 _ k_2187) (B.2.2.2.1 _ ks_92) (B.2.2.2.1 _ k_13) ⟨by decide +kernel, by decide +kernel, by decide +kernel⟩ rfl d_Book_literal_55 rfl (Nat.le_of_ble_eq_true rfl) ⟨by first | decide | (dsimp only; omega), by first | decide | (dsimp only; omega)⟩ ⟨Nat.le_refl _, Nat.le_refl _⟩ ⟨Nat.le_refl _, Nat.le_refl _⟩ (mv_noH hno _) (fun σ55 h55 => ?_)
    refine mv_lpick [5, 4, 2, 1, 0] rfl ?_
    exact j58 _ _ _ _ _ (by first | exact FT.rf | exact FT.rf.of h55)
set_option maxHeartbeats 4000000 in
set_option maxRecDepth 100000 in
theorem c_Book_literal_y (l : Launch) {dA : FieldType → ClassId} {D : va_G} {al : Nat → Nat} {ext : mv_Sh} {sk sv : Nat → Nat} (hi : mv_inj (mg dA D al ext)) (σ : mv_H) (f len th d n a1 a2 : Nat) (hf : d + f = 61) (hP : PS 108 len th d n a1 a2 σ) (hk : mv_i σ 108 4 = 2) : mv_C l y_Book_literal (Cond.code y_Book_literal b_Book_literal 10 (Option.some Jvm.ClassFile.FieldType.int) :: ma) ({ frames := 14 * f + 10, cells := 0, slots := 0, locals := 500 * f + 400 }) (mg dA D al ext) (mK sk sv) [.ref (al 108)] σ (mv_Ui (XO 108 len th d n a1 (10 * f) σ) ("MachineLoomModel$Book$Wrong", al 141) (BF 108 σ)) := by
  refine mv_C.ofV (cc := b_Book_literal) (nL := 10) (ret := (Option.some Jvm.ClassFile.FieldType.int)) (by decide +kernel) rfl hi (Nat.le_of_ble_eq_true rfl) ?_
  intro p e s m below meth c B hNs hr hnm hno
  have hS := XT.rf hP
  have hn0 := hP.le.1
  refine mv_aload_n (pc := 0) B d_Book_literal_0 rfl 0 rfl ?_
  refine mv_getL (pc := 1) (ci := 12) (C := R_Book) (T := F_Book) (N := 65) B 9 rfl rfl (by decide) i_Book (B.2.2.2.1 _ k_1852) rfl d_Book_literal_1 ?_
  refine mv_lstore_n (pc := 4) B d_Book_literal_4 rfl (by decide) rfl ?_
  refine mv_aload_n (pc := 5) B d_Book_literal_5 rfl 1 rfl ?_
  refine mv_getI (pc := 6) (ci := 12) (C := R_Book) (T := F_Book) (N := 65) B 5 rfl rfl (by decide) i_Book (B.2.2.2.1 _ k_1848) rfl d_Book_literal_6 ?_
  refine mv_istore_n (pc := 9) B d_Book_literal_9 rfl (by decide) rfl ?_
  refine mv_aload_n (pc := 10) B d_Book_literal_10 rfl 2 rfl ?_
  refine mv_callVUv (pc := 11) (n := 0) (ci := 12) (C := R_Book) B (mK_ok sk sv) hNs rfl rfl (c_Book_pass_y l hi _ len _ _ hS.P.1) rfl (ma_goodc kc_Book_pass) (B.2.2.2.1 _ k_2173) (B.2.2.2.1 _ k_2175) (B.2.2.2.1 _ ks_90) (B.2.2.2.1 _ k_13) ⟨by decide +kernel, by decide +kernel, by decide +kernel⟩ rfl d_Book_literal_11 rfl (Nat.le_of_ble_eq_true rfl) ⟨by first | decide | (dsimp only; omega), by first | decide | (dsimp only; omega)⟩ ⟨Nat.le_refl _, Nat.le_refl _⟩ ⟨Nat.le_refl _, Nat.le_refl _⟩ (mv_noH hno _) (fun τ9 g9 => Or.inr ⟨rfl, hS.1.2.1.bf.tr g9.bf⟩) (fun σ11 h11 => ?_)
  have w11 := hS.P.w (by rw [hk]; decide)
  obtain ⟨d11, t11, u11, q11, g11⟩ := h11
  rw [hS.P.2.1] at d11
  have hL0 := hS.le
  have hS := hS.pass q11 g11
  refine mv_aload_n (pc := 14) B d_Book_literal_14 rfl 2 rfl ?_
  refine mv_bipush (pc := 15) (v := 39) B d_Book_literal_15 (by decide) ?_
  refine mv_callVUv (pc := 17) (n := 1) (ci := 12) (C := R_Book) B (mK_ok sk sv) hNs rfl rfl (c_Book_need_y l hi _ _ len _ _ hS.P.1) rfl (ma_goodc kc_Book_need) (B.2.2.2.1 _ k_2177) (B.2.2.2.1 _ k_2179) (B.2.2.2.1 _ ks_91) (B.2.2.2.1 _ k_13) ⟨by decide +kernel, by decide +kernel, by decide +kernel⟩ rfl d_Book_literal_17 rfl (Nat.le_of_ble_eq_true rfl) ⟨by first | decide | (dsimp only; omega), by first | decide | (dsimp only; omega)⟩ ⟨Nat.le_refl _, Nat.le_refl _⟩ ⟨Nat.le_refl _, Nat.le_refl _⟩ (mv_noH hno _) (fun τ9 g9 => Or.inr ⟨rfl, hS.1.2.1.bf.tr g9.bf⟩) (fun σ17 h17 => ?_)
  obtain ⟨k17, d17, t17, u17, q17, g17⟩ := h17
  have w17 := hS.P.w (by rw [k17]; decide)
  rw [hS.P.2.1] at d17
  have hL0 := hS.le
  have hS := hS.pass q17 g17
  refine mv_aload_n (pc := 20) B d_Book_literal_20 rfl 2 rfl ?_
  refine mv_getL (pc := 21) (ci := 12) (C := R_Book) (T := F_Book) (N := 65) B 9 rfl rfl (by decide) i_Book (B.2.2.2.1 _ k_1852) rfl d_Book_literal_21 ?_
  refine mv_lstore (pc := 24) B d_Book_literal_24 (by decide) rfl ?_
  refine mv_aload_n (pc := 26) B d_Book_literal_26 rfl 3 rfl ?_
  refine mv_getI (pc := 27) (ci := 12) (C := R_Book) (T := F_Book) (N := 65) B 5 rfl rfl (by decide) i_Book (B.2.2.2.1 _ k_1848) rfl d_Book_literal_27 ?_
  refine mv_istore (pc := 30) B d_Book_literal_30 (by decide) rfl ?_
  refine mv_aload_n (pc := 32) B d_Book_literal_32 rfl 4 rfl ?_
  refine mv_iconst (pc := 33) (v := 2) B d_Book_literal_33 (by decide) ?_
  refine mv_callVUv (pc := 34) (n := 1) (ci := 12) (C := R_Book) B (mK_ok sk sv) hNs rfl rfl (c_Book_need_y l hi _ _ len _ _ hS.P.1) rfl (ma_goodc kc_Book_need) (B.2.2.2.1 _ k_2177) (B.2.2.2.1 _ k_2179) (B.2.2.2.1 _ ks_91) (B.2.2.2.1 _ k_13) ⟨by decide +kernel, by decide +kernel, by decide +kernel⟩ rfl d_Book_literal_34 rfl (Nat.le_of_ble_eq_true rfl) ⟨by first | decide | (dsimp only; omega), by first | decide | (dsimp only; omega)⟩ ⟨Nat.le_refl _, Nat.le_refl _⟩ ⟨Nat.le_refl _, Nat.le_refl _⟩ (mv_noH hno _) (fun τ9 g9 => Or.inr ⟨rfl, hS.1.2.1.bf.tr g9.bf⟩) (fun σ34 h34 => ?_)
  obtain ⟨k34, d34, t34, u34, q34, g34⟩ := h34
  have w34 := hS.P.w (by rw [k34]; decide)
  rw [hS.P.2.1] at d34
  have hL0 := hS.le
  have hS := hS.pass q34 g34
  have j105 : ∀ (τ : mv_H) (w9 : Int64) (m9 : Int64) (k9 : Int32) (hT : FT 108 σ34 τ), mv_V p l e ({ frames := 14 * f + 10, cells := 0, slots := 0, locals := 500 * f + 400 }) s m ([.ref (al 108)] : List Value).toArray below meth c (mg dA D al ext) 10 0 0 (mv_Q (mg dA D al ext) below s 0 0 (mv_Ui (XO 108 len th d n a1 (10 * f) σ) ("MachineLoomModel$Book$Wrong", al 141) (BF 108 σ))) τ 105 [(0, .ref (al 108)), (1, .long w9), (4, .long m9), (8, .int k9)] [] := by
    intro τ w9 m9 k9 hT
    have hS := hS.ft hT
    refine mv_aload_n (pc := 105) B d_Book_literal_105 rfl 0 rfl ?_
    refine mv_iconst (pc := 106) (v := 1) B d_Book_literal_106 (by decide) ?_
    refine mv_iconst (pc := 107) (v := 0) B d_Book_literal_107 (by decide) ?_
    refine mv_iconst (pc := 108) (v := 0) B d_Book_literal_108 (by decide) ?_
    refine mv_iconst (pc := 109) (v := 0) B d_Book_literal_109 (by decide) ?_
    refine mv_iload (pc := 110) B d_Book_literal_110 3 rfl ?_
    refine mv_if_eq (pc := 112) (tgt := 120) B d_Book_literal_112 rfl (fun h112 => ?_) (fun h112 => ?_)
    · skip
      refine mv_iconst (pc := 120) (v := 0) B d_Book_literal_120 (by decide) ?_
      refine mv_callVi (pc := 121) (n := 5) (ci := 12) (C := R_Book) B (mK_ok sk sv) hNs rfl rfl (c_Book_node_y l hi _ _ _ _ _ _ hS.R (by have := hS.le; omega) (by have := hS.le; omega)) rfl (ma_goodc kc_Book_node) (B.2.2.2.1 _ k_2269) (B.2.2.2.1 _ k_2271) (B.2.2.2.1 _ ks_110) (B.2.2.2.1 _ k_13) ⟨by decide +kernel, by decide +kernel, by decide +kernel⟩ rfl d_Book_literal_121 rfl (Nat.le_of_ble_eq_true rfl) ⟨by first | decide | (dsimp only; omega), by first | decide | (dsimp only; omega)⟩ ⟨Nat.le_refl _, Nat.le_refl _⟩ ⟨Nat.le_refl _, Nat.le_refl _⟩ (mv_noH hno _) (fun v121 σ121 h121 => ?_)
      obtain ⟨e121, z121⟩ := h121
      have hL121 := hS.le
      have hN := hS.nodeE z121 (lo := n) (R := 10 * f) (by omega) hn0 (fun zz => XR.leaf hS.P.nn (Or.inl (by decide)))
      have hv121 : v121.toInt + 1 = ((n + 1 : Nat) : Int) := by rw [e121]; omega
      refine mv_istore (pc := 124) B d_Book_literal_124 (by decide) rfl ?_
      refine mv_aload_n (pc := 126) B d_Book_literal_126 rfl 1 rfl ?_
      refine mv_getR (pc := 127) (ci := 12) (C := R_Book) (T := F_Book) (N := 65) B 46 rfl rfl (by decide) i_Book (B.2.2.2.1 _ k_1895) rfl (hN.R.1 _ 46 _ rfl) d_Book_literal_127 ?_
      refine mv_iload (pc := 130) B d_Book_literal_130 0 rfl ?_
      refine mv_lload (pc := 132) B d_Book_literal_132 3 rfl ?_
      refine mv_last (pc := 134) B rfl (i32_in (by omega) (by omega)) d_Book_literal_134 ?_
      refine mv_gen (fun S135 eS135 => ?_)
      have hN := hN.val (k := v121.toNatClampNeg) (v := m9)
      rw [← eS135] at hN
      clear eS135
      refine mv_iload (pc := 135) B d_Book_literal_135 0 rfl ?_
      exact mv_iret (pc := 137) B hr rfl d_Book_literal_137 (Nat.le_refl _) (Nat.le_refl _) (Or.inl ⟨_, rfl, hN.out hv121 (by omega) 0 rfl (Nat.le_refl _)⟩)
    · skip
      refine mv_lload_n (pc := 115) B d_Book_literal_115 rfl 1 rfl ?_
      refine mv_l2i (pc := 116) B d_Book_literal_116 ?_
      refine mv_goto (pc := 117) (tgt := 121) B d_Book_literal_117 rfl ?_
      refine mv_callVi (pc := 121) (n := 5) (ci := 12) (C := R_Book) B (mK_ok sk sv) hNs rfl rfl (c_Book_node_y l hi _ _ _ _ _ _ hS.R (by have := hS.le; omega) (by have := hS.le; omega)) rfl (ma_goodc kc_Book_node) (B.2.2.2.1 _ k_2269) (B.2.2.2.1 _ k_2271) (B.2.2.2.1 _ ks_110) (B.2.2.2.1 _ k_13) ⟨by decide +kernel, by decide +kernel, by decide +kernel⟩ rfl d_Book_literal_121 rfl (Nat.le_of_ble_eq_true rfl) ⟨by first | decide | (dsimp only; omega), by first | decide | (dsimp only; omega)⟩ ⟨Nat.le_refl _, Nat.le_refl _⟩ ⟨Nat.le_refl _, Nat.le_refl _⟩ (mv_noH hno _) (fun v121 σ121 h121 => ?_)
      obtain ⟨e121, z121⟩ := h121
      have hL121 := hS.le
      have hN := hS.nodeE z121 (lo := n) (R := 10 * f) (by omega) hn0 (fun zz => XR.leaf hS.P.nn (Or.inl (by decide)))
      have hv121 : v121.toInt + 1 = ((n + 1 : Nat) : Int) := by rw [e121]; omega
      refine mv_istore (pc := 124) B d_Book_literal_124 (by decide) rfl ?_
      refine mv_aload_n (pc := 126) B d_Book_literal_126 rfl 1 rfl ?_
      refine mv_getR (pc := 127) (ci := 12) (C := R_Book) (T := F_Book) (N := 65) B 46 rfl rfl (by decide) i_Book (B.2.2.2.1 _ k_1895) rfl (hN.R.1 _ 46 _ rfl) d_Book_literal_127 ?_
      refine mv_iload (pc := 130) B d_Book_literal_130 0 rfl ?_
      refine mv_lload (pc := 132) B d_Book_literal_132 3 rfl ?_
      refine mv_last (pc := 134) B rfl (i32_in (by omega) (by omega)) d_Book_literal_134 ?_
      refine mv_gen (fun S135 eS135 => ?_)
      have hN := hN.val (k := v121.toNatClampNeg) (v := m9)
      rw [← eS135] at hN
      clear eS135
      refine mv_iload (pc := 135) B d_Book_literal_135 0 rfl ?_
      exact mv_iret (pc := 137) B hr rfl d_Book_literal_137 (Nat.le_refl _) (Nat.le_refl _) (Or.inl ⟨_, rfl, hN.out hv121 (by omega) 0 rfl (Nat.le_refl _)⟩)
  have j86 : ∀ (τ : mv_H) (w9 : Int64) (m9 : Int64) (q9 : Int32) (r9 : Int32) (k9 : Int32) (hT : FT 108 σ34 τ), mv_V p l e ({ frames := 14 * f + 10, cells := 0, slots := 0, locals := 500 * f + 400 }) s m ([.ref (al 108)] : List Value).toArray below meth c (mg dA D al ext) 10 0 0 (mv_Q (mg dA D al ext) below s 0 0 (mv_Ui (XO 108 len th d n a1 (10 * f) σ) ("MachineLoomModel$Book$Wrong", al 141) (BF 108 σ))) τ 86 [(0, .ref (al 108)), (1, .long w9), (4, .long m9), (6, .int q9), (7, .int r9)] [.int k9] := by
    intro τ w9 m9 q9 r9 k9 hT
    refine mv_istore (pc := 86) B d_Book_literal_86 (by decide) rfl ?_
    refine mv_iload (pc := 88) B d_Book_literal_88 5 rfl ?_
    refine mv_if_eq (pc := 90) (tgt := 105) B d_Book_literal_90 rfl (fun h90 => ?_) (fun h90 => ?_)
    · skip
      refine mv_lpick [1, 2, 3, 0] rfl ?_
      exact j105 _ _ _ _ (by first | exact hT | exact hT.of h102)
    · skip
      refine mv_iload (pc := 93) B d_Book_literal_93 0 rfl ?_
      refine mv_if_ne (pc := 95) (tgt := 105) B d_Book_literal_95 rfl (fun h95 => ?_) (fun h95 => ?_)
      · skip
        refine mv_lpick [1, 2, 3, 0] rfl ?_
        exact j105 _ _ _ _ (by first | exact hT | exact hT.of h102)
      · skip
        refine mv_aload_n (pc := 98) B d_Book_literal_98 rfl 1 rfl ?_
        refine mv_iconst (pc := 99) (v := 3) B d_Book_literal_99 (by decide) ?_
        refine mv_iload (pc := 100) B d_Book_literal_100 4 rfl ?_
        refine mv_callVv (pc := 102) (n := 2) (ci := 12) (C := R_Book) B (mK_ok sk sv) hNs rfl rfl (c_Book_fault_y l hi _ _ _ (by decide)) rfl (ma_goodc kc_Book_fault) (B.2.2.2.1 _ k_2185) (B.2.2.2.1 _ k_2187) (B.2.2.2.1 _ ks_92) (B.2.2.2.1 _ k_13) ⟨by decide +kernel, by decide +kernel, by decide +kernel⟩ rfl d_Book_literal_102 rfl (Nat.le_of_ble_eq_true rfl) ⟨by first | decide | (dsimp only; omega), by first | decide | (dsimp only; omega)⟩ ⟨Nat.le_refl _, Nat.le_refl _⟩ ⟨Nat.le_refl _, Nat.le_refl _⟩ (mv_noH hno _) (fun σ102 h102 => ?_)
        refine mv_lpick [1, 2, 3, 0] rfl ?_
        exact j105 _ _ _ _ (by first | exact hT | exact hT.of h102)
  have j58 : ∀ (τ : mv_H) (w9 : Int64) (m9 : Int64) (q9 : Int32) (r9 : Int32) (hT : FT 108 σ34 τ), mv_V p l e ({ frames := 14 * f + 10, cells := 0, slots := 0, locals := 500 * f + 400 }) s m ([.ref (al 108)] : List Value).toArray below meth c (mg dA D al ext) 10 0 0 (mv_Q (mg dA D al ext) below s 0 0 (mv_Ui (XO 108 len th d n a1 (10 * f) σ) ("MachineLoomModel$Book$Wrong", al 141) (BF 108 σ))) τ 58 [(0, .ref (al 108)), (1, .long w9), (4, .long m9), (6, .int q9), (7, .int r9)] [] := by
    intro τ w9 m9 q9 r9 hT
    refine mv_iload (pc := 58) B d_Book_literal_58 4 rfl ?_
    refine mv_if_eq (pc := 60) (tgt := 85) B d_Book_literal_60 rfl (fun h60 => ?_) (fun h60 => ?_)
    · skip
      refine mv_iconst (pc := 85) (v := 0) B d_Book_literal_85 (by decide) ?_
      refine mv_lpick [0, 1, 2, 3, 4] rfl ?_
      exact j86 _ _ _ _ _ _ hT
    · skip
      refine mv_lload_n (pc := 63) B d_Book_literal_63 rfl 1 rfl ?_
      refine mv_ldc2 (pc := 64) (v := 64) B (B.2.2.2.1 _ k_2184) d_Book_literal_64 ?_
      refine mv_lcmp (pc := 67) B d_Book_literal_67 ?_
      refine mv_if_eq (pc := 68) (tgt := 81) B d_Book_literal_68 rfl (fun h68 => ?_) (fun h68 => ?_)
      · skip
        refine mv_iconst (pc := 81) (v := 1) B d_Book_literal_81 (by decide) ?_
        refine mv_goto (pc := 82) (tgt := 86) B d_Book_literal_82 rfl ?_
        refine mv_lpick [0, 1, 2, 3, 4] rfl ?_
        exact j86 _ _ _ _ _ _ hT
      · skip
        refine mv_lload (pc := 71) B d_Book_literal_71 2 rfl ?_
        refine mv_lload_n (pc := 73) B d_Book_literal_73 rfl 1 rfl ?_
        refine mv_l2i (pc := 74) B d_Book_literal_74 ?_
        refine mv_lushr (pc := 75) B d_Book_literal_75 ?_
        refine mv_lconst (pc := 76) (v := 0) B d_Book_literal_76 (by decide) ?_
        refine mv_lcmp (pc := 77) B d_Book_literal_77 ?_
        refine mv_if_ne (pc := 78) (tgt := 85) B d_Book_literal_78 rfl (fun h78 => ?_) (fun h78 => ?_)
        · skip
          refine mv_iconst (pc := 85) (v := 0) B d_Book_literal_85 (by decide) ?_
          refine mv_lpick [0, 1, 2, 3, 4] rfl ?_
          exact j86 _ _ _ _ _ _ hT
        · skip
          refine mv_iconst (pc := 81) (v := 1) B d_Book_literal_81 (by decide) ?_
          refine mv_goto (pc := 82) (tgt := 86) B d_Book_literal_82 rfl ?_
          refine mv_lpick [0, 1, 2, 3, 4] rfl ?_
          exact j86 _ _ _ _ _ _ hT
  refine mv_lload_n (pc := 37) B d_Book_literal_37 rfl 3 rfl ?_
  refine mv_lconst (pc := 38) (v := 1) B d_Book_literal_38 (by decide) ?_
  refine mv_ldc2 (pc := 39) (v := 64) B (B.2.2.2.1 _ k_2184) d_Book_literal_39 ?_
  refine mv_callSNi (pc := 42) (n := 3) B (mK_ok sk sv) hNs (c_Model_in l hi _ _ _ _) rfl (ma_goodc kc_Model_in) (va_Nw.use rfl (hNs.1 _ (List.mem_of_getElem? (i := 7) rfl))) (B.2.2.2.1 _ k_2208) (B.2.2.2.1 _ k_12) ⟨by decide +kernel, by decide +kernel, by decide +kernel⟩ rfl d_Book_literal_42 rfl (Nat.le_of_ble_eq_true rfl) ⟨by first | decide | (dsimp only; omega), by first | decide | (dsimp only; omega)⟩ ⟨Nat.le_refl _, Nat.le_refl _⟩ ⟨Nat.le_refl _, Nat.le_refl _⟩ (mv_noH hno _) (fun v42 σ42 h42 => ?_)
  obtain ⟨e42, z42⟩ := h42
  have e42 := e42.symm
  subst e42
  refine mv_istore (pc := 45) B d_Book_literal_45 (by decide) rfl ?_
  refine mv_iload (pc := 47) B d_Book_literal_47 0 rfl ?_
  refine mv_if_ne (pc := 49) (tgt := 58) B d_Book_literal_49 rfl (fun h49 => ?_) (fun h49 => ?_)
  · skip
    refine mv_lpick [5, 4, 2, 1, 0] rfl ?_
    exact j58 _ _ _ _ _ (by first | exact FT.rf | exact FT.rf.of h55)
  · skip
    refine mv_aload_n (pc := 52) B d_Book_literal_52 rfl 5 rfl ?_
    refine mv_iconst (pc := 53) (v := 3) B d_Book_literal_53 (by decide) ?_
    refine mv_iload_n (pc := 54) B d_Book_literal_54 rfl 3 rfl ?_
    refine mv_callVv (pc := 55) (n := 2) (ci := 12) (C := R_Book) B (mK_ok sk sv) hNs rfl rfl (c_Book_fault_y l hi _ _ _ (by decide)) rfl (ma_goodc kc_Book_fault) (B.2.2.2.1 _ k_2185) (B.2.2.2.1 _ k_2187) (B.2.2.2.1 _ ks_92) (B.2.2.2.1 _ k_13) ⟨by decide +kernel, by decide +kernel, by decide +kernel⟩ rfl d_Book_literal_55 rfl (Nat.le_of_ble_eq_true rfl) ⟨by first | decide | (dsimp only; omega), by first | decide | (dsimp only; omega)⟩ ⟨Nat.le_refl _, Nat.le_refl _⟩ ⟨Nat.le_refl _, Nat.le_refl _⟩ (mv_noH hno _) (fun σ55 h55 => ?_)
    refine mv_lpick [5, 4, 2, 1, 0] rfl ?_
    exact j58 _ _ _ _ _ (by first | exact FT.rf | exact FT.rf.of h55)
def y_Book_named : MethodName := ⟨"MachineLoomModel$Book", "named", "()I"⟩
abbrev b_Book_named : ByteArray := prog_15_method_37_code
theorem kc_Book_named : Cond.code y_Book_named b_Book_named 6 (Option.some Jvm.ClassFile.FieldType.int) ∈ ma := ma_of (tb_10 _ (List.mem_of_getElem? (i := 144) rfl)) rfl
theorem k_2305 : (Jvm.Cond.methodLink "MachineLoomModel$Book" (308 : Nat) ({ cls := "MachineLoomModel$Book", name := "let", desc := "(II)I" } : Jvm.MethodName)) ∈ ma := ma_of (tb_10 _ (List.mem_of_getElem? (i := 145) rfl)) rfl
theorem k_2307 : (Jvm.Cond.instanceMethod ({ cls := "MachineLoomModel$Book", name := "let", desc := "(II)I" } : Jvm.MethodName)) ∈ ma := ma_of (tb_10 _ (List.mem_of_getElem? (i := 147) rfl)) rfl
theorem ks_116 : Cond.selects "MachineLoomModel$Book" ⟨"MachineLoomModel$Book", "let", "(II)I"⟩ ⟨"MachineLoomModel$Book", "let", "(II)I"⟩ ∈ ma := ma_sel 116 rfl rfl
theorem k_2309 : (Jvm.Cond.methodLink "MachineLoomModel$Book" (311 : Nat) ({ cls := "MachineLoomModel$Book", name := "isField", desc := "(II)Z" } : Jvm.MethodName)) ∈ ma := ma_of (tb_10 _ (List.mem_of_getElem? (i := 149) rfl)) rfl
theorem k_2311 : (Jvm.Cond.instanceMethod ({ cls := "MachineLoomModel$Book", name := "isField", desc := "(II)Z" } : Jvm.MethodName)) ∈ ma := ma_of (tb_10 _ (List.mem_of_getElem? (i := 151) rfl)) rfl
theorem ks_117 : Cond.selects "MachineLoomModel$Book" ⟨"MachineLoomModel$Book", "isField", "(II)Z"⟩ ⟨"MachineLoomModel$Book", "isField", "(II)Z"⟩ ∈ ma := ma_sel 117 rfl rfl
theorem k_2212 : (Jvm.Cond.methodLink "MachineLoomModel$Book" (315 : Nat) ({ cls := "MachineLoomModel$Book", name := "thing", desc := "(II)I" } : Jvm.MethodName)) ∈ ma := ma_of (tb_10 _ (List.mem_of_getElem? (i := 52) rfl)) rfl
theorem k_2214 : (Jvm.Cond.instanceMethod ({ cls := "MachineLoomModel$Book", name := "thing", desc := "(II)I" } : Jvm.MethodName)) ∈ ma := ma_of (tb_10 _ (List.mem_of_getElem? (i := 54) rfl)) rfl
theorem ks_97 : Cond.selects "MachineLoomModel$Book" ⟨"MachineLoomModel$Book", "thing", "(II)I"⟩ ⟨"MachineLoomModel$Book", "thing", "(II)I"⟩ ∈ ma := ma_sel 97 rfl rfl
theorem k_1858 : (Jvm.Cond.fieldLink "MachineLoomModel$Book" (32 : Nat) "MachineLoomModel$Book" "thingFile" "[Z") ∈ ma := ma_of (tb_8 _ (List.mem_of_getElem? (i := 178) rfl)) rfl
theorem k_2245 : (Jvm.Cond.methodLink "MachineLoomModel$Book" (256 : Nat) ({ cls := "MachineLoomModel$Book", name := "expression", desc := "()I" } : Jvm.MethodName)) ∈ ma := ma_of (tb_10 _ (List.mem_of_getElem? (i := 85) rfl)) rfl
theorem k_2247 : (Jvm.Cond.instanceMethod ({ cls := "MachineLoomModel$Book", name := "expression", desc := "()I" } : Jvm.MethodName)) ∈ ma := ma_of (tb_10 _ (List.mem_of_getElem? (i := 87) rfl)) rfl
theorem ks_104 : Cond.selects "MachineLoomModel$Book" ⟨"MachineLoomModel$Book", "expression", "()I"⟩ ⟨"MachineLoomModel$Book", "expression", "()I"⟩ ∈ ma := ma_sel 104 rfl rfl
theorem k_1855 : (Jvm.Cond.fieldLink "MachineLoomModel$Book" (23 : Nat) "MachineLoomModel$Book" "thingWidth" "[I") ∈ ma := ma_of (tb_8 _ (List.mem_of_getElem? (i := 175) rfl)) rfl
theorem k_1880 : (Jvm.Cond.fieldLink "MachineLoomModel$Book" (78 : Nat) "MachineLoomModel$Book" "letSlot" "[I") ∈ ma := ma_of (tb_8 _ (List.mem_of_getElem? (i := 200) rfl)) rfl
theorem k_1879 : (Jvm.Cond.fieldLink "MachineLoomModel$Book" (75 : Nat) "MachineLoomModel$Book" "letWidth" "[I") ∈ ma := ma_of (tb_8 _ (List.mem_of_getElem? (i := 199) rfl)) rfl
theorem d_Book_named_0 : decode b_Book_named 0 = .ok (.aload_n 0, 1) := by decide +kernel
theorem d_Book_named_1 : decode b_Book_named 1 = .ok (.getfield 174, 3) := by decide +kernel
theorem d_Book_named_4 : decode b_Book_named 4 = .ok (.istore_n 1, 1) := by decide +kernel
theorem d_Book_named_5 : decode b_Book_named 5 = .ok (.aload_n 0, 1) := by decide +kernel
theorem d_Book_named_6 : decode b_Book_named 6 = .ok (.getfield 190, 3) := by decide +kernel
theorem d_Book_named_9 : decode b_Book_named 9 = .ok (.istore_n 2, 1) := by decide +kernel
theorem d_Book_named_10 : decode b_Book_named 10 = .ok (.aload_n 0, 1) := by decide +kernel
theorem d_Book_named_11 : decode b_Book_named 11 = .ok (.invokevirtual 203, 3) := by decide +kernel
theorem d_Book_named_14 : decode b_Book_named 14 = .ok (.aload_n 0, 1) := by decide +kernel
theorem d_Book_named_15 : decode b_Book_named 15 = .ok (.iload_n 1, 1) := by decide +kernel
theorem d_Book_named_16 : decode b_Book_named 16 = .ok (.iload_n 2, 1) := by decide +kernel
theorem d_Book_named_17 : decode b_Book_named 17 = .ok (.invokevirtual 308, 3) := by decide +kernel
theorem d_Book_named_20 : decode b_Book_named 20 = .ok (.istore_n 3, 1) := by decide +kernel
theorem d_Book_named_21 : decode b_Book_named 21 = .ok (.iload_n 3, 1) := by decide +kernel
theorem d_Book_named_22 : decode b_Book_named 22 = .ok (.ifCond .lt (23), 3) := by decide +kernel
theorem d_Book_named_25 : decode b_Book_named 25 = .ok (.aload_n 0, 1) := by decide +kernel
theorem d_Book_named_26 : decode b_Book_named 26 = .ok (.iconst 5, 1) := by decide +kernel
theorem d_Book_named_27 : decode b_Book_named 27 = .ok (.aload_n 0, 1) := by decide +kernel
theorem d_Book_named_28 : decode b_Book_named 28 = .ok (.getfield 78, 3) := by decide +kernel
theorem d_Book_named_31 : decode b_Book_named 31 = .ok (.iload_n 3, 1) := by decide +kernel
theorem d_Book_named_32 : decode b_Book_named 32 = .ok (.iaload, 1) := by decide +kernel
theorem d_Book_named_33 : decode b_Book_named 33 = .ok (.iconst 0, 1) := by decide +kernel
theorem d_Book_named_34 : decode b_Book_named 34 = .ok (.iconst 0, 1) := by decide +kernel
theorem d_Book_named_35 : decode b_Book_named 35 = .ok (.aload_n 0, 1) := by decide +kernel
theorem d_Book_named_36 : decode b_Book_named 36 = .ok (.getfield 75, 3) := by decide +kernel
theorem d_Book_named_39 : decode b_Book_named 39 = .ok (.iload_n 3, 1) := by decide +kernel
theorem d_Book_named_40 : decode b_Book_named 40 = .ok (.iaload, 1) := by decide +kernel
theorem d_Book_named_41 : decode b_Book_named 41 = .ok (.invokevirtual 271, 3) := by decide +kernel
theorem d_Book_named_44 : decode b_Book_named 44 = .ok (.ireturn, 1) := by decide +kernel
theorem d_Book_named_45 : decode b_Book_named 45 = .ok (.aload_n 0, 1) := by decide +kernel
theorem d_Book_named_46 : decode b_Book_named 46 = .ok (.iload_n 1, 1) := by decide +kernel
theorem d_Book_named_47 : decode b_Book_named 47 = .ok (.iload_n 2, 1) := by decide +kernel
theorem d_Book_named_48 : decode b_Book_named 48 = .ok (.invokevirtual 311, 3) := by decide +kernel
theorem d_Book_named_51 : decode b_Book_named 51 = .ok (.ifCond .eq (25), 3) := by decide +kernel
theorem d_Book_named_54 : decode b_Book_named 54 = .ok (.aload_n 0, 1) := by decide +kernel
theorem d_Book_named_55 : decode b_Book_named 55 = .ok (.iconst 4, 1) := by decide +kernel
theorem d_Book_named_56 : decode b_Book_named 56 = .ok (.aload_n 0, 1) := by decide +kernel
theorem d_Book_named_57 : decode b_Book_named 57 = .ok (.iload_n 1, 1) := by decide +kernel
theorem d_Book_named_58 : decode b_Book_named 58 = .ok (.invokevirtual 145, 3) := by decide +kernel
theorem d_Book_named_61 : decode b_Book_named 61 = .ok (.iconst 0, 1) := by decide +kernel
theorem d_Book_named_62 : decode b_Book_named 62 = .ok (.iconst 0, 1) := by decide +kernel
theorem d_Book_named_63 : decode b_Book_named 63 = .ok (.aload_n 0, 1) := by decide +kernel
theorem d_Book_named_64 : decode b_Book_named 64 = .ok (.aload_n 0, 1) := by decide +kernel
theorem d_Book_named_65 : decode b_Book_named 65 = .ok (.iload_n 1, 1) := by decide +kernel
theorem d_Book_named_66 : decode b_Book_named 66 = .ok (.invokevirtual 145, 3) := by decide +kernel
theorem d_Book_named_69 : decode b_Book_named 69 = .ok (.invokevirtual 247, 3) := by decide +kernel
theorem d_Book_named_72 : decode b_Book_named 72 = .ok (.invokevirtual 271, 3) := by decide +kernel
theorem d_Book_named_75 : decode b_Book_named 75 = .ok (.ireturn, 1) := by decide +kernel
theorem d_Book_named_76 : decode b_Book_named 76 = .ok (.aload_n 0, 1) := by decide +kernel
theorem d_Book_named_77 : decode b_Book_named 77 = .ok (.iload_n 1, 1) := by decide +kernel
theorem d_Book_named_78 : decode b_Book_named 78 = .ok (.iload_n 2, 1) := by decide +kernel
theorem d_Book_named_79 : decode b_Book_named 79 = .ok (.invokevirtual 315, 3) := by decide +kernel
theorem d_Book_named_82 : decode b_Book_named 82 = .ok (.istore 4, 2) := by decide +kernel
theorem d_Book_named_84 : decode b_Book_named 84 = .ok (.iload 4, 2) := by decide +kernel
theorem d_Book_named_86 : decode b_Book_named 86 = .ok (.ifCond .ge (20), 3) := by decide +kernel
theorem d_Book_named_89 : decode b_Book_named 89 = .ok (.aload_n 0, 1) := by decide +kernel
theorem d_Book_named_90 : decode b_Book_named 90 = .ok (.iconst 2, 1) := by decide +kernel
theorem d_Book_named_91 : decode b_Book_named 91 = .ok (.iload_n 1, 1) := by decide +kernel
theorem d_Book_named_92 : decode b_Book_named 92 = .ok (.invokevirtual 267, 3) := by decide +kernel
theorem d_Book_named_95 : decode b_Book_named 95 = .ok (.aload_n 0, 1) := by decide +kernel
theorem d_Book_named_96 : decode b_Book_named 96 = .ok (.bipush 13, 2) := by decide +kernel
theorem d_Book_named_98 : decode b_Book_named 98 = .ok (.iconst 0, 1) := by decide +kernel
theorem d_Book_named_99 : decode b_Book_named 99 = .ok (.iconst 0, 1) := by decide +kernel
theorem d_Book_named_100 : decode b_Book_named 100 = .ok (.iconst 0, 1) := by decide +kernel
theorem d_Book_named_101 : decode b_Book_named 101 = .ok (.iconst 0, 1) := by decide +kernel
theorem d_Book_named_102 : decode b_Book_named 102 = .ok (.invokevirtual 271, 3) := by decide +kernel
theorem d_Book_named_105 : decode b_Book_named 105 = .ok (.ireturn, 1) := by decide +kernel
theorem d_Book_named_106 : decode b_Book_named 106 = .ok (.aload_n 0, 1) := by decide +kernel
theorem d_Book_named_107 : decode b_Book_named 107 = .ok (.getfield 32, 3) := by decide +kernel
theorem d_Book_named_110 : decode b_Book_named 110 = .ok (.iload 4, 2) := by decide +kernel
theorem d_Book_named_112 : decode b_Book_named 112 = .ok (.baload, 1) := by decide +kernel
theorem d_Book_named_113 : decode b_Book_named 113 = .ok (.ifCond .ne (20), 3) := by decide +kernel
theorem d_Book_named_116 : decode b_Book_named 116 = .ok (.aload_n 0, 1) := by decide +kernel
theorem d_Book_named_117 : decode b_Book_named 117 = .ok (.iconst 2, 1) := by decide +kernel
theorem d_Book_named_118 : decode b_Book_named 118 = .ok (.iload 4, 2) := by decide +kernel
theorem d_Book_named_120 : decode b_Book_named 120 = .ok (.iconst 0, 1) := by decide +kernel
theorem d_Book_named_121 : decode b_Book_named 121 = .ok (.iconst 0, 1) := by decide +kernel
theorem d_Book_named_122 : decode b_Book_named 122 = .ok (.aload_n 0, 1) := by decide +kernel
theorem d_Book_named_123 : decode b_Book_named 123 = .ok (.getfield 23, 3) := by decide +kernel
theorem d_Book_named_126 : decode b_Book_named 126 = .ok (.iload 4, 2) := by decide +kernel
theorem d_Book_named_128 : decode b_Book_named 128 = .ok (.iaload, 1) := by decide +kernel
theorem d_Book_named_129 : decode b_Book_named 129 = .ok (.invokevirtual 271, 3) := by decide +kernel
theorem d_Book_named_132 : decode b_Book_named 132 = .ok (.ireturn, 1) := by decide +kernel
theorem d_Book_named_133 : decode b_Book_named 133 = .ok (.aload_n 0, 1) := by decide +kernel
theorem d_Book_named_134 : decode b_Book_named 134 = .ok (.getfield 151, 3) := by decide +kernel
theorem d_Book_named_137 : decode b_Book_named 137 = .ok (.bipush 91, 2) := by decide +kernel
theorem d_Book_named_139 : decode b_Book_named 139 = .ok (.if_icmp .eq (20), 3) := by decide +kernel
theorem d_Book_named_142 : decode b_Book_named 142 = .ok (.aload_n 0, 1) := by decide +kernel
theorem d_Book_named_143 : decode b_Book_named 143 = .ok (.iconst 2, 1) := by decide +kernel
theorem d_Book_named_144 : decode b_Book_named 144 = .ok (.iload_n 1, 1) := by decide +kernel
theorem d_Book_named_145 : decode b_Book_named 145 = .ok (.invokevirtual 267, 3) := by decide +kernel
theorem d_Book_named_148 : decode b_Book_named 148 = .ok (.aload_n 0, 1) := by decide +kernel
theorem d_Book_named_149 : decode b_Book_named 149 = .ok (.bipush 13, 2) := by decide +kernel
theorem d_Book_named_151 : decode b_Book_named 151 = .ok (.iconst 0, 1) := by decide +kernel
theorem d_Book_named_152 : decode b_Book_named 152 = .ok (.iconst 0, 1) := by decide +kernel
theorem d_Book_named_153 : decode b_Book_named 153 = .ok (.iconst 0, 1) := by decide +kernel
theorem d_Book_named_154 : decode b_Book_named 154 = .ok (.iconst 0, 1) := by decide +kernel
theorem d_Book_named_155 : decode b_Book_named 155 = .ok (.invokevirtual 271, 3) := by decide +kernel
theorem d_Book_named_158 : decode b_Book_named 158 = .ok (.ireturn, 1) := by decide +kernel
theorem d_Book_named_159 : decode b_Book_named 159 = .ok (.aload_n 0, 1) := by decide +kernel
theorem d_Book_named_160 : decode b_Book_named 160 = .ok (.invokevirtual 203, 3) := by decide +kernel
theorem d_Book_named_163 : decode b_Book_named 163 = .ok (.aload_n 0, 1) := by decide +kernel
theorem d_Book_named_164 : decode b_Book_named 164 = .ok (.dup, 1) := by decide +kernel
theorem d_Book_named_165 : decode b_Book_named 165 = .ok (.getfield 197, 3) := by decide +kernel
theorem d_Book_named_168 : decode b_Book_named 168 = .ok (.iconst 1, 1) := by decide +kernel
theorem d_Book_named_169 : decode b_Book_named 169 = .ok (.iadd, 1) := by decide +kernel
theorem d_Book_named_170 : decode b_Book_named 170 = .ok (.putfield 197, 3) := by decide +kernel
theorem d_Book_named_173 : decode b_Book_named 173 = .ok (.aload_n 0, 1) := by decide +kernel
theorem d_Book_named_174 : decode b_Book_named 174 = .ok (.invokevirtual 256, 3) := by decide +kernel
theorem d_Book_named_177 : decode b_Book_named 177 = .ok (.istore 5, 2) := by decide +kernel
theorem d_Book_named_179 : decode b_Book_named 179 = .ok (.aload_n 0, 1) := by decide +kernel
theorem d_Book_named_180 : decode b_Book_named 180 = .ok (.bipush 93, 2) := by decide +kernel
theorem d_Book_named_182 : decode b_Book_named 182 = .ok (.invokevirtual 259, 3) := by decide +kernel
theorem d_Book_named_185 : decode b_Book_named 185 = .ok (.aload_n 0, 1) := by decide +kernel
theorem d_Book_named_186 : decode b_Book_named 186 = .ok (.dup, 1) := by decide +kernel
theorem d_Book_named_187 : decode b_Book_named 187 = .ok (.getfield 197, 3) := by decide +kernel
theorem d_Book_named_190 : decode b_Book_named 190 = .ok (.iconst 1, 1) := by decide +kernel
theorem d_Book_named_191 : decode b_Book_named 191 = .ok (.isub, 1) := by decide +kernel
theorem d_Book_named_192 : decode b_Book_named 192 = .ok (.putfield 197, 3) := by decide +kernel
theorem d_Book_named_195 : decode b_Book_named 195 = .ok (.aload_n 0, 1) := by decide +kernel
theorem d_Book_named_196 : decode b_Book_named 196 = .ok (.iconst 3, 1) := by decide +kernel
theorem d_Book_named_197 : decode b_Book_named 197 = .ok (.iload 4, 2) := by decide +kernel
theorem d_Book_named_199 : decode b_Book_named 199 = .ok (.iload 5, 2) := by decide +kernel
theorem d_Book_named_201 : decode b_Book_named 201 = .ok (.iconst 0, 1) := by decide +kernel
theorem d_Book_named_202 : decode b_Book_named 202 = .ok (.aload_n 0, 1) := by decide +kernel
theorem d_Book_named_203 : decode b_Book_named 203 = .ok (.getfield 97, 3) := by decide +kernel
theorem d_Book_named_206 : decode b_Book_named 206 = .ok (.iload 5, 2) := by decide +kernel
theorem d_Book_named_208 : decode b_Book_named 208 = .ok (.iaload, 1) := by decide +kernel
theorem d_Book_named_209 : decode b_Book_named 209 = .ok (.ifCond .ne (7), 3) := by decide +kernel
theorem d_Book_named_212 : decode b_Book_named 212 = .ok (.iconst 0, 1) := by decide +kernel
theorem d_Book_named_213 : decode b_Book_named 213 = .ok (.goto (10), 3) := by decide +kernel
theorem d_Book_named_216 : decode b_Book_named 216 = .ok (.aload_n 0, 1) := by decide +kernel
theorem d_Book_named_217 : decode b_Book_named 217 = .ok (.getfield 23, 3) := by decide +kernel
theorem d_Book_named_220 : decode b_Book_named 220 = .ok (.iload 4, 2) := by decide +kernel
theorem d_Book_named_222 : decode b_Book_named 222 = .ok (.iaload, 1) := by decide +kernel
theorem d_Book_named_223 : decode b_Book_named 223 = .ok (.invokevirtual 271, 3) := by decide +kernel
theorem d_Book_named_226 : decode b_Book_named 226 = .ok (.ireturn, 1) := by decide +kernel
set_option maxHeartbeats 4000000 in
set_option maxRecDepth 100000 in
theorem c_Book_named_x (l : Launch) {dA : FieldType → ClassId} {D : va_G} {al : Nat → Nat} {ext : mv_Sh} {sk sv : Nat → Nat} (hi : mv_inj (mg dA D al ext)) (σ : mv_H) (f len th d n a1 a2 : Nat) (hf : d + f = 61) (hP : PS 74 len th d n a1 a2 σ) (hk : mv_i σ 74 4 = 1) (ihE : ∀ g, g + 1 = f → XE l dA D al ext sk sv 74 g) : mv_C l y_Book_named (Cond.code y_Book_named b_Book_named 6 (Option.some Jvm.ClassFile.FieldType.int) :: ma) ({ frames := 14 * f + 10, cells := 0, slots := 0, locals := 500 * f + 400 }) (mg dA D al ext) (mK sk sv) [.ref (al 74)] σ (mv_Ui (XO 74 len th d n a1 (10 * f) σ) ("MachineLoomModel$Book$Wrong", al 107) (BF 74 σ)) := by
  refine mv_C.ofV (cc := b_Book_named) (nL := 6) (ret := (Option.some Jvm.ClassFile.FieldType.int)) (by decide +kernel) rfl hi (Nat.le_of_ble_eq_true rfl) ?_
  intro p e s m below meth c B hNs hr hnm hno
  have hS := XT.rf hP
  have hn0 := hP.le.1
  have hsp := hP.1.sp
  refine mv_aload_n (pc := 0) B d_Book_named_0 rfl 0 rfl ?_
  refine mv_getI (pc := 1) (ci := 12) (C := R_Book) (T := F_Book) (N := 65) B 5 rfl rfl (by decide) i_Book (B.2.2.2.1 _ k_1848) rfl d_Book_named_1 ?_
  refine mv_istore_n (pc := 4) B d_Book_named_4 rfl (by decide) rfl ?_
  refine mv_aload_n (pc := 5) B d_Book_named_5 rfl 1 rfl ?_
  refine mv_getI (pc := 6) (ci := 12) (C := R_Book) (T := F_Book) (N := 65) B 6 rfl rfl (by decide) i_Book (B.2.2.2.1 _ k_1849) rfl d_Book_named_6 ?_
  refine mv_istore_n (pc := 9) B d_Book_named_9 rfl (by decide) rfl ?_
  refine mv_aload_n (pc := 10) B d_Book_named_10 rfl 2 rfl ?_
  refine mv_callVUv (pc := 11) (n := 0) (ci := 12) (C := R_Book) B (mK_ok sk sv) hNs rfl rfl (c_Book_pass_x l hi _ len _ _ hS.P.1) rfl (ma_goodc kc_Book_pass) (B.2.2.2.1 _ k_2173) (B.2.2.2.1 _ k_2175) (B.2.2.2.1 _ ks_90) (B.2.2.2.1 _ k_13) ⟨by decide +kernel, by decide +kernel, by decide +kernel⟩ rfl d_Book_named_11 rfl (Nat.le_of_ble_eq_true rfl) ⟨by first | decide | (dsimp only; omega), by first | decide | (dsimp only; omega)⟩ ⟨Nat.le_refl _, Nat.le_refl _⟩ ⟨Nat.le_refl _, Nat.le_refl _⟩ (mv_noH hno _) (fun τ9 g9 => Or.inr ⟨rfl, hS.1.2.1.bf.tr g9.bf⟩) (fun σ11 h11 => ?_)
  have w11 := hS.P.w (by rw [hk]; decide)
  obtain ⟨d11, t11, u11, q11, g11⟩ := h11
  rw [hS.P.2.1] at d11
  have hL0 := hS.le
  have hS := hS.pass q11 g11
  have hM := hS.P.2.2.2.2.2
  have hz := hS.P.1.1.2.2.1
  have hl := hS.P.le.2.2.2
  have hq0 := hsp.1
  refine mv_aload_n (pc := 14) B d_Book_named_14 rfl 2 rfl ?_
  refine mv_iload_n (pc := 15) B d_Book_named_15 rfl 1 rfl ?_
  refine mv_iload_n (pc := 16) B d_Book_named_16 rfl 0 rfl ?_
  refine mv_callVi (pc := 17) (n := 2) (ci := 12) (C := R_Book) B (mK_ok sk sv) hNs rfl rfl (c_Book_let_x l hi _ _ _ len hS.R hl hM.2.1 hsp) rfl (ma_goodc kc_Book_let) (B.2.2.2.1 _ k_2305) (B.2.2.2.1 _ k_2307) (B.2.2.2.1 _ ks_116) (B.2.2.2.1 _ k_13) ⟨by decide +kernel, by decide +kernel, by decide +kernel⟩ rfl d_Book_named_17 rfl (Nat.le_of_ble_eq_true rfl) ⟨by first | decide | (dsimp only; omega), by first | decide | (dsimp only; omega)⟩ ⟨Nat.le_refl _, Nat.le_refl _⟩ ⟨Nat.le_refl _, Nat.le_refl _⟩ (mv_noH hno _) (fun v17 σ17 h17 => ?_)
  obtain ⟨e17, z17⟩ := h17
  have e17 := e17.symm
  subst e17
  refine mv_istore_n (pc := 20) B d_Book_named_20 rfl (by decide) rfl ?_
  refine mv_iload_n (pc := 21) B d_Book_named_21 rfl 0 rfl ?_
  refine mv_if_lt (pc := 22) (tgt := 45) B d_Book_named_22 rfl (fun h22 => ?_) (fun h22 => ?_)
  · skip
    refine mv_aload_n (pc := 45) B d_Book_named_45 rfl 3 rfl ?_
    refine mv_iload_n (pc := 46) B d_Book_named_46 rfl 2 rfl ?_
    refine mv_iload_n (pc := 47) B d_Book_named_47 rfl 1 rfl ?_
    refine mv_callVi (pc := 48) (n := 2) (ci := 12) (C := R_Book) B (mK_ok sk sv) hNs rfl rfl (c_Book_isField_x l hi _ _ _ len hS.R hz hl hM.2.2 hq0) rfl (ma_goodc kc_Book_isField) (B.2.2.2.1 _ k_2309) (B.2.2.2.1 _ k_2311) (B.2.2.2.1 _ ks_117) (B.2.2.2.1 _ k_13) ⟨by decide +kernel, by decide +kernel, by decide +kernel⟩ rfl d_Book_named_48 rfl (Nat.le_of_ble_eq_true rfl) ⟨by first | decide | (dsimp only; omega), by first | decide | (dsimp only; omega)⟩ ⟨Nat.le_refl _, Nat.le_refl _⟩ ⟨Nat.le_refl _, Nat.le_refl _⟩ (mv_noH hno _) (fun v48 σ48 h48 => ?_)
    obtain ⟨e48, z48⟩ := h48
    have e48 := e48.symm
    subst e48
    refine mv_if_eq (pc := 51) (tgt := 76) B d_Book_named_51 rfl (fun h51 => ?_) (fun h51 => ?_)
    · skip
      refine mv_aload_n (pc := 76) B d_Book_named_76 rfl 3 rfl ?_
      refine mv_iload_n (pc := 77) B d_Book_named_77 rfl 2 rfl ?_
      refine mv_iload_n (pc := 78) B d_Book_named_78 rfl 1 rfl ?_
      refine mv_callVi (pc := 79) (n := 2) (ci := 12) (C := R_Book) B (mK_ok sk sv) hNs rfl rfl (c_Book_thing_x l hi _ _ _ len hS.R hl hM.1 hsp) rfl (ma_goodc kc_Book_thing) (B.2.2.2.1 _ k_2212) (B.2.2.2.1 _ k_2214) (B.2.2.2.1 _ ks_97) (B.2.2.2.1 _ k_13) ⟨by decide +kernel, by decide +kernel, by decide +kernel⟩ rfl d_Book_named_79 rfl (Nat.le_of_ble_eq_true rfl) ⟨by first | decide | (dsimp only; omega), by first | decide | (dsimp only; omega)⟩ ⟨Nat.le_refl _, Nat.le_refl _⟩ ⟨Nat.le_refl _, Nat.le_refl _⟩ (mv_noH hno _) (fun v79 σ79 h79 => ?_)
      obtain ⟨e79, z79⟩ := h79
      have e79 := e79.symm
      subst e79
      refine mv_istore (pc := 82) B d_Book_named_82 (by decide) rfl ?_
      refine mv_iload (pc := 84) B d_Book_named_84 0 rfl ?_
      refine mv_if_ge (pc := 86) (tgt := 106) B d_Book_named_86 rfl (fun h86 => ?_) (fun h86 => ?_)
      · skip
        have y79 := z79.resolve_left (fun z => absurd h86 (by rw [z]; decide))
        have hM1 := hM.1.2.1
        have hth := hS.P.2.2.2.2.1
        refine mv_aload_n (pc := 106) B d_Book_named_106 rfl 4 rfl ?_
        refine mv_getR (pc := 107) (ci := 12) (C := R_Book) (T := F_Book) (N := 65) B 15 rfl rfl (by decide) i_Book (B.2.2.2.1 _ k_1858) rfl (hS.R.1 _ 15 _ rfl) d_Book_named_107 ?_
        refine mv_iload (pc := 110) B d_Book_named_110 0 rfl ?_
        refine mv_zald (pc := 112) B rfl (i32_in y79.1 (show v79.toInt < 4100 by omega)) d_Book_named_112 ?_
        refine mv_if_ne (pc := 113) (tgt := 133) B d_Book_named_113 rfl (fun h113 => ?_) (fun h113 => ?_)
        · skip
          refine mv_aload_n (pc := 133) B d_Book_named_133 rfl 4 rfl ?_
          refine mv_getI (pc := 134) (ci := 12) (C := R_Book) (T := F_Book) (N := 65) B 4 rfl rfl (by decide) i_Book (B.2.2.2.1 _ k_1847) rfl d_Book_named_134 ?_
          refine mv_bipush (pc := 137) (v := 91) B d_Book_named_137 (by decide) ?_
          refine mv_icmp_eq (pc := 139) (tgt := 159) B d_Book_named_139 rfl (fun h139 => ?_) (fun h139 => ?_)
          · skip
            refine mv_aload_n (pc := 159) B d_Book_named_159 rfl 4 rfl ?_
            refine mv_callVUv (pc := 160) (n := 0) (ci := 12) (C := R_Book) B (mK_ok sk sv) hNs rfl rfl (c_Book_pass_x l hi _ len _ _ hS.P.1) rfl (ma_goodc kc_Book_pass) (B.2.2.2.1 _ k_2173) (B.2.2.2.1 _ k_2175) (B.2.2.2.1 _ ks_90) (B.2.2.2.1 _ k_13) ⟨by decide +kernel, by decide +kernel, by decide +kernel⟩ rfl d_Book_named_160 rfl (Nat.le_of_ble_eq_true rfl) ⟨by first | decide | (dsimp only; omega), by first | decide | (dsimp only; omega)⟩ ⟨Nat.le_refl _, Nat.le_refl _⟩ ⟨Nat.le_refl _, Nat.le_refl _⟩ (mv_noH hno _) (fun τ9 g9 => Or.inr ⟨rfl, hS.1.2.1.bf.tr g9.bf⟩) (fun σ160 h160 => ?_)
            have w160 := hS.P.w (by rw [h139]; decide)
            obtain ⟨d160, t160, u160, q160, g160⟩ := h160
            rw [hS.P.2.1] at d160
            have hL0 := hS.le
            have hS := hS.pass q160 g160
            refine mv_aload_n (pc := 163) B d_Book_named_163 rfl 4 rfl ?_
            refine mv_dup (pc := 164) B d_Book_named_164 rfl ?_
            refine mv_getI (pc := 165) (ci := 12) (C := R_Book) (T := F_Book) (N := 65) B 8 rfl rfl (by decide) i_Book (B.2.2.2.1 _ k_1851) rfl d_Book_named_165 ?_
            refine mv_iconst (pc := 168) (v := 1) B d_Book_named_168 (by decide) ?_
            refine mv_iadd (pc := 169) B d_Book_named_169 ?_
            refine mv_putI (pc := 170) (ci := 12) (C := R_Book) (T := F_Book) (N := 65) B 8 rfl rfl (by decide) i_Book t_Book_ok n_Book (B.2.2.2.1 _ k_1851) rfl rfl rfl rfl d_Book_named_170 ?_
            refine mv_gen (fun S173 eS173 => ?_)
            have hS := hS.dep (hS.P.up (by omega))
            rw [← eS173] at hS
            clear eS173
            refine mv_aload_n (pc := 173) B d_Book_named_173 rfl 4 rfl ?_
            refine mv_callVUi (pc := 174) (n := 0) (ci := 12) (C := R_Book) B (mK_ok sk sv) hNs rfl rfl (ihE (f - 1) (by omega) _ len th _ _ _ _ (by omega) hS.P) rfl (ma_goodc kc_Book_expression) (B.2.2.2.1 _ k_2245) (B.2.2.2.1 _ k_2247) (B.2.2.2.1 _ ks_104) (B.2.2.2.1 _ k_13) ⟨by decide +kernel, by decide +kernel, by decide +kernel⟩ rfl d_Book_named_174 rfl (Nat.le_of_ble_eq_true rfl) ⟨by first | decide | (dsimp only; omega), by first | decide | (dsimp only; omega)⟩ ⟨Nat.le_refl _, Nat.le_refl _⟩ ⟨Nat.le_refl _, Nat.le_refl _⟩ (mv_noH hno _) (fun τ9 g9 => Or.inr ⟨rfl, hS.1.2.1.bf.tr g9⟩) (fun v174 σ174 h174 => ?_)
            obtain ⟨n174, t174, u174, s174, m174, r174, x174⟩ := h174
            have i174 := s174.2.2.2.1
            have hS := hS.sub s174 x174
            have hL174 := hS.le
            refine mv_istore (pc := 177) B d_Book_named_177 (by decide) rfl ?_
            refine mv_aload_n (pc := 179) B d_Book_named_179 rfl 5 rfl ?_
            refine mv_bipush (pc := 180) (v := 93) B d_Book_named_180 (by decide) ?_
            refine mv_callVUv (pc := 182) (n := 1) (ci := 12) (C := R_Book) B (mK_ok sk sv) hNs rfl rfl (c_Book_need_x l hi _ _ len _ _ hS.P.1) rfl (ma_goodc kc_Book_need) (B.2.2.2.1 _ k_2177) (B.2.2.2.1 _ k_2179) (B.2.2.2.1 _ ks_91) (B.2.2.2.1 _ k_13) ⟨by decide +kernel, by decide +kernel, by decide +kernel⟩ rfl d_Book_named_182 rfl (Nat.le_of_ble_eq_true rfl) ⟨by first | decide | (dsimp only; omega), by first | decide | (dsimp only; omega)⟩ ⟨Nat.le_refl _, Nat.le_refl _⟩ ⟨Nat.le_refl _, Nat.le_refl _⟩ (mv_noH hno _) (fun τ9 g9 => Or.inr ⟨rfl, hS.1.2.1.bf.tr g9.bf⟩) (fun σ182 h182 => ?_)
            obtain ⟨k182, d182, t182, u182, q182, g182⟩ := h182
            have w182 := hS.P.w (by rw [k182]; decide)
            rw [hS.P.2.1] at d182
            have hL0 := hS.le
            have hS := hS.pass q182 g182
            refine mv_aload_n (pc := 185) B d_Book_named_185 rfl 5 rfl ?_
            refine mv_dup (pc := 186) B d_Book_named_186 rfl ?_
            refine mv_getI (pc := 187) (ci := 12) (C := R_Book) (T := F_Book) (N := 65) B 8 rfl rfl (by decide) i_Book (B.2.2.2.1 _ k_1851) rfl d_Book_named_187 ?_
            refine mv_iconst (pc := 190) (v := 1) B d_Book_named_190 (by decide) ?_
            refine mv_isub (pc := 191) B d_Book_named_191 ?_
            refine mv_putI (pc := 192) (ci := 12) (C := R_Book) (T := F_Book) (N := 65) B 8 rfl rfl (by decide) i_Book t_Book_ok n_Book (B.2.2.2.1 _ k_1851) rfl rfl rfl rfl d_Book_named_192 ?_
            refine mv_gen (fun S195 eS195 => ?_)
            have hS := hS.dep hS.P.dn
            rw [← eS195] at hS
            clear eS195
            refine mv_aload_n (pc := 195) B d_Book_named_195 rfl 5 rfl ?_
            refine mv_iconst (pc := 196) (v := 3) B d_Book_named_196 (by decide) ?_
            refine mv_iload (pc := 197) B d_Book_named_197 1 rfl ?_
            refine mv_iload (pc := 199) B d_Book_named_199 0 rfl ?_
            refine mv_iconst (pc := 201) (v := 0) B d_Book_named_201 (by decide) ?_
            refine mv_aload_n (pc := 202) B d_Book_named_202 rfl 5 rfl ?_
            refine mv_getR (pc := 203) (ci := 12) (C := R_Book) (T := F_Book) (N := 65) B 45 rfl rfl (by decide) i_Book (B.2.2.2.1 _ k_1894) rfl (hS.R.1 _ 45 _ rfl) d_Book_named_203 ?_
            refine mv_iload (pc := 206) B d_Book_named_206 0 rfl ?_
            refine mv_iald (pc := 208) B rfl (i32_in (show 0 ≤ v174.toInt by omega) (show v174.toInt < 33000 by omega)) d_Book_named_208 ?_
            refine mv_if_ne (pc := 209) (tgt := 216) B d_Book_named_209 rfl (fun h209 => ?_) (fun h209 => ?_)
            · skip
              refine mv_aload_n (pc := 216) B d_Book_named_216 rfl 5 rfl ?_
              refine mv_getR (pc := 217) (ci := 12) (C := R_Book) (T := F_Book) (N := 65) B 12 rfl rfl (by decide) i_Book (B.2.2.2.1 _ k_1855) rfl (hS.R.1 _ 12 _ rfl) d_Book_named_217 ?_
              refine mv_iload (pc := 220) B d_Book_named_220 1 rfl ?_
              refine mv_iald (pc := 222) B rfl (i32_in y79.1 (show v79.toInt < 4100 by omega)) d_Book_named_222 ?_
              refine mv_callVi (pc := 223) (n := 5) (ci := 12) (C := R_Book) B (mK_ok sk sv) hNs rfl rfl (c_Book_node_x l hi _ _ _ _ _ _ hS.R (by have := hS.le; omega) (by have := hS.le; omega)) rfl (ma_goodc kc_Book_node) (B.2.2.2.1 _ k_2269) (B.2.2.2.1 _ k_2271) (B.2.2.2.1 _ ks_110) (B.2.2.2.1 _ k_13) ⟨by decide +kernel, by decide +kernel, by decide +kernel⟩ rfl d_Book_named_223 rfl (Nat.le_of_ble_eq_true rfl) ⟨by first | decide | (dsimp only; omega), by first | decide | (dsimp only; omega)⟩ ⟨Nat.le_refl _, Nat.le_refl _⟩ ⟨Nat.le_refl _, Nat.le_refl _⟩ (mv_noH hno _) (fun v223 σ223 h223 => ?_)
              obtain ⟨e223, z223⟩ := h223
              have hL223 := hS.le
              have hN := hS.nodeE z223 (lo := n) (R := 10 * f) (by omega) hn0 (fun zz => XR.cell (hS.2.at 0 rfl zz) m174 hS.P.nn ⟨y79.1, by omega⟩ r174 (by omega))
              have hv223 : v223.toInt + 1 = ((n174 + 1 : Nat) : Int) := by rw [e223]; omega
              exact mv_iret (pc := 226) B hr rfl d_Book_named_226 (Nat.le_refl _) (Nat.le_refl _) (Or.inl ⟨_, rfl, hN.out hv223 (by omega) 0 rfl (Nat.le_refl _)⟩)
            · skip
              refine mv_iconst (pc := 212) (v := 0) B d_Book_named_212 (by decide) ?_
              refine mv_goto (pc := 213) (tgt := 223) B d_Book_named_213 rfl ?_
              refine mv_callVi (pc := 223) (n := 5) (ci := 12) (C := R_Book) B (mK_ok sk sv) hNs rfl rfl (c_Book_node_x l hi _ _ _ _ _ _ hS.R (by have := hS.le; omega) (by have := hS.le; omega)) rfl (ma_goodc kc_Book_node) (B.2.2.2.1 _ k_2269) (B.2.2.2.1 _ k_2271) (B.2.2.2.1 _ ks_110) (B.2.2.2.1 _ k_13) ⟨by decide +kernel, by decide +kernel, by decide +kernel⟩ rfl d_Book_named_223 rfl (Nat.le_of_ble_eq_true rfl) ⟨by first | decide | (dsimp only; omega), by first | decide | (dsimp only; omega)⟩ ⟨Nat.le_refl _, Nat.le_refl _⟩ ⟨Nat.le_refl _, Nat.le_refl _⟩ (mv_noH hno _) (fun v223 σ223 h223 => ?_)
              obtain ⟨e223, z223⟩ := h223
              have hL223 := hS.le
              have hN := hS.nodeE z223 (lo := n) (R := 10 * f) (by omega) hn0 (fun zz => XR.cell (hS.2.at 0 rfl zz) m174 hS.P.nn ⟨y79.1, by omega⟩ r174 (by omega))
              have hv223 : v223.toInt + 1 = ((n174 + 1 : Nat) : Int) := by rw [e223]; omega
              exact mv_iret (pc := 226) B hr rfl d_Book_named_226 (Nat.le_refl _) (Nat.le_refl _) (Or.inl ⟨_, rfl, hN.out hv223 (by omega) 0 rfl (Nat.le_refl _)⟩)
          · skip
            refine mv_aload_n (pc := 142) B d_Book_named_142 rfl 4 rfl ?_
            refine mv_iconst (pc := 143) (v := 2) B d_Book_named_143 (by decide) ?_
            refine mv_iload_n (pc := 144) B d_Book_named_144 rfl 3 rfl ?_
            refine mv_callVv (pc := 145) (n := 2) (ci := 12) (C := R_Book) B (mK_ok sk sv) hNs rfl rfl (c_Book_fault_x l hi _ _ _ (by decide)) rfl (ma_goodc kc_Book_fault) (B.2.2.2.1 _ k_2185) (B.2.2.2.1 _ k_2187) (B.2.2.2.1 _ ks_92) (B.2.2.2.1 _ k_13) ⟨by decide +kernel, by decide +kernel, by decide +kernel⟩ rfl d_Book_named_145 rfl (Nat.le_of_ble_eq_true rfl) ⟨by first | decide | (dsimp only; omega), by first | decide | (dsimp only; omega)⟩ ⟨Nat.le_refl _, Nat.le_refl _⟩ ⟨Nat.le_refl _, Nat.le_refl _⟩ (mv_noH hno _) (fun σ145 h145 => ?_)
            obtain ⟨f145, n145, k145⟩ := h145
            have hS := hS.ft (FT.rf.of ⟨f145, n145, k145⟩)
            refine mv_aload_n (pc := 148) B d_Book_named_148 rfl 4 rfl ?_
            refine mv_bipush (pc := 149) (v := 13) B d_Book_named_149 (by decide) ?_
            refine mv_iconst (pc := 151) (v := 0) B d_Book_named_151 (by decide) ?_
            refine mv_iconst (pc := 152) (v := 0) B d_Book_named_152 (by decide) ?_
            refine mv_iconst (pc := 153) (v := 0) B d_Book_named_153 (by decide) ?_
            refine mv_iconst (pc := 154) (v := 0) B d_Book_named_154 (by decide) ?_
            refine mv_callVi (pc := 155) (n := 5) (ci := 12) (C := R_Book) B (mK_ok sk sv) hNs rfl rfl (c_Book_node_x l hi _ _ _ _ _ _ hS.R (by have := hS.le; omega) (by have := hS.le; omega)) rfl (ma_goodc kc_Book_node) (B.2.2.2.1 _ k_2269) (B.2.2.2.1 _ k_2271) (B.2.2.2.1 _ ks_110) (B.2.2.2.1 _ k_13) ⟨by decide +kernel, by decide +kernel, by decide +kernel⟩ rfl d_Book_named_155 rfl (Nat.le_of_ble_eq_true rfl) ⟨by first | decide | (dsimp only; omega), by first | decide | (dsimp only; omega)⟩ ⟨Nat.le_refl _, Nat.le_refl _⟩ ⟨Nat.le_refl _, Nat.le_refl _⟩ (mv_noH hno _) (fun v155 σ155 h155 => ?_)
            obtain ⟨e155, z155⟩ := h155
            have hL155 := hS.le
            have hN := hS.nodeE z155 (lo := n) (R := 10 * f) (by omega) hn0 (fun zz => absurd zz n145)
            have hv155 : v155.toInt + 1 = ((n + 1 : Nat) : Int) := by rw [e155]; omega
            exact mv_iret (pc := 158) B hr rfl d_Book_named_158 (Nat.le_refl _) (Nat.le_refl _) (Or.inl ⟨_, rfl, hN.out hv155 (by omega) 0 rfl (Nat.le_refl _)⟩)
        · skip
          refine mv_aload_n (pc := 116) B d_Book_named_116 rfl 4 rfl ?_
          refine mv_iconst (pc := 117) (v := 2) B d_Book_named_117 (by decide) ?_
          refine mv_iload (pc := 118) B d_Book_named_118 0 rfl ?_
          refine mv_iconst (pc := 120) (v := 0) B d_Book_named_120 (by decide) ?_
          refine mv_iconst (pc := 121) (v := 0) B d_Book_named_121 (by decide) ?_
          refine mv_aload_n (pc := 122) B d_Book_named_122 rfl 4 rfl ?_
          refine mv_getR (pc := 123) (ci := 12) (C := R_Book) (T := F_Book) (N := 65) B 12 rfl rfl (by decide) i_Book (B.2.2.2.1 _ k_1855) rfl (hS.R.1 _ 12 _ rfl) d_Book_named_123 ?_
          refine mv_iload (pc := 126) B d_Book_named_126 0 rfl ?_
          refine mv_iald (pc := 128) B rfl (i32_in y79.1 (show v79.toInt < 4100 by omega)) d_Book_named_128 ?_
          refine mv_callVi (pc := 129) (n := 5) (ci := 12) (C := R_Book) B (mK_ok sk sv) hNs rfl rfl (c_Book_node_x l hi _ _ _ _ _ _ hS.R (by have := hS.le; omega) (by have := hS.le; omega)) rfl (ma_goodc kc_Book_node) (B.2.2.2.1 _ k_2269) (B.2.2.2.1 _ k_2271) (B.2.2.2.1 _ ks_110) (B.2.2.2.1 _ k_13) ⟨by decide +kernel, by decide +kernel, by decide +kernel⟩ rfl d_Book_named_129 rfl (Nat.le_of_ble_eq_true rfl) ⟨by first | decide | (dsimp only; omega), by first | decide | (dsimp only; omega)⟩ ⟨Nat.le_refl _, Nat.le_refl _⟩ ⟨Nat.le_refl _, Nat.le_refl _⟩ (mv_noH hno _) (fun v129 σ129 h129 => ?_)
          obtain ⟨e129, z129⟩ := h129
          have hL129 := hS.le
          have hN := hS.nodeE z129 (lo := n) (R := 10 * f) (by omega) hn0 (fun zz => XR.leaf hS.P.nn (Or.inr (Or.inr (Or.inl ⟨by decide, y79.1, by omega⟩))))
          have hv129 : v129.toInt + 1 = ((n + 1 : Nat) : Int) := by rw [e129]; omega
          exact mv_iret (pc := 132) B hr rfl d_Book_named_132 (Nat.le_refl _) (Nat.le_refl _) (Or.inl ⟨_, rfl, hN.out hv129 (by omega) 0 rfl (Nat.le_refl _)⟩)
      · skip
        refine mv_aload_n (pc := 89) B d_Book_named_89 rfl 4 rfl ?_
        refine mv_iconst (pc := 90) (v := 2) B d_Book_named_90 (by decide) ?_
        refine mv_iload_n (pc := 91) B d_Book_named_91 rfl 3 rfl ?_
        refine mv_callVv (pc := 92) (n := 2) (ci := 12) (C := R_Book) B (mK_ok sk sv) hNs rfl rfl (c_Book_fault_x l hi _ _ _ (by decide)) rfl (ma_goodc kc_Book_fault) (B.2.2.2.1 _ k_2185) (B.2.2.2.1 _ k_2187) (B.2.2.2.1 _ ks_92) (B.2.2.2.1 _ k_13) ⟨by decide +kernel, by decide +kernel, by decide +kernel⟩ rfl d_Book_named_92 rfl (Nat.le_of_ble_eq_true rfl) ⟨by first | decide | (dsimp only; omega), by first | decide | (dsimp only; omega)⟩ ⟨Nat.le_refl _, Nat.le_refl _⟩ ⟨Nat.le_refl _, Nat.le_refl _⟩ (mv_noH hno _) (fun σ92 h92 => ?_)
        obtain ⟨f92, n92, k92⟩ := h92
        have hS := hS.ft (FT.rf.of ⟨f92, n92, k92⟩)
        refine mv_aload_n (pc := 95) B d_Book_named_95 rfl 4 rfl ?_
        refine mv_bipush (pc := 96) (v := 13) B d_Book_named_96 (by decide) ?_
        refine mv_iconst (pc := 98) (v := 0) B d_Book_named_98 (by decide) ?_
        refine mv_iconst (pc := 99) (v := 0) B d_Book_named_99 (by decide) ?_
        refine mv_iconst (pc := 100) (v := 0) B d_Book_named_100 (by decide) ?_
        refine mv_iconst (pc := 101) (v := 0) B d_Book_named_101 (by decide) ?_
        refine mv_callVi (pc := 102) (n := 5) (ci := 12) (C := R_Book) B (mK_ok sk sv) hNs rfl rfl (c_Book_node_x l hi _ _ _ _ _ _ hS.R (by have := hS.le; omega) (by have := hS.le; omega)) rfl (ma_goodc kc_Book_node) (B.2.2.2.1 _ k_2269) (B.2.2.2.1 _ k_2271) (B.2.2.2.1 _ ks_110) (B.2.2.2.1 _ k_13) ⟨by decide +kernel, by decide +kernel, by decide +kernel⟩ rfl d_Book_named_102 rfl (Nat.le_of_ble_eq_true rfl) ⟨by first | decide | (dsimp only; omega), by first | decide | (dsimp only; omega)⟩ ⟨Nat.le_refl _, Nat.le_refl _⟩ ⟨Nat.le_refl _, Nat.le_refl _⟩ (mv_noH hno _) (fun v102 σ102 h102 => ?_)
        obtain ⟨e102, z102⟩ := h102
        have hL102 := hS.le
        have hN := hS.nodeE z102 (lo := n) (R := 10 * f) (by omega) hn0 (fun zz => absurd zz n92)
        have hv102 : v102.toInt + 1 = ((n + 1 : Nat) : Int) := by rw [e102]; omega
        exact mv_iret (pc := 105) B hr rfl d_Book_named_105 (Nat.le_refl _) (Nat.le_refl _) (Or.inl ⟨_, rfl, hN.out hv102 (by omega) 0 rfl (Nat.le_refl _)⟩)
    · skip
      refine mv_aload_n (pc := 54) B d_Book_named_54 rfl 3 rfl ?_
      refine mv_iconst (pc := 55) (v := 4) B d_Book_named_55 (by decide) ?_
      refine mv_aload_n (pc := 56) B d_Book_named_56 rfl 3 rfl ?_
      refine mv_iload_n (pc := 57) B d_Book_named_57 rfl 2 rfl ?_
      refine mv_callVi (pc := 58) (n := 1) (ci := 12) (C := R_Book) B (mK_ok sk sv) hNs rfl rfl (c_Book_look_x l hi _ _ len hS.R hz hl hq0) rfl (ma_goodc kc_Book_look) (B.2.2.2.1 _ k_2122) (B.2.2.2.1 _ k_2124) (B.2.2.2.1 _ ks_82) (B.2.2.2.1 _ k_13) ⟨by decide +kernel, by decide +kernel, by decide +kernel⟩ rfl d_Book_named_58 rfl (Nat.le_of_ble_eq_true rfl) ⟨by first | decide | (dsimp only; omega), by first | decide | (dsimp only; omega)⟩ ⟨Nat.le_refl _, Nat.le_refl _⟩ ⟨Nat.le_refl _, Nat.le_refl _⟩ (mv_noH hno _) (fun v58 σ58 h58 => ?_)
      obtain ⟨e58, -⟩ := h58
      have e58 := e58.symm
      subst e58
      refine mv_iconst (pc := 61) (v := 0) B d_Book_named_61 (by decide) ?_
      refine mv_iconst (pc := 62) (v := 0) B d_Book_named_62 (by decide) ?_
      refine mv_aload_n (pc := 63) B d_Book_named_63 rfl 3 rfl ?_
      refine mv_aload_n (pc := 64) B d_Book_named_64 rfl 3 rfl ?_
      refine mv_iload_n (pc := 65) B d_Book_named_65 rfl 2 rfl ?_
      refine mv_callVi (pc := 66) (n := 1) (ci := 12) (C := R_Book) B (mK_ok sk sv) hNs rfl rfl (c_Book_look_x l hi _ _ len hS.R hz hl hq0) rfl (ma_goodc kc_Book_look) (B.2.2.2.1 _ k_2122) (B.2.2.2.1 _ k_2124) (B.2.2.2.1 _ ks_82) (B.2.2.2.1 _ k_13) ⟨by decide +kernel, by decide +kernel, by decide +kernel⟩ rfl d_Book_named_66 rfl (Nat.le_of_ble_eq_true rfl) ⟨by first | decide | (dsimp only; omega), by first | decide | (dsimp only; omega)⟩ ⟨Nat.le_refl _, Nat.le_refl _⟩ ⟨Nat.le_refl _, Nat.le_refl _⟩ (mv_noH hno _) (fun v66 σ66 h66 => ?_)
      obtain ⟨e66, -⟩ := h66
      have e66 := e66.symm
      subst e66
      refine mv_callVi (pc := 69) (n := 1) (ci := 12) (C := R_Book) B (mK_ok sk sv) hNs rfl rfl (c_Book_letterBits_x l hi _ _ hS.R hM.2.2) rfl (ma_goodc kc_Book_letterBits) (B.2.2.2.1 _ k_2313) (B.2.2.2.1 _ k_2315) (B.2.2.2.1 _ ks_118) (B.2.2.2.1 _ k_13) ⟨by decide +kernel, by decide +kernel, by decide +kernel⟩ rfl d_Book_named_69 rfl (Nat.le_of_ble_eq_true rfl) ⟨by first | decide | (dsimp only; omega), by first | decide | (dsimp only; omega)⟩ ⟨Nat.le_refl _, Nat.le_refl _⟩ ⟨Nat.le_refl _, Nat.le_refl _⟩ (mv_noH hno _) (fun v69 σ69 h69 => ?_)
      have e69 := h69.symm
      subst e69
      refine mv_callVi (pc := 72) (n := 5) (ci := 12) (C := R_Book) B (mK_ok sk sv) hNs rfl rfl (c_Book_node_x l hi _ _ _ _ _ _ hS.R (by have := hS.le; omega) (by have := hS.le; omega)) rfl (ma_goodc kc_Book_node) (B.2.2.2.1 _ k_2269) (B.2.2.2.1 _ k_2271) (B.2.2.2.1 _ ks_110) (B.2.2.2.1 _ k_13) ⟨by decide +kernel, by decide +kernel, by decide +kernel⟩ rfl d_Book_named_72 rfl (Nat.le_of_ble_eq_true rfl) ⟨by first | decide | (dsimp only; omega), by first | decide | (dsimp only; omega)⟩ ⟨Nat.le_refl _, Nat.le_refl _⟩ ⟨Nat.le_refl _, Nat.le_refl _⟩ (mv_noH hno _) (fun v72 σ72 h72 => ?_)
      obtain ⟨e72, z72⟩ := h72
      have hL72 := hS.le
      have hN := hS.nodeE z72 (lo := n) (R := 10 * f) (by omega) hn0 (fun zz => XR.leaf hS.P.nn (Or.inr (Or.inl (by decide))))
      have hv72 : v72.toInt + 1 = ((n + 1 : Nat) : Int) := by rw [e72]; omega
      exact mv_iret (pc := 75) B hr rfl d_Book_named_75 (Nat.le_refl _) (Nat.le_refl _) (Or.inl ⟨_, rfl, hN.out hv72 (by omega) 0 rfl (Nat.le_refl _)⟩)
  · skip
    have y17 := z17.resolve_left (fun z => h22 (by rw [z]; decide))
    have hM2 := hM.2.1.2.1
    have y18 := hM.2.1.2.2 v17.toNatClampNeg (by have := i32_cl y17.1; omega)
    refine mv_aload_n (pc := 25) B d_Book_named_25 rfl 3 rfl ?_
    refine mv_iconst (pc := 26) (v := 5) B d_Book_named_26 (by decide) ?_
    refine mv_aload_n (pc := 27) B d_Book_named_27 rfl 3 rfl ?_
    refine mv_getR (pc := 28) (ci := 12) (C := R_Book) (T := F_Book) (N := 65) B 34 rfl rfl (by decide) i_Book (B.2.2.2.1 _ k_1880) rfl (hS.R.1 _ 34 _ rfl) d_Book_named_28 ?_
    refine mv_iload_n (pc := 31) B d_Book_named_31 rfl 0 rfl ?_
    refine mv_iald (pc := 32) B rfl (i32_in y17.1 (show v17.toInt < 4100 by omega)) d_Book_named_32 ?_
    refine mv_iconst (pc := 33) (v := 0) B d_Book_named_33 (by decide) ?_
    refine mv_iconst (pc := 34) (v := 0) B d_Book_named_34 (by decide) ?_
    refine mv_aload_n (pc := 35) B d_Book_named_35 rfl 3 rfl ?_
    refine mv_getR (pc := 36) (ci := 12) (C := R_Book) (T := F_Book) (N := 65) B 33 rfl rfl (by decide) i_Book (B.2.2.2.1 _ k_1879) rfl (hS.R.1 _ 33 _ rfl) d_Book_named_36 ?_
    refine mv_iload_n (pc := 39) B d_Book_named_39 rfl 0 rfl ?_
    refine mv_iald (pc := 40) B rfl (i32_in y17.1 (show v17.toInt < 4100 by omega)) d_Book_named_40 ?_
    refine mv_callVi (pc := 41) (n := 5) (ci := 12) (C := R_Book) B (mK_ok sk sv) hNs rfl rfl (c_Book_node_x l hi _ _ _ _ _ _ hS.R (by have := hS.le; omega) (by have := hS.le; omega)) rfl (ma_goodc kc_Book_node) (B.2.2.2.1 _ k_2269) (B.2.2.2.1 _ k_2271) (B.2.2.2.1 _ ks_110) (B.2.2.2.1 _ k_13) ⟨by decide +kernel, by decide +kernel, by decide +kernel⟩ rfl d_Book_named_41 rfl (Nat.le_of_ble_eq_true rfl) ⟨by first | decide | (dsimp only; omega), by first | decide | (dsimp only; omega)⟩ ⟨Nat.le_refl _, Nat.le_refl _⟩ ⟨Nat.le_refl _, Nat.le_refl _⟩ (mv_noH hno _) (fun v41 σ41 h41 => ?_)
    obtain ⟨e41, z41⟩ := h41
    have hL41 := hS.le
    have hN := hS.nodeE z41 (lo := n) (R := 10 * f) (by omega) hn0 (fun zz => XR.leaf hS.P.nn (Or.inr (Or.inr (Or.inr ⟨by decide, y18.2.1, y18.2.2⟩))))
    have hv41 : v41.toInt + 1 = ((n + 1 : Nat) : Int) := by rw [e41]; omega
    exact mv_iret (pc := 44) B hr rfl d_Book_named_44 (Nat.le_refl _) (Nat.le_refl _) (Or.inl ⟨_, rfl, hN.out hv41 (by omega) 0 rfl (Nat.le_refl _)⟩)
set_option maxHeartbeats 4000000 in
set_option maxRecDepth 100000 in
theorem c_Book_named_y (l : Launch) {dA : FieldType → ClassId} {D : va_G} {al : Nat → Nat} {ext : mv_Sh} {sk sv : Nat → Nat} (hi : mv_inj (mg dA D al ext)) (σ : mv_H) (f len th d n a1 a2 : Nat) (hf : d + f = 61) (hP : PS 108 len th d n a1 a2 σ) (hk : mv_i σ 108 4 = 1) (ihE : ∀ g, g + 1 = f → XE l dA D al ext sk sv 108 g) : mv_C l y_Book_named (Cond.code y_Book_named b_Book_named 6 (Option.some Jvm.ClassFile.FieldType.int) :: ma) ({ frames := 14 * f + 10, cells := 0, slots := 0, locals := 500 * f + 400 }) (mg dA D al ext) (mK sk sv) [.ref (al 108)] σ (mv_Ui (XO 108 len th d n a1 (10 * f) σ) ("MachineLoomModel$Book$Wrong", al 141) (BF 108 σ)) := by
  refine mv_C.ofV (cc := b_Book_named) (nL := 6) (ret := (Option.some Jvm.ClassFile.FieldType.int)) (by decide +kernel) rfl hi (Nat.le_of_ble_eq_true rfl) ?_
  intro p e s m below meth c B hNs hr hnm hno
  have hS := XT.rf hP
  have hn0 := hP.le.1
  have hsp := hP.1.sp
  refine mv_aload_n (pc := 0) B d_Book_named_0 rfl 0 rfl ?_
  refine mv_getI (pc := 1) (ci := 12) (C := R_Book) (T := F_Book) (N := 65) B 5 rfl rfl (by decide) i_Book (B.2.2.2.1 _ k_1848) rfl d_Book_named_1 ?_
  refine mv_istore_n (pc := 4) B d_Book_named_4 rfl (by decide) rfl ?_
  refine mv_aload_n (pc := 5) B d_Book_named_5 rfl 1 rfl ?_
  refine mv_getI (pc := 6) (ci := 12) (C := R_Book) (T := F_Book) (N := 65) B 6 rfl rfl (by decide) i_Book (B.2.2.2.1 _ k_1849) rfl d_Book_named_6 ?_
  refine mv_istore_n (pc := 9) B d_Book_named_9 rfl (by decide) rfl ?_
  refine mv_aload_n (pc := 10) B d_Book_named_10 rfl 2 rfl ?_
  refine mv_callVUv (pc := 11) (n := 0) (ci := 12) (C := R_Book) B (mK_ok sk sv) hNs rfl rfl (c_Book_pass_y l hi _ len _ _ hS.P.1) rfl (ma_goodc kc_Book_pass) (B.2.2.2.1 _ k_2173) (B.2.2.2.1 _ k_2175) (B.2.2.2.1 _ ks_90) (B.2.2.2.1 _ k_13) ⟨by decide +kernel, by decide +kernel, by decide +kernel⟩ rfl d_Book_named_11 rfl (Nat.le_of_ble_eq_true rfl) ⟨by first | decide | (dsimp only; omega), by first | decide | (dsimp only; omega)⟩ ⟨Nat.le_refl _, Nat.le_refl _⟩ ⟨Nat.le_refl _, Nat.le_refl _⟩ (mv_noH hno _) (fun τ9 g9 => Or.inr ⟨rfl, hS.1.2.1.bf.tr g9.bf⟩) (fun σ11 h11 => ?_)
  have w11 := hS.P.w (by rw [hk]; decide)
  obtain ⟨d11, t11, u11, q11, g11⟩ := h11
  rw [hS.P.2.1] at d11
  have hL0 := hS.le
  have hS := hS.pass q11 g11
  have hM := hS.P.2.2.2.2.2
  have hz := hS.P.1.1.2.2.1
  have hl := hS.P.le.2.2.2
  have hq0 := hsp.1
  refine mv_aload_n (pc := 14) B d_Book_named_14 rfl 2 rfl ?_
  refine mv_iload_n (pc := 15) B d_Book_named_15 rfl 1 rfl ?_
  refine mv_iload_n (pc := 16) B d_Book_named_16 rfl 0 rfl ?_
  refine mv_callVi (pc := 17) (n := 2) (ci := 12) (C := R_Book) B (mK_ok sk sv) hNs rfl rfl (c_Book_let_y l hi _ _ _ len hS.R hl hM.2.1 hsp) rfl (ma_goodc kc_Book_let) (B.2.2.2.1 _ k_2305) (B.2.2.2.1 _ k_2307) (B.2.2.2.1 _ ks_116) (B.2.2.2.1 _ k_13) ⟨by decide +kernel, by decide +kernel, by decide +kernel⟩ rfl d_Book_named_17 rfl (Nat.le_of_ble_eq_true rfl) ⟨by first | decide | (dsimp only; omega), by first | decide | (dsimp only; omega)⟩ ⟨Nat.le_refl _, Nat.le_refl _⟩ ⟨Nat.le_refl _, Nat.le_refl _⟩ (mv_noH hno _) (fun v17 σ17 h17 => ?_)
  obtain ⟨e17, z17⟩ := h17
  have e17 := e17.symm
  subst e17
  refine mv_istore_n (pc := 20) B d_Book_named_20 rfl (by decide) rfl ?_
  refine mv_iload_n (pc := 21) B d_Book_named_21 rfl 0 rfl ?_
  refine mv_if_lt (pc := 22) (tgt := 45) B d_Book_named_22 rfl (fun h22 => ?_) (fun h22 => ?_)
  · skip
    refine mv_aload_n (pc := 45) B d_Book_named_45 rfl 3 rfl ?_
    refine mv_iload_n (pc := 46) B d_Book_named_46 rfl 2 rfl ?_
    refine mv_iload_n (pc := 47) B d_Book_named_47 rfl 1 rfl ?_
    refine mv_callVi (pc := 48) (n := 2) (ci := 12) (C := R_Book) B (mK_ok sk sv) hNs rfl rfl (c_Book_isField_y l hi _ _ _ len hS.R hz hl hM.2.2 hq0) rfl (ma_goodc kc_Book_isField) (B.2.2.2.1 _ k_2309) (B.2.2.2.1 _ k_2311) (B.2.2.2.1 _ ks_117) (B.2.2.2.1 _ k_13) ⟨by decide +kernel, by decide +kernel, by decide +kernel⟩ rfl d_Book_named_48 rfl (Nat.le_of_ble_eq_true rfl) ⟨by first | decide | (dsimp only; omega), by first | decide | (dsimp only; omega)⟩ ⟨Nat.le_refl _, Nat.le_refl _⟩ ⟨Nat.le_refl _, Nat.le_refl _⟩ (mv_noH hno _) (fun v48 σ48 h48 => ?_)
    obtain ⟨e48, z48⟩ := h48
    have e48 := e48.symm
    subst e48
    refine mv_if_eq (pc := 51) (tgt := 76) B d_Book_named_51 rfl (fun h51 => ?_) (fun h51 => ?_)
    · skip
      refine mv_aload_n (pc := 76) B d_Book_named_76 rfl 3 rfl ?_
      refine mv_iload_n (pc := 77) B d_Book_named_77 rfl 2 rfl ?_
      refine mv_iload_n (pc := 78) B d_Book_named_78 rfl 1 rfl ?_
      refine mv_callVi (pc := 79) (n := 2) (ci := 12) (C := R_Book) B (mK_ok sk sv) hNs rfl rfl (c_Book_thing_y l hi _ _ _ len hS.R hl hM.1 hsp) rfl (ma_goodc kc_Book_thing) (B.2.2.2.1 _ k_2212) (B.2.2.2.1 _ k_2214) (B.2.2.2.1 _ ks_97) (B.2.2.2.1 _ k_13) ⟨by decide +kernel, by decide +kernel, by decide +kernel⟩ rfl d_Book_named_79 rfl (Nat.le_of_ble_eq_true rfl) ⟨by first | decide | (dsimp only; omega), by first | decide | (dsimp only; omega)⟩ ⟨Nat.le_refl _, Nat.le_refl _⟩ ⟨Nat.le_refl _, Nat.le_refl _⟩ (mv_noH hno _) (fun v79 σ79 h79 => ?_)
      obtain ⟨e79, z79⟩ := h79
      have e79 := e79.symm
      subst e79
      refine mv_istore (pc := 82) B d_Book_named_82 (by decide) rfl ?_
      refine mv_iload (pc := 84) B d_Book_named_84 0 rfl ?_
      refine mv_if_ge (pc := 86) (tgt := 106) B d_Book_named_86 rfl (fun h86 => ?_) (fun h86 => ?_)
      · skip
        have y79 := z79.resolve_left (fun z => absurd h86 (by rw [z]; decide))
        have hM1 := hM.1.2.1
        have hth := hS.P.2.2.2.2.1
        refine mv_aload_n (pc := 106) B d_Book_named_106 rfl 4 rfl ?_
        refine mv_getR (pc := 107) (ci := 12) (C := R_Book) (T := F_Book) (N := 65) B 15 rfl rfl (by decide) i_Book (B.2.2.2.1 _ k_1858) rfl (hS.R.1 _ 15 _ rfl) d_Book_named_107 ?_
        refine mv_iload (pc := 110) B d_Book_named_110 0 rfl ?_
        refine mv_zald (pc := 112) B rfl (i32_in y79.1 (show v79.toInt < 4100 by omega)) d_Book_named_112 ?_
        refine mv_if_ne (pc := 113) (tgt := 133) B d_Book_named_113 rfl (fun h113 => ?_) (fun h113 => ?_)
        · skip
          refine mv_aload_n (pc := 133) B d_Book_named_133 rfl 4 rfl ?_
          refine mv_getI (pc := 134) (ci := 12) (C := R_Book) (T := F_Book) (N := 65) B 4 rfl rfl (by decide) i_Book (B.2.2.2.1 _ k_1847) rfl d_Book_named_134 ?_
          refine mv_bipush (pc := 137) (v := 91) B d_Book_named_137 (by decide) ?_
          refine mv_icmp_eq (pc := 139) (tgt := 159) B d_Book_named_139 rfl (fun h139 => ?_) (fun h139 => ?_)
          · skip
            refine mv_aload_n (pc := 159) B d_Book_named_159 rfl 4 rfl ?_
            refine mv_callVUv (pc := 160) (n := 0) (ci := 12) (C := R_Book) B (mK_ok sk sv) hNs rfl rfl (c_Book_pass_y l hi _ len _ _ hS.P.1) rfl (ma_goodc kc_Book_pass) (B.2.2.2.1 _ k_2173) (B.2.2.2.1 _ k_2175) (B.2.2.2.1 _ ks_90) (B.2.2.2.1 _ k_13) ⟨by decide +kernel, by decide +kernel, by decide +kernel⟩ rfl d_Book_named_160 rfl (Nat.le_of_ble_eq_true rfl) ⟨by first | decide | (dsimp only; omega), by first | decide | (dsimp only; omega)⟩ ⟨Nat.le_refl _, Nat.le_refl _⟩ ⟨Nat.le_refl _, Nat.le_refl _⟩ (mv_noH hno _) (fun τ9 g9 => Or.inr ⟨rfl, hS.1.2.1.bf.tr g9.bf⟩) (fun σ160 h160 => ?_)
            have w160 := hS.P.w (by rw [h139]; decide)
            obtain ⟨d160, t160, u160, q160, g160⟩ := h160
            rw [hS.P.2.1] at d160
            have hL0 := hS.le
            have hS := hS.pass q160 g160
            refine mv_aload_n (pc := 163) B d_Book_named_163 rfl 4 rfl ?_
            refine mv_dup (pc := 164) B d_Book_named_164 rfl ?_
            refine mv_getI (pc := 165) (ci := 12) (C := R_Book) (T := F_Book) (N := 65) B 8 rfl rfl (by decide) i_Book (B.2.2.2.1 _ k_1851) rfl d_Book_named_165 ?_
            refine mv_iconst (pc := 168) (v := 1) B d_Book_named_168 (by decide) ?_
            refine mv_iadd (pc := 169) B d_Book_named_169 ?_
            refine mv_putI (pc := 170) (ci := 12) (C := R_Book) (T := F_Book) (N := 65) B 8 rfl rfl (by decide) i_Book t_Book_ok n_Book (B.2.2.2.1 _ k_1851) rfl rfl rfl rfl d_Book_named_170 ?_
            refine mv_gen (fun S173 eS173 => ?_)
            have hS := hS.dep (hS.P.up (by omega))
            rw [← eS173] at hS
            clear eS173
            refine mv_aload_n (pc := 173) B d_Book_named_173 rfl 4 rfl ?_
            refine mv_callVUi (pc := 174) (n := 0) (ci := 12) (C := R_Book) B (mK_ok sk sv) hNs rfl rfl (ihE (f - 1) (by omega) _ len th _ _ _ _ (by omega) hS.P) rfl (ma_goodc kc_Book_expression) (B.2.2.2.1 _ k_2245) (B.2.2.2.1 _ k_2247) (B.2.2.2.1 _ ks_104) (B.2.2.2.1 _ k_13) ⟨by decide +kernel, by decide +kernel, by decide +kernel⟩ rfl d_Book_named_174 rfl (Nat.le_of_ble_eq_true rfl) ⟨by first | decide | (dsimp only; omega), by first | decide | (dsimp only; omega)⟩ ⟨Nat.le_refl _, Nat.le_refl _⟩ ⟨Nat.le_refl _, Nat.le_refl _⟩ (mv_noH hno _) (fun τ9 g9 => Or.inr ⟨rfl, hS.1.2.1.bf.tr g9⟩) (fun v174 σ174 h174 => ?_)
            obtain ⟨n174, t174, u174, s174, m174, r174, x174⟩ := h174
            have i174 := s174.2.2.2.1
            have hS := hS.sub s174 x174
            have hL174 := hS.le
            refine mv_istore (pc := 177) B d_Book_named_177 (by decide) rfl ?_
            refine mv_aload_n (pc := 179) B d_Book_named_179 rfl 5 rfl ?_
            refine mv_bipush (pc := 180) (v := 93) B d_Book_named_180 (by decide) ?_
            refine mv_callVUv (pc := 182) (n := 1) (ci := 12) (C := R_Book) B (mK_ok sk sv) hNs rfl rfl (c_Book_need_y l hi _ _ len _ _ hS.P.1) rfl (ma_goodc kc_Book_need) (B.2.2.2.1 _ k_2177) (B.2.2.2.1 _ k_2179) (B.2.2.2.1 _ ks_91) (B.2.2.2.1 _ k_13) ⟨by decide +kernel, by decide +kernel, by decide +kernel⟩ rfl d_Book_named_182 rfl (Nat.le_of_ble_eq_true rfl) ⟨by first | decide | (dsimp only; omega), by first | decide | (dsimp only; omega)⟩ ⟨Nat.le_refl _, Nat.le_refl _⟩ ⟨Nat.le_refl _, Nat.le_refl _⟩ (mv_noH hno _) (fun τ9 g9 => Or.inr ⟨rfl, hS.1.2.1.bf.tr g9.bf⟩) (fun σ182 h182 => ?_)
            obtain ⟨k182, d182, t182, u182, q182, g182⟩ := h182
            have w182 := hS.P.w (by rw [k182]; decide)
            rw [hS.P.2.1] at d182
            have hL0 := hS.le
            have hS := hS.pass q182 g182
            refine mv_aload_n (pc := 185) B d_Book_named_185 rfl 5 rfl ?_
            refine mv_dup (pc := 186) B d_Book_named_186 rfl ?_
            refine mv_getI (pc := 187) (ci := 12) (C := R_Book) (T := F_Book) (N := 65) B 8 rfl rfl (by decide) i_Book (B.2.2.2.1 _ k_1851) rfl d_Book_named_187 ?_
            refine mv_iconst (pc := 190) (v := 1) B d_Book_named_190 (by decide) ?_
            refine mv_isub (pc := 191) B d_Book_named_191 ?_
            refine mv_putI (pc := 192) (ci := 12) (C := R_Book) (T := F_Book) (N := 65) B 8 rfl rfl (by decide) i_Book t_Book_ok n_Book (B.2.2.2.1 _ k_1851) rfl rfl rfl rfl d_Book_named_192 ?_
            refine mv_gen (fun S195 eS195 => ?_)
            have hS := hS.dep hS.P.dn
            rw [← eS195] at hS
            clear eS195
            refine mv_aload_n (pc := 195) B d_Book_named_195 rfl 5 rfl ?_
            refine mv_iconst (pc := 196) (v := 3) B d_Book_named_196 (by decide) ?_
            refine mv_iload (pc := 197) B d_Book_named_197 1 rfl ?_
            refine mv_iload (pc := 199) B d_Book_named_199 0 rfl ?_
            refine mv_iconst (pc := 201) (v := 0) B d_Book_named_201 (by decide) ?_
            refine mv_aload_n (pc := 202) B d_Book_named_202 rfl 5 rfl ?_
            refine mv_getR (pc := 203) (ci := 12) (C := R_Book) (T := F_Book) (N := 65) B 45 rfl rfl (by decide) i_Book (B.2.2.2.1 _ k_1894) rfl (hS.R.1 _ 45 _ rfl) d_Book_named_203 ?_
            refine mv_iload (pc := 206) B d_Book_named_206 0 rfl ?_
            refine mv_iald (pc := 208) B rfl (i32_in (show 0 ≤ v174.toInt by omega) (show v174.toInt < 33000 by omega)) d_Book_named_208 ?_
            refine mv_if_ne (pc := 209) (tgt := 216) B d_Book_named_209 rfl (fun h209 => ?_) (fun h209 => ?_)
            · skip
              refine mv_aload_n (pc := 216) B d_Book_named_216 rfl 5 rfl ?_
              refine mv_getR (pc := 217) (ci := 12) (C := R_Book) (T := F_Book) (N := 65) B 12 rfl rfl (by decide) i_Book (B.2.2.2.1 _ k_1855) rfl (hS.R.1 _ 12 _ rfl) d_Book_named_217 ?_
              refine mv_iload (pc := 220) B d_Book_named_220 1 rfl ?_
              refine mv_iald (pc := 222) B rfl (i32_in y79.1 (show v79.toInt < 4100 by omega)) d_Book_named_222 ?_
              refine mv_callVi (pc := 223) (n := 5) (ci := 12) (C := R_Book) B (mK_ok sk sv) hNs rfl rfl (c_Book_node_y l hi _ _ _ _ _ _ hS.R (by have := hS.le; omega) (by have := hS.le; omega)) rfl (ma_goodc kc_Book_node) (B.2.2.2.1 _ k_2269) (B.2.2.2.1 _ k_2271) (B.2.2.2.1 _ ks_110) (B.2.2.2.1 _ k_13) ⟨by decide +kernel, by decide +kernel, by decide +kernel⟩ rfl d_Book_named_223 rfl (Nat.le_of_ble_eq_true rfl) ⟨by first | decide | (dsimp only; omega), by first | decide | (dsimp only; omega)⟩ ⟨Nat.le_refl _, Nat.le_refl _⟩ ⟨Nat.le_refl _, Nat.le_refl _⟩ (mv_noH hno _) (fun v223 σ223 h223 => ?_)
              obtain ⟨e223, z223⟩ := h223
              have hL223 := hS.le
              have hN := hS.nodeE z223 (lo := n) (R := 10 * f) (by omega) hn0 (fun zz => XR.cell (hS.2.at 0 rfl zz) m174 hS.P.nn ⟨y79.1, by omega⟩ r174 (by omega))
              have hv223 : v223.toInt + 1 = ((n174 + 1 : Nat) : Int) := by rw [e223]; omega
              exact mv_iret (pc := 226) B hr rfl d_Book_named_226 (Nat.le_refl _) (Nat.le_refl _) (Or.inl ⟨_, rfl, hN.out hv223 (by omega) 0 rfl (Nat.le_refl _)⟩)
            · skip
              refine mv_iconst (pc := 212) (v := 0) B d_Book_named_212 (by decide) ?_
              refine mv_goto (pc := 213) (tgt := 223) B d_Book_named_213 rfl ?_
              refine mv_callVi (pc := 223) (n := 5) (ci := 12) (C := R_Book) B (mK_ok sk sv) hNs rfl rfl (c_Book_node_y l hi _ _ _ _ _ _ hS.R (by have := hS.le; omega) (by have := hS.le; omega)) rfl (ma_goodc kc_Book_node) (B.2.2.2.1 _ k_2269) (B.2.2.2.1 _ k_2271) (B.2.2.2.1 _ ks_110) (B.2.2.2.1 _ k_13) ⟨by decide +kernel, by decide +kernel, by decide +kernel⟩ rfl d_Book_named_223 rfl (Nat.le_of_ble_eq_true rfl) ⟨by first | decide | (dsimp only; omega), by first | decide | (dsimp only; omega)⟩ ⟨Nat.le_refl _, Nat.le_refl _⟩ ⟨Nat.le_refl _, Nat.le_refl _⟩ (mv_noH hno _) (fun v223 σ223 h223 => ?_)
              obtain ⟨e223, z223⟩ := h223
              have hL223 := hS.le
              have hN := hS.nodeE z223 (lo := n) (R := 10 * f) (by omega) hn0 (fun zz => XR.cell (hS.2.at 0 rfl zz) m174 hS.P.nn ⟨y79.1, by omega⟩ r174 (by omega))
              have hv223 : v223.toInt + 1 = ((n174 + 1 : Nat) : Int) := by rw [e223]; omega
              exact mv_iret (pc := 226) B hr rfl d_Book_named_226 (Nat.le_refl _) (Nat.le_refl _) (Or.inl ⟨_, rfl, hN.out hv223 (by omega) 0 rfl (Nat.le_refl _)⟩)
          · skip
            refine mv_aload_n (pc := 142) B d_Book_named_142 rfl 4 rfl ?_
            refine mv_iconst (pc := 143) (v := 2) B d_Book_named_143 (by decide) ?_
            refine mv_iload_n (pc := 144) B d_Book_named_144 rfl 3 rfl ?_
            refine mv_callVv (pc := 145) (n := 2) (ci := 12) (C := R_Book) B (mK_ok sk sv) hNs rfl rfl (c_Book_fault_y l hi _ _ _ (by decide)) rfl (ma_goodc kc_Book_fault) (B.2.2.2.1 _ k_2185) (B.2.2.2.1 _ k_2187) (B.2.2.2.1 _ ks_92) (B.2.2.2.1 _ k_13) ⟨by decide +kernel, by decide +kernel, by decide +kernel⟩ rfl d_Book_named_145 rfl (Nat.le_of_ble_eq_true rfl) ⟨by first | decide | (dsimp only; omega), by first | decide | (dsimp only; omega)⟩ ⟨Nat.le_refl _, Nat.le_refl _⟩ ⟨Nat.le_refl _, Nat.le_refl _⟩ (mv_noH hno _) (fun σ145 h145 => ?_)
            obtain ⟨f145, n145, k145⟩ := h145
            have hS := hS.ft (FT.rf.of ⟨f145, n145, k145⟩)
            refine mv_aload_n (pc := 148) B d_Book_named_148 rfl 4 rfl ?_
            refine mv_bipush (pc := 149) (v := 13) B d_Book_named_149 (by decide) ?_
            refine mv_iconst (pc := 151) (v := 0) B d_Book_named_151 (by decide) ?_
            refine mv_iconst (pc := 152) (v := 0) B d_Book_named_152 (by decide) ?_
            refine mv_iconst (pc := 153) (v := 0) B d_Book_named_153 (by decide) ?_
            refine mv_iconst (pc := 154) (v := 0) B d_Book_named_154 (by decide) ?_
            refine mv_callVi (pc := 155) (n := 5) (ci := 12) (C := R_Book) B (mK_ok sk sv) hNs rfl rfl (c_Book_node_y l hi _ _ _ _ _ _ hS.R (by have := hS.le; omega) (by have := hS.le; omega)) rfl (ma_goodc kc_Book_node) (B.2.2.2.1 _ k_2269) (B.2.2.2.1 _ k_2271) (B.2.2.2.1 _ ks_110) (B.2.2.2.1 _ k_13) ⟨by decide +kernel, by decide +kernel, by decide +kernel⟩ rfl d_Book_named_155 rfl (Nat.le_of_ble_eq_true rfl) ⟨by first | decide | (dsimp only; omega), by first | decide | (dsimp only; omega)⟩ ⟨Nat.le_refl _, Nat.le_refl _⟩ ⟨Nat.le_refl _, Nat.le_refl _⟩ (mv_noH hno _) (fun v155 σ155 h155 => ?_)
            obtain ⟨e155, z155⟩ := h155
            have hL155 := hS.le
            have hN := hS.nodeE z155 (lo := n) (R := 10 * f) (by omega) hn0 (fun zz => absurd zz n145)
            have hv155 : v155.toInt + 1 = ((n + 1 : Nat) : Int) := by rw [e155]; omega
            exact mv_iret (pc := 158) B hr rfl d_Book_named_158 (Nat.le_refl _) (Nat.le_refl _) (Or.inl ⟨_, rfl, hN.out hv155 (by omega) 0 rfl (Nat.le_refl _)⟩)
        · skip
          refine mv_aload_n (pc := 116) B d_Book_named_116 rfl 4 rfl ?_
          refine mv_iconst (pc := 117) (v := 2) B d_Book_named_117 (by decide) ?_
          refine mv_iload (pc := 118) B d_Book_named_118 0 rfl ?_
          refine mv_iconst (pc := 120) (v := 0) B d_Book_named_120 (by decide) ?_
          refine mv_iconst (pc := 121) (v := 0) B d_Book_named_121 (by decide) ?_
          refine mv_aload_n (pc := 122) B d_Book_named_122 rfl 4 rfl ?_
          refine mv_getR (pc := 123) (ci := 12) (C := R_Book) (T := F_Book) (N := 65) B 12 rfl rfl (by decide) i_Book (B.2.2.2.1 _ k_1855) rfl (hS.R.1 _ 12 _ rfl) d_Book_named_123 ?_
          refine mv_iload (pc := 126) B d_Book_named_126 0 rfl ?_
          refine mv_iald (pc := 128) B rfl (i32_in y79.1 (show v79.toInt < 4100 by omega)) d_Book_named_128 ?_
          refine mv_callVi (pc := 129) (n := 5) (ci := 12) (C := R_Book) B (mK_ok sk sv) hNs rfl rfl (c_Book_node_y l hi _ _ _ _ _ _ hS.R (by have := hS.le; omega) (by have := hS.le; omega)) rfl (ma_goodc kc_Book_node) (B.2.2.2.1 _ k_2269) (B.2.2.2.1 _ k_2271) (B.2.2.2.1 _ ks_110) (B.2.2.2.1 _ k_13) ⟨by decide +kernel, by decide +kernel, by decide +kernel⟩ rfl d_Book_named_129 rfl (Nat.le_of_ble_eq_true rfl) ⟨by first | decide | (dsimp only; omega), by first | decide | (dsimp only; omega)⟩ ⟨Nat.le_refl _, Nat.le_refl _⟩ ⟨Nat.le_refl _, Nat.le_refl _⟩ (mv_noH hno _) (fun v129 σ129 h129 => ?_)
          obtain ⟨e129, z129⟩ := h129
          have hL129 := hS.le
          have hN := hS.nodeE z129 (lo := n) (R := 10 * f) (by omega) hn0 (fun zz => XR.leaf hS.P.nn (Or.inr (Or.inr (Or.inl ⟨by decide, y79.1, by omega⟩))))
          have hv129 : v129.toInt + 1 = ((n + 1 : Nat) : Int) := by rw [e129]; omega
          exact mv_iret (pc := 132) B hr rfl d_Book_named_132 (Nat.le_refl _) (Nat.le_refl _) (Or.inl ⟨_, rfl, hN.out hv129 (by omega) 0 rfl (Nat.le_refl _)⟩)
      · skip
        refine mv_aload_n (pc := 89) B d_Book_named_89 rfl 4 rfl ?_
        refine mv_iconst (pc := 90) (v := 2) B d_Book_named_90 (by decide) ?_
        refine mv_iload_n (pc := 91) B d_Book_named_91 rfl 3 rfl ?_
        refine mv_callVv (pc := 92) (n := 2) (ci := 12) (C := R_Book) B (mK_ok sk sv) hNs rfl rfl (c_Book_fault_y l hi _ _ _ (by decide)) rfl (ma_goodc kc_Book_fault) (B.2.2.2.1 _ k_2185) (B.2.2.2.1 _ k_2187) (B.2.2.2.1 _ ks_92) (B.2.2.2.1 _ k_13) ⟨by decide +kernel, by decide +kernel, by decide +kernel⟩ rfl d_Book_named_92 rfl (Nat.le_of_ble_eq_true rfl) ⟨by first | decide | (dsimp only; omega), by first | decide | (dsimp only; omega)⟩ ⟨Nat.le_refl _, Nat.le_refl _⟩ ⟨Nat.le_refl _, Nat.le_refl _⟩ (mv_noH hno _) (fun σ92 h92 => ?_)
        obtain ⟨f92, n92, k92⟩ := h92
        have hS := hS.ft (FT.rf.of ⟨f92, n92, k92⟩)
        refine mv_aload_n (pc := 95) B d_Book_named_95 rfl 4 rfl ?_
        refine mv_bipush (pc := 96) (v := 13) B d_Book_named_96 (by decide) ?_
        refine mv_iconst (pc := 98) (v := 0) B d_Book_named_98 (by decide) ?_
        refine mv_iconst (pc := 99) (v := 0) B d_Book_named_99 (by decide) ?_
        refine mv_iconst (pc := 100) (v := 0) B d_Book_named_100 (by decide) ?_
        refine mv_iconst (pc := 101) (v := 0) B d_Book_named_101 (by decide) ?_
        refine mv_callVi (pc := 102) (n := 5) (ci := 12) (C := R_Book) B (mK_ok sk sv) hNs rfl rfl (c_Book_node_y l hi _ _ _ _ _ _ hS.R (by have := hS.le; omega) (by have := hS.le; omega)) rfl (ma_goodc kc_Book_node) (B.2.2.2.1 _ k_2269) (B.2.2.2.1 _ k_2271) (B.2.2.2.1 _ ks_110) (B.2.2.2.1 _ k_13) ⟨by decide +kernel, by decide +kernel, by decide +kernel⟩ rfl d_Book_named_102 rfl (Nat.le_of_ble_eq_true rfl) ⟨by first | decide | (dsimp only; omega), by first | decide | (dsimp only; omega)⟩ ⟨Nat.le_refl _, Nat.le_refl _⟩ ⟨Nat.le_refl _, Nat.le_refl _⟩ (mv_noH hno _) (fun v102 σ102 h102 => ?_)
        obtain ⟨e102, z102⟩ := h102
        have hL102 := hS.le
        have hN := hS.nodeE z102 (lo := n) (R := 10 * f) (by omega) hn0 (fun zz => absurd zz n92)
        have hv102 : v102.toInt + 1 = ((n + 1 : Nat) : Int) := by rw [e102]; omega
        exact mv_iret (pc := 105) B hr rfl d_Book_named_105 (Nat.le_refl _) (Nat.le_refl _) (Or.inl ⟨_, rfl, hN.out hv102 (by omega) 0 rfl (Nat.le_refl _)⟩)
    · skip
      refine mv_aload_n (pc := 54) B d_Book_named_54 rfl 3 rfl ?_
      refine mv_iconst (pc := 55) (v := 4) B d_Book_named_55 (by decide) ?_
      refine mv_aload_n (pc := 56) B d_Book_named_56 rfl 3 rfl ?_
      refine mv_iload_n (pc := 57) B d_Book_named_57 rfl 2 rfl ?_
      refine mv_callVi (pc := 58) (n := 1) (ci := 12) (C := R_Book) B (mK_ok sk sv) hNs rfl rfl (c_Book_look_y l hi _ _ len hS.R hz hl hq0) rfl (ma_goodc kc_Book_look) (B.2.2.2.1 _ k_2122) (B.2.2.2.1 _ k_2124) (B.2.2.2.1 _ ks_82) (B.2.2.2.1 _ k_13) ⟨by decide +kernel, by decide +kernel, by decide +kernel⟩ rfl d_Book_named_58 rfl (Nat.le_of_ble_eq_true rfl) ⟨by first | decide | (dsimp only; omega), by first | decide | (dsimp only; omega)⟩ ⟨Nat.le_refl _, Nat.le_refl _⟩ ⟨Nat.le_refl _, Nat.le_refl _⟩ (mv_noH hno _) (fun v58 σ58 h58 => ?_)
      obtain ⟨e58, -⟩ := h58
      have e58 := e58.symm
      subst e58
      refine mv_iconst (pc := 61) (v := 0) B d_Book_named_61 (by decide) ?_
      refine mv_iconst (pc := 62) (v := 0) B d_Book_named_62 (by decide) ?_
      refine mv_aload_n (pc := 63) B d_Book_named_63 rfl 3 rfl ?_
      refine mv_aload_n (pc := 64) B d_Book_named_64 rfl 3 rfl ?_
      refine mv_iload_n (pc := 65) B d_Book_named_65 rfl 2 rfl ?_
      refine mv_callVi (pc := 66) (n := 1) (ci := 12) (C := R_Book) B (mK_ok sk sv) hNs rfl rfl (c_Book_look_y l hi _ _ len hS.R hz hl hq0) rfl (ma_goodc kc_Book_look) (B.2.2.2.1 _ k_2122) (B.2.2.2.1 _ k_2124) (B.2.2.2.1 _ ks_82) (B.2.2.2.1 _ k_13) ⟨by decide +kernel, by decide +kernel, by decide +kernel⟩ rfl d_Book_named_66 rfl (Nat.le_of_ble_eq_true rfl) ⟨by first | decide | (dsimp only; omega), by first | decide | (dsimp only; omega)⟩ ⟨Nat.le_refl _, Nat.le_refl _⟩ ⟨Nat.le_refl _, Nat.le_refl _⟩ (mv_noH hno _) (fun v66 σ66 h66 => ?_)
      obtain ⟨e66, -⟩ := h66
      have e66 := e66.symm
      subst e66
      refine mv_callVi (pc := 69) (n := 1) (ci := 12) (C := R_Book) B (mK_ok sk sv) hNs rfl rfl (c_Book_letterBits_y l hi _ _ hS.R hM.2.2) rfl (ma_goodc kc_Book_letterBits) (B.2.2.2.1 _ k_2313) (B.2.2.2.1 _ k_2315) (B.2.2.2.1 _ ks_118) (B.2.2.2.1 _ k_13) ⟨by decide +kernel, by decide +kernel, by decide +kernel⟩ rfl d_Book_named_69 rfl (Nat.le_of_ble_eq_true rfl) ⟨by first | decide | (dsimp only; omega), by first | decide | (dsimp only; omega)⟩ ⟨Nat.le_refl _, Nat.le_refl _⟩ ⟨Nat.le_refl _, Nat.le_refl _⟩ (mv_noH hno _) (fun v69 σ69 h69 => ?_)
      have e69 := h69.symm
      subst e69
      refine mv_callVi (pc := 72) (n := 5) (ci := 12) (C := R_Book) B (mK_ok sk sv) hNs rfl rfl (c_Book_node_y l hi _ _ _ _ _ _ hS.R (by have := hS.le; omega) (by have := hS.le; omega)) rfl (ma_goodc kc_Book_node) (B.2.2.2.1 _ k_2269) (B.2.2.2.1 _ k_2271) (B.2.2.2.1 _ ks_110) (B.2.2.2.1 _ k_13) ⟨by decide +kernel, by decide +kernel, by decide +kernel⟩ rfl d_Book_named_72 rfl (Nat.le_of_ble_eq_true rfl) ⟨by first | decide | (dsimp only; omega), by first | decide | (dsimp only; omega)⟩ ⟨Nat.le_refl _, Nat.le_refl _⟩ ⟨Nat.le_refl _, Nat.le_refl _⟩ (mv_noH hno _) (fun v72 σ72 h72 => ?_)
      obtain ⟨e72, z72⟩ := h72
      have hL72 := hS.le
      have hN := hS.nodeE z72 (lo := n) (R := 10 * f) (by omega) hn0 (fun zz => XR.leaf hS.P.nn (Or.inr (Or.inl (by decide))))
      have hv72 : v72.toInt + 1 = ((n + 1 : Nat) : Int) := by rw [e72]; omega
      exact mv_iret (pc := 75) B hr rfl d_Book_named_75 (Nat.le_refl _) (Nat.le_refl _) (Or.inl ⟨_, rfl, hN.out hv72 (by omega) 0 rfl (Nat.le_refl _)⟩)
  · skip
    have y17 := z17.resolve_left (fun z => h22 (by rw [z]; decide))
    have hM2 := hM.2.1.2.1
    have y18 := hM.2.1.2.2 v17.toNatClampNeg (by have := i32_cl y17.1; omega)
    refine mv_aload_n (pc := 25) B d_Book_named_25 rfl 3 rfl ?_
    refine mv_iconst (pc := 26) (v := 5) B d_Book_named_26 (by decide) ?_
    refine mv_aload_n (pc := 27) B d_Book_named_27 rfl 3 rfl ?_
    refine mv_getR (pc := 28) (ci := 12) (C := R_Book) (T := F_Book) (N := 65) B 34 rfl rfl (by decide) i_Book (B.2.2.2.1 _ k_1880) rfl (hS.R.1 _ 34 _ rfl) d_Book_named_28 ?_
    refine mv_iload_n (pc := 31) B d_Book_named_31 rfl 0 rfl ?_
    refine mv_iald (pc := 32) B rfl (i32_in y17.1 (show v17.toInt < 4100 by omega)) d_Book_named_32 ?_
    refine mv_iconst (pc := 33) (v := 0) B d_Book_named_33 (by decide) ?_
    refine mv_iconst (pc := 34) (v := 0) B d_Book_named_34 (by decide) ?_
    refine mv_aload_n (pc := 35) B d_Book_named_35 rfl 3 rfl ?_
    refine mv_getR (pc := 36) (ci := 12) (C := R_Book) (T := F_Book) (N := 65) B 33 rfl rfl (by decide) i_Book (B.2.2.2.1 _ k_1879) rfl (hS.R.1 _ 33 _ rfl) d_Book_named_36 ?_
    refine mv_iload_n (pc := 39) B d_Book_named_39 rfl 0 rfl ?_
    refine mv_iald (pc := 40) B rfl (i32_in y17.1 (show v17.toInt < 4100 by omega)) d_Book_named_40 ?_
    refine mv_callVi (pc := 41) (n := 5) (ci := 12) (C := R_Book) B (mK_ok sk sv) hNs rfl rfl (c_Book_node_y l hi _ _ _ _ _ _ hS.R (by have := hS.le; omega) (by have := hS.le; omega)) rfl (ma_goodc kc_Book_node) (B.2.2.2.1 _ k_2269) (B.2.2.2.1 _ k_2271) (B.2.2.2.1 _ ks_110) (B.2.2.2.1 _ k_13) ⟨by decide +kernel, by decide +kernel, by decide +kernel⟩ rfl d_Book_named_41 rfl (Nat.le_of_ble_eq_true rfl) ⟨by first | decide | (dsimp only; omega), by first | decide | (dsimp only; omega)⟩ ⟨Nat.le_refl _, Nat.le_refl _⟩ ⟨Nat.le_refl _, Nat.le_refl _⟩ (mv_noH hno _) (fun v41 σ41 h41 => ?_)
    obtain ⟨e41, z41⟩ := h41
    have hL41 := hS.le
    have hN := hS.nodeE z41 (lo := n) (R := 10 * f) (by omega) hn0 (fun zz => XR.leaf hS.P.nn (Or.inr (Or.inr (Or.inr ⟨by decide, y18.2.1, y18.2.2⟩))))
    have hv41 : v41.toInt + 1 = ((n + 1 : Nat) : Int) := by rw [e41]; omega
    exact mv_iret (pc := 44) B hr rfl d_Book_named_44 (Nat.le_refl _) (Nat.le_refl _) (Or.inl ⟨_, rfl, hN.out hv41 (by omega) 0 rfl (Nat.le_refl _)⟩)
def y_Book_wider : MethodName := ⟨"MachineLoomModel$Book", "wider", "(Z)I"⟩
abbrev b_Book_wider : ByteArray := prog_15_method_38_code
theorem kc_Book_wider : Cond.code y_Book_wider b_Book_wider 7 (Option.some Jvm.ClassFile.FieldType.int) ∈ ma := ma_of (tb_10 _ (List.mem_of_getElem? (i := 121) rfl)) rfl
theorem d_Book_wider_0 : decode b_Book_wider 0 = .ok (.aload_n 0, 1) := by decide +kernel
theorem d_Book_wider_1 : decode b_Book_wider 1 = .ok (.invokevirtual 203, 3) := by decide +kernel
theorem d_Book_wider_4 : decode b_Book_wider 4 = .ok (.aload_n 0, 1) := by decide +kernel
theorem d_Book_wider_5 : decode b_Book_wider 5 = .ok (.bipush 40, 2) := by decide +kernel
theorem d_Book_wider_7 : decode b_Book_wider 7 = .ok (.invokevirtual 259, 3) := by decide +kernel
theorem d_Book_wider_10 : decode b_Book_wider 10 = .ok (.aload_n 0, 1) := by decide +kernel
theorem d_Book_wider_11 : decode b_Book_wider 11 = .ok (.dup, 1) := by decide +kernel
theorem d_Book_wider_12 : decode b_Book_wider 12 = .ok (.getfield 197, 3) := by decide +kernel
theorem d_Book_wider_15 : decode b_Book_wider 15 = .ok (.iconst 1, 1) := by decide +kernel
theorem d_Book_wider_16 : decode b_Book_wider 16 = .ok (.iadd, 1) := by decide +kernel
theorem d_Book_wider_17 : decode b_Book_wider 17 = .ok (.putfield 197, 3) := by decide +kernel
theorem d_Book_wider_20 : decode b_Book_wider 20 = .ok (.aload_n 0, 1) := by decide +kernel
theorem d_Book_wider_21 : decode b_Book_wider 21 = .ok (.invokevirtual 256, 3) := by decide +kernel
theorem d_Book_wider_24 : decode b_Book_wider 24 = .ok (.istore_n 2, 1) := by decide +kernel
theorem d_Book_wider_25 : decode b_Book_wider 25 = .ok (.aload_n 0, 1) := by decide +kernel
theorem d_Book_wider_26 : decode b_Book_wider 26 = .ok (.bipush 44, 2) := by decide +kernel
theorem d_Book_wider_28 : decode b_Book_wider 28 = .ok (.invokevirtual 259, 3) := by decide +kernel
theorem d_Book_wider_31 : decode b_Book_wider 31 = .ok (.aload_n 0, 1) := by decide +kernel
theorem d_Book_wider_32 : decode b_Book_wider 32 = .ok (.getfield 154, 3) := by decide +kernel
theorem d_Book_wider_35 : decode b_Book_wider 35 = .ok (.lstore_n 3, 1) := by decide +kernel
theorem d_Book_wider_36 : decode b_Book_wider 36 = .ok (.aload_n 0, 1) := by decide +kernel
theorem d_Book_wider_37 : decode b_Book_wider 37 = .ok (.getfield 174, 3) := by decide +kernel
theorem d_Book_wider_40 : decode b_Book_wider 40 = .ok (.istore 5, 2) := by decide +kernel
theorem d_Book_wider_42 : decode b_Book_wider 42 = .ok (.aload_n 0, 1) := by decide +kernel
theorem d_Book_wider_43 : decode b_Book_wider 43 = .ok (.iconst 2, 1) := by decide +kernel
theorem d_Book_wider_44 : decode b_Book_wider 44 = .ok (.invokevirtual 259, 3) := by decide +kernel
theorem d_Book_wider_47 : decode b_Book_wider 47 = .ok (.aload_n 0, 1) := by decide +kernel
theorem d_Book_wider_48 : decode b_Book_wider 48 = .ok (.bipush 41, 2) := by decide +kernel
theorem d_Book_wider_50 : decode b_Book_wider 50 = .ok (.invokevirtual 259, 3) := by decide +kernel
theorem d_Book_wider_53 : decode b_Book_wider 53 = .ok (.aload_n 0, 1) := by decide +kernel
theorem d_Book_wider_54 : decode b_Book_wider 54 = .ok (.dup, 1) := by decide +kernel
theorem d_Book_wider_55 : decode b_Book_wider 55 = .ok (.getfield 197, 3) := by decide +kernel
theorem d_Book_wider_58 : decode b_Book_wider 58 = .ok (.iconst 1, 1) := by decide +kernel
theorem d_Book_wider_59 : decode b_Book_wider 59 = .ok (.isub, 1) := by decide +kernel
theorem d_Book_wider_60 : decode b_Book_wider 60 = .ok (.putfield 197, 3) := by decide +kernel
theorem d_Book_wider_63 : decode b_Book_wider 63 = .ok (.lload_n 3, 1) := by decide +kernel
theorem d_Book_wider_64 : decode b_Book_wider 64 = .ok (.lconst 1, 1) := by decide +kernel
theorem d_Book_wider_65 : decode b_Book_wider 65 = .ok (.ldc2_w 306, 3) := by decide +kernel
theorem d_Book_wider_68 : decode b_Book_wider 68 = .ok (.invokestatic 296, 3) := by decide +kernel
theorem d_Book_wider_71 : decode b_Book_wider 71 = .ok (.ifCond .eq (28), 3) := by decide +kernel
theorem d_Book_wider_74 : decode b_Book_wider 74 = .ok (.aload_n 0, 1) := by decide +kernel
theorem d_Book_wider_75 : decode b_Book_wider 75 = .ok (.getfield 97, 3) := by decide +kernel
theorem d_Book_wider_78 : decode b_Book_wider 78 = .ok (.iload_n 2, 1) := by decide +kernel
theorem d_Book_wider_79 : decode b_Book_wider 79 = .ok (.iaload, 1) := by decide +kernel
theorem d_Book_wider_80 : decode b_Book_wider 80 = .ok (.ifCond .eq (15), 3) := by decide +kernel
theorem d_Book_wider_83 : decode b_Book_wider 83 = .ok (.lload_n 3, 1) := by decide +kernel
theorem d_Book_wider_84 : decode b_Book_wider 84 = .ok (.aload_n 0, 1) := by decide +kernel
theorem d_Book_wider_85 : decode b_Book_wider 85 = .ok (.getfield 97, 3) := by decide +kernel
theorem d_Book_wider_88 : decode b_Book_wider 88 = .ok (.iload_n 2, 1) := by decide +kernel
theorem d_Book_wider_89 : decode b_Book_wider 89 = .ok (.iaload, 1) := by decide +kernel
theorem d_Book_wider_90 : decode b_Book_wider 90 = .ok (.i2l, 1) := by decide +kernel
theorem d_Book_wider_91 : decode b_Book_wider 91 = .ok (.lcmp, 1) := by decide +kernel
theorem d_Book_wider_92 : decode b_Book_wider 92 = .ok (.ifCond .lt (7), 3) := by decide +kernel
theorem d_Book_wider_95 : decode b_Book_wider 95 = .ok (.iconst 1, 1) := by decide +kernel
theorem d_Book_wider_96 : decode b_Book_wider 96 = .ok (.goto (4), 3) := by decide +kernel
theorem d_Book_wider_99 : decode b_Book_wider 99 = .ok (.iconst 0, 1) := by decide +kernel
theorem d_Book_wider_100 : decode b_Book_wider 100 = .ok (.istore 6, 2) := by decide +kernel
theorem d_Book_wider_102 : decode b_Book_wider 102 = .ok (.iload 6, 2) := by decide +kernel
theorem d_Book_wider_104 : decode b_Book_wider 104 = .ok (.ifCond .ne (10), 3) := by decide +kernel
theorem d_Book_wider_107 : decode b_Book_wider 107 = .ok (.aload_n 0, 1) := by decide +kernel
theorem d_Book_wider_108 : decode b_Book_wider 108 = .ok (.iconst 3, 1) := by decide +kernel
theorem d_Book_wider_109 : decode b_Book_wider 109 = .ok (.iload 5, 2) := by decide +kernel
theorem d_Book_wider_111 : decode b_Book_wider 111 = .ok (.invokevirtual 267, 3) := by decide +kernel
theorem d_Book_wider_114 : decode b_Book_wider 114 = .ok (.aload_n 0, 1) := by decide +kernel
theorem d_Book_wider_115 : decode b_Book_wider 115 = .ok (.iload_n 1, 1) := by decide +kernel
theorem d_Book_wider_116 : decode b_Book_wider 116 = .ok (.ifCond .eq (8), 3) := by decide +kernel
theorem d_Book_wider_119 : decode b_Book_wider 119 = .ok (.bipush 11, 2) := by decide +kernel
theorem d_Book_wider_121 : decode b_Book_wider 121 = .ok (.goto (5), 3) := by decide +kernel
theorem d_Book_wider_124 : decode b_Book_wider 124 = .ok (.bipush 12, 2) := by decide +kernel
theorem d_Book_wider_126 : decode b_Book_wider 126 = .ok (.iload_n 2, 1) := by decide +kernel
theorem d_Book_wider_127 : decode b_Book_wider 127 = .ok (.iconst 0, 1) := by decide +kernel
theorem d_Book_wider_128 : decode b_Book_wider 128 = .ok (.iconst 0, 1) := by decide +kernel
theorem d_Book_wider_129 : decode b_Book_wider 129 = .ok (.iload 6, 2) := by decide +kernel
theorem d_Book_wider_131 : decode b_Book_wider 131 = .ok (.ifCond .eq (17), 3) := by decide +kernel
theorem d_Book_wider_134 : decode b_Book_wider 134 = .ok (.aload_n 0, 1) := by decide +kernel
theorem d_Book_wider_135 : decode b_Book_wider 135 = .ok (.getfield 97, 3) := by decide +kernel
theorem d_Book_wider_138 : decode b_Book_wider 138 = .ok (.iload_n 2, 1) := by decide +kernel
theorem d_Book_wider_139 : decode b_Book_wider 139 = .ok (.iaload, 1) := by decide +kernel
theorem d_Book_wider_140 : decode b_Book_wider 140 = .ok (.ifCond .le (8), 3) := by decide +kernel
theorem d_Book_wider_143 : decode b_Book_wider 143 = .ok (.lload_n 3, 1) := by decide +kernel
theorem d_Book_wider_144 : decode b_Book_wider 144 = .ok (.l2i, 1) := by decide +kernel
theorem d_Book_wider_145 : decode b_Book_wider 145 = .ok (.goto (4), 3) := by decide +kernel
theorem d_Book_wider_148 : decode b_Book_wider 148 = .ok (.iconst 0, 1) := by decide +kernel
theorem d_Book_wider_149 : decode b_Book_wider 149 = .ok (.invokevirtual 271, 3) := by decide +kernel
theorem d_Book_wider_152 : decode b_Book_wider 152 = .ok (.ireturn, 1) := by decide +kernel
set_option maxHeartbeats 4000000 in
set_option maxRecDepth 100000 in
theorem c_Book_wider_x (l : Launch) {dA : FieldType → ClassId} {D : va_G} {al : Nat → Nat} {ext : mv_Sh} {sk sv : Nat → Nat} (hi : mv_inj (mg dA D al ext)) (σ : mv_H) (f len th d n a1 a2 : Nat) (hf : d + f = 61) (hP : PS 74 len th d n a1 a2 σ) (b9 : Int32) (hk : mv_i σ 74 4 = 1) (ihE : ∀ g, g + 1 = f → XE l dA D al ext sk sv 74 g) : mv_C l y_Book_wider (Cond.code y_Book_wider b_Book_wider 7 (Option.some Jvm.ClassFile.FieldType.int) :: ma) ({ frames := 14 * f + 10, cells := 0, slots := 0, locals := 500 * f + 400 }) (mg dA D al ext) (mK sk sv) [.ref (al 74), .int b9] σ (mv_Ui (XO 74 len th d n a1 (10 * f) σ) ("MachineLoomModel$Book$Wrong", al 107) (BF 74 σ)) := by
  refine mv_C.ofV (cc := b_Book_wider) (nL := 7) (ret := (Option.some Jvm.ClassFile.FieldType.int)) (by decide +kernel) rfl hi (Nat.le_of_ble_eq_true rfl) ?_
  intro p e s m below meth c B hNs hr hnm hno
  have hS := XT.rf hP
  have hn0 := hP.le.1
  refine mv_aload_n (pc := 0) B d_Book_wider_0 rfl 0 rfl ?_
  refine mv_callVUv (pc := 1) (n := 0) (ci := 12) (C := R_Book) B (mK_ok sk sv) hNs rfl rfl (c_Book_pass_x l hi _ len _ _ hS.P.1) rfl (ma_goodc kc_Book_pass) (B.2.2.2.1 _ k_2173) (B.2.2.2.1 _ k_2175) (B.2.2.2.1 _ ks_90) (B.2.2.2.1 _ k_13) ⟨by decide +kernel, by decide +kernel, by decide +kernel⟩ rfl d_Book_wider_1 rfl (Nat.le_of_ble_eq_true rfl) ⟨by first | decide | (dsimp only; omega), by first | decide | (dsimp only; omega)⟩ ⟨Nat.le_refl _, Nat.le_refl _⟩ ⟨Nat.le_refl _, Nat.le_refl _⟩ (mv_noH hno _) (fun τ9 g9 => Or.inr ⟨rfl, hS.1.2.1.bf.tr g9.bf⟩) (fun σ1 h1 => ?_)
  have w1 := hS.P.w (by rw [hk]; decide)
  obtain ⟨d1, t1, u1, q1, g1⟩ := h1
  rw [hS.P.2.1] at d1
  have hL0 := hS.le
  have hS := hS.pass q1 g1
  refine mv_aload_n (pc := 4) B d_Book_wider_4 rfl 0 rfl ?_
  refine mv_bipush (pc := 5) (v := 40) B d_Book_wider_5 (by decide) ?_
  refine mv_callVUv (pc := 7) (n := 1) (ci := 12) (C := R_Book) B (mK_ok sk sv) hNs rfl rfl (c_Book_need_x l hi _ _ len _ _ hS.P.1) rfl (ma_goodc kc_Book_need) (B.2.2.2.1 _ k_2177) (B.2.2.2.1 _ k_2179) (B.2.2.2.1 _ ks_91) (B.2.2.2.1 _ k_13) ⟨by decide +kernel, by decide +kernel, by decide +kernel⟩ rfl d_Book_wider_7 rfl (Nat.le_of_ble_eq_true rfl) ⟨by first | decide | (dsimp only; omega), by first | decide | (dsimp only; omega)⟩ ⟨Nat.le_refl _, Nat.le_refl _⟩ ⟨Nat.le_refl _, Nat.le_refl _⟩ (mv_noH hno _) (fun τ9 g9 => Or.inr ⟨rfl, hS.1.2.1.bf.tr g9.bf⟩) (fun σ7 h7 => ?_)
  obtain ⟨k7, d7, t7, u7, q7, g7⟩ := h7
  have w7 := hS.P.w (by rw [k7]; decide)
  rw [hS.P.2.1] at d7
  have hL0 := hS.le
  have hS := hS.pass q7 g7
  refine mv_aload_n (pc := 10) B d_Book_wider_10 rfl 0 rfl ?_
  refine mv_dup (pc := 11) B d_Book_wider_11 rfl ?_
  refine mv_getI (pc := 12) (ci := 12) (C := R_Book) (T := F_Book) (N := 65) B 8 rfl rfl (by decide) i_Book (B.2.2.2.1 _ k_1851) rfl d_Book_wider_12 ?_
  refine mv_iconst (pc := 15) (v := 1) B d_Book_wider_15 (by decide) ?_
  refine mv_iadd (pc := 16) B d_Book_wider_16 ?_
  refine mv_putI (pc := 17) (ci := 12) (C := R_Book) (T := F_Book) (N := 65) B 8 rfl rfl (by decide) i_Book t_Book_ok n_Book (B.2.2.2.1 _ k_1851) rfl rfl rfl rfl d_Book_wider_17 ?_
  refine mv_gen (fun S20 eS20 => ?_)
  have hS := hS.dep (hS.P.up (by omega))
  rw [← eS20] at hS
  clear eS20
  refine mv_aload_n (pc := 20) B d_Book_wider_20 rfl 0 rfl ?_
  refine mv_callVUi (pc := 21) (n := 0) (ci := 12) (C := R_Book) B (mK_ok sk sv) hNs rfl rfl (ihE (f - 1) (by omega) _ len th _ _ _ _ (by omega) hS.P) rfl (ma_goodc kc_Book_expression) (B.2.2.2.1 _ k_2245) (B.2.2.2.1 _ k_2247) (B.2.2.2.1 _ ks_104) (B.2.2.2.1 _ k_13) ⟨by decide +kernel, by decide +kernel, by decide +kernel⟩ rfl d_Book_wider_21 rfl (Nat.le_of_ble_eq_true rfl) ⟨by first | decide | (dsimp only; omega), by first | decide | (dsimp only; omega)⟩ ⟨Nat.le_refl _, Nat.le_refl _⟩ ⟨Nat.le_refl _, Nat.le_refl _⟩ (mv_noH hno _) (fun τ9 g9 => Or.inr ⟨rfl, hS.1.2.1.bf.tr g9⟩) (fun v21 σ21 h21 => ?_)
  obtain ⟨n21, t21, u21, s21, m21, r21, x21⟩ := h21
  have i21 := s21.2.2.2.1
  have hS := hS.sub s21 x21
  have hL21 := hS.le
  have hb21 : vp_in v21 33000 := i32_in (by omega) (by omega)
  refine mv_istore_n (pc := 24) B d_Book_wider_24 rfl (by decide) rfl ?_
  refine mv_aload_n (pc := 25) B d_Book_wider_25 rfl 1 rfl ?_
  refine mv_bipush (pc := 26) (v := 44) B d_Book_wider_26 (by decide) ?_
  refine mv_callVUv (pc := 28) (n := 1) (ci := 12) (C := R_Book) B (mK_ok sk sv) hNs rfl rfl (c_Book_need_x l hi _ _ len _ _ hS.P.1) rfl (ma_goodc kc_Book_need) (B.2.2.2.1 _ k_2177) (B.2.2.2.1 _ k_2179) (B.2.2.2.1 _ ks_91) (B.2.2.2.1 _ k_13) ⟨by decide +kernel, by decide +kernel, by decide +kernel⟩ rfl d_Book_wider_28 rfl (Nat.le_of_ble_eq_true rfl) ⟨by first | decide | (dsimp only; omega), by first | decide | (dsimp only; omega)⟩ ⟨Nat.le_refl _, Nat.le_refl _⟩ ⟨Nat.le_refl _, Nat.le_refl _⟩ (mv_noH hno _) (fun τ9 g9 => Or.inr ⟨rfl, hS.1.2.1.bf.tr g9.bf⟩) (fun σ28 h28 => ?_)
  obtain ⟨k28, d28, t28, u28, q28, g28⟩ := h28
  have w28 := hS.P.w (by rw [k28]; decide)
  rw [hS.P.2.1] at d28
  have hL0 := hS.le
  have hS := hS.pass q28 g28
  refine mv_aload_n (pc := 31) B d_Book_wider_31 rfl 1 rfl ?_
  refine mv_getL (pc := 32) (ci := 12) (C := R_Book) (T := F_Book) (N := 65) B 9 rfl rfl (by decide) i_Book (B.2.2.2.1 _ k_1852) rfl d_Book_wider_32 ?_
  refine mv_lstore_n (pc := 35) B d_Book_wider_35 rfl (by decide) rfl ?_
  refine mv_aload_n (pc := 36) B d_Book_wider_36 rfl 2 rfl ?_
  refine mv_getI (pc := 37) (ci := 12) (C := R_Book) (T := F_Book) (N := 65) B 5 rfl rfl (by decide) i_Book (B.2.2.2.1 _ k_1848) rfl d_Book_wider_37 ?_
  refine mv_istore (pc := 40) B d_Book_wider_40 (by decide) rfl ?_
  refine mv_aload_n (pc := 42) B d_Book_wider_42 rfl 3 rfl ?_
  refine mv_iconst (pc := 43) (v := 2) B d_Book_wider_43 (by decide) ?_
  refine mv_callVUv (pc := 44) (n := 1) (ci := 12) (C := R_Book) B (mK_ok sk sv) hNs rfl rfl (c_Book_need_x l hi _ _ len _ _ hS.P.1) rfl (ma_goodc kc_Book_need) (B.2.2.2.1 _ k_2177) (B.2.2.2.1 _ k_2179) (B.2.2.2.1 _ ks_91) (B.2.2.2.1 _ k_13) ⟨by decide +kernel, by decide +kernel, by decide +kernel⟩ rfl d_Book_wider_44 rfl (Nat.le_of_ble_eq_true rfl) ⟨by first | decide | (dsimp only; omega), by first | decide | (dsimp only; omega)⟩ ⟨Nat.le_refl _, Nat.le_refl _⟩ ⟨Nat.le_refl _, Nat.le_refl _⟩ (mv_noH hno _) (fun τ9 g9 => Or.inr ⟨rfl, hS.1.2.1.bf.tr g9.bf⟩) (fun σ44 h44 => ?_)
  obtain ⟨k44, d44, t44, u44, q44, g44⟩ := h44
  have w44 := hS.P.w (by rw [k44]; decide)
  rw [hS.P.2.1] at d44
  have hL0 := hS.le
  have hS := hS.pass q44 g44
  refine mv_aload_n (pc := 47) B d_Book_wider_47 rfl 3 rfl ?_
  refine mv_bipush (pc := 48) (v := 41) B d_Book_wider_48 (by decide) ?_
  refine mv_callVUv (pc := 50) (n := 1) (ci := 12) (C := R_Book) B (mK_ok sk sv) hNs rfl rfl (c_Book_need_x l hi _ _ len _ _ hS.P.1) rfl (ma_goodc kc_Book_need) (B.2.2.2.1 _ k_2177) (B.2.2.2.1 _ k_2179) (B.2.2.2.1 _ ks_91) (B.2.2.2.1 _ k_13) ⟨by decide +kernel, by decide +kernel, by decide +kernel⟩ rfl d_Book_wider_50 rfl (Nat.le_of_ble_eq_true rfl) ⟨by first | decide | (dsimp only; omega), by first | decide | (dsimp only; omega)⟩ ⟨Nat.le_refl _, Nat.le_refl _⟩ ⟨Nat.le_refl _, Nat.le_refl _⟩ (mv_noH hno _) (fun τ9 g9 => Or.inr ⟨rfl, hS.1.2.1.bf.tr g9.bf⟩) (fun σ50 h50 => ?_)
  obtain ⟨k50, d50, t50, u50, q50, g50⟩ := h50
  have w50 := hS.P.w (by rw [k50]; decide)
  rw [hS.P.2.1] at d50
  have hL0 := hS.le
  have hS := hS.pass q50 g50
  refine mv_aload_n (pc := 53) B d_Book_wider_53 rfl 3 rfl ?_
  refine mv_dup (pc := 54) B d_Book_wider_54 rfl ?_
  refine mv_getI (pc := 55) (ci := 12) (C := R_Book) (T := F_Book) (N := 65) B 8 rfl rfl (by decide) i_Book (B.2.2.2.1 _ k_1851) rfl d_Book_wider_55 ?_
  refine mv_iconst (pc := 58) (v := 1) B d_Book_wider_58 (by decide) ?_
  refine mv_isub (pc := 59) B d_Book_wider_59 ?_
  refine mv_putI (pc := 60) (ci := 12) (C := R_Book) (T := F_Book) (N := 65) B 8 rfl rfl (by decide) i_Book t_Book_ok n_Book (B.2.2.2.1 _ k_1851) rfl rfl rfl rfl d_Book_wider_60 ?_
  refine mv_gen (fun S63 eS63 => ?_)
  have hS := hS.dep hS.P.dn
  rw [← eS63] at hS
  clear eS63
  have j114 : ∀ (τ : mv_H) (m9 : Int64) (r9 : Int32) (hT : FT 74 S63 τ), mv_V p l e ({ frames := 14 * f + 10, cells := 0, slots := 0, locals := 500 * f + 400 }) s m ([.ref (al 74), .int b9] : List Value).toArray below meth c (mg dA D al ext) 7 0 0 (mv_Q (mg dA D al ext) below s 0 0 (mv_Ui (XO 74 len th d n a1 (10 * f) σ) ("MachineLoomModel$Book$Wrong", al 107) (BF 74 σ))) τ 114 [(0, .ref (al 74)), (1, .int b9), (2, .int v21), (3, .long m9), (6, .int r9)] [] := by
    intro τ m9 r9 hT
    have hS := hS.ft hT
    refine mv_aload_n (pc := 114) B d_Book_wider_114 rfl 0 rfl ?_
    refine mv_iload_n (pc := 115) B d_Book_wider_115 rfl 1 rfl ?_
    refine mv_if_eq (pc := 116) (tgt := 124) B d_Book_wider_116 rfl (fun h116 => ?_) (fun h116 => ?_)
    · skip
      refine mv_bipush (pc := 124) (v := 12) B d_Book_wider_124 (by decide) ?_
      refine mv_iload_n (pc := 126) B d_Book_wider_126 rfl 2 rfl ?_
      refine mv_iconst (pc := 127) (v := 0) B d_Book_wider_127 (by decide) ?_
      refine mv_iconst (pc := 128) (v := 0) B d_Book_wider_128 (by decide) ?_
      refine mv_iload (pc := 129) B d_Book_wider_129 4 rfl ?_
      refine mv_if_eq (pc := 131) (tgt := 148) B d_Book_wider_131 rfl (fun h131 => ?_) (fun h131 => ?_)
      · skip
        refine mv_iconst (pc := 148) (v := 0) B d_Book_wider_148 (by decide) ?_
        refine mv_callVi (pc := 149) (n := 5) (ci := 12) (C := R_Book) B (mK_ok sk sv) hNs rfl rfl (c_Book_node_x l hi _ _ _ _ _ _ hS.R (by have := hS.le; omega) (by have := hS.le; omega)) rfl (ma_goodc kc_Book_node) (B.2.2.2.1 _ k_2269) (B.2.2.2.1 _ k_2271) (B.2.2.2.1 _ ks_110) (B.2.2.2.1 _ k_13) ⟨by decide +kernel, by decide +kernel, by decide +kernel⟩ rfl d_Book_wider_149 rfl (Nat.le_of_ble_eq_true rfl) ⟨by first | decide | (dsimp only; omega), by first | decide | (dsimp only; omega)⟩ ⟨Nat.le_refl _, Nat.le_refl _⟩ ⟨Nat.le_refl _, Nat.le_refl _⟩ (mv_noH hno _) (fun v149 σ149 h149 => ?_)
        obtain ⟨e149, z149⟩ := h149
        have hL149 := hS.le
        have hN := hS.nodeE z149 (lo := n) (R := 10 * f) (by omega) hn0 (fun zz => XR.un (hS.2.at 0 rfl zz) m21 hS.P.nn (by decide) r21 (by omega))
        have hv149 : v149.toInt + 1 = ((n21 + 1 : Nat) : Int) := by rw [e149]; omega
        exact mv_iret (pc := 152) B hr rfl d_Book_wider_152 (Nat.le_refl _) (Nat.le_refl _) (Or.inl ⟨_, rfl, hN.out hv149 (by omega) 0 rfl (Nat.le_refl _)⟩)
      · skip
        refine mv_aload_n (pc := 134) B d_Book_wider_134 rfl 0 rfl ?_
        refine mv_getR (pc := 135) (ci := 12) (C := R_Book) (T := F_Book) (N := 65) B 45 rfl rfl (by decide) i_Book (B.2.2.2.1 _ k_1894) rfl (hS.R.1 _ 45 _ rfl) d_Book_wider_135 ?_
        refine mv_iload_n (pc := 138) B d_Book_wider_138 rfl 2 rfl ?_
        refine mv_iald (pc := 139) B rfl hb21 d_Book_wider_139 ?_
        refine mv_if_le (pc := 140) (tgt := 148) B d_Book_wider_140 rfl (fun h140 => ?_) (fun h140 => ?_)
        · skip
          refine mv_iconst (pc := 148) (v := 0) B d_Book_wider_148 (by decide) ?_
          refine mv_callVi (pc := 149) (n := 5) (ci := 12) (C := R_Book) B (mK_ok sk sv) hNs rfl rfl (c_Book_node_x l hi _ _ _ _ _ _ hS.R (by have := hS.le; omega) (by have := hS.le; omega)) rfl (ma_goodc kc_Book_node) (B.2.2.2.1 _ k_2269) (B.2.2.2.1 _ k_2271) (B.2.2.2.1 _ ks_110) (B.2.2.2.1 _ k_13) ⟨by decide +kernel, by decide +kernel, by decide +kernel⟩ rfl d_Book_wider_149 rfl (Nat.le_of_ble_eq_true rfl) ⟨by first | decide | (dsimp only; omega), by first | decide | (dsimp only; omega)⟩ ⟨Nat.le_refl _, Nat.le_refl _⟩ ⟨Nat.le_refl _, Nat.le_refl _⟩ (mv_noH hno _) (fun v149 σ149 h149 => ?_)
          obtain ⟨e149, z149⟩ := h149
          have hL149 := hS.le
          have hN := hS.nodeE z149 (lo := n) (R := 10 * f) (by omega) hn0 (fun zz => XR.un (hS.2.at 0 rfl zz) m21 hS.P.nn (by decide) r21 (by omega))
          have hv149 : v149.toInt + 1 = ((n21 + 1 : Nat) : Int) := by rw [e149]; omega
          exact mv_iret (pc := 152) B hr rfl d_Book_wider_152 (Nat.le_refl _) (Nat.le_refl _) (Or.inl ⟨_, rfl, hN.out hv149 (by omega) 0 rfl (Nat.le_refl _)⟩)
        · skip
          refine mv_lload_n (pc := 143) B d_Book_wider_143 rfl 3 rfl ?_
          refine mv_l2i (pc := 144) B d_Book_wider_144 ?_
          refine mv_goto (pc := 145) (tgt := 149) B d_Book_wider_145 rfl ?_
          refine mv_callVi (pc := 149) (n := 5) (ci := 12) (C := R_Book) B (mK_ok sk sv) hNs rfl rfl (c_Book_node_x l hi _ _ _ _ _ _ hS.R (by have := hS.le; omega) (by have := hS.le; omega)) rfl (ma_goodc kc_Book_node) (B.2.2.2.1 _ k_2269) (B.2.2.2.1 _ k_2271) (B.2.2.2.1 _ ks_110) (B.2.2.2.1 _ k_13) ⟨by decide +kernel, by decide +kernel, by decide +kernel⟩ rfl d_Book_wider_149 rfl (Nat.le_of_ble_eq_true rfl) ⟨by first | decide | (dsimp only; omega), by first | decide | (dsimp only; omega)⟩ ⟨Nat.le_refl _, Nat.le_refl _⟩ ⟨Nat.le_refl _, Nat.le_refl _⟩ (mv_noH hno _) (fun v149 σ149 h149 => ?_)
          obtain ⟨e149, z149⟩ := h149
          have hL149 := hS.le
          have hN := hS.nodeE z149 (lo := n) (R := 10 * f) (by omega) hn0 (fun zz => XR.un (hS.2.at 0 rfl zz) m21 hS.P.nn (by decide) r21 (by omega))
          have hv149 : v149.toInt + 1 = ((n21 + 1 : Nat) : Int) := by rw [e149]; omega
          exact mv_iret (pc := 152) B hr rfl d_Book_wider_152 (Nat.le_refl _) (Nat.le_refl _) (Or.inl ⟨_, rfl, hN.out hv149 (by omega) 0 rfl (Nat.le_refl _)⟩)
    · skip
      refine mv_bipush (pc := 119) (v := 11) B d_Book_wider_119 (by decide) ?_
      refine mv_goto (pc := 121) (tgt := 126) B d_Book_wider_121 rfl ?_
      refine mv_iload_n (pc := 126) B d_Book_wider_126 rfl 2 rfl ?_
      refine mv_iconst (pc := 127) (v := 0) B d_Book_wider_127 (by decide) ?_
      refine mv_iconst (pc := 128) (v := 0) B d_Book_wider_128 (by decide) ?_
      refine mv_iload (pc := 129) B d_Book_wider_129 4 rfl ?_
      refine mv_if_eq (pc := 131) (tgt := 148) B d_Book_wider_131 rfl (fun h131 => ?_) (fun h131 => ?_)
      · skip
        refine mv_iconst (pc := 148) (v := 0) B d_Book_wider_148 (by decide) ?_
        refine mv_callVi (pc := 149) (n := 5) (ci := 12) (C := R_Book) B (mK_ok sk sv) hNs rfl rfl (c_Book_node_x l hi _ _ _ _ _ _ hS.R (by have := hS.le; omega) (by have := hS.le; omega)) rfl (ma_goodc kc_Book_node) (B.2.2.2.1 _ k_2269) (B.2.2.2.1 _ k_2271) (B.2.2.2.1 _ ks_110) (B.2.2.2.1 _ k_13) ⟨by decide +kernel, by decide +kernel, by decide +kernel⟩ rfl d_Book_wider_149 rfl (Nat.le_of_ble_eq_true rfl) ⟨by first | decide | (dsimp only; omega), by first | decide | (dsimp only; omega)⟩ ⟨Nat.le_refl _, Nat.le_refl _⟩ ⟨Nat.le_refl _, Nat.le_refl _⟩ (mv_noH hno _) (fun v149 σ149 h149 => ?_)
        obtain ⟨e149, z149⟩ := h149
        have hL149 := hS.le
        have hN := hS.nodeE z149 (lo := n) (R := 10 * f) (by omega) hn0 (fun zz => XR.un (hS.2.at 0 rfl zz) m21 hS.P.nn (by decide) r21 (by omega))
        have hv149 : v149.toInt + 1 = ((n21 + 1 : Nat) : Int) := by rw [e149]; omega
        exact mv_iret (pc := 152) B hr rfl d_Book_wider_152 (Nat.le_refl _) (Nat.le_refl _) (Or.inl ⟨_, rfl, hN.out hv149 (by omega) 0 rfl (Nat.le_refl _)⟩)
      · skip
        refine mv_aload_n (pc := 134) B d_Book_wider_134 rfl 0 rfl ?_
        refine mv_getR (pc := 135) (ci := 12) (C := R_Book) (T := F_Book) (N := 65) B 45 rfl rfl (by decide) i_Book (B.2.2.2.1 _ k_1894) rfl (hS.R.1 _ 45 _ rfl) d_Book_wider_135 ?_
        refine mv_iload_n (pc := 138) B d_Book_wider_138 rfl 2 rfl ?_
        refine mv_iald (pc := 139) B rfl hb21 d_Book_wider_139 ?_
        refine mv_if_le (pc := 140) (tgt := 148) B d_Book_wider_140 rfl (fun h140 => ?_) (fun h140 => ?_)
        · skip
          refine mv_iconst (pc := 148) (v := 0) B d_Book_wider_148 (by decide) ?_
          refine mv_callVi (pc := 149) (n := 5) (ci := 12) (C := R_Book) B (mK_ok sk sv) hNs rfl rfl (c_Book_node_x l hi _ _ _ _ _ _ hS.R (by have := hS.le; omega) (by have := hS.le; omega)) rfl (ma_goodc kc_Book_node) (B.2.2.2.1 _ k_2269) (B.2.2.2.1 _ k_2271) (B.2.2.2.1 _ ks_110) (B.2.2.2.1 _ k_13) ⟨by decide +kernel, by decide +kernel, by decide +kernel⟩ rfl d_Book_wider_149 rfl (Nat.le_of_ble_eq_true rfl) ⟨by first | decide | (dsimp only; omega), by first | decide | (dsimp only; omega)⟩ ⟨Nat.le_refl _, Nat.le_refl _⟩ ⟨Nat.le_refl _, Nat.le_refl _⟩ (mv_noH hno _) (fun v149 σ149 h149 => ?_)
          obtain ⟨e149, z149⟩ := h149
          have hL149 := hS.le
          have hN := hS.nodeE z149 (lo := n) (R := 10 * f) (by omega) hn0 (fun zz => XR.un (hS.2.at 0 rfl zz) m21 hS.P.nn (by decide) r21 (by omega))
          have hv149 : v149.toInt + 1 = ((n21 + 1 : Nat) : Int) := by rw [e149]; omega
          exact mv_iret (pc := 152) B hr rfl d_Book_wider_152 (Nat.le_refl _) (Nat.le_refl _) (Or.inl ⟨_, rfl, hN.out hv149 (by omega) 0 rfl (Nat.le_refl _)⟩)
        · skip
          refine mv_lload_n (pc := 143) B d_Book_wider_143 rfl 3 rfl ?_
          refine mv_l2i (pc := 144) B d_Book_wider_144 ?_
          refine mv_goto (pc := 145) (tgt := 149) B d_Book_wider_145 rfl ?_
          refine mv_callVi (pc := 149) (n := 5) (ci := 12) (C := R_Book) B (mK_ok sk sv) hNs rfl rfl (c_Book_node_x l hi _ _ _ _ _ _ hS.R (by have := hS.le; omega) (by have := hS.le; omega)) rfl (ma_goodc kc_Book_node) (B.2.2.2.1 _ k_2269) (B.2.2.2.1 _ k_2271) (B.2.2.2.1 _ ks_110) (B.2.2.2.1 _ k_13) ⟨by decide +kernel, by decide +kernel, by decide +kernel⟩ rfl d_Book_wider_149 rfl (Nat.le_of_ble_eq_true rfl) ⟨by first | decide | (dsimp only; omega), by first | decide | (dsimp only; omega)⟩ ⟨Nat.le_refl _, Nat.le_refl _⟩ ⟨Nat.le_refl _, Nat.le_refl _⟩ (mv_noH hno _) (fun v149 σ149 h149 => ?_)
          obtain ⟨e149, z149⟩ := h149
          have hL149 := hS.le
          have hN := hS.nodeE z149 (lo := n) (R := 10 * f) (by omega) hn0 (fun zz => XR.un (hS.2.at 0 rfl zz) m21 hS.P.nn (by decide) r21 (by omega))
          have hv149 : v149.toInt + 1 = ((n21 + 1 : Nat) : Int) := by rw [e149]; omega
          exact mv_iret (pc := 152) B hr rfl d_Book_wider_152 (Nat.le_refl _) (Nat.le_refl _) (Or.inl ⟨_, rfl, hN.out hv149 (by omega) 0 rfl (Nat.le_refl _)⟩)
  have j100 : ∀ (m9 : Int64) (q9 : Int32) (r9 : Int32) , mv_V p l e ({ frames := 14 * f + 10, cells := 0, slots := 0, locals := 500 * f + 400 }) s m ([.ref (al 74), .int b9] : List Value).toArray below meth c (mg dA D al ext) 7 0 0 (mv_Q (mg dA D al ext) below s 0 0 (mv_Ui (XO 74 len th d n a1 (10 * f) σ) ("MachineLoomModel$Book$Wrong", al 107) (BF 74 σ))) S63 100 [(0, .ref (al 74)), (1, .int b9), (2, .int v21), (3, .long m9), (5, .int q9)] [.int r9] := by
    intro m9 q9 r9
    refine mv_istore (pc := 100) B d_Book_wider_100 (by decide) rfl ?_
    refine mv_iload (pc := 102) B d_Book_wider_102 0 rfl ?_
    refine mv_if_ne (pc := 104) (tgt := 114) B d_Book_wider_104 rfl (fun h104 => ?_) (fun h104 => ?_)
    · skip
      refine mv_lpick [1, 2, 3, 4, 0] rfl ?_
      exact j114 _ _ _ (by first | exact FT.rf | exact FT.rf.of h111)
    · skip
      refine mv_aload_n (pc := 107) B d_Book_wider_107 rfl 1 rfl ?_
      refine mv_iconst (pc := 108) (v := 3) B d_Book_wider_108 (by decide) ?_
      refine mv_iload (pc := 109) B d_Book_wider_109 5 rfl ?_
      refine mv_callVv (pc := 111) (n := 2) (ci := 12) (C := R_Book) B (mK_ok sk sv) hNs rfl rfl (c_Book_fault_x l hi _ _ _ (by decide)) rfl (ma_goodc kc_Book_fault) (B.2.2.2.1 _ k_2185) (B.2.2.2.1 _ k_2187) (B.2.2.2.1 _ ks_92) (B.2.2.2.1 _ k_13) ⟨by decide +kernel, by decide +kernel, by decide +kernel⟩ rfl d_Book_wider_111 rfl (Nat.le_of_ble_eq_true rfl) ⟨by first | decide | (dsimp only; omega), by first | decide | (dsimp only; omega)⟩ ⟨Nat.le_refl _, Nat.le_refl _⟩ ⟨Nat.le_refl _, Nat.le_refl _⟩ (mv_noH hno _) (fun σ111 h111 => ?_)
      refine mv_lpick [1, 2, 3, 4, 0] rfl ?_
      exact j114 _ _ _ (by first | exact FT.rf | exact FT.rf.of h111)
  refine mv_lload_n (pc := 63) B d_Book_wider_63 rfl 1 rfl ?_
  refine mv_lconst (pc := 64) (v := 1) B d_Book_wider_64 (by decide) ?_
  refine mv_ldc2 (pc := 65) (v := 64) B (B.2.2.2.1 _ k_2184) d_Book_wider_65 ?_
  refine mv_callSNi (pc := 68) (n := 3) B (mK_ok sk sv) hNs (c_Model_in l hi _ _ _ _) rfl (ma_goodc kc_Model_in) (va_Nw.use rfl (hNs.1 _ (List.mem_of_getElem? (i := 7) rfl))) (B.2.2.2.1 _ k_2208) (B.2.2.2.1 _ k_12) ⟨by decide +kernel, by decide +kernel, by decide +kernel⟩ rfl d_Book_wider_68 rfl (Nat.le_of_ble_eq_true rfl) ⟨by first | decide | (dsimp only; omega), by first | decide | (dsimp only; omega)⟩ ⟨Nat.le_refl _, Nat.le_refl _⟩ ⟨Nat.le_refl _, Nat.le_refl _⟩ (mv_noH hno _) (fun v68 σ68 h68 => ?_)
  obtain ⟨e68, z68⟩ := h68
  have e68 := e68.symm
  subst e68
  refine mv_if_eq (pc := 71) (tgt := 99) B d_Book_wider_71 rfl (fun h71 => ?_) (fun h71 => ?_)
  · skip
    refine mv_iconst (pc := 99) (v := 0) B d_Book_wider_99 (by decide) ?_
    refine mv_lpick [3, 4, 2, 1, 0] rfl ?_
    exact j100 _ _ _
  · skip
    refine mv_aload_n (pc := 74) B d_Book_wider_74 rfl 3 rfl ?_
    refine mv_getR (pc := 75) (ci := 12) (C := R_Book) (T := F_Book) (N := 65) B 45 rfl rfl (by decide) i_Book (B.2.2.2.1 _ k_1894) rfl (hS.R.1 _ 45 _ rfl) d_Book_wider_75 ?_
    refine mv_iload_n (pc := 78) B d_Book_wider_78 rfl 2 rfl ?_
    refine mv_iald (pc := 79) B rfl hb21 d_Book_wider_79 ?_
    refine mv_if_eq (pc := 80) (tgt := 95) B d_Book_wider_80 rfl (fun h80 => ?_) (fun h80 => ?_)
    · skip
      refine mv_iconst (pc := 95) (v := 1) B d_Book_wider_95 (by decide) ?_
      refine mv_goto (pc := 96) (tgt := 100) B d_Book_wider_96 rfl ?_
      refine mv_lpick [3, 4, 2, 1, 0] rfl ?_
      exact j100 _ _ _
    · skip
      refine mv_lload_n (pc := 83) B d_Book_wider_83 rfl 1 rfl ?_
      refine mv_aload_n (pc := 84) B d_Book_wider_84 rfl 3 rfl ?_
      refine mv_getR (pc := 85) (ci := 12) (C := R_Book) (T := F_Book) (N := 65) B 45 rfl rfl (by decide) i_Book (B.2.2.2.1 _ k_1894) rfl (hS.R.1 _ 45 _ rfl) d_Book_wider_85 ?_
      refine mv_iload_n (pc := 88) B d_Book_wider_88 rfl 2 rfl ?_
      refine mv_iald (pc := 89) B rfl hb21 d_Book_wider_89 ?_
      refine mv_i2l (pc := 90) B d_Book_wider_90 ?_
      refine mv_lcmp (pc := 91) B d_Book_wider_91 ?_
      refine mv_if_lt (pc := 92) (tgt := 99) B d_Book_wider_92 rfl (fun h92 => ?_) (fun h92 => ?_)
      · skip
        refine mv_iconst (pc := 99) (v := 0) B d_Book_wider_99 (by decide) ?_
        refine mv_lpick [3, 4, 2, 1, 0] rfl ?_
        exact j100 _ _ _
      · skip
        refine mv_iconst (pc := 95) (v := 1) B d_Book_wider_95 (by decide) ?_
        refine mv_goto (pc := 96) (tgt := 100) B d_Book_wider_96 rfl ?_
        refine mv_lpick [3, 4, 2, 1, 0] rfl ?_
        exact j100 _ _ _
set_option maxHeartbeats 4000000 in
set_option maxRecDepth 100000 in
theorem c_Book_wider_y (l : Launch) {dA : FieldType → ClassId} {D : va_G} {al : Nat → Nat} {ext : mv_Sh} {sk sv : Nat → Nat} (hi : mv_inj (mg dA D al ext)) (σ : mv_H) (f len th d n a1 a2 : Nat) (hf : d + f = 61) (hP : PS 108 len th d n a1 a2 σ) (b9 : Int32) (hk : mv_i σ 108 4 = 1) (ihE : ∀ g, g + 1 = f → XE l dA D al ext sk sv 108 g) : mv_C l y_Book_wider (Cond.code y_Book_wider b_Book_wider 7 (Option.some Jvm.ClassFile.FieldType.int) :: ma) ({ frames := 14 * f + 10, cells := 0, slots := 0, locals := 500 * f + 400 }) (mg dA D al ext) (mK sk sv) [.ref (al 108), .int b9] σ (mv_Ui (XO 108 len th d n a1 (10 * f) σ) ("MachineLoomModel$Book$Wrong", al 141) (BF 108 σ)) := by
  refine mv_C.ofV (cc := b_Book_wider) (nL := 7) (ret := (Option.some Jvm.ClassFile.FieldType.int)) (by decide +kernel) rfl hi (Nat.le_of_ble_eq_true rfl) ?_
  intro p e s m below meth c B hNs hr hnm hno
  have hS := XT.rf hP
  have hn0 := hP.le.1
  refine mv_aload_n (pc := 0) B d_Book_wider_0 rfl 0 rfl ?_
  refine mv_callVUv (pc := 1) (n := 0) (ci := 12) (C := R_Book) B (mK_ok sk sv) hNs rfl rfl (c_Book_pass_y l hi _ len _ _ hS.P.1) rfl (ma_goodc kc_Book_pass) (B.2.2.2.1 _ k_2173) (B.2.2.2.1 _ k_2175) (B.2.2.2.1 _ ks_90) (B.2.2.2.1 _ k_13) ⟨by decide +kernel, by decide +kernel, by decide +kernel⟩ rfl d_Book_wider_1 rfl (Nat.le_of_ble_eq_true rfl) ⟨by first | decide | (dsimp only; omega), by first | decide | (dsimp only; omega)⟩ ⟨Nat.le_refl _, Nat.le_refl _⟩ ⟨Nat.le_refl _, Nat.le_refl _⟩ (mv_noH hno _) (fun τ9 g9 => Or.inr ⟨rfl, hS.1.2.1.bf.tr g9.bf⟩) (fun σ1 h1 => ?_)
  have w1 := hS.P.w (by rw [hk]; decide)
  obtain ⟨d1, t1, u1, q1, g1⟩ := h1
  rw [hS.P.2.1] at d1
  have hL0 := hS.le
  have hS := hS.pass q1 g1
  refine mv_aload_n (pc := 4) B d_Book_wider_4 rfl 0 rfl ?_
  refine mv_bipush (pc := 5) (v := 40) B d_Book_wider_5 (by decide) ?_
  refine mv_callVUv (pc := 7) (n := 1) (ci := 12) (C := R_Book) B (mK_ok sk sv) hNs rfl rfl (c_Book_need_y l hi _ _ len _ _ hS.P.1) rfl (ma_goodc kc_Book_need) (B.2.2.2.1 _ k_2177) (B.2.2.2.1 _ k_2179) (B.2.2.2.1 _ ks_91) (B.2.2.2.1 _ k_13) ⟨by decide +kernel, by decide +kernel, by decide +kernel⟩ rfl d_Book_wider_7 rfl (Nat.le_of_ble_eq_true rfl) ⟨by first | decide | (dsimp only; omega), by first | decide | (dsimp only; omega)⟩ ⟨Nat.le_refl _, Nat.le_refl _⟩ ⟨Nat.le_refl _, Nat.le_refl _⟩ (mv_noH hno _) (fun τ9 g9 => Or.inr ⟨rfl, hS.1.2.1.bf.tr g9.bf⟩) (fun σ7 h7 => ?_)
  obtain ⟨k7, d7, t7, u7, q7, g7⟩ := h7
  have w7 := hS.P.w (by rw [k7]; decide)
  rw [hS.P.2.1] at d7
  have hL0 := hS.le
  have hS := hS.pass q7 g7
  refine mv_aload_n (pc := 10) B d_Book_wider_10 rfl 0 rfl ?_
  refine mv_dup (pc := 11) B d_Book_wider_11 rfl ?_
  refine mv_getI (pc := 12) (ci := 12) (C := R_Book) (T := F_Book) (N := 65) B 8 rfl rfl (by decide) i_Book (B.2.2.2.1 _ k_1851) rfl d_Book_wider_12 ?_
  refine mv_iconst (pc := 15) (v := 1) B d_Book_wider_15 (by decide) ?_
  refine mv_iadd (pc := 16) B d_Book_wider_16 ?_
  refine mv_putI (pc := 17) (ci := 12) (C := R_Book) (T := F_Book) (N := 65) B 8 rfl rfl (by decide) i_Book t_Book_ok n_Book (B.2.2.2.1 _ k_1851) rfl rfl rfl rfl d_Book_wider_17 ?_
  refine mv_gen (fun S20 eS20 => ?_)
  have hS := hS.dep (hS.P.up (by omega))
  rw [← eS20] at hS
  clear eS20
  refine mv_aload_n (pc := 20) B d_Book_wider_20 rfl 0 rfl ?_
  refine mv_callVUi (pc := 21) (n := 0) (ci := 12) (C := R_Book) B (mK_ok sk sv) hNs rfl rfl (ihE (f - 1) (by omega) _ len th _ _ _ _ (by omega) hS.P) rfl (ma_goodc kc_Book_expression) (B.2.2.2.1 _ k_2245) (B.2.2.2.1 _ k_2247) (B.2.2.2.1 _ ks_104) (B.2.2.2.1 _ k_13) ⟨by decide +kernel, by decide +kernel, by decide +kernel⟩ rfl d_Book_wider_21 rfl (Nat.le_of_ble_eq_true rfl) ⟨by first | decide | (dsimp only; omega), by first | decide | (dsimp only; omega)⟩ ⟨Nat.le_refl _, Nat.le_refl _⟩ ⟨Nat.le_refl _, Nat.le_refl _⟩ (mv_noH hno _) (fun τ9 g9 => Or.inr ⟨rfl, hS.1.2.1.bf.tr g9⟩) (fun v21 σ21 h21 => ?_)
  obtain ⟨n21, t21, u21, s21, m21, r21, x21⟩ := h21
  have i21 := s21.2.2.2.1
  have hS := hS.sub s21 x21
  have hL21 := hS.le
  have hb21 : vp_in v21 33000 := i32_in (by omega) (by omega)
  refine mv_istore_n (pc := 24) B d_Book_wider_24 rfl (by decide) rfl ?_
  refine mv_aload_n (pc := 25) B d_Book_wider_25 rfl 1 rfl ?_
  refine mv_bipush (pc := 26) (v := 44) B d_Book_wider_26 (by decide) ?_
  refine mv_callVUv (pc := 28) (n := 1) (ci := 12) (C := R_Book) B (mK_ok sk sv) hNs rfl rfl (c_Book_need_y l hi _ _ len _ _ hS.P.1) rfl (ma_goodc kc_Book_need) (B.2.2.2.1 _ k_2177) (B.2.2.2.1 _ k_2179) (B.2.2.2.1 _ ks_91) (B.2.2.2.1 _ k_13) ⟨by decide +kernel, by decide +kernel, by decide +kernel⟩ rfl d_Book_wider_28 rfl (Nat.le_of_ble_eq_true rfl) ⟨by first | decide | (dsimp only; omega), by first | decide | (dsimp only; omega)⟩ ⟨Nat.le_refl _, Nat.le_refl _⟩ ⟨Nat.le_refl _, Nat.le_refl _⟩ (mv_noH hno _) (fun τ9 g9 => Or.inr ⟨rfl, hS.1.2.1.bf.tr g9.bf⟩) (fun σ28 h28 => ?_)
  obtain ⟨k28, d28, t28, u28, q28, g28⟩ := h28
  have w28 := hS.P.w (by rw [k28]; decide)
  rw [hS.P.2.1] at d28
  have hL0 := hS.le
  have hS := hS.pass q28 g28
  refine mv_aload_n (pc := 31) B d_Book_wider_31 rfl 1 rfl ?_
  refine mv_getL (pc := 32) (ci := 12) (C := R_Book) (T := F_Book) (N := 65) B 9 rfl rfl (by decide) i_Book (B.2.2.2.1 _ k_1852) rfl d_Book_wider_32 ?_
  refine mv_lstore_n (pc := 35) B d_Book_wider_35 rfl (by decide) rfl ?_
  refine mv_aload_n (pc := 36) B d_Book_wider_36 rfl 2 rfl ?_
  refine mv_getI (pc := 37) (ci := 12) (C := R_Book) (T := F_Book) (N := 65) B 5 rfl rfl (by decide) i_Book (B.2.2.2.1 _ k_1848) rfl d_Book_wider_37 ?_
  refine mv_istore (pc := 40) B d_Book_wider_40 (by decide) rfl ?_
  refine mv_aload_n (pc := 42) B d_Book_wider_42 rfl 3 rfl ?_
  refine mv_iconst (pc := 43) (v := 2) B d_Book_wider_43 (by decide) ?_
  refine mv_callVUv (pc := 44) (n := 1) (ci := 12) (C := R_Book) B (mK_ok sk sv) hNs rfl rfl (c_Book_need_y l hi _ _ len _ _ hS.P.1) rfl (ma_goodc kc_Book_need) (B.2.2.2.1 _ k_2177) (B.2.2.2.1 _ k_2179) (B.2.2.2.1 _ ks_91) (B.2.2.2.1 _ k_13) ⟨by decide +kernel, by decide +kernel, by decide +kernel⟩ rfl d_Book_wider_44 rfl (Nat.le_of_ble_eq_true rfl) ⟨by first | decide | (dsimp only; omega), by first | decide | (dsimp only; omega)⟩ ⟨Nat.le_refl _, Nat.le_refl _⟩ ⟨Nat.le_refl _, Nat.le_refl _⟩ (mv_noH hno _) (fun τ9 g9 => Or.inr ⟨rfl, hS.1.2.1.bf.tr g9.bf⟩) (fun σ44 h44 => ?_)
  obtain ⟨k44, d44, t44, u44, q44, g44⟩ := h44
  have w44 := hS.P.w (by rw [k44]; decide)
  rw [hS.P.2.1] at d44
  have hL0 := hS.le
  have hS := hS.pass q44 g44
  refine mv_aload_n (pc := 47) B d_Book_wider_47 rfl 3 rfl ?_
  refine mv_bipush (pc := 48) (v := 41) B d_Book_wider_48 (by decide) ?_
  refine mv_callVUv (pc := 50) (n := 1) (ci := 12) (C := R_Book) B (mK_ok sk sv) hNs rfl rfl (c_Book_need_y l hi _ _ len _ _ hS.P.1) rfl (ma_goodc kc_Book_need) (B.2.2.2.1 _ k_2177) (B.2.2.2.1 _ k_2179) (B.2.2.2.1 _ ks_91) (B.2.2.2.1 _ k_13) ⟨by decide +kernel, by decide +kernel, by decide +kernel⟩ rfl d_Book_wider_50 rfl (Nat.le_of_ble_eq_true rfl) ⟨by first | decide | (dsimp only; omega), by first | decide | (dsimp only; omega)⟩ ⟨Nat.le_refl _, Nat.le_refl _⟩ ⟨Nat.le_refl _, Nat.le_refl _⟩ (mv_noH hno _) (fun τ9 g9 => Or.inr ⟨rfl, hS.1.2.1.bf.tr g9.bf⟩) (fun σ50 h50 => ?_)
  obtain ⟨k50, d50, t50, u50, q50, g50⟩ := h50
  have w50 := hS.P.w (by rw [k50]; decide)
  rw [hS.P.2.1] at d50
  have hL0 := hS.le
  have hS := hS.pass q50 g50
  refine mv_aload_n (pc := 53) B d_Book_wider_53 rfl 3 rfl ?_
  refine mv_dup (pc := 54) B d_Book_wider_54 rfl ?_
  refine mv_getI (pc := 55) (ci := 12) (C := R_Book) (T := F_Book) (N := 65) B 8 rfl rfl (by decide) i_Book (B.2.2.2.1 _ k_1851) rfl d_Book_wider_55 ?_
  refine mv_iconst (pc := 58) (v := 1) B d_Book_wider_58 (by decide) ?_
  refine mv_isub (pc := 59) B d_Book_wider_59 ?_
  refine mv_putI (pc := 60) (ci := 12) (C := R_Book) (T := F_Book) (N := 65) B 8 rfl rfl (by decide) i_Book t_Book_ok n_Book (B.2.2.2.1 _ k_1851) rfl rfl rfl rfl d_Book_wider_60 ?_
  refine mv_gen (fun S63 eS63 => ?_)
  have hS := hS.dep hS.P.dn
  rw [← eS63] at hS
  clear eS63
  have j114 : ∀ (τ : mv_H) (m9 : Int64) (r9 : Int32) (hT : FT 108 S63 τ), mv_V p l e ({ frames := 14 * f + 10, cells := 0, slots := 0, locals := 500 * f + 400 }) s m ([.ref (al 108), .int b9] : List Value).toArray below meth c (mg dA D al ext) 7 0 0 (mv_Q (mg dA D al ext) below s 0 0 (mv_Ui (XO 108 len th d n a1 (10 * f) σ) ("MachineLoomModel$Book$Wrong", al 141) (BF 108 σ))) τ 114 [(0, .ref (al 108)), (1, .int b9), (2, .int v21), (3, .long m9), (6, .int r9)] [] := by
    intro τ m9 r9 hT
    have hS := hS.ft hT
    refine mv_aload_n (pc := 114) B d_Book_wider_114 rfl 0 rfl ?_
    refine mv_iload_n (pc := 115) B d_Book_wider_115 rfl 1 rfl ?_
    refine mv_if_eq (pc := 116) (tgt := 124) B d_Book_wider_116 rfl (fun h116 => ?_) (fun h116 => ?_)
    · skip
      refine mv_bipush (pc := 124) (v := 12) B d_Book_wider_124 (by decide) ?_
      refine mv_iload_n (pc := 126) B d_Book_wider_126 rfl 2 rfl ?_
      refine mv_iconst (pc := 127) (v := 0) B d_Book_wider_127 (by decide) ?_
      refine mv_iconst (pc := 128) (v := 0) B d_Book_wider_128 (by decide) ?_
      refine mv_iload (pc := 129) B d_Book_wider_129 4 rfl ?_
      refine mv_if_eq (pc := 131) (tgt := 148) B d_Book_wider_131 rfl (fun h131 => ?_) (fun h131 => ?_)
      · skip
        refine mv_iconst (pc := 148) (v := 0) B d_Book_wider_148 (by decide) ?_
        refine mv_callVi (pc := 149) (n := 5) (ci := 12) (C := R_Book) B (mK_ok sk sv) hNs rfl rfl (c_Book_node_y l hi _ _ _ _ _ _ hS.R (by have := hS.le; omega) (by have := hS.le; omega)) rfl (ma_goodc kc_Book_node) (B.2.2.2.1 _ k_2269) (B.2.2.2.1 _ k_2271) (B.2.2.2.1 _ ks_110) (B.2.2.2.1 _ k_13) ⟨by decide +kernel, by decide +kernel, by decide +kernel⟩ rfl d_Book_wider_149 rfl (Nat.le_of_ble_eq_true rfl) ⟨by first | decide | (dsimp only; omega), by first | decide | (dsimp only; omega)⟩ ⟨Nat.le_refl _, Nat.le_refl _⟩ ⟨Nat.le_refl _, Nat.le_refl _⟩ (mv_noH hno _) (fun v149 σ149 h149 => ?_)
        obtain ⟨e149, z149⟩ := h149
        have hL149 := hS.le
        have hN := hS.nodeE z149 (lo := n) (R := 10 * f) (by omega) hn0 (fun zz => XR.un (hS.2.at 0 rfl zz) m21 hS.P.nn (by decide) r21 (by omega))
        have hv149 : v149.toInt + 1 = ((n21 + 1 : Nat) : Int) := by rw [e149]; omega
        exact mv_iret (pc := 152) B hr rfl d_Book_wider_152 (Nat.le_refl _) (Nat.le_refl _) (Or.inl ⟨_, rfl, hN.out hv149 (by omega) 0 rfl (Nat.le_refl _)⟩)
      · skip
        refine mv_aload_n (pc := 134) B d_Book_wider_134 rfl 0 rfl ?_
        refine mv_getR (pc := 135) (ci := 12) (C := R_Book) (T := F_Book) (N := 65) B 45 rfl rfl (by decide) i_Book (B.2.2.2.1 _ k_1894) rfl (hS.R.1 _ 45 _ rfl) d_Book_wider_135 ?_
        refine mv_iload_n (pc := 138) B d_Book_wider_138 rfl 2 rfl ?_
        refine mv_iald (pc := 139) B rfl hb21 d_Book_wider_139 ?_
        refine mv_if_le (pc := 140) (tgt := 148) B d_Book_wider_140 rfl (fun h140 => ?_) (fun h140 => ?_)
        · skip
          refine mv_iconst (pc := 148) (v := 0) B d_Book_wider_148 (by decide) ?_
          refine mv_callVi (pc := 149) (n := 5) (ci := 12) (C := R_Book) B (mK_ok sk sv) hNs rfl rfl (c_Book_node_y l hi _ _ _ _ _ _ hS.R (by have := hS.le; omega) (by have := hS.le; omega)) rfl (ma_goodc kc_Book_node) (B.2.2.2.1 _ k_2269) (B.2.2.2.1 _ k_2271) (B.2.2.2.1 _ ks_110) (B.2.2.2.1 _ k_13) ⟨by decide +kernel, by decide +kernel, by decide +kernel⟩ rfl d_Book_wider_149 rfl (Nat.le_of_ble_eq_true rfl) ⟨by first | decide | (dsimp only; omega), by first | decide | (dsimp only; omega)⟩ ⟨Nat.le_refl _, Nat.le_refl _⟩ ⟨Nat.le_refl _, Nat.le_refl _⟩ (mv_noH hno _) (fun v149 σ149 h149 => ?_)
          obtain ⟨e149, z149⟩ := h149
          have hL149 := hS.le
          have hN := hS.nodeE z149 (lo := n) (R := 10 * f) (by omega) hn0 (fun zz => XR.un (hS.2.at 0 rfl zz) m21 hS.P.nn (by decide) r21 (by omega))
          have hv149 : v149.toInt + 1 = ((n21 + 1 : Nat) : Int) := by rw [e149]; omega
          exact mv_iret (pc := 152) B hr rfl d_Book_wider_152 (Nat.le_refl _) (Nat.le_refl _) (Or.inl ⟨_, rfl, hN.out hv149 (by omega) 0 rfl (Nat.le_refl _)⟩)
        · skip
          refine mv_lload_n (pc := 143) B d_Book_wider_143 rfl 3 rfl ?_
          refine mv_l2i (pc := 144) B d_Book_wider_144 ?_
          refine mv_goto (pc := 145) (tgt := 149) B d_Book_wider_145 rfl ?_
          refine mv_callVi (pc := 149) (n := 5) (ci := 12) (C := R_Book) B (mK_ok sk sv) hNs rfl rfl (c_Book_node_y l hi _ _ _ _ _ _ hS.R (by have := hS.le; omega) (by have := hS.le; omega)) rfl (ma_goodc kc_Book_node) (B.2.2.2.1 _ k_2269) (B.2.2.2.1 _ k_2271) (B.2.2.2.1 _ ks_110) (B.2.2.2.1 _ k_13) ⟨by decide +kernel, by decide +kernel, by decide +kernel⟩ rfl d_Book_wider_149 rfl (Nat.le_of_ble_eq_true rfl) ⟨by first | decide | (dsimp only; omega), by first | decide | (dsimp only; omega)⟩ ⟨Nat.le_refl _, Nat.le_refl _⟩ ⟨Nat.le_refl _, Nat.le_refl _⟩ (mv_noH hno _) (fun v149 σ149 h149 => ?_)
          obtain ⟨e149, z149⟩ := h149
          have hL149 := hS.le
          have hN := hS.nodeE z149 (lo := n) (R := 10 * f) (by omega) hn0 (fun zz => XR.un (hS.2.at 0 rfl zz) m21 hS.P.nn (by decide) r21 (by omega))
          have hv149 : v149.toInt + 1 = ((n21 + 1 : Nat) : Int) := by rw [e149]; omega
          exact mv_iret (pc := 152) B hr rfl d_Book_wider_152 (Nat.le_refl _) (Nat.le_refl _) (Or.inl ⟨_, rfl, hN.out hv149 (by omega) 0 rfl (Nat.le_refl _)⟩)
    · skip
      refine mv_bipush (pc := 119) (v := 11) B d_Book_wider_119 (by decide) ?_
      refine mv_goto (pc := 121) (tgt := 126) B d_Book_wider_121 rfl ?_
      refine mv_iload_n (pc := 126) B d_Book_wider_126 rfl 2 rfl ?_
      refine mv_iconst (pc := 127) (v := 0) B d_Book_wider_127 (by decide) ?_
      refine mv_iconst (pc := 128) (v := 0) B d_Book_wider_128 (by decide) ?_
      refine mv_iload (pc := 129) B d_Book_wider_129 4 rfl ?_
      refine mv_if_eq (pc := 131) (tgt := 148) B d_Book_wider_131 rfl (fun h131 => ?_) (fun h131 => ?_)
      · skip
        refine mv_iconst (pc := 148) (v := 0) B d_Book_wider_148 (by decide) ?_
        refine mv_callVi (pc := 149) (n := 5) (ci := 12) (C := R_Book) B (mK_ok sk sv) hNs rfl rfl (c_Book_node_y l hi _ _ _ _ _ _ hS.R (by have := hS.le; omega) (by have := hS.le; omega)) rfl (ma_goodc kc_Book_node) (B.2.2.2.1 _ k_2269) (B.2.2.2.1 _ k_2271) (B.2.2.2.1 _ ks_110) (B.2.2.2.1 _ k_13) ⟨by decide +kernel, by decide +kernel, by decide +kernel⟩ rfl d_Book_wider_149 rfl (Nat.le_of_ble_eq_true rfl) ⟨by first | decide | (dsimp only; omega), by first | decide | (dsimp only; omega)⟩ ⟨Nat.le_refl _, Nat.le_refl _⟩ ⟨Nat.le_refl _, Nat.le_refl _⟩ (mv_noH hno _) (fun v149 σ149 h149 => ?_)
        obtain ⟨e149, z149⟩ := h149
        have hL149 := hS.le
        have hN := hS.nodeE z149 (lo := n) (R := 10 * f) (by omega) hn0 (fun zz => XR.un (hS.2.at 0 rfl zz) m21 hS.P.nn (by decide) r21 (by omega))
        have hv149 : v149.toInt + 1 = ((n21 + 1 : Nat) : Int) := by rw [e149]; omega
        exact mv_iret (pc := 152) B hr rfl d_Book_wider_152 (Nat.le_refl _) (Nat.le_refl _) (Or.inl ⟨_, rfl, hN.out hv149 (by omega) 0 rfl (Nat.le_refl _)⟩)
      · skip
        refine mv_aload_n (pc := 134) B d_Book_wider_134 rfl 0 rfl ?_
        refine mv_getR (pc := 135) (ci := 12) (C := R_Book) (T := F_Book) (N := 65) B 45 rfl rfl (by decide) i_Book (B.2.2.2.1 _ k_1894) rfl (hS.R.1 _ 45 _ rfl) d_Book_wider_135 ?_
        refine mv_iload_n (pc := 138) B d_Book_wider_138 rfl 2 rfl ?_
        refine mv_iald (pc := 139) B rfl hb21 d_Book_wider_139 ?_
        refine mv_if_le (pc := 140) (tgt := 148) B d_Book_wider_140 rfl (fun h140 => ?_) (fun h140 => ?_)
        · skip
          refine mv_iconst (pc := 148) (v := 0) B d_Book_wider_148 (by decide) ?_
          refine mv_callVi (pc := 149) (n := 5) (ci := 12) (C := R_Book) B (mK_ok sk sv) hNs rfl rfl (c_Book_node_y l hi _ _ _ _ _ _ hS.R (by have := hS.le; omega) (by have := hS.le; omega)) rfl (ma_goodc kc_Book_node) (B.2.2.2.1 _ k_2269) (B.2.2.2.1 _ k_2271) (B.2.2.2.1 _ ks_110) (B.2.2.2.1 _ k_13) ⟨by decide +kernel, by decide +kernel, by decide +kernel⟩ rfl d_Book_wider_149 rfl (Nat.le_of_ble_eq_true rfl) ⟨by first | decide | (dsimp only; omega), by first | decide | (dsimp only; omega)⟩ ⟨Nat.le_refl _, Nat.le_refl _⟩ ⟨Nat.le_refl _, Nat.le_refl _⟩ (mv_noH hno _) (fun v149 σ149 h149 => ?_)
          obtain ⟨e149, z149⟩ := h149
          have hL149 := hS.le
          have hN := hS.nodeE z149 (lo := n) (R := 10 * f) (by omega) hn0 (fun zz => XR.un (hS.2.at 0 rfl zz) m21 hS.P.nn (by decide) r21 (by omega))
          have hv149 : v149.toInt + 1 = ((n21 + 1 : Nat) : Int) := by rw [e149]; omega
          exact mv_iret (pc := 152) B hr rfl d_Book_wider_152 (Nat.le_refl _) (Nat.le_refl _) (Or.inl ⟨_, rfl, hN.out hv149 (by omega) 0 rfl (Nat.le_refl _)⟩)
        · skip
          refine mv_lload_n (pc := 143) B d_Book_wider_143 rfl 3 rfl ?_
          refine mv_l2i (pc := 144) B d_Book_wider_144 ?_
          refine mv_goto (pc := 145) (tgt := 149) B d_Book_wider_145 rfl ?_
          refine mv_callVi (pc := 149) (n := 5) (ci := 12) (C := R_Book) B (mK_ok sk sv) hNs rfl rfl (c_Book_node_y l hi _ _ _ _ _ _ hS.R (by have := hS.le; omega) (by have := hS.le; omega)) rfl (ma_goodc kc_Book_node) (B.2.2.2.1 _ k_2269) (B.2.2.2.1 _ k_2271) (B.2.2.2.1 _ ks_110) (B.2.2.2.1 _ k_13) ⟨by decide +kernel, by decide +kernel, by decide +kernel⟩ rfl d_Book_wider_149 rfl (Nat.le_of_ble_eq_true rfl) ⟨by first | decide | (dsimp only; omega), by first | decide | (dsimp only; omega)⟩ ⟨Nat.le_refl _, Nat.le_refl _⟩ ⟨Nat.le_refl _, Nat.le_refl _⟩ (mv_noH hno _) (fun v149 σ149 h149 => ?_)
          obtain ⟨e149, z149⟩ := h149
          have hL149 := hS.le
          have hN := hS.nodeE z149 (lo := n) (R := 10 * f) (by omega) hn0 (fun zz => XR.un (hS.2.at 0 rfl zz) m21 hS.P.nn (by decide) r21 (by omega))
          have hv149 : v149.toInt + 1 = ((n21 + 1 : Nat) : Int) := by rw [e149]; omega
          exact mv_iret (pc := 152) B hr rfl d_Book_wider_152 (Nat.le_refl _) (Nat.le_refl _) (Or.inl ⟨_, rfl, hN.out hv149 (by omega) 0 rfl (Nat.le_refl _)⟩)
  have j100 : ∀ (m9 : Int64) (q9 : Int32) (r9 : Int32) , mv_V p l e ({ frames := 14 * f + 10, cells := 0, slots := 0, locals := 500 * f + 400 }) s m ([.ref (al 108), .int b9] : List Value).toArray below meth c (mg dA D al ext) 7 0 0 (mv_Q (mg dA D al ext) below s 0 0 (mv_Ui (XO 108 len th d n a1 (10 * f) σ) ("MachineLoomModel$Book$Wrong", al 141) (BF 108 σ))) S63 100 [(0, .ref (al 108)), (1, .int b9), (2, .int v21), (3, .long m9), (5, .int q9)] [.int r9] := by
    intro m9 q9 r9
    refine mv_istore (pc := 100) B d_Book_wider_100 (by decide) rfl ?_
    refine mv_iload (pc := 102) B d_Book_wider_102 0 rfl ?_
    refine mv_if_ne (pc := 104) (tgt := 114) B d_Book_wider_104 rfl (fun h104 => ?_) (fun h104 => ?_)
    · skip
      refine mv_lpick [1, 2, 3, 4, 0] rfl ?_
      exact j114 _ _ _ (by first | exact FT.rf | exact FT.rf.of h111)
    · skip
      refine mv_aload_n (pc := 107) B d_Book_wider_107 rfl 1 rfl ?_
      refine mv_iconst (pc := 108) (v := 3) B d_Book_wider_108 (by decide) ?_
      refine mv_iload (pc := 109) B d_Book_wider_109 5 rfl ?_
      refine mv_callVv (pc := 111) (n := 2) (ci := 12) (C := R_Book) B (mK_ok sk sv) hNs rfl rfl (c_Book_fault_y l hi _ _ _ (by decide)) rfl (ma_goodc kc_Book_fault) (B.2.2.2.1 _ k_2185) (B.2.2.2.1 _ k_2187) (B.2.2.2.1 _ ks_92) (B.2.2.2.1 _ k_13) ⟨by decide +kernel, by decide +kernel, by decide +kernel⟩ rfl d_Book_wider_111 rfl (Nat.le_of_ble_eq_true rfl) ⟨by first | decide | (dsimp only; omega), by first | decide | (dsimp only; omega)⟩ ⟨Nat.le_refl _, Nat.le_refl _⟩ ⟨Nat.le_refl _, Nat.le_refl _⟩ (mv_noH hno _) (fun σ111 h111 => ?_)
      refine mv_lpick [1, 2, 3, 4, 0] rfl ?_
      exact j114 _ _ _ (by first | exact FT.rf | exact FT.rf.of h111)
  refine mv_lload_n (pc := 63) B d_Book_wider_63 rfl 1 rfl ?_
  refine mv_lconst (pc := 64) (v := 1) B d_Book_wider_64 (by decide) ?_
  refine mv_ldc2 (pc := 65) (v := 64) B (B.2.2.2.1 _ k_2184) d_Book_wider_65 ?_
  refine mv_callSNi (pc := 68) (n := 3) B (mK_ok sk sv) hNs (c_Model_in l hi _ _ _ _) rfl (ma_goodc kc_Model_in) (va_Nw.use rfl (hNs.1 _ (List.mem_of_getElem? (i := 7) rfl))) (B.2.2.2.1 _ k_2208) (B.2.2.2.1 _ k_12) ⟨by decide +kernel, by decide +kernel, by decide +kernel⟩ rfl d_Book_wider_68 rfl (Nat.le_of_ble_eq_true rfl) ⟨by first | decide | (dsimp only; omega), by first | decide | (dsimp only; omega)⟩ ⟨Nat.le_refl _, Nat.le_refl _⟩ ⟨Nat.le_refl _, Nat.le_refl _⟩ (mv_noH hno _) (fun v68 σ68 h68 => ?_)
  obtain ⟨e68, z68⟩ := h68
  have e68 := e68.symm
  subst e68
  refine mv_if_eq (pc := 71) (tgt := 99) B d_Book_wider_71 rfl (fun h71 => ?_) (fun h71 => ?_)
  · skip
    refine mv_iconst (pc := 99) (v := 0) B d_Book_wider_99 (by decide) ?_
    refine mv_lpick [3, 4, 2, 1, 0] rfl ?_
    exact j100 _ _ _
  · skip
    refine mv_aload_n (pc := 74) B d_Book_wider_74 rfl 3 rfl ?_
    refine mv_getR (pc := 75) (ci := 12) (C := R_Book) (T := F_Book) (N := 65) B 45 rfl rfl (by decide) i_Book (B.2.2.2.1 _ k_1894) rfl (hS.R.1 _ 45 _ rfl) d_Book_wider_75 ?_
    refine mv_iload_n (pc := 78) B d_Book_wider_78 rfl 2 rfl ?_
    refine mv_iald (pc := 79) B rfl hb21 d_Book_wider_79 ?_
    refine mv_if_eq (pc := 80) (tgt := 95) B d_Book_wider_80 rfl (fun h80 => ?_) (fun h80 => ?_)
    · skip
      refine mv_iconst (pc := 95) (v := 1) B d_Book_wider_95 (by decide) ?_
      refine mv_goto (pc := 96) (tgt := 100) B d_Book_wider_96 rfl ?_
      refine mv_lpick [3, 4, 2, 1, 0] rfl ?_
      exact j100 _ _ _
    · skip
      refine mv_lload_n (pc := 83) B d_Book_wider_83 rfl 1 rfl ?_
      refine mv_aload_n (pc := 84) B d_Book_wider_84 rfl 3 rfl ?_
      refine mv_getR (pc := 85) (ci := 12) (C := R_Book) (T := F_Book) (N := 65) B 45 rfl rfl (by decide) i_Book (B.2.2.2.1 _ k_1894) rfl (hS.R.1 _ 45 _ rfl) d_Book_wider_85 ?_
      refine mv_iload_n (pc := 88) B d_Book_wider_88 rfl 2 rfl ?_
      refine mv_iald (pc := 89) B rfl hb21 d_Book_wider_89 ?_
      refine mv_i2l (pc := 90) B d_Book_wider_90 ?_
      refine mv_lcmp (pc := 91) B d_Book_wider_91 ?_
      refine mv_if_lt (pc := 92) (tgt := 99) B d_Book_wider_92 rfl (fun h92 => ?_) (fun h92 => ?_)
      · skip
        refine mv_iconst (pc := 99) (v := 0) B d_Book_wider_99 (by decide) ?_
        refine mv_lpick [3, 4, 2, 1, 0] rfl ?_
        exact j100 _ _ _
      · skip
        refine mv_iconst (pc := 95) (v := 1) B d_Book_wider_95 (by decide) ?_
        refine mv_goto (pc := 96) (tgt := 100) B d_Book_wider_96 rfl ?_
        refine mv_lpick [3, 4, 2, 1, 0] rfl ?_
        exact j100 _ _ _
def y_Book_called : MethodName := ⟨"MachineLoomModel$Book", "called", "(I)I"⟩
abbrev b_Book_called : ByteArray := prog_15_method_39_code
theorem kc_Book_called : Cond.code y_Book_called b_Book_called 5 (Option.some Jvm.ClassFile.FieldType.int) ∈ ma := ma_of (tb_10 _ (List.mem_of_getElem? (i := 127) rfl)) rfl
theorem k_2288 : (Jvm.Cond.methodLink "MachineLoomModel$Book" (281 : Nat) ({ cls := "MachineLoomModel$Book", name := "two", desc := "(IIII)I" } : Jvm.MethodName)) ∈ ma := ma_of (tb_10 _ (List.mem_of_getElem? (i := 128) rfl)) rfl
theorem k_2290 : (Jvm.Cond.instanceMethod ({ cls := "MachineLoomModel$Book", name := "two", desc := "(IIII)I" } : Jvm.MethodName)) ∈ ma := ma_of (tb_10 _ (List.mem_of_getElem? (i := 130) rfl)) rfl
theorem ks_114 : Cond.selects "MachineLoomModel$Book" ⟨"MachineLoomModel$Book", "two", "(IIII)I"⟩ ⟨"MachineLoomModel$Book", "two", "(IIII)I"⟩ ∈ ma := ma_sel 114 rfl rfl
theorem d_Book_called_0 : decode b_Book_called 0 = .ok (.aload_n 0, 1) := by decide +kernel
theorem d_Book_called_1 : decode b_Book_called 1 = .ok (.getfield 174, 3) := by decide +kernel
theorem d_Book_called_4 : decode b_Book_called 4 = .ok (.istore_n 2, 1) := by decide +kernel
theorem d_Book_called_5 : decode b_Book_called 5 = .ok (.aload_n 0, 1) := by decide +kernel
theorem d_Book_called_6 : decode b_Book_called 6 = .ok (.invokevirtual 203, 3) := by decide +kernel
theorem d_Book_called_9 : decode b_Book_called 9 = .ok (.aload_n 0, 1) := by decide +kernel
theorem d_Book_called_10 : decode b_Book_called 10 = .ok (.bipush 40, 2) := by decide +kernel
theorem d_Book_called_12 : decode b_Book_called 12 = .ok (.invokevirtual 259, 3) := by decide +kernel
theorem d_Book_called_15 : decode b_Book_called 15 = .ok (.aload_n 0, 1) := by decide +kernel
theorem d_Book_called_16 : decode b_Book_called 16 = .ok (.dup, 1) := by decide +kernel
theorem d_Book_called_17 : decode b_Book_called 17 = .ok (.getfield 197, 3) := by decide +kernel
theorem d_Book_called_20 : decode b_Book_called 20 = .ok (.iconst 1, 1) := by decide +kernel
theorem d_Book_called_21 : decode b_Book_called 21 = .ok (.iadd, 1) := by decide +kernel
theorem d_Book_called_22 : decode b_Book_called 22 = .ok (.putfield 197, 3) := by decide +kernel
theorem d_Book_called_25 : decode b_Book_called 25 = .ok (.aload_n 0, 1) := by decide +kernel
theorem d_Book_called_26 : decode b_Book_called 26 = .ok (.invokevirtual 256, 3) := by decide +kernel
theorem d_Book_called_29 : decode b_Book_called 29 = .ok (.istore_n 3, 1) := by decide +kernel
theorem d_Book_called_30 : decode b_Book_called 30 = .ok (.aload_n 0, 1) := by decide +kernel
theorem d_Book_called_31 : decode b_Book_called 31 = .ok (.bipush 44, 2) := by decide +kernel
theorem d_Book_called_33 : decode b_Book_called 33 = .ok (.invokevirtual 259, 3) := by decide +kernel
theorem d_Book_called_36 : decode b_Book_called 36 = .ok (.aload_n 0, 1) := by decide +kernel
theorem d_Book_called_37 : decode b_Book_called 37 = .ok (.invokevirtual 256, 3) := by decide +kernel
theorem d_Book_called_40 : decode b_Book_called 40 = .ok (.istore 4, 2) := by decide +kernel
theorem d_Book_called_42 : decode b_Book_called 42 = .ok (.aload_n 0, 1) := by decide +kernel
theorem d_Book_called_43 : decode b_Book_called 43 = .ok (.bipush 41, 2) := by decide +kernel
theorem d_Book_called_45 : decode b_Book_called 45 = .ok (.invokevirtual 259, 3) := by decide +kernel
theorem d_Book_called_48 : decode b_Book_called 48 = .ok (.aload_n 0, 1) := by decide +kernel
theorem d_Book_called_49 : decode b_Book_called 49 = .ok (.dup, 1) := by decide +kernel
theorem d_Book_called_50 : decode b_Book_called 50 = .ok (.getfield 197, 3) := by decide +kernel
theorem d_Book_called_53 : decode b_Book_called 53 = .ok (.iconst 1, 1) := by decide +kernel
theorem d_Book_called_54 : decode b_Book_called 54 = .ok (.isub, 1) := by decide +kernel
theorem d_Book_called_55 : decode b_Book_called 55 = .ok (.putfield 197, 3) := by decide +kernel
theorem d_Book_called_58 : decode b_Book_called 58 = .ok (.aload_n 0, 1) := by decide +kernel
theorem d_Book_called_59 : decode b_Book_called 59 = .ok (.iload_n 1, 1) := by decide +kernel
theorem d_Book_called_60 : decode b_Book_called 60 = .ok (.iload_n 2, 1) := by decide +kernel
theorem d_Book_called_61 : decode b_Book_called 61 = .ok (.iload_n 3, 1) := by decide +kernel
theorem d_Book_called_62 : decode b_Book_called 62 = .ok (.iload 4, 2) := by decide +kernel
theorem d_Book_called_64 : decode b_Book_called 64 = .ok (.invokevirtual 281, 3) := by decide +kernel
theorem d_Book_called_67 : decode b_Book_called 67 = .ok (.ireturn, 1) := by decide +kernel
set_option maxHeartbeats 4000000 in
set_option maxRecDepth 100000 in
theorem c_Book_called_x (l : Launch) {dA : FieldType → ClassId} {D : va_G} {al : Nat → Nat} {ext : mv_Sh} {sk sv : Nat → Nat} (hi : mv_inj (mg dA D al ext)) (σ : mv_H) (f len th d n a1 a2 : Nat) (hf : d + f = 61) (hP : PS 74 len th d n a1 a2 σ) (o9 : Int32) (hk : mv_i σ 74 4 = 1) (ihE : ∀ g, g + 1 = f → XE l dA D al ext sk sv 74 g) : mv_C l y_Book_called (Cond.code y_Book_called b_Book_called 5 (Option.some Jvm.ClassFile.FieldType.int) :: ma) ({ frames := 14 * f + 10, cells := 0, slots := 0, locals := 500 * f + 400 }) (mg dA D al ext) (mK sk sv) [.ref (al 74), .int o9] σ (mv_Ui (XO 74 len th d n a1 (10 * f) σ) ("MachineLoomModel$Book$Wrong", al 107) (BF 74 σ)) := by
  refine mv_C.ofV (cc := b_Book_called) (nL := 5) (ret := (Option.some Jvm.ClassFile.FieldType.int)) (by decide +kernel) rfl hi (Nat.le_of_ble_eq_true rfl) ?_
  intro p e s m below meth c B hNs hr hnm hno
  have hS := XT.rf hP
  have hn0 := hP.le.1
  refine mv_aload_n (pc := 0) B d_Book_called_0 rfl 0 rfl ?_
  refine mv_getI (pc := 1) (ci := 12) (C := R_Book) (T := F_Book) (N := 65) B 5 rfl rfl (by decide) i_Book (B.2.2.2.1 _ k_1848) rfl d_Book_called_1 ?_
  refine mv_istore_n (pc := 4) B d_Book_called_4 rfl (by decide) rfl ?_
  refine mv_aload_n (pc := 5) B d_Book_called_5 rfl 1 rfl ?_
  refine mv_callVUv (pc := 6) (n := 0) (ci := 12) (C := R_Book) B (mK_ok sk sv) hNs rfl rfl (c_Book_pass_x l hi _ len _ _ hS.P.1) rfl (ma_goodc kc_Book_pass) (B.2.2.2.1 _ k_2173) (B.2.2.2.1 _ k_2175) (B.2.2.2.1 _ ks_90) (B.2.2.2.1 _ k_13) ⟨by decide +kernel, by decide +kernel, by decide +kernel⟩ rfl d_Book_called_6 rfl (Nat.le_of_ble_eq_true rfl) ⟨by first | decide | (dsimp only; omega), by first | decide | (dsimp only; omega)⟩ ⟨Nat.le_refl _, Nat.le_refl _⟩ ⟨Nat.le_refl _, Nat.le_refl _⟩ (mv_noH hno _) (fun τ9 g9 => Or.inr ⟨rfl, hS.1.2.1.bf.tr g9.bf⟩) (fun σ6 h6 => ?_)
  have w6 := hS.P.w (by rw [hk]; decide)
  obtain ⟨d6, t6, u6, q6, g6⟩ := h6
  rw [hS.P.2.1] at d6
  have hL0 := hS.le
  have hS := hS.pass q6 g6
  refine mv_aload_n (pc := 9) B d_Book_called_9 rfl 1 rfl ?_
  refine mv_bipush (pc := 10) (v := 40) B d_Book_called_10 (by decide) ?_
  refine mv_callVUv (pc := 12) (n := 1) (ci := 12) (C := R_Book) B (mK_ok sk sv) hNs rfl rfl (c_Book_need_x l hi _ _ len _ _ hS.P.1) rfl (ma_goodc kc_Book_need) (B.2.2.2.1 _ k_2177) (B.2.2.2.1 _ k_2179) (B.2.2.2.1 _ ks_91) (B.2.2.2.1 _ k_13) ⟨by decide +kernel, by decide +kernel, by decide +kernel⟩ rfl d_Book_called_12 rfl (Nat.le_of_ble_eq_true rfl) ⟨by first | decide | (dsimp only; omega), by first | decide | (dsimp only; omega)⟩ ⟨Nat.le_refl _, Nat.le_refl _⟩ ⟨Nat.le_refl _, Nat.le_refl _⟩ (mv_noH hno _) (fun τ9 g9 => Or.inr ⟨rfl, hS.1.2.1.bf.tr g9.bf⟩) (fun σ12 h12 => ?_)
  obtain ⟨k12, d12, t12, u12, q12, g12⟩ := h12
  have w12 := hS.P.w (by rw [k12]; decide)
  rw [hS.P.2.1] at d12
  have hL0 := hS.le
  have hS := hS.pass q12 g12
  refine mv_aload_n (pc := 15) B d_Book_called_15 rfl 1 rfl ?_
  refine mv_dup (pc := 16) B d_Book_called_16 rfl ?_
  refine mv_getI (pc := 17) (ci := 12) (C := R_Book) (T := F_Book) (N := 65) B 8 rfl rfl (by decide) i_Book (B.2.2.2.1 _ k_1851) rfl d_Book_called_17 ?_
  refine mv_iconst (pc := 20) (v := 1) B d_Book_called_20 (by decide) ?_
  refine mv_iadd (pc := 21) B d_Book_called_21 ?_
  refine mv_putI (pc := 22) (ci := 12) (C := R_Book) (T := F_Book) (N := 65) B 8 rfl rfl (by decide) i_Book t_Book_ok n_Book (B.2.2.2.1 _ k_1851) rfl rfl rfl rfl d_Book_called_22 ?_
  refine mv_gen (fun S25 eS25 => ?_)
  have hS := hS.dep (hS.P.up (by omega))
  rw [← eS25] at hS
  clear eS25
  refine mv_aload_n (pc := 25) B d_Book_called_25 rfl 1 rfl ?_
  refine mv_callVUi (pc := 26) (n := 0) (ci := 12) (C := R_Book) B (mK_ok sk sv) hNs rfl rfl (ihE (f - 1) (by omega) _ len th _ _ _ _ (by omega) hS.P) rfl (ma_goodc kc_Book_expression) (B.2.2.2.1 _ k_2245) (B.2.2.2.1 _ k_2247) (B.2.2.2.1 _ ks_104) (B.2.2.2.1 _ k_13) ⟨by decide +kernel, by decide +kernel, by decide +kernel⟩ rfl d_Book_called_26 rfl (Nat.le_of_ble_eq_true rfl) ⟨by first | decide | (dsimp only; omega), by first | decide | (dsimp only; omega)⟩ ⟨Nat.le_refl _, Nat.le_refl _⟩ ⟨Nat.le_refl _, Nat.le_refl _⟩ (mv_noH hno _) (fun τ9 g9 => Or.inr ⟨rfl, hS.1.2.1.bf.tr g9⟩) (fun v26 σ26 h26 => ?_)
  obtain ⟨n26, t26, u26, s26, m26, r26, x26⟩ := h26
  have i26 := s26.2.2.2.1
  have hS := hS.sub s26 x26
  refine mv_istore_n (pc := 29) B d_Book_called_29 rfl (by decide) rfl ?_
  refine mv_aload_n (pc := 30) B d_Book_called_30 rfl 2 rfl ?_
  refine mv_bipush (pc := 31) (v := 44) B d_Book_called_31 (by decide) ?_
  refine mv_callVUv (pc := 33) (n := 1) (ci := 12) (C := R_Book) B (mK_ok sk sv) hNs rfl rfl (c_Book_need_x l hi _ _ len _ _ hS.P.1) rfl (ma_goodc kc_Book_need) (B.2.2.2.1 _ k_2177) (B.2.2.2.1 _ k_2179) (B.2.2.2.1 _ ks_91) (B.2.2.2.1 _ k_13) ⟨by decide +kernel, by decide +kernel, by decide +kernel⟩ rfl d_Book_called_33 rfl (Nat.le_of_ble_eq_true rfl) ⟨by first | decide | (dsimp only; omega), by first | decide | (dsimp only; omega)⟩ ⟨Nat.le_refl _, Nat.le_refl _⟩ ⟨Nat.le_refl _, Nat.le_refl _⟩ (mv_noH hno _) (fun τ9 g9 => Or.inr ⟨rfl, hS.1.2.1.bf.tr g9.bf⟩) (fun σ33 h33 => ?_)
  obtain ⟨k33, d33, t33, u33, q33, g33⟩ := h33
  have w33 := hS.P.w (by rw [k33]; decide)
  rw [hS.P.2.1] at d33
  have hL0 := hS.le
  have hS := hS.pass q33 g33
  refine mv_aload_n (pc := 36) B d_Book_called_36 rfl 2 rfl ?_
  refine mv_callVUi (pc := 37) (n := 0) (ci := 12) (C := R_Book) B (mK_ok sk sv) hNs rfl rfl (ihE (f - 1) (by omega) _ len th _ _ _ _ (by omega) hS.P) rfl (ma_goodc kc_Book_expression) (B.2.2.2.1 _ k_2245) (B.2.2.2.1 _ k_2247) (B.2.2.2.1 _ ks_104) (B.2.2.2.1 _ k_13) ⟨by decide +kernel, by decide +kernel, by decide +kernel⟩ rfl d_Book_called_37 rfl (Nat.le_of_ble_eq_true rfl) ⟨by first | decide | (dsimp only; omega), by first | decide | (dsimp only; omega)⟩ ⟨Nat.le_refl _, Nat.le_refl _⟩ ⟨Nat.le_refl _, Nat.le_refl _⟩ (mv_noH hno _) (fun τ9 g9 => Or.inr ⟨rfl, hS.1.2.1.bf.tr g9⟩) (fun v37 σ37 h37 => ?_)
  obtain ⟨n37, t37, u37, s37, m37, r37, x37⟩ := h37
  have i37 := s37.2.2.2.1
  have hS := hS.sub s37 x37
  refine mv_istore (pc := 40) B d_Book_called_40 (by decide) rfl ?_
  refine mv_aload_n (pc := 42) B d_Book_called_42 rfl 3 rfl ?_
  refine mv_bipush (pc := 43) (v := 41) B d_Book_called_43 (by decide) ?_
  refine mv_callVUv (pc := 45) (n := 1) (ci := 12) (C := R_Book) B (mK_ok sk sv) hNs rfl rfl (c_Book_need_x l hi _ _ len _ _ hS.P.1) rfl (ma_goodc kc_Book_need) (B.2.2.2.1 _ k_2177) (B.2.2.2.1 _ k_2179) (B.2.2.2.1 _ ks_91) (B.2.2.2.1 _ k_13) ⟨by decide +kernel, by decide +kernel, by decide +kernel⟩ rfl d_Book_called_45 rfl (Nat.le_of_ble_eq_true rfl) ⟨by first | decide | (dsimp only; omega), by first | decide | (dsimp only; omega)⟩ ⟨Nat.le_refl _, Nat.le_refl _⟩ ⟨Nat.le_refl _, Nat.le_refl _⟩ (mv_noH hno _) (fun τ9 g9 => Or.inr ⟨rfl, hS.1.2.1.bf.tr g9.bf⟩) (fun σ45 h45 => ?_)
  obtain ⟨k45, d45, t45, u45, q45, g45⟩ := h45
  have w45 := hS.P.w (by rw [k45]; decide)
  rw [hS.P.2.1] at d45
  have hL0 := hS.le
  have hS := hS.pass q45 g45
  refine mv_aload_n (pc := 48) B d_Book_called_48 rfl 3 rfl ?_
  refine mv_dup (pc := 49) B d_Book_called_49 rfl ?_
  refine mv_getI (pc := 50) (ci := 12) (C := R_Book) (T := F_Book) (N := 65) B 8 rfl rfl (by decide) i_Book (B.2.2.2.1 _ k_1851) rfl d_Book_called_50 ?_
  refine mv_iconst (pc := 53) (v := 1) B d_Book_called_53 (by decide) ?_
  refine mv_isub (pc := 54) B d_Book_called_54 ?_
  refine mv_putI (pc := 55) (ci := 12) (C := R_Book) (T := F_Book) (N := 65) B 8 rfl rfl (by decide) i_Book t_Book_ok n_Book (B.2.2.2.1 _ k_1851) rfl rfl rfl rfl d_Book_called_55 ?_
  refine mv_gen (fun S58 eS58 => ?_)
  have hS := hS.dep hS.P.dn
  rw [← eS58] at hS
  clear eS58
  have hL58 := hS.le
  refine mv_aload_n (pc := 58) B d_Book_called_58 rfl 3 rfl ?_
  refine mv_iload_n (pc := 59) B d_Book_called_59 rfl 4 rfl ?_
  refine mv_iload_n (pc := 60) B d_Book_called_60 rfl 2 rfl ?_
  refine mv_iload_n (pc := 61) B d_Book_called_61 rfl 1 rfl ?_
  refine mv_iload (pc := 62) B d_Book_called_62 0 rfl ?_
  refine mv_callVi (pc := 64) (n := 4) (ci := 12) (C := R_Book) B (mK_ok sk sv) hNs rfl rfl (c_Book_two_x l hi _ _ _ _ _ (i32_in (by omega) (by omega)) (i32_in (by omega) (by omega)) hS.R (by omega) (by omega)) rfl (ma_goodc kc_Book_two) (B.2.2.2.1 _ k_2288) (B.2.2.2.1 _ k_2290) (B.2.2.2.1 _ ks_114) (B.2.2.2.1 _ k_13) ⟨by decide +kernel, by decide +kernel, by decide +kernel⟩ rfl d_Book_called_64 rfl (Nat.le_of_ble_eq_true rfl) ⟨by first | decide | (dsimp only; omega), by first | decide | (dsimp only; omega)⟩ ⟨Nat.le_refl _, Nat.le_refl _⟩ ⟨Nat.le_refl _, Nat.le_refl _⟩ (mv_noH hno _) (fun v64 σ64 h64 => ?_)
  obtain ⟨e64, τ64, w64, hT64, z64⟩ := h64
  have hS := hS.ft hT64
  have hN := hS.nodeE z64 (lo := n) (R := 10 * f) (by omega) hn0 (fun zz => XR.bin (hS.2.at 1 rfl zz) (hS.2.at 0 rfl zz) m26 m37 hS.P.nn r26 r37 (by omega) (by omega))
  have hv64 : v64.toInt + 1 = ((n37 + 1 : Nat) : Int) := by rw [e64]; omega
  exact mv_iret (pc := 67) B hr rfl d_Book_called_67 (Nat.le_refl _) (Nat.le_refl _) (Or.inl ⟨_, rfl, hN.out hv64 (by omega) 0 rfl (Nat.le_refl _)⟩)
set_option maxHeartbeats 4000000 in
set_option maxRecDepth 100000 in
theorem c_Book_called_y (l : Launch) {dA : FieldType → ClassId} {D : va_G} {al : Nat → Nat} {ext : mv_Sh} {sk sv : Nat → Nat} (hi : mv_inj (mg dA D al ext)) (σ : mv_H) (f len th d n a1 a2 : Nat) (hf : d + f = 61) (hP : PS 108 len th d n a1 a2 σ) (o9 : Int32) (hk : mv_i σ 108 4 = 1) (ihE : ∀ g, g + 1 = f → XE l dA D al ext sk sv 108 g) : mv_C l y_Book_called (Cond.code y_Book_called b_Book_called 5 (Option.some Jvm.ClassFile.FieldType.int) :: ma) ({ frames := 14 * f + 10, cells := 0, slots := 0, locals := 500 * f + 400 }) (mg dA D al ext) (mK sk sv) [.ref (al 108), .int o9] σ (mv_Ui (XO 108 len th d n a1 (10 * f) σ) ("MachineLoomModel$Book$Wrong", al 141) (BF 108 σ)) := by
  refine mv_C.ofV (cc := b_Book_called) (nL := 5) (ret := (Option.some Jvm.ClassFile.FieldType.int)) (by decide +kernel) rfl hi (Nat.le_of_ble_eq_true rfl) ?_
  intro p e s m below meth c B hNs hr hnm hno
  have hS := XT.rf hP
  have hn0 := hP.le.1
  refine mv_aload_n (pc := 0) B d_Book_called_0 rfl 0 rfl ?_
  refine mv_getI (pc := 1) (ci := 12) (C := R_Book) (T := F_Book) (N := 65) B 5 rfl rfl (by decide) i_Book (B.2.2.2.1 _ k_1848) rfl d_Book_called_1 ?_
  refine mv_istore_n (pc := 4) B d_Book_called_4 rfl (by decide) rfl ?_
  refine mv_aload_n (pc := 5) B d_Book_called_5 rfl 1 rfl ?_
  refine mv_callVUv (pc := 6) (n := 0) (ci := 12) (C := R_Book) B (mK_ok sk sv) hNs rfl rfl (c_Book_pass_y l hi _ len _ _ hS.P.1) rfl (ma_goodc kc_Book_pass) (B.2.2.2.1 _ k_2173) (B.2.2.2.1 _ k_2175) (B.2.2.2.1 _ ks_90) (B.2.2.2.1 _ k_13) ⟨by decide +kernel, by decide +kernel, by decide +kernel⟩ rfl d_Book_called_6 rfl (Nat.le_of_ble_eq_true rfl) ⟨by first | decide | (dsimp only; omega), by first | decide | (dsimp only; omega)⟩ ⟨Nat.le_refl _, Nat.le_refl _⟩ ⟨Nat.le_refl _, Nat.le_refl _⟩ (mv_noH hno _) (fun τ9 g9 => Or.inr ⟨rfl, hS.1.2.1.bf.tr g9.bf⟩) (fun σ6 h6 => ?_)
  have w6 := hS.P.w (by rw [hk]; decide)
  obtain ⟨d6, t6, u6, q6, g6⟩ := h6
  rw [hS.P.2.1] at d6
  have hL0 := hS.le
  have hS := hS.pass q6 g6
  refine mv_aload_n (pc := 9) B d_Book_called_9 rfl 1 rfl ?_
  refine mv_bipush (pc := 10) (v := 40) B d_Book_called_10 (by decide) ?_
  refine mv_callVUv (pc := 12) (n := 1) (ci := 12) (C := R_Book) B (mK_ok sk sv) hNs rfl rfl (c_Book_need_y l hi _ _ len _ _ hS.P.1) rfl (ma_goodc kc_Book_need) (B.2.2.2.1 _ k_2177) (B.2.2.2.1 _ k_2179) (B.2.2.2.1 _ ks_91) (B.2.2.2.1 _ k_13) ⟨by decide +kernel, by decide +kernel, by decide +kernel⟩ rfl d_Book_called_12 rfl (Nat.le_of_ble_eq_true rfl) ⟨by first | decide | (dsimp only; omega), by first | decide | (dsimp only; omega)⟩ ⟨Nat.le_refl _, Nat.le_refl _⟩ ⟨Nat.le_refl _, Nat.le_refl _⟩ (mv_noH hno _) (fun τ9 g9 => Or.inr ⟨rfl, hS.1.2.1.bf.tr g9.bf⟩) (fun σ12 h12 => ?_)
  obtain ⟨k12, d12, t12, u12, q12, g12⟩ := h12
  have w12 := hS.P.w (by rw [k12]; decide)
  rw [hS.P.2.1] at d12
  have hL0 := hS.le
  have hS := hS.pass q12 g12
  refine mv_aload_n (pc := 15) B d_Book_called_15 rfl 1 rfl ?_
  refine mv_dup (pc := 16) B d_Book_called_16 rfl ?_
  refine mv_getI (pc := 17) (ci := 12) (C := R_Book) (T := F_Book) (N := 65) B 8 rfl rfl (by decide) i_Book (B.2.2.2.1 _ k_1851) rfl d_Book_called_17 ?_
  refine mv_iconst (pc := 20) (v := 1) B d_Book_called_20 (by decide) ?_
  refine mv_iadd (pc := 21) B d_Book_called_21 ?_
  refine mv_putI (pc := 22) (ci := 12) (C := R_Book) (T := F_Book) (N := 65) B 8 rfl rfl (by decide) i_Book t_Book_ok n_Book (B.2.2.2.1 _ k_1851) rfl rfl rfl rfl d_Book_called_22 ?_
  refine mv_gen (fun S25 eS25 => ?_)
  have hS := hS.dep (hS.P.up (by omega))
  rw [← eS25] at hS
  clear eS25
  refine mv_aload_n (pc := 25) B d_Book_called_25 rfl 1 rfl ?_
  refine mv_callVUi (pc := 26) (n := 0) (ci := 12) (C := R_Book) B (mK_ok sk sv) hNs rfl rfl (ihE (f - 1) (by omega) _ len th _ _ _ _ (by omega) hS.P) rfl (ma_goodc kc_Book_expression) (B.2.2.2.1 _ k_2245) (B.2.2.2.1 _ k_2247) (B.2.2.2.1 _ ks_104) (B.2.2.2.1 _ k_13) ⟨by decide +kernel, by decide +kernel, by decide +kernel⟩ rfl d_Book_called_26 rfl (Nat.le_of_ble_eq_true rfl) ⟨by first | decide | (dsimp only; omega), by first | decide | (dsimp only; omega)⟩ ⟨Nat.le_refl _, Nat.le_refl _⟩ ⟨Nat.le_refl _, Nat.le_refl _⟩ (mv_noH hno _) (fun τ9 g9 => Or.inr ⟨rfl, hS.1.2.1.bf.tr g9⟩) (fun v26 σ26 h26 => ?_)
  obtain ⟨n26, t26, u26, s26, m26, r26, x26⟩ := h26
  have i26 := s26.2.2.2.1
  have hS := hS.sub s26 x26
  refine mv_istore_n (pc := 29) B d_Book_called_29 rfl (by decide) rfl ?_
  refine mv_aload_n (pc := 30) B d_Book_called_30 rfl 2 rfl ?_
  refine mv_bipush (pc := 31) (v := 44) B d_Book_called_31 (by decide) ?_
  refine mv_callVUv (pc := 33) (n := 1) (ci := 12) (C := R_Book) B (mK_ok sk sv) hNs rfl rfl (c_Book_need_y l hi _ _ len _ _ hS.P.1) rfl (ma_goodc kc_Book_need) (B.2.2.2.1 _ k_2177) (B.2.2.2.1 _ k_2179) (B.2.2.2.1 _ ks_91) (B.2.2.2.1 _ k_13) ⟨by decide +kernel, by decide +kernel, by decide +kernel⟩ rfl d_Book_called_33 rfl (Nat.le_of_ble_eq_true rfl) ⟨by first | decide | (dsimp only; omega), by first | decide | (dsimp only; omega)⟩ ⟨Nat.le_refl _, Nat.le_refl _⟩ ⟨Nat.le_refl _, Nat.le_refl _⟩ (mv_noH hno _) (fun τ9 g9 => Or.inr ⟨rfl, hS.1.2.1.bf.tr g9.bf⟩) (fun σ33 h33 => ?_)
  obtain ⟨k33, d33, t33, u33, q33, g33⟩ := h33
  have w33 := hS.P.w (by rw [k33]; decide)
  rw [hS.P.2.1] at d33
  have hL0 := hS.le
  have hS := hS.pass q33 g33
  refine mv_aload_n (pc := 36) B d_Book_called_36 rfl 2 rfl ?_
  refine mv_callVUi (pc := 37) (n := 0) (ci := 12) (C := R_Book) B (mK_ok sk sv) hNs rfl rfl (ihE (f - 1) (by omega) _ len th _ _ _ _ (by omega) hS.P) rfl (ma_goodc kc_Book_expression) (B.2.2.2.1 _ k_2245) (B.2.2.2.1 _ k_2247) (B.2.2.2.1 _ ks_104) (B.2.2.2.1 _ k_13) ⟨by decide +kernel, by decide +kernel, by decide +kernel⟩ rfl d_Book_called_37 rfl (Nat.le_of_ble_eq_true rfl) ⟨by first | decide | (dsimp only; omega), by first | decide | (dsimp only; omega)⟩ ⟨Nat.le_refl _, Nat.le_refl _⟩ ⟨Nat.le_refl _, Nat.le_refl _⟩ (mv_noH hno _) (fun τ9 g9 => Or.inr ⟨rfl, hS.1.2.1.bf.tr g9⟩) (fun v37 σ37 h37 => ?_)
  obtain ⟨n37, t37, u37, s37, m37, r37, x37⟩ := h37
  have i37 := s37.2.2.2.1
  have hS := hS.sub s37 x37
  refine mv_istore (pc := 40) B d_Book_called_40 (by decide) rfl ?_
  refine mv_aload_n (pc := 42) B d_Book_called_42 rfl 3 rfl ?_
  refine mv_bipush (pc := 43) (v := 41) B d_Book_called_43 (by decide) ?_
  refine mv_callVUv (pc := 45) (n := 1) (ci := 12) (C := R_Book) B (mK_ok sk sv) hNs rfl rfl (c_Book_need_y l hi _ _ len _ _ hS.P.1) rfl (ma_goodc kc_Book_need) (B.2.2.2.1 _ k_2177) (B.2.2.2.1 _ k_2179) (B.2.2.2.1 _ ks_91) (B.2.2.2.1 _ k_13) ⟨by decide +kernel, by decide +kernel, by decide +kernel⟩ rfl d_Book_called_45 rfl (Nat.le_of_ble_eq_true rfl) ⟨by first | decide | (dsimp only; omega), by first | decide | (dsimp only; omega)⟩ ⟨Nat.le_refl _, Nat.le_refl _⟩ ⟨Nat.le_refl _, Nat.le_refl _⟩ (mv_noH hno _) (fun τ9 g9 => Or.inr ⟨rfl, hS.1.2.1.bf.tr g9.bf⟩) (fun σ45 h45 => ?_)
  obtain ⟨k45, d45, t45, u45, q45, g45⟩ := h45
  have w45 := hS.P.w (by rw [k45]; decide)
  rw [hS.P.2.1] at d45
  have hL0 := hS.le
  have hS := hS.pass q45 g45
  refine mv_aload_n (pc := 48) B d_Book_called_48 rfl 3 rfl ?_
  refine mv_dup (pc := 49) B d_Book_called_49 rfl ?_
  refine mv_getI (pc := 50) (ci := 12) (C := R_Book) (T := F_Book) (N := 65) B 8 rfl rfl (by decide) i_Book (B.2.2.2.1 _ k_1851) rfl d_Book_called_50 ?_
  refine mv_iconst (pc := 53) (v := 1) B d_Book_called_53 (by decide) ?_
  refine mv_isub (pc := 54) B d_Book_called_54 ?_
  refine mv_putI (pc := 55) (ci := 12) (C := R_Book) (T := F_Book) (N := 65) B 8 rfl rfl (by decide) i_Book t_Book_ok n_Book (B.2.2.2.1 _ k_1851) rfl rfl rfl rfl d_Book_called_55 ?_
  refine mv_gen (fun S58 eS58 => ?_)
  have hS := hS.dep hS.P.dn
  rw [← eS58] at hS
  clear eS58
  have hL58 := hS.le
  refine mv_aload_n (pc := 58) B d_Book_called_58 rfl 3 rfl ?_
  refine mv_iload_n (pc := 59) B d_Book_called_59 rfl 4 rfl ?_
  refine mv_iload_n (pc := 60) B d_Book_called_60 rfl 2 rfl ?_
  refine mv_iload_n (pc := 61) B d_Book_called_61 rfl 1 rfl ?_
  refine mv_iload (pc := 62) B d_Book_called_62 0 rfl ?_
  refine mv_callVi (pc := 64) (n := 4) (ci := 12) (C := R_Book) B (mK_ok sk sv) hNs rfl rfl (c_Book_two_y l hi _ _ _ _ _ (i32_in (by omega) (by omega)) (i32_in (by omega) (by omega)) hS.R (by omega) (by omega)) rfl (ma_goodc kc_Book_two) (B.2.2.2.1 _ k_2288) (B.2.2.2.1 _ k_2290) (B.2.2.2.1 _ ks_114) (B.2.2.2.1 _ k_13) ⟨by decide +kernel, by decide +kernel, by decide +kernel⟩ rfl d_Book_called_64 rfl (Nat.le_of_ble_eq_true rfl) ⟨by first | decide | (dsimp only; omega), by first | decide | (dsimp only; omega)⟩ ⟨Nat.le_refl _, Nat.le_refl _⟩ ⟨Nat.le_refl _, Nat.le_refl _⟩ (mv_noH hno _) (fun v64 σ64 h64 => ?_)
  obtain ⟨e64, τ64, w64, hT64, z64⟩ := h64
  have hS := hS.ft hT64
  have hN := hS.nodeE z64 (lo := n) (R := 10 * f) (by omega) hn0 (fun zz => XR.bin (hS.2.at 1 rfl zz) (hS.2.at 0 rfl zz) m26 m37 hS.P.nn r26 r37 (by omega) (by omega))
  have hv64 : v64.toInt + 1 = ((n37 + 1 : Nat) : Int) := by rw [e64]; omega
  exact mv_iret (pc := 67) B hr rfl d_Book_called_67 (Nat.le_refl _) (Nat.le_refl _) (Or.inl ⟨_, rfl, hN.out hv64 (by omega) 0 rfl (Nat.le_refl _)⟩)
def y_Book_together : MethodName := ⟨"MachineLoomModel$Book", "together", "()I"⟩
abbrev b_Book_together : ByteArray := prog_15_method_40_code
theorem kc_Book_together : Cond.code y_Book_together b_Book_together 7 (Option.some Jvm.ClassFile.FieldType.int) ∈ ma := ma_of (tb_10 _ (List.mem_of_getElem? (i := 116) rfl)) rfl
theorem d_Book_together_0 : decode b_Book_together 0 = .ok (.aload_n 0, 1) := by decide +kernel
theorem d_Book_together_1 : decode b_Book_together 1 = .ok (.getfield 174, 3) := by decide +kernel
theorem d_Book_together_4 : decode b_Book_together 4 = .ok (.istore_n 1, 1) := by decide +kernel
theorem d_Book_together_5 : decode b_Book_together 5 = .ok (.iconst 0, 1) := by decide +kernel
theorem d_Book_together_6 : decode b_Book_together 6 = .ok (.istore_n 2, 1) := by decide +kernel
theorem d_Book_together_7 : decode b_Book_together 7 = .ok (.aload_n 0, 1) := by decide +kernel
theorem d_Book_together_8 : decode b_Book_together 8 = .ok (.invokevirtual 203, 3) := by decide +kernel
theorem d_Book_together_11 : decode b_Book_together 11 = .ok (.aload_n 0, 1) := by decide +kernel
theorem d_Book_together_12 : decode b_Book_together 12 = .ok (.dup, 1) := by decide +kernel
theorem d_Book_together_13 : decode b_Book_together 13 = .ok (.getfield 197, 3) := by decide +kernel
theorem d_Book_together_16 : decode b_Book_together 16 = .ok (.iconst 1, 1) := by decide +kernel
theorem d_Book_together_17 : decode b_Book_together 17 = .ok (.iadd, 1) := by decide +kernel
theorem d_Book_together_18 : decode b_Book_together 18 = .ok (.putfield 197, 3) := by decide +kernel
theorem d_Book_together_21 : decode b_Book_together 21 = .ok (.aload_n 0, 1) := by decide +kernel
theorem d_Book_together_22 : decode b_Book_together 22 = .ok (.invokevirtual 256, 3) := by decide +kernel
theorem d_Book_together_25 : decode b_Book_together 25 = .ok (.istore_n 3, 1) := by decide +kernel
theorem d_Book_together_26 : decode b_Book_together 26 = .ok (.iload_n 3, 1) := by decide +kernel
theorem d_Book_together_27 : decode b_Book_together 27 = .ok (.istore 4, 2) := by decide +kernel
theorem d_Book_together_29 : decode b_Book_together 29 = .ok (.aload_n 0, 1) := by decide +kernel
theorem d_Book_together_30 : decode b_Book_together 30 = .ok (.getfield 97, 3) := by decide +kernel
theorem d_Book_together_33 : decode b_Book_together 33 = .ok (.iload_n 3, 1) := by decide +kernel
theorem d_Book_together_34 : decode b_Book_together 34 = .ok (.iaload, 1) := by decide +kernel
theorem d_Book_together_35 : decode b_Book_together 35 = .ok (.ifCond .le (7), 3) := by decide +kernel
theorem d_Book_together_38 : decode b_Book_together 38 = .ok (.iconst 1, 1) := by decide +kernel
theorem d_Book_together_39 : decode b_Book_together 39 = .ok (.goto (4), 3) := by decide +kernel
theorem d_Book_together_42 : decode b_Book_together 42 = .ok (.iconst 0, 1) := by decide +kernel
theorem d_Book_together_43 : decode b_Book_together 43 = .ok (.istore 5, 2) := by decide +kernel
theorem d_Book_together_45 : decode b_Book_together 45 = .ok (.aload_n 0, 1) := by decide +kernel
theorem d_Book_together_46 : decode b_Book_together 46 = .ok (.getfield 97, 3) := by decide +kernel
theorem d_Book_together_49 : decode b_Book_together 49 = .ok (.iload_n 3, 1) := by decide +kernel
theorem d_Book_together_50 : decode b_Book_together 50 = .ok (.iaload, 1) := by decide +kernel
theorem d_Book_together_51 : decode b_Book_together 51 = .ok (.istore_n 2, 1) := by decide +kernel
theorem d_Book_together_52 : decode b_Book_together 52 = .ok (.aload_n 0, 1) := by decide +kernel
theorem d_Book_together_53 : decode b_Book_together 53 = .ok (.getfield 151, 3) := by decide +kernel
theorem d_Book_together_56 : decode b_Book_together 56 = .ok (.bipush 44, 2) := by decide +kernel
theorem d_Book_together_58 : decode b_Book_together 58 = .ok (.if_icmp .ne (66), 3) := by decide +kernel
theorem d_Book_together_61 : decode b_Book_together 61 = .ok (.aload_n 0, 1) := by decide +kernel
theorem d_Book_together_62 : decode b_Book_together 62 = .ok (.invokevirtual 203, 3) := by decide +kernel
theorem d_Book_together_65 : decode b_Book_together 65 = .ok (.aload_n 0, 1) := by decide +kernel
theorem d_Book_together_66 : decode b_Book_together 66 = .ok (.invokevirtual 256, 3) := by decide +kernel
theorem d_Book_together_69 : decode b_Book_together 69 = .ok (.istore 6, 2) := by decide +kernel
theorem d_Book_together_71 : decode b_Book_together 71 = .ok (.aload_n 0, 1) := by decide +kernel
theorem d_Book_together_72 : decode b_Book_together 72 = .ok (.getfield 94, 3) := by decide +kernel
theorem d_Book_together_75 : decode b_Book_together 75 = .ok (.iload 4, 2) := by decide +kernel
theorem d_Book_together_77 : decode b_Book_together 77 = .ok (.iload 6, 2) := by decide +kernel
theorem d_Book_together_79 : decode b_Book_together 79 = .ok (.iastore, 1) := by decide +kernel
theorem d_Book_together_80 : decode b_Book_together 80 = .ok (.iload 6, 2) := by decide +kernel
theorem d_Book_together_82 : decode b_Book_together 82 = .ok (.istore 4, 2) := by decide +kernel
theorem d_Book_together_84 : decode b_Book_together 84 = .ok (.iload 5, 2) := by decide +kernel
theorem d_Book_together_86 : decode b_Book_together 86 = .ok (.aload_n 0, 1) := by decide +kernel
theorem d_Book_together_87 : decode b_Book_together 87 = .ok (.getfield 97, 3) := by decide +kernel
theorem d_Book_together_90 : decode b_Book_together 90 = .ok (.iload 6, 2) := by decide +kernel
theorem d_Book_together_92 : decode b_Book_together 92 = .ok (.iaload, 1) := by decide +kernel
theorem d_Book_together_93 : decode b_Book_together 93 = .ok (.ifCond .le (7), 3) := by decide +kernel
theorem d_Book_together_96 : decode b_Book_together 96 = .ok (.iconst 1, 1) := by decide +kernel
theorem d_Book_together_97 : decode b_Book_together 97 = .ok (.goto (4), 3) := by decide +kernel
theorem d_Book_together_100 : decode b_Book_together 100 = .ok (.iconst 0, 1) := by decide +kernel
theorem d_Book_together_101 : decode b_Book_together 101 = .ok (.iand, 1) := by decide +kernel
theorem d_Book_together_102 : decode b_Book_together 102 = .ok (.istore 5, 2) := by decide +kernel
theorem d_Book_together_104 : decode b_Book_together 104 = .ok (.iload_n 2, 1) := by decide +kernel
theorem d_Book_together_105 : decode b_Book_together 105 = .ok (.sipush 1000, 3) := by decide +kernel
theorem d_Book_together_108 : decode b_Book_together 108 = .ok (.if_icmp .ge (13), 3) := by decide +kernel
theorem d_Book_together_111 : decode b_Book_together 111 = .ok (.iload_n 2, 1) := by decide +kernel
theorem d_Book_together_112 : decode b_Book_together 112 = .ok (.aload_n 0, 1) := by decide +kernel
theorem d_Book_together_113 : decode b_Book_together 113 = .ok (.getfield 97, 3) := by decide +kernel
theorem d_Book_together_116 : decode b_Book_together 116 = .ok (.iload 6, 2) := by decide +kernel
theorem d_Book_together_118 : decode b_Book_together 118 = .ok (.iaload, 1) := by decide +kernel
theorem d_Book_together_119 : decode b_Book_together 119 = .ok (.iadd, 1) := by decide +kernel
theorem d_Book_together_120 : decode b_Book_together 120 = .ok (.istore_n 2, 1) := by decide +kernel
theorem d_Book_together_121 : decode b_Book_together 121 = .ok (.goto (-69), 3) := by decide +kernel
theorem d_Book_together_124 : decode b_Book_together 124 = .ok (.aload_n 0, 1) := by decide +kernel
theorem d_Book_together_125 : decode b_Book_together 125 = .ok (.bipush 125, 2) := by decide +kernel
theorem d_Book_together_127 : decode b_Book_together 127 = .ok (.invokevirtual 259, 3) := by decide +kernel
theorem d_Book_together_130 : decode b_Book_together 130 = .ok (.aload_n 0, 1) := by decide +kernel
theorem d_Book_together_131 : decode b_Book_together 131 = .ok (.dup, 1) := by decide +kernel
theorem d_Book_together_132 : decode b_Book_together 132 = .ok (.getfield 197, 3) := by decide +kernel
theorem d_Book_together_135 : decode b_Book_together 135 = .ok (.iconst 1, 1) := by decide +kernel
theorem d_Book_together_136 : decode b_Book_together 136 = .ok (.isub, 1) := by decide +kernel
theorem d_Book_together_137 : decode b_Book_together 137 = .ok (.putfield 197, 3) := by decide +kernel
theorem d_Book_together_140 : decode b_Book_together 140 = .ok (.iload 5, 2) := by decide +kernel
theorem d_Book_together_142 : decode b_Book_together 142 = .ok (.ifCond .eq (15), 3) := by decide +kernel
theorem d_Book_together_145 : decode b_Book_together 145 = .ok (.iload_n 2, 1) := by decide +kernel
theorem d_Book_together_146 : decode b_Book_together 146 = .ok (.bipush 64, 2) := by decide +kernel
theorem d_Book_together_148 : decode b_Book_together 148 = .ok (.if_icmp .le (9), 3) := by decide +kernel
theorem d_Book_together_151 : decode b_Book_together 151 = .ok (.aload_n 0, 1) := by decide +kernel
theorem d_Book_together_152 : decode b_Book_together 152 = .ok (.iconst 4, 1) := by decide +kernel
theorem d_Book_together_153 : decode b_Book_together 153 = .ok (.iload_n 1, 1) := by decide +kernel
theorem d_Book_together_154 : decode b_Book_together 154 = .ok (.invokevirtual 267, 3) := by decide +kernel
theorem d_Book_together_157 : decode b_Book_together 157 = .ok (.aload_n 0, 1) := by decide +kernel
theorem d_Book_together_158 : decode b_Book_together 158 = .ok (.bipush 10, 2) := by decide +kernel
theorem d_Book_together_160 : decode b_Book_together 160 = .ok (.iload_n 3, 1) := by decide +kernel
theorem d_Book_together_161 : decode b_Book_together 161 = .ok (.iconst 0, 1) := by decide +kernel
theorem d_Book_together_162 : decode b_Book_together 162 = .ok (.iconst 0, 1) := by decide +kernel
theorem d_Book_together_163 : decode b_Book_together 163 = .ok (.iload 5, 2) := by decide +kernel
theorem d_Book_together_165 : decode b_Book_together 165 = .ok (.ifCond .eq (13), 3) := by decide +kernel
theorem d_Book_together_168 : decode b_Book_together 168 = .ok (.iload_n 2, 1) := by decide +kernel
theorem d_Book_together_169 : decode b_Book_together 169 = .ok (.bipush 64, 2) := by decide +kernel
theorem d_Book_together_171 : decode b_Book_together 171 = .ok (.if_icmp .gt (7), 3) := by decide +kernel
theorem d_Book_together_174 : decode b_Book_together 174 = .ok (.iload_n 2, 1) := by decide +kernel
theorem d_Book_together_175 : decode b_Book_together 175 = .ok (.goto (4), 3) := by decide +kernel
theorem d_Book_together_178 : decode b_Book_together 178 = .ok (.iconst 0, 1) := by decide +kernel
theorem d_Book_together_179 : decode b_Book_together 179 = .ok (.invokevirtual 271, 3) := by decide +kernel
theorem d_Book_together_182 : decode b_Book_together 182 = .ok (.ireturn, 1) := by decide +kernel
set_option maxHeartbeats 4000000 in
set_option maxRecDepth 100000 in
theorem c_Book_together_x (l : Launch) {dA : FieldType → ClassId} {D : va_G} {al : Nat → Nat} {ext : mv_Sh} {sk sv : Nat → Nat} (hi : mv_inj (mg dA D al ext)) (σ : mv_H) (f len th d n a1 a2 : Nat) (hf : d + f = 61) (hP : PS 74 len th d n a1 a2 σ) (hk : mv_i σ 74 4 = 123) (ihE : ∀ g, g + 1 = f → XE l dA D al ext sk sv 74 g) : mv_C l y_Book_together (Cond.code y_Book_together b_Book_together 7 (Option.some Jvm.ClassFile.FieldType.int) :: ma) ({ frames := 14 * f + 10, cells := 0, slots := 0, locals := 500 * f + 400 }) (mg dA D al ext) (mK sk sv) [.ref (al 74)] σ (mv_Ui (XO 74 len th d n a1 (10 * f) σ) ("MachineLoomModel$Book$Wrong", al 107) (BF 74 σ)) := by
  refine mv_C.ofV (cc := b_Book_together) (nL := 7) (ret := (Option.some Jvm.ClassFile.FieldType.int)) (by decide +kernel) rfl hi (Nat.le_of_ble_eq_true rfl) ?_
  intro p e s m below meth c B hNs hr hnm hno
  have hS := XT.rf hP
  have hn0 := hP.le.1
  refine mv_aload_n (pc := 0) B d_Book_together_0 rfl 0 rfl ?_
  refine mv_getI (pc := 1) (ci := 12) (C := R_Book) (T := F_Book) (N := 65) B 5 rfl rfl (by decide) i_Book (B.2.2.2.1 _ k_1848) rfl d_Book_together_1 ?_
  refine mv_istore_n (pc := 4) B d_Book_together_4 rfl (by decide) rfl ?_
  refine mv_iconst (pc := 5) (v := 0) B d_Book_together_5 (by decide) ?_
  refine mv_istore_n (pc := 6) B d_Book_together_6 rfl (by decide) rfl ?_
  refine mv_aload_n (pc := 7) B d_Book_together_7 rfl 2 rfl ?_
  refine mv_callVUv (pc := 8) (n := 0) (ci := 12) (C := R_Book) B (mK_ok sk sv) hNs rfl rfl (c_Book_pass_x l hi _ len _ _ hS.P.1) rfl (ma_goodc kc_Book_pass) (B.2.2.2.1 _ k_2173) (B.2.2.2.1 _ k_2175) (B.2.2.2.1 _ ks_90) (B.2.2.2.1 _ k_13) ⟨by decide +kernel, by decide +kernel, by decide +kernel⟩ rfl d_Book_together_8 rfl (Nat.le_of_ble_eq_true rfl) ⟨by first | decide | (dsimp only; omega), by first | decide | (dsimp only; omega)⟩ ⟨Nat.le_refl _, Nat.le_refl _⟩ ⟨Nat.le_refl _, Nat.le_refl _⟩ (mv_noH hno _) (fun τ9 g9 => Or.inr ⟨rfl, hS.1.2.1.bf.tr g9.bf⟩) (fun σ8 h8 => ?_)
  have w8 := hS.P.w (by rw [hk]; decide)
  obtain ⟨d8, t8, u8, q8, g8⟩ := h8
  rw [hS.P.2.1] at d8
  have hL0 := hS.le
  have hS := hS.pass q8 g8
  refine mv_aload_n (pc := 11) B d_Book_together_11 rfl 2 rfl ?_
  refine mv_dup (pc := 12) B d_Book_together_12 rfl ?_
  refine mv_getI (pc := 13) (ci := 12) (C := R_Book) (T := F_Book) (N := 65) B 8 rfl rfl (by decide) i_Book (B.2.2.2.1 _ k_1851) rfl d_Book_together_13 ?_
  refine mv_iconst (pc := 16) (v := 1) B d_Book_together_16 (by decide) ?_
  refine mv_iadd (pc := 17) B d_Book_together_17 ?_
  refine mv_putI (pc := 18) (ci := 12) (C := R_Book) (T := F_Book) (N := 65) B 8 rfl rfl (by decide) i_Book t_Book_ok n_Book (B.2.2.2.1 _ k_1851) rfl rfl rfl rfl d_Book_together_18 ?_
  refine mv_gen (fun S21 eS21 => ?_)
  have hS := hS.dep (hS.P.up (by omega))
  rw [← eS21] at hS
  clear eS21
  refine mv_aload_n (pc := 21) B d_Book_together_21 rfl 2 rfl ?_
  refine mv_callVUi (pc := 22) (n := 0) (ci := 12) (C := R_Book) B (mK_ok sk sv) hNs rfl rfl (ihE (f - 1) (by omega) _ len th _ _ _ _ (by omega) hS.P) rfl (ma_goodc kc_Book_expression) (B.2.2.2.1 _ k_2245) (B.2.2.2.1 _ k_2247) (B.2.2.2.1 _ ks_104) (B.2.2.2.1 _ k_13) ⟨by decide +kernel, by decide +kernel, by decide +kernel⟩ rfl d_Book_together_22 rfl (Nat.le_of_ble_eq_true rfl) ⟨by first | decide | (dsimp only; omega), by first | decide | (dsimp only; omega)⟩ ⟨Nat.le_refl _, Nat.le_refl _⟩ ⟨Nat.le_refl _, Nat.le_refl _⟩ (mv_noH hno _) (fun τ9 g9 => Or.inr ⟨rfl, hS.1.2.1.bf.tr g9⟩) (fun v22 σ22 h22 => ?_)
  obtain ⟨n22, t22, u22, s22, m22, r22, x22⟩ := h22
  have i22 := s22.2.2.2.1
  have hS := hS.sub s22 x22
  have hL22 := hS.le
  have hb22 : vp_in v22 33000 := i32_in (by omega) (by omega)
  refine mv_istore_n (pc := 25) B d_Book_together_25 rfl (by decide) rfl ?_
  have lp : ∀ (nn : Nat) (S : mv_H) (n8 : Nat) (t8 : Nat) (u8 : Nat) (x8 : Int32) (p9 : Int32) (s9 : Int32) (k9 : Int32) (hS : XT 74 len th σ n a1 S (d + 1) n8 t8 u8 [(n, n8, 10 * (f - 1) + 9)]) (hn8 : n22 ≤ n8) (hx8 : x8.toInt + 1 = n8) (ht8 : t22 ≤ t8), len + 1 - t8 < nn → mv_V p l e ({ frames := 14 * f + 10, cells := 0, slots := 0, locals := 500 * f + 400 }) s m ([.ref (al 74)] : List Value).toArray below meth c (mg dA D al ext) 7 0 0 (mv_Q (mg dA D al ext) below s 0 0 (mv_Ui (XO 74 len th d n a1 (10 * f) σ) ("MachineLoomModel$Book$Wrong", al 107) (BF 74 σ))) S 52 [(4, .int x8), (2, .int s9), (5, .int k9), (1, .int p9), (3, .int v22), (0, .ref (al 74))] [] := by
    intro nn
    induction nn with
    | zero => intro S n8 t8 u8 x8 p9 s9 k9 hS hn8 hx8 ht8 hm; exact absurd hm (Nat.not_lt_zero _)
    | succ nn ih =>
      intro S n8 t8 u8 x8 p9 s9 k9 hS hn8 hx8 ht8 hm
      refine mv_aload_n (pc := 52) B d_Book_together_52 rfl 5 rfl ?_
      refine mv_getI (pc := 53) (ci := 12) (C := R_Book) (T := F_Book) (N := 65) B 4 rfl rfl (by decide) i_Book (B.2.2.2.1 _ k_1847) rfl d_Book_together_53 ?_
      refine mv_bipush (pc := 56) (v := 44) B d_Book_together_56 (by decide) ?_
      refine mv_icmp_ne (pc := 58) (tgt := 124) B d_Book_together_58 rfl (fun h58 => ?_) (fun h58 => ?_)
      · skip
        refine mv_aload_n (pc := 124) B d_Book_together_124 rfl 5 rfl ?_
        refine mv_bipush (pc := 125) (v := 125) B d_Book_together_125 (by decide) ?_
        refine mv_callVUv (pc := 127) (n := 1) (ci := 12) (C := R_Book) B (mK_ok sk sv) hNs rfl rfl (c_Book_need_x l hi _ _ len _ _ hS.P.1) rfl (ma_goodc kc_Book_need) (B.2.2.2.1 _ k_2177) (B.2.2.2.1 _ k_2179) (B.2.2.2.1 _ ks_91) (B.2.2.2.1 _ k_13) ⟨by decide +kernel, by decide +kernel, by decide +kernel⟩ rfl d_Book_together_127 rfl (Nat.le_of_ble_eq_true rfl) ⟨by first | decide | (dsimp only; omega), by first | decide | (dsimp only; omega)⟩ ⟨Nat.le_refl _, Nat.le_refl _⟩ ⟨Nat.le_refl _, Nat.le_refl _⟩ (mv_noH hno _) (fun τ9 g9 => Or.inr ⟨rfl, hS.1.2.1.bf.tr g9.bf⟩) (fun σ127 h127 => ?_)
        obtain ⟨k127, d127, t127, u127, q127, g127⟩ := h127
        have w127 := hS.P.w (by rw [k127]; decide)
        rw [hS.P.2.1] at d127
        have hL0 := hS.le
        have hS := hS.pass q127 g127
        refine mv_aload_n (pc := 130) B d_Book_together_130 rfl 5 rfl ?_
        refine mv_dup (pc := 131) B d_Book_together_131 rfl ?_
        refine mv_getI (pc := 132) (ci := 12) (C := R_Book) (T := F_Book) (N := 65) B 8 rfl rfl (by decide) i_Book (B.2.2.2.1 _ k_1851) rfl d_Book_together_132 ?_
        refine mv_iconst (pc := 135) (v := 1) B d_Book_together_135 (by decide) ?_
        refine mv_isub (pc := 136) B d_Book_together_136 ?_
        refine mv_putI (pc := 137) (ci := 12) (C := R_Book) (T := F_Book) (N := 65) B 8 rfl rfl (by decide) i_Book t_Book_ok n_Book (B.2.2.2.1 _ k_1851) rfl rfl rfl rfl d_Book_together_137 ?_
        refine mv_gen (fun S140 eS140 => ?_)
        have hS := hS.dep hS.P.dn
        rw [← eS140] at hS
        clear eS140
        have j157 : ∀ (τ : mv_H) (s9 : Int32) (k9 : Int32) (hT : FT 74 S140 τ), mv_V p l e ({ frames := 14 * f + 10, cells := 0, slots := 0, locals := 500 * f + 400 }) s m ([.ref (al 74)] : List Value).toArray below meth c (mg dA D al ext) 7 0 0 (mv_Q (mg dA D al ext) below s 0 0 (mv_Ui (XO 74 len th d n a1 (10 * f) σ) ("MachineLoomModel$Book$Wrong", al 107) (BF 74 σ))) τ 157 [(0, .ref (al 74)), (2, .int s9), (3, .int v22), (5, .int k9)] [] := by
          intro τ s9 k9 hT
          have hS := hS.ft hT
          refine mv_aload_n (pc := 157) B d_Book_together_157 rfl 0 rfl ?_
          refine mv_bipush (pc := 158) (v := 10) B d_Book_together_158 (by decide) ?_
          refine mv_iload_n (pc := 160) B d_Book_together_160 rfl 2 rfl ?_
          refine mv_iconst (pc := 161) (v := 0) B d_Book_together_161 (by decide) ?_
          refine mv_iconst (pc := 162) (v := 0) B d_Book_together_162 (by decide) ?_
          refine mv_iload (pc := 163) B d_Book_together_163 3 rfl ?_
          refine mv_if_eq (pc := 165) (tgt := 178) B d_Book_together_165 rfl (fun h165 => ?_) (fun h165 => ?_)
          · skip
            refine mv_iconst (pc := 178) (v := 0) B d_Book_together_178 (by decide) ?_
            refine mv_callVi (pc := 179) (n := 5) (ci := 12) (C := R_Book) B (mK_ok sk sv) hNs rfl rfl (c_Book_node_x l hi _ _ _ _ _ _ hS.R (by have := hS.le; omega) (by have := hS.le; omega)) rfl (ma_goodc kc_Book_node) (B.2.2.2.1 _ k_2269) (B.2.2.2.1 _ k_2271) (B.2.2.2.1 _ ks_110) (B.2.2.2.1 _ k_13) ⟨by decide +kernel, by decide +kernel, by decide +kernel⟩ rfl d_Book_together_179 rfl (Nat.le_of_ble_eq_true rfl) ⟨by first | decide | (dsimp only; omega), by first | decide | (dsimp only; omega)⟩ ⟨Nat.le_refl _, Nat.le_refl _⟩ ⟨Nat.le_refl _, Nat.le_refl _⟩ (mv_noH hno _) (fun v179 σ179 h179 => ?_)
            obtain ⟨e179, z179⟩ := h179
            have hL179 := hS.le
            have hN := hS.nodeE z179 (lo := n) (R := 10 * f) (by omega) hn0 (fun zz => XR.row (m := n22 - 1) (hS.2.at 0 rfl zz) hS.P.nn (by omega) (by omega) (by omega) (by omega))
            have hv179 : v179.toInt + 1 = ((n8 + 1 : Nat) : Int) := by rw [e179]; omega
            exact mv_iret (pc := 182) B hr rfl d_Book_together_182 (Nat.le_refl _) (Nat.le_refl _) (Or.inl ⟨_, rfl, hN.out hv179 (by omega) 0 rfl (Nat.le_refl _)⟩)
          · skip
            refine mv_iload_n (pc := 168) B d_Book_together_168 rfl 1 rfl ?_
            refine mv_bipush (pc := 169) (v := 64) B d_Book_together_169 (by decide) ?_
            refine mv_icmp_gt (pc := 171) (tgt := 178) B d_Book_together_171 rfl (fun h171 => ?_) (fun h171 => ?_)
            · skip
              refine mv_iconst (pc := 178) (v := 0) B d_Book_together_178 (by decide) ?_
              refine mv_callVi (pc := 179) (n := 5) (ci := 12) (C := R_Book) B (mK_ok sk sv) hNs rfl rfl (c_Book_node_x l hi _ _ _ _ _ _ hS.R (by have := hS.le; omega) (by have := hS.le; omega)) rfl (ma_goodc kc_Book_node) (B.2.2.2.1 _ k_2269) (B.2.2.2.1 _ k_2271) (B.2.2.2.1 _ ks_110) (B.2.2.2.1 _ k_13) ⟨by decide +kernel, by decide +kernel, by decide +kernel⟩ rfl d_Book_together_179 rfl (Nat.le_of_ble_eq_true rfl) ⟨by first | decide | (dsimp only; omega), by first | decide | (dsimp only; omega)⟩ ⟨Nat.le_refl _, Nat.le_refl _⟩ ⟨Nat.le_refl _, Nat.le_refl _⟩ (mv_noH hno _) (fun v179 σ179 h179 => ?_)
              obtain ⟨e179, z179⟩ := h179
              have hL179 := hS.le
              have hN := hS.nodeE z179 (lo := n) (R := 10 * f) (by omega) hn0 (fun zz => XR.row (m := n22 - 1) (hS.2.at 0 rfl zz) hS.P.nn (by omega) (by omega) (by omega) (by omega))
              have hv179 : v179.toInt + 1 = ((n8 + 1 : Nat) : Int) := by rw [e179]; omega
              exact mv_iret (pc := 182) B hr rfl d_Book_together_182 (Nat.le_refl _) (Nat.le_refl _) (Or.inl ⟨_, rfl, hN.out hv179 (by omega) 0 rfl (Nat.le_refl _)⟩)
            · skip
              refine mv_iload_n (pc := 174) B d_Book_together_174 rfl 1 rfl ?_
              refine mv_goto (pc := 175) (tgt := 179) B d_Book_together_175 rfl ?_
              refine mv_callVi (pc := 179) (n := 5) (ci := 12) (C := R_Book) B (mK_ok sk sv) hNs rfl rfl (c_Book_node_x l hi _ _ _ _ _ _ hS.R (by have := hS.le; omega) (by have := hS.le; omega)) rfl (ma_goodc kc_Book_node) (B.2.2.2.1 _ k_2269) (B.2.2.2.1 _ k_2271) (B.2.2.2.1 _ ks_110) (B.2.2.2.1 _ k_13) ⟨by decide +kernel, by decide +kernel, by decide +kernel⟩ rfl d_Book_together_179 rfl (Nat.le_of_ble_eq_true rfl) ⟨by first | decide | (dsimp only; omega), by first | decide | (dsimp only; omega)⟩ ⟨Nat.le_refl _, Nat.le_refl _⟩ ⟨Nat.le_refl _, Nat.le_refl _⟩ (mv_noH hno _) (fun v179 σ179 h179 => ?_)
              obtain ⟨e179, z179⟩ := h179
              have hL179 := hS.le
              have hN := hS.nodeE z179 (lo := n) (R := 10 * f) (by omega) hn0 (fun zz => XR.row (m := n22 - 1) (hS.2.at 0 rfl zz) hS.P.nn (by omega) (by omega) (by omega) (by omega))
              have hv179 : v179.toInt + 1 = ((n8 + 1 : Nat) : Int) := by rw [e179]; omega
              exact mv_iret (pc := 182) B hr rfl d_Book_together_182 (Nat.le_refl _) (Nat.le_refl _) (Or.inl ⟨_, rfl, hN.out hv179 (by omega) 0 rfl (Nat.le_refl _)⟩)
        refine mv_iload (pc := 140) B d_Book_together_140 2 rfl ?_
        refine mv_if_eq (pc := 142) (tgt := 157) B d_Book_together_142 rfl (fun h142 => ?_) (fun h142 => ?_)
        · skip
          refine mv_lpick [5, 1, 4, 2] rfl ?_
          exact j157 _ _ _ (by first | exact FT.rf | exact FT.rf.of h154)
        · skip
          refine mv_iload_n (pc := 145) B d_Book_together_145 rfl 1 rfl ?_
          refine mv_bipush (pc := 146) (v := 64) B d_Book_together_146 (by decide) ?_
          refine mv_icmp_le (pc := 148) (tgt := 157) B d_Book_together_148 rfl (fun h148 => ?_) (fun h148 => ?_)
          · skip
            refine mv_lpick [5, 1, 4, 2] rfl ?_
            exact j157 _ _ _ (by first | exact FT.rf | exact FT.rf.of h154)
          · skip
            refine mv_aload_n (pc := 151) B d_Book_together_151 rfl 5 rfl ?_
            refine mv_iconst (pc := 152) (v := 4) B d_Book_together_152 (by decide) ?_
            refine mv_iload_n (pc := 153) B d_Book_together_153 rfl 3 rfl ?_
            refine mv_callVv (pc := 154) (n := 2) (ci := 12) (C := R_Book) B (mK_ok sk sv) hNs rfl rfl (c_Book_fault_x l hi _ _ _ (by decide)) rfl (ma_goodc kc_Book_fault) (B.2.2.2.1 _ k_2185) (B.2.2.2.1 _ k_2187) (B.2.2.2.1 _ ks_92) (B.2.2.2.1 _ k_13) ⟨by decide +kernel, by decide +kernel, by decide +kernel⟩ rfl d_Book_together_154 rfl (Nat.le_of_ble_eq_true rfl) ⟨by first | decide | (dsimp only; omega), by first | decide | (dsimp only; omega)⟩ ⟨Nat.le_refl _, Nat.le_refl _⟩ ⟨Nat.le_refl _, Nat.le_refl _⟩ (mv_noH hno _) (fun σ154 h154 => ?_)
            refine mv_lpick [5, 1, 4, 2] rfl ?_
            exact j157 _ _ _ (by first | exact FT.rf | exact FT.rf.of h154)
      · skip
        refine mv_aload_n (pc := 61) B d_Book_together_61 rfl 5 rfl ?_
        refine mv_callVUv (pc := 62) (n := 0) (ci := 12) (C := R_Book) B (mK_ok sk sv) hNs rfl rfl (c_Book_pass_x l hi _ len _ _ hS.P.1) rfl (ma_goodc kc_Book_pass) (B.2.2.2.1 _ k_2173) (B.2.2.2.1 _ k_2175) (B.2.2.2.1 _ ks_90) (B.2.2.2.1 _ k_13) ⟨by decide +kernel, by decide +kernel, by decide +kernel⟩ rfl d_Book_together_62 rfl (Nat.le_of_ble_eq_true rfl) ⟨by first | decide | (dsimp only; omega), by first | decide | (dsimp only; omega)⟩ ⟨Nat.le_refl _, Nat.le_refl _⟩ ⟨Nat.le_refl _, Nat.le_refl _⟩ (mv_noH hno _) (fun τ9 g9 => Or.inr ⟨rfl, hS.1.2.1.bf.tr g9.bf⟩) (fun σ62 h62 => ?_)
        have hL62 := hS.le
        have w62 := hS.P.w (by rw [h58]; decide)
        obtain ⟨d62, t62, u62, q62, g62⟩ := h62
        rw [hS.P.2.1] at d62
        have hL0 := hS.le
        have hS := hS.pass q62 g62
        refine mv_aload_n (pc := 65) B d_Book_together_65 rfl 5 rfl ?_
        refine mv_callVUi (pc := 66) (n := 0) (ci := 12) (C := R_Book) B (mK_ok sk sv) hNs rfl rfl (ihE (f - 1) (by omega) _ len th _ _ _ _ (by omega) hS.P) rfl (ma_goodc kc_Book_expression) (B.2.2.2.1 _ k_2245) (B.2.2.2.1 _ k_2247) (B.2.2.2.1 _ ks_104) (B.2.2.2.1 _ k_13) ⟨by decide +kernel, by decide +kernel, by decide +kernel⟩ rfl d_Book_together_66 rfl (Nat.le_of_ble_eq_true rfl) ⟨by first | decide | (dsimp only; omega), by first | decide | (dsimp only; omega)⟩ ⟨Nat.le_refl _, Nat.le_refl _⟩ ⟨Nat.le_refl _, Nat.le_refl _⟩ (mv_noH hno _) (fun τ9 g9 => Or.inr ⟨rfl, hS.1.2.1.bf.tr g9⟩) (fun v66 σ66 h66 => ?_)
        obtain ⟨n66, t66, u66, s66, m66, r66, x66⟩ := h66
        have i66 := s66.2.2.2.1
        have hS := hS.sub s66 x66
        have hL66 := hS.le
        have hb66 : vp_in v66 33000 := i32_in (by omega) (by omega)
        refine mv_istore (pc := 69) B d_Book_together_69 (by decide) rfl ?_
        refine mv_aload_n (pc := 71) B d_Book_together_71 rfl 6 rfl ?_
        refine mv_getR (pc := 72) (ci := 12) (C := R_Book) (T := F_Book) (N := 65) B 44 rfl rfl (by decide) i_Book (B.2.2.2.1 _ k_1893) rfl (hS.R.1 _ 44 _ rfl) d_Book_together_72 ?_
        refine mv_iload (pc := 75) B d_Book_together_75 1 rfl ?_
        refine mv_iload (pc := 77) B d_Book_together_77 0 rfl ?_
        refine mv_iast (pc := 79) B rfl (i32_in (by omega) (by omega)) d_Book_together_79 ?_
        refine mv_gen (fun S80 eS80 => ?_)
        have hcl := i32_cl (x := x8) (by omega)
        have hS := hS.link (by omega) m66 (k := x8.toNatClampNeg) (by omega) r66 (by omega)
        rw [← eS80] at hS
        clear eS80
        have j101 : ∀ (p9 : Int32) (s9 : Int32) (k9 : Int32) (b9 : Int32) , mv_V p l e ({ frames := 14 * f + 10, cells := 0, slots := 0, locals := 500 * f + 400 }) s m ([.ref (al 74)] : List Value).toArray below meth c (mg dA D al ext) 7 0 0 (mv_Q (mg dA D al ext) below s 0 0 (mv_Ui (XO 74 len th d n a1 (10 * f) σ) ("MachineLoomModel$Book$Wrong", al 107) (BF 74 σ))) S80 101 [(6, .int v66), (4, .int v66), (2, .int s9), (1, .int p9), (3, .int v22), (0, .ref (al 74))] [.int b9, .int k9] := by
          intro p9 s9 k9 b9
          refine mv_iand (pc := 101) B d_Book_together_101 ?_
          refine mv_istore (pc := 102) B d_Book_together_102 (by decide) rfl ?_
          refine mv_iload_n (pc := 104) B d_Book_together_104 rfl 3 rfl ?_
          refine mv_sipush (pc := 105) (v := 1000) B d_Book_together_105 (by decide) ?_
          refine mv_icmp_ge (pc := 108) (tgt := 121) B d_Book_together_108 rfl (fun h108 => ?_) (fun h108 => ?_)
          · skip
            refine mv_goto (pc := 121) (tgt := 52) B d_Book_together_121 rfl ?_
            refine mv_lpick [2, 3, 0, 4, 5, 6] rfl ?_
            exact ih _ _ _ _ _ _ _ _ hS (by omega) r66 (by omega) (by omega)
          · skip
            refine mv_iload_n (pc := 111) B d_Book_together_111 rfl 3 rfl ?_
            refine mv_aload_n (pc := 112) B d_Book_together_112 rfl 6 rfl ?_
            refine mv_getR (pc := 113) (ci := 12) (C := R_Book) (T := F_Book) (N := 65) B 45 rfl rfl (by decide) i_Book (B.2.2.2.1 _ k_1894) rfl (hS.R.1 _ 45 _ rfl) d_Book_together_113 ?_
            refine mv_iload (pc := 116) B d_Book_together_116 1 rfl ?_
            refine mv_iald (pc := 118) B rfl hb66 d_Book_together_118 ?_
            refine mv_iadd (pc := 119) B d_Book_together_119 ?_
            refine mv_istore_n (pc := 120) B d_Book_together_120 rfl (by decide) rfl ?_
            refine mv_goto (pc := 121) (tgt := 52) B d_Book_together_121 rfl ?_
            refine mv_lpick [3, 0, 1, 4, 5, 6] rfl ?_
            exact ih _ _ _ _ _ _ _ _ hS (by omega) r66 (by omega) (by omega)
        refine mv_iload (pc := 80) B d_Book_together_80 0 rfl ?_
        refine mv_istore (pc := 82) B d_Book_together_82 (by decide) rfl ?_
        refine mv_iload (pc := 84) B d_Book_together_84 3 rfl ?_
        refine mv_aload_n (pc := 86) B d_Book_together_86 rfl 6 rfl ?_
        refine mv_getR (pc := 87) (ci := 12) (C := R_Book) (T := F_Book) (N := 65) B 45 rfl rfl (by decide) i_Book (B.2.2.2.1 _ k_1894) rfl (hS.R.1 _ 45 _ rfl) d_Book_together_87 ?_
        refine mv_iload (pc := 90) B d_Book_together_90 1 rfl ?_
        refine mv_iald (pc := 92) B rfl hb66 d_Book_together_92 ?_
        refine mv_if_le (pc := 93) (tgt := 100) B d_Book_together_93 rfl (fun h93 => ?_) (fun h93 => ?_)
        · skip
          refine mv_iconst (pc := 100) (v := 0) B d_Book_together_100 (by decide) ?_
          refine mv_lpick [1, 0, 2, 4, 5, 6] rfl ?_
          exact j101 _ _ _ _
        · skip
          refine mv_iconst (pc := 96) (v := 1) B d_Book_together_96 (by decide) ?_
          refine mv_goto (pc := 97) (tgt := 101) B d_Book_together_97 rfl ?_
          refine mv_lpick [1, 0, 2, 4, 5, 6] rfl ?_
          exact j101 _ _ _ _
  have j43 : ∀ (p9 : Int32) (s9 : Int32) (k9 : Int32) , mv_V p l e ({ frames := 14 * f + 10, cells := 0, slots := 0, locals := 500 * f + 400 }) s m ([.ref (al 74)] : List Value).toArray below meth c (mg dA D al ext) 7 0 0 (mv_Q (mg dA D al ext) below s 0 0 (mv_Ui (XO 74 len th d n a1 (10 * f) σ) ("MachineLoomModel$Book$Wrong", al 107) (BF 74 σ))) σ22 43 [(4, .int v22), (3, .int v22), (2, .int s9), (1, .int p9), (0, .ref (al 74))] [.int k9] := by
    intro p9 s9 k9
    refine mv_istore (pc := 43) B d_Book_together_43 (by decide) rfl ?_
    refine mv_aload_n (pc := 45) B d_Book_together_45 rfl 5 rfl ?_
    refine mv_getR (pc := 46) (ci := 12) (C := R_Book) (T := F_Book) (N := 65) B 45 rfl rfl (by decide) i_Book (B.2.2.2.1 _ k_1894) rfl (hS.R.1 _ 45 _ rfl) d_Book_together_46 ?_
    refine mv_iload_n (pc := 49) B d_Book_together_49 rfl 2 rfl ?_
    refine mv_iald (pc := 50) B rfl hb22 d_Book_together_50 ?_
    refine mv_istore_n (pc := 51) B d_Book_together_51 rfl (by decide) rfl ?_
    refine mv_lpick [2, 0, 1, 4, 3, 5] rfl ?_
    exact lp _ _ _ _ _ _ _ _ _ hS (Nat.le_refl _) r22 (Nat.le_refl _) (Nat.lt_succ_self _)
  refine mv_iload_n (pc := 26) B d_Book_together_26 rfl 0 rfl ?_
  refine mv_istore (pc := 27) B d_Book_together_27 (by decide) rfl ?_
  refine mv_aload_n (pc := 29) B d_Book_together_29 rfl 4 rfl ?_
  refine mv_getR (pc := 30) (ci := 12) (C := R_Book) (T := F_Book) (N := 65) B 45 rfl rfl (by decide) i_Book (B.2.2.2.1 _ k_1894) rfl (hS.R.1 _ 45 _ rfl) d_Book_together_30 ?_
  refine mv_iload_n (pc := 33) B d_Book_together_33 rfl 1 rfl ?_
  refine mv_iald (pc := 34) B rfl hb22 d_Book_together_34 ?_
  refine mv_if_le (pc := 35) (tgt := 42) B d_Book_together_35 rfl (fun h35 => ?_) (fun h35 => ?_)
  · skip
    refine mv_iconst (pc := 42) (v := 0) B d_Book_together_42 (by decide) ?_
    refine mv_lpick [0, 1, 2, 3, 4] rfl ?_
    exact j43 _ _ _
  · skip
    refine mv_iconst (pc := 38) (v := 1) B d_Book_together_38 (by decide) ?_
    refine mv_goto (pc := 39) (tgt := 43) B d_Book_together_39 rfl ?_
    refine mv_lpick [0, 1, 2, 3, 4] rfl ?_
    exact j43 _ _ _
set_option maxHeartbeats 4000000 in
set_option maxRecDepth 100000 in
theorem c_Book_together_y (l : Launch) {dA : FieldType → ClassId} {D : va_G} {al : Nat → Nat} {ext : mv_Sh} {sk sv : Nat → Nat} (hi : mv_inj (mg dA D al ext)) (σ : mv_H) (f len th d n a1 a2 : Nat) (hf : d + f = 61) (hP : PS 108 len th d n a1 a2 σ) (hk : mv_i σ 108 4 = 123) (ihE : ∀ g, g + 1 = f → XE l dA D al ext sk sv 108 g) : mv_C l y_Book_together (Cond.code y_Book_together b_Book_together 7 (Option.some Jvm.ClassFile.FieldType.int) :: ma) ({ frames := 14 * f + 10, cells := 0, slots := 0, locals := 500 * f + 400 }) (mg dA D al ext) (mK sk sv) [.ref (al 108)] σ (mv_Ui (XO 108 len th d n a1 (10 * f) σ) ("MachineLoomModel$Book$Wrong", al 141) (BF 108 σ)) := by
  refine mv_C.ofV (cc := b_Book_together) (nL := 7) (ret := (Option.some Jvm.ClassFile.FieldType.int)) (by decide +kernel) rfl hi (Nat.le_of_ble_eq_true rfl) ?_
  intro p e s m below meth c B hNs hr hnm hno
  have hS := XT.rf hP
  have hn0 := hP.le.1
  refine mv_aload_n (pc := 0) B d_Book_together_0 rfl 0 rfl ?_
  refine mv_getI (pc := 1) (ci := 12) (C := R_Book) (T := F_Book) (N := 65) B 5 rfl rfl (by decide) i_Book (B.2.2.2.1 _ k_1848) rfl d_Book_together_1 ?_
  refine mv_istore_n (pc := 4) B d_Book_together_4 rfl (by decide) rfl ?_
  refine mv_iconst (pc := 5) (v := 0) B d_Book_together_5 (by decide) ?_
  refine mv_istore_n (pc := 6) B d_Book_together_6 rfl (by decide) rfl ?_
  refine mv_aload_n (pc := 7) B d_Book_together_7 rfl 2 rfl ?_
  refine mv_callVUv (pc := 8) (n := 0) (ci := 12) (C := R_Book) B (mK_ok sk sv) hNs rfl rfl (c_Book_pass_y l hi _ len _ _ hS.P.1) rfl (ma_goodc kc_Book_pass) (B.2.2.2.1 _ k_2173) (B.2.2.2.1 _ k_2175) (B.2.2.2.1 _ ks_90) (B.2.2.2.1 _ k_13) ⟨by decide +kernel, by decide +kernel, by decide +kernel⟩ rfl d_Book_together_8 rfl (Nat.le_of_ble_eq_true rfl) ⟨by first | decide | (dsimp only; omega), by first | decide | (dsimp only; omega)⟩ ⟨Nat.le_refl _, Nat.le_refl _⟩ ⟨Nat.le_refl _, Nat.le_refl _⟩ (mv_noH hno _) (fun τ9 g9 => Or.inr ⟨rfl, hS.1.2.1.bf.tr g9.bf⟩) (fun σ8 h8 => ?_)
  have w8 := hS.P.w (by rw [hk]; decide)
  obtain ⟨d8, t8, u8, q8, g8⟩ := h8
  rw [hS.P.2.1] at d8
  have hL0 := hS.le
  have hS := hS.pass q8 g8
  refine mv_aload_n (pc := 11) B d_Book_together_11 rfl 2 rfl ?_
  refine mv_dup (pc := 12) B d_Book_together_12 rfl ?_
  refine mv_getI (pc := 13) (ci := 12) (C := R_Book) (T := F_Book) (N := 65) B 8 rfl rfl (by decide) i_Book (B.2.2.2.1 _ k_1851) rfl d_Book_together_13 ?_
  refine mv_iconst (pc := 16) (v := 1) B d_Book_together_16 (by decide) ?_
  refine mv_iadd (pc := 17) B d_Book_together_17 ?_
  refine mv_putI (pc := 18) (ci := 12) (C := R_Book) (T := F_Book) (N := 65) B 8 rfl rfl (by decide) i_Book t_Book_ok n_Book (B.2.2.2.1 _ k_1851) rfl rfl rfl rfl d_Book_together_18 ?_
  refine mv_gen (fun S21 eS21 => ?_)
  have hS := hS.dep (hS.P.up (by omega))
  rw [← eS21] at hS
  clear eS21
  refine mv_aload_n (pc := 21) B d_Book_together_21 rfl 2 rfl ?_
  refine mv_callVUi (pc := 22) (n := 0) (ci := 12) (C := R_Book) B (mK_ok sk sv) hNs rfl rfl (ihE (f - 1) (by omega) _ len th _ _ _ _ (by omega) hS.P) rfl (ma_goodc kc_Book_expression) (B.2.2.2.1 _ k_2245) (B.2.2.2.1 _ k_2247) (B.2.2.2.1 _ ks_104) (B.2.2.2.1 _ k_13) ⟨by decide +kernel, by decide +kernel, by decide +kernel⟩ rfl d_Book_together_22 rfl (Nat.le_of_ble_eq_true rfl) ⟨by first | decide | (dsimp only; omega), by first | decide | (dsimp only; omega)⟩ ⟨Nat.le_refl _, Nat.le_refl _⟩ ⟨Nat.le_refl _, Nat.le_refl _⟩ (mv_noH hno _) (fun τ9 g9 => Or.inr ⟨rfl, hS.1.2.1.bf.tr g9⟩) (fun v22 σ22 h22 => ?_)
  obtain ⟨n22, t22, u22, s22, m22, r22, x22⟩ := h22
  have i22 := s22.2.2.2.1
  have hS := hS.sub s22 x22
  have hL22 := hS.le
  have hb22 : vp_in v22 33000 := i32_in (by omega) (by omega)
  refine mv_istore_n (pc := 25) B d_Book_together_25 rfl (by decide) rfl ?_
  have lp : ∀ (nn : Nat) (S : mv_H) (n8 : Nat) (t8 : Nat) (u8 : Nat) (x8 : Int32) (p9 : Int32) (s9 : Int32) (k9 : Int32) (hS : XT 108 len th σ n a1 S (d + 1) n8 t8 u8 [(n, n8, 10 * (f - 1) + 9)]) (hn8 : n22 ≤ n8) (hx8 : x8.toInt + 1 = n8) (ht8 : t22 ≤ t8), len + 1 - t8 < nn → mv_V p l e ({ frames := 14 * f + 10, cells := 0, slots := 0, locals := 500 * f + 400 }) s m ([.ref (al 108)] : List Value).toArray below meth c (mg dA D al ext) 7 0 0 (mv_Q (mg dA D al ext) below s 0 0 (mv_Ui (XO 108 len th d n a1 (10 * f) σ) ("MachineLoomModel$Book$Wrong", al 141) (BF 108 σ))) S 52 [(4, .int x8), (2, .int s9), (5, .int k9), (1, .int p9), (3, .int v22), (0, .ref (al 108))] [] := by
    intro nn
    induction nn with
    | zero => intro S n8 t8 u8 x8 p9 s9 k9 hS hn8 hx8 ht8 hm; exact absurd hm (Nat.not_lt_zero _)
    | succ nn ih =>
      intro S n8 t8 u8 x8 p9 s9 k9 hS hn8 hx8 ht8 hm
      refine mv_aload_n (pc := 52) B d_Book_together_52 rfl 5 rfl ?_
      refine mv_getI (pc := 53) (ci := 12) (C := R_Book) (T := F_Book) (N := 65) B 4 rfl rfl (by decide) i_Book (B.2.2.2.1 _ k_1847) rfl d_Book_together_53 ?_
      refine mv_bipush (pc := 56) (v := 44) B d_Book_together_56 (by decide) ?_
      refine mv_icmp_ne (pc := 58) (tgt := 124) B d_Book_together_58 rfl (fun h58 => ?_) (fun h58 => ?_)
      · skip
        refine mv_aload_n (pc := 124) B d_Book_together_124 rfl 5 rfl ?_
        refine mv_bipush (pc := 125) (v := 125) B d_Book_together_125 (by decide) ?_
        refine mv_callVUv (pc := 127) (n := 1) (ci := 12) (C := R_Book) B (mK_ok sk sv) hNs rfl rfl (c_Book_need_y l hi _ _ len _ _ hS.P.1) rfl (ma_goodc kc_Book_need) (B.2.2.2.1 _ k_2177) (B.2.2.2.1 _ k_2179) (B.2.2.2.1 _ ks_91) (B.2.2.2.1 _ k_13) ⟨by decide +kernel, by decide +kernel, by decide +kernel⟩ rfl d_Book_together_127 rfl (Nat.le_of_ble_eq_true rfl) ⟨by first | decide | (dsimp only; omega), by first | decide | (dsimp only; omega)⟩ ⟨Nat.le_refl _, Nat.le_refl _⟩ ⟨Nat.le_refl _, Nat.le_refl _⟩ (mv_noH hno _) (fun τ9 g9 => Or.inr ⟨rfl, hS.1.2.1.bf.tr g9.bf⟩) (fun σ127 h127 => ?_)
        obtain ⟨k127, d127, t127, u127, q127, g127⟩ := h127
        have w127 := hS.P.w (by rw [k127]; decide)
        rw [hS.P.2.1] at d127
        have hL0 := hS.le
        have hS := hS.pass q127 g127
        refine mv_aload_n (pc := 130) B d_Book_together_130 rfl 5 rfl ?_
        refine mv_dup (pc := 131) B d_Book_together_131 rfl ?_
        refine mv_getI (pc := 132) (ci := 12) (C := R_Book) (T := F_Book) (N := 65) B 8 rfl rfl (by decide) i_Book (B.2.2.2.1 _ k_1851) rfl d_Book_together_132 ?_
        refine mv_iconst (pc := 135) (v := 1) B d_Book_together_135 (by decide) ?_
        refine mv_isub (pc := 136) B d_Book_together_136 ?_
        refine mv_putI (pc := 137) (ci := 12) (C := R_Book) (T := F_Book) (N := 65) B 8 rfl rfl (by decide) i_Book t_Book_ok n_Book (B.2.2.2.1 _ k_1851) rfl rfl rfl rfl d_Book_together_137 ?_
        refine mv_gen (fun S140 eS140 => ?_)
        have hS := hS.dep hS.P.dn
        rw [← eS140] at hS
        clear eS140
        have j157 : ∀ (τ : mv_H) (s9 : Int32) (k9 : Int32) (hT : FT 108 S140 τ), mv_V p l e ({ frames := 14 * f + 10, cells := 0, slots := 0, locals := 500 * f + 400 }) s m ([.ref (al 108)] : List Value).toArray below meth c (mg dA D al ext) 7 0 0 (mv_Q (mg dA D al ext) below s 0 0 (mv_Ui (XO 108 len th d n a1 (10 * f) σ) ("MachineLoomModel$Book$Wrong", al 141) (BF 108 σ))) τ 157 [(0, .ref (al 108)), (2, .int s9), (3, .int v22), (5, .int k9)] [] := by
          intro τ s9 k9 hT
          have hS := hS.ft hT
          refine mv_aload_n (pc := 157) B d_Book_together_157 rfl 0 rfl ?_
          refine mv_bipush (pc := 158) (v := 10) B d_Book_together_158 (by decide) ?_
          refine mv_iload_n (pc := 160) B d_Book_together_160 rfl 2 rfl ?_
          refine mv_iconst (pc := 161) (v := 0) B d_Book_together_161 (by decide) ?_
          refine mv_iconst (pc := 162) (v := 0) B d_Book_together_162 (by decide) ?_
          refine mv_iload (pc := 163) B d_Book_together_163 3 rfl ?_
          refine mv_if_eq (pc := 165) (tgt := 178) B d_Book_together_165 rfl (fun h165 => ?_) (fun h165 => ?_)
          · skip
            refine mv_iconst (pc := 178) (v := 0) B d_Book_together_178 (by decide) ?_
            refine mv_callVi (pc := 179) (n := 5) (ci := 12) (C := R_Book) B (mK_ok sk sv) hNs rfl rfl (c_Book_node_y l hi _ _ _ _ _ _ hS.R (by have := hS.le; omega) (by have := hS.le; omega)) rfl (ma_goodc kc_Book_node) (B.2.2.2.1 _ k_2269) (B.2.2.2.1 _ k_2271) (B.2.2.2.1 _ ks_110) (B.2.2.2.1 _ k_13) ⟨by decide +kernel, by decide +kernel, by decide +kernel⟩ rfl d_Book_together_179 rfl (Nat.le_of_ble_eq_true rfl) ⟨by first | decide | (dsimp only; omega), by first | decide | (dsimp only; omega)⟩ ⟨Nat.le_refl _, Nat.le_refl _⟩ ⟨Nat.le_refl _, Nat.le_refl _⟩ (mv_noH hno _) (fun v179 σ179 h179 => ?_)
            obtain ⟨e179, z179⟩ := h179
            have hL179 := hS.le
            have hN := hS.nodeE z179 (lo := n) (R := 10 * f) (by omega) hn0 (fun zz => XR.row (m := n22 - 1) (hS.2.at 0 rfl zz) hS.P.nn (by omega) (by omega) (by omega) (by omega))
            have hv179 : v179.toInt + 1 = ((n8 + 1 : Nat) : Int) := by rw [e179]; omega
            exact mv_iret (pc := 182) B hr rfl d_Book_together_182 (Nat.le_refl _) (Nat.le_refl _) (Or.inl ⟨_, rfl, hN.out hv179 (by omega) 0 rfl (Nat.le_refl _)⟩)
          · skip
            refine mv_iload_n (pc := 168) B d_Book_together_168 rfl 1 rfl ?_
            refine mv_bipush (pc := 169) (v := 64) B d_Book_together_169 (by decide) ?_
            refine mv_icmp_gt (pc := 171) (tgt := 178) B d_Book_together_171 rfl (fun h171 => ?_) (fun h171 => ?_)
            · skip
              refine mv_iconst (pc := 178) (v := 0) B d_Book_together_178 (by decide) ?_
              refine mv_callVi (pc := 179) (n := 5) (ci := 12) (C := R_Book) B (mK_ok sk sv) hNs rfl rfl (c_Book_node_y l hi _ _ _ _ _ _ hS.R (by have := hS.le; omega) (by have := hS.le; omega)) rfl (ma_goodc kc_Book_node) (B.2.2.2.1 _ k_2269) (B.2.2.2.1 _ k_2271) (B.2.2.2.1 _ ks_110) (B.2.2.2.1 _ k_13) ⟨by decide +kernel, by decide +kernel, by decide +kernel⟩ rfl d_Book_together_179 rfl (Nat.le_of_ble_eq_true rfl) ⟨by first | decide | (dsimp only; omega), by first | decide | (dsimp only; omega)⟩ ⟨Nat.le_refl _, Nat.le_refl _⟩ ⟨Nat.le_refl _, Nat.le_refl _⟩ (mv_noH hno _) (fun v179 σ179 h179 => ?_)
              obtain ⟨e179, z179⟩ := h179
              have hL179 := hS.le
              have hN := hS.nodeE z179 (lo := n) (R := 10 * f) (by omega) hn0 (fun zz => XR.row (m := n22 - 1) (hS.2.at 0 rfl zz) hS.P.nn (by omega) (by omega) (by omega) (by omega))
              have hv179 : v179.toInt + 1 = ((n8 + 1 : Nat) : Int) := by rw [e179]; omega
              exact mv_iret (pc := 182) B hr rfl d_Book_together_182 (Nat.le_refl _) (Nat.le_refl _) (Or.inl ⟨_, rfl, hN.out hv179 (by omega) 0 rfl (Nat.le_refl _)⟩)
            · skip
              refine mv_iload_n (pc := 174) B d_Book_together_174 rfl 1 rfl ?_
              refine mv_goto (pc := 175) (tgt := 179) B d_Book_together_175 rfl ?_
              refine mv_callVi (pc := 179) (n := 5) (ci := 12) (C := R_Book) B (mK_ok sk sv) hNs rfl rfl (c_Book_node_y l hi _ _ _ _ _ _ hS.R (by have := hS.le; omega) (by have := hS.le; omega)) rfl (ma_goodc kc_Book_node) (B.2.2.2.1 _ k_2269) (B.2.2.2.1 _ k_2271) (B.2.2.2.1 _ ks_110) (B.2.2.2.1 _ k_13) ⟨by decide +kernel, by decide +kernel, by decide +kernel⟩ rfl d_Book_together_179 rfl (Nat.le_of_ble_eq_true rfl) ⟨by first | decide | (dsimp only; omega), by first | decide | (dsimp only; omega)⟩ ⟨Nat.le_refl _, Nat.le_refl _⟩ ⟨Nat.le_refl _, Nat.le_refl _⟩ (mv_noH hno _) (fun v179 σ179 h179 => ?_)
              obtain ⟨e179, z179⟩ := h179
              have hL179 := hS.le
              have hN := hS.nodeE z179 (lo := n) (R := 10 * f) (by omega) hn0 (fun zz => XR.row (m := n22 - 1) (hS.2.at 0 rfl zz) hS.P.nn (by omega) (by omega) (by omega) (by omega))
              have hv179 : v179.toInt + 1 = ((n8 + 1 : Nat) : Int) := by rw [e179]; omega
              exact mv_iret (pc := 182) B hr rfl d_Book_together_182 (Nat.le_refl _) (Nat.le_refl _) (Or.inl ⟨_, rfl, hN.out hv179 (by omega) 0 rfl (Nat.le_refl _)⟩)
        refine mv_iload (pc := 140) B d_Book_together_140 2 rfl ?_
        refine mv_if_eq (pc := 142) (tgt := 157) B d_Book_together_142 rfl (fun h142 => ?_) (fun h142 => ?_)
        · skip
          refine mv_lpick [5, 1, 4, 2] rfl ?_
          exact j157 _ _ _ (by first | exact FT.rf | exact FT.rf.of h154)
        · skip
          refine mv_iload_n (pc := 145) B d_Book_together_145 rfl 1 rfl ?_
          refine mv_bipush (pc := 146) (v := 64) B d_Book_together_146 (by decide) ?_
          refine mv_icmp_le (pc := 148) (tgt := 157) B d_Book_together_148 rfl (fun h148 => ?_) (fun h148 => ?_)
          · skip
            refine mv_lpick [5, 1, 4, 2] rfl ?_
            exact j157 _ _ _ (by first | exact FT.rf | exact FT.rf.of h154)
          · skip
            refine mv_aload_n (pc := 151) B d_Book_together_151 rfl 5 rfl ?_
            refine mv_iconst (pc := 152) (v := 4) B d_Book_together_152 (by decide) ?_
            refine mv_iload_n (pc := 153) B d_Book_together_153 rfl 3 rfl ?_
            refine mv_callVv (pc := 154) (n := 2) (ci := 12) (C := R_Book) B (mK_ok sk sv) hNs rfl rfl (c_Book_fault_y l hi _ _ _ (by decide)) rfl (ma_goodc kc_Book_fault) (B.2.2.2.1 _ k_2185) (B.2.2.2.1 _ k_2187) (B.2.2.2.1 _ ks_92) (B.2.2.2.1 _ k_13) ⟨by decide +kernel, by decide +kernel, by decide +kernel⟩ rfl d_Book_together_154 rfl (Nat.le_of_ble_eq_true rfl) ⟨by first | decide | (dsimp only; omega), by first | decide | (dsimp only; omega)⟩ ⟨Nat.le_refl _, Nat.le_refl _⟩ ⟨Nat.le_refl _, Nat.le_refl _⟩ (mv_noH hno _) (fun σ154 h154 => ?_)
            refine mv_lpick [5, 1, 4, 2] rfl ?_
            exact j157 _ _ _ (by first | exact FT.rf | exact FT.rf.of h154)
      · skip
        refine mv_aload_n (pc := 61) B d_Book_together_61 rfl 5 rfl ?_
        refine mv_callVUv (pc := 62) (n := 0) (ci := 12) (C := R_Book) B (mK_ok sk sv) hNs rfl rfl (c_Book_pass_y l hi _ len _ _ hS.P.1) rfl (ma_goodc kc_Book_pass) (B.2.2.2.1 _ k_2173) (B.2.2.2.1 _ k_2175) (B.2.2.2.1 _ ks_90) (B.2.2.2.1 _ k_13) ⟨by decide +kernel, by decide +kernel, by decide +kernel⟩ rfl d_Book_together_62 rfl (Nat.le_of_ble_eq_true rfl) ⟨by first | decide | (dsimp only; omega), by first | decide | (dsimp only; omega)⟩ ⟨Nat.le_refl _, Nat.le_refl _⟩ ⟨Nat.le_refl _, Nat.le_refl _⟩ (mv_noH hno _) (fun τ9 g9 => Or.inr ⟨rfl, hS.1.2.1.bf.tr g9.bf⟩) (fun σ62 h62 => ?_)
        have hL62 := hS.le
        have w62 := hS.P.w (by rw [h58]; decide)
        obtain ⟨d62, t62, u62, q62, g62⟩ := h62
        rw [hS.P.2.1] at d62
        have hL0 := hS.le
        have hS := hS.pass q62 g62
        refine mv_aload_n (pc := 65) B d_Book_together_65 rfl 5 rfl ?_
        refine mv_callVUi (pc := 66) (n := 0) (ci := 12) (C := R_Book) B (mK_ok sk sv) hNs rfl rfl (ihE (f - 1) (by omega) _ len th _ _ _ _ (by omega) hS.P) rfl (ma_goodc kc_Book_expression) (B.2.2.2.1 _ k_2245) (B.2.2.2.1 _ k_2247) (B.2.2.2.1 _ ks_104) (B.2.2.2.1 _ k_13) ⟨by decide +kernel, by decide +kernel, by decide +kernel⟩ rfl d_Book_together_66 rfl (Nat.le_of_ble_eq_true rfl) ⟨by first | decide | (dsimp only; omega), by first | decide | (dsimp only; omega)⟩ ⟨Nat.le_refl _, Nat.le_refl _⟩ ⟨Nat.le_refl _, Nat.le_refl _⟩ (mv_noH hno _) (fun τ9 g9 => Or.inr ⟨rfl, hS.1.2.1.bf.tr g9⟩) (fun v66 σ66 h66 => ?_)
        obtain ⟨n66, t66, u66, s66, m66, r66, x66⟩ := h66
        have i66 := s66.2.2.2.1
        have hS := hS.sub s66 x66
        have hL66 := hS.le
        have hb66 : vp_in v66 33000 := i32_in (by omega) (by omega)
        refine mv_istore (pc := 69) B d_Book_together_69 (by decide) rfl ?_
        refine mv_aload_n (pc := 71) B d_Book_together_71 rfl 6 rfl ?_
        refine mv_getR (pc := 72) (ci := 12) (C := R_Book) (T := F_Book) (N := 65) B 44 rfl rfl (by decide) i_Book (B.2.2.2.1 _ k_1893) rfl (hS.R.1 _ 44 _ rfl) d_Book_together_72 ?_
        refine mv_iload (pc := 75) B d_Book_together_75 1 rfl ?_
        refine mv_iload (pc := 77) B d_Book_together_77 0 rfl ?_
        refine mv_iast (pc := 79) B rfl (i32_in (by omega) (by omega)) d_Book_together_79 ?_
        refine mv_gen (fun S80 eS80 => ?_)
        have hcl := i32_cl (x := x8) (by omega)
        have hS := hS.link (by omega) m66 (k := x8.toNatClampNeg) (by omega) r66 (by omega)
        rw [← eS80] at hS
        clear eS80
        have j101 : ∀ (p9 : Int32) (s9 : Int32) (k9 : Int32) (b9 : Int32) , mv_V p l e ({ frames := 14 * f + 10, cells := 0, slots := 0, locals := 500 * f + 400 }) s m ([.ref (al 108)] : List Value).toArray below meth c (mg dA D al ext) 7 0 0 (mv_Q (mg dA D al ext) below s 0 0 (mv_Ui (XO 108 len th d n a1 (10 * f) σ) ("MachineLoomModel$Book$Wrong", al 141) (BF 108 σ))) S80 101 [(6, .int v66), (4, .int v66), (2, .int s9), (1, .int p9), (3, .int v22), (0, .ref (al 108))] [.int b9, .int k9] := by
          intro p9 s9 k9 b9
          refine mv_iand (pc := 101) B d_Book_together_101 ?_
          refine mv_istore (pc := 102) B d_Book_together_102 (by decide) rfl ?_
          refine mv_iload_n (pc := 104) B d_Book_together_104 rfl 3 rfl ?_
          refine mv_sipush (pc := 105) (v := 1000) B d_Book_together_105 (by decide) ?_
          refine mv_icmp_ge (pc := 108) (tgt := 121) B d_Book_together_108 rfl (fun h108 => ?_) (fun h108 => ?_)
          · skip
            refine mv_goto (pc := 121) (tgt := 52) B d_Book_together_121 rfl ?_
            refine mv_lpick [2, 3, 0, 4, 5, 6] rfl ?_
            exact ih _ _ _ _ _ _ _ _ hS (by omega) r66 (by omega) (by omega)
          · skip
            refine mv_iload_n (pc := 111) B d_Book_together_111 rfl 3 rfl ?_
            refine mv_aload_n (pc := 112) B d_Book_together_112 rfl 6 rfl ?_
            refine mv_getR (pc := 113) (ci := 12) (C := R_Book) (T := F_Book) (N := 65) B 45 rfl rfl (by decide) i_Book (B.2.2.2.1 _ k_1894) rfl (hS.R.1 _ 45 _ rfl) d_Book_together_113 ?_
            refine mv_iload (pc := 116) B d_Book_together_116 1 rfl ?_
            refine mv_iald (pc := 118) B rfl hb66 d_Book_together_118 ?_
            refine mv_iadd (pc := 119) B d_Book_together_119 ?_
            refine mv_istore_n (pc := 120) B d_Book_together_120 rfl (by decide) rfl ?_
            refine mv_goto (pc := 121) (tgt := 52) B d_Book_together_121 rfl ?_
            refine mv_lpick [3, 0, 1, 4, 5, 6] rfl ?_
            exact ih _ _ _ _ _ _ _ _ hS (by omega) r66 (by omega) (by omega)
        refine mv_iload (pc := 80) B d_Book_together_80 0 rfl ?_
        refine mv_istore (pc := 82) B d_Book_together_82 (by decide) rfl ?_
        refine mv_iload (pc := 84) B d_Book_together_84 3 rfl ?_
        refine mv_aload_n (pc := 86) B d_Book_together_86 rfl 6 rfl ?_
        refine mv_getR (pc := 87) (ci := 12) (C := R_Book) (T := F_Book) (N := 65) B 45 rfl rfl (by decide) i_Book (B.2.2.2.1 _ k_1894) rfl (hS.R.1 _ 45 _ rfl) d_Book_together_87 ?_
        refine mv_iload (pc := 90) B d_Book_together_90 1 rfl ?_
        refine mv_iald (pc := 92) B rfl hb66 d_Book_together_92 ?_
        refine mv_if_le (pc := 93) (tgt := 100) B d_Book_together_93 rfl (fun h93 => ?_) (fun h93 => ?_)
        · skip
          refine mv_iconst (pc := 100) (v := 0) B d_Book_together_100 (by decide) ?_
          refine mv_lpick [1, 0, 2, 4, 5, 6] rfl ?_
          exact j101 _ _ _ _
        · skip
          refine mv_iconst (pc := 96) (v := 1) B d_Book_together_96 (by decide) ?_
          refine mv_goto (pc := 97) (tgt := 101) B d_Book_together_97 rfl ?_
          refine mv_lpick [1, 0, 2, 4, 5, 6] rfl ?_
          exact j101 _ _ _ _
  have j43 : ∀ (p9 : Int32) (s9 : Int32) (k9 : Int32) , mv_V p l e ({ frames := 14 * f + 10, cells := 0, slots := 0, locals := 500 * f + 400 }) s m ([.ref (al 108)] : List Value).toArray below meth c (mg dA D al ext) 7 0 0 (mv_Q (mg dA D al ext) below s 0 0 (mv_Ui (XO 108 len th d n a1 (10 * f) σ) ("MachineLoomModel$Book$Wrong", al 141) (BF 108 σ))) σ22 43 [(4, .int v22), (3, .int v22), (2, .int s9), (1, .int p9), (0, .ref (al 108))] [.int k9] := by
    intro p9 s9 k9
    refine mv_istore (pc := 43) B d_Book_together_43 (by decide) rfl ?_
    refine mv_aload_n (pc := 45) B d_Book_together_45 rfl 5 rfl ?_
    refine mv_getR (pc := 46) (ci := 12) (C := R_Book) (T := F_Book) (N := 65) B 45 rfl rfl (by decide) i_Book (B.2.2.2.1 _ k_1894) rfl (hS.R.1 _ 45 _ rfl) d_Book_together_46 ?_
    refine mv_iload_n (pc := 49) B d_Book_together_49 rfl 2 rfl ?_
    refine mv_iald (pc := 50) B rfl hb22 d_Book_together_50 ?_
    refine mv_istore_n (pc := 51) B d_Book_together_51 rfl (by decide) rfl ?_
    refine mv_lpick [2, 0, 1, 4, 3, 5] rfl ?_
    exact lp _ _ _ _ _ _ _ _ _ hS (Nat.le_refl _) r22 (Nat.le_refl _) (Nat.lt_succ_self _)
  refine mv_iload_n (pc := 26) B d_Book_together_26 rfl 0 rfl ?_
  refine mv_istore (pc := 27) B d_Book_together_27 (by decide) rfl ?_
  refine mv_aload_n (pc := 29) B d_Book_together_29 rfl 4 rfl ?_
  refine mv_getR (pc := 30) (ci := 12) (C := R_Book) (T := F_Book) (N := 65) B 45 rfl rfl (by decide) i_Book (B.2.2.2.1 _ k_1894) rfl (hS.R.1 _ 45 _ rfl) d_Book_together_30 ?_
  refine mv_iload_n (pc := 33) B d_Book_together_33 rfl 1 rfl ?_
  refine mv_iald (pc := 34) B rfl hb22 d_Book_together_34 ?_
  refine mv_if_le (pc := 35) (tgt := 42) B d_Book_together_35 rfl (fun h35 => ?_) (fun h35 => ?_)
  · skip
    refine mv_iconst (pc := 42) (v := 0) B d_Book_together_42 (by decide) ?_
    refine mv_lpick [0, 1, 2, 3, 4] rfl ?_
    exact j43 _ _ _
  · skip
    refine mv_iconst (pc := 38) (v := 1) B d_Book_together_38 (by decide) ?_
    refine mv_goto (pc := 39) (tgt := 43) B d_Book_together_39 rfl ?_
    refine mv_lpick [0, 1, 2, 3, 4] rfl ?_
    exact j43 _ _ _
def y_Book_primary : MethodName := ⟨"MachineLoomModel$Book", "primary", "()I"⟩
abbrev b_Book_primary : ByteArray := prog_15_method_41_code
theorem kc_Book_primary : Cond.code y_Book_primary b_Book_primary 2 (Option.some Jvm.ClassFile.FieldType.int) ∈ ma := ma_of (tb_10 _ (List.mem_of_getElem? (i := 104) rfl)) rfl
theorem k_2301 : (Jvm.Cond.methodLink "MachineLoomModel$Book" (347 : Nat) ({ cls := "MachineLoomModel$Book", name := "named", desc := "()I" } : Jvm.MethodName)) ∈ ma := ma_of (tb_10 _ (List.mem_of_getElem? (i := 141) rfl)) rfl
theorem k_2303 : (Jvm.Cond.instanceMethod ({ cls := "MachineLoomModel$Book", name := "named", desc := "()I" } : Jvm.MethodName)) ∈ ma := ma_of (tb_10 _ (List.mem_of_getElem? (i := 143) rfl)) rfl
theorem ks_115 : Cond.selects "MachineLoomModel$Book" ⟨"MachineLoomModel$Book", "named", "()I"⟩ ⟨"MachineLoomModel$Book", "named", "()I"⟩ ∈ ma := ma_sel 115 rfl rfl
theorem k_2284 : (Jvm.Cond.methodLink "MachineLoomModel$Book" (334 : Nat) ({ cls := "MachineLoomModel$Book", name := "called", desc := "(I)I" } : Jvm.MethodName)) ∈ ma := ma_of (tb_10 _ (List.mem_of_getElem? (i := 124) rfl)) rfl
theorem k_2286 : (Jvm.Cond.instanceMethod ({ cls := "MachineLoomModel$Book", name := "called", desc := "(I)I" } : Jvm.MethodName)) ∈ ma := ma_of (tb_10 _ (List.mem_of_getElem? (i := 126) rfl)) rfl
theorem ks_113 : Cond.selects "MachineLoomModel$Book" ⟨"MachineLoomModel$Book", "called", "(I)I"⟩ ⟨"MachineLoomModel$Book", "called", "(I)I"⟩ ∈ ma := ma_sel 113 rfl rfl
theorem k_2278 : (Jvm.Cond.methodLink "MachineLoomModel$Book" (326 : Nat) ({ cls := "MachineLoomModel$Book", name := "wider", desc := "(Z)I" } : Jvm.MethodName)) ∈ ma := ma_of (tb_10 _ (List.mem_of_getElem? (i := 118) rfl)) rfl
theorem k_2280 : (Jvm.Cond.instanceMethod ({ cls := "MachineLoomModel$Book", name := "wider", desc := "(Z)I" } : Jvm.MethodName)) ∈ ma := ma_of (tb_10 _ (List.mem_of_getElem? (i := 120) rfl)) rfl
theorem ks_112 : Cond.selects "MachineLoomModel$Book" ⟨"MachineLoomModel$Book", "wider", "(Z)I"⟩ ⟨"MachineLoomModel$Book", "wider", "(Z)I"⟩ ∈ ma := ma_sel 112 rfl rfl
theorem k_2273 : (Jvm.Cond.methodLink "MachineLoomModel$Book" (321 : Nat) ({ cls := "MachineLoomModel$Book", name := "together", desc := "()I" } : Jvm.MethodName)) ∈ ma := ma_of (tb_10 _ (List.mem_of_getElem? (i := 113) rfl)) rfl
theorem k_2275 : (Jvm.Cond.instanceMethod ({ cls := "MachineLoomModel$Book", name := "together", desc := "()I" } : Jvm.MethodName)) ∈ ma := ma_of (tb_10 _ (List.mem_of_getElem? (i := 115) rfl)) rfl
theorem ks_111 : Cond.selects "MachineLoomModel$Book" ⟨"MachineLoomModel$Book", "together", "()I"⟩ ⟨"MachineLoomModel$Book", "together", "()I"⟩ ∈ ma := ma_sel 111 rfl rfl
theorem k_2265 : (Jvm.Cond.methodLink "MachineLoomModel$Book" (318 : Nat) ({ cls := "MachineLoomModel$Book", name := "literal", desc := "()I" } : Jvm.MethodName)) ∈ ma := ma_of (tb_10 _ (List.mem_of_getElem? (i := 105) rfl)) rfl
theorem k_2267 : (Jvm.Cond.instanceMethod ({ cls := "MachineLoomModel$Book", name := "literal", desc := "()I" } : Jvm.MethodName)) ∈ ma := ma_of (tb_10 _ (List.mem_of_getElem? (i := 107) rfl)) rfl
theorem ks_109 : Cond.selects "MachineLoomModel$Book" ⟨"MachineLoomModel$Book", "literal", "()I"⟩ ⟨"MachineLoomModel$Book", "literal", "()I"⟩ ∈ ma := ma_sel 109 rfl rfl
theorem d_Book_primary_0 : decode b_Book_primary 0 = .ok (.aload_n 0, 1) := by decide +kernel
theorem d_Book_primary_1 : decode b_Book_primary 1 = .ok (.getfield 151, 3) := by decide +kernel
theorem d_Book_primary_4 : decode b_Book_primary 4 = .ok (.iconst 2, 1) := by decide +kernel
theorem d_Book_primary_5 : decode b_Book_primary 5 = .ok (.if_icmp .ne (8), 3) := by decide +kernel
theorem d_Book_primary_8 : decode b_Book_primary 8 = .ok (.aload_n 0, 1) := by decide +kernel
theorem d_Book_primary_9 : decode b_Book_primary 9 = .ok (.invokevirtual 318, 3) := by decide +kernel
theorem d_Book_primary_12 : decode b_Book_primary 12 = .ok (.ireturn, 1) := by decide +kernel
theorem d_Book_primary_13 : decode b_Book_primary 13 = .ok (.aload_n 0, 1) := by decide +kernel
theorem d_Book_primary_14 : decode b_Book_primary 14 = .ok (.getfield 151, 3) := by decide +kernel
theorem d_Book_primary_17 : decode b_Book_primary 17 = .ok (.bipush 40, 2) := by decide +kernel
theorem d_Book_primary_19 : decode b_Book_primary 19 = .ok (.if_icmp .ne (40), 3) := by decide +kernel
theorem d_Book_primary_22 : decode b_Book_primary 22 = .ok (.aload_n 0, 1) := by decide +kernel
theorem d_Book_primary_23 : decode b_Book_primary 23 = .ok (.invokevirtual 203, 3) := by decide +kernel
theorem d_Book_primary_26 : decode b_Book_primary 26 = .ok (.aload_n 0, 1) := by decide +kernel
theorem d_Book_primary_27 : decode b_Book_primary 27 = .ok (.dup, 1) := by decide +kernel
theorem d_Book_primary_28 : decode b_Book_primary 28 = .ok (.getfield 197, 3) := by decide +kernel
theorem d_Book_primary_31 : decode b_Book_primary 31 = .ok (.iconst 1, 1) := by decide +kernel
theorem d_Book_primary_32 : decode b_Book_primary 32 = .ok (.iadd, 1) := by decide +kernel
theorem d_Book_primary_33 : decode b_Book_primary 33 = .ok (.putfield 197, 3) := by decide +kernel
theorem d_Book_primary_36 : decode b_Book_primary 36 = .ok (.aload_n 0, 1) := by decide +kernel
theorem d_Book_primary_37 : decode b_Book_primary 37 = .ok (.invokevirtual 256, 3) := by decide +kernel
theorem d_Book_primary_40 : decode b_Book_primary 40 = .ok (.istore_n 1, 1) := by decide +kernel
theorem d_Book_primary_41 : decode b_Book_primary 41 = .ok (.aload_n 0, 1) := by decide +kernel
theorem d_Book_primary_42 : decode b_Book_primary 42 = .ok (.bipush 41, 2) := by decide +kernel
theorem d_Book_primary_44 : decode b_Book_primary 44 = .ok (.invokevirtual 259, 3) := by decide +kernel
theorem d_Book_primary_47 : decode b_Book_primary 47 = .ok (.aload_n 0, 1) := by decide +kernel
theorem d_Book_primary_48 : decode b_Book_primary 48 = .ok (.dup, 1) := by decide +kernel
theorem d_Book_primary_49 : decode b_Book_primary 49 = .ok (.getfield 197, 3) := by decide +kernel
theorem d_Book_primary_52 : decode b_Book_primary 52 = .ok (.iconst 1, 1) := by decide +kernel
theorem d_Book_primary_53 : decode b_Book_primary 53 = .ok (.isub, 1) := by decide +kernel
theorem d_Book_primary_54 : decode b_Book_primary 54 = .ok (.putfield 197, 3) := by decide +kernel
theorem d_Book_primary_57 : decode b_Book_primary 57 = .ok (.iload_n 1, 1) := by decide +kernel
theorem d_Book_primary_58 : decode b_Book_primary 58 = .ok (.ireturn, 1) := by decide +kernel
theorem d_Book_primary_59 : decode b_Book_primary 59 = .ok (.aload_n 0, 1) := by decide +kernel
theorem d_Book_primary_60 : decode b_Book_primary 60 = .ok (.getfield 151, 3) := by decide +kernel
theorem d_Book_primary_63 : decode b_Book_primary 63 = .ok (.bipush 123, 2) := by decide +kernel
theorem d_Book_primary_65 : decode b_Book_primary 65 = .ok (.if_icmp .ne (8), 3) := by decide +kernel
theorem d_Book_primary_68 : decode b_Book_primary 68 = .ok (.aload_n 0, 1) := by decide +kernel
theorem d_Book_primary_69 : decode b_Book_primary 69 = .ok (.invokevirtual 321, 3) := by decide +kernel
theorem d_Book_primary_72 : decode b_Book_primary 72 = .ok (.ireturn, 1) := by decide +kernel
theorem d_Book_primary_73 : decode b_Book_primary 73 = .ok (.aload_n 0, 1) := by decide +kernel
theorem d_Book_primary_74 : decode b_Book_primary 74 = .ok (.ldc_w 324, 3) := by decide +kernel
theorem d_Book_primary_77 : decode b_Book_primary 77 = .ok (.invokevirtual 219, 3) := by decide +kernel
theorem d_Book_primary_80 : decode b_Book_primary 80 = .ok (.ifCond .eq (9), 3) := by decide +kernel
theorem d_Book_primary_83 : decode b_Book_primary 83 = .ok (.aload_n 0, 1) := by decide +kernel
theorem d_Book_primary_84 : decode b_Book_primary 84 = .ok (.iconst 1, 1) := by decide +kernel
theorem d_Book_primary_85 : decode b_Book_primary 85 = .ok (.invokevirtual 326, 3) := by decide +kernel
theorem d_Book_primary_88 : decode b_Book_primary 88 = .ok (.ireturn, 1) := by decide +kernel
theorem d_Book_primary_89 : decode b_Book_primary 89 = .ok (.aload_n 0, 1) := by decide +kernel
theorem d_Book_primary_90 : decode b_Book_primary 90 = .ok (.ldc_w 330, 3) := by decide +kernel
theorem d_Book_primary_93 : decode b_Book_primary 93 = .ok (.invokevirtual 219, 3) := by decide +kernel
theorem d_Book_primary_96 : decode b_Book_primary 96 = .ok (.ifCond .eq (9), 3) := by decide +kernel
theorem d_Book_primary_99 : decode b_Book_primary 99 = .ok (.aload_n 0, 1) := by decide +kernel
theorem d_Book_primary_100 : decode b_Book_primary 100 = .ok (.iconst 0, 1) := by decide +kernel
theorem d_Book_primary_101 : decode b_Book_primary 101 = .ok (.invokevirtual 326, 3) := by decide +kernel
theorem d_Book_primary_104 : decode b_Book_primary 104 = .ok (.ireturn, 1) := by decide +kernel
theorem d_Book_primary_105 : decode b_Book_primary 105 = .ok (.aload_n 0, 1) := by decide +kernel
theorem d_Book_primary_106 : decode b_Book_primary 106 = .ok (.ldc_w 332, 3) := by decide +kernel
theorem d_Book_primary_109 : decode b_Book_primary 109 = .ok (.invokevirtual 219, 3) := by decide +kernel
theorem d_Book_primary_112 : decode b_Book_primary 112 = .ok (.ifCond .eq (11), 3) := by decide +kernel
theorem d_Book_primary_115 : decode b_Book_primary 115 = .ok (.aload_n 0, 1) := by decide +kernel
theorem d_Book_primary_116 : decode b_Book_primary 116 = .ok (.sipush 1000, 3) := by decide +kernel
theorem d_Book_primary_119 : decode b_Book_primary 119 = .ok (.invokevirtual 334, 3) := by decide +kernel
theorem d_Book_primary_122 : decode b_Book_primary 122 = .ok (.ireturn, 1) := by decide +kernel
theorem d_Book_primary_123 : decode b_Book_primary 123 = .ok (.aload_n 0, 1) := by decide +kernel
theorem d_Book_primary_124 : decode b_Book_primary 124 = .ok (.ldc_w 337, 3) := by decide +kernel
theorem d_Book_primary_127 : decode b_Book_primary 127 = .ok (.invokevirtual 219, 3) := by decide +kernel
theorem d_Book_primary_130 : decode b_Book_primary 130 = .ok (.ifCond .eq (11), 3) := by decide +kernel
theorem d_Book_primary_133 : decode b_Book_primary 133 = .ok (.aload_n 0, 1) := by decide +kernel
theorem d_Book_primary_134 : decode b_Book_primary 134 = .ok (.sipush 1001, 3) := by decide +kernel
theorem d_Book_primary_137 : decode b_Book_primary 137 = .ok (.invokevirtual 334, 3) := by decide +kernel
theorem d_Book_primary_140 : decode b_Book_primary 140 = .ok (.ireturn, 1) := by decide +kernel
theorem d_Book_primary_141 : decode b_Book_primary 141 = .ok (.aload_n 0, 1) := by decide +kernel
theorem d_Book_primary_142 : decode b_Book_primary 142 = .ok (.ldc_w 339, 3) := by decide +kernel
theorem d_Book_primary_145 : decode b_Book_primary 145 = .ok (.invokevirtual 219, 3) := by decide +kernel
theorem d_Book_primary_148 : decode b_Book_primary 148 = .ok (.ifCond .eq (11), 3) := by decide +kernel
theorem d_Book_primary_151 : decode b_Book_primary 151 = .ok (.aload_n 0, 1) := by decide +kernel
theorem d_Book_primary_152 : decode b_Book_primary 152 = .ok (.sipush 1002, 3) := by decide +kernel
theorem d_Book_primary_155 : decode b_Book_primary 155 = .ok (.invokevirtual 334, 3) := by decide +kernel
theorem d_Book_primary_158 : decode b_Book_primary 158 = .ok (.ireturn, 1) := by decide +kernel
theorem d_Book_primary_159 : decode b_Book_primary 159 = .ok (.aload_n 0, 1) := by decide +kernel
theorem d_Book_primary_160 : decode b_Book_primary 160 = .ok (.ldc_w 341, 3) := by decide +kernel
theorem d_Book_primary_163 : decode b_Book_primary 163 = .ok (.invokevirtual 219, 3) := by decide +kernel
theorem d_Book_primary_166 : decode b_Book_primary 166 = .ok (.ifCond .eq (11), 3) := by decide +kernel
theorem d_Book_primary_169 : decode b_Book_primary 169 = .ok (.aload_n 0, 1) := by decide +kernel
theorem d_Book_primary_170 : decode b_Book_primary 170 = .ok (.sipush 1003, 3) := by decide +kernel
theorem d_Book_primary_173 : decode b_Book_primary 173 = .ok (.invokevirtual 334, 3) := by decide +kernel
theorem d_Book_primary_176 : decode b_Book_primary 176 = .ok (.ireturn, 1) := by decide +kernel
theorem d_Book_primary_177 : decode b_Book_primary 177 = .ok (.aload_n 0, 1) := by decide +kernel
theorem d_Book_primary_178 : decode b_Book_primary 178 = .ok (.getfield 151, 3) := by decide +kernel
theorem d_Book_primary_181 : decode b_Book_primary 181 = .ok (.iconst 1, 1) := by decide +kernel
theorem d_Book_primary_182 : decode b_Book_primary 182 = .ok (.if_icmp .ne (10), 3) := by decide +kernel
theorem d_Book_primary_185 : decode b_Book_primary 185 = .ok (.aload_n 0, 1) := by decide +kernel
theorem d_Book_primary_186 : decode b_Book_primary 186 = .ok (.invokevirtual 343, 3) := by decide +kernel
theorem d_Book_primary_189 : decode b_Book_primary 189 = .ok (.ifCond .eq (12), 3) := by decide +kernel
theorem d_Book_primary_192 : decode b_Book_primary 192 = .ok (.aload_n 0, 1) := by decide +kernel
theorem d_Book_primary_193 : decode b_Book_primary 193 = .ok (.aload_n 0, 1) := by decide +kernel
theorem d_Book_primary_194 : decode b_Book_primary 194 = .ok (.getfield 174, 3) := by decide +kernel
theorem d_Book_primary_197 : decode b_Book_primary 197 = .ok (.invokevirtual 193, 3) := by decide +kernel
theorem d_Book_primary_200 : decode b_Book_primary 200 = .ok (.athrow, 1) := by decide +kernel
theorem d_Book_primary_201 : decode b_Book_primary 201 = .ok (.aload_n 0, 1) := by decide +kernel
theorem d_Book_primary_202 : decode b_Book_primary 202 = .ok (.invokevirtual 347, 3) := by decide +kernel
theorem d_Book_primary_205 : decode b_Book_primary 205 = .ok (.ireturn, 1) := by decide +kernel
set_option maxHeartbeats 4000000 in
set_option maxRecDepth 100000 in
theorem c_Book_primary_x (l : Launch) {dA : FieldType → ClassId} {D : va_G} {al : Nat → Nat} {ext : mv_Sh} {sk sv : Nat → Nat} (hi : mv_inj (mg dA D al ext)) (σ : mv_H) (f len th d n a1 a2 : Nat) (hf : d + f = 61) (hP : PS 74 len th d n a1 a2 σ) (ihE : ∀ g, g + 1 = f → XE l dA D al ext sk sv 74 g) : mv_C l y_Book_primary (Cond.code y_Book_primary b_Book_primary 2 (Option.some Jvm.ClassFile.FieldType.int) :: ma) ({ frames := 14 * f + 11, cells := 0, slots := 0, locals := 500 * f + 450 }) (mg dA D al ext) (mK sk sv) [.ref (al 74)] σ (mv_Ui (XO 74 len th d n a1 (10 * f) σ) ("MachineLoomModel$Book$Wrong", al 107) (BF 74 σ)) := by
  refine mv_C.ofV (cc := b_Book_primary) (nL := 2) (ret := (Option.some Jvm.ClassFile.FieldType.int)) (by decide +kernel) rfl hi (Nat.le_of_ble_eq_true rfl) ?_
  intro p e s m below meth c B hNs hr hnm hno
  have hS := XT.rf hP
  have hn0 := hP.le.1
  have j192 : mv_V p l e ({ frames := 14 * f + 11, cells := 0, slots := 0, locals := 500 * f + 450 }) s m ([.ref (al 74)] : List Value).toArray below meth c (mg dA D al ext) 2 0 0 (mv_Q (mg dA D al ext) below s 0 0 (mv_Ui (XO 74 len th d n a1 (10 * f) σ) ("MachineLoomModel$Book$Wrong", al 107) (BF 74 σ))) σ 192 [(0, .ref (al 74))] [] := by
    refine mv_aload_n (pc := 192) B d_Book_primary_192 rfl 0 rfl ?_
    refine mv_aload_n (pc := 193) B d_Book_primary_193 rfl 0 rfl ?_
    refine mv_getI (pc := 194) (ci := 12) (C := R_Book) (T := F_Book) (N := 65) B 5 rfl rfl (by decide) i_Book (B.2.2.2.1 _ k_1848) rfl d_Book_primary_194 ?_
    refine mv_callVr (pc := 197) (n := 1) (ci := 12) (C := R_Book) B (mK_ok sk sv) hNs rfl rfl (c_Book_wrongAt_x l hi _ _ hS.R) rfl (ma_goodc kc_Book_wrongAt) (B.2.2.2.1 _ k_2154) (B.2.2.2.1 _ k_2156) (B.2.2.2.1 _ ks_86) (B.2.2.2.1 _ k_13) ⟨by decide +kernel, by decide +kernel, by decide +kernel⟩ rfl d_Book_primary_197 rfl (Nat.le_of_ble_eq_true rfl) ⟨by first | decide | (dsimp only; omega), by first | decide | (dsimp only; omega)⟩ ⟨Nat.le_refl _, Nat.le_refl _⟩ ⟨Nat.le_refl _, Nat.le_refl _⟩ (mv_noH hno _) (fun σ197 h197 => ?_)
    obtain ⟨g197, -⟩ := h197
    exact mv_athrowO (pc := 200) (o := 107) B rfl rfl (mv_noH hno _) d_Book_primary_200 (Nat.le_refl _) (Nat.le_refl _) (Or.inr ⟨rfl, g197.bf⟩)
  refine mv_aload_n (pc := 0) B d_Book_primary_0 rfl 0 rfl ?_
  refine mv_getI (pc := 1) (ci := 12) (C := R_Book) (T := F_Book) (N := 65) B 4 rfl rfl (by decide) i_Book (B.2.2.2.1 _ k_1847) rfl d_Book_primary_1 ?_
  refine mv_iconst (pc := 4) (v := 2) B d_Book_primary_4 (by decide) ?_
  refine mv_icmp_ne (pc := 5) (tgt := 13) B d_Book_primary_5 rfl (fun h5 => ?_) (fun h5 => ?_)
  · skip
    refine mv_aload_n (pc := 13) B d_Book_primary_13 rfl 0 rfl ?_
    refine mv_getI (pc := 14) (ci := 12) (C := R_Book) (T := F_Book) (N := 65) B 4 rfl rfl (by decide) i_Book (B.2.2.2.1 _ k_1847) rfl d_Book_primary_14 ?_
    refine mv_bipush (pc := 17) (v := 40) B d_Book_primary_17 (by decide) ?_
    refine mv_icmp_ne (pc := 19) (tgt := 59) B d_Book_primary_19 rfl (fun h19 => ?_) (fun h19 => ?_)
    · skip
      refine mv_aload_n (pc := 59) B d_Book_primary_59 rfl 0 rfl ?_
      refine mv_getI (pc := 60) (ci := 12) (C := R_Book) (T := F_Book) (N := 65) B 4 rfl rfl (by decide) i_Book (B.2.2.2.1 _ k_1847) rfl d_Book_primary_60 ?_
      refine mv_bipush (pc := 63) (v := 123) B d_Book_primary_63 (by decide) ?_
      refine mv_icmp_ne (pc := 65) (tgt := 73) B d_Book_primary_65 rfl (fun h65 => ?_) (fun h65 => ?_)
      · skip
        refine mv_aload_n (pc := 73) B d_Book_primary_73 rfl 0 rfl ?_
        refine mv_ldcwS (pc := 74) B (hNs.2.1 148 (by decide)).1 d_Book_primary_74 ?_
        refine mv_callVi (pc := 77) (n := 1) (ci := 12) (C := R_Book) B (mK_ok sk sv) hNs rfl rfl (c_Book_is_x l hi _ 148 (by decide) len _ _ hS.P.1) rfl (ma_goodc kc_Book_is) (B.2.2.2.1 _ k_2163) (B.2.2.2.1 _ k_2165) (B.2.2.2.1 _ ks_88) (B.2.2.2.1 _ k_13) ⟨by decide +kernel, by decide +kernel, by decide +kernel⟩ rfl d_Book_primary_77 rfl (Nat.le_of_ble_eq_true rfl) ⟨by first | decide | (dsimp only; omega), by first | decide | (dsimp only; omega)⟩ ⟨Nat.le_refl _, Nat.le_refl _⟩ ⟨Nat.le_refl _, Nat.le_refl _⟩ (mv_noH hno _) (fun v77 σ77 h77 => ?_)
        obtain ⟨e77, z77⟩ := h77
        have e77 := e77.symm
        subst e77
        refine mv_if_eq (pc := 80) (tgt := 89) B d_Book_primary_80 rfl (fun h80 => ?_) (fun h80 => ?_)
        · skip
          refine mv_aload_n (pc := 89) B d_Book_primary_89 rfl 0 rfl ?_
          refine mv_ldcwS (pc := 90) B (hNs.2.1 149 (by decide)).1 d_Book_primary_90 ?_
          refine mv_callVi (pc := 93) (n := 1) (ci := 12) (C := R_Book) B (mK_ok sk sv) hNs rfl rfl (c_Book_is_x l hi _ 149 (by decide) len _ _ hS.P.1) rfl (ma_goodc kc_Book_is) (B.2.2.2.1 _ k_2163) (B.2.2.2.1 _ k_2165) (B.2.2.2.1 _ ks_88) (B.2.2.2.1 _ k_13) ⟨by decide +kernel, by decide +kernel, by decide +kernel⟩ rfl d_Book_primary_93 rfl (Nat.le_of_ble_eq_true rfl) ⟨by first | decide | (dsimp only; omega), by first | decide | (dsimp only; omega)⟩ ⟨Nat.le_refl _, Nat.le_refl _⟩ ⟨Nat.le_refl _, Nat.le_refl _⟩ (mv_noH hno _) (fun v93 σ93 h93 => ?_)
          obtain ⟨e93, z93⟩ := h93
          have e93 := e93.symm
          subst e93
          refine mv_if_eq (pc := 96) (tgt := 105) B d_Book_primary_96 rfl (fun h96 => ?_) (fun h96 => ?_)
          · skip
            refine mv_aload_n (pc := 105) B d_Book_primary_105 rfl 0 rfl ?_
            refine mv_ldcwS (pc := 106) B (hNs.2.1 150 (by decide)).1 d_Book_primary_106 ?_
            refine mv_callVi (pc := 109) (n := 1) (ci := 12) (C := R_Book) B (mK_ok sk sv) hNs rfl rfl (c_Book_is_x l hi _ 150 (by decide) len _ _ hS.P.1) rfl (ma_goodc kc_Book_is) (B.2.2.2.1 _ k_2163) (B.2.2.2.1 _ k_2165) (B.2.2.2.1 _ ks_88) (B.2.2.2.1 _ k_13) ⟨by decide +kernel, by decide +kernel, by decide +kernel⟩ rfl d_Book_primary_109 rfl (Nat.le_of_ble_eq_true rfl) ⟨by first | decide | (dsimp only; omega), by first | decide | (dsimp only; omega)⟩ ⟨Nat.le_refl _, Nat.le_refl _⟩ ⟨Nat.le_refl _, Nat.le_refl _⟩ (mv_noH hno _) (fun v109 σ109 h109 => ?_)
            obtain ⟨e109, z109⟩ := h109
            have e109 := e109.symm
            subst e109
            refine mv_if_eq (pc := 112) (tgt := 123) B d_Book_primary_112 rfl (fun h112 => ?_) (fun h112 => ?_)
            · skip
              refine mv_aload_n (pc := 123) B d_Book_primary_123 rfl 0 rfl ?_
              refine mv_ldcwS (pc := 124) B (hNs.2.1 151 (by decide)).1 d_Book_primary_124 ?_
              refine mv_callVi (pc := 127) (n := 1) (ci := 12) (C := R_Book) B (mK_ok sk sv) hNs rfl rfl (c_Book_is_x l hi _ 151 (by decide) len _ _ hS.P.1) rfl (ma_goodc kc_Book_is) (B.2.2.2.1 _ k_2163) (B.2.2.2.1 _ k_2165) (B.2.2.2.1 _ ks_88) (B.2.2.2.1 _ k_13) ⟨by decide +kernel, by decide +kernel, by decide +kernel⟩ rfl d_Book_primary_127 rfl (Nat.le_of_ble_eq_true rfl) ⟨by first | decide | (dsimp only; omega), by first | decide | (dsimp only; omega)⟩ ⟨Nat.le_refl _, Nat.le_refl _⟩ ⟨Nat.le_refl _, Nat.le_refl _⟩ (mv_noH hno _) (fun v127 σ127 h127 => ?_)
              obtain ⟨e127, z127⟩ := h127
              have e127 := e127.symm
              subst e127
              refine mv_if_eq (pc := 130) (tgt := 141) B d_Book_primary_130 rfl (fun h130 => ?_) (fun h130 => ?_)
              · skip
                refine mv_aload_n (pc := 141) B d_Book_primary_141 rfl 0 rfl ?_
                refine mv_ldcwS (pc := 142) B (hNs.2.1 152 (by decide)).1 d_Book_primary_142 ?_
                refine mv_callVi (pc := 145) (n := 1) (ci := 12) (C := R_Book) B (mK_ok sk sv) hNs rfl rfl (c_Book_is_x l hi _ 152 (by decide) len _ _ hS.P.1) rfl (ma_goodc kc_Book_is) (B.2.2.2.1 _ k_2163) (B.2.2.2.1 _ k_2165) (B.2.2.2.1 _ ks_88) (B.2.2.2.1 _ k_13) ⟨by decide +kernel, by decide +kernel, by decide +kernel⟩ rfl d_Book_primary_145 rfl (Nat.le_of_ble_eq_true rfl) ⟨by first | decide | (dsimp only; omega), by first | decide | (dsimp only; omega)⟩ ⟨Nat.le_refl _, Nat.le_refl _⟩ ⟨Nat.le_refl _, Nat.le_refl _⟩ (mv_noH hno _) (fun v145 σ145 h145 => ?_)
                obtain ⟨e145, z145⟩ := h145
                have e145 := e145.symm
                subst e145
                refine mv_if_eq (pc := 148) (tgt := 159) B d_Book_primary_148 rfl (fun h148 => ?_) (fun h148 => ?_)
                · skip
                  refine mv_aload_n (pc := 159) B d_Book_primary_159 rfl 0 rfl ?_
                  refine mv_ldcwS (pc := 160) B (hNs.2.1 153 (by decide)).1 d_Book_primary_160 ?_
                  refine mv_callVi (pc := 163) (n := 1) (ci := 12) (C := R_Book) B (mK_ok sk sv) hNs rfl rfl (c_Book_is_x l hi _ 153 (by decide) len _ _ hS.P.1) rfl (ma_goodc kc_Book_is) (B.2.2.2.1 _ k_2163) (B.2.2.2.1 _ k_2165) (B.2.2.2.1 _ ks_88) (B.2.2.2.1 _ k_13) ⟨by decide +kernel, by decide +kernel, by decide +kernel⟩ rfl d_Book_primary_163 rfl (Nat.le_of_ble_eq_true rfl) ⟨by first | decide | (dsimp only; omega), by first | decide | (dsimp only; omega)⟩ ⟨Nat.le_refl _, Nat.le_refl _⟩ ⟨Nat.le_refl _, Nat.le_refl _⟩ (mv_noH hno _) (fun v163 σ163 h163 => ?_)
                  obtain ⟨e163, z163⟩ := h163
                  have e163 := e163.symm
                  subst e163
                  refine mv_if_eq (pc := 166) (tgt := 177) B d_Book_primary_166 rfl (fun h166 => ?_) (fun h166 => ?_)
                  · skip
                    refine mv_aload_n (pc := 177) B d_Book_primary_177 rfl 0 rfl ?_
                    refine mv_getI (pc := 178) (ci := 12) (C := R_Book) (T := F_Book) (N := 65) B 4 rfl rfl (by decide) i_Book (B.2.2.2.1 _ k_1847) rfl d_Book_primary_178 ?_
                    refine mv_iconst (pc := 181) (v := 1) B d_Book_primary_181 (by decide) ?_
                    refine mv_icmp_ne (pc := 182) (tgt := 192) B d_Book_primary_182 rfl (fun h182 => ?_) (fun h182 => ?_)
                    · skip
                      refine mv_lpick [0] rfl ?_
                      exact j192
                    · skip
                      refine mv_aload_n (pc := 185) B d_Book_primary_185 rfl 0 rfl ?_
                      refine mv_callVi (pc := 186) (n := 0) (ci := 12) (C := R_Book) B (mK_ok sk sv) hNs rfl rfl (c_Book_reserved_x l hi _ len _ _ hS.P.1) rfl (ma_goodc kc_Book_reserved) (B.2.2.2.1 _ k_2198) (B.2.2.2.1 _ k_2200) (B.2.2.2.1 _ ks_95) (B.2.2.2.1 _ k_13) ⟨by decide +kernel, by decide +kernel, by decide +kernel⟩ rfl d_Book_primary_186 rfl (Nat.le_of_ble_eq_true rfl) ⟨by first | decide | (dsimp only; omega), by first | decide | (dsimp only; omega)⟩ ⟨Nat.le_refl _, Nat.le_refl _⟩ ⟨Nat.le_refl _, Nat.le_refl _⟩ (mv_noH hno _) (fun v186 σ186 h186 => ?_)
                      obtain ⟨e186, z186⟩ := h186
                      have e186 := e186.symm
                      subst e186
                      refine mv_if_eq (pc := 189) (tgt := 201) B d_Book_primary_189 rfl (fun h189 => ?_) (fun h189 => ?_)
                      · skip
                        refine mv_aload_n (pc := 201) B d_Book_primary_201 rfl 0 rfl ?_
                        refine mv_callVUi (pc := 202) (n := 0) (ci := 12) (C := R_Book) B (mK_ok sk sv) hNs rfl rfl (c_Book_named_x l hi _ f len th _ _ _ _ hf hS.P h182 ihE) rfl (ma_goodc kc_Book_named) (B.2.2.2.1 _ k_2301) (B.2.2.2.1 _ k_2303) (B.2.2.2.1 _ ks_115) (B.2.2.2.1 _ k_13) ⟨by decide +kernel, by decide +kernel, by decide +kernel⟩ rfl d_Book_primary_202 rfl (Nat.le_of_ble_eq_true rfl) ⟨by first | decide | (dsimp only; omega), by first | decide | (dsimp only; omega)⟩ ⟨Nat.le_refl _, Nat.le_refl _⟩ ⟨Nat.le_refl _, Nat.le_refl _⟩ (mv_noH hno _) (fun τ9 g9 => Or.inr ⟨rfl, hS.1.2.1.bf.tr g9⟩) (fun v202 σ202 h202 => ?_)
                        obtain ⟨n202, t202, u202, s202, m202, r202, x202⟩ := h202
                        have i202 := s202.2.2.2.1
                        have hS := hS.sub s202 x202
                        exact mv_iret (pc := 205) B hr rfl d_Book_primary_205 (Nat.le_refl _) (Nat.le_refl _) (Or.inl ⟨_, rfl, hS.out r202 m202 0 rfl (Nat.le_refl _)⟩)
                      · skip
                        refine mv_lpick [0] rfl ?_
                        exact j192
                  · skip
                    refine mv_aload_n (pc := 169) B d_Book_primary_169 rfl 0 rfl ?_
                    refine mv_sipush (pc := 170) (v := 1003) B d_Book_primary_170 (by decide) ?_
                    refine mv_callVUi (pc := 173) (n := 1) (ci := 12) (C := R_Book) B (mK_ok sk sv) hNs rfl rfl (c_Book_called_x l hi _ f len th _ _ _ _ hf hS.P 1003 (z163.resolve_left h166).2 ihE) rfl (ma_goodc kc_Book_called) (B.2.2.2.1 _ k_2284) (B.2.2.2.1 _ k_2286) (B.2.2.2.1 _ ks_113) (B.2.2.2.1 _ k_13) ⟨by decide +kernel, by decide +kernel, by decide +kernel⟩ rfl d_Book_primary_173 rfl (Nat.le_of_ble_eq_true rfl) ⟨by first | decide | (dsimp only; omega), by first | decide | (dsimp only; omega)⟩ ⟨Nat.le_refl _, Nat.le_refl _⟩ ⟨Nat.le_refl _, Nat.le_refl _⟩ (mv_noH hno _) (fun τ9 g9 => Or.inr ⟨rfl, hS.1.2.1.bf.tr g9⟩) (fun v173 σ173 h173 => ?_)
                    obtain ⟨n173, t173, u173, s173, m173, r173, x173⟩ := h173
                    have i173 := s173.2.2.2.1
                    have hS := hS.sub s173 x173
                    exact mv_iret (pc := 176) B hr rfl d_Book_primary_176 (Nat.le_refl _) (Nat.le_refl _) (Or.inl ⟨_, rfl, hS.out r173 m173 0 rfl (Nat.le_refl _)⟩)
                · skip
                  refine mv_aload_n (pc := 151) B d_Book_primary_151 rfl 0 rfl ?_
                  refine mv_sipush (pc := 152) (v := 1002) B d_Book_primary_152 (by decide) ?_
                  refine mv_callVUi (pc := 155) (n := 1) (ci := 12) (C := R_Book) B (mK_ok sk sv) hNs rfl rfl (c_Book_called_x l hi _ f len th _ _ _ _ hf hS.P 1002 (z145.resolve_left h148).2 ihE) rfl (ma_goodc kc_Book_called) (B.2.2.2.1 _ k_2284) (B.2.2.2.1 _ k_2286) (B.2.2.2.1 _ ks_113) (B.2.2.2.1 _ k_13) ⟨by decide +kernel, by decide +kernel, by decide +kernel⟩ rfl d_Book_primary_155 rfl (Nat.le_of_ble_eq_true rfl) ⟨by first | decide | (dsimp only; omega), by first | decide | (dsimp only; omega)⟩ ⟨Nat.le_refl _, Nat.le_refl _⟩ ⟨Nat.le_refl _, Nat.le_refl _⟩ (mv_noH hno _) (fun τ9 g9 => Or.inr ⟨rfl, hS.1.2.1.bf.tr g9⟩) (fun v155 σ155 h155 => ?_)
                  obtain ⟨n155, t155, u155, s155, m155, r155, x155⟩ := h155
                  have i155 := s155.2.2.2.1
                  have hS := hS.sub s155 x155
                  exact mv_iret (pc := 158) B hr rfl d_Book_primary_158 (Nat.le_refl _) (Nat.le_refl _) (Or.inl ⟨_, rfl, hS.out r155 m155 0 rfl (Nat.le_refl _)⟩)
              · skip
                refine mv_aload_n (pc := 133) B d_Book_primary_133 rfl 0 rfl ?_
                refine mv_sipush (pc := 134) (v := 1001) B d_Book_primary_134 (by decide) ?_
                refine mv_callVUi (pc := 137) (n := 1) (ci := 12) (C := R_Book) B (mK_ok sk sv) hNs rfl rfl (c_Book_called_x l hi _ f len th _ _ _ _ hf hS.P 1001 (z127.resolve_left h130).2 ihE) rfl (ma_goodc kc_Book_called) (B.2.2.2.1 _ k_2284) (B.2.2.2.1 _ k_2286) (B.2.2.2.1 _ ks_113) (B.2.2.2.1 _ k_13) ⟨by decide +kernel, by decide +kernel, by decide +kernel⟩ rfl d_Book_primary_137 rfl (Nat.le_of_ble_eq_true rfl) ⟨by first | decide | (dsimp only; omega), by first | decide | (dsimp only; omega)⟩ ⟨Nat.le_refl _, Nat.le_refl _⟩ ⟨Nat.le_refl _, Nat.le_refl _⟩ (mv_noH hno _) (fun τ9 g9 => Or.inr ⟨rfl, hS.1.2.1.bf.tr g9⟩) (fun v137 σ137 h137 => ?_)
                obtain ⟨n137, t137, u137, s137, m137, r137, x137⟩ := h137
                have i137 := s137.2.2.2.1
                have hS := hS.sub s137 x137
                exact mv_iret (pc := 140) B hr rfl d_Book_primary_140 (Nat.le_refl _) (Nat.le_refl _) (Or.inl ⟨_, rfl, hS.out r137 m137 0 rfl (Nat.le_refl _)⟩)
            · skip
              refine mv_aload_n (pc := 115) B d_Book_primary_115 rfl 0 rfl ?_
              refine mv_sipush (pc := 116) (v := 1000) B d_Book_primary_116 (by decide) ?_
              refine mv_callVUi (pc := 119) (n := 1) (ci := 12) (C := R_Book) B (mK_ok sk sv) hNs rfl rfl (c_Book_called_x l hi _ f len th _ _ _ _ hf hS.P 1000 (z109.resolve_left h112).2 ihE) rfl (ma_goodc kc_Book_called) (B.2.2.2.1 _ k_2284) (B.2.2.2.1 _ k_2286) (B.2.2.2.1 _ ks_113) (B.2.2.2.1 _ k_13) ⟨by decide +kernel, by decide +kernel, by decide +kernel⟩ rfl d_Book_primary_119 rfl (Nat.le_of_ble_eq_true rfl) ⟨by first | decide | (dsimp only; omega), by first | decide | (dsimp only; omega)⟩ ⟨Nat.le_refl _, Nat.le_refl _⟩ ⟨Nat.le_refl _, Nat.le_refl _⟩ (mv_noH hno _) (fun τ9 g9 => Or.inr ⟨rfl, hS.1.2.1.bf.tr g9⟩) (fun v119 σ119 h119 => ?_)
              obtain ⟨n119, t119, u119, s119, m119, r119, x119⟩ := h119
              have i119 := s119.2.2.2.1
              have hS := hS.sub s119 x119
              exact mv_iret (pc := 122) B hr rfl d_Book_primary_122 (Nat.le_refl _) (Nat.le_refl _) (Or.inl ⟨_, rfl, hS.out r119 m119 0 rfl (Nat.le_refl _)⟩)
          · skip
            refine mv_aload_n (pc := 99) B d_Book_primary_99 rfl 0 rfl ?_
            refine mv_iconst (pc := 100) (v := 0) B d_Book_primary_100 (by decide) ?_
            refine mv_callVUi (pc := 101) (n := 1) (ci := 12) (C := R_Book) B (mK_ok sk sv) hNs rfl rfl (c_Book_wider_x l hi _ f len th _ _ _ _ hf hS.P 0 (z93.resolve_left h96).2 ihE) rfl (ma_goodc kc_Book_wider) (B.2.2.2.1 _ k_2278) (B.2.2.2.1 _ k_2280) (B.2.2.2.1 _ ks_112) (B.2.2.2.1 _ k_13) ⟨by decide +kernel, by decide +kernel, by decide +kernel⟩ rfl d_Book_primary_101 rfl (Nat.le_of_ble_eq_true rfl) ⟨by first | decide | (dsimp only; omega), by first | decide | (dsimp only; omega)⟩ ⟨Nat.le_refl _, Nat.le_refl _⟩ ⟨Nat.le_refl _, Nat.le_refl _⟩ (mv_noH hno _) (fun τ9 g9 => Or.inr ⟨rfl, hS.1.2.1.bf.tr g9⟩) (fun v101 σ101 h101 => ?_)
            obtain ⟨n101, t101, u101, s101, m101, r101, x101⟩ := h101
            have i101 := s101.2.2.2.1
            have hS := hS.sub s101 x101
            exact mv_iret (pc := 104) B hr rfl d_Book_primary_104 (Nat.le_refl _) (Nat.le_refl _) (Or.inl ⟨_, rfl, hS.out r101 m101 0 rfl (Nat.le_refl _)⟩)
        · skip
          refine mv_aload_n (pc := 83) B d_Book_primary_83 rfl 0 rfl ?_
          refine mv_iconst (pc := 84) (v := 1) B d_Book_primary_84 (by decide) ?_
          refine mv_callVUi (pc := 85) (n := 1) (ci := 12) (C := R_Book) B (mK_ok sk sv) hNs rfl rfl (c_Book_wider_x l hi _ f len th _ _ _ _ hf hS.P 1 (z77.resolve_left h80).2 ihE) rfl (ma_goodc kc_Book_wider) (B.2.2.2.1 _ k_2278) (B.2.2.2.1 _ k_2280) (B.2.2.2.1 _ ks_112) (B.2.2.2.1 _ k_13) ⟨by decide +kernel, by decide +kernel, by decide +kernel⟩ rfl d_Book_primary_85 rfl (Nat.le_of_ble_eq_true rfl) ⟨by first | decide | (dsimp only; omega), by first | decide | (dsimp only; omega)⟩ ⟨Nat.le_refl _, Nat.le_refl _⟩ ⟨Nat.le_refl _, Nat.le_refl _⟩ (mv_noH hno _) (fun τ9 g9 => Or.inr ⟨rfl, hS.1.2.1.bf.tr g9⟩) (fun v85 σ85 h85 => ?_)
          obtain ⟨n85, t85, u85, s85, m85, r85, x85⟩ := h85
          have i85 := s85.2.2.2.1
          have hS := hS.sub s85 x85
          exact mv_iret (pc := 88) B hr rfl d_Book_primary_88 (Nat.le_refl _) (Nat.le_refl _) (Or.inl ⟨_, rfl, hS.out r85 m85 0 rfl (Nat.le_refl _)⟩)
      · skip
        refine mv_aload_n (pc := 68) B d_Book_primary_68 rfl 0 rfl ?_
        refine mv_callVUi (pc := 69) (n := 0) (ci := 12) (C := R_Book) B (mK_ok sk sv) hNs rfl rfl (c_Book_together_x l hi _ f len th _ _ _ _ hf hS.P h65 ihE) rfl (ma_goodc kc_Book_together) (B.2.2.2.1 _ k_2273) (B.2.2.2.1 _ k_2275) (B.2.2.2.1 _ ks_111) (B.2.2.2.1 _ k_13) ⟨by decide +kernel, by decide +kernel, by decide +kernel⟩ rfl d_Book_primary_69 rfl (Nat.le_of_ble_eq_true rfl) ⟨by first | decide | (dsimp only; omega), by first | decide | (dsimp only; omega)⟩ ⟨Nat.le_refl _, Nat.le_refl _⟩ ⟨Nat.le_refl _, Nat.le_refl _⟩ (mv_noH hno _) (fun τ9 g9 => Or.inr ⟨rfl, hS.1.2.1.bf.tr g9⟩) (fun v69 σ69 h69 => ?_)
        obtain ⟨n69, t69, u69, s69, m69, r69, x69⟩ := h69
        have i69 := s69.2.2.2.1
        have hS := hS.sub s69 x69
        exact mv_iret (pc := 72) B hr rfl d_Book_primary_72 (Nat.le_refl _) (Nat.le_refl _) (Or.inl ⟨_, rfl, hS.out r69 m69 0 rfl (Nat.le_refl _)⟩)
    · skip
      refine mv_aload_n (pc := 22) B d_Book_primary_22 rfl 0 rfl ?_
      refine mv_callVUv (pc := 23) (n := 0) (ci := 12) (C := R_Book) B (mK_ok sk sv) hNs rfl rfl (c_Book_pass_x l hi _ len _ _ hS.P.1) rfl (ma_goodc kc_Book_pass) (B.2.2.2.1 _ k_2173) (B.2.2.2.1 _ k_2175) (B.2.2.2.1 _ ks_90) (B.2.2.2.1 _ k_13) ⟨by decide +kernel, by decide +kernel, by decide +kernel⟩ rfl d_Book_primary_23 rfl (Nat.le_of_ble_eq_true rfl) ⟨by first | decide | (dsimp only; omega), by first | decide | (dsimp only; omega)⟩ ⟨Nat.le_refl _, Nat.le_refl _⟩ ⟨Nat.le_refl _, Nat.le_refl _⟩ (mv_noH hno _) (fun τ9 g9 => Or.inr ⟨rfl, hS.1.2.1.bf.tr g9.bf⟩) (fun σ23 h23 => ?_)
      have w23 := hS.P.w (by rw [h19]; decide)
      obtain ⟨d23, t23, u23, q23, g23⟩ := h23
      rw [hS.P.2.1] at d23
      have hL0 := hS.le
      have hS := hS.pass q23 g23
      refine mv_aload_n (pc := 26) B d_Book_primary_26 rfl 0 rfl ?_
      refine mv_dup (pc := 27) B d_Book_primary_27 rfl ?_
      refine mv_getI (pc := 28) (ci := 12) (C := R_Book) (T := F_Book) (N := 65) B 8 rfl rfl (by decide) i_Book (B.2.2.2.1 _ k_1851) rfl d_Book_primary_28 ?_
      refine mv_iconst (pc := 31) (v := 1) B d_Book_primary_31 (by decide) ?_
      refine mv_iadd (pc := 32) B d_Book_primary_32 ?_
      refine mv_putI (pc := 33) (ci := 12) (C := R_Book) (T := F_Book) (N := 65) B 8 rfl rfl (by decide) i_Book t_Book_ok n_Book (B.2.2.2.1 _ k_1851) rfl rfl rfl rfl d_Book_primary_33 ?_
      refine mv_gen (fun S36 eS36 => ?_)
      have hS := hS.dep (hS.P.up (by omega))
      rw [← eS36] at hS
      clear eS36
      refine mv_aload_n (pc := 36) B d_Book_primary_36 rfl 0 rfl ?_
      refine mv_callVUi (pc := 37) (n := 0) (ci := 12) (C := R_Book) B (mK_ok sk sv) hNs rfl rfl (ihE (f - 1) (by omega) _ len th _ _ _ _ (by omega) hS.P) rfl (ma_goodc kc_Book_expression) (B.2.2.2.1 _ k_2245) (B.2.2.2.1 _ k_2247) (B.2.2.2.1 _ ks_104) (B.2.2.2.1 _ k_13) ⟨by decide +kernel, by decide +kernel, by decide +kernel⟩ rfl d_Book_primary_37 rfl (Nat.le_of_ble_eq_true rfl) ⟨by first | decide | (dsimp only; omega), by first | decide | (dsimp only; omega)⟩ ⟨Nat.le_refl _, Nat.le_refl _⟩ ⟨Nat.le_refl _, Nat.le_refl _⟩ (mv_noH hno _) (fun τ9 g9 => Or.inr ⟨rfl, hS.1.2.1.bf.tr g9⟩) (fun v37 σ37 h37 => ?_)
      obtain ⟨n37, t37, u37, s37, m37, r37, x37⟩ := h37
      have i37 := s37.2.2.2.1
      have hS := hS.sub s37 x37
      refine mv_istore_n (pc := 40) B d_Book_primary_40 rfl (by decide) rfl ?_
      refine mv_aload_n (pc := 41) B d_Book_primary_41 rfl 1 rfl ?_
      refine mv_bipush (pc := 42) (v := 41) B d_Book_primary_42 (by decide) ?_
      refine mv_callVUv (pc := 44) (n := 1) (ci := 12) (C := R_Book) B (mK_ok sk sv) hNs rfl rfl (c_Book_need_x l hi _ _ len _ _ hS.P.1) rfl (ma_goodc kc_Book_need) (B.2.2.2.1 _ k_2177) (B.2.2.2.1 _ k_2179) (B.2.2.2.1 _ ks_91) (B.2.2.2.1 _ k_13) ⟨by decide +kernel, by decide +kernel, by decide +kernel⟩ rfl d_Book_primary_44 rfl (Nat.le_of_ble_eq_true rfl) ⟨by first | decide | (dsimp only; omega), by first | decide | (dsimp only; omega)⟩ ⟨Nat.le_refl _, Nat.le_refl _⟩ ⟨Nat.le_refl _, Nat.le_refl _⟩ (mv_noH hno _) (fun τ9 g9 => Or.inr ⟨rfl, hS.1.2.1.bf.tr g9.bf⟩) (fun σ44 h44 => ?_)
      obtain ⟨k44, d44, t44, u44, q44, g44⟩ := h44
      have w44 := hS.P.w (by rw [k44]; decide)
      rw [hS.P.2.1] at d44
      have hL0 := hS.le
      have hS := hS.pass q44 g44
      refine mv_aload_n (pc := 47) B d_Book_primary_47 rfl 1 rfl ?_
      refine mv_dup (pc := 48) B d_Book_primary_48 rfl ?_
      refine mv_getI (pc := 49) (ci := 12) (C := R_Book) (T := F_Book) (N := 65) B 8 rfl rfl (by decide) i_Book (B.2.2.2.1 _ k_1851) rfl d_Book_primary_49 ?_
      refine mv_iconst (pc := 52) (v := 1) B d_Book_primary_52 (by decide) ?_
      refine mv_isub (pc := 53) B d_Book_primary_53 ?_
      refine mv_putI (pc := 54) (ci := 12) (C := R_Book) (T := F_Book) (N := 65) B 8 rfl rfl (by decide) i_Book t_Book_ok n_Book (B.2.2.2.1 _ k_1851) rfl rfl rfl rfl d_Book_primary_54 ?_
      refine mv_gen (fun S57 eS57 => ?_)
      have hS := hS.dep hS.P.dn
      rw [← eS57] at hS
      clear eS57
      refine mv_iload_n (pc := 57) B d_Book_primary_57 rfl 0 rfl ?_
      exact mv_iret (pc := 58) B hr rfl d_Book_primary_58 (Nat.le_refl _) (Nat.le_refl _) (Or.inl ⟨_, rfl, hS.out r37 m37 0 rfl (by omega)⟩)
  · skip
    refine mv_aload_n (pc := 8) B d_Book_primary_8 rfl 0 rfl ?_
    refine mv_callVUi (pc := 9) (n := 0) (ci := 12) (C := R_Book) B (mK_ok sk sv) hNs rfl rfl (c_Book_literal_x l hi _ f len th _ _ _ _ hf hS.P h5) rfl (ma_goodc kc_Book_literal) (B.2.2.2.1 _ k_2265) (B.2.2.2.1 _ k_2267) (B.2.2.2.1 _ ks_109) (B.2.2.2.1 _ k_13) ⟨by decide +kernel, by decide +kernel, by decide +kernel⟩ rfl d_Book_primary_9 rfl (Nat.le_of_ble_eq_true rfl) ⟨by first | decide | (dsimp only; omega), by first | decide | (dsimp only; omega)⟩ ⟨Nat.le_refl _, Nat.le_refl _⟩ ⟨Nat.le_refl _, Nat.le_refl _⟩ (mv_noH hno _) (fun τ9 g9 => Or.inr ⟨rfl, hS.1.2.1.bf.tr g9⟩) (fun v9 σ9 h9 => ?_)
    obtain ⟨n9, t9, u9, s9, m9, r9, x9⟩ := h9
    have i9 := s9.2.2.2.1
    have hS := hS.sub s9 x9
    exact mv_iret (pc := 12) B hr rfl d_Book_primary_12 (Nat.le_refl _) (Nat.le_refl _) (Or.inl ⟨_, rfl, hS.out r9 m9 0 rfl (Nat.le_refl _)⟩)
set_option maxHeartbeats 4000000 in
set_option maxRecDepth 100000 in
theorem c_Book_primary_y (l : Launch) {dA : FieldType → ClassId} {D : va_G} {al : Nat → Nat} {ext : mv_Sh} {sk sv : Nat → Nat} (hi : mv_inj (mg dA D al ext)) (σ : mv_H) (f len th d n a1 a2 : Nat) (hf : d + f = 61) (hP : PS 108 len th d n a1 a2 σ) (ihE : ∀ g, g + 1 = f → XE l dA D al ext sk sv 108 g) : mv_C l y_Book_primary (Cond.code y_Book_primary b_Book_primary 2 (Option.some Jvm.ClassFile.FieldType.int) :: ma) ({ frames := 14 * f + 11, cells := 0, slots := 0, locals := 500 * f + 450 }) (mg dA D al ext) (mK sk sv) [.ref (al 108)] σ (mv_Ui (XO 108 len th d n a1 (10 * f) σ) ("MachineLoomModel$Book$Wrong", al 141) (BF 108 σ)) := by
  refine mv_C.ofV (cc := b_Book_primary) (nL := 2) (ret := (Option.some Jvm.ClassFile.FieldType.int)) (by decide +kernel) rfl hi (Nat.le_of_ble_eq_true rfl) ?_
  intro p e s m below meth c B hNs hr hnm hno
  have hS := XT.rf hP
  have hn0 := hP.le.1
  have j192 : mv_V p l e ({ frames := 14 * f + 11, cells := 0, slots := 0, locals := 500 * f + 450 }) s m ([.ref (al 108)] : List Value).toArray below meth c (mg dA D al ext) 2 0 0 (mv_Q (mg dA D al ext) below s 0 0 (mv_Ui (XO 108 len th d n a1 (10 * f) σ) ("MachineLoomModel$Book$Wrong", al 141) (BF 108 σ))) σ 192 [(0, .ref (al 108))] [] := by
    refine mv_aload_n (pc := 192) B d_Book_primary_192 rfl 0 rfl ?_
    refine mv_aload_n (pc := 193) B d_Book_primary_193 rfl 0 rfl ?_
    refine mv_getI (pc := 194) (ci := 12) (C := R_Book) (T := F_Book) (N := 65) B 5 rfl rfl (by decide) i_Book (B.2.2.2.1 _ k_1848) rfl d_Book_primary_194 ?_
    refine mv_callVr (pc := 197) (n := 1) (ci := 12) (C := R_Book) B (mK_ok sk sv) hNs rfl rfl (c_Book_wrongAt_y l hi _ _ hS.R) rfl (ma_goodc kc_Book_wrongAt) (B.2.2.2.1 _ k_2154) (B.2.2.2.1 _ k_2156) (B.2.2.2.1 _ ks_86) (B.2.2.2.1 _ k_13) ⟨by decide +kernel, by decide +kernel, by decide +kernel⟩ rfl d_Book_primary_197 rfl (Nat.le_of_ble_eq_true rfl) ⟨by first | decide | (dsimp only; omega), by first | decide | (dsimp only; omega)⟩ ⟨Nat.le_refl _, Nat.le_refl _⟩ ⟨Nat.le_refl _, Nat.le_refl _⟩ (mv_noH hno _) (fun σ197 h197 => ?_)
    obtain ⟨g197, -⟩ := h197
    exact mv_athrowO (pc := 200) (o := 141) B rfl rfl (mv_noH hno _) d_Book_primary_200 (Nat.le_refl _) (Nat.le_refl _) (Or.inr ⟨rfl, g197.bf⟩)
  refine mv_aload_n (pc := 0) B d_Book_primary_0 rfl 0 rfl ?_
  refine mv_getI (pc := 1) (ci := 12) (C := R_Book) (T := F_Book) (N := 65) B 4 rfl rfl (by decide) i_Book (B.2.2.2.1 _ k_1847) rfl d_Book_primary_1 ?_
  refine mv_iconst (pc := 4) (v := 2) B d_Book_primary_4 (by decide) ?_
  refine mv_icmp_ne (pc := 5) (tgt := 13) B d_Book_primary_5 rfl (fun h5 => ?_) (fun h5 => ?_)
  · skip
    refine mv_aload_n (pc := 13) B d_Book_primary_13 rfl 0 rfl ?_
    refine mv_getI (pc := 14) (ci := 12) (C := R_Book) (T := F_Book) (N := 65) B 4 rfl rfl (by decide) i_Book (B.2.2.2.1 _ k_1847) rfl d_Book_primary_14 ?_
    refine mv_bipush (pc := 17) (v := 40) B d_Book_primary_17 (by decide) ?_
    refine mv_icmp_ne (pc := 19) (tgt := 59) B d_Book_primary_19 rfl (fun h19 => ?_) (fun h19 => ?_)
    · skip
      refine mv_aload_n (pc := 59) B d_Book_primary_59 rfl 0 rfl ?_
      refine mv_getI (pc := 60) (ci := 12) (C := R_Book) (T := F_Book) (N := 65) B 4 rfl rfl (by decide) i_Book (B.2.2.2.1 _ k_1847) rfl d_Book_primary_60 ?_
      refine mv_bipush (pc := 63) (v := 123) B d_Book_primary_63 (by decide) ?_
      refine mv_icmp_ne (pc := 65) (tgt := 73) B d_Book_primary_65 rfl (fun h65 => ?_) (fun h65 => ?_)
      · skip
        refine mv_aload_n (pc := 73) B d_Book_primary_73 rfl 0 rfl ?_
        refine mv_ldcwS (pc := 74) B (hNs.2.1 148 (by decide)).1 d_Book_primary_74 ?_
        refine mv_callVi (pc := 77) (n := 1) (ci := 12) (C := R_Book) B (mK_ok sk sv) hNs rfl rfl (c_Book_is_y l hi _ 148 (by decide) len _ _ hS.P.1) rfl (ma_goodc kc_Book_is) (B.2.2.2.1 _ k_2163) (B.2.2.2.1 _ k_2165) (B.2.2.2.1 _ ks_88) (B.2.2.2.1 _ k_13) ⟨by decide +kernel, by decide +kernel, by decide +kernel⟩ rfl d_Book_primary_77 rfl (Nat.le_of_ble_eq_true rfl) ⟨by first | decide | (dsimp only; omega), by first | decide | (dsimp only; omega)⟩ ⟨Nat.le_refl _, Nat.le_refl _⟩ ⟨Nat.le_refl _, Nat.le_refl _⟩ (mv_noH hno _) (fun v77 σ77 h77 => ?_)
        obtain ⟨e77, z77⟩ := h77
        have e77 := e77.symm
        subst e77
        refine mv_if_eq (pc := 80) (tgt := 89) B d_Book_primary_80 rfl (fun h80 => ?_) (fun h80 => ?_)
        · skip
          refine mv_aload_n (pc := 89) B d_Book_primary_89 rfl 0 rfl ?_
          refine mv_ldcwS (pc := 90) B (hNs.2.1 149 (by decide)).1 d_Book_primary_90 ?_
          refine mv_callVi (pc := 93) (n := 1) (ci := 12) (C := R_Book) B (mK_ok sk sv) hNs rfl rfl (c_Book_is_y l hi _ 149 (by decide) len _ _ hS.P.1) rfl (ma_goodc kc_Book_is) (B.2.2.2.1 _ k_2163) (B.2.2.2.1 _ k_2165) (B.2.2.2.1 _ ks_88) (B.2.2.2.1 _ k_13) ⟨by decide +kernel, by decide +kernel, by decide +kernel⟩ rfl d_Book_primary_93 rfl (Nat.le_of_ble_eq_true rfl) ⟨by first | decide | (dsimp only; omega), by first | decide | (dsimp only; omega)⟩ ⟨Nat.le_refl _, Nat.le_refl _⟩ ⟨Nat.le_refl _, Nat.le_refl _⟩ (mv_noH hno _) (fun v93 σ93 h93 => ?_)
          obtain ⟨e93, z93⟩ := h93
          have e93 := e93.symm
          subst e93
          refine mv_if_eq (pc := 96) (tgt := 105) B d_Book_primary_96 rfl (fun h96 => ?_) (fun h96 => ?_)
          · skip
            refine mv_aload_n (pc := 105) B d_Book_primary_105 rfl 0 rfl ?_
            refine mv_ldcwS (pc := 106) B (hNs.2.1 150 (by decide)).1 d_Book_primary_106 ?_
            refine mv_callVi (pc := 109) (n := 1) (ci := 12) (C := R_Book) B (mK_ok sk sv) hNs rfl rfl (c_Book_is_y l hi _ 150 (by decide) len _ _ hS.P.1) rfl (ma_goodc kc_Book_is) (B.2.2.2.1 _ k_2163) (B.2.2.2.1 _ k_2165) (B.2.2.2.1 _ ks_88) (B.2.2.2.1 _ k_13) ⟨by decide +kernel, by decide +kernel, by decide +kernel⟩ rfl d_Book_primary_109 rfl (Nat.le_of_ble_eq_true rfl) ⟨by first | decide | (dsimp only; omega), by first | decide | (dsimp only; omega)⟩ ⟨Nat.le_refl _, Nat.le_refl _⟩ ⟨Nat.le_refl _, Nat.le_refl _⟩ (mv_noH hno _) (fun v109 σ109 h109 => ?_)
            obtain ⟨e109, z109⟩ := h109
            have e109 := e109.symm
            subst e109
            refine mv_if_eq (pc := 112) (tgt := 123) B d_Book_primary_112 rfl (fun h112 => ?_) (fun h112 => ?_)
            · skip
              refine mv_aload_n (pc := 123) B d_Book_primary_123 rfl 0 rfl ?_
              refine mv_ldcwS (pc := 124) B (hNs.2.1 151 (by decide)).1 d_Book_primary_124 ?_
              refine mv_callVi (pc := 127) (n := 1) (ci := 12) (C := R_Book) B (mK_ok sk sv) hNs rfl rfl (c_Book_is_y l hi _ 151 (by decide) len _ _ hS.P.1) rfl (ma_goodc kc_Book_is) (B.2.2.2.1 _ k_2163) (B.2.2.2.1 _ k_2165) (B.2.2.2.1 _ ks_88) (B.2.2.2.1 _ k_13) ⟨by decide +kernel, by decide +kernel, by decide +kernel⟩ rfl d_Book_primary_127 rfl (Nat.le_of_ble_eq_true rfl) ⟨by first | decide | (dsimp only; omega), by first | decide | (dsimp only; omega)⟩ ⟨Nat.le_refl _, Nat.le_refl _⟩ ⟨Nat.le_refl _, Nat.le_refl _⟩ (mv_noH hno _) (fun v127 σ127 h127 => ?_)
              obtain ⟨e127, z127⟩ := h127
              have e127 := e127.symm
              subst e127
              refine mv_if_eq (pc := 130) (tgt := 141) B d_Book_primary_130 rfl (fun h130 => ?_) (fun h130 => ?_)
              · skip
                refine mv_aload_n (pc := 141) B d_Book_primary_141 rfl 0 rfl ?_
                refine mv_ldcwS (pc := 142) B (hNs.2.1 152 (by decide)).1 d_Book_primary_142 ?_
                refine mv_callVi (pc := 145) (n := 1) (ci := 12) (C := R_Book) B (mK_ok sk sv) hNs rfl rfl (c_Book_is_y l hi _ 152 (by decide) len _ _ hS.P.1) rfl (ma_goodc kc_Book_is) (B.2.2.2.1 _ k_2163) (B.2.2.2.1 _ k_2165) (B.2.2.2.1 _ ks_88) (B.2.2.2.1 _ k_13) ⟨by decide +kernel, by decide +kernel, by decide +kernel⟩ rfl d_Book_primary_145 rfl (Nat.le_of_ble_eq_true rfl) ⟨by first | decide | (dsimp only; omega), by first | decide | (dsimp only; omega)⟩ ⟨Nat.le_refl _, Nat.le_refl _⟩ ⟨Nat.le_refl _, Nat.le_refl _⟩ (mv_noH hno _) (fun v145 σ145 h145 => ?_)
                obtain ⟨e145, z145⟩ := h145
                have e145 := e145.symm
                subst e145
                refine mv_if_eq (pc := 148) (tgt := 159) B d_Book_primary_148 rfl (fun h148 => ?_) (fun h148 => ?_)
                · skip
                  refine mv_aload_n (pc := 159) B d_Book_primary_159 rfl 0 rfl ?_
                  refine mv_ldcwS (pc := 160) B (hNs.2.1 153 (by decide)).1 d_Book_primary_160 ?_
                  refine mv_callVi (pc := 163) (n := 1) (ci := 12) (C := R_Book) B (mK_ok sk sv) hNs rfl rfl (c_Book_is_y l hi _ 153 (by decide) len _ _ hS.P.1) rfl (ma_goodc kc_Book_is) (B.2.2.2.1 _ k_2163) (B.2.2.2.1 _ k_2165) (B.2.2.2.1 _ ks_88) (B.2.2.2.1 _ k_13) ⟨by decide +kernel, by decide +kernel, by decide +kernel⟩ rfl d_Book_primary_163 rfl (Nat.le_of_ble_eq_true rfl) ⟨by first | decide | (dsimp only; omega), by first | decide | (dsimp only; omega)⟩ ⟨Nat.le_refl _, Nat.le_refl _⟩ ⟨Nat.le_refl _, Nat.le_refl _⟩ (mv_noH hno _) (fun v163 σ163 h163 => ?_)
                  obtain ⟨e163, z163⟩ := h163
                  have e163 := e163.symm
                  subst e163
                  refine mv_if_eq (pc := 166) (tgt := 177) B d_Book_primary_166 rfl (fun h166 => ?_) (fun h166 => ?_)
                  · skip
                    refine mv_aload_n (pc := 177) B d_Book_primary_177 rfl 0 rfl ?_
                    refine mv_getI (pc := 178) (ci := 12) (C := R_Book) (T := F_Book) (N := 65) B 4 rfl rfl (by decide) i_Book (B.2.2.2.1 _ k_1847) rfl d_Book_primary_178 ?_
                    refine mv_iconst (pc := 181) (v := 1) B d_Book_primary_181 (by decide) ?_
                    refine mv_icmp_ne (pc := 182) (tgt := 192) B d_Book_primary_182 rfl (fun h182 => ?_) (fun h182 => ?_)
                    · skip
                      refine mv_lpick [0] rfl ?_
                      exact j192
                    · skip
                      refine mv_aload_n (pc := 185) B d_Book_primary_185 rfl 0 rfl ?_
                      refine mv_callVi (pc := 186) (n := 0) (ci := 12) (C := R_Book) B (mK_ok sk sv) hNs rfl rfl (c_Book_reserved_y l hi _ len _ _ hS.P.1) rfl (ma_goodc kc_Book_reserved) (B.2.2.2.1 _ k_2198) (B.2.2.2.1 _ k_2200) (B.2.2.2.1 _ ks_95) (B.2.2.2.1 _ k_13) ⟨by decide +kernel, by decide +kernel, by decide +kernel⟩ rfl d_Book_primary_186 rfl (Nat.le_of_ble_eq_true rfl) ⟨by first | decide | (dsimp only; omega), by first | decide | (dsimp only; omega)⟩ ⟨Nat.le_refl _, Nat.le_refl _⟩ ⟨Nat.le_refl _, Nat.le_refl _⟩ (mv_noH hno _) (fun v186 σ186 h186 => ?_)
                      obtain ⟨e186, z186⟩ := h186
                      have e186 := e186.symm
                      subst e186
                      refine mv_if_eq (pc := 189) (tgt := 201) B d_Book_primary_189 rfl (fun h189 => ?_) (fun h189 => ?_)
                      · skip
                        refine mv_aload_n (pc := 201) B d_Book_primary_201 rfl 0 rfl ?_
                        refine mv_callVUi (pc := 202) (n := 0) (ci := 12) (C := R_Book) B (mK_ok sk sv) hNs rfl rfl (c_Book_named_y l hi _ f len th _ _ _ _ hf hS.P h182 ihE) rfl (ma_goodc kc_Book_named) (B.2.2.2.1 _ k_2301) (B.2.2.2.1 _ k_2303) (B.2.2.2.1 _ ks_115) (B.2.2.2.1 _ k_13) ⟨by decide +kernel, by decide +kernel, by decide +kernel⟩ rfl d_Book_primary_202 rfl (Nat.le_of_ble_eq_true rfl) ⟨by first | decide | (dsimp only; omega), by first | decide | (dsimp only; omega)⟩ ⟨Nat.le_refl _, Nat.le_refl _⟩ ⟨Nat.le_refl _, Nat.le_refl _⟩ (mv_noH hno _) (fun τ9 g9 => Or.inr ⟨rfl, hS.1.2.1.bf.tr g9⟩) (fun v202 σ202 h202 => ?_)
                        obtain ⟨n202, t202, u202, s202, m202, r202, x202⟩ := h202
                        have i202 := s202.2.2.2.1
                        have hS := hS.sub s202 x202
                        exact mv_iret (pc := 205) B hr rfl d_Book_primary_205 (Nat.le_refl _) (Nat.le_refl _) (Or.inl ⟨_, rfl, hS.out r202 m202 0 rfl (Nat.le_refl _)⟩)
                      · skip
                        refine mv_lpick [0] rfl ?_
                        exact j192
                  · skip
                    refine mv_aload_n (pc := 169) B d_Book_primary_169 rfl 0 rfl ?_
                    refine mv_sipush (pc := 170) (v := 1003) B d_Book_primary_170 (by decide) ?_
                    refine mv_callVUi (pc := 173) (n := 1) (ci := 12) (C := R_Book) B (mK_ok sk sv) hNs rfl rfl (c_Book_called_y l hi _ f len th _ _ _ _ hf hS.P 1003 (z163.resolve_left h166).2 ihE) rfl (ma_goodc kc_Book_called) (B.2.2.2.1 _ k_2284) (B.2.2.2.1 _ k_2286) (B.2.2.2.1 _ ks_113) (B.2.2.2.1 _ k_13) ⟨by decide +kernel, by decide +kernel, by decide +kernel⟩ rfl d_Book_primary_173 rfl (Nat.le_of_ble_eq_true rfl) ⟨by first | decide | (dsimp only; omega), by first | decide | (dsimp only; omega)⟩ ⟨Nat.le_refl _, Nat.le_refl _⟩ ⟨Nat.le_refl _, Nat.le_refl _⟩ (mv_noH hno _) (fun τ9 g9 => Or.inr ⟨rfl, hS.1.2.1.bf.tr g9⟩) (fun v173 σ173 h173 => ?_)
                    obtain ⟨n173, t173, u173, s173, m173, r173, x173⟩ := h173
                    have i173 := s173.2.2.2.1
                    have hS := hS.sub s173 x173
                    exact mv_iret (pc := 176) B hr rfl d_Book_primary_176 (Nat.le_refl _) (Nat.le_refl _) (Or.inl ⟨_, rfl, hS.out r173 m173 0 rfl (Nat.le_refl _)⟩)
                · skip
                  refine mv_aload_n (pc := 151) B d_Book_primary_151 rfl 0 rfl ?_
                  refine mv_sipush (pc := 152) (v := 1002) B d_Book_primary_152 (by decide) ?_
                  refine mv_callVUi (pc := 155) (n := 1) (ci := 12) (C := R_Book) B (mK_ok sk sv) hNs rfl rfl (c_Book_called_y l hi _ f len th _ _ _ _ hf hS.P 1002 (z145.resolve_left h148).2 ihE) rfl (ma_goodc kc_Book_called) (B.2.2.2.1 _ k_2284) (B.2.2.2.1 _ k_2286) (B.2.2.2.1 _ ks_113) (B.2.2.2.1 _ k_13) ⟨by decide +kernel, by decide +kernel, by decide +kernel⟩ rfl d_Book_primary_155 rfl (Nat.le_of_ble_eq_true rfl) ⟨by first | decide | (dsimp only; omega), by first | decide | (dsimp only; omega)⟩ ⟨Nat.le_refl _, Nat.le_refl _⟩ ⟨Nat.le_refl _, Nat.le_refl _⟩ (mv_noH hno _) (fun τ9 g9 => Or.inr ⟨rfl, hS.1.2.1.bf.tr g9⟩) (fun v155 σ155 h155 => ?_)
                  obtain ⟨n155, t155, u155, s155, m155, r155, x155⟩ := h155
                  have i155 := s155.2.2.2.1
                  have hS := hS.sub s155 x155
                  exact mv_iret (pc := 158) B hr rfl d_Book_primary_158 (Nat.le_refl _) (Nat.le_refl _) (Or.inl ⟨_, rfl, hS.out r155 m155 0 rfl (Nat.le_refl _)⟩)
              · skip
                refine mv_aload_n (pc := 133) B d_Book_primary_133 rfl 0 rfl ?_
                refine mv_sipush (pc := 134) (v := 1001) B d_Book_primary_134 (by decide) ?_
                refine mv_callVUi (pc := 137) (n := 1) (ci := 12) (C := R_Book) B (mK_ok sk sv) hNs rfl rfl (c_Book_called_y l hi _ f len th _ _ _ _ hf hS.P 1001 (z127.resolve_left h130).2 ihE) rfl (ma_goodc kc_Book_called) (B.2.2.2.1 _ k_2284) (B.2.2.2.1 _ k_2286) (B.2.2.2.1 _ ks_113) (B.2.2.2.1 _ k_13) ⟨by decide +kernel, by decide +kernel, by decide +kernel⟩ rfl d_Book_primary_137 rfl (Nat.le_of_ble_eq_true rfl) ⟨by first | decide | (dsimp only; omega), by first | decide | (dsimp only; omega)⟩ ⟨Nat.le_refl _, Nat.le_refl _⟩ ⟨Nat.le_refl _, Nat.le_refl _⟩ (mv_noH hno _) (fun τ9 g9 => Or.inr ⟨rfl, hS.1.2.1.bf.tr g9⟩) (fun v137 σ137 h137 => ?_)
                obtain ⟨n137, t137, u137, s137, m137, r137, x137⟩ := h137
                have i137 := s137.2.2.2.1
                have hS := hS.sub s137 x137
                exact mv_iret (pc := 140) B hr rfl d_Book_primary_140 (Nat.le_refl _) (Nat.le_refl _) (Or.inl ⟨_, rfl, hS.out r137 m137 0 rfl (Nat.le_refl _)⟩)
            · skip
              refine mv_aload_n (pc := 115) B d_Book_primary_115 rfl 0 rfl ?_
              refine mv_sipush (pc := 116) (v := 1000) B d_Book_primary_116 (by decide) ?_
              refine mv_callVUi (pc := 119) (n := 1) (ci := 12) (C := R_Book) B (mK_ok sk sv) hNs rfl rfl (c_Book_called_y l hi _ f len th _ _ _ _ hf hS.P 1000 (z109.resolve_left h112).2 ihE) rfl (ma_goodc kc_Book_called) (B.2.2.2.1 _ k_2284) (B.2.2.2.1 _ k_2286) (B.2.2.2.1 _ ks_113) (B.2.2.2.1 _ k_13) ⟨by decide +kernel, by decide +kernel, by decide +kernel⟩ rfl d_Book_primary_119 rfl (Nat.le_of_ble_eq_true rfl) ⟨by first | decide | (dsimp only; omega), by first | decide | (dsimp only; omega)⟩ ⟨Nat.le_refl _, Nat.le_refl _⟩ ⟨Nat.le_refl _, Nat.le_refl _⟩ (mv_noH hno _) (fun τ9 g9 => Or.inr ⟨rfl, hS.1.2.1.bf.tr g9⟩) (fun v119 σ119 h119 => ?_)
              obtain ⟨n119, t119, u119, s119, m119, r119, x119⟩ := h119
              have i119 := s119.2.2.2.1
              have hS := hS.sub s119 x119
              exact mv_iret (pc := 122) B hr rfl d_Book_primary_122 (Nat.le_refl _) (Nat.le_refl _) (Or.inl ⟨_, rfl, hS.out r119 m119 0 rfl (Nat.le_refl _)⟩)
          · skip
            refine mv_aload_n (pc := 99) B d_Book_primary_99 rfl 0 rfl ?_
            refine mv_iconst (pc := 100) (v := 0) B d_Book_primary_100 (by decide) ?_
            refine mv_callVUi (pc := 101) (n := 1) (ci := 12) (C := R_Book) B (mK_ok sk sv) hNs rfl rfl (c_Book_wider_y l hi _ f len th _ _ _ _ hf hS.P 0 (z93.resolve_left h96).2 ihE) rfl (ma_goodc kc_Book_wider) (B.2.2.2.1 _ k_2278) (B.2.2.2.1 _ k_2280) (B.2.2.2.1 _ ks_112) (B.2.2.2.1 _ k_13) ⟨by decide +kernel, by decide +kernel, by decide +kernel⟩ rfl d_Book_primary_101 rfl (Nat.le_of_ble_eq_true rfl) ⟨by first | decide | (dsimp only; omega), by first | decide | (dsimp only; omega)⟩ ⟨Nat.le_refl _, Nat.le_refl _⟩ ⟨Nat.le_refl _, Nat.le_refl _⟩ (mv_noH hno _) (fun τ9 g9 => Or.inr ⟨rfl, hS.1.2.1.bf.tr g9⟩) (fun v101 σ101 h101 => ?_)
            obtain ⟨n101, t101, u101, s101, m101, r101, x101⟩ := h101
            have i101 := s101.2.2.2.1
            have hS := hS.sub s101 x101
            exact mv_iret (pc := 104) B hr rfl d_Book_primary_104 (Nat.le_refl _) (Nat.le_refl _) (Or.inl ⟨_, rfl, hS.out r101 m101 0 rfl (Nat.le_refl _)⟩)
        · skip
          refine mv_aload_n (pc := 83) B d_Book_primary_83 rfl 0 rfl ?_
          refine mv_iconst (pc := 84) (v := 1) B d_Book_primary_84 (by decide) ?_
          refine mv_callVUi (pc := 85) (n := 1) (ci := 12) (C := R_Book) B (mK_ok sk sv) hNs rfl rfl (c_Book_wider_y l hi _ f len th _ _ _ _ hf hS.P 1 (z77.resolve_left h80).2 ihE) rfl (ma_goodc kc_Book_wider) (B.2.2.2.1 _ k_2278) (B.2.2.2.1 _ k_2280) (B.2.2.2.1 _ ks_112) (B.2.2.2.1 _ k_13) ⟨by decide +kernel, by decide +kernel, by decide +kernel⟩ rfl d_Book_primary_85 rfl (Nat.le_of_ble_eq_true rfl) ⟨by first | decide | (dsimp only; omega), by first | decide | (dsimp only; omega)⟩ ⟨Nat.le_refl _, Nat.le_refl _⟩ ⟨Nat.le_refl _, Nat.le_refl _⟩ (mv_noH hno _) (fun τ9 g9 => Or.inr ⟨rfl, hS.1.2.1.bf.tr g9⟩) (fun v85 σ85 h85 => ?_)
          obtain ⟨n85, t85, u85, s85, m85, r85, x85⟩ := h85
          have i85 := s85.2.2.2.1
          have hS := hS.sub s85 x85
          exact mv_iret (pc := 88) B hr rfl d_Book_primary_88 (Nat.le_refl _) (Nat.le_refl _) (Or.inl ⟨_, rfl, hS.out r85 m85 0 rfl (Nat.le_refl _)⟩)
      · skip
        refine mv_aload_n (pc := 68) B d_Book_primary_68 rfl 0 rfl ?_
        refine mv_callVUi (pc := 69) (n := 0) (ci := 12) (C := R_Book) B (mK_ok sk sv) hNs rfl rfl (c_Book_together_y l hi _ f len th _ _ _ _ hf hS.P h65 ihE) rfl (ma_goodc kc_Book_together) (B.2.2.2.1 _ k_2273) (B.2.2.2.1 _ k_2275) (B.2.2.2.1 _ ks_111) (B.2.2.2.1 _ k_13) ⟨by decide +kernel, by decide +kernel, by decide +kernel⟩ rfl d_Book_primary_69 rfl (Nat.le_of_ble_eq_true rfl) ⟨by first | decide | (dsimp only; omega), by first | decide | (dsimp only; omega)⟩ ⟨Nat.le_refl _, Nat.le_refl _⟩ ⟨Nat.le_refl _, Nat.le_refl _⟩ (mv_noH hno _) (fun τ9 g9 => Or.inr ⟨rfl, hS.1.2.1.bf.tr g9⟩) (fun v69 σ69 h69 => ?_)
        obtain ⟨n69, t69, u69, s69, m69, r69, x69⟩ := h69
        have i69 := s69.2.2.2.1
        have hS := hS.sub s69 x69
        exact mv_iret (pc := 72) B hr rfl d_Book_primary_72 (Nat.le_refl _) (Nat.le_refl _) (Or.inl ⟨_, rfl, hS.out r69 m69 0 rfl (Nat.le_refl _)⟩)
    · skip
      refine mv_aload_n (pc := 22) B d_Book_primary_22 rfl 0 rfl ?_
      refine mv_callVUv (pc := 23) (n := 0) (ci := 12) (C := R_Book) B (mK_ok sk sv) hNs rfl rfl (c_Book_pass_y l hi _ len _ _ hS.P.1) rfl (ma_goodc kc_Book_pass) (B.2.2.2.1 _ k_2173) (B.2.2.2.1 _ k_2175) (B.2.2.2.1 _ ks_90) (B.2.2.2.1 _ k_13) ⟨by decide +kernel, by decide +kernel, by decide +kernel⟩ rfl d_Book_primary_23 rfl (Nat.le_of_ble_eq_true rfl) ⟨by first | decide | (dsimp only; omega), by first | decide | (dsimp only; omega)⟩ ⟨Nat.le_refl _, Nat.le_refl _⟩ ⟨Nat.le_refl _, Nat.le_refl _⟩ (mv_noH hno _) (fun τ9 g9 => Or.inr ⟨rfl, hS.1.2.1.bf.tr g9.bf⟩) (fun σ23 h23 => ?_)
      have w23 := hS.P.w (by rw [h19]; decide)
      obtain ⟨d23, t23, u23, q23, g23⟩ := h23
      rw [hS.P.2.1] at d23
      have hL0 := hS.le
      have hS := hS.pass q23 g23
      refine mv_aload_n (pc := 26) B d_Book_primary_26 rfl 0 rfl ?_
      refine mv_dup (pc := 27) B d_Book_primary_27 rfl ?_
      refine mv_getI (pc := 28) (ci := 12) (C := R_Book) (T := F_Book) (N := 65) B 8 rfl rfl (by decide) i_Book (B.2.2.2.1 _ k_1851) rfl d_Book_primary_28 ?_
      refine mv_iconst (pc := 31) (v := 1) B d_Book_primary_31 (by decide) ?_
      refine mv_iadd (pc := 32) B d_Book_primary_32 ?_
      refine mv_putI (pc := 33) (ci := 12) (C := R_Book) (T := F_Book) (N := 65) B 8 rfl rfl (by decide) i_Book t_Book_ok n_Book (B.2.2.2.1 _ k_1851) rfl rfl rfl rfl d_Book_primary_33 ?_
      refine mv_gen (fun S36 eS36 => ?_)
      have hS := hS.dep (hS.P.up (by omega))
      rw [← eS36] at hS
      clear eS36
      refine mv_aload_n (pc := 36) B d_Book_primary_36 rfl 0 rfl ?_
      refine mv_callVUi (pc := 37) (n := 0) (ci := 12) (C := R_Book) B (mK_ok sk sv) hNs rfl rfl (ihE (f - 1) (by omega) _ len th _ _ _ _ (by omega) hS.P) rfl (ma_goodc kc_Book_expression) (B.2.2.2.1 _ k_2245) (B.2.2.2.1 _ k_2247) (B.2.2.2.1 _ ks_104) (B.2.2.2.1 _ k_13) ⟨by decide +kernel, by decide +kernel, by decide +kernel⟩ rfl d_Book_primary_37 rfl (Nat.le_of_ble_eq_true rfl) ⟨by first | decide | (dsimp only; omega), by first | decide | (dsimp only; omega)⟩ ⟨Nat.le_refl _, Nat.le_refl _⟩ ⟨Nat.le_refl _, Nat.le_refl _⟩ (mv_noH hno _) (fun τ9 g9 => Or.inr ⟨rfl, hS.1.2.1.bf.tr g9⟩) (fun v37 σ37 h37 => ?_)
      obtain ⟨n37, t37, u37, s37, m37, r37, x37⟩ := h37
      have i37 := s37.2.2.2.1
      have hS := hS.sub s37 x37
      refine mv_istore_n (pc := 40) B d_Book_primary_40 rfl (by decide) rfl ?_
      refine mv_aload_n (pc := 41) B d_Book_primary_41 rfl 1 rfl ?_
      refine mv_bipush (pc := 42) (v := 41) B d_Book_primary_42 (by decide) ?_
      refine mv_callVUv (pc := 44) (n := 1) (ci := 12) (C := R_Book) B (mK_ok sk sv) hNs rfl rfl (c_Book_need_y l hi _ _ len _ _ hS.P.1) rfl (ma_goodc kc_Book_need) (B.2.2.2.1 _ k_2177) (B.2.2.2.1 _ k_2179) (B.2.2.2.1 _ ks_91) (B.2.2.2.1 _ k_13) ⟨by decide +kernel, by decide +kernel, by decide +kernel⟩ rfl d_Book_primary_44 rfl (Nat.le_of_ble_eq_true rfl) ⟨by first | decide | (dsimp only; omega), by first | decide | (dsimp only; omega)⟩ ⟨Nat.le_refl _, Nat.le_refl _⟩ ⟨Nat.le_refl _, Nat.le_refl _⟩ (mv_noH hno _) (fun τ9 g9 => Or.inr ⟨rfl, hS.1.2.1.bf.tr g9.bf⟩) (fun σ44 h44 => ?_)
      obtain ⟨k44, d44, t44, u44, q44, g44⟩ := h44
      have w44 := hS.P.w (by rw [k44]; decide)
      rw [hS.P.2.1] at d44
      have hL0 := hS.le
      have hS := hS.pass q44 g44
      refine mv_aload_n (pc := 47) B d_Book_primary_47 rfl 1 rfl ?_
      refine mv_dup (pc := 48) B d_Book_primary_48 rfl ?_
      refine mv_getI (pc := 49) (ci := 12) (C := R_Book) (T := F_Book) (N := 65) B 8 rfl rfl (by decide) i_Book (B.2.2.2.1 _ k_1851) rfl d_Book_primary_49 ?_
      refine mv_iconst (pc := 52) (v := 1) B d_Book_primary_52 (by decide) ?_
      refine mv_isub (pc := 53) B d_Book_primary_53 ?_
      refine mv_putI (pc := 54) (ci := 12) (C := R_Book) (T := F_Book) (N := 65) B 8 rfl rfl (by decide) i_Book t_Book_ok n_Book (B.2.2.2.1 _ k_1851) rfl rfl rfl rfl d_Book_primary_54 ?_
      refine mv_gen (fun S57 eS57 => ?_)
      have hS := hS.dep hS.P.dn
      rw [← eS57] at hS
      clear eS57
      refine mv_iload_n (pc := 57) B d_Book_primary_57 rfl 0 rfl ?_
      exact mv_iret (pc := 58) B hr rfl d_Book_primary_58 (Nat.le_refl _) (Nat.le_refl _) (Or.inl ⟨_, rfl, hS.out r37 m37 0 rfl (by omega)⟩)
  · skip
    refine mv_aload_n (pc := 8) B d_Book_primary_8 rfl 0 rfl ?_
    refine mv_callVUi (pc := 9) (n := 0) (ci := 12) (C := R_Book) B (mK_ok sk sv) hNs rfl rfl (c_Book_literal_y l hi _ f len th _ _ _ _ hf hS.P h5) rfl (ma_goodc kc_Book_literal) (B.2.2.2.1 _ k_2265) (B.2.2.2.1 _ k_2267) (B.2.2.2.1 _ ks_109) (B.2.2.2.1 _ k_13) ⟨by decide +kernel, by decide +kernel, by decide +kernel⟩ rfl d_Book_primary_9 rfl (Nat.le_of_ble_eq_true rfl) ⟨by first | decide | (dsimp only; omega), by first | decide | (dsimp only; omega)⟩ ⟨Nat.le_refl _, Nat.le_refl _⟩ ⟨Nat.le_refl _, Nat.le_refl _⟩ (mv_noH hno _) (fun τ9 g9 => Or.inr ⟨rfl, hS.1.2.1.bf.tr g9⟩) (fun v9 σ9 h9 => ?_)
    obtain ⟨n9, t9, u9, s9, m9, r9, x9⟩ := h9
    have i9 := s9.2.2.2.1
    have hS := hS.sub s9 x9
    exact mv_iret (pc := 12) B hr rfl d_Book_primary_12 (Nat.le_refl _) (Nat.le_refl _) (Or.inl ⟨_, rfl, hS.out r9 m9 0 rfl (Nat.le_refl _)⟩)
