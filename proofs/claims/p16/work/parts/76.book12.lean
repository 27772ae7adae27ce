/-! the reference's Book: if, statement -/
theorem RG.two {B th n m n' R1 R2 r : Nat} {τ : mv_H} (h1 : n < m → XR B th τ n m R1) (h2 : XR B th τ m n' R2) (a : n ≤ m) (b : m < n') (g1 : R1 ≤ 629) (g2 : R2 ≤ 629) : ∃ g, RG B th τ g n n' r := by
  obtain ⟨k2, h3⟩ := RG.ofX (r := r) h2 g2
  by_cases z : n < m
  · obtain ⟨k1, h4⟩ := RG.ofX (r := r) (h1 z) g1
    exact ⟨_, h4.cat h3 a (by omega) (Nat.le_refl _) (Nat.le_refl _)⟩
  · have e : m = n := by omega
    subst e
    exact ⟨k2, h3⟩
theorem SX.x {B th lo q l1 h1 R : Nat} {τ : mv_H} {v : Int32} (h : XR B th τ l1 h1 R) (hv : v.toInt + 1 = h1) (a1 : l1 < h1) (a2 : h1 ≤ q) (hl : lo ≤ l1) : SX B τ lo q v := ⟨h1 - 1, by omega, by omega, by omega, h.all _ (by omega) (by omega)⟩
theorem Stb.im {B lo hi : Nat} {p : Prop} {P : mv_H → Prop} (h : Stb B lo hi P) : Stb B lo hi (fun τ => p → P τ) := fun τ τ' e k z => h τ τ' e (k z)
theorem Stb.any {B lo hi : Nat} : Stb B lo hi (fun _ => True) := fun _ _ _ _ => trivial
/-- a row of ifs and the next one's node -/
def JJ (B th : Nat) (τ : mv_H) (n m hi r : Nat) (v w : Int) : Prop := II B th τ n m r v w ∧ (∃ g : Gh, RG B th τ g m (hi + 1) r ∧ g.1 hi = r ∧ g.2 hi = m) ∧ IN B τ hi
theorem Stb.jj {B th n m hi r : Nat} {v w : Int} (a : n ≤ m) (b : m ≤ hi) : Stb B n (hi + 1) (fun τ => JJ B th τ n m hi r v w) := fun τ τ' e h => by
  obtain ⟨h1, ⟨g, h2, h3⟩, h4, h5, h6⟩ := h
  refine ⟨h1.fr (fun o j a1 a2 a3 a4 => e o j a1 a2 a3 (by omega)), ⟨g, h2.fr (Nat.le_refl _) (Nat.le_refl _) (Nat.le_refl _) (fun o j a1 a2 a3 a4 => e o j a1 a2 (by omega) a4) (fun _ _ _ => ⟨rfl, rfl⟩), h3⟩, ?_, ?_, ?_⟩
  · show (mv_a τ' (B + 18) hi).toInt = 18
    rw [e _ hi (by omega) (by omega) (by omega) (by omega)]
    exact h4
  · show (mv_a τ' (B + 22) hi).toInt = -1
    rw [e _ hi (by omega) (by omega) (by omega) (by omega)]
    exact h5
  · rw [e _ hi (by omega) (by omega) (by omega) (by omega)]
    exact h6
theorem JJ.of {B th n m c1 hi r rb R : Nat} {v w : Int} {τ : mv_H} {x y w0 : Int32} (h : II B th τ n m r v w) (hx : XR B th τ m c1 R) (hR : R ≤ 629) (hb : BR B th τ c1 hi rb y.toInt) (a1 : m < c1) (a2 : c1 ≤ hi) (hrb : rb < r) (hn : (mv_i τ B 48).toNatClampNeg = hi) (hxv : x.toInt + 1 = c1) : JJ B th (nd B τ 18 x y (-1) w0) n m hi r v w :=
  ⟨h.fr (fun o j _ _ _ z => nd_o (by rw [hn]; omega)), RG.if hx hR hb a1 a2 hrb hn hxv, IN.of hn⟩
theorem JJ.first {B th n m hi r : Nat} {v w : Int} {τ : mv_H} (h : JJ B th τ n m hi r v w) (hw : w < 0) (hm : m ≤ hi) : II B th τ n (hi + 1) r hi hi := by
  obtain ⟨h1, ⟨g, h2, h3, h4⟩, h5⟩ := h
  rcases h1 with ⟨-, -, e⟩ | ⟨-, t, u, -, z, -⟩
  · subst e
    exact II.one h2 h3 h4 hm h5
  · omega
theorem JJ.next {B th n m hi r u t : Nat} {x y : Int32} {τ : mv_H} (h : JJ B th τ n m hi r t u) (hm : m ≤ hi) (hx : x.toInt = hi) (hy : ¬ y = 0) : II B th (mv_sa (mv_sa τ (B + 21) u x) (B + 25) u y) n (hi + 1) r t hi := by
  obtain ⟨h1, ⟨g, h2, h3, h4⟩, h5⟩ := h
  refine II.next (x := x) (y := y) h1 h2 h3 h4 hm h5 (fun o j z => ?_) ?_ (mv_u_same _ _ _ _) hx hy
  · show mv_u (mv_u _ _ _ _) _ _ _ o j = _
    rw [mv_u_ne _ _ (by omega), mv_u_ne _ _ (by omega)]
  · show mv_u (mv_u _ _ _ _) _ _ _ _ _ = _
    rw [mv_u_ne _ _ (by omega), mv_u_same]

def y_Book_ifStatement : MethodName := ⟨"MachineLoomModel$Book", "ifStatement", "()I"⟩
abbrev b_Book_ifStatement : ByteArray := prog_15_method_50_code
theorem kc_Book_ifStatement : Cond.code y_Book_ifStatement b_Book_ifStatement 7 (Option.some Jvm.ClassFile.FieldType.int) ∈ ma := ma_of (tb_10 _ (List.mem_of_getElem? (i := 171) rfl)) rfl
theorem k_2232 : (Jvm.Cond.methodLink "MachineLoomModel$Book" (385 : Nat) ({ cls := "MachineLoomModel$Book", name := "block", desc := "()I" } : Jvm.MethodName)) ∈ ma := ma_of (tb_10 _ (List.mem_of_getElem? (i := 72) rfl)) rfl
theorem k_2234 : (Jvm.Cond.instanceMethod ({ cls := "MachineLoomModel$Book", name := "block", desc := "()I" } : Jvm.MethodName)) ∈ ma := ma_of (tb_10 _ (List.mem_of_getElem? (i := 74) rfl)) rfl
theorem ks_101 : Cond.selects "MachineLoomModel$Book" ⟨"MachineLoomModel$Book", "block", "()I"⟩ ⟨"MachineLoomModel$Book", "block", "()I"⟩ ∈ ma := ma_sel 101 rfl rfl
theorem d_Book_ifStatement_0 : decode b_Book_ifStatement 0 = .ok (.iconst (-1), 1) := by decide +kernel
theorem d_Book_ifStatement_1 : decode b_Book_ifStatement 1 = .ok (.istore_n 1, 1) := by decide +kernel
theorem d_Book_ifStatement_2 : decode b_Book_ifStatement 2 = .ok (.iconst (-1), 1) := by decide +kernel
theorem d_Book_ifStatement_3 : decode b_Book_ifStatement 3 = .ok (.istore_n 2, 1) := by decide +kernel
theorem d_Book_ifStatement_4 : decode b_Book_ifStatement 4 = .ok (.aload_n 0, 1) := by decide +kernel
theorem d_Book_ifStatement_5 : decode b_Book_ifStatement 5 = .ok (.getfield 174, 3) := by decide +kernel
theorem d_Book_ifStatement_8 : decode b_Book_ifStatement 8 = .ok (.istore_n 3, 1) := by decide +kernel
theorem d_Book_ifStatement_9 : decode b_Book_ifStatement 9 = .ok (.aload_n 0, 1) := by decide +kernel
theorem d_Book_ifStatement_10 : decode b_Book_ifStatement 10 = .ok (.invokevirtual 203, 3) := by decide +kernel
theorem d_Book_ifStatement_13 : decode b_Book_ifStatement 13 = .ok (.aload_n 0, 1) := by decide +kernel
theorem d_Book_ifStatement_14 : decode b_Book_ifStatement 14 = .ok (.invokevirtual 256, 3) := by decide +kernel
theorem d_Book_ifStatement_17 : decode b_Book_ifStatement 17 = .ok (.istore 4, 2) := by decide +kernel
theorem d_Book_ifStatement_19 : decode b_Book_ifStatement 19 = .ok (.aload_n 0, 1) := by decide +kernel
theorem d_Book_ifStatement_20 : decode b_Book_ifStatement 20 = .ok (.getfield 97, 3) := by decide +kernel
theorem d_Book_ifStatement_23 : decode b_Book_ifStatement 23 = .ok (.iload 4, 2) := by decide +kernel
theorem d_Book_ifStatement_25 : decode b_Book_ifStatement 25 = .ok (.iaload, 1) := by decide +kernel
theorem d_Book_ifStatement_26 : decode b_Book_ifStatement 26 = .ok (.iconst 1, 1) := by decide +kernel
theorem d_Book_ifStatement_27 : decode b_Book_ifStatement 27 = .ok (.if_icmp .le (9), 3) := by decide +kernel
theorem d_Book_ifStatement_30 : decode b_Book_ifStatement 30 = .ok (.aload_n 0, 1) := by decide +kernel
theorem d_Book_ifStatement_31 : decode b_Book_ifStatement 31 = .ok (.iconst 4, 1) := by decide +kernel
theorem d_Book_ifStatement_32 : decode b_Book_ifStatement 32 = .ok (.iload_n 3, 1) := by decide +kernel
theorem d_Book_ifStatement_33 : decode b_Book_ifStatement 33 = .ok (.invokevirtual 267, 3) := by decide +kernel
theorem d_Book_ifStatement_36 : decode b_Book_ifStatement 36 = .ok (.aload_n 0, 1) := by decide +kernel
theorem d_Book_ifStatement_37 : decode b_Book_ifStatement 37 = .ok (.invokevirtual 385, 3) := by decide +kernel
theorem d_Book_ifStatement_40 : decode b_Book_ifStatement 40 = .ok (.istore 5, 2) := by decide +kernel
theorem d_Book_ifStatement_42 : decode b_Book_ifStatement 42 = .ok (.aload_n 0, 1) := by decide +kernel
theorem d_Book_ifStatement_43 : decode b_Book_ifStatement 43 = .ok (.bipush 18, 2) := by decide +kernel
theorem d_Book_ifStatement_45 : decode b_Book_ifStatement 45 = .ok (.iload 4, 2) := by decide +kernel
theorem d_Book_ifStatement_47 : decode b_Book_ifStatement 47 = .ok (.iload 5, 2) := by decide +kernel
theorem d_Book_ifStatement_49 : decode b_Book_ifStatement 49 = .ok (.iconst (-1), 1) := by decide +kernel
theorem d_Book_ifStatement_50 : decode b_Book_ifStatement 50 = .ok (.iconst 0, 1) := by decide +kernel
theorem d_Book_ifStatement_51 : decode b_Book_ifStatement 51 = .ok (.invokevirtual 271, 3) := by decide +kernel
theorem d_Book_ifStatement_54 : decode b_Book_ifStatement 54 = .ok (.istore 6, 2) := by decide +kernel
theorem d_Book_ifStatement_56 : decode b_Book_ifStatement 56 = .ok (.iload_n 2, 1) := by decide +kernel
theorem d_Book_ifStatement_57 : decode b_Book_ifStatement 57 = .ok (.ifCond .ge (9), 3) := by decide +kernel
theorem d_Book_ifStatement_60 : decode b_Book_ifStatement 60 = .ok (.iload 6, 2) := by decide +kernel
theorem d_Book_ifStatement_62 : decode b_Book_ifStatement 62 = .ok (.istore_n 1, 1) := by decide +kernel
theorem d_Book_ifStatement_63 : decode b_Book_ifStatement 63 = .ok (.goto (18), 3) := by decide +kernel
theorem d_Book_ifStatement_66 : decode b_Book_ifStatement 66 = .ok (.aload_n 0, 1) := by decide +kernel
theorem d_Book_ifStatement_67 : decode b_Book_ifStatement 67 = .ok (.getfield 91, 3) := by decide +kernel
theorem d_Book_ifStatement_70 : decode b_Book_ifStatement 70 = .ok (.iload_n 2, 1) := by decide +kernel
theorem d_Book_ifStatement_71 : decode b_Book_ifStatement 71 = .ok (.iload 6, 2) := by decide +kernel
theorem d_Book_ifStatement_73 : decode b_Book_ifStatement 73 = .ok (.iastore, 1) := by decide +kernel
theorem d_Book_ifStatement_74 : decode b_Book_ifStatement 74 = .ok (.aload_n 0, 1) := by decide +kernel
theorem d_Book_ifStatement_75 : decode b_Book_ifStatement 75 = .ok (.getfield 104, 3) := by decide +kernel
theorem d_Book_ifStatement_78 : decode b_Book_ifStatement 78 = .ok (.iload_n 2, 1) := by decide +kernel
theorem d_Book_ifStatement_79 : decode b_Book_ifStatement 79 = .ok (.iconst 1, 1) := by decide +kernel
theorem d_Book_ifStatement_80 : decode b_Book_ifStatement 80 = .ok (.bastore, 1) := by decide +kernel
theorem d_Book_ifStatement_81 : decode b_Book_ifStatement 81 = .ok (.iload 6, 2) := by decide +kernel
theorem d_Book_ifStatement_83 : decode b_Book_ifStatement 83 = .ok (.istore_n 2, 1) := by decide +kernel
theorem d_Book_ifStatement_84 : decode b_Book_ifStatement 84 = .ok (.aload_n 0, 1) := by decide +kernel
theorem d_Book_ifStatement_85 : decode b_Book_ifStatement 85 = .ok (.ldc_w 404, 3) := by decide +kernel
theorem d_Book_ifStatement_88 : decode b_Book_ifStatement 88 = .ok (.invokevirtual 219, 3) := by decide +kernel
theorem d_Book_ifStatement_91 : decode b_Book_ifStatement 91 = .ok (.ifCond .ne (5), 3) := by decide +kernel
theorem d_Book_ifStatement_94 : decode b_Book_ifStatement 94 = .ok (.iload_n 1, 1) := by decide +kernel
theorem d_Book_ifStatement_95 : decode b_Book_ifStatement 95 = .ok (.ireturn, 1) := by decide +kernel
theorem d_Book_ifStatement_96 : decode b_Book_ifStatement 96 = .ok (.aload_n 0, 1) := by decide +kernel
theorem d_Book_ifStatement_97 : decode b_Book_ifStatement 97 = .ok (.invokevirtual 203, 3) := by decide +kernel
theorem d_Book_ifStatement_100 : decode b_Book_ifStatement 100 = .ok (.aload_n 0, 1) := by decide +kernel
theorem d_Book_ifStatement_101 : decode b_Book_ifStatement 101 = .ok (.ldc_w 399, 3) := by decide +kernel
theorem d_Book_ifStatement_104 : decode b_Book_ifStatement 104 = .ok (.invokevirtual 219, 3) := by decide +kernel
theorem d_Book_ifStatement_107 : decode b_Book_ifStatement 107 = .ok (.ifCond .eq (6), 3) := by decide +kernel
theorem d_Book_ifStatement_110 : decode b_Book_ifStatement 110 = .ok (.goto (-106), 3) := by decide +kernel
theorem d_Book_ifStatement_113 : decode b_Book_ifStatement 113 = .ok (.aload_n 0, 1) := by decide +kernel
theorem d_Book_ifStatement_114 : decode b_Book_ifStatement 114 = .ok (.getfield 91, 3) := by decide +kernel
theorem d_Book_ifStatement_117 : decode b_Book_ifStatement 117 = .ok (.iload_n 2, 1) := by decide +kernel
theorem d_Book_ifStatement_118 : decode b_Book_ifStatement 118 = .ok (.aload_n 0, 1) := by decide +kernel
theorem d_Book_ifStatement_119 : decode b_Book_ifStatement 119 = .ok (.invokevirtual 385, 3) := by decide +kernel
theorem d_Book_ifStatement_122 : decode b_Book_ifStatement 122 = .ok (.iastore, 1) := by decide +kernel
theorem d_Book_ifStatement_123 : decode b_Book_ifStatement 123 = .ok (.iload_n 1, 1) := by decide +kernel
theorem d_Book_ifStatement_124 : decode b_Book_ifStatement 124 = .ok (.ireturn, 1) := by decide +kernel
set_option maxHeartbeats 4000000 in
set_option maxRecDepth 100000 in
theorem c_Book_ifStatement_x (l : Launch) {dA : FieldType → ClassId} {D : va_G} {al : Nat → Nat} {ext : mv_Sh} {sk sv : Nat → Nat} (hi : mv_inj (mg dA D al ext)) (σ : mv_H) (f len th q ev d n a1 a2 : Nat) (hf : d + f = 61) (hP : SS 74 len th q ev d n a1 a2 σ) (hk : mv_i σ 74 4 = 1) (hB : YBl l dA D al ext sk sv 74 f) : mv_C l y_Book_ifStatement (Cond.code y_Book_ifStatement b_Book_ifStatement 7 (Option.some Jvm.ClassFile.FieldType.int) :: ma) ({ frames := 14 * f + 25, cells := 0, slots := 0, locals := 500 * f + 930 }) (mg dA D al ext) (mK sk sv) [.ref (al 74)] σ (mv_Ui (YO 74 len th q ev d n a1 (f + 1) σ) ("MachineLoomModel$Book$Wrong", al 107) (BF 74 σ)) := by
  refine mv_C.ofV (cc := b_Book_ifStatement) (nL := 7) (ret := (Option.some Jvm.ClassFile.FieldType.int)) (by decide +kernel) rfl hi (Nat.le_of_ble_eq_true rfl) ?_
  intro p e s m below meth c B hNs hr hnm hno
  have hS := YT.rf hP
  have hn0 := hP.1.le.1
  have hL00 := hS.le
  have lp : ∀ (nn : Nat) (S : mv_H) (e8 : Nat) (n8 : Nat) (t8 : Nat) (u8 : Nat) (v8 : Int32) (w8 : Int32) (hS : YT 74 len th σ q ev n a1 S q e8 d n8 t8 u8 [(n, n8, fun τ => II 74 th τ n (n8) (f + 1) (v8.toInt) (w8.toInt))]) (hk8 : mv_i S 74 4 = 1) (hvw : (w8.toInt = -1 ∧ v8.toInt = -1) ∨ (n ≤ v8.toInt ∧ v8.toInt ≤ w8.toInt ∧ w8.toInt + 1 = n8)), len + 1 - t8 < nn → mv_V p l e ({ frames := 14 * f + 25, cells := 0, slots := 0, locals := 500 * f + 930 }) s m ([.ref (al 74)] : List Value).toArray below meth c (mg dA D al ext) 7 0 0 (mv_Q (mg dA D al ext) below s 0 0 (mv_Ui (YO 74 len th q ev d n a1 (f + 1) σ) ("MachineLoomModel$Book$Wrong", al 107) (BF 74 σ))) S 4 [(2, .int w8), (1, .int v8), (0, .ref (al 74))] [] := by
    intro nn
    induction nn with
    | zero => intro S e8 n8 t8 u8 v8 w8 hS hk8 hvw hm; exact absurd hm (Nat.not_lt_zero _)
    | succ nn ih =>
      intro S e8 n8 t8 u8 v8 w8 hS hk8 hvw hm
      have hL8 := hS.le
      refine mv_aload_n (pc := 4) B d_Book_ifStatement_4 rfl 2 rfl ?_
      refine mv_getI (pc := 5) (ci := 12) (C := R_Book) (T := F_Book) (N := 65) B 5 rfl rfl (by decide) i_Book (B.2.2.2.1 _ k_1848) rfl d_Book_ifStatement_5 ?_
      refine mv_istore_n (pc := 8) B d_Book_ifStatement_8 rfl (by decide) rfl ?_
      refine mv_aload_n (pc := 9) B d_Book_ifStatement_9 rfl 3 rfl ?_
      refine mv_callVUv (pc := 10) (n := 0) (ci := 12) (C := R_Book) B (mK_ok sk sv) hNs rfl rfl (c_Book_pass_x l hi _ len _ _ hS.P.1) rfl (ma_goodc kc_Book_pass) (B.2.2.2.1 _ k_2173) (B.2.2.2.1 _ k_2175) (B.2.2.2.1 _ ks_90) (B.2.2.2.1 _ k_13) ⟨by decide +kernel, by decide +kernel, by decide +kernel⟩ rfl d_Book_ifStatement_10 rfl (Nat.le_of_ble_eq_true rfl) ⟨by first | decide | (dsimp only; omega), by first | decide | (dsimp only; omega)⟩ ⟨Nat.le_refl _, Nat.le_refl _⟩ ⟨Nat.le_refl _, Nat.le_refl _⟩ (mv_noH hno _) (fun τ9 g9 => Or.inr ⟨rfl, hS.1.2.1.bf.tr g9.bf⟩) (fun σ10 h10 => ?_)
      have w10 := hS.P.w (by rw [hk8]; decide)
      obtain ⟨d10, t10, u10, q10, g10⟩ := h10
      rw [hS.P.2.1] at d10
      have hS := hS.pass q10 g10
      have hL10 := hS.le
      refine mv_aload_n (pc := 13) B d_Book_ifStatement_13 rfl 3 rfl ?_
      refine mv_callVUi (pc := 14) (n := 0) (ci := 12) (C := R_Book) B (mK_ok sk sv) hNs rfl rfl (c_Book_expr_x l hi _ (f) len th _ _ _ _ hf hS.P) rfl (ma_goodc kc_Book_expression) (B.2.2.2.1 _ k_2245) (B.2.2.2.1 _ k_2247) (B.2.2.2.1 _ ks_104) (B.2.2.2.1 _ k_13) ⟨by decide +kernel, by decide +kernel, by decide +kernel⟩ rfl d_Book_ifStatement_14 rfl (Nat.le_of_ble_eq_true rfl) ⟨by first | decide | (dsimp only; omega), by first | decide | (dsimp only; omega)⟩ ⟨Nat.le_refl _, Nat.le_refl _⟩ ⟨Nat.le_refl _, Nat.le_refl _⟩ (mv_noH hno _) (fun τ9 g9 => Or.inr ⟨rfl, hS.1.2.1.bf.tr g9⟩) (fun v14 σ14 h14 => ?_)
      obtain ⟨n14, t14, u14, s14, m14, r14, x14⟩ := h14
      have i14 := s14.2.2.2.1
      have hS := hS.ex s14 x14
      have hL14 := hS.le
      have j36 : ∀ (τ : mv_H) (hT : FT 74 σ14 τ), mv_V p l e ({ frames := 14 * f + 25, cells := 0, slots := 0, locals := 500 * f + 930 }) s m ([.ref (al 74)] : List Value).toArray below meth c (mg dA D al ext) 7 0 0 (mv_Q (mg dA D al ext) below s 0 0 (mv_Ui (YO 74 len th q ev d n a1 (f + 1) σ) ("MachineLoomModel$Book$Wrong", al 107) (BF 74 σ))) τ 36 [(4, .int v14), (2, .int w8), (1, .int v8), (0, .ref (al 74))] [] := by
        intro τ hT
        have hS := hS.ft hT
        refine mv_aload_n (pc := 36) B d_Book_ifStatement_36 rfl 3 rfl ?_
        refine mv_callVUi (pc := 37) (n := 0) (ci := 12) (C := R_Book) B (mK_ok sk sv) hNs rfl rfl (hB _ len th _ _ _ _ _ _ hf hS.SS) rfl (ma_goodc kc_Book_block) (B.2.2.2.1 _ k_2232) (B.2.2.2.1 _ k_2234) (B.2.2.2.1 _ ks_101) (B.2.2.2.1 _ k_13) ⟨by decide +kernel, by decide +kernel, by decide +kernel⟩ rfl d_Book_ifStatement_37 rfl (Nat.le_of_ble_eq_true rfl) ⟨by first | decide | (dsimp only; omega), by first | decide | (dsimp only; omega)⟩ ⟨Nat.le_refl _, Nat.le_refl _⟩ ⟨Nat.le_refl _, Nat.le_refl _⟩ (mv_noH hno _) (fun τ9 g9 => Or.inr ⟨rfl, hS.1.2.1.bf.tr g9⟩) (fun v37 σ37 h37 => ?_)
        obtain ⟨e37, n37, t37, u37, s37, i37, x37⟩ := h37
        have y37 := s37.2.2.2.2.2.2.1
        have o37 := s37.2.2.2.2.2.1
        have hS := hS.sub s37 Stb.br x37
        have hL37 := hS.le
        refine mv_istore (pc := 40) B d_Book_ifStatement_40 (by decide) rfl ?_
        refine mv_aload_n (pc := 42) B d_Book_ifStatement_42 rfl 4 rfl ?_
        refine mv_bipush (pc := 43) (v := 18) B d_Book_ifStatement_43 (by decide) ?_
        refine mv_iload (pc := 45) B d_Book_ifStatement_45 1 rfl ?_
        refine mv_iload (pc := 47) B d_Book_ifStatement_47 0 rfl ?_
        refine mv_iconst (pc := 49) (v := -1) B d_Book_ifStatement_49 (by decide) ?_
        refine mv_iconst (pc := 50) (v := 0) B d_Book_ifStatement_50 (by decide) ?_
        refine mv_callVi (pc := 51) (n := 5) (ci := 12) (C := R_Book) B (mK_ok sk sv) hNs rfl rfl (c_Book_node_x l hi _ _ _ _ _ _ hS.R (by have := hS.le; omega) (by have := hS.le; omega)) rfl (ma_goodc kc_Book_node) (B.2.2.2.1 _ k_2269) (B.2.2.2.1 _ k_2271) (B.2.2.2.1 _ ks_110) (B.2.2.2.1 _ k_13) ⟨by decide +kernel, by decide +kernel, by decide +kernel⟩ rfl d_Book_ifStatement_51 rfl (Nat.le_of_ble_eq_true rfl) ⟨by first | decide | (dsimp only; omega), by first | decide | (dsimp only; omega)⟩ ⟨Nat.le_refl _, Nat.le_refl _⟩ ⟨Nat.le_refl _, Nat.le_refl _⟩ (mv_noH hno _) (fun v51 σ51 h51 => ?_)
        obtain ⟨e51, z51⟩ := h51
        have hN := hS.node z51 (lo := n) (P := fun τ => JJ 74 th τ n n8 n37 (f + 1) v8.toInt w8.toInt) (by omega) hn0 (Stb.jj (by omega) (by omega)) (fun zz => by
          have y1 := hS.2.at 2 rfl zz
          have y2 := hS.2.at 1 rfl zz
          have y3 := hS.2.at 0 rfl zz
          rw [z51]
          exact JJ.of y1 y2 (by omega) y3 m14 (by omega) (Nat.lt_succ_self _) hS.P.nn r14)
        have hv51 : v51.toInt = ((n37 : Nat) : Int) := by rw [e51]; omega
        have j81 : ∀ (S9 : mv_H) (v9 : Int32) (hS : YT 74 len th σ q ev n a1 S9 q e37 d (n37 + 1) t37 u37 [(n, n37 + 1, fun τ => II 74 th τ n (n37 + 1) (f + 1) (v9.toInt) (v51.toInt))]) (hv9 : n ≤ v9.toInt ∧ v9.toInt ≤ n37), mv_V p l e ({ frames := 14 * f + 25, cells := 0, slots := 0, locals := 500 * f + 930 }) s m ([.ref (al 74)] : List Value).toArray below meth c (mg dA D al ext) 7 0 0 (mv_Q (mg dA D al ext) below s 0 0 (mv_Ui (YO 74 len th q ev d n a1 (f + 1) σ) ("MachineLoomModel$Book$Wrong", al 107) (BF 74 σ))) S9 81 [(6, .int v51), (1, .int v9), (0, .ref (al 74))] [] := by
          intro S9 v9 hS hv9
          have hL81 := hS.le
          obtain ⟨k9, hk9⟩ : ∃ k : Nat, v9.toInt = k := ⟨v9.toInt.toNat, by omega⟩
          refine mv_iload (pc := 81) B d_Book_ifStatement_81 0 rfl ?_
          refine mv_istore_n (pc := 83) B d_Book_ifStatement_83 rfl (by decide) rfl ?_
          refine mv_aload_n (pc := 84) B d_Book_ifStatement_84 rfl 3 rfl ?_
          refine mv_ldcwS (pc := 85) B (hNs.2.1 156 (by decide)).1 d_Book_ifStatement_85 ?_
          refine mv_callVi (pc := 88) (n := 1) (ci := 12) (C := R_Book) B (mK_ok sk sv) hNs rfl rfl (c_Book_is_x l hi _ 156 (by decide) len _ _ hS.P.1) rfl (ma_goodc kc_Book_is) (B.2.2.2.1 _ k_2163) (B.2.2.2.1 _ k_2165) (B.2.2.2.1 _ ks_88) (B.2.2.2.1 _ k_13) ⟨by decide +kernel, by decide +kernel, by decide +kernel⟩ rfl d_Book_ifStatement_88 rfl (Nat.le_of_ble_eq_true rfl) ⟨by first | decide | (dsimp only; omega), by first | decide | (dsimp only; omega)⟩ ⟨Nat.le_refl _, Nat.le_refl _⟩ ⟨Nat.le_refl _, Nat.le_refl _⟩ (mv_noH hno _) (fun v88 σ88 h88 => ?_)
          obtain ⟨e88, z88⟩ := h88
          have e88 := e88.symm
          subst e88
          refine mv_if_ne (pc := 91) (tgt := 96) B d_Book_ifStatement_91 rfl (fun h91 => ?_) (fun h91 => ?_)
          · skip
            refine mv_aload_n (pc := 96) B d_Book_ifStatement_96 rfl 3 rfl ?_
            refine mv_callVUv (pc := 97) (n := 0) (ci := 12) (C := R_Book) B (mK_ok sk sv) hNs rfl rfl (c_Book_pass_x l hi _ len _ _ hS.P.1) rfl (ma_goodc kc_Book_pass) (B.2.2.2.1 _ k_2173) (B.2.2.2.1 _ k_2175) (B.2.2.2.1 _ ks_90) (B.2.2.2.1 _ k_13) ⟨by decide +kernel, by decide +kernel, by decide +kernel⟩ rfl d_Book_ifStatement_97 rfl (Nat.le_of_ble_eq_true rfl) ⟨by first | decide | (dsimp only; omega), by first | decide | (dsimp only; omega)⟩ ⟨Nat.le_refl _, Nat.le_refl _⟩ ⟨Nat.le_refl _, Nat.le_refl _⟩ (mv_noH hno _) (fun τ9 g9 => Or.inr ⟨rfl, hS.1.2.1.bf.tr g9.bf⟩) (fun σ97 h97 => ?_)
            have w97 := hS.P.w (by rw [(z88.resolve_left h91).2]; decide)
            obtain ⟨d97, t97, u97, q97, g97⟩ := h97
            rw [hS.P.2.1] at d97
            have hS := hS.pass q97 g97
            have hL97 := hS.le
            refine mv_aload_n (pc := 100) B d_Book_ifStatement_100 rfl 3 rfl ?_
            refine mv_ldcwS (pc := 101) B (hNs.2.1 155 (by decide)).1 d_Book_ifStatement_101 ?_
            refine mv_callVi (pc := 104) (n := 1) (ci := 12) (C := R_Book) B (mK_ok sk sv) hNs rfl rfl (c_Book_is_x l hi _ 155 (by decide) len _ _ hS.P.1) rfl (ma_goodc kc_Book_is) (B.2.2.2.1 _ k_2163) (B.2.2.2.1 _ k_2165) (B.2.2.2.1 _ ks_88) (B.2.2.2.1 _ k_13) ⟨by decide +kernel, by decide +kernel, by decide +kernel⟩ rfl d_Book_ifStatement_104 rfl (Nat.le_of_ble_eq_true rfl) ⟨by first | decide | (dsimp only; omega), by first | decide | (dsimp only; omega)⟩ ⟨Nat.le_refl _, Nat.le_refl _⟩ ⟨Nat.le_refl _, Nat.le_refl _⟩ (mv_noH hno _) (fun v104 σ104 h104 => ?_)
            obtain ⟨e104, z104⟩ := h104
            have e104 := e104.symm
            subst e104
            refine mv_if_eq (pc := 107) (tgt := 113) B d_Book_ifStatement_107 rfl (fun h107 => ?_) (fun h107 => ?_)
            · skip
              refine mv_aload_n (pc := 113) B d_Book_ifStatement_113 rfl 3 rfl ?_
              refine mv_getR (pc := 114) (ci := 12) (C := R_Book) (T := F_Book) (N := 65) B 43 rfl rfl (by decide) i_Book (B.2.2.2.1 _ k_1892) rfl (hS.R.1 _ 43 _ rfl) d_Book_ifStatement_114 ?_
              refine mv_iload_n (pc := 117) B d_Book_ifStatement_117 rfl 0 rfl ?_
              refine mv_aload_n (pc := 118) B d_Book_ifStatement_118 rfl 3 rfl ?_
              refine mv_callVUi (pc := 119) (n := 0) (ci := 12) (C := R_Book) B (mK_ok sk sv) hNs rfl rfl (hB _ len th _ _ _ _ _ _ hf hS.SS) rfl (ma_goodc kc_Book_block) (B.2.2.2.1 _ k_2232) (B.2.2.2.1 _ k_2234) (B.2.2.2.1 _ ks_101) (B.2.2.2.1 _ k_13) ⟨by decide +kernel, by decide +kernel, by decide +kernel⟩ rfl d_Book_ifStatement_119 rfl (Nat.le_of_ble_eq_true rfl) ⟨by first | decide | (dsimp only; omega), by first | decide | (dsimp only; omega)⟩ ⟨Nat.le_refl _, Nat.le_refl _⟩ ⟨Nat.le_refl _, Nat.le_refl _⟩ (mv_noH hno _) (fun τ9 g9 => Or.inr ⟨rfl, hS.1.2.1.bf.tr g9⟩) (fun v119 σ119 h119 => ?_)
              obtain ⟨e119, n119, t119, u119, s119, i119, x119⟩ := h119
              have y119 := s119.2.2.2.2.2.2.1
              have o119 := s119.2.2.2.2.2.1
              have hS := hS.sub s119 Stb.br x119
              have hL119 := hS.le
              refine mv_iast (pc := 122) B rfl (i32_in (by omega) (by omega)) d_Book_ifStatement_122 ?_
              refine mv_gen (fun S123 eS123 => ?_)
              have hc51 := i32_cl (x := v51) (by omega)
              have hS := hS.row (lo := n) (o := 95) (k := v51.toNatClampNeg) (v := v119) (P := fun τ => SR 74 th τ n n119 (f + 1) k9) (by omega) (by omega) Stb.sr (fun zz => by
                have y1 := hS.2.at 1 rfl zz
                have y2 := hS.2.at 0 rfl zz
                rw [hk9, ← hc51] at y1
                exact II.last y1 y2 (by omega) (Nat.lt_succ_self _) (fun o j z => mv_u_ne _ _ z) (mv_u_same _ _ _ _))
              rw [← eS123] at hS
              clear eS123
              refine mv_iload_n (pc := 123) B d_Book_ifStatement_123 rfl 2 rfl ?_
              exact mv_iret (pc := 124) B hr rfl d_Book_ifStatement_124 (Nat.le_refl _) (Nat.le_refl _) (Or.inl ⟨_, rfl, _, _, _, _, _, k9, hS.1, by omega, hk9, by omega, by omega, fun zz => hS.2.at 0 rfl zz⟩)
            · skip
              refine mv_goto (pc := 110) (tgt := 4) B d_Book_ifStatement_110 rfl ?_
              refine mv_lpick [0, 2, 3] rfl ?_
              exact ih _ _ _ _ _ _ _ hS (z104.resolve_left h107).2 (Or.inr (by omega)) (by omega)
          · skip
            refine mv_iload_n (pc := 94) B d_Book_ifStatement_94 rfl 2 rfl ?_
            exact mv_iret (pc := 95) B hr rfl d_Book_ifStatement_95 (Nat.le_refl _) (Nat.le_refl _) (Or.inl ⟨_, rfl, _, _, _, _, _, k9, hS.1, by omega, hk9, by omega, by omega, fun zz => by have y := hS.2.at 0 rfl zz; rw [hk9] at y; exact y.sr⟩)
        refine mv_istore (pc := 54) B d_Book_ifStatement_54 (by decide) rfl ?_
        refine mv_iload_n (pc := 56) B d_Book_ifStatement_56 rfl 3 rfl ?_
        refine mv_if_ge (pc := 57) (tgt := 66) B d_Book_ifStatement_57 rfl (fun h57 => ?_) (fun h57 => ?_)
        · skip
          have hw9 : 0 ≤ w8.toInt := Int32.le_iff_toInt_le.mp h57
          refine mv_aload_n (pc := 66) B d_Book_ifStatement_66 rfl 5 rfl ?_
          refine mv_getR (pc := 67) (ci := 12) (C := R_Book) (T := F_Book) (N := 65) B 43 rfl rfl (by decide) i_Book (B.2.2.2.1 _ k_1892) rfl (hN.R.1 _ 43 _ rfl) d_Book_ifStatement_67 ?_
          refine mv_iload_n (pc := 70) B d_Book_ifStatement_70 rfl 3 rfl ?_
          refine mv_iload (pc := 71) B d_Book_ifStatement_71 0 rfl ?_
          refine mv_iast (pc := 73) B rfl (i32_in (by omega) (by omega)) d_Book_ifStatement_73 ?_
          refine mv_aload_n (pc := 74) B d_Book_ifStatement_74 rfl 5 rfl ?_
          refine mv_getR (pc := 75) (ci := 12) (C := R_Book) (T := F_Book) (N := 65) B 47 rfl rfl (by decide) i_Book (B.2.2.2.1 _ k_1896) rfl (hN.R.1 _ 47 _ rfl) d_Book_ifStatement_75 ?_
          refine mv_iload_n (pc := 78) B d_Book_ifStatement_78 rfl 3 rfl ?_
          refine mv_iconst (pc := 79) (v := 1) B d_Book_ifStatement_79 (by decide) ?_
          refine mv_zast (pc := 80) B rfl (i32_in (by omega) (by omega)) d_Book_ifStatement_80 ?_
          refine mv_lpick [0, 4, 5] rfl ?_
          have hc9 := i32_cl (x := w8) hw9
          obtain ⟨k8, hk8v⟩ : ∃ k : Nat, v8.toInt = k := ⟨v8.toInt.toNat, by omega⟩
          exact j81 _ _ ((hN.row (lo := n) (o := 95) (k := w8.toNatClampNeg) (v := v51) (P := fun _ => True) (by omega) (by omega) Stb.any (fun _ => trivial)).row (lo := n) (o := 99) (k := w8.toNatClampNeg) (v := vp_nar .boolean 1) (P := fun τ => II 74 th τ n (n37 + 1) (f + 1) (v8.toInt) (v51.toInt)) (by omega) (by omega) Stb.ii (fun zz => by
            have y1 := hN.2.at 0 rfl zz
            rw [hk8v, ← hc9] at y1
            rw [hk8v, hv51]
            exact y1.next (by omega) hv51 (by decide))) (by omega)
        · skip
          have hw9 : ¬ 0 ≤ w8.toInt := fun z => h57 (Int32.le_iff_toInt_le.mpr z)
          refine mv_iload (pc := 60) B d_Book_ifStatement_60 0 rfl ?_
          refine mv_istore_n (pc := 62) B d_Book_ifStatement_62 rfl (by decide) rfl ?_
          refine mv_goto (pc := 63) (tgt := 81) B d_Book_ifStatement_63 rfl ?_
          refine mv_lpick [1, 0, 5] rfl ?_
          exact j81 _ _ (hN.w (lo := n) (P := fun _ => True) (P' := fun τ => II 74 th τ n (n37 + 1) (f + 1) (v51.toInt) (v51.toInt)) (Nat.le_refl _) Stb.ii (fun zz => by rw [hv51]; exact (hN.2.at 0 rfl zz).first (by omega) (by omega))) (by omega)
      refine mv_istore (pc := 17) B d_Book_ifStatement_17 (by decide) rfl ?_
      refine mv_aload_n (pc := 19) B d_Book_ifStatement_19 rfl 4 rfl ?_
      refine mv_getR (pc := 20) (ci := 12) (C := R_Book) (T := F_Book) (N := 65) B 45 rfl rfl (by decide) i_Book (B.2.2.2.1 _ k_1894) rfl (hS.R.1 _ 45 _ rfl) d_Book_ifStatement_20 ?_
      refine mv_iload (pc := 23) B d_Book_ifStatement_23 0 rfl ?_
      refine mv_iald (pc := 25) B rfl (i32_in (by omega) (by omega)) d_Book_ifStatement_25 ?_
      refine mv_iconst (pc := 26) (v := 1) B d_Book_ifStatement_26 (by decide) ?_
      refine mv_icmp_le (pc := 27) (tgt := 36) B d_Book_ifStatement_27 rfl (fun h27 => ?_) (fun h27 => ?_)
      · skip
        refine mv_lpick [0, 2, 3, 4] rfl ?_
        exact j36 _ (by first | exact FT.rf | exact FT.rf.of h33)
      · skip
        refine mv_aload_n (pc := 30) B d_Book_ifStatement_30 rfl 4 rfl ?_
        refine mv_iconst (pc := 31) (v := 4) B d_Book_ifStatement_31 (by decide) ?_
        refine mv_iload_n (pc := 32) B d_Book_ifStatement_32 rfl 1 rfl ?_
        refine mv_callVv (pc := 33) (n := 2) (ci := 12) (C := R_Book) B (mK_ok sk sv) hNs rfl rfl (c_Book_fault_x l hi _ _ _ (by decide)) rfl (ma_goodc kc_Book_fault) (B.2.2.2.1 _ k_2185) (B.2.2.2.1 _ k_2187) (B.2.2.2.1 _ ks_92) (B.2.2.2.1 _ k_13) ⟨by decide +kernel, by decide +kernel, by decide +kernel⟩ rfl d_Book_ifStatement_33 rfl (Nat.le_of_ble_eq_true rfl) ⟨by first | decide | (dsimp only; omega), by first | decide | (dsimp only; omega)⟩ ⟨Nat.le_refl _, Nat.le_refl _⟩ ⟨Nat.le_refl _, Nat.le_refl _⟩ (mv_noH hno _) (fun σ33 h33 => ?_)
        refine mv_lpick [0, 2, 3, 4] rfl ?_
        exact j36 _ (by first | exact FT.rf | exact FT.rf.of h33)
  refine mv_iconst (pc := 0) (v := -1) B d_Book_ifStatement_0 (by decide) ?_
  refine mv_istore_n (pc := 1) B d_Book_ifStatement_1 rfl (by decide) rfl ?_
  refine mv_iconst (pc := 2) (v := -1) B d_Book_ifStatement_2 (by decide) ?_
  refine mv_istore_n (pc := 3) B d_Book_ifStatement_3 rfl (by decide) rfl ?_
  refine mv_lpick [0, 1, 2] rfl ?_
  exact lp _ _ _ _ _ _ _ _ (hS.w (lo := n) (P := fun _ => True) (P' := fun τ => II 74 th τ n (n) (f + 1) ((-1 : Int32).toInt) ((-1 : Int32).toInt)) (Nat.le_refl _) Stb.ii (fun _ => Or.inl ⟨rfl, rfl, rfl⟩)) hk (Or.inl ⟨rfl, rfl⟩) (Nat.lt_succ_self _)
set_option maxHeartbeats 4000000 in
set_option maxRecDepth 100000 in
theorem c_Book_ifStatement_y (l : Launch) {dA : FieldType → ClassId} {D : va_G} {al : Nat → Nat} {ext : mv_Sh} {sk sv : Nat → Nat} (hi : mv_inj (mg dA D al ext)) (σ : mv_H) (f len th q ev d n a1 a2 : Nat) (hf : d + f = 61) (hP : SS 108 len th q ev d n a1 a2 σ) (hk : mv_i σ 108 4 = 1) (hB : YBl l dA D al ext sk sv 108 f) : mv_C l y_Book_ifStatement (Cond.code y_Book_ifStatement b_Book_ifStatement 7 (Option.some Jvm.ClassFile.FieldType.int) :: ma) ({ frames := 14 * f + 25, cells := 0, slots := 0, locals := 500 * f + 930 }) (mg dA D al ext) (mK sk sv) [.ref (al 108)] σ (mv_Ui (YO 108 len th q ev d n a1 (f + 1) σ) ("MachineLoomModel$Book$Wrong", al 141) (BF 108 σ)) := by
  refine mv_C.ofV (cc := b_Book_ifStatement) (nL := 7) (ret := (Option.some Jvm.ClassFile.FieldType.int)) (by decide +kernel) rfl hi (Nat.le_of_ble_eq_true rfl) ?_
  intro p e s m below meth c B hNs hr hnm hno
  have hS := YT.rf hP
  have hn0 := hP.1.le.1
  have hL00 := hS.le
  have lp : ∀ (nn : Nat) (S : mv_H) (e8 : Nat) (n8 : Nat) (t8 : Nat) (u8 : Nat) (v8 : Int32) (w8 : Int32) (hS : YT 108 len th σ q ev n a1 S q e8 d n8 t8 u8 [(n, n8, fun τ => II 108 th τ n (n8) (f + 1) (v8.toInt) (w8.toInt))]) (hk8 : mv_i S 108 4 = 1) (hvw : (w8.toInt = -1 ∧ v8.toInt = -1) ∨ (n ≤ v8.toInt ∧ v8.toInt ≤ w8.toInt ∧ w8.toInt + 1 = n8)), len + 1 - t8 < nn → mv_V p l e ({ frames := 14 * f + 25, cells := 0, slots := 0, locals := 500 * f + 930 }) s m ([.ref (al 108)] : List Value).toArray below meth c (mg dA D al ext) 7 0 0 (mv_Q (mg dA D al ext) below s 0 0 (mv_Ui (YO 108 len th q ev d n a1 (f + 1) σ) ("MachineLoomModel$Book$Wrong", al 141) (BF 108 σ))) S 4 [(2, .int w8), (1, .int v8), (0, .ref (al 108))] [] := by
    intro nn
    induction nn with
    | zero => intro S e8 n8 t8 u8 v8 w8 hS hk8 hvw hm; exact absurd hm (Nat.not_lt_zero _)
    | succ nn ih =>
      intro S e8 n8 t8 u8 v8 w8 hS hk8 hvw hm
      have hL8 := hS.le
      refine mv_aload_n (pc := 4) B d_Book_ifStatement_4 rfl 2 rfl ?_
      refine mv_getI (pc := 5) (ci := 12) (C := R_Book) (T := F_Book) (N := 65) B 5 rfl rfl (by decide) i_Book (B.2.2.2.1 _ k_1848) rfl d_Book_ifStatement_5 ?_
      refine mv_istore_n (pc := 8) B d_Book_ifStatement_8 rfl (by decide) rfl ?_
      refine mv_aload_n (pc := 9) B d_Book_ifStatement_9 rfl 3 rfl ?_
      refine mv_callVUv (pc := 10) (n := 0) (ci := 12) (C := R_Book) B (mK_ok sk sv) hNs rfl rfl (c_Book_pass_y l hi _ len _ _ hS.P.1) rfl (ma_goodc kc_Book_pass) (B.2.2.2.1 _ k_2173) (B.2.2.2.1 _ k_2175) (B.2.2.2.1 _ ks_90) (B.2.2.2.1 _ k_13) ⟨by decide +kernel, by decide +kernel, by decide +kernel⟩ rfl d_Book_ifStatement_10 rfl (Nat.le_of_ble_eq_true rfl) ⟨by first | decide | (dsimp only; omega), by first | decide | (dsimp only; omega)⟩ ⟨Nat.le_refl _, Nat.le_refl _⟩ ⟨Nat.le_refl _, Nat.le_refl _⟩ (mv_noH hno _) (fun τ9 g9 => Or.inr ⟨rfl, hS.1.2.1.bf.tr g9.bf⟩) (fun σ10 h10 => ?_)
      have w10 := hS.P.w (by rw [hk8]; decide)
      obtain ⟨d10, t10, u10, q10, g10⟩ := h10
      rw [hS.P.2.1] at d10
      have hS := hS.pass q10 g10
      have hL10 := hS.le
      refine mv_aload_n (pc := 13) B d_Book_ifStatement_13 rfl 3 rfl ?_
      refine mv_callVUi (pc := 14) (n := 0) (ci := 12) (C := R_Book) B (mK_ok sk sv) hNs rfl rfl (c_Book_expr_y l hi _ (f) len th _ _ _ _ hf hS.P) rfl (ma_goodc kc_Book_expression) (B.2.2.2.1 _ k_2245) (B.2.2.2.1 _ k_2247) (B.2.2.2.1 _ ks_104) (B.2.2.2.1 _ k_13) ⟨by decide +kernel, by decide +kernel, by decide +kernel⟩ rfl d_Book_ifStatement_14 rfl (Nat.le_of_ble_eq_true rfl) ⟨by first | decide | (dsimp only; omega), by first | decide | (dsimp only; omega)⟩ ⟨Nat.le_refl _, Nat.le_refl _⟩ ⟨Nat.le_refl _, Nat.le_refl _⟩ (mv_noH hno _) (fun τ9 g9 => Or.inr ⟨rfl, hS.1.2.1.bf.tr g9⟩) (fun v14 σ14 h14 => ?_)
      obtain ⟨n14, t14, u14, s14, m14, r14, x14⟩ := h14
      have i14 := s14.2.2.2.1
      have hS := hS.ex s14 x14
      have hL14 := hS.le
      have j36 : ∀ (τ : mv_H) (hT : FT 108 σ14 τ), mv_V p l e ({ frames := 14 * f + 25, cells := 0, slots := 0, locals := 500 * f + 930 }) s m ([.ref (al 108)] : List Value).toArray below meth c (mg dA D al ext) 7 0 0 (mv_Q (mg dA D al ext) below s 0 0 (mv_Ui (YO 108 len th q ev d n a1 (f + 1) σ) ("MachineLoomModel$Book$Wrong", al 141) (BF 108 σ))) τ 36 [(4, .int v14), (2, .int w8), (1, .int v8), (0, .ref (al 108))] [] := by
        intro τ hT
        have hS := hS.ft hT
        refine mv_aload_n (pc := 36) B d_Book_ifStatement_36 rfl 3 rfl ?_
        refine mv_callVUi (pc := 37) (n := 0) (ci := 12) (C := R_Book) B (mK_ok sk sv) hNs rfl rfl (hB _ len th _ _ _ _ _ _ hf hS.SS) rfl (ma_goodc kc_Book_block) (B.2.2.2.1 _ k_2232) (B.2.2.2.1 _ k_2234) (B.2.2.2.1 _ ks_101) (B.2.2.2.1 _ k_13) ⟨by decide +kernel, by decide +kernel, by decide +kernel⟩ rfl d_Book_ifStatement_37 rfl (Nat.le_of_ble_eq_true rfl) ⟨by first | decide | (dsimp only; omega), by first | decide | (dsimp only; omega)⟩ ⟨Nat.le_refl _, Nat.le_refl _⟩ ⟨Nat.le_refl _, Nat.le_refl _⟩ (mv_noH hno _) (fun τ9 g9 => Or.inr ⟨rfl, hS.1.2.1.bf.tr g9⟩) (fun v37 σ37 h37 => ?_)
        obtain ⟨e37, n37, t37, u37, s37, i37, x37⟩ := h37
        have y37 := s37.2.2.2.2.2.2.1
        have o37 := s37.2.2.2.2.2.1
        have hS := hS.sub s37 Stb.br x37
        have hL37 := hS.le
        refine mv_istore (pc := 40) B d_Book_ifStatement_40 (by decide) rfl ?_
        refine mv_aload_n (pc := 42) B d_Book_ifStatement_42 rfl 4 rfl ?_
        refine mv_bipush (pc := 43) (v := 18) B d_Book_ifStatement_43 (by decide) ?_
        refine mv_iload (pc := 45) B d_Book_ifStatement_45 1 rfl ?_
        refine mv_iload (pc := 47) B d_Book_ifStatement_47 0 rfl ?_
        refine mv_iconst (pc := 49) (v := -1) B d_Book_ifStatement_49 (by decide) ?_
        refine mv_iconst (pc := 50) (v := 0) B d_Book_ifStatement_50 (by decide) ?_
        refine mv_callVi (pc := 51) (n := 5) (ci := 12) (C := R_Book) B (mK_ok sk sv) hNs rfl rfl (c_Book_node_y l hi _ _ _ _ _ _ hS.R (by have := hS.le; omega) (by have := hS.le; omega)) rfl (ma_goodc kc_Book_node) (B.2.2.2.1 _ k_2269) (B.2.2.2.1 _ k_2271) (B.2.2.2.1 _ ks_110) (B.2.2.2.1 _ k_13) ⟨by decide +kernel, by decide +kernel, by decide +kernel⟩ rfl d_Book_ifStatement_51 rfl (Nat.le_of_ble_eq_true rfl) ⟨by first | decide | (dsimp only; omega), by first | decide | (dsimp only; omega)⟩ ⟨Nat.le_refl _, Nat.le_refl _⟩ ⟨Nat.le_refl _, Nat.le_refl _⟩ (mv_noH hno _) (fun v51 σ51 h51 => ?_)
        obtain ⟨e51, z51⟩ := h51
        have hN := hS.node z51 (lo := n) (P := fun τ => JJ 108 th τ n n8 n37 (f + 1) v8.toInt w8.toInt) (by omega) hn0 (Stb.jj (by omega) (by omega)) (fun zz => by
          have y1 := hS.2.at 2 rfl zz
          have y2 := hS.2.at 1 rfl zz
          have y3 := hS.2.at 0 rfl zz
          rw [z51]
          exact JJ.of y1 y2 (by omega) y3 m14 (by omega) (Nat.lt_succ_self _) hS.P.nn r14)
        have hv51 : v51.toInt = ((n37 : Nat) : Int) := by rw [e51]; omega
        have j81 : ∀ (S9 : mv_H) (v9 : Int32) (hS : YT 108 len th σ q ev n a1 S9 q e37 d (n37 + 1) t37 u37 [(n, n37 + 1, fun τ => II 108 th τ n (n37 + 1) (f + 1) (v9.toInt) (v51.toInt))]) (hv9 : n ≤ v9.toInt ∧ v9.toInt ≤ n37), mv_V p l e ({ frames := 14 * f + 25, cells := 0, slots := 0, locals := 500 * f + 930 }) s m ([.ref (al 108)] : List Value).toArray below meth c (mg dA D al ext) 7 0 0 (mv_Q (mg dA D al ext) below s 0 0 (mv_Ui (YO 108 len th q ev d n a1 (f + 1) σ) ("MachineLoomModel$Book$Wrong", al 141) (BF 108 σ))) S9 81 [(6, .int v51), (1, .int v9), (0, .ref (al 108))] [] := by
          intro S9 v9 hS hv9
          have hL81 := hS.le
          obtain ⟨k9, hk9⟩ : ∃ k : Nat, v9.toInt = k := ⟨v9.toInt.toNat, by omega⟩
          refine mv_iload (pc := 81) B d_Book_ifStatement_81 0 rfl ?_
          refine mv_istore_n (pc := 83) B d_Book_ifStatement_83 rfl (by decide) rfl ?_
          refine mv_aload_n (pc := 84) B d_Book_ifStatement_84 rfl 3 rfl ?_
          refine mv_ldcwS (pc := 85) B (hNs.2.1 156 (by decide)).1 d_Book_ifStatement_85 ?_
          refine mv_callVi (pc := 88) (n := 1) (ci := 12) (C := R_Book) B (mK_ok sk sv) hNs rfl rfl (c_Book_is_y l hi _ 156 (by decide) len _ _ hS.P.1) rfl (ma_goodc kc_Book_is) (B.2.2.2.1 _ k_2163) (B.2.2.2.1 _ k_2165) (B.2.2.2.1 _ ks_88) (B.2.2.2.1 _ k_13) ⟨by decide +kernel, by decide +kernel, by decide +kernel⟩ rfl d_Book_ifStatement_88 rfl (Nat.le_of_ble_eq_true rfl) ⟨by first | decide | (dsimp only; omega), by first | decide | (dsimp only; omega)⟩ ⟨Nat.le_refl _, Nat.le_refl _⟩ ⟨Nat.le_refl _, Nat.le_refl _⟩ (mv_noH hno _) (fun v88 σ88 h88 => ?_)
          obtain ⟨e88, z88⟩ := h88
          have e88 := e88.symm
          subst e88
          refine mv_if_ne (pc := 91) (tgt := 96) B d_Book_ifStatement_91 rfl (fun h91 => ?_) (fun h91 => ?_)
          · skip
            refine mv_aload_n (pc := 96) B d_Book_ifStatement_96 rfl 3 rfl ?_
            refine mv_callVUv (pc := 97) (n := 0) (ci := 12) (C := R_Book) B (mK_ok sk sv) hNs rfl rfl (c_Book_pass_y l hi _ len _ _ hS.P.1) rfl (ma_goodc kc_Book_pass) (B.2.2.2.1 _ k_2173) (B.2.2.2.1 _ k_2175) (B.2.2.2.1 _ ks_90) (B.2.2.2.1 _ k_13) ⟨by decide +kernel, by decide +kernel, by decide +kernel⟩ rfl d_Book_ifStatement_97 rfl (Nat.le_of_ble_eq_true rfl) ⟨by first | decide | (dsimp only; omega), by first | decide | (dsimp only; omega)⟩ ⟨Nat.le_refl _, Nat.le_refl _⟩ ⟨Nat.le_refl _, Nat.le_refl _⟩ (mv_noH hno _) (fun τ9 g9 => Or.inr ⟨rfl, hS.1.2.1.bf.tr g9.bf⟩) (fun σ97 h97 => ?_)
            have w97 := hS.P.w (by rw [(z88.resolve_left h91).2]; decide)
            obtain ⟨d97, t97, u97, q97, g97⟩ := h97
            rw [hS.P.2.1] at d97
            have hS := hS.pass q97 g97
            have hL97 := hS.le
            refine mv_aload_n (pc := 100) B d_Book_ifStatement_100 rfl 3 rfl ?_
            refine mv_ldcwS (pc := 101) B (hNs.2.1 155 (by decide)).1 d_Book_ifStatement_101 ?_
            refine mv_callVi (pc := 104) (n := 1) (ci := 12) (C := R_Book) B (mK_ok sk sv) hNs rfl rfl (c_Book_is_y l hi _ 155 (by decide) len _ _ hS.P.1) rfl (ma_goodc kc_Book_is) (B.2.2.2.1 _ k_2163) (B.2.2.2.1 _ k_2165) (B.2.2.2.1 _ ks_88) (B.2.2.2.1 _ k_13) ⟨by decide +kernel, by decide +kernel, by decide +kernel⟩ rfl d_Book_ifStatement_104 rfl (Nat.le_of_ble_eq_true rfl) ⟨by first | decide | (dsimp only; omega), by first | decide | (dsimp only; omega)⟩ ⟨Nat.le_refl _, Nat.le_refl _⟩ ⟨Nat.le_refl _, Nat.le_refl _⟩ (mv_noH hno _) (fun v104 σ104 h104 => ?_)
            obtain ⟨e104, z104⟩ := h104
            have e104 := e104.symm
            subst e104
            refine mv_if_eq (pc := 107) (tgt := 113) B d_Book_ifStatement_107 rfl (fun h107 => ?_) (fun h107 => ?_)
            · skip
              refine mv_aload_n (pc := 113) B d_Book_ifStatement_113 rfl 3 rfl ?_
              refine mv_getR (pc := 114) (ci := 12) (C := R_Book) (T := F_Book) (N := 65) B 43 rfl rfl (by decide) i_Book (B.2.2.2.1 _ k_1892) rfl (hS.R.1 _ 43 _ rfl) d_Book_ifStatement_114 ?_
              refine mv_iload_n (pc := 117) B d_Book_ifStatement_117 rfl 0 rfl ?_
              refine mv_aload_n (pc := 118) B d_Book_ifStatement_118 rfl 3 rfl ?_
              refine mv_callVUi (pc := 119) (n := 0) (ci := 12) (C := R_Book) B (mK_ok sk sv) hNs rfl rfl (hB _ len th _ _ _ _ _ _ hf hS.SS) rfl (ma_goodc kc_Book_block) (B.2.2.2.1 _ k_2232) (B.2.2.2.1 _ k_2234) (B.2.2.2.1 _ ks_101) (B.2.2.2.1 _ k_13) ⟨by decide +kernel, by decide +kernel, by decide +kernel⟩ rfl d_Book_ifStatement_119 rfl (Nat.le_of_ble_eq_true rfl) ⟨by first | decide | (dsimp only; omega), by first | decide | (dsimp only; omega)⟩ ⟨Nat.le_refl _, Nat.le_refl _⟩ ⟨Nat.le_refl _, Nat.le_refl _⟩ (mv_noH hno _) (fun τ9 g9 => Or.inr ⟨rfl, hS.1.2.1.bf.tr g9⟩) (fun v119 σ119 h119 => ?_)
              obtain ⟨e119, n119, t119, u119, s119, i119, x119⟩ := h119
              have y119 := s119.2.2.2.2.2.2.1
              have o119 := s119.2.2.2.2.2.1
              have hS := hS.sub s119 Stb.br x119
              have hL119 := hS.le
              refine mv_iast (pc := 122) B rfl (i32_in (by omega) (by omega)) d_Book_ifStatement_122 ?_
              refine mv_gen (fun S123 eS123 => ?_)
              have hc51 := i32_cl (x := v51) (by omega)
              have hS := hS.row (lo := n) (o := 129) (k := v51.toNatClampNeg) (v := v119) (P := fun τ => SR 108 th τ n n119 (f + 1) k9) (by omega) (by omega) Stb.sr (fun zz => by
                have y1 := hS.2.at 1 rfl zz
                have y2 := hS.2.at 0 rfl zz
                rw [hk9, ← hc51] at y1
                exact II.last y1 y2 (by omega) (Nat.lt_succ_self _) (fun o j z => mv_u_ne _ _ z) (mv_u_same _ _ _ _))
              rw [← eS123] at hS
              clear eS123
              refine mv_iload_n (pc := 123) B d_Book_ifStatement_123 rfl 2 rfl ?_
              exact mv_iret (pc := 124) B hr rfl d_Book_ifStatement_124 (Nat.le_refl _) (Nat.le_refl _) (Or.inl ⟨_, rfl, _, _, _, _, _, k9, hS.1, by omega, hk9, by omega, by omega, fun zz => hS.2.at 0 rfl zz⟩)
            · skip
              refine mv_goto (pc := 110) (tgt := 4) B d_Book_ifStatement_110 rfl ?_
              refine mv_lpick [0, 2, 3] rfl ?_
              exact ih _ _ _ _ _ _ _ hS (z104.resolve_left h107).2 (Or.inr (by omega)) (by omega)
          · skip
            refine mv_iload_n (pc := 94) B d_Book_ifStatement_94 rfl 2 rfl ?_
            exact mv_iret (pc := 95) B hr rfl d_Book_ifStatement_95 (Nat.le_refl _) (Nat.le_refl _) (Or.inl ⟨_, rfl, _, _, _, _, _, k9, hS.1, by omega, hk9, by omega, by omega, fun zz => by have y := hS.2.at 0 rfl zz; rw [hk9] at y; exact y.sr⟩)
        refine mv_istore (pc := 54) B d_Book_ifStatement_54 (by decide) rfl ?_
        refine mv_iload_n (pc := 56) B d_Book_ifStatement_56 rfl 3 rfl ?_
        refine mv_if_ge (pc := 57) (tgt := 66) B d_Book_ifStatement_57 rfl (fun h57 => ?_) (fun h57 => ?_)
        · skip
          have hw9 : 0 ≤ w8.toInt := Int32.le_iff_toInt_le.mp h57
          refine mv_aload_n (pc := 66) B d_Book_ifStatement_66 rfl 5 rfl ?_
          refine mv_getR (pc := 67) (ci := 12) (C := R_Book) (T := F_Book) (N := 65) B 43 rfl rfl (by decide) i_Book (B.2.2.2.1 _ k_1892) rfl (hN.R.1 _ 43 _ rfl) d_Book_ifStatement_67 ?_
          refine mv_iload_n (pc := 70) B d_Book_ifStatement_70 rfl 3 rfl ?_
          refine mv_iload (pc := 71) B d_Book_ifStatement_71 0 rfl ?_
          refine mv_iast (pc := 73) B rfl (i32_in (by omega) (by omega)) d_Book_ifStatement_73 ?_
          refine mv_aload_n (pc := 74) B d_Book_ifStatement_74 rfl 5 rfl ?_
          refine mv_getR (pc := 75) (ci := 12) (C := R_Book) (T := F_Book) (N := 65) B 47 rfl rfl (by decide) i_Book (B.2.2.2.1 _ k_1896) rfl (hN.R.1 _ 47 _ rfl) d_Book_ifStatement_75 ?_
          refine mv_iload_n (pc := 78) B d_Book_ifStatement_78 rfl 3 rfl ?_
          refine mv_iconst (pc := 79) (v := 1) B d_Book_ifStatement_79 (by decide) ?_
          refine mv_zast (pc := 80) B rfl (i32_in (by omega) (by omega)) d_Book_ifStatement_80 ?_
          refine mv_lpick [0, 4, 5] rfl ?_
          have hc9 := i32_cl (x := w8) hw9
          obtain ⟨k8, hk8v⟩ : ∃ k : Nat, v8.toInt = k := ⟨v8.toInt.toNat, by omega⟩
          exact j81 _ _ ((hN.row (lo := n) (o := 129) (k := w8.toNatClampNeg) (v := v51) (P := fun _ => True) (by omega) (by omega) Stb.any (fun _ => trivial)).row (lo := n) (o := 133) (k := w8.toNatClampNeg) (v := vp_nar .boolean 1) (P := fun τ => II 108 th τ n (n37 + 1) (f + 1) (v8.toInt) (v51.toInt)) (by omega) (by omega) Stb.ii (fun zz => by
            have y1 := hN.2.at 0 rfl zz
            rw [hk8v, ← hc9] at y1
            rw [hk8v, hv51]
            exact y1.next (by omega) hv51 (by decide))) (by omega)
        · skip
          have hw9 : ¬ 0 ≤ w8.toInt := fun z => h57 (Int32.le_iff_toInt_le.mpr z)
          refine mv_iload (pc := 60) B d_Book_ifStatement_60 0 rfl ?_
          refine mv_istore_n (pc := 62) B d_Book_ifStatement_62 rfl (by decide) rfl ?_
          refine mv_goto (pc := 63) (tgt := 81) B d_Book_ifStatement_63 rfl ?_
          refine mv_lpick [1, 0, 5] rfl ?_
          exact j81 _ _ (hN.w (lo := n) (P := fun _ => True) (P' := fun τ => II 108 th τ n (n37 + 1) (f + 1) (v51.toInt) (v51.toInt)) (Nat.le_refl _) Stb.ii (fun zz => by rw [hv51]; exact (hN.2.at 0 rfl zz).first (by omega) (by omega))) (by omega)
      refine mv_istore (pc := 17) B d_Book_ifStatement_17 (by decide) rfl ?_
      refine mv_aload_n (pc := 19) B d_Book_ifStatement_19 rfl 4 rfl ?_
      refine mv_getR (pc := 20) (ci := 12) (C := R_Book) (T := F_Book) (N := 65) B 45 rfl rfl (by decide) i_Book (B.2.2.2.1 _ k_1894) rfl (hS.R.1 _ 45 _ rfl) d_Book_ifStatement_20 ?_
      refine mv_iload (pc := 23) B d_Book_ifStatement_23 0 rfl ?_
      refine mv_iald (pc := 25) B rfl (i32_in (by omega) (by omega)) d_Book_ifStatement_25 ?_
      refine mv_iconst (pc := 26) (v := 1) B d_Book_ifStatement_26 (by decide) ?_
      refine mv_icmp_le (pc := 27) (tgt := 36) B d_Book_ifStatement_27 rfl (fun h27 => ?_) (fun h27 => ?_)
      · skip
        refine mv_lpick [0, 2, 3, 4] rfl ?_
        exact j36 _ (by first | exact FT.rf | exact FT.rf.of h33)
      · skip
        refine mv_aload_n (pc := 30) B d_Book_ifStatement_30 rfl 4 rfl ?_
        refine mv_iconst (pc := 31) (v := 4) B d_Book_ifStatement_31 (by decide) ?_
        refine mv_iload_n (pc := 32) B d_Book_ifStatement_32 rfl 1 rfl ?_
        refine mv_callVv (pc := 33) (n := 2) (ci := 12) (C := R_Book) B (mK_ok sk sv) hNs rfl rfl (c_Book_fault_y l hi _ _ _ (by decide)) rfl (ma_goodc kc_Book_fault) (B.2.2.2.1 _ k_2185) (B.2.2.2.1 _ k_2187) (B.2.2.2.1 _ ks_92) (B.2.2.2.1 _ k_13) ⟨by decide +kernel, by decide +kernel, by decide +kernel⟩ rfl d_Book_ifStatement_33 rfl (Nat.le_of_ble_eq_true rfl) ⟨by first | decide | (dsimp only; omega), by first | decide | (dsimp only; omega)⟩ ⟨Nat.le_refl _, Nat.le_refl _⟩ ⟨Nat.le_refl _, Nat.le_refl _⟩ (mv_noH hno _) (fun σ33 h33 => ?_)
        refine mv_lpick [0, 2, 3, 4] rfl ?_
        exact j36 _ (by first | exact FT.rf | exact FT.rf.of h33)
  refine mv_iconst (pc := 0) (v := -1) B d_Book_ifStatement_0 (by decide) ?_
  refine mv_istore_n (pc := 1) B d_Book_ifStatement_1 rfl (by decide) rfl ?_
  refine mv_iconst (pc := 2) (v := -1) B d_Book_ifStatement_2 (by decide) ?_
  refine mv_istore_n (pc := 3) B d_Book_ifStatement_3 rfl (by decide) rfl ?_
  refine mv_lpick [0, 1, 2] rfl ?_
  exact lp _ _ _ _ _ _ _ _ (hS.w (lo := n) (P := fun _ => True) (P' := fun τ => II 108 th τ n (n) (f + 1) ((-1 : Int32).toInt) ((-1 : Int32).toInt)) (Nat.le_refl _) Stb.ii (fun _ => Or.inl ⟨rfl, rfl, rfl⟩)) hk (Or.inl ⟨rfl, rfl⟩) (Nat.lt_succ_self _)
theorem k_2328 : (Jvm.Cond.methodLink "MachineLoomModel$Book" (401 : Nat) ({ cls := "MachineLoomModel$Book", name := "ifStatement", desc := "()I" } : Jvm.MethodName)) ∈ ma := ma_of (tb_10 _ (List.mem_of_getElem? (i := 168) rfl)) rfl
theorem k_2330 : (Jvm.Cond.instanceMethod ({ cls := "MachineLoomModel$Book", name := "ifStatement", desc := "()I" } : Jvm.MethodName)) ∈ ma := ma_of (tb_10 _ (List.mem_of_getElem? (i := 170) rfl)) rfl
theorem ks_120 : Cond.selects "MachineLoomModel$Book" ⟨"MachineLoomModel$Book", "ifStatement", "()I"⟩ ⟨"MachineLoomModel$Book", "ifStatement", "()I"⟩ ∈ ma := ma_sel 120 rfl rfl
theorem k_2326 : (Jvm.Cond.constantLong "MachineLoomModel$Book" (397 : Nat) (1000000 : Int64)) ∈ ma := ma_of (tb_10 _ (List.mem_of_getElem? (i := 166) rfl)) rfl
theorem k_2203 : (Jvm.Cond.methodLink "MachineLoomModel$Book" (359 : Nat) ({ cls := "MachineLoomModel$Book", name := "ranged", desc := "(JJ)I" } : Jvm.MethodName)) ∈ ma := ma_of (tb_10 _ (List.mem_of_getElem? (i := 43) rfl)) rfl
theorem k_2205 : (Jvm.Cond.instanceMethod ({ cls := "MachineLoomModel$Book", name := "ranged", desc := "(JJ)I" } : Jvm.MethodName)) ∈ ma := ma_of (tb_10 _ (List.mem_of_getElem? (i := 45) rfl)) rfl
theorem ks_96 : Cond.selects "MachineLoomModel$Book" ⟨"MachineLoomModel$Book", "ranged", "(JJ)I"⟩ ⟨"MachineLoomModel$Book", "ranged", "(JJ)I"⟩ ∈ ma := ma_sel 96 rfl rfl
theorem k_2241 : (Jvm.Cond.methodLink "MachineLoomModel$Book" (392 : Nat) ({ cls := "MachineLoomModel$Book", name := "letStatement", desc := "()I" } : Jvm.MethodName)) ∈ ma := ma_of (tb_10 _ (List.mem_of_getElem? (i := 81) rfl)) rfl
theorem k_2243 : (Jvm.Cond.instanceMethod ({ cls := "MachineLoomModel$Book", name := "letStatement", desc := "()I" } : Jvm.MethodName)) ∈ ma := ma_of (tb_10 _ (List.mem_of_getElem? (i := 83) rfl)) rfl
theorem ks_103 : Cond.selects "MachineLoomModel$Book" ⟨"MachineLoomModel$Book", "letStatement", "()I"⟩ ⟨"MachineLoomModel$Book", "letStatement", "()I"⟩ ∈ ma := ma_sel 103 rfl rfl
theorem d_Book_statement_0 : decode b_Book_statement 0 = .ok (.aload_n 0, 1) := by decide +kernel
theorem d_Book_statement_1 : decode b_Book_statement 1 = .ok (.ldc_w 391, 3) := by decide +kernel
theorem d_Book_statement_4 : decode b_Book_statement 4 = .ok (.invokevirtual 219, 3) := by decide +kernel
theorem d_Book_statement_7 : decode b_Book_statement 7 = .ok (.ifCond .eq (8), 3) := by decide +kernel
theorem d_Book_statement_10 : decode b_Book_statement 10 = .ok (.aload_n 0, 1) := by decide +kernel
theorem d_Book_statement_11 : decode b_Book_statement 11 = .ok (.invokevirtual 392, 3) := by decide +kernel
theorem d_Book_statement_14 : decode b_Book_statement 14 = .ok (.ireturn, 1) := by decide +kernel
theorem d_Book_statement_15 : decode b_Book_statement 15 = .ok (.aload_n 0, 1) := by decide +kernel
theorem d_Book_statement_16 : decode b_Book_statement 16 = .ok (.ldc_w 395, 3) := by decide +kernel
theorem d_Book_statement_19 : decode b_Book_statement 19 = .ok (.invokevirtual 219, 3) := by decide +kernel
theorem d_Book_statement_22 : decode b_Book_statement 22 = .ok (.ifCond .eq (33), 3) := by decide +kernel
theorem d_Book_statement_25 : decode b_Book_statement 25 = .ok (.aload_n 0, 1) := by decide +kernel
theorem d_Book_statement_26 : decode b_Book_statement 26 = .ok (.invokevirtual 203, 3) := by decide +kernel
theorem d_Book_statement_29 : decode b_Book_statement 29 = .ok (.aload_n 0, 1) := by decide +kernel
theorem d_Book_statement_30 : decode b_Book_statement 30 = .ok (.lconst 1, 1) := by decide +kernel
theorem d_Book_statement_31 : decode b_Book_statement 31 = .ok (.ldc2_w 397, 3) := by decide +kernel
theorem d_Book_statement_34 : decode b_Book_statement 34 = .ok (.invokevirtual 359, 3) := by decide +kernel
theorem d_Book_statement_37 : decode b_Book_statement 37 = .ok (.istore_n 1, 1) := by decide +kernel
theorem d_Book_statement_38 : decode b_Book_statement 38 = .ok (.aload_n 0, 1) := by decide +kernel
theorem d_Book_statement_39 : decode b_Book_statement 39 = .ok (.bipush 59, 2) := by decide +kernel
theorem d_Book_statement_41 : decode b_Book_statement 41 = .ok (.invokevirtual 259, 3) := by decide +kernel
theorem d_Book_statement_44 : decode b_Book_statement 44 = .ok (.aload_n 0, 1) := by decide +kernel
theorem d_Book_statement_45 : decode b_Book_statement 45 = .ok (.bipush 17, 2) := by decide +kernel
theorem d_Book_statement_47 : decode b_Book_statement 47 = .ok (.iload_n 1, 1) := by decide +kernel
theorem d_Book_statement_48 : decode b_Book_statement 48 = .ok (.iconst 0, 1) := by decide +kernel
theorem d_Book_statement_49 : decode b_Book_statement 49 = .ok (.iconst 0, 1) := by decide +kernel
theorem d_Book_statement_50 : decode b_Book_statement 50 = .ok (.iconst 0, 1) := by decide +kernel
theorem d_Book_statement_51 : decode b_Book_statement 51 = .ok (.invokevirtual 271, 3) := by decide +kernel
theorem d_Book_statement_54 : decode b_Book_statement 54 = .ok (.ireturn, 1) := by decide +kernel
theorem d_Book_statement_55 : decode b_Book_statement 55 = .ok (.aload_n 0, 1) := by decide +kernel
theorem d_Book_statement_56 : decode b_Book_statement 56 = .ok (.ldc_w 399, 3) := by decide +kernel
theorem d_Book_statement_59 : decode b_Book_statement 59 = .ok (.invokevirtual 219, 3) := by decide +kernel
theorem d_Book_statement_62 : decode b_Book_statement 62 = .ok (.ifCond .eq (8), 3) := by decide +kernel
theorem d_Book_statement_65 : decode b_Book_statement 65 = .ok (.aload_n 0, 1) := by decide +kernel
theorem d_Book_statement_66 : decode b_Book_statement 66 = .ok (.invokevirtual 401, 3) := by decide +kernel
theorem d_Book_statement_69 : decode b_Book_statement 69 = .ok (.ireturn, 1) := by decide +kernel
theorem d_Book_statement_70 : decode b_Book_statement 70 = .ok (.aload_n 0, 1) := by decide +kernel
theorem d_Book_statement_71 : decode b_Book_statement 71 = .ok (.invokevirtual 356, 3) := by decide +kernel
theorem d_Book_statement_74 : decode b_Book_statement 74 = .ok (.aload_n 0, 1) := by decide +kernel
theorem d_Book_statement_75 : decode b_Book_statement 75 = .ok (.getfield 350, 3) := by decide +kernel
theorem d_Book_statement_78 : decode b_Book_statement 78 = .ok (.istore_n 1, 1) := by decide +kernel
theorem d_Book_statement_79 : decode b_Book_statement 79 = .ok (.aload_n 0, 1) := by decide +kernel
theorem d_Book_statement_80 : decode b_Book_statement 80 = .ok (.getfield 353, 3) := by decide +kernel
theorem d_Book_statement_83 : decode b_Book_statement 83 = .ok (.istore_n 2, 1) := by decide +kernel
theorem d_Book_statement_84 : decode b_Book_statement 84 = .ok (.iconst (-1), 1) := by decide +kernel
theorem d_Book_statement_85 : decode b_Book_statement 85 = .ok (.istore_n 3, 1) := by decide +kernel
theorem d_Book_statement_86 : decode b_Book_statement 86 = .ok (.aload_n 0, 1) := by decide +kernel
theorem d_Book_statement_87 : decode b_Book_statement 87 = .ok (.getfield 151, 3) := by decide +kernel
theorem d_Book_statement_90 : decode b_Book_statement 90 = .ok (.bipush 91, 2) := by decide +kernel
theorem d_Book_statement_92 : decode b_Book_statement 92 = .ok (.if_icmp .ne (7), 3) := by decide +kernel
theorem d_Book_statement_95 : decode b_Book_statement 95 = .ok (.iconst 1, 1) := by decide +kernel
theorem d_Book_statement_96 : decode b_Book_statement 96 = .ok (.goto (4), 3) := by decide +kernel
theorem d_Book_statement_99 : decode b_Book_statement 99 = .ok (.iconst 0, 1) := by decide +kernel
theorem d_Book_statement_100 : decode b_Book_statement 100 = .ok (.istore 4, 2) := by decide +kernel
theorem d_Book_statement_102 : decode b_Book_statement 102 = .ok (.iload 4, 2) := by decide +kernel
theorem d_Book_statement_104 : decode b_Book_statement 104 = .ok (.ifCond .eq (38), 3) := by decide +kernel
theorem d_Book_statement_107 : decode b_Book_statement 107 = .ok (.aload_n 0, 1) := by decide +kernel
theorem d_Book_statement_108 : decode b_Book_statement 108 = .ok (.invokevirtual 203, 3) := by decide +kernel
theorem d_Book_statement_111 : decode b_Book_statement 111 = .ok (.aload_n 0, 1) := by decide +kernel
theorem d_Book_statement_112 : decode b_Book_statement 112 = .ok (.dup, 1) := by decide +kernel
theorem d_Book_statement_113 : decode b_Book_statement 113 = .ok (.getfield 197, 3) := by decide +kernel
theorem d_Book_statement_116 : decode b_Book_statement 116 = .ok (.iconst 1, 1) := by decide +kernel
theorem d_Book_statement_117 : decode b_Book_statement 117 = .ok (.iadd, 1) := by decide +kernel
theorem d_Book_statement_118 : decode b_Book_statement 118 = .ok (.putfield 197, 3) := by decide +kernel
theorem d_Book_statement_121 : decode b_Book_statement 121 = .ok (.aload_n 0, 1) := by decide +kernel
theorem d_Book_statement_122 : decode b_Book_statement 122 = .ok (.invokevirtual 256, 3) := by decide +kernel
theorem d_Book_statement_125 : decode b_Book_statement 125 = .ok (.istore_n 3, 1) := by decide +kernel
theorem d_Book_statement_126 : decode b_Book_statement 126 = .ok (.aload_n 0, 1) := by decide +kernel
theorem d_Book_statement_127 : decode b_Book_statement 127 = .ok (.bipush 93, 2) := by decide +kernel
theorem d_Book_statement_129 : decode b_Book_statement 129 = .ok (.invokevirtual 259, 3) := by decide +kernel
theorem d_Book_statement_132 : decode b_Book_statement 132 = .ok (.aload_n 0, 1) := by decide +kernel
theorem d_Book_statement_133 : decode b_Book_statement 133 = .ok (.dup, 1) := by decide +kernel
theorem d_Book_statement_134 : decode b_Book_statement 134 = .ok (.getfield 197, 3) := by decide +kernel
theorem d_Book_statement_137 : decode b_Book_statement 137 = .ok (.iconst 1, 1) := by decide +kernel
theorem d_Book_statement_138 : decode b_Book_statement 138 = .ok (.isub, 1) := by decide +kernel
theorem d_Book_statement_139 : decode b_Book_statement 139 = .ok (.putfield 197, 3) := by decide +kernel
theorem d_Book_statement_142 : decode b_Book_statement 142 = .ok (.aload_n 0, 1) := by decide +kernel
theorem d_Book_statement_143 : decode b_Book_statement 143 = .ok (.getfield 174, 3) := by decide +kernel
theorem d_Book_statement_146 : decode b_Book_statement 146 = .ok (.istore 5, 2) := by decide +kernel
theorem d_Book_statement_148 : decode b_Book_statement 148 = .ok (.aload_n 0, 1) := by decide +kernel
theorem d_Book_statement_149 : decode b_Book_statement 149 = .ok (.bipush 61, 2) := by decide +kernel
theorem d_Book_statement_151 : decode b_Book_statement 151 = .ok (.invokevirtual 259, 3) := by decide +kernel
theorem d_Book_statement_154 : decode b_Book_statement 154 = .ok (.aload_n 0, 1) := by decide +kernel
theorem d_Book_statement_155 : decode b_Book_statement 155 = .ok (.invokevirtual 256, 3) := by decide +kernel
theorem d_Book_statement_158 : decode b_Book_statement 158 = .ok (.istore 6, 2) := by decide +kernel
theorem d_Book_statement_160 : decode b_Book_statement 160 = .ok (.aload_n 0, 1) := by decide +kernel
theorem d_Book_statement_161 : decode b_Book_statement 161 = .ok (.bipush 59, 2) := by decide +kernel
theorem d_Book_statement_163 : decode b_Book_statement 163 = .ok (.invokevirtual 259, 3) := by decide +kernel
theorem d_Book_statement_166 : decode b_Book_statement 166 = .ok (.aload_n 0, 1) := by decide +kernel
theorem d_Book_statement_167 : decode b_Book_statement 167 = .ok (.iload_n 1, 1) := by decide +kernel
theorem d_Book_statement_168 : decode b_Book_statement 168 = .ok (.iload_n 2, 1) := by decide +kernel
theorem d_Book_statement_169 : decode b_Book_statement 169 = .ok (.invokevirtual 308, 3) := by decide +kernel
theorem d_Book_statement_172 : decode b_Book_statement 172 = .ok (.ifCond .ge (12), 3) := by decide +kernel
theorem d_Book_statement_175 : decode b_Book_statement 175 = .ok (.aload_n 0, 1) := by decide +kernel
theorem d_Book_statement_176 : decode b_Book_statement 176 = .ok (.iload_n 1, 1) := by decide +kernel
theorem d_Book_statement_177 : decode b_Book_statement 177 = .ok (.iload_n 2, 1) := by decide +kernel
theorem d_Book_statement_178 : decode b_Book_statement 178 = .ok (.invokevirtual 311, 3) := by decide +kernel
theorem d_Book_statement_181 : decode b_Book_statement 181 = .ok (.ifCond .eq (7), 3) := by decide +kernel
theorem d_Book_statement_184 : decode b_Book_statement 184 = .ok (.iconst (-1), 1) := by decide +kernel
theorem d_Book_statement_185 : decode b_Book_statement 185 = .ok (.goto (9), 3) := by decide +kernel
theorem d_Book_statement_188 : decode b_Book_statement 188 = .ok (.aload_n 0, 1) := by decide +kernel
theorem d_Book_statement_189 : decode b_Book_statement 189 = .ok (.iload_n 1, 1) := by decide +kernel
theorem d_Book_statement_190 : decode b_Book_statement 190 = .ok (.iload_n 2, 1) := by decide +kernel
theorem d_Book_statement_191 : decode b_Book_statement 191 = .ok (.invokevirtual 315, 3) := by decide +kernel
theorem d_Book_statement_194 : decode b_Book_statement 194 = .ok (.istore 7, 2) := by decide +kernel
theorem d_Book_statement_196 : decode b_Book_statement 196 = .ok (.iload 7, 2) := by decide +kernel
theorem d_Book_statement_198 : decode b_Book_statement 198 = .ok (.ifCond .lt (15), 3) := by decide +kernel
theorem d_Book_statement_201 : decode b_Book_statement 201 = .ok (.aload_n 0, 1) := by decide +kernel
theorem d_Book_statement_202 : decode b_Book_statement 202 = .ok (.getfield 32, 3) := by decide +kernel
theorem d_Book_statement_205 : decode b_Book_statement 205 = .ok (.iload 7, 2) := by decide +kernel
theorem d_Book_statement_207 : decode b_Book_statement 207 = .ok (.baload, 1) := by decide +kernel
theorem d_Book_statement_208 : decode b_Book_statement 208 = .ok (.iload 4, 2) := by decide +kernel
theorem d_Book_statement_210 : decode b_Book_statement 210 = .ok (.if_icmp .eq (20), 3) := by decide +kernel
theorem d_Book_statement_213 : decode b_Book_statement 213 = .ok (.aload_n 0, 1) := by decide +kernel
theorem d_Book_statement_214 : decode b_Book_statement 214 = .ok (.iconst 2, 1) := by decide +kernel
theorem d_Book_statement_215 : decode b_Book_statement 215 = .ok (.iload_n 1, 1) := by decide +kernel
theorem d_Book_statement_216 : decode b_Book_statement 216 = .ok (.invokevirtual 267, 3) := by decide +kernel
theorem d_Book_statement_219 : decode b_Book_statement 219 = .ok (.aload_n 0, 1) := by decide +kernel
theorem d_Book_statement_220 : decode b_Book_statement 220 = .ok (.bipush 13, 2) := by decide +kernel
theorem d_Book_statement_222 : decode b_Book_statement 222 = .ok (.iconst 0, 1) := by decide +kernel
theorem d_Book_statement_223 : decode b_Book_statement 223 = .ok (.iconst 0, 1) := by decide +kernel
theorem d_Book_statement_224 : decode b_Book_statement 224 = .ok (.iconst 0, 1) := by decide +kernel
theorem d_Book_statement_225 : decode b_Book_statement 225 = .ok (.iconst 0, 1) := by decide +kernel
theorem d_Book_statement_226 : decode b_Book_statement 226 = .ok (.invokevirtual 271, 3) := by decide +kernel
theorem d_Book_statement_229 : decode b_Book_statement 229 = .ok (.ireturn, 1) := by decide +kernel
theorem d_Book_statement_230 : decode b_Book_statement 230 = .ok (.aload_n 0, 1) := by decide +kernel
theorem d_Book_statement_231 : decode b_Book_statement 231 = .ok (.getfield 23, 3) := by decide +kernel
theorem d_Book_statement_234 : decode b_Book_statement 234 = .ok (.iload 7, 2) := by decide +kernel
theorem d_Book_statement_236 : decode b_Book_statement 236 = .ok (.iaload, 1) := by decide +kernel
theorem d_Book_statement_237 : decode b_Book_statement 237 = .ok (.ifCond .le (17), 3) := by decide +kernel
theorem d_Book_statement_240 : decode b_Book_statement 240 = .ok (.aload_n 0, 1) := by decide +kernel
theorem d_Book_statement_241 : decode b_Book_statement 241 = .ok (.getfield 97, 3) := by decide +kernel
theorem d_Book_statement_244 : decode b_Book_statement 244 = .ok (.iload 6, 2) := by decide +kernel
theorem d_Book_statement_246 : decode b_Book_statement 246 = .ok (.iaload, 1) := by decide +kernel
theorem d_Book_statement_247 : decode b_Book_statement 247 = .ok (.ifCond .le (7), 3) := by decide +kernel
theorem d_Book_statement_250 : decode b_Book_statement 250 = .ok (.iconst 1, 1) := by decide +kernel
theorem d_Book_statement_251 : decode b_Book_statement 251 = .ok (.goto (4), 3) := by decide +kernel
theorem d_Book_statement_254 : decode b_Book_statement 254 = .ok (.iconst 0, 1) := by decide +kernel
theorem d_Book_statement_255 : decode b_Book_statement 255 = .ok (.istore 8, 2) := by decide +kernel
theorem d_Book_statement_257 : decode b_Book_statement 257 = .ok (.iload 8, 2) := by decide +kernel
theorem d_Book_statement_259 : decode b_Book_statement 259 = .ok (.ifCond .eq (27), 3) := by decide +kernel
theorem d_Book_statement_262 : decode b_Book_statement 262 = .ok (.aload_n 0, 1) := by decide +kernel
theorem d_Book_statement_263 : decode b_Book_statement 263 = .ok (.getfield 23, 3) := by decide +kernel
theorem d_Book_statement_266 : decode b_Book_statement 266 = .ok (.iload 7, 2) := by decide +kernel
theorem d_Book_statement_268 : decode b_Book_statement 268 = .ok (.iaload, 1) := by decide +kernel
theorem d_Book_statement_269 : decode b_Book_statement 269 = .ok (.aload_n 0, 1) := by decide +kernel
theorem d_Book_statement_270 : decode b_Book_statement 270 = .ok (.getfield 97, 3) := by decide +kernel
theorem d_Book_statement_273 : decode b_Book_statement 273 = .ok (.iload 6, 2) := by decide +kernel
theorem d_Book_statement_275 : decode b_Book_statement 275 = .ok (.iaload, 1) := by decide +kernel
theorem d_Book_statement_276 : decode b_Book_statement 276 = .ok (.if_icmp .eq (10), 3) := by decide +kernel
theorem d_Book_statement_279 : decode b_Book_statement 279 = .ok (.aload_n 0, 1) := by decide +kernel
theorem d_Book_statement_280 : decode b_Book_statement 280 = .ok (.iconst 4, 1) := by decide +kernel
theorem d_Book_statement_281 : decode b_Book_statement 281 = .ok (.iload 5, 2) := by decide +kernel
theorem d_Book_statement_283 : decode b_Book_statement 283 = .ok (.invokevirtual 267, 3) := by decide +kernel
theorem d_Book_statement_286 : decode b_Book_statement 286 = .ok (.aload_n 0, 1) := by decide +kernel
theorem d_Book_statement_287 : decode b_Book_statement 287 = .ok (.iload 4, 2) := by decide +kernel
theorem d_Book_statement_289 : decode b_Book_statement 289 = .ok (.ifCond .eq (8), 3) := by decide +kernel
theorem d_Book_statement_292 : decode b_Book_statement 292 = .ok (.bipush 16, 2) := by decide +kernel
theorem d_Book_statement_294 : decode b_Book_statement 294 = .ok (.goto (5), 3) := by decide +kernel
theorem d_Book_statement_297 : decode b_Book_statement 297 = .ok (.bipush 15, 2) := by decide +kernel
theorem d_Book_statement_299 : decode b_Book_statement 299 = .ok (.iload 7, 2) := by decide +kernel
theorem d_Book_statement_301 : decode b_Book_statement 301 = .ok (.iload 6, 2) := by decide +kernel
theorem d_Book_statement_303 : decode b_Book_statement 303 = .ok (.iload_n 3, 1) := by decide +kernel
theorem d_Book_statement_304 : decode b_Book_statement 304 = .ok (.iconst 0, 1) := by decide +kernel
theorem d_Book_statement_305 : decode b_Book_statement 305 = .ok (.invokevirtual 271, 3) := by decide +kernel
theorem d_Book_statement_308 : decode b_Book_statement 308 = .ok (.ireturn, 1) := by decide +kernel
set_option maxHeartbeats 4000000 in
set_option maxRecDepth 100000 in
theorem c_Book_statement_x (l : Launch) {dA : FieldType → ClassId} {D : va_G} {al : Nat → Nat} {ext : mv_Sh} {sk sv : Nat → Nat} (hi : mv_inj (mg dA D al ext)) (σ : mv_H) (f len th q ev d n a1 a2 : Nat) (hf : d + f = 61) (hP : SS 74 len th q ev d n a1 a2 σ) (hB : YBl l dA D al ext sk sv 74 f) : mv_C l y_Book_statement (Cond.code y_Book_statement b_Book_statement 9 (Option.some Jvm.ClassFile.FieldType.int) :: ma) ({ frames := 14 * f + 26, cells := 0, slots := 0, locals := 500 * f + 960 }) (mg dA D al ext) (mK sk sv) [.ref (al 74)] σ (mv_Ui (YO 74 len th q ev d n a1 (f + 1) σ) ("MachineLoomModel$Book$Wrong", al 107) (BF 74 σ)) := by
  refine mv_C.ofV (cc := b_Book_statement) (nL := 9) (ret := (Option.some Jvm.ClassFile.FieldType.int)) (by decide +kernel) rfl hi (Nat.le_of_ble_eq_true rfl) ?_
  intro p e s m below meth c B hNs hr hnm hno
  have hS := YT.rf hP
  have hn0 := hP.1.le.1
  have hL00 := hS.le
  refine mv_aload_n (pc := 0) B d_Book_statement_0 rfl 0 rfl ?_
  refine mv_ldcwS (pc := 1) B (hNs.2.1 147 (by decide)).1 d_Book_statement_1 ?_
  refine mv_callVi (pc := 4) (n := 1) (ci := 12) (C := R_Book) B (mK_ok sk sv) hNs rfl rfl (c_Book_is_x l hi _ 147 (by decide) len _ _ hS.P.1) rfl (ma_goodc kc_Book_is) (B.2.2.2.1 _ k_2163) (B.2.2.2.1 _ k_2165) (B.2.2.2.1 _ ks_88) (B.2.2.2.1 _ k_13) ⟨by decide +kernel, by decide +kernel, by decide +kernel⟩ rfl d_Book_statement_4 rfl (Nat.le_of_ble_eq_true rfl) ⟨by first | decide | (dsimp only; omega), by first | decide | (dsimp only; omega)⟩ ⟨Nat.le_refl _, Nat.le_refl _⟩ ⟨Nat.le_refl _, Nat.le_refl _⟩ (mv_noH hno _) (fun v4 σ4 h4 => ?_)
  obtain ⟨e4, z4⟩ := h4
  have e4 := e4.symm
  subst e4
  refine mv_if_eq (pc := 7) (tgt := 15) B d_Book_statement_7 rfl (fun h7 => ?_) (fun h7 => ?_)
  · skip
    refine mv_aload_n (pc := 15) B d_Book_statement_15 rfl 0 rfl ?_
    refine mv_ldcwS (pc := 16) B (hNs.2.1 154 (by decide)).1 d_Book_statement_16 ?_
    refine mv_callVi (pc := 19) (n := 1) (ci := 12) (C := R_Book) B (mK_ok sk sv) hNs rfl rfl (c_Book_is_x l hi _ 154 (by decide) len _ _ hS.P.1) rfl (ma_goodc kc_Book_is) (B.2.2.2.1 _ k_2163) (B.2.2.2.1 _ k_2165) (B.2.2.2.1 _ ks_88) (B.2.2.2.1 _ k_13) ⟨by decide +kernel, by decide +kernel, by decide +kernel⟩ rfl d_Book_statement_19 rfl (Nat.le_of_ble_eq_true rfl) ⟨by first | decide | (dsimp only; omega), by first | decide | (dsimp only; omega)⟩ ⟨Nat.le_refl _, Nat.le_refl _⟩ ⟨Nat.le_refl _, Nat.le_refl _⟩ (mv_noH hno _) (fun v19 σ19 h19 => ?_)
    obtain ⟨e19, z19⟩ := h19
    have e19 := e19.symm
    subst e19
    refine mv_if_eq (pc := 22) (tgt := 55) B d_Book_statement_22 rfl (fun h22 => ?_) (fun h22 => ?_)
    · skip
      refine mv_aload_n (pc := 55) B d_Book_statement_55 rfl 0 rfl ?_
      refine mv_ldcwS (pc := 56) B (hNs.2.1 155 (by decide)).1 d_Book_statement_56 ?_
      refine mv_callVi (pc := 59) (n := 1) (ci := 12) (C := R_Book) B (mK_ok sk sv) hNs rfl rfl (c_Book_is_x l hi _ 155 (by decide) len _ _ hS.P.1) rfl (ma_goodc kc_Book_is) (B.2.2.2.1 _ k_2163) (B.2.2.2.1 _ k_2165) (B.2.2.2.1 _ ks_88) (B.2.2.2.1 _ k_13) ⟨by decide +kernel, by decide +kernel, by decide +kernel⟩ rfl d_Book_statement_59 rfl (Nat.le_of_ble_eq_true rfl) ⟨by first | decide | (dsimp only; omega), by first | decide | (dsimp only; omega)⟩ ⟨Nat.le_refl _, Nat.le_refl _⟩ ⟨Nat.le_refl _, Nat.le_refl _⟩ (mv_noH hno _) (fun v59 σ59 h59 => ?_)
      obtain ⟨e59, z59⟩ := h59
      have e59 := e59.symm
      subst e59
      refine mv_if_eq (pc := 62) (tgt := 70) B d_Book_statement_62 rfl (fun h62 => ?_) (fun h62 => ?_)
      · skip
        refine mv_aload_n (pc := 70) B d_Book_statement_70 rfl 0 rfl ?_
        refine mv_callVUv (pc := 71) (n := 0) (ci := 12) (C := R_Book) B (mK_ok sk sv) hNs rfl rfl (c_Book_name_x l hi _ len _ _ hS.P.1) rfl (ma_goodc kc_Book_name) (B.2.2.2.1 _ k_2194) (B.2.2.2.1 _ k_2196) (B.2.2.2.1 _ ks_94) (B.2.2.2.1 _ k_13) ⟨by decide +kernel, by decide +kernel, by decide +kernel⟩ rfl d_Book_statement_71 rfl (Nat.le_of_ble_eq_true rfl) ⟨by first | decide | (dsimp only; omega), by first | decide | (dsimp only; omega)⟩ ⟨Nat.le_refl _, Nat.le_refl _⟩ ⟨Nat.le_refl _, Nat.le_refl _⟩ (mv_noH hno _) (fun τ9 g9 => Or.inr ⟨rfl, hS.1.2.1.bf.tr g9⟩) (fun σ71 h71 => ?_)
        obtain ⟨k71, d71, ⟨t71, u71, q71, g71⟩, y71⟩ := h71
        have w71 := hS.P.w (by rw [k71]; decide)
        rw [hS.P.2.1] at d71
        have hsp := name_sp (c1 := 0) (c2 := 0) y71 hS.P.1.sp
        have hS := hS.name q71 g71 y71
        have hL71 := hS.le
        have hn71 := hS.P.2.2.2.1
        refine mv_aload_n (pc := 74) B d_Book_statement_74 rfl 0 rfl ?_
        refine mv_getI (pc := 75) (ci := 12) (C := R_Book) (T := F_Book) (N := 65) B 49 rfl rfl (by decide) i_Book (B.2.2.2.1 _ k_1898) rfl d_Book_statement_75 ?_
        refine mv_istore_n (pc := 78) B d_Book_statement_78 rfl (by decide) rfl ?_
        refine mv_aload_n (pc := 79) B d_Book_statement_79 rfl 1 rfl ?_
        refine mv_getI (pc := 80) (ci := 12) (C := R_Book) (T := F_Book) (N := 65) B 50 rfl rfl (by decide) i_Book (B.2.2.2.1 _ k_1899) rfl d_Book_statement_80 ?_
        refine mv_istore_n (pc := 83) B d_Book_statement_83 rfl (by decide) rfl ?_
        refine mv_iconst (pc := 84) (v := -1) B d_Book_statement_84 (by decide) ?_
        refine mv_istore_n (pc := 85) B d_Book_statement_85 rfl (by decide) rfl ?_
        have j142 : ∀ (S9 : mv_H) (n9 : Nat) (t8 : Nat) (u8 : Nat) (i9 : Int32) (k9 : Int32) (hS : YT 74 len th σ q ev n a1 S9 q ev d n9 t8 u8 [(n, n9, fun τ => n < n9 → XR 74 th τ n n9 (10 * (f - 1) + 9))]) (hi9 : (k9 = 0 ∧ n9 = n ∧ i9.toInt = -1) ∨ (k9 = 1 ∧ n < n9 ∧ i9.toInt + 1 = n9)) (ht8 : a1 < t8 ∧ n9 + 1 + a1 ≤ n + t8), mv_V p l e ({ frames := 14 * f + 26, cells := 0, slots := 0, locals := 500 * f + 960 }) s m ([.ref (al 74)] : List Value).toArray below meth c (mg dA D al ext) 9 0 0 (mv_Q (mg dA D al ext) below s 0 0 (mv_Ui (YO 74 len th q ev d n a1 (f + 1) σ) ("MachineLoomModel$Book$Wrong", al 107) (BF 74 σ))) S9 142 [(0, .ref (al 74)), (1, .int (mv_i σ71 74 49)), (2, .int (mv_i σ71 74 50)), (3, .int i9), (4, .int k9)] [] := by
          intro S9 n9 t8 u8 i9 k9 hS hi9 ht8
          have hL142 := hS.le
          refine mv_aload_n (pc := 142) B d_Book_statement_142 rfl 0 rfl ?_
          refine mv_getI (pc := 143) (ci := 12) (C := R_Book) (T := F_Book) (N := 65) B 5 rfl rfl (by decide) i_Book (B.2.2.2.1 _ k_1848) rfl d_Book_statement_143 ?_
          refine mv_istore (pc := 146) B d_Book_statement_146 (by decide) rfl ?_
          refine mv_aload_n (pc := 148) B d_Book_statement_148 rfl 1 rfl ?_
          refine mv_bipush (pc := 149) (v := 61) B d_Book_statement_149 (by decide) ?_
          refine mv_callVUv (pc := 151) (n := 1) (ci := 12) (C := R_Book) B (mK_ok sk sv) hNs rfl rfl (c_Book_need_x l hi _ _ len _ _ hS.P.1) rfl (ma_goodc kc_Book_need) (B.2.2.2.1 _ k_2177) (B.2.2.2.1 _ k_2179) (B.2.2.2.1 _ ks_91) (B.2.2.2.1 _ k_13) ⟨by decide +kernel, by decide +kernel, by decide +kernel⟩ rfl d_Book_statement_151 rfl (Nat.le_of_ble_eq_true rfl) ⟨by first | decide | (dsimp only; omega), by first | decide | (dsimp only; omega)⟩ ⟨Nat.le_refl _, Nat.le_refl _⟩ ⟨Nat.le_refl _, Nat.le_refl _⟩ (mv_noH hno _) (fun τ9 g9 => Or.inr ⟨rfl, hS.1.2.1.bf.tr g9.bf⟩) (fun σ151 h151 => ?_)
          obtain ⟨k151, d151, t151, u151, q151, g151⟩ := h151
          have w151 := hS.P.w (by rw [k151]; decide)
          rw [hS.P.2.1] at d151
          have hS := hS.pass q151 g151
          have hL151 := hS.le
          refine mv_aload_n (pc := 154) B d_Book_statement_154 rfl 1 rfl ?_
          refine mv_callVUi (pc := 155) (n := 0) (ci := 12) (C := R_Book) B (mK_ok sk sv) hNs rfl rfl (c_Book_expr_x l hi _ (f) len th _ _ _ _ hf hS.P) rfl (ma_goodc kc_Book_expression) (B.2.2.2.1 _ k_2245) (B.2.2.2.1 _ k_2247) (B.2.2.2.1 _ ks_104) (B.2.2.2.1 _ k_13) ⟨by decide +kernel, by decide +kernel, by decide +kernel⟩ rfl d_Book_statement_155 rfl (Nat.le_of_ble_eq_true rfl) ⟨by first | decide | (dsimp only; omega), by first | decide | (dsimp only; omega)⟩ ⟨Nat.le_refl _, Nat.le_refl _⟩ ⟨Nat.le_refl _, Nat.le_refl _⟩ (mv_noH hno _) (fun τ9 g9 => Or.inr ⟨rfl, hS.1.2.1.bf.tr g9⟩) (fun v155 σ155 h155 => ?_)
          obtain ⟨n155, t155, u155, s155, m155, r155, x155⟩ := h155
          have i155 := s155.2.2.2.1
          have hS := hS.ex s155 x155
          have hL155 := hS.le
          refine mv_istore (pc := 158) B d_Book_statement_158 (by decide) rfl ?_
          refine mv_aload_n (pc := 160) B d_Book_statement_160 rfl 2 rfl ?_
          refine mv_bipush (pc := 161) (v := 59) B d_Book_statement_161 (by decide) ?_
          refine mv_callVUv (pc := 163) (n := 1) (ci := 12) (C := R_Book) B (mK_ok sk sv) hNs rfl rfl (c_Book_need_x l hi _ _ len _ _ hS.P.1) rfl (ma_goodc kc_Book_need) (B.2.2.2.1 _ k_2177) (B.2.2.2.1 _ k_2179) (B.2.2.2.1 _ ks_91) (B.2.2.2.1 _ k_13) ⟨by decide +kernel, by decide +kernel, by decide +kernel⟩ rfl d_Book_statement_163 rfl (Nat.le_of_ble_eq_true rfl) ⟨by first | decide | (dsimp only; omega), by first | decide | (dsimp only; omega)⟩ ⟨Nat.le_refl _, Nat.le_refl _⟩ ⟨Nat.le_refl _, Nat.le_refl _⟩ (mv_noH hno _) (fun τ9 g9 => Or.inr ⟨rfl, hS.1.2.1.bf.tr g9.bf⟩) (fun σ163 h163 => ?_)
          obtain ⟨k163, d163, t163, u163, q163, g163⟩ := h163
          have w163 := hS.P.w (by rw [k163]; decide)
          rw [hS.P.2.1] at d163
          have hS := hS.pass q163 g163
          have hL163 := hS.le
          have hM := hS.P.2.2.2.2.2
          have hz := hS.P.1.1.2.2.1
          have hl := hS.P.le.2.2.2
          have hq0 := hsp.1
          have hth9 := hM.1.2.1
          have hth8 := hS.P.2.2.2.2.1
          have j286 : ∀ (τ : mv_H) (t9 : Int32) (hT : FT 74 σ163 τ) (ht9 : 0 ≤ t9.toInt ∧ t9.toInt < th), mv_V p l e ({ frames := 14 * f + 26, cells := 0, slots := 0, locals := 500 * f + 960 }) s m ([.ref (al 74)] : List Value).toArray below meth c (mg dA D al ext) 9 0 0 (mv_Q (mg dA D al ext) below s 0 0 (mv_Ui (YO 74 len th q ev d n a1 (f + 1) σ) ("MachineLoomModel$Book$Wrong", al 107) (BF 74 σ))) τ 286 [(0, .ref (al 74)), (3, .int i9), (4, .int k9), (6, .int v155), (7, .int t9)] [] := by
            intro τ t9 hT ht9
            have hS := hS.ft hT
            have hL305 := hS.le
            refine mv_aload_n (pc := 286) B d_Book_statement_286 rfl 0 rfl ?_
            refine mv_iload (pc := 287) B d_Book_statement_287 2 rfl ?_
            refine mv_if_eq (pc := 289) (tgt := 297) B d_Book_statement_289 rfl (fun h289 => ?_) (fun h289 => ?_)
            · skip
              refine mv_bipush (pc := 297) (v := 15) B d_Book_statement_297 (by decide) ?_
              refine mv_iload (pc := 299) B d_Book_statement_299 4 rfl ?_
              refine mv_iload (pc := 301) B d_Book_statement_301 3 rfl ?_
              refine mv_iload_n (pc := 303) B d_Book_statement_303 rfl 1 rfl ?_
              refine mv_iconst (pc := 304) (v := 0) B d_Book_statement_304 (by decide) ?_
              refine mv_callVi (pc := 305) (n := 5) (ci := 12) (C := R_Book) B (mK_ok sk sv) hNs rfl rfl (c_Book_node_x l hi _ _ _ _ _ _ hS.R (by have := hS.le; omega) (by have := hS.le; omega)) rfl (ma_goodc kc_Book_node) (B.2.2.2.1 _ k_2269) (B.2.2.2.1 _ k_2271) (B.2.2.2.1 _ ks_110) (B.2.2.2.1 _ k_13) ⟨by decide +kernel, by decide +kernel, by decide +kernel⟩ rfl d_Book_statement_305 rfl (Nat.le_of_ble_eq_true rfl) ⟨by first | decide | (dsimp only; omega), by first | decide | (dsimp only; omega)⟩ ⟨Nat.le_refl _, Nat.le_refl _⟩ ⟨Nat.le_refl _, Nat.le_refl _⟩ (mv_noH hno _) (fun v305 σ305 h305 => ?_)
              obtain ⟨e305, z305⟩ := h305
              have hN := hS.node z305 (lo := n) (P := fun τ => SR 74 th τ n (n155 + 1) (f + 1) (n155)) (by omega) hn0 Stb.sr (fun zz => by
      have y1 := hS.2.at 1 rfl zz
      have y2 := hS.2.at 0 rfl zz
      obtain ⟨g9, hg9⟩ := RG.two (r := f + 1) y1 y2 (by omega) m155 (by omega) (by omega)
      rw [z305]
      exact SR.set hg9 (by omega) hS.P.nn (by omega) (Or.inr (Or.inl ⟨by decide, ⟨by omega, by omega⟩, SX.x y2 r155 m155 (Nat.le_refl _) (by omega), fun q => by first | exact absurd q (by decide) | exact SX.x (y1 (by omega)) hx9 (by omega) (by omega) (Nat.le_refl _)⟩)))
              have hv305 : v305.toInt = ((n155 : Nat) : Int) := by rw [e305]; have := hS.le; omega
              exact mv_iret (pc := 308) B hr rfl d_Book_statement_308 (Nat.le_refl _) (Nat.le_refl _) (Or.inl ⟨_, rfl, _, _, _, _, _, n155, hN.1, by omega, hv305, by omega, by omega, fun zz => hN.2.at 0 rfl zz⟩)
            · skip
              have hx9 : i9.toInt + 1 = n9 ∧ n < n9 := by
                rcases hi9 with z | z
                · exact absurd z.1 h289
                · exact ⟨z.2.2, z.2.1⟩
              have hx8 := hx9.2
              have hx9 := hx9.1
              refine mv_bipush (pc := 292) (v := 16) B d_Book_statement_292 (by decide) ?_
              refine mv_goto (pc := 294) (tgt := 299) B d_Book_statement_294 rfl ?_
              refine mv_iload (pc := 299) B d_Book_statement_299 4 rfl ?_
              refine mv_iload (pc := 301) B d_Book_statement_301 3 rfl ?_
              refine mv_iload_n (pc := 303) B d_Book_statement_303 rfl 1 rfl ?_
              refine mv_iconst (pc := 304) (v := 0) B d_Book_statement_304 (by decide) ?_
              refine mv_callVi (pc := 305) (n := 5) (ci := 12) (C := R_Book) B (mK_ok sk sv) hNs rfl rfl (c_Book_node_x l hi _ _ _ _ _ _ hS.R (by have := hS.le; omega) (by have := hS.le; omega)) rfl (ma_goodc kc_Book_node) (B.2.2.2.1 _ k_2269) (B.2.2.2.1 _ k_2271) (B.2.2.2.1 _ ks_110) (B.2.2.2.1 _ k_13) ⟨by decide +kernel, by decide +kernel, by decide +kernel⟩ rfl d_Book_statement_305 rfl (Nat.le_of_ble_eq_true rfl) ⟨by first | decide | (dsimp only; omega), by first | decide | (dsimp only; omega)⟩ ⟨Nat.le_refl _, Nat.le_refl _⟩ ⟨Nat.le_refl _, Nat.le_refl _⟩ (mv_noH hno _) (fun v305 σ305 h305 => ?_)
              obtain ⟨e305, z305⟩ := h305
              have hN := hS.node z305 (lo := n) (P := fun τ => SR 74 th τ n (n155 + 1) (f + 1) (n155)) (by omega) hn0 Stb.sr (fun zz => by
      have y1 := hS.2.at 1 rfl zz
      have y2 := hS.2.at 0 rfl zz
      obtain ⟨g9, hg9⟩ := RG.two (r := f + 1) y1 y2 (by omega) m155 (by omega) (by omega)
      rw [z305]
      exact SR.set hg9 (by omega) hS.P.nn (by omega) (Or.inr (Or.inl ⟨by decide, ⟨by omega, by omega⟩, SX.x y2 r155 m155 (Nat.le_refl _) (by omega), fun q => by first | exact absurd q (by decide) | exact SX.x (y1 (by omega)) hx9 (by omega) (by omega) (Nat.le_refl _)⟩)))
              have hv305 : v305.toInt = ((n155 : Nat) : Int) := by rw [e305]; have := hS.le; omega
              exact mv_iret (pc := 308) B hr rfl d_Book_statement_308 (Nat.le_refl _) (Nat.le_refl _) (Or.inl ⟨_, rfl, _, _, _, _, _, n155, hN.1, by omega, hv305, by omega, by omega, fun zz => hN.2.at 0 rfl zz⟩)
          have j255 : ∀ (t9 : Int32) (p9 : Int32) (b9 : Int32) (ht9 : 0 ≤ t9.toInt ∧ t9.toInt < th), mv_V p l e ({ frames := 14 * f + 26, cells := 0, slots := 0, locals := 500 * f + 960 }) s m ([.ref (al 74)] : List Value).toArray below meth c (mg dA D al ext) 9 0 0 (mv_Q (mg dA D al ext) below s 0 0 (mv_Ui (YO 74 len th q ev d n a1 (f + 1) σ) ("MachineLoomModel$Book$Wrong", al 107) (BF 74 σ))) σ163 255 [(0, .ref (al 74)), (3, .int i9), (4, .int k9), (5, .int p9), (6, .int v155), (7, .int t9)] [.int b9] := by
            intro t9 p9 b9 ht9
            refine mv_istore (pc := 255) B d_Book_statement_255 (by decide) rfl ?_
            refine mv_iload (pc := 257) B d_Book_statement_257 0 rfl ?_
            refine mv_if_eq (pc := 259) (tgt := 286) B d_Book_statement_259 rfl (fun h259 => ?_) (fun h259 => ?_)
            · skip
              refine mv_lpick [1, 2, 3, 5, 6] rfl ?_
              exact j286 _ _ (by first | exact FT.rf | exact FT.rf.of h283) ht9
            · skip
              refine mv_aload_n (pc := 262) B d_Book_statement_262 rfl 1 rfl ?_
              refine mv_getR (pc := 263) (ci := 12) (C := R_Book) (T := F_Book) (N := 65) B 12 rfl rfl (by decide) i_Book (B.2.2.2.1 _ k_1855) rfl (hS.R.1 _ 12 _ rfl) d_Book_statement_263 ?_
              refine mv_iload (pc := 266) B d_Book_statement_266 6 rfl ?_
              refine mv_iald (pc := 268) B rfl (i32_in (show 0 ≤ t9.toInt by omega) (show t9.toInt < 4100 by omega)) d_Book_statement_268 ?_
              refine mv_aload_n (pc := 269) B d_Book_statement_269 rfl 1 rfl ?_
              refine mv_getR (pc := 270) (ci := 12) (C := R_Book) (T := F_Book) (N := 65) B 45 rfl rfl (by decide) i_Book (B.2.2.2.1 _ k_1894) rfl (hS.R.1 _ 45 _ rfl) d_Book_statement_270 ?_
              refine mv_iload (pc := 273) B d_Book_statement_273 5 rfl ?_
              refine mv_iald (pc := 275) B rfl (i32_in (by omega) (by omega)) d_Book_statement_275 ?_
              refine mv_icmp_eq (pc := 276) (tgt := 286) B d_Book_statement_276 rfl (fun h276 => ?_) (fun h276 => ?_)
              · skip
                refine mv_lpick [1, 2, 3, 5, 6] rfl ?_
                exact j286 _ _ (by first | exact FT.rf | exact FT.rf.of h283) ht9
              · skip
                refine mv_aload_n (pc := 279) B d_Book_statement_279 rfl 1 rfl ?_
                refine mv_iconst (pc := 280) (v := 4) B d_Book_statement_280 (by decide) ?_
                refine mv_iload (pc := 281) B d_Book_statement_281 4 rfl ?_
                refine mv_callVv (pc := 283) (n := 2) (ci := 12) (C := R_Book) B (mK_ok sk sv) hNs rfl rfl (c_Book_fault_x l hi _ _ _ (by decide)) rfl (ma_goodc kc_Book_fault) (B.2.2.2.1 _ k_2185) (B.2.2.2.1 _ k_2187) (B.2.2.2.1 _ ks_92) (B.2.2.2.1 _ k_13) ⟨by decide +kernel, by decide +kernel, by decide +kernel⟩ rfl d_Book_statement_283 rfl (Nat.le_of_ble_eq_true rfl) ⟨by first | decide | (dsimp only; omega), by first | decide | (dsimp only; omega)⟩ ⟨Nat.le_refl _, Nat.le_refl _⟩ ⟨Nat.le_refl _, Nat.le_refl _⟩ (mv_noH hno _) (fun σ283 h283 => ?_)
                refine mv_lpick [1, 2, 3, 5, 6] rfl ?_
                exact j286 _ _ (by first | exact FT.rf | exact FT.rf.of h283) ht9
          have j213 : mv_V p l e ({ frames := 14 * f + 26, cells := 0, slots := 0, locals := 500 * f + 960 }) s m ([.ref (al 74)] : List Value).toArray below meth c (mg dA D al ext) 9 0 0 (mv_Q (mg dA D al ext) below s 0 0 (mv_Ui (YO 74 len th q ev d n a1 (f + 1) σ) ("MachineLoomModel$Book$Wrong", al 107) (BF 74 σ))) σ163 213 [(0, .ref (al 74)), (1, .int (mv_i σ71 74 49))] [] := by
            refine mv_aload_n (pc := 213) B d_Book_statement_213 rfl 0 rfl ?_
            refine mv_iconst (pc := 214) (v := 2) B d_Book_statement_214 (by decide) ?_
            refine mv_iload_n (pc := 215) B d_Book_statement_215 rfl 1 rfl ?_
            refine mv_callVv (pc := 216) (n := 2) (ci := 12) (C := R_Book) B (mK_ok sk sv) hNs rfl rfl (c_Book_fault_x l hi _ _ _ (by decide)) rfl (ma_goodc kc_Book_fault) (B.2.2.2.1 _ k_2185) (B.2.2.2.1 _ k_2187) (B.2.2.2.1 _ ks_92) (B.2.2.2.1 _ k_13) ⟨by decide +kernel, by decide +kernel, by decide +kernel⟩ rfl d_Book_statement_216 rfl (Nat.le_of_ble_eq_true rfl) ⟨by first | decide | (dsimp only; omega), by first | decide | (dsimp only; omega)⟩ ⟨Nat.le_refl _, Nat.le_refl _⟩ ⟨Nat.le_refl _, Nat.le_refl _⟩ (mv_noH hno _) (fun σ216 h216 => ?_)
            obtain ⟨f216, n216, k216⟩ := h216
            have hS := hS.ft (FT.rf.of ⟨f216, n216, k216⟩)
            refine mv_aload_n (pc := 219) B d_Book_statement_219 rfl 0 rfl ?_
            refine mv_bipush (pc := 220) (v := 13) B d_Book_statement_220 (by decide) ?_
            refine mv_iconst (pc := 222) (v := 0) B d_Book_statement_222 (by decide) ?_
            refine mv_iconst (pc := 223) (v := 0) B d_Book_statement_223 (by decide) ?_
            refine mv_iconst (pc := 224) (v := 0) B d_Book_statement_224 (by decide) ?_
            refine mv_iconst (pc := 225) (v := 0) B d_Book_statement_225 (by decide) ?_
            refine mv_callVi (pc := 226) (n := 5) (ci := 12) (C := R_Book) B (mK_ok sk sv) hNs rfl rfl (c_Book_node_x l hi _ _ _ _ _ _ hS.R (by have := hS.le; omega) (by have := hS.le; omega)) rfl (ma_goodc kc_Book_node) (B.2.2.2.1 _ k_2269) (B.2.2.2.1 _ k_2271) (B.2.2.2.1 _ ks_110) (B.2.2.2.1 _ k_13) ⟨by decide +kernel, by decide +kernel, by decide +kernel⟩ rfl d_Book_statement_226 rfl (Nat.le_of_ble_eq_true rfl) ⟨by first | decide | (dsimp only; omega), by first | decide | (dsimp only; omega)⟩ ⟨Nat.le_refl _, Nat.le_refl _⟩ ⟨Nat.le_refl _, Nat.le_refl _⟩ (mv_noH hno _) (fun v226 σ226 h226 => ?_)
            obtain ⟨e226, z226⟩ := h226
            have hN := hS.node z226 (lo := n) (P := fun τ => SR 74 th τ n (n155 + 1) (f + 1) (n155)) (by omega) hn0 Stb.sr (fun zz => absurd zz n216)
            have hv226 : v226.toInt = ((n155 : Nat) : Int) := by rw [e226]; have := hS.le; omega
            exact mv_iret (pc := 229) B hr rfl d_Book_statement_229 (Nat.le_refl _) (Nat.le_refl _) (Or.inl ⟨_, rfl, _, _, _, _, _, n155, hN.1, by omega, hv226, by omega, by omega, fun zz => hN.2.at 0 rfl zz⟩)
          have j194 : ∀ (t9 : Int32) (p9 : Int32) (ht9 : t9 = -1 ∨ (0 ≤ t9.toInt ∧ t9.toInt < th)), mv_V p l e ({ frames := 14 * f + 26, cells := 0, slots := 0, locals := 500 * f + 960 }) s m ([.ref (al 74)] : List Value).toArray below meth c (mg dA D al ext) 9 0 0 (mv_Q (mg dA D al ext) below s 0 0 (mv_Ui (YO 74 len th q ev d n a1 (f + 1) σ) ("MachineLoomModel$Book$Wrong", al 107) (BF 74 σ))) σ163 194 [(0, .ref (al 74)), (1, .int (mv_i σ71 74 49)), (3, .int i9), (4, .int k9), (5, .int p9), (6, .int v155)] [.int t9] := by
            intro t9 p9 ht9
            refine mv_istore (pc := 194) B d_Book_statement_194 (by decide) rfl ?_
            refine mv_iload (pc := 196) B d_Book_statement_196 0 rfl ?_
            refine mv_if_lt (pc := 198) (tgt := 213) B d_Book_statement_198 rfl (fun h198 => ?_) (fun h198 => ?_)
            · skip
              refine mv_lpick [1, 2] rfl ?_
              exact j213
            · skip
              have ht9 := ht9.resolve_left (fun z => h198 (by rw [z]; decide))
              refine mv_aload_n (pc := 201) B d_Book_statement_201 rfl 1 rfl ?_
              refine mv_getR (pc := 202) (ci := 12) (C := R_Book) (T := F_Book) (N := 65) B 15 rfl rfl (by decide) i_Book (B.2.2.2.1 _ k_1858) rfl (hS.R.1 _ 15 _ rfl) d_Book_statement_202 ?_
              refine mv_iload (pc := 205) B d_Book_statement_205 0 rfl ?_
              refine mv_zald (pc := 207) B rfl (i32_in (show 0 ≤ t9.toInt by omega) (show t9.toInt < 4100 by omega)) d_Book_statement_207 ?_
              refine mv_iload (pc := 208) B d_Book_statement_208 4 rfl ?_
              refine mv_icmp_eq (pc := 210) (tgt := 230) B d_Book_statement_210 rfl (fun h210 => ?_) (fun h210 => ?_)
              · skip
                refine mv_aload_n (pc := 230) B d_Book_statement_230 rfl 1 rfl ?_
                refine mv_getR (pc := 231) (ci := 12) (C := R_Book) (T := F_Book) (N := 65) B 12 rfl rfl (by decide) i_Book (B.2.2.2.1 _ k_1855) rfl (hS.R.1 _ 12 _ rfl) d_Book_statement_231 ?_
                refine mv_iload (pc := 234) B d_Book_statement_234 0 rfl ?_
                refine mv_iald (pc := 236) B rfl (i32_in (show 0 ≤ t9.toInt by omega) (show t9.toInt < 4100 by omega)) d_Book_statement_236 ?_
                refine mv_if_le (pc := 237) (tgt := 254) B d_Book_statement_237 rfl (fun h237 => ?_) (fun h237 => ?_)
                · skip
                  refine mv_iconst (pc := 254) (v := 0) B d_Book_statement_254 (by decide) ?_
                  refine mv_lpick [1, 3, 4, 5, 6, 0] rfl ?_
                  exact j255 _ _ _ ht9
                · skip
                  refine mv_aload_n (pc := 240) B d_Book_statement_240 rfl 1 rfl ?_
                  refine mv_getR (pc := 241) (ci := 12) (C := R_Book) (T := F_Book) (N := 65) B 45 rfl rfl (by decide) i_Book (B.2.2.2.1 _ k_1894) rfl (hS.R.1 _ 45 _ rfl) d_Book_statement_241 ?_
                  refine mv_iload (pc := 244) B d_Book_statement_244 6 rfl ?_
                  refine mv_iald (pc := 246) B rfl (i32_in (by omega) (by omega)) d_Book_statement_246 ?_
                  refine mv_if_le (pc := 247) (tgt := 254) B d_Book_statement_247 rfl (fun h247 => ?_) (fun h247 => ?_)
                  · skip
                    refine mv_iconst (pc := 254) (v := 0) B d_Book_statement_254 (by decide) ?_
                    refine mv_lpick [1, 3, 4, 5, 6, 0] rfl ?_
                    exact j255 _ _ _ ht9
                  · skip
                    refine mv_iconst (pc := 250) (v := 1) B d_Book_statement_250 (by decide) ?_
                    refine mv_goto (pc := 251) (tgt := 255) B d_Book_statement_251 rfl ?_
                    refine mv_lpick [1, 3, 4, 5, 6, 0] rfl ?_
                    exact j255 _ _ _ ht9
              · skip
                refine mv_lpick [1, 2] rfl ?_
                exact j213
          have j184 : ∀ (p9 : Int32) , mv_V p l e ({ frames := 14 * f + 26, cells := 0, slots := 0, locals := 500 * f + 960 }) s m ([.ref (al 74)] : List Value).toArray below meth c (mg dA D al ext) 9 0 0 (mv_Q (mg dA D al ext) below s 0 0 (mv_Ui (YO 74 len th q ev d n a1 (f + 1) σ) ("MachineLoomModel$Book$Wrong", al 107) (BF 74 σ))) σ163 184 [(0, .ref (al 74)), (1, .int (mv_i σ71 74 49)), (3, .int i9), (4, .int k9), (5, .int p9), (6, .int v155)] [] := by
            intro p9
            refine mv_iconst (pc := 184) (v := -1) B d_Book_statement_184 (by decide) ?_
            refine mv_goto (pc := 185) (tgt := 194) B d_Book_statement_185 rfl ?_
            refine mv_lpick [0, 1, 2, 3, 4, 5] rfl ?_
            exact j194 _ _ (by first | exact Or.inl rfl | (rw [hS.P.2.2.2.2.1] at z191; exact z191))
          refine mv_aload_n (pc := 166) B d_Book_statement_166 rfl 2 rfl ?_
          refine mv_iload_n (pc := 167) B d_Book_statement_167 rfl 3 rfl ?_
          refine mv_iload_n (pc := 168) B d_Book_statement_168 rfl 4 rfl ?_
          refine mv_callVi (pc := 169) (n := 2) (ci := 12) (C := R_Book) B (mK_ok sk sv) hNs rfl rfl (c_Book_let_x l hi _ _ _ len hS.R hl hM.2.1 hsp) rfl (ma_goodc kc_Book_let) (B.2.2.2.1 _ k_2305) (B.2.2.2.1 _ k_2307) (B.2.2.2.1 _ ks_116) (B.2.2.2.1 _ k_13) ⟨by decide +kernel, by decide +kernel, by decide +kernel⟩ rfl d_Book_statement_169 rfl (Nat.le_of_ble_eq_true rfl) ⟨by first | decide | (dsimp only; omega), by first | decide | (dsimp only; omega)⟩ ⟨Nat.le_refl _, Nat.le_refl _⟩ ⟨Nat.le_refl _, Nat.le_refl _⟩ (mv_noH hno _) (fun v169 σ169 h169 => ?_)
          obtain ⟨e169, z169⟩ := h169
          have e169 := e169.symm
          subst e169
          refine mv_if_ge (pc := 172) (tgt := 184) B d_Book_statement_172 rfl (fun h172 => ?_) (fun h172 => ?_)
          · skip
            refine mv_lpick [2, 3, 5, 6, 1, 0] rfl ?_
            exact j184 _
          · skip
            refine mv_aload_n (pc := 175) B d_Book_statement_175 rfl 2 rfl ?_
            refine mv_iload_n (pc := 176) B d_Book_statement_176 rfl 3 rfl ?_
            refine mv_iload_n (pc := 177) B d_Book_statement_177 rfl 4 rfl ?_
            refine mv_callVi (pc := 178) (n := 2) (ci := 12) (C := R_Book) B (mK_ok sk sv) hNs rfl rfl (c_Book_isField_x l hi _ _ _ len hS.R hz hl hM.2.2 hq0) rfl (ma_goodc kc_Book_isField) (B.2.2.2.1 _ k_2309) (B.2.2.2.1 _ k_2311) (B.2.2.2.1 _ ks_117) (B.2.2.2.1 _ k_13) ⟨by decide +kernel, by decide +kernel, by decide +kernel⟩ rfl d_Book_statement_178 rfl (Nat.le_of_ble_eq_true rfl) ⟨by first | decide | (dsimp only; omega), by first | decide | (dsimp only; omega)⟩ ⟨Nat.le_refl _, Nat.le_refl _⟩ ⟨Nat.le_refl _, Nat.le_refl _⟩ (mv_noH hno _) (fun v178 σ178 h178 => ?_)
            obtain ⟨e178, z178⟩ := h178
            have e178 := e178.symm
            subst e178
            refine mv_if_eq (pc := 181) (tgt := 188) B d_Book_statement_181 rfl (fun h181 => ?_) (fun h181 => ?_)
            · skip
              refine mv_aload_n (pc := 188) B d_Book_statement_188 rfl 2 rfl ?_
              refine mv_iload_n (pc := 189) B d_Book_statement_189 rfl 3 rfl ?_
              refine mv_iload_n (pc := 190) B d_Book_statement_190 rfl 4 rfl ?_
              refine mv_callVi (pc := 191) (n := 2) (ci := 12) (C := R_Book) B (mK_ok sk sv) hNs rfl rfl (c_Book_thing_x l hi _ _ _ len hS.R hl hM.1 hsp) rfl (ma_goodc kc_Book_thing) (B.2.2.2.1 _ k_2212) (B.2.2.2.1 _ k_2214) (B.2.2.2.1 _ ks_97) (B.2.2.2.1 _ k_13) ⟨by decide +kernel, by decide +kernel, by decide +kernel⟩ rfl d_Book_statement_191 rfl (Nat.le_of_ble_eq_true rfl) ⟨by first | decide | (dsimp only; omega), by first | decide | (dsimp only; omega)⟩ ⟨Nat.le_refl _, Nat.le_refl _⟩ ⟨Nat.le_refl _, Nat.le_refl _⟩ (mv_noH hno _) (fun v191 σ191 h191 => ?_)
              obtain ⟨e191, z191⟩ := h191
              have e191 := e191.symm
              subst e191
              refine mv_lpick [2, 3, 5, 6, 1, 0] rfl ?_
              exact j194 _ _ (by first | exact Or.inl rfl | (rw [hS.P.2.2.2.2.1] at z191; exact z191))
            · skip
              refine mv_lpick [2, 3, 5, 6, 1, 0] rfl ?_
              exact j184 _
        refine mv_aload_n (pc := 86) B d_Book_statement_86 rfl 3 rfl ?_
        refine mv_getI (pc := 87) (ci := 12) (C := R_Book) (T := F_Book) (N := 65) B 4 rfl rfl (by decide) i_Book (B.2.2.2.1 _ k_1847) rfl d_Book_statement_87 ?_
        refine mv_bipush (pc := 90) (v := 91) B d_Book_statement_90 (by decide) ?_
        refine mv_icmp_ne (pc := 92) (tgt := 99) B d_Book_statement_92 rfl (fun h92 => ?_) (fun h92 => ?_)
        · skip
          refine mv_iconst (pc := 99) (v := 0) B d_Book_statement_99 (by decide) ?_
          refine mv_istore (pc := 100) B d_Book_statement_100 (by decide) rfl ?_
          refine mv_iload (pc := 102) B d_Book_statement_102 0 rfl ?_
          refine mv_if_eq (pc := 104) (tgt := 142) B d_Book_statement_104 rfl (fun h104 => ?_) (fun h104 => ?_)
          · skip
            refine mv_lpick [4, 3, 2, 1, 0] rfl ?_
            exact j142 _ _ _ _ _ _ (hS.w (lo := n) (P := fun _ => True) (P' := fun τ => n < n → XR 74 th τ n n (10 * (f - 1) + 9)) (Nat.le_refl _) (Stb.im Stb.xr) (fun zz z => absurd z (Nat.lt_irrefl _))) (Or.inl ⟨rfl, rfl, rfl⟩) (by omega)
          · skip
            exact absurd rfl h104
        · skip
          refine mv_iconst (pc := 95) (v := 1) B d_Book_statement_95 (by decide) ?_
          refine mv_goto (pc := 96) (tgt := 100) B d_Book_statement_96 rfl ?_
          refine mv_istore (pc := 100) B d_Book_statement_100 (by decide) rfl ?_
          refine mv_iload (pc := 102) B d_Book_statement_102 0 rfl ?_
          refine mv_if_eq (pc := 104) (tgt := 142) B d_Book_statement_104 rfl (fun h104 => ?_) (fun h104 => ?_)
          · skip
            exact absurd h104 (by decide)
          · skip
            refine mv_aload_n (pc := 107) B d_Book_statement_107 rfl 4 rfl ?_
            refine mv_callVUv (pc := 108) (n := 0) (ci := 12) (C := R_Book) B (mK_ok sk sv) hNs rfl rfl (c_Book_pass_x l hi _ len _ _ hS.P.1) rfl (ma_goodc kc_Book_pass) (B.2.2.2.1 _ k_2173) (B.2.2.2.1 _ k_2175) (B.2.2.2.1 _ ks_90) (B.2.2.2.1 _ k_13) ⟨by decide +kernel, by decide +kernel, by decide +kernel⟩ rfl d_Book_statement_108 rfl (Nat.le_of_ble_eq_true rfl) ⟨by first | decide | (dsimp only; omega), by first | decide | (dsimp only; omega)⟩ ⟨Nat.le_refl _, Nat.le_refl _⟩ ⟨Nat.le_refl _, Nat.le_refl _⟩ (mv_noH hno _) (fun τ9 g9 => Or.inr ⟨rfl, hS.1.2.1.bf.tr g9.bf⟩) (fun σ108 h108 => ?_)
            have w108 := hS.P.w (by rw [h92]; decide)
            obtain ⟨d108, t108, u108, q108, g108⟩ := h108
            rw [hS.P.2.1] at d108
            have hS := hS.pass q108 g108
            have hL108 := hS.le
            refine mv_aload_n (pc := 111) B d_Book_statement_111 rfl 4 rfl ?_
            refine mv_dup (pc := 112) B d_Book_statement_112 rfl ?_
            refine mv_getI (pc := 113) (ci := 12) (C := R_Book) (T := F_Book) (N := 65) B 8 rfl rfl (by decide) i_Book (B.2.2.2.1 _ k_1851) rfl d_Book_statement_113 ?_
            refine mv_iconst (pc := 116) (v := 1) B d_Book_statement_116 (by decide) ?_
            refine mv_iadd (pc := 117) B d_Book_statement_117 ?_
            refine mv_putI (pc := 118) (ci := 12) (C := R_Book) (T := F_Book) (N := 65) B 8 rfl rfl (by decide) i_Book t_Book_ok n_Book (B.2.2.2.1 _ k_1851) rfl rfl rfl rfl d_Book_statement_118 ?_
            refine mv_gen (fun S121 eS121 => ?_)
            have hS := hS.dep (hS.P.up (by omega))
            rw [← eS121] at hS
            clear eS121
            refine mv_aload_n (pc := 121) B d_Book_statement_121 rfl 4 rfl ?_
            refine mv_callVUi (pc := 122) (n := 0) (ci := 12) (C := R_Book) B (mK_ok sk sv) hNs rfl rfl (c_Book_expr_x l hi _ (f - 1) len th _ _ _ _ (by omega) hS.P) rfl (ma_goodc kc_Book_expression) (B.2.2.2.1 _ k_2245) (B.2.2.2.1 _ k_2247) (B.2.2.2.1 _ ks_104) (B.2.2.2.1 _ k_13) ⟨by decide +kernel, by decide +kernel, by decide +kernel⟩ rfl d_Book_statement_122 rfl (Nat.le_of_ble_eq_true rfl) ⟨by first | decide | (dsimp only; omega), by first | decide | (dsimp only; omega)⟩ ⟨Nat.le_refl _, Nat.le_refl _⟩ ⟨Nat.le_refl _, Nat.le_refl _⟩ (mv_noH hno _) (fun τ9 g9 => Or.inr ⟨rfl, hS.1.2.1.bf.tr g9⟩) (fun v122 σ122 h122 => ?_)
            obtain ⟨n122, t122, u122, s122, m122, r122, x122⟩ := h122
            have i122 := s122.2.2.2.1
            have hS := hS.ex s122 x122
            have hL122 := hS.le
            refine mv_istore_n (pc := 125) B d_Book_statement_125 rfl (by decide) rfl ?_
            refine mv_aload_n (pc := 126) B d_Book_statement_126 rfl 4 rfl ?_
            refine mv_bipush (pc := 127) (v := 93) B d_Book_statement_127 (by decide) ?_
            refine mv_callVUv (pc := 129) (n := 1) (ci := 12) (C := R_Book) B (mK_ok sk sv) hNs rfl rfl (c_Book_need_x l hi _ _ len _ _ hS.P.1) rfl (ma_goodc kc_Book_need) (B.2.2.2.1 _ k_2177) (B.2.2.2.1 _ k_2179) (B.2.2.2.1 _ ks_91) (B.2.2.2.1 _ k_13) ⟨by decide +kernel, by decide +kernel, by decide +kernel⟩ rfl d_Book_statement_129 rfl (Nat.le_of_ble_eq_true rfl) ⟨by first | decide | (dsimp only; omega), by first | decide | (dsimp only; omega)⟩ ⟨Nat.le_refl _, Nat.le_refl _⟩ ⟨Nat.le_refl _, Nat.le_refl _⟩ (mv_noH hno _) (fun τ9 g9 => Or.inr ⟨rfl, hS.1.2.1.bf.tr g9.bf⟩) (fun σ129 h129 => ?_)
            obtain ⟨k129, d129, t129, u129, q129, g129⟩ := h129
            have w129 := hS.P.w (by rw [k129]; decide)
            rw [hS.P.2.1] at d129
            have hS := hS.pass q129 g129
            have hL129 := hS.le
            refine mv_aload_n (pc := 132) B d_Book_statement_132 rfl 4 rfl ?_
            refine mv_dup (pc := 133) B d_Book_statement_133 rfl ?_
            refine mv_getI (pc := 134) (ci := 12) (C := R_Book) (T := F_Book) (N := 65) B 8 rfl rfl (by decide) i_Book (B.2.2.2.1 _ k_1851) rfl d_Book_statement_134 ?_
            refine mv_iconst (pc := 137) (v := 1) B d_Book_statement_137 (by decide) ?_
            refine mv_isub (pc := 138) B d_Book_statement_138 ?_
            refine mv_putI (pc := 139) (ci := 12) (C := R_Book) (T := F_Book) (N := 65) B 8 rfl rfl (by decide) i_Book t_Book_ok n_Book (B.2.2.2.1 _ k_1851) rfl rfl rfl rfl d_Book_statement_139 ?_
            refine mv_lpick [4, 3, 2, 0, 1] rfl ?_
            refine mv_gen (fun S142 eS142 => ?_)
            have hS := hS.dep hS.P.dn
            rw [← eS142] at hS
            clear eS142
            exact j142 _ _ _ _ _ _ (hS.w (lo := n) (P := fun _ => True) (P' := fun τ => n < n122 → XR 74 th τ n n122 (10 * (f - 1) + 9)) (Nat.le_refl _) (Stb.im Stb.xr) (fun zz z => hS.2.at 0 rfl zz)) (Or.inr ⟨rfl, by omega, by omega⟩) (by omega)
      · skip
        refine mv_aload_n (pc := 65) B d_Book_statement_65 rfl 0 rfl ?_
        refine mv_callVUi (pc := 66) (n := 0) (ci := 12) (C := R_Book) B (mK_ok sk sv) hNs rfl rfl (c_Book_ifStatement_x l hi _ f len th _ _ _ _ _ _ hf hP (z59.resolve_left h62).2 hB) rfl (ma_goodc kc_Book_ifStatement) (B.2.2.2.1 _ k_2328) (B.2.2.2.1 _ k_2330) (B.2.2.2.1 _ ks_120) (B.2.2.2.1 _ k_13) ⟨by decide +kernel, by decide +kernel, by decide +kernel⟩ rfl d_Book_statement_66 rfl (Nat.le_of_ble_eq_true rfl) ⟨by first | decide | (dsimp only; omega), by first | decide | (dsimp only; omega)⟩ ⟨Nat.le_refl _, Nat.le_refl _⟩ ⟨Nat.le_refl _, Nat.le_refl _⟩ (mv_noH hno _) (fun τ9 g9 => Or.inr ⟨rfl, g9⟩) (fun v66 σ66 h66 => ?_)
        exact mv_iret (pc := 69) B hr rfl d_Book_statement_69 (Nat.le_refl _) (Nat.le_refl _) (Or.inl ⟨_, rfl, h66⟩)
    · skip
      refine mv_aload_n (pc := 25) B d_Book_statement_25 rfl 0 rfl ?_
      refine mv_callVUv (pc := 26) (n := 0) (ci := 12) (C := R_Book) B (mK_ok sk sv) hNs rfl rfl (c_Book_pass_x l hi _ len _ _ hS.P.1) rfl (ma_goodc kc_Book_pass) (B.2.2.2.1 _ k_2173) (B.2.2.2.1 _ k_2175) (B.2.2.2.1 _ ks_90) (B.2.2.2.1 _ k_13) ⟨by decide +kernel, by decide +kernel, by decide +kernel⟩ rfl d_Book_statement_26 rfl (Nat.le_of_ble_eq_true rfl) ⟨by first | decide | (dsimp only; omega), by first | decide | (dsimp only; omega)⟩ ⟨Nat.le_refl _, Nat.le_refl _⟩ ⟨Nat.le_refl _, Nat.le_refl _⟩ (mv_noH hno _) (fun τ9 g9 => Or.inr ⟨rfl, hS.1.2.1.bf.tr g9.bf⟩) (fun σ26 h26 => ?_)
      have w26 := hS.P.w (by rw [(z19.resolve_left h22).2]; decide)
      obtain ⟨d26, t26, u26, q26, g26⟩ := h26
      rw [hS.P.2.1] at d26
      have hS := hS.pass q26 g26
      have hL26 := hS.le
      refine mv_aload_n (pc := 29) B d_Book_statement_29 rfl 0 rfl ?_
      refine mv_lconst (pc := 30) (v := 1) B d_Book_statement_30 (by decide) ?_
      refine mv_ldc2 (pc := 31) (v := 1000000) B (B.2.2.2.1 _ k_2326) d_Book_statement_31 ?_
      refine mv_callVUi (pc := 34) (n := 2) (ci := 12) (C := R_Book) B (mK_ok sk sv) hNs rfl rfl (c_Book_ranged_x l hi _ _ _ (by decide) (by decide) len _ _ hS.P.1) rfl (ma_goodc kc_Book_ranged) (B.2.2.2.1 _ k_2203) (B.2.2.2.1 _ k_2205) (B.2.2.2.1 _ ks_96) (B.2.2.2.1 _ k_13) ⟨by decide +kernel, by decide +kernel, by decide +kernel⟩ rfl d_Book_statement_34 rfl (Nat.le_of_ble_eq_true rfl) ⟨by first | decide | (dsimp only; omega), by first | decide | (dsimp only; omega)⟩ ⟨Nat.le_refl _, Nat.le_refl _⟩ ⟨Nat.le_refl _, Nat.le_refl _⟩ (mv_noH hno _) (fun τ9 g9 => Or.inr ⟨rfl, hS.1.2.1.bf.tr g9.bf⟩) (fun v34 σ34 h34 => ?_)
      obtain ⟨k34, d34, ⟨t34, u34, q34, g34⟩, f34, b34, z34⟩ := h34
      have w34 := hS.P.w (by rw [k34]; decide)
      rw [hS.P.2.1] at d34
      have hS := hS.rng q34 g34 f34 b34
      have hL34 := hS.le
      refine mv_istore_n (pc := 37) B d_Book_statement_37 rfl (by decide) rfl ?_
      refine mv_aload_n (pc := 38) B d_Book_statement_38 rfl 1 rfl ?_
      refine mv_bipush (pc := 39) (v := 59) B d_Book_statement_39 (by decide) ?_
      refine mv_callVUv (pc := 41) (n := 1) (ci := 12) (C := R_Book) B (mK_ok sk sv) hNs rfl rfl (c_Book_need_x l hi _ _ len _ _ hS.P.1) rfl (ma_goodc kc_Book_need) (B.2.2.2.1 _ k_2177) (B.2.2.2.1 _ k_2179) (B.2.2.2.1 _ ks_91) (B.2.2.2.1 _ k_13) ⟨by decide +kernel, by decide +kernel, by decide +kernel⟩ rfl d_Book_statement_41 rfl (Nat.le_of_ble_eq_true rfl) ⟨by first | decide | (dsimp only; omega), by first | decide | (dsimp only; omega)⟩ ⟨Nat.le_refl _, Nat.le_refl _⟩ ⟨Nat.le_refl _, Nat.le_refl _⟩ (mv_noH hno _) (fun τ9 g9 => Or.inr ⟨rfl, hS.1.2.1.bf.tr g9.bf⟩) (fun σ41 h41 => ?_)
      obtain ⟨k41, d41, t41, u41, q41, g41⟩ := h41
      have w41 := hS.P.w (by rw [k41]; decide)
      rw [hS.P.2.1] at d41
      have hS := hS.pass q41 g41
      have hL41 := hS.le
      refine mv_aload_n (pc := 44) B d_Book_statement_44 rfl 1 rfl ?_
      refine mv_bipush (pc := 45) (v := 17) B d_Book_statement_45 (by decide) ?_
      refine mv_iload_n (pc := 47) B d_Book_statement_47 rfl 0 rfl ?_
      refine mv_iconst (pc := 48) (v := 0) B d_Book_statement_48 (by decide) ?_
      refine mv_iconst (pc := 49) (v := 0) B d_Book_statement_49 (by decide) ?_
      refine mv_iconst (pc := 50) (v := 0) B d_Book_statement_50 (by decide) ?_
      refine mv_callVi (pc := 51) (n := 5) (ci := 12) (C := R_Book) B (mK_ok sk sv) hNs rfl rfl (c_Book_node_x l hi _ _ _ _ _ _ hS.R (by have := hS.le; omega) (by have := hS.le; omega)) rfl (ma_goodc kc_Book_node) (B.2.2.2.1 _ k_2269) (B.2.2.2.1 _ k_2271) (B.2.2.2.1 _ ks_110) (B.2.2.2.1 _ k_13) ⟨by decide +kernel, by decide +kernel, by decide +kernel⟩ rfl d_Book_statement_51 rfl (Nat.le_of_ble_eq_true rfl) ⟨by first | decide | (dsimp only; omega), by first | decide | (dsimp only; omega)⟩ ⟨Nat.le_refl _, Nat.le_refl _⟩ ⟨Nat.le_refl _, Nat.le_refl _⟩ (mv_noH hno _) (fun v51 σ51 h51 => ?_)
      obtain ⟨e51, z51⟩ := h51
      have hN := hS.node z51 (lo := n) (P := fun τ => SR 74 th τ n (n + 1) (f + 1) (n)) (by omega) hn0 Stb.sr (fun zz => by
      rw [z51]
      exact SR.set (g := (fun _ => 0, fun _ => 0)) RG.nil (Nat.le_refl _) hS.P.nn (by show (0 : Int) < _; omega) (Or.inr (Or.inr (by decide))))
      have hv51 : v51.toInt = ((n : Nat) : Int) := by rw [e51]; have := hS.le; omega
      exact mv_iret (pc := 54) B hr rfl d_Book_statement_54 (Nat.le_refl _) (Nat.le_refl _) (Or.inl ⟨_, rfl, _, _, _, _, _, n, hN.1, by omega, hv51, by omega, by omega, fun zz => hN.2.at 0 rfl zz⟩)
  · skip
    refine mv_aload_n (pc := 10) B d_Book_statement_10 rfl 0 rfl ?_
    refine mv_callVUi (pc := 11) (n := 0) (ci := 12) (C := R_Book) B (mK_ok sk sv) hNs rfl rfl (c_Book_letStatement_x l hi _ f len th _ _ _ _ _ _ hf hP (z4.resolve_left h7).2) rfl (ma_goodc kc_Book_letStatement) (B.2.2.2.1 _ k_2241) (B.2.2.2.1 _ k_2243) (B.2.2.2.1 _ ks_103) (B.2.2.2.1 _ k_13) ⟨by decide +kernel, by decide +kernel, by decide +kernel⟩ rfl d_Book_statement_11 rfl (Nat.le_of_ble_eq_true rfl) ⟨by first | decide | (dsimp only; omega), by first | decide | (dsimp only; omega)⟩ ⟨Nat.le_refl _, Nat.le_refl _⟩ ⟨Nat.le_refl _, Nat.le_refl _⟩ (mv_noH hno _) (fun τ9 g9 => Or.inr ⟨rfl, g9⟩) (fun v11 σ11 h11 => ?_)
    exact mv_iret (pc := 14) B hr rfl d_Book_statement_14 (Nat.le_refl _) (Nat.le_refl _) (Or.inl ⟨_, rfl, h11⟩)
set_option maxHeartbeats 4000000 in
set_option maxRecDepth 100000 in
theorem c_Book_statement_y (l : Launch) {dA : FieldType → ClassId} {D : va_G} {al : Nat → Nat} {ext : mv_Sh} {sk sv : Nat → Nat} (hi : mv_inj (mg dA D al ext)) (σ : mv_H) (f len th q ev d n a1 a2 : Nat) (hf : d + f = 61) (hP : SS 108 len th q ev d n a1 a2 σ) (hB : YBl l dA D al ext sk sv 108 f) : mv_C l y_Book_statement (Cond.code y_Book_statement b_Book_statement 9 (Option.some Jvm.ClassFile.FieldType.int) :: ma) ({ frames := 14 * f + 26, cells := 0, slots := 0, locals := 500 * f + 960 }) (mg dA D al ext) (mK sk sv) [.ref (al 108)] σ (mv_Ui (YO 108 len th q ev d n a1 (f + 1) σ) ("MachineLoomModel$Book$Wrong", al 141) (BF 108 σ)) := by
  refine mv_C.ofV (cc := b_Book_statement) (nL := 9) (ret := (Option.some Jvm.ClassFile.FieldType.int)) (by decide +kernel) rfl hi (Nat.le_of_ble_eq_true rfl) ?_
  intro p e s m below meth c B hNs hr hnm hno
  have hS := YT.rf hP
  have hn0 := hP.1.le.1
  have hL00 := hS.le
  refine mv_aload_n (pc := 0) B d_Book_statement_0 rfl 0 rfl ?_
  refine mv_ldcwS (pc := 1) B (hNs.2.1 147 (by decide)).1 d_Book_statement_1 ?_
  refine mv_callVi (pc := 4) (n := 1) (ci := 12) (C := R_Book) B (mK_ok sk sv) hNs rfl rfl (c_Book_is_y l hi _ 147 (by decide) len _ _ hS.P.1) rfl (ma_goodc kc_Book_is) (B.2.2.2.1 _ k_2163) (B.2.2.2.1 _ k_2165) (B.2.2.2.1 _ ks_88) (B.2.2.2.1 _ k_13) ⟨by decide +kernel, by decide +kernel, by decide +kernel⟩ rfl d_Book_statement_4 rfl (Nat.le_of_ble_eq_true rfl) ⟨by first | decide | (dsimp only; omega), by first | decide | (dsimp only; omega)⟩ ⟨Nat.le_refl _, Nat.le_refl _⟩ ⟨Nat.le_refl _, Nat.le_refl _⟩ (mv_noH hno _) (fun v4 σ4 h4 => ?_)
  obtain ⟨e4, z4⟩ := h4
  have e4 := e4.symm
  subst e4
  refine mv_if_eq (pc := 7) (tgt := 15) B d_Book_statement_7 rfl (fun h7 => ?_) (fun h7 => ?_)
  · skip
    refine mv_aload_n (pc := 15) B d_Book_statement_15 rfl 0 rfl ?_
    refine mv_ldcwS (pc := 16) B (hNs.2.1 154 (by decide)).1 d_Book_statement_16 ?_
    refine mv_callVi (pc := 19) (n := 1) (ci := 12) (C := R_Book) B (mK_ok sk sv) hNs rfl rfl (c_Book_is_y l hi _ 154 (by decide) len _ _ hS.P.1) rfl (ma_goodc kc_Book_is) (B.2.2.2.1 _ k_2163) (B.2.2.2.1 _ k_2165) (B.2.2.2.1 _ ks_88) (B.2.2.2.1 _ k_13) ⟨by decide +kernel, by decide +kernel, by decide +kernel⟩ rfl d_Book_statement_19 rfl (Nat.le_of_ble_eq_true rfl) ⟨by first | decide | (dsimp only; omega), by first | decide | (dsimp only; omega)⟩ ⟨Nat.le_refl _, Nat.le_refl _⟩ ⟨Nat.le_refl _, Nat.le_refl _⟩ (mv_noH hno _) (fun v19 σ19 h19 => ?_)
    obtain ⟨e19, z19⟩ := h19
    have e19 := e19.symm
    subst e19
    refine mv_if_eq (pc := 22) (tgt := 55) B d_Book_statement_22 rfl (fun h22 => ?_) (fun h22 => ?_)
    · skip
      refine mv_aload_n (pc := 55) B d_Book_statement_55 rfl 0 rfl ?_
      refine mv_ldcwS (pc := 56) B (hNs.2.1 155 (by decide)).1 d_Book_statement_56 ?_
      refine mv_callVi (pc := 59) (n := 1) (ci := 12) (C := R_Book) B (mK_ok sk sv) hNs rfl rfl (c_Book_is_y l hi _ 155 (by decide) len _ _ hS.P.1) rfl (ma_goodc kc_Book_is) (B.2.2.2.1 _ k_2163) (B.2.2.2.1 _ k_2165) (B.2.2.2.1 _ ks_88) (B.2.2.2.1 _ k_13) ⟨by decide +kernel, by decide +kernel, by decide +kernel⟩ rfl d_Book_statement_59 rfl (Nat.le_of_ble_eq_true rfl) ⟨by first | decide | (dsimp only; omega), by first | decide | (dsimp only; omega)⟩ ⟨Nat.le_refl _, Nat.le_refl _⟩ ⟨Nat.le_refl _, Nat.le_refl _⟩ (mv_noH hno _) (fun v59 σ59 h59 => ?_)
      obtain ⟨e59, z59⟩ := h59
      have e59 := e59.symm
      subst e59
      refine mv_if_eq (pc := 62) (tgt := 70) B d_Book_statement_62 rfl (fun h62 => ?_) (fun h62 => ?_)
      · skip
        refine mv_aload_n (pc := 70) B d_Book_statement_70 rfl 0 rfl ?_
        refine mv_callVUv (pc := 71) (n := 0) (ci := 12) (C := R_Book) B (mK_ok sk sv) hNs rfl rfl (c_Book_name_y l hi _ len _ _ hS.P.1) rfl (ma_goodc kc_Book_name) (B.2.2.2.1 _ k_2194) (B.2.2.2.1 _ k_2196) (B.2.2.2.1 _ ks_94) (B.2.2.2.1 _ k_13) ⟨by decide +kernel, by decide +kernel, by decide +kernel⟩ rfl d_Book_statement_71 rfl (Nat.le_of_ble_eq_true rfl) ⟨by first | decide | (dsimp only; omega), by first | decide | (dsimp only; omega)⟩ ⟨Nat.le_refl _, Nat.le_refl _⟩ ⟨Nat.le_refl _, Nat.le_refl _⟩ (mv_noH hno _) (fun τ9 g9 => Or.inr ⟨rfl, hS.1.2.1.bf.tr g9⟩) (fun σ71 h71 => ?_)
        obtain ⟨k71, d71, ⟨t71, u71, q71, g71⟩, y71⟩ := h71
        have w71 := hS.P.w (by rw [k71]; decide)
        rw [hS.P.2.1] at d71
        have hsp := name_sp (c1 := 0) (c2 := 0) y71 hS.P.1.sp
        have hS := hS.name q71 g71 y71
        have hL71 := hS.le
        have hn71 := hS.P.2.2.2.1
        refine mv_aload_n (pc := 74) B d_Book_statement_74 rfl 0 rfl ?_
        refine mv_getI (pc := 75) (ci := 12) (C := R_Book) (T := F_Book) (N := 65) B 49 rfl rfl (by decide) i_Book (B.2.2.2.1 _ k_1898) rfl d_Book_statement_75 ?_
        refine mv_istore_n (pc := 78) B d_Book_statement_78 rfl (by decide) rfl ?_
        refine mv_aload_n (pc := 79) B d_Book_statement_79 rfl 1 rfl ?_
        refine mv_getI (pc := 80) (ci := 12) (C := R_Book) (T := F_Book) (N := 65) B 50 rfl rfl (by decide) i_Book (B.2.2.2.1 _ k_1899) rfl d_Book_statement_80 ?_
        refine mv_istore_n (pc := 83) B d_Book_statement_83 rfl (by decide) rfl ?_
        refine mv_iconst (pc := 84) (v := -1) B d_Book_statement_84 (by decide) ?_
        refine mv_istore_n (pc := 85) B d_Book_statement_85 rfl (by decide) rfl ?_
        have j142 : ∀ (S9 : mv_H) (n9 : Nat) (t8 : Nat) (u8 : Nat) (i9 : Int32) (k9 : Int32) (hS : YT 108 len th σ q ev n a1 S9 q ev d n9 t8 u8 [(n, n9, fun τ => n < n9 → XR 108 th τ n n9 (10 * (f - 1) + 9))]) (hi9 : (k9 = 0 ∧ n9 = n ∧ i9.toInt = -1) ∨ (k9 = 1 ∧ n < n9 ∧ i9.toInt + 1 = n9)) (ht8 : a1 < t8 ∧ n9 + 1 + a1 ≤ n + t8), mv_V p l e ({ frames := 14 * f + 26, cells := 0, slots := 0, locals := 500 * f + 960 }) s m ([.ref (al 108)] : List Value).toArray below meth c (mg dA D al ext) 9 0 0 (mv_Q (mg dA D al ext) below s 0 0 (mv_Ui (YO 108 len th q ev d n a1 (f + 1) σ) ("MachineLoomModel$Book$Wrong", al 141) (BF 108 σ))) S9 142 [(0, .ref (al 108)), (1, .int (mv_i σ71 108 49)), (2, .int (mv_i σ71 108 50)), (3, .int i9), (4, .int k9)] [] := by
          intro S9 n9 t8 u8 i9 k9 hS hi9 ht8
          have hL142 := hS.le
          refine mv_aload_n (pc := 142) B d_Book_statement_142 rfl 0 rfl ?_
          refine mv_getI (pc := 143) (ci := 12) (C := R_Book) (T := F_Book) (N := 65) B 5 rfl rfl (by decide) i_Book (B.2.2.2.1 _ k_1848) rfl d_Book_statement_143 ?_
          refine mv_istore (pc := 146) B d_Book_statement_146 (by decide) rfl ?_
          refine mv_aload_n (pc := 148) B d_Book_statement_148 rfl 1 rfl ?_
          refine mv_bipush (pc := 149) (v := 61) B d_Book_statement_149 (by decide) ?_
          refine mv_callVUv (pc := 151) (n := 1) (ci := 12) (C := R_Book) B (mK_ok sk sv) hNs rfl rfl (c_Book_need_y l hi _ _ len _ _ hS.P.1) rfl (ma_goodc kc_Book_need) (B.2.2.2.1 _ k_2177) (B.2.2.2.1 _ k_2179) (B.2.2.2.1 _ ks_91) (B.2.2.2.1 _ k_13) ⟨by decide +kernel, by decide +kernel, by decide +kernel⟩ rfl d_Book_statement_151 rfl (Nat.le_of_ble_eq_true rfl) ⟨by first | decide | (dsimp only; omega), by first | decide | (dsimp only; omega)⟩ ⟨Nat.le_refl _, Nat.le_refl _⟩ ⟨Nat.le_refl _, Nat.le_refl _⟩ (mv_noH hno _) (fun τ9 g9 => Or.inr ⟨rfl, hS.1.2.1.bf.tr g9.bf⟩) (fun σ151 h151 => ?_)
          obtain ⟨k151, d151, t151, u151, q151, g151⟩ := h151
          have w151 := hS.P.w (by rw [k151]; decide)
          rw [hS.P.2.1] at d151
          have hS := hS.pass q151 g151
          have hL151 := hS.le
          refine mv_aload_n (pc := 154) B d_Book_statement_154 rfl 1 rfl ?_
          refine mv_callVUi (pc := 155) (n := 0) (ci := 12) (C := R_Book) B (mK_ok sk sv) hNs rfl rfl (c_Book_expr_y l hi _ (f) len th _ _ _ _ hf hS.P) rfl (ma_goodc kc_Book_expression) (B.2.2.2.1 _ k_2245) (B.2.2.2.1 _ k_2247) (B.2.2.2.1 _ ks_104) (B.2.2.2.1 _ k_13) ⟨by decide +kernel, by decide +kernel, by decide +kernel⟩ rfl d_Book_statement_155 rfl (Nat.le_of_ble_eq_true rfl) ⟨by first | decide | (dsimp only; omega), by first | decide | (dsimp only; omega)⟩ ⟨Nat.le_refl _, Nat.le_refl _⟩ ⟨Nat.le_refl _, Nat.le_refl _⟩ (mv_noH hno _) (fun τ9 g9 => Or.inr ⟨rfl, hS.1.2.1.bf.tr g9⟩) (fun v155 σ155 h155 => ?_)
          obtain ⟨n155, t155, u155, s155, m155, r155, x155⟩ := h155
          have i155 := s155.2.2.2.1
          have hS := hS.ex s155 x155
          have hL155 := hS.le
          refine mv_istore (pc := 158) B d_Book_statement_158 (by decide) rfl ?_
          refine mv_aload_n (pc := 160) B d_Book_statement_160 rfl 2 rfl ?_
          refine mv_bipush (pc := 161) (v := 59) B d_Book_statement_161 (by decide) ?_
          refine mv_callVUv (pc := 163) (n := 1) (ci := 12) (C := R_Book) B (mK_ok sk sv) hNs rfl rfl (c_Book_need_y l hi _ _ len _ _ hS.P.1) rfl (ma_goodc kc_Book_need) (B.2.2.2.1 _ k_2177) (B.2.2.2.1 _ k_2179) (B.2.2.2.1 _ ks_91) (B.2.2.2.1 _ k_13) ⟨by decide +kernel, by decide +kernel, by decide +kernel⟩ rfl d_Book_statement_163 rfl (Nat.le_of_ble_eq_true rfl) ⟨by first | decide | (dsimp only; omega), by first | decide | (dsimp only; omega)⟩ ⟨Nat.le_refl _, Nat.le_refl _⟩ ⟨Nat.le_refl _, Nat.le_refl _⟩ (mv_noH hno _) (fun τ9 g9 => Or.inr ⟨rfl, hS.1.2.1.bf.tr g9.bf⟩) (fun σ163 h163 => ?_)
          obtain ⟨k163, d163, t163, u163, q163, g163⟩ := h163
          have w163 := hS.P.w (by rw [k163]; decide)
          rw [hS.P.2.1] at d163
          have hS := hS.pass q163 g163
          have hL163 := hS.le
          have hM := hS.P.2.2.2.2.2
          have hz := hS.P.1.1.2.2.1
          have hl := hS.P.le.2.2.2
          have hq0 := hsp.1
          have hth9 := hM.1.2.1
          have hth8 := hS.P.2.2.2.2.1
          have j286 : ∀ (τ : mv_H) (t9 : Int32) (hT : FT 108 σ163 τ) (ht9 : 0 ≤ t9.toInt ∧ t9.toInt < th), mv_V p l e ({ frames := 14 * f + 26, cells := 0, slots := 0, locals := 500 * f + 960 }) s m ([.ref (al 108)] : List Value).toArray below meth c (mg dA D al ext) 9 0 0 (mv_Q (mg dA D al ext) below s 0 0 (mv_Ui (YO 108 len th q ev d n a1 (f + 1) σ) ("MachineLoomModel$Book$Wrong", al 141) (BF 108 σ))) τ 286 [(0, .ref (al 108)), (3, .int i9), (4, .int k9), (6, .int v155), (7, .int t9)] [] := by
            intro τ t9 hT ht9
            have hS := hS.ft hT
            have hL305 := hS.le
            refine mv_aload_n (pc := 286) B d_Book_statement_286 rfl 0 rfl ?_
            refine mv_iload (pc := 287) B d_Book_statement_287 2 rfl ?_
            refine mv_if_eq (pc := 289) (tgt := 297) B d_Book_statement_289 rfl (fun h289 => ?_) (fun h289 => ?_)
            · skip
              refine mv_bipush (pc := 297) (v := 15) B d_Book_statement_297 (by decide) ?_
              refine mv_iload (pc := 299) B d_Book_statement_299 4 rfl ?_
              refine mv_iload (pc := 301) B d_Book_statement_301 3 rfl ?_
              refine mv_iload_n (pc := 303) B d_Book_statement_303 rfl 1 rfl ?_
              refine mv_iconst (pc := 304) (v := 0) B d_Book_statement_304 (by decide) ?_
              refine mv_callVi (pc := 305) (n := 5) (ci := 12) (C := R_Book) B (mK_ok sk sv) hNs rfl rfl (c_Book_node_y l hi _ _ _ _ _ _ hS.R (by have := hS.le; omega) (by have := hS.le; omega)) rfl (ma_goodc kc_Book_node) (B.2.2.2.1 _ k_2269) (B.2.2.2.1 _ k_2271) (B.2.2.2.1 _ ks_110) (B.2.2.2.1 _ k_13) ⟨by decide +kernel, by decide +kernel, by decide +kernel⟩ rfl d_Book_statement_305 rfl (Nat.le_of_ble_eq_true rfl) ⟨by first | decide | (dsimp only; omega), by first | decide | (dsimp only; omega)⟩ ⟨Nat.le_refl _, Nat.le_refl _⟩ ⟨Nat.le_refl _, Nat.le_refl _⟩ (mv_noH hno _) (fun v305 σ305 h305 => ?_)
              obtain ⟨e305, z305⟩ := h305
              have hN := hS.node z305 (lo := n) (P := fun τ => SR 108 th τ n (n155 + 1) (f + 1) (n155)) (by omega) hn0 Stb.sr (fun zz => by
      have y1 := hS.2.at 1 rfl zz
      have y2 := hS.2.at 0 rfl zz
      obtain ⟨g9, hg9⟩ := RG.two (r := f + 1) y1 y2 (by omega) m155 (by omega) (by omega)
      rw [z305]
      exact SR.set hg9 (by omega) hS.P.nn (by omega) (Or.inr (Or.inl ⟨by decide, ⟨by omega, by omega⟩, SX.x y2 r155 m155 (Nat.le_refl _) (by omega), fun q => by first | exact absurd q (by decide) | exact SX.x (y1 (by omega)) hx9 (by omega) (by omega) (Nat.le_refl _)⟩)))
              have hv305 : v305.toInt = ((n155 : Nat) : Int) := by rw [e305]; have := hS.le; omega
              exact mv_iret (pc := 308) B hr rfl d_Book_statement_308 (Nat.le_refl _) (Nat.le_refl _) (Or.inl ⟨_, rfl, _, _, _, _, _, n155, hN.1, by omega, hv305, by omega, by omega, fun zz => hN.2.at 0 rfl zz⟩)
            · skip
              have hx9 : i9.toInt + 1 = n9 ∧ n < n9 := by
                rcases hi9 with z | z
                · exact absurd z.1 h289
                · exact ⟨z.2.2, z.2.1⟩
              have hx8 := hx9.2
              have hx9 := hx9.1
              refine mv_bipush (pc := 292) (v := 16) B d_Book_statement_292 (by decide) ?_
              refine mv_goto (pc := 294) (tgt := 299) B d_Book_statement_294 rfl ?_
              refine mv_iload (pc := 299) B d_Book_statement_299 4 rfl ?_
              refine mv_iload (pc := 301) B d_Book_statement_301 3 rfl ?_
              refine mv_iload_n (pc := 303) B d_Book_statement_303 rfl 1 rfl ?_
              refine mv_iconst (pc := 304) (v := 0) B d_Book_statement_304 (by decide) ?_
              refine mv_callVi (pc := 305) (n := 5) (ci := 12) (C := R_Book) B (mK_ok sk sv) hNs rfl rfl (c_Book_node_y l hi _ _ _ _ _ _ hS.R (by have := hS.le; omega) (by have := hS.le; omega)) rfl (ma_goodc kc_Book_node) (B.2.2.2.1 _ k_2269) (B.2.2.2.1 _ k_2271) (B.2.2.2.1 _ ks_110) (B.2.2.2.1 _ k_13) ⟨by decide +kernel, by decide +kernel, by decide +kernel⟩ rfl d_Book_statement_305 rfl (Nat.le_of_ble_eq_true rfl) ⟨by first | decide | (dsimp only; omega), by first | decide | (dsimp only; omega)⟩ ⟨Nat.le_refl _, Nat.le_refl _⟩ ⟨Nat.le_refl _, Nat.le_refl _⟩ (mv_noH hno _) (fun v305 σ305 h305 => ?_)
              obtain ⟨e305, z305⟩ := h305
              have hN := hS.node z305 (lo := n) (P := fun τ => SR 108 th τ n (n155 + 1) (f + 1) (n155)) (by omega) hn0 Stb.sr (fun zz => by
      have y1 := hS.2.at 1 rfl zz
      have y2 := hS.2.at 0 rfl zz
      obtain ⟨g9, hg9⟩ := RG.two (r := f + 1) y1 y2 (by omega) m155 (by omega) (by omega)
      rw [z305]
      exact SR.set hg9 (by omega) hS.P.nn (by omega) (Or.inr (Or.inl ⟨by decide, ⟨by omega, by omega⟩, SX.x y2 r155 m155 (Nat.le_refl _) (by omega), fun q => by first | exact absurd q (by decide) | exact SX.x (y1 (by omega)) hx9 (by omega) (by omega) (Nat.le_refl _)⟩)))
              have hv305 : v305.toInt = ((n155 : Nat) : Int) := by rw [e305]; have := hS.le; omega
              exact mv_iret (pc := 308) B hr rfl d_Book_statement_308 (Nat.le_refl _) (Nat.le_refl _) (Or.inl ⟨_, rfl, _, _, _, _, _, n155, hN.1, by omega, hv305, by omega, by omega, fun zz => hN.2.at 0 rfl zz⟩)
          have j255 : ∀ (t9 : Int32) (p9 : Int32) (b9 : Int32) (ht9 : 0 ≤ t9.toInt ∧ t9.toInt < th), mv_V p l e ({ frames := 14 * f + 26, cells := 0, slots := 0, locals := 500 * f + 960 }) s m ([.ref (al 108)] : List Value).toArray below meth c (mg dA D al ext) 9 0 0 (mv_Q (mg dA D al ext) below s 0 0 (mv_Ui (YO 108 len th q ev d n a1 (f + 1) σ) ("MachineLoomModel$Book$Wrong", al 141) (BF 108 σ))) σ163 255 [(0, .ref (al 108)), (3, .int i9), (4, .int k9), (5, .int p9), (6, .int v155), (7, .int t9)] [.int b9] := by
            intro t9 p9 b9 ht9
            refine mv_istore (pc := 255) B d_Book_statement_255 (by decide) rfl ?_
            refine mv_iload (pc := 257) B d_Book_statement_257 0 rfl ?_
            refine mv_if_eq (pc := 259) (tgt := 286) B d_Book_statement_259 rfl (fun h259 => ?_) (fun h259 => ?_)
            · skip
              refine mv_lpick [1, 2, 3, 5, 6] rfl ?_
              exact j286 _ _ (by first | exact FT.rf | exact FT.rf.of h283) ht9
            · skip
              refine mv_aload_n (pc := 262) B d_Book_statement_262 rfl 1 rfl ?_
              refine mv_getR (pc := 263) (ci := 12) (C := R_Book) (T := F_Book) (N := 65) B 12 rfl rfl (by decide) i_Book (B.2.2.2.1 _ k_1855) rfl (hS.R.1 _ 12 _ rfl) d_Book_statement_263 ?_
              refine mv_iload (pc := 266) B d_Book_statement_266 6 rfl ?_
              refine mv_iald (pc := 268) B rfl (i32_in (show 0 ≤ t9.toInt by omega) (show t9.toInt < 4100 by omega)) d_Book_statement_268 ?_
              refine mv_aload_n (pc := 269) B d_Book_statement_269 rfl 1 rfl ?_
              refine mv_getR (pc := 270) (ci := 12) (C := R_Book) (T := F_Book) (N := 65) B 45 rfl rfl (by decide) i_Book (B.2.2.2.1 _ k_1894) rfl (hS.R.1 _ 45 _ rfl) d_Book_statement_270 ?_
              refine mv_iload (pc := 273) B d_Book_statement_273 5 rfl ?_
              refine mv_iald (pc := 275) B rfl (i32_in (by omega) (by omega)) d_Book_statement_275 ?_
              refine mv_icmp_eq (pc := 276) (tgt := 286) B d_Book_statement_276 rfl (fun h276 => ?_) (fun h276 => ?_)
              · skip
                refine mv_lpick [1, 2, 3, 5, 6] rfl ?_
                exact j286 _ _ (by first | exact FT.rf | exact FT.rf.of h283) ht9
              · skip
                refine mv_aload_n (pc := 279) B d_Book_statement_279 rfl 1 rfl ?_
                refine mv_iconst (pc := 280) (v := 4) B d_Book_statement_280 (by decide) ?_
                refine mv_iload (pc := 281) B d_Book_statement_281 4 rfl ?_
                refine mv_callVv (pc := 283) (n := 2) (ci := 12) (C := R_Book) B (mK_ok sk sv) hNs rfl rfl (c_Book_fault_y l hi _ _ _ (by decide)) rfl (ma_goodc kc_Book_fault) (B.2.2.2.1 _ k_2185) (B.2.2.2.1 _ k_2187) (B.2.2.2.1 _ ks_92) (B.2.2.2.1 _ k_13) ⟨by decide +kernel, by decide +kernel, by decide +kernel⟩ rfl d_Book_statement_283 rfl (Nat.le_of_ble_eq_true rfl) ⟨by first | decide | (dsimp only; omega), by first | decide | (dsimp only; omega)⟩ ⟨Nat.le_refl _, Nat.le_refl _⟩ ⟨Nat.le_refl _, Nat.le_refl _⟩ (mv_noH hno _) (fun σ283 h283 => ?_)
                refine mv_lpick [1, 2, 3, 5, 6] rfl ?_
                exact j286 _ _ (by first | exact FT.rf | exact FT.rf.of h283) ht9
          have j213 : mv_V p l e ({ frames := 14 * f + 26, cells := 0, slots := 0, locals := 500 * f + 960 }) s m ([.ref (al 108)] : List Value).toArray below meth c (mg dA D al ext) 9 0 0 (mv_Q (mg dA D al ext) below s 0 0 (mv_Ui (YO 108 len th q ev d n a1 (f + 1) σ) ("MachineLoomModel$Book$Wrong", al 141) (BF 108 σ))) σ163 213 [(0, .ref (al 108)), (1, .int (mv_i σ71 108 49))] [] := by
            refine mv_aload_n (pc := 213) B d_Book_statement_213 rfl 0 rfl ?_
            refine mv_iconst (pc := 214) (v := 2) B d_Book_statement_214 (by decide) ?_
            refine mv_iload_n (pc := 215) B d_Book_statement_215 rfl 1 rfl ?_
            refine mv_callVv (pc := 216) (n := 2) (ci := 12) (C := R_Book) B (mK_ok sk sv) hNs rfl rfl (c_Book_fault_y l hi _ _ _ (by decide)) rfl (ma_goodc kc_Book_fault) (B.2.2.2.1 _ k_2185) (B.2.2.2.1 _ k_2187) (B.2.2.2.1 _ ks_92) (B.2.2.2.1 _ k_13) ⟨by decide +kernel, by decide +kernel, by decide +kernel⟩ rfl d_Book_statement_216 rfl (Nat.le_of_ble_eq_true rfl) ⟨by first | decide | (dsimp only; omega), by first | decide | (dsimp only; omega)⟩ ⟨Nat.le_refl _, Nat.le_refl _⟩ ⟨Nat.le_refl _, Nat.le_refl _⟩ (mv_noH hno _) (fun σ216 h216 => ?_)
            obtain ⟨f216, n216, k216⟩ := h216
            have hS := hS.ft (FT.rf.of ⟨f216, n216, k216⟩)
            refine mv_aload_n (pc := 219) B d_Book_statement_219 rfl 0 rfl ?_
            refine mv_bipush (pc := 220) (v := 13) B d_Book_statement_220 (by decide) ?_
            refine mv_iconst (pc := 222) (v := 0) B d_Book_statement_222 (by decide) ?_
            refine mv_iconst (pc := 223) (v := 0) B d_Book_statement_223 (by decide) ?_
            refine mv_iconst (pc := 224) (v := 0) B d_Book_statement_224 (by decide) ?_
            refine mv_iconst (pc := 225) (v := 0) B d_Book_statement_225 (by decide) ?_
            refine mv_callVi (pc := 226) (n := 5) (ci := 12) (C := R_Book) B (mK_ok sk sv) hNs rfl rfl (c_Book_node_y l hi _ _ _ _ _ _ hS.R (by have := hS.le; omega) (by have := hS.le; omega)) rfl (ma_goodc kc_Book_node) (B.2.2.2.1 _ k_2269) (B.2.2.2.1 _ k_2271) (B.2.2.2.1 _ ks_110) (B.2.2.2.1 _ k_13) ⟨by decide +kernel, by decide +kernel, by decide +kernel⟩ rfl d_Book_statement_226 rfl (Nat.le_of_ble_eq_true rfl) ⟨by first | decide | (dsimp only; omega), by first | decide | (dsimp only; omega)⟩ ⟨Nat.le_refl _, Nat.le_refl _⟩ ⟨Nat.le_refl _, Nat.le_refl _⟩ (mv_noH hno _) (fun v226 σ226 h226 => ?_)
            obtain ⟨e226, z226⟩ := h226
            have hN := hS.node z226 (lo := n) (P := fun τ => SR 108 th τ n (n155 + 1) (f + 1) (n155)) (by omega) hn0 Stb.sr (fun zz => absurd zz n216)
            have hv226 : v226.toInt = ((n155 : Nat) : Int) := by rw [e226]; have := hS.le; omega
            exact mv_iret (pc := 229) B hr rfl d_Book_statement_229 (Nat.le_refl _) (Nat.le_refl _) (Or.inl ⟨_, rfl, _, _, _, _, _, n155, hN.1, by omega, hv226, by omega, by omega, fun zz => hN.2.at 0 rfl zz⟩)
          have j194 : ∀ (t9 : Int32) (p9 : Int32) (ht9 : t9 = -1 ∨ (0 ≤ t9.toInt ∧ t9.toInt < th)), mv_V p l e ({ frames := 14 * f + 26, cells := 0, slots := 0, locals := 500 * f + 960 }) s m ([.ref (al 108)] : List Value).toArray below meth c (mg dA D al ext) 9 0 0 (mv_Q (mg dA D al ext) below s 0 0 (mv_Ui (YO 108 len th q ev d n a1 (f + 1) σ) ("MachineLoomModel$Book$Wrong", al 141) (BF 108 σ))) σ163 194 [(0, .ref (al 108)), (1, .int (mv_i σ71 108 49)), (3, .int i9), (4, .int k9), (5, .int p9), (6, .int v155)] [.int t9] := by
            intro t9 p9 ht9
            refine mv_istore (pc := 194) B d_Book_statement_194 (by decide) rfl ?_
            refine mv_iload (pc := 196) B d_Book_statement_196 0 rfl ?_
            refine mv_if_lt (pc := 198) (tgt := 213) B d_Book_statement_198 rfl (fun h198 => ?_) (fun h198 => ?_)
            · skip
              refine mv_lpick [1, 2] rfl ?_
              exact j213
            · skip
              have ht9 := ht9.resolve_left (fun z => h198 (by rw [z]; decide))
              refine mv_aload_n (pc := 201) B d_Book_statement_201 rfl 1 rfl ?_
              refine mv_getR (pc := 202) (ci := 12) (C := R_Book) (T := F_Book) (N := 65) B 15 rfl rfl (by decide) i_Book (B.2.2.2.1 _ k_1858) rfl (hS.R.1 _ 15 _ rfl) d_Book_statement_202 ?_
              refine mv_iload (pc := 205) B d_Book_statement_205 0 rfl ?_
              refine mv_zald (pc := 207) B rfl (i32_in (show 0 ≤ t9.toInt by omega) (show t9.toInt < 4100 by omega)) d_Book_statement_207 ?_
              refine mv_iload (pc := 208) B d_Book_statement_208 4 rfl ?_
              refine mv_icmp_eq (pc := 210) (tgt := 230) B d_Book_statement_210 rfl (fun h210 => ?_) (fun h210 => ?_)
              · skip
                refine mv_aload_n (pc := 230) B d_Book_statement_230 rfl 1 rfl ?_
                refine mv_getR (pc := 231) (ci := 12) (C := R_Book) (T := F_Book) (N := 65) B 12 rfl rfl (by decide) i_Book (B.2.2.2.1 _ k_1855) rfl (hS.R.1 _ 12 _ rfl) d_Book_statement_231 ?_
                refine mv_iload (pc := 234) B d_Book_statement_234 0 rfl ?_
                refine mv_iald (pc := 236) B rfl (i32_in (show 0 ≤ t9.toInt by omega) (show t9.toInt < 4100 by omega)) d_Book_statement_236 ?_
                refine mv_if_le (pc := 237) (tgt := 254) B d_Book_statement_237 rfl (fun h237 => ?_) (fun h237 => ?_)
                · skip
                  refine mv_iconst (pc := 254) (v := 0) B d_Book_statement_254 (by decide) ?_
                  refine mv_lpick [1, 3, 4, 5, 6, 0] rfl ?_
                  exact j255 _ _ _ ht9
                · skip
                  refine mv_aload_n (pc := 240) B d_Book_statement_240 rfl 1 rfl ?_
                  refine mv_getR (pc := 241) (ci := 12) (C := R_Book) (T := F_Book) (N := 65) B 45 rfl rfl (by decide) i_Book (B.2.2.2.1 _ k_1894) rfl (hS.R.1 _ 45 _ rfl) d_Book_statement_241 ?_
                  refine mv_iload (pc := 244) B d_Book_statement_244 6 rfl ?_
                  refine mv_iald (pc := 246) B rfl (i32_in (by omega) (by omega)) d_Book_statement_246 ?_
                  refine mv_if_le (pc := 247) (tgt := 254) B d_Book_statement_247 rfl (fun h247 => ?_) (fun h247 => ?_)
                  · skip
                    refine mv_iconst (pc := 254) (v := 0) B d_Book_statement_254 (by decide) ?_
                    refine mv_lpick [1, 3, 4, 5, 6, 0] rfl ?_
                    exact j255 _ _ _ ht9
                  · skip
                    refine mv_iconst (pc := 250) (v := 1) B d_Book_statement_250 (by decide) ?_
                    refine mv_goto (pc := 251) (tgt := 255) B d_Book_statement_251 rfl ?_
                    refine mv_lpick [1, 3, 4, 5, 6, 0] rfl ?_
                    exact j255 _ _ _ ht9
              · skip
                refine mv_lpick [1, 2] rfl ?_
                exact j213
          have j184 : ∀ (p9 : Int32) , mv_V p l e ({ frames := 14 * f + 26, cells := 0, slots := 0, locals := 500 * f + 960 }) s m ([.ref (al 108)] : List Value).toArray below meth c (mg dA D al ext) 9 0 0 (mv_Q (mg dA D al ext) below s 0 0 (mv_Ui (YO 108 len th q ev d n a1 (f + 1) σ) ("MachineLoomModel$Book$Wrong", al 141) (BF 108 σ))) σ163 184 [(0, .ref (al 108)), (1, .int (mv_i σ71 108 49)), (3, .int i9), (4, .int k9), (5, .int p9), (6, .int v155)] [] := by
            intro p9
            refine mv_iconst (pc := 184) (v := -1) B d_Book_statement_184 (by decide) ?_
            refine mv_goto (pc := 185) (tgt := 194) B d_Book_statement_185 rfl ?_
            refine mv_lpick [0, 1, 2, 3, 4, 5] rfl ?_
            exact j194 _ _ (by first | exact Or.inl rfl | (rw [hS.P.2.2.2.2.1] at z191; exact z191))
          refine mv_aload_n (pc := 166) B d_Book_statement_166 rfl 2 rfl ?_
          refine mv_iload_n (pc := 167) B d_Book_statement_167 rfl 3 rfl ?_
          refine mv_iload_n (pc := 168) B d_Book_statement_168 rfl 4 rfl ?_
          refine mv_callVi (pc := 169) (n := 2) (ci := 12) (C := R_Book) B (mK_ok sk sv) hNs rfl rfl (c_Book_let_y l hi _ _ _ len hS.R hl hM.2.1 hsp) rfl (ma_goodc kc_Book_let) (B.2.2.2.1 _ k_2305) (B.2.2.2.1 _ k_2307) (B.2.2.2.1 _ ks_116) (B.2.2.2.1 _ k_13) ⟨by decide +kernel, by decide +kernel, by decide +kernel⟩ rfl d_Book_statement_169 rfl (Nat.le_of_ble_eq_true rfl) ⟨by first | decide | (dsimp only; omega), by first | decide | (dsimp only; omega)⟩ ⟨Nat.le_refl _, Nat.le_refl _⟩ ⟨Nat.le_refl _, Nat.le_refl _⟩ (mv_noH hno _) (fun v169 σ169 h169 => ?_)
          obtain ⟨e169, z169⟩ := h169
          have e169 := e169.symm
          subst e169
          refine mv_if_ge (pc := 172) (tgt := 184) B d_Book_statement_172 rfl (fun h172 => ?_) (fun h172 => ?_)
          · skip
            refine mv_lpick [2, 3, 5, 6, 1, 0] rfl ?_
            exact j184 _
          · skip
            refine mv_aload_n (pc := 175) B d_Book_statement_175 rfl 2 rfl ?_
            refine mv_iload_n (pc := 176) B d_Book_statement_176 rfl 3 rfl ?_
            refine mv_iload_n (pc := 177) B d_Book_statement_177 rfl 4 rfl ?_
            refine mv_callVi (pc := 178) (n := 2) (ci := 12) (C := R_Book) B (mK_ok sk sv) hNs rfl rfl (c_Book_isField_y l hi _ _ _ len hS.R hz hl hM.2.2 hq0) rfl (ma_goodc kc_Book_isField) (B.2.2.2.1 _ k_2309) (B.2.2.2.1 _ k_2311) (B.2.2.2.1 _ ks_117) (B.2.2.2.1 _ k_13) ⟨by decide +kernel, by decide +kernel, by decide +kernel⟩ rfl d_Book_statement_178 rfl (Nat.le_of_ble_eq_true rfl) ⟨by first | decide | (dsimp only; omega), by first | decide | (dsimp only; omega)⟩ ⟨Nat.le_refl _, Nat.le_refl _⟩ ⟨Nat.le_refl _, Nat.le_refl _⟩ (mv_noH hno _) (fun v178 σ178 h178 => ?_)
            obtain ⟨e178, z178⟩ := h178
            have e178 := e178.symm
            subst e178
            refine mv_if_eq (pc := 181) (tgt := 188) B d_Book_statement_181 rfl (fun h181 => ?_) (fun h181 => ?_)
            · skip
              refine mv_aload_n (pc := 188) B d_Book_statement_188 rfl 2 rfl ?_
              refine mv_iload_n (pc := 189) B d_Book_statement_189 rfl 3 rfl ?_
              refine mv_iload_n (pc := 190) B d_Book_statement_190 rfl 4 rfl ?_
              refine mv_callVi (pc := 191) (n := 2) (ci := 12) (C := R_Book) B (mK_ok sk sv) hNs rfl rfl (c_Book_thing_y l hi _ _ _ len hS.R hl hM.1 hsp) rfl (ma_goodc kc_Book_thing) (B.2.2.2.1 _ k_2212) (B.2.2.2.1 _ k_2214) (B.2.2.2.1 _ ks_97) (B.2.2.2.1 _ k_13) ⟨by decide +kernel, by decide +kernel, by decide +kernel⟩ rfl d_Book_statement_191 rfl (Nat.le_of_ble_eq_true rfl) ⟨by first | decide | (dsimp only; omega), by first | decide | (dsimp only; omega)⟩ ⟨Nat.le_refl _, Nat.le_refl _⟩ ⟨Nat.le_refl _, Nat.le_refl _⟩ (mv_noH hno _) (fun v191 σ191 h191 => ?_)
              obtain ⟨e191, z191⟩ := h191
              have e191 := e191.symm
              subst e191
              refine mv_lpick [2, 3, 5, 6, 1, 0] rfl ?_
              exact j194 _ _ (by first | exact Or.inl rfl | (rw [hS.P.2.2.2.2.1] at z191; exact z191))
            · skip
              refine mv_lpick [2, 3, 5, 6, 1, 0] rfl ?_
              exact j184 _
        refine mv_aload_n (pc := 86) B d_Book_statement_86 rfl 3 rfl ?_
        refine mv_getI (pc := 87) (ci := 12) (C := R_Book) (T := F_Book) (N := 65) B 4 rfl rfl (by decide) i_Book (B.2.2.2.1 _ k_1847) rfl d_Book_statement_87 ?_
        refine mv_bipush (pc := 90) (v := 91) B d_Book_statement_90 (by decide) ?_
        refine mv_icmp_ne (pc := 92) (tgt := 99) B d_Book_statement_92 rfl (fun h92 => ?_) (fun h92 => ?_)
        · skip
          refine mv_iconst (pc := 99) (v := 0) B d_Book_statement_99 (by decide) ?_
          refine mv_istore (pc := 100) B d_Book_statement_100 (by decide) rfl ?_
          refine mv_iload (pc := 102) B d_Book_statement_102 0 rfl ?_
          refine mv_if_eq (pc := 104) (tgt := 142) B d_Book_statement_104 rfl (fun h104 => ?_) (fun h104 => ?_)
          · skip
            refine mv_lpick [4, 3, 2, 1, 0] rfl ?_
            exact j142 _ _ _ _ _ _ (hS.w (lo := n) (P := fun _ => True) (P' := fun τ => n < n → XR 108 th τ n n (10 * (f - 1) + 9)) (Nat.le_refl _) (Stb.im Stb.xr) (fun zz z => absurd z (Nat.lt_irrefl _))) (Or.inl ⟨rfl, rfl, rfl⟩) (by omega)
          · skip
            exact absurd rfl h104
        · skip
          refine mv_iconst (pc := 95) (v := 1) B d_Book_statement_95 (by decide) ?_
          refine mv_goto (pc := 96) (tgt := 100) B d_Book_statement_96 rfl ?_
          refine mv_istore (pc := 100) B d_Book_statement_100 (by decide) rfl ?_
          refine mv_iload (pc := 102) B d_Book_statement_102 0 rfl ?_
          refine mv_if_eq (pc := 104) (tgt := 142) B d_Book_statement_104 rfl (fun h104 => ?_) (fun h104 => ?_)
          · skip
            exact absurd h104 (by decide)
          · skip
            refine mv_aload_n (pc := 107) B d_Book_statement_107 rfl 4 rfl ?_
            refine mv_callVUv (pc := 108) (n := 0) (ci := 12) (C := R_Book) B (mK_ok sk sv) hNs rfl rfl (c_Book_pass_y l hi _ len _ _ hS.P.1) rfl (ma_goodc kc_Book_pass) (B.2.2.2.1 _ k_2173) (B.2.2.2.1 _ k_2175) (B.2.2.2.1 _ ks_90) (B.2.2.2.1 _ k_13) ⟨by decide +kernel, by decide +kernel, by decide +kernel⟩ rfl d_Book_statement_108 rfl (Nat.le_of_ble_eq_true rfl) ⟨by first | decide | (dsimp only; omega), by first | decide | (dsimp only; omega)⟩ ⟨Nat.le_refl _, Nat.le_refl _⟩ ⟨Nat.le_refl _, Nat.le_refl _⟩ (mv_noH hno _) (fun τ9 g9 => Or.inr ⟨rfl, hS.1.2.1.bf.tr g9.bf⟩) (fun σ108 h108 => ?_)
            have w108 := hS.P.w (by rw [h92]; decide)
            obtain ⟨d108, t108, u108, q108, g108⟩ := h108
            rw [hS.P.2.1] at d108
            have hS := hS.pass q108 g108
            have hL108 := hS.le
            refine mv_aload_n (pc := 111) B d_Book_statement_111 rfl 4 rfl ?_
            refine mv_dup (pc := 112) B d_Book_statement_112 rfl ?_
            refine mv_getI (pc := 113) (ci := 12) (C := R_Book) (T := F_Book) (N := 65) B 8 rfl rfl (by decide) i_Book (B.2.2.2.1 _ k_1851) rfl d_Book_statement_113 ?_
            refine mv_iconst (pc := 116) (v := 1) B d_Book_statement_116 (by decide) ?_
            refine mv_iadd (pc := 117) B d_Book_statement_117 ?_
            refine mv_putI (pc := 118) (ci := 12) (C := R_Book) (T := F_Book) (N := 65) B 8 rfl rfl (by decide) i_Book t_Book_ok n_Book (B.2.2.2.1 _ k_1851) rfl rfl rfl rfl d_Book_statement_118 ?_
            refine mv_gen (fun S121 eS121 => ?_)
            have hS := hS.dep (hS.P.up (by omega))
            rw [← eS121] at hS
            clear eS121
            refine mv_aload_n (pc := 121) B d_Book_statement_121 rfl 4 rfl ?_
            refine mv_callVUi (pc := 122) (n := 0) (ci := 12) (C := R_Book) B (mK_ok sk sv) hNs rfl rfl (c_Book_expr_y l hi _ (f - 1) len th _ _ _ _ (by omega) hS.P) rfl (ma_goodc kc_Book_expression) (B.2.2.2.1 _ k_2245) (B.2.2.2.1 _ k_2247) (B.2.2.2.1 _ ks_104) (B.2.2.2.1 _ k_13) ⟨by decide +kernel, by decide +kernel, by decide +kernel⟩ rfl d_Book_statement_122 rfl (Nat.le_of_ble_eq_true rfl) ⟨by first | decide | (dsimp only; omega), by first | decide | (dsimp only; omega)⟩ ⟨Nat.le_refl _, Nat.le_refl _⟩ ⟨Nat.le_refl _, Nat.le_refl _⟩ (mv_noH hno _) (fun τ9 g9 => Or.inr ⟨rfl, hS.1.2.1.bf.tr g9⟩) (fun v122 σ122 h122 => ?_)
            obtain ⟨n122, t122, u122, s122, m122, r122, x122⟩ := h122
            have i122 := s122.2.2.2.1
            have hS := hS.ex s122 x122
            have hL122 := hS.le
            refine mv_istore_n (pc := 125) B d_Book_statement_125 rfl (by decide) rfl ?_
            refine mv_aload_n (pc := 126) B d_Book_statement_126 rfl 4 rfl ?_
            refine mv_bipush (pc := 127) (v := 93) B d_Book_statement_127 (by decide) ?_
            refine mv_callVUv (pc := 129) (n := 1) (ci := 12) (C := R_Book) B (mK_ok sk sv) hNs rfl rfl (c_Book_need_y l hi _ _ len _ _ hS.P.1) rfl (ma_goodc kc_Book_need) (B.2.2.2.1 _ k_2177) (B.2.2.2.1 _ k_2179) (B.2.2.2.1 _ ks_91) (B.2.2.2.1 _ k_13) ⟨by decide +kernel, by decide +kernel, by decide +kernel⟩ rfl d_Book_statement_129 rfl (Nat.le_of_ble_eq_true rfl) ⟨by first | decide | (dsimp only; omega), by first | decide | (dsimp only; omega)⟩ ⟨Nat.le_refl _, Nat.le_refl _⟩ ⟨Nat.le_refl _, Nat.le_refl _⟩ (mv_noH hno _) (fun τ9 g9 => Or.inr ⟨rfl, hS.1.2.1.bf.tr g9.bf⟩) (fun σ129 h129 => ?_)
            obtain ⟨k129, d129, t129, u129, q129, g129⟩ := h129
            have w129 := hS.P.w (by rw [k129]; decide)
            rw [hS.P.2.1] at d129
            have hS := hS.pass q129 g129
            have hL129 := hS.le
            refine mv_aload_n (pc := 132) B d_Book_statement_132 rfl 4 rfl ?_
            refine mv_dup (pc := 133) B d_Book_statement_133 rfl ?_
            refine mv_getI (pc := 134) (ci := 12) (C := R_Book) (T := F_Book) (N := 65) B 8 rfl rfl (by decide) i_Book (B.2.2.2.1 _ k_1851) rfl d_Book_statement_134 ?_
            refine mv_iconst (pc := 137) (v := 1) B d_Book_statement_137 (by decide) ?_
            refine mv_isub (pc := 138) B d_Book_statement_138 ?_
            refine mv_putI (pc := 139) (ci := 12) (C := R_Book) (T := F_Book) (N := 65) B 8 rfl rfl (by decide) i_Book t_Book_ok n_Book (B.2.2.2.1 _ k_1851) rfl rfl rfl rfl d_Book_statement_139 ?_
            refine mv_lpick [4, 3, 2, 0, 1] rfl ?_
            refine mv_gen (fun S142 eS142 => ?_)
            have hS := hS.dep hS.P.dn
            rw [← eS142] at hS
            clear eS142
            exact j142 _ _ _ _ _ _ (hS.w (lo := n) (P := fun _ => True) (P' := fun τ => n < n122 → XR 108 th τ n n122 (10 * (f - 1) + 9)) (Nat.le_refl _) (Stb.im Stb.xr) (fun zz z => hS.2.at 0 rfl zz)) (Or.inr ⟨rfl, by omega, by omega⟩) (by omega)
      · skip
        refine mv_aload_n (pc := 65) B d_Book_statement_65 rfl 0 rfl ?_
        refine mv_callVUi (pc := 66) (n := 0) (ci := 12) (C := R_Book) B (mK_ok sk sv) hNs rfl rfl (c_Book_ifStatement_y l hi _ f len th _ _ _ _ _ _ hf hP (z59.resolve_left h62).2 hB) rfl (ma_goodc kc_Book_ifStatement) (B.2.2.2.1 _ k_2328) (B.2.2.2.1 _ k_2330) (B.2.2.2.1 _ ks_120) (B.2.2.2.1 _ k_13) ⟨by decide +kernel, by decide +kernel, by decide +kernel⟩ rfl d_Book_statement_66 rfl (Nat.le_of_ble_eq_true rfl) ⟨by first | decide | (dsimp only; omega), by first | decide | (dsimp only; omega)⟩ ⟨Nat.le_refl _, Nat.le_refl _⟩ ⟨Nat.le_refl _, Nat.le_refl _⟩ (mv_noH hno _) (fun τ9 g9 => Or.inr ⟨rfl, g9⟩) (fun v66 σ66 h66 => ?_)
        exact mv_iret (pc := 69) B hr rfl d_Book_statement_69 (Nat.le_refl _) (Nat.le_refl _) (Or.inl ⟨_, rfl, h66⟩)
    · skip
      refine mv_aload_n (pc := 25) B d_Book_statement_25 rfl 0 rfl ?_
      refine mv_callVUv (pc := 26) (n := 0) (ci := 12) (C := R_Book) B (mK_ok sk sv) hNs rfl rfl (c_Book_pass_y l hi _ len _ _ hS.P.1) rfl (ma_goodc kc_Book_pass) (B.2.2.2.1 _ k_2173) (B.2.2.2.1 _ k_2175) (B.2.2.2.1 _ ks_90) (B.2.2.2.1 _ k_13) ⟨by decide +kernel, by decide +kernel, by decide +kernel⟩ rfl d_Book_statement_26 rfl (Nat.le_of_ble_eq_true rfl) ⟨by first | decide | (dsimp only; omega), by first | decide | (dsimp only; omega)⟩ ⟨Nat.le_refl _, Nat.le_refl _⟩ ⟨Nat.le_refl _, Nat.le_refl _⟩ (mv_noH hno _) (fun τ9 g9 => Or.inr ⟨rfl, hS.1.2.1.bf.tr g9.bf⟩) (fun σ26 h26 => ?_)
      have w26 := hS.P.w (by rw [(z19.resolve_left h22).2]; decide)
      obtain ⟨d26, t26, u26, q26, g26⟩ := h26
      rw [hS.P.2.1] at d26
      have hS := hS.pass q26 g26
      have hL26 := hS.le
      refine mv_aload_n (pc := 29) B d_Book_statement_29 rfl 0 rfl ?_
      refine mv_lconst (pc := 30) (v := 1) B d_Book_statement_30 (by decide) ?_
      refine mv_ldc2 (pc := 31) (v := 1000000) B (B.2.2.2.1 _ k_2326) d_Book_statement_31 ?_
      refine mv_callVUi (pc := 34) (n := 2) (ci := 12) (C := R_Book) B (mK_ok sk sv) hNs rfl rfl (c_Book_ranged_y l hi _ _ _ (by decide) (by decide) len _ _ hS.P.1) rfl (ma_goodc kc_Book_ranged) (B.2.2.2.1 _ k_2203) (B.2.2.2.1 _ k_2205) (B.2.2.2.1 _ ks_96) (B.2.2.2.1 _ k_13) ⟨by decide +kernel, by decide +kernel, by decide +kernel⟩ rfl d_Book_statement_34 rfl (Nat.le_of_ble_eq_true rfl) ⟨by first | decide | (dsimp only; omega), by first | decide | (dsimp only; omega)⟩ ⟨Nat.le_refl _, Nat.le_refl _⟩ ⟨Nat.le_refl _, Nat.le_refl _⟩ (mv_noH hno _) (fun τ9 g9 => Or.inr ⟨rfl, hS.1.2.1.bf.tr g9.bf⟩) (fun v34 σ34 h34 => ?_)
      obtain ⟨k34, d34, ⟨t34, u34, q34, g34⟩, f34, b34, z34⟩ := h34
      have w34 := hS.P.w (by rw [k34]; decide)
      rw [hS.P.2.1] at d34
      have hS := hS.rng q34 g34 f34 b34
      have hL34 := hS.le
      refine mv_istore_n (pc := 37) B d_Book_statement_37 rfl (by decide) rfl ?_
      refine mv_aload_n (pc := 38) B d_Book_statement_38 rfl 1 rfl ?_
      refine mv_bipush (pc := 39) (v := 59) B d_Book_statement_39 (by decide) ?_
      refine mv_callVUv (pc := 41) (n := 1) (ci := 12) (C := R_Book) B (mK_ok sk sv) hNs rfl rfl (c_Book_need_y l hi _ _ len _ _ hS.P.1) rfl (ma_goodc kc_Book_need) (B.2.2.2.1 _ k_2177) (B.2.2.2.1 _ k_2179) (B.2.2.2.1 _ ks_91) (B.2.2.2.1 _ k_13) ⟨by decide +kernel, by decide +kernel, by decide +kernel⟩ rfl d_Book_statement_41 rfl (Nat.le_of_ble_eq_true rfl) ⟨by first | decide | (dsimp only; omega), by first | decide | (dsimp only; omega)⟩ ⟨Nat.le_refl _, Nat.le_refl _⟩ ⟨Nat.le_refl _, Nat.le_refl _⟩ (mv_noH hno _) (fun τ9 g9 => Or.inr ⟨rfl, hS.1.2.1.bf.tr g9.bf⟩) (fun σ41 h41 => ?_)
      obtain ⟨k41, d41, t41, u41, q41, g41⟩ := h41
      have w41 := hS.P.w (by rw [k41]; decide)
      rw [hS.P.2.1] at d41
      have hS := hS.pass q41 g41
      have hL41 := hS.le
      refine mv_aload_n (pc := 44) B d_Book_statement_44 rfl 1 rfl ?_
      refine mv_bipush (pc := 45) (v := 17) B d_Book_statement_45 (by decide) ?_
      refine mv_iload_n (pc := 47) B d_Book_statement_47 rfl 0 rfl ?_
      refine mv_iconst (pc := 48) (v := 0) B d_Book_statement_48 (by decide) ?_
      refine mv_iconst (pc := 49) (v := 0) B d_Book_statement_49 (by decide) ?_
      refine mv_iconst (pc := 50) (v := 0) B d_Book_statement_50 (by decide) ?_
      refine mv_callVi (pc := 51) (n := 5) (ci := 12) (C := R_Book) B (mK_ok sk sv) hNs rfl rfl (c_Book_node_y l hi _ _ _ _ _ _ hS.R (by have := hS.le; omega) (by have := hS.le; omega)) rfl (ma_goodc kc_Book_node) (B.2.2.2.1 _ k_2269) (B.2.2.2.1 _ k_2271) (B.2.2.2.1 _ ks_110) (B.2.2.2.1 _ k_13) ⟨by decide +kernel, by decide +kernel, by decide +kernel⟩ rfl d_Book_statement_51 rfl (Nat.le_of_ble_eq_true rfl) ⟨by first | decide | (dsimp only; omega), by first | decide | (dsimp only; omega)⟩ ⟨Nat.le_refl _, Nat.le_refl _⟩ ⟨Nat.le_refl _, Nat.le_refl _⟩ (mv_noH hno _) (fun v51 σ51 h51 => ?_)
      obtain ⟨e51, z51⟩ := h51
      have hN := hS.node z51 (lo := n) (P := fun τ => SR 108 th τ n (n + 1) (f + 1) (n)) (by omega) hn0 Stb.sr (fun zz => by
      rw [z51]
      exact SR.set (g := (fun _ => 0, fun _ => 0)) RG.nil (Nat.le_refl _) hS.P.nn (by show (0 : Int) < _; omega) (Or.inr (Or.inr (by decide))))
      have hv51 : v51.toInt = ((n : Nat) : Int) := by rw [e51]; have := hS.le; omega
      exact mv_iret (pc := 54) B hr rfl d_Book_statement_54 (Nat.le_refl _) (Nat.le_refl _) (Or.inl ⟨_, rfl, _, _, _, _, _, n, hN.1, by omega, hv51, by omega, by omega, fun zz => hN.2.at 0 rfl zz⟩)
  · skip
    refine mv_aload_n (pc := 10) B d_Book_statement_10 rfl 0 rfl ?_
    refine mv_callVUi (pc := 11) (n := 0) (ci := 12) (C := R_Book) B (mK_ok sk sv) hNs rfl rfl (c_Book_letStatement_y l hi _ f len th _ _ _ _ _ _ hf hP (z4.resolve_left h7).2) rfl (ma_goodc kc_Book_letStatement) (B.2.2.2.1 _ k_2241) (B.2.2.2.1 _ k_2243) (B.2.2.2.1 _ ks_103) (B.2.2.2.1 _ k_13) ⟨by decide +kernel, by decide +kernel, by decide +kernel⟩ rfl d_Book_statement_11 rfl (Nat.le_of_ble_eq_true rfl) ⟨by first | decide | (dsimp only; omega), by first | decide | (dsimp only; omega)⟩ ⟨Nat.le_refl _, Nat.le_refl _⟩ ⟨Nat.le_refl _, Nat.le_refl _⟩ (mv_noH hno _) (fun τ9 g9 => Or.inr ⟨rfl, g9⟩) (fun v11 σ11 h11 => ?_)
    exact mv_iret (pc := 14) B hr rfl d_Book_statement_14 (Nat.le_refl _) (Nat.le_refl _) (Or.inl ⟨_, rfl, h11⟩)
theorem ys_x (l : Launch) {dA : FieldType → ClassId} {D : va_G} {al : Nat → Nat} {ext : mv_Sh} {sk sv : Nat → Nat} (hi : mv_inj (mg dA D al ext)) (f : Nat) (ihS : ∀ g, g + 1 = f → YSt l dA D al ext sk sv 74 g) : YBl l dA D al ext sk sv 74 f ∧ YSt l dA D al ext sk sv 74 f := by
  have hB : YBl l dA D al ext sk sv 74 f := fun σ len th q e d n a1 a2 hf hP => c_Book_block_x l hi σ f len th q e d n a1 a2 hf hP ihS
  exact ⟨hB, fun σ len th q e d n a1 a2 hf hP => c_Book_statement_x l hi σ f len th q e d n a1 a2 hf hP hB⟩
theorem yb_x (l : Launch) {dA : FieldType → ClassId} {D : va_G} {al : Nat → Nat} {ext : mv_Sh} {sk sv : Nat → Nat} (hi : mv_inj (mg dA D al ext)) : ∀ f, YBl l dA D al ext sk sv 74 f ∧ YSt l dA D al ext sk sv 74 f := by
  intro f
  induction f with
  | zero => exact ys_x l hi 0 (fun g h => absurd h (Nat.succ_ne_zero _))
  | succ f ih => exact ys_x l hi (f + 1) (fun g h => by
      have e : g = f := by omega
      subst e
      exact ih.2)
/-- a block at the depth 0 -/
theorem c_Book_block0_x (l : Launch) {dA : FieldType → ClassId} {D : va_G} {al : Nat → Nat} {ext : mv_Sh} {sk sv : Nat → Nat} (hi : mv_inj (mg dA D al ext)) (σ : mv_H) (len th q e n a1 a2 : Nat) (hP : SS 74 len th q e 0 n a1 a2 σ) : mv_C l y_Book_block (Cond.code y_Book_block b_Book_block 5 (some .int) :: ma) { frames := 878, cells := 0, slots := 0, locals := 31400 } (mg dA D al ext) (mK sk sv) [.ref (al 74)] σ (mv_Ui (BO 74 len th q e 0 n a1 61 σ) ("MachineLoomModel$Book$Wrong", al 107) (BF 74 σ)) := (yb_x l hi 61).1 σ len th q e 0 n a1 a2 rfl hP
theorem ys_y (l : Launch) {dA : FieldType → ClassId} {D : va_G} {al : Nat → Nat} {ext : mv_Sh} {sk sv : Nat → Nat} (hi : mv_inj (mg dA D al ext)) (f : Nat) (ihS : ∀ g, g + 1 = f → YSt l dA D al ext sk sv 108 g) : YBl l dA D al ext sk sv 108 f ∧ YSt l dA D al ext sk sv 108 f := by
  have hB : YBl l dA D al ext sk sv 108 f := fun σ len th q e d n a1 a2 hf hP => c_Book_block_y l hi σ f len th q e d n a1 a2 hf hP ihS
  exact ⟨hB, fun σ len th q e d n a1 a2 hf hP => c_Book_statement_y l hi σ f len th q e d n a1 a2 hf hP hB⟩
theorem yb_y (l : Launch) {dA : FieldType → ClassId} {D : va_G} {al : Nat → Nat} {ext : mv_Sh} {sk sv : Nat → Nat} (hi : mv_inj (mg dA D al ext)) : ∀ f, YBl l dA D al ext sk sv 108 f ∧ YSt l dA D al ext sk sv 108 f := by
  intro f
  induction f with
  | zero => exact ys_y l hi 0 (fun g h => absurd h (Nat.succ_ne_zero _))
  | succ f ih => exact ys_y l hi (f + 1) (fun g h => by
      have e : g = f := by omega
      subst e
      exact ih.2)
/-- a block at the depth 0 -/
theorem c_Book_block0_y (l : Launch) {dA : FieldType → ClassId} {D : va_G} {al : Nat → Nat} {ext : mv_Sh} {sk sv : Nat → Nat} (hi : mv_inj (mg dA D al ext)) (σ : mv_H) (len th q e n a1 a2 : Nat) (hP : SS 108 len th q e 0 n a1 a2 σ) : mv_C l y_Book_block (Cond.code y_Book_block b_Book_block 5 (some .int) :: ma) { frames := 878, cells := 0, slots := 0, locals := 31400 } (mg dA D al ext) (mK sk sv) [.ref (al 108)] σ (mv_Ui (BO 108 len th q e 0 n a1 61 σ) ("MachineLoomModel$Book$Wrong", al 141) (BF 108 σ)) := (yb_y l hi 61).1 σ len th q e 0 n a1 a2 rfl hP
