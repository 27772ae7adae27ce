/-! Weaver: finish, statement -/
section FIN
variable {P M : Nat} {σ τ : mv_H} {th s ns no h : Nat} {bl ol : List Bk} {gi : Prop}
theorem XM.kx {e0 bs hl ht : Nat} {f0 : Nat → Int32} {g0 : Nat → Int64} (k : XM P th e0 bs (BLx th e0 f0 g0 (mv_a σ (P + 7)) no ol gi) f0 g0 ns σ [] hl ht s) (hb : (mv_i σ 2 15).toInt = bl.length) (hB : BkR (mv_a σ 28) (mv_a σ 29) (mv_a σ 30) (mv_a σ 31) g0 (mv_i σ 13 7).toInt bl) (ho : Bo f0 e0 ol) (hc : ∀ b ∈ bl, ∀ y ∈ b.2, y < e0) : KX P σ th s ns no bl ol (bs + ht) gi :=
  ⟨⟨hb, hB.gcon (fun b q y hy => (k.2.1.2.2.1 y (hc b q y hy)).2), (k.over ho).1⟩, k.2.1.1, k.2.1.2.2.2.1, (k.over ho).2⟩
theorem KX.wx (k : KX P σ th s ns no bl ol h gi) (hP : PQ P) (g : Int32) : KX P (wx σ g) th s ns no bl ol h gi := (((k.w hP (i := 7) (by omega) g).rel hP 8 0).rel hP 10 0).w hP (i := 6) (by omega) 2
theorem WT.wx (g : WT P σ τ) (v : Int32) : WT P σ (wx τ v) := (((g.w 7 v).e 8 0).e 10 0).w 6 2
end FIN
def y_Weaver_finish : MethodName := ⟨"MachineLoom$Weaver", "finish", "()V"⟩
abbrev b_Weaver_finish : ByteArray := prog_12_method_21_code
theorem kc_Weaver_finish : Cond.code y_Weaver_finish b_Weaver_finish 2 (Option.none : Option Jvm.ClassFile.FieldType) ∈ ma := ma_of (tb_7 _ (List.mem_of_getElem? (i := 85) rfl)) rfl
theorem k_1526 : (Jvm.Cond.methodLink "MachineLoom$Weaver" (296 : Nat) ({ cls := "MachineLoom$Exprs", name := "release", desc := "()I" } : Jvm.MethodName)) ∈ ma := ma_of (tb_7 _ (List.mem_of_getElem? (i := 86) rfl)) rfl
theorem k_1536 : (Jvm.Cond.methodLink "MachineLoom$Weaver" (302 : Nat) ({ cls := "MachineLoom$Weaver", name := "assign", desc := "(I)V" } : Jvm.MethodName)) ∈ ma := ma_of (tb_7 _ (List.mem_of_getElem? (i := 96) rfl)) rfl
theorem k_1538 : (Jvm.Cond.instanceMethod ({ cls := "MachineLoom$Weaver", name := "assign", desc := "(I)V" } : Jvm.MethodName)) ∈ ma := ma_of (tb_7 _ (List.mem_of_getElem? (i := 98) rfl)) rfl
theorem ks_67 : Cond.selects "MachineLoom$Weaver" ⟨"MachineLoom$Weaver", "assign", "(I)V"⟩ ⟨"MachineLoom$Weaver", "assign", "(I)V"⟩ ∈ ma := ma_sel 67 rfl rfl
theorem k_1527 : (Jvm.Cond.methodLink "MachineLoom$Weaver" (299 : Nat) ({ cls := "MachineLoom$Weaver", name := "addLet", desc := "(I)V" } : Jvm.MethodName)) ∈ ma := ma_of (tb_7 _ (List.mem_of_getElem? (i := 87) rfl)) rfl
theorem k_1529 : (Jvm.Cond.instanceMethod ({ cls := "MachineLoom$Weaver", name := "addLet", desc := "(I)V" } : Jvm.MethodName)) ∈ ma := ma_of (tb_7 _ (List.mem_of_getElem? (i := 89) rfl)) rfl
theorem ks_66 : Cond.selects "MachineLoom$Weaver" ⟨"MachineLoom$Weaver", "addLet", "(I)V"⟩ ⟨"MachineLoom$Weaver", "addLet", "(I)V"⟩ ∈ ma := ma_sel 66 rfl rfl
theorem d_Weaver_finish_0 : decode b_Weaver_finish 0 = .ok (.aload_n 0, 1) := by decide +kernel
theorem d_Weaver_finish_1 : decode b_Weaver_finish 1 = .ok (.getfield 43, 3) := by decide +kernel
theorem d_Weaver_finish_4 : decode b_Weaver_finish 4 = .ok (.invokevirtual 296, 3) := by decide +kernel
theorem d_Weaver_finish_7 : decode b_Weaver_finish 7 = .ok (.istore_n 1, 1) := by decide +kernel
theorem d_Weaver_finish_8 : decode b_Weaver_finish 8 = .ok (.aload_n 0, 1) := by decide +kernel
theorem d_Weaver_finish_9 : decode b_Weaver_finish 9 = .ok (.getfield 276, 3) := by decide +kernel
theorem d_Weaver_finish_12 : decode b_Weaver_finish 12 = .ok (.iconst 1, 1) := by decide +kernel
theorem d_Weaver_finish_13 : decode b_Weaver_finish 13 = .ok (.if_icmp .ne (32), 3) := by decide +kernel
theorem d_Weaver_finish_16 : decode b_Weaver_finish 16 = .ok (.aload_n 0, 1) := by decide +kernel
theorem d_Weaver_finish_17 : decode b_Weaver_finish 17 = .ok (.getfield 12, 3) := by decide +kernel
theorem d_Weaver_finish_20 : decode b_Weaver_finish 20 = .ok (.bipush 93, 2) := by decide +kernel
theorem d_Weaver_finish_22 : decode b_Weaver_finish 22 = .ok (.invokevirtual 243, 3) := by decide +kernel
theorem d_Weaver_finish_25 : decode b_Weaver_finish 25 = .ok (.pop, 1) := by decide +kernel
theorem d_Weaver_finish_26 : decode b_Weaver_finish 26 = .ok (.aload_n 0, 1) := by decide +kernel
theorem d_Weaver_finish_27 : decode b_Weaver_finish 27 = .ok (.aload_n 0, 1) := by decide +kernel
theorem d_Weaver_finish_28 : decode b_Weaver_finish 28 = .ok (.getfield 12, 3) := by decide +kernel
theorem d_Weaver_finish_31 : decode b_Weaver_finish 31 = .ok (.bipush 61, 2) := by decide +kernel
theorem d_Weaver_finish_33 : decode b_Weaver_finish 33 = .ok (.invokevirtual 143, 3) := by decide +kernel
theorem d_Weaver_finish_36 : decode b_Weaver_finish 36 = .ok (.putfield 281, 3) := by decide +kernel
theorem d_Weaver_finish_39 : decode b_Weaver_finish 39 = .ok (.aload_n 0, 1) := by decide +kernel
theorem d_Weaver_finish_40 : decode b_Weaver_finish 40 = .ok (.iconst 3, 1) := by decide +kernel
theorem d_Weaver_finish_41 : decode b_Weaver_finish 41 = .ok (.invokevirtual 287, 3) := by decide +kernel
theorem d_Weaver_finish_44 : decode b_Weaver_finish 44 = .ok (.return_, 1) := by decide +kernel
theorem d_Weaver_finish_45 : decode b_Weaver_finish 45 = .ok (.aload_n 0, 1) := by decide +kernel
theorem d_Weaver_finish_46 : decode b_Weaver_finish 46 = .ok (.iconst 1, 1) := by decide +kernel
theorem d_Weaver_finish_47 : decode b_Weaver_finish 47 = .ok (.putfield 75, 3) := by decide +kernel
theorem d_Weaver_finish_50 : decode b_Weaver_finish 50 = .ok (.aload_n 0, 1) := by decide +kernel
theorem d_Weaver_finish_51 : decode b_Weaver_finish 51 = .ok (.getfield 276, 3) := by decide +kernel
theorem d_Weaver_finish_54 : decode b_Weaver_finish 54 = .ok (.iconst 4, 1) := by decide +kernel
theorem d_Weaver_finish_55 : decode b_Weaver_finish 55 = .ok (.if_icmp .ne (40), 3) := by decide +kernel
theorem d_Weaver_finish_58 : decode b_Weaver_finish 58 = .ok (.iload_n 1, 1) := by decide +kernel
theorem d_Weaver_finish_59 : decode b_Weaver_finish 59 = .ok (.iconst 1, 1) := by decide +kernel
theorem d_Weaver_finish_60 : decode b_Weaver_finish 60 = .ok (.if_icmp .le (12), 3) := by decide +kernel
theorem d_Weaver_finish_63 : decode b_Weaver_finish 63 = .ok (.aload_n 0, 1) := by decide +kernel
theorem d_Weaver_finish_64 : decode b_Weaver_finish 64 = .ok (.aload_n 0, 1) := by decide +kernel
theorem d_Weaver_finish_65 : decode b_Weaver_finish 65 = .ok (.getfield 281, 3) := by decide +kernel
theorem d_Weaver_finish_68 : decode b_Weaver_finish 68 = .ok (.iconst 4, 1) := by decide +kernel
theorem d_Weaver_finish_69 : decode b_Weaver_finish 69 = .ok (.invokevirtual 158, 3) := by decide +kernel
theorem d_Weaver_finish_72 : decode b_Weaver_finish 72 = .ok (.aload_n 0, 1) := by decide +kernel
theorem d_Weaver_finish_73 : decode b_Weaver_finish 73 = .ok (.sipush 209, 3) := by decide +kernel
theorem d_Weaver_finish_76 : decode b_Weaver_finish 76 = .ok (.aload_n 0, 1) := by decide +kernel
theorem d_Weaver_finish_77 : decode b_Weaver_finish 77 = .ok (.getfield 113, 3) := by decide +kernel
theorem d_Weaver_finish_80 : decode b_Weaver_finish 80 = .ok (.sipush 312, 3) := by decide +kernel
theorem d_Weaver_finish_83 : decode b_Weaver_finish 83 = .ok (.lconst 0, 1) := by decide +kernel
theorem d_Weaver_finish_84 : decode b_Weaver_finish 84 = .ok (.invokevirtual 250, 3) := by decide +kernel
theorem d_Weaver_finish_87 : decode b_Weaver_finish 87 = .ok (.aload_n 0, 1) := by decide +kernel
theorem d_Weaver_finish_88 : decode b_Weaver_finish 88 = .ok (.getfield 284, 3) := by decide +kernel
theorem d_Weaver_finish_91 : decode b_Weaver_finish 91 = .ok (.invokevirtual 218, 3) := by decide +kernel
theorem d_Weaver_finish_94 : decode b_Weaver_finish 94 = .ok (.return_, 1) := by decide +kernel
theorem d_Weaver_finish_95 : decode b_Weaver_finish 95 = .ok (.aload_n 0, 1) := by decide +kernel
theorem d_Weaver_finish_96 : decode b_Weaver_finish 96 = .ok (.getfield 276, 3) := by decide +kernel
theorem d_Weaver_finish_99 : decode b_Weaver_finish 99 = .ok (.ifCond .ne (11), 3) := by decide +kernel
theorem d_Weaver_finish_102 : decode b_Weaver_finish 102 = .ok (.aload_n 0, 1) := by decide +kernel
theorem d_Weaver_finish_103 : decode b_Weaver_finish 103 = .ok (.iload_n 1, 1) := by decide +kernel
theorem d_Weaver_finish_104 : decode b_Weaver_finish 104 = .ok (.invokevirtual 299, 3) := by decide +kernel
theorem d_Weaver_finish_107 : decode b_Weaver_finish 107 = .ok (.goto (8), 3) := by decide +kernel
theorem d_Weaver_finish_110 : decode b_Weaver_finish 110 = .ok (.aload_n 0, 1) := by decide +kernel
theorem d_Weaver_finish_111 : decode b_Weaver_finish 111 = .ok (.iload_n 1, 1) := by decide +kernel
theorem d_Weaver_finish_112 : decode b_Weaver_finish 112 = .ok (.invokevirtual 302, 3) := by decide +kernel
theorem d_Weaver_finish_115 : decode b_Weaver_finish 115 = .ok (.aload_n 0, 1) := by decide +kernel
theorem d_Weaver_finish_116 : decode b_Weaver_finish 116 = .ok (.getfield 12, 3) := by decide +kernel
theorem d_Weaver_finish_119 : decode b_Weaver_finish 119 = .ok (.bipush 59, 2) := by decide +kernel
theorem d_Weaver_finish_121 : decode b_Weaver_finish 121 = .ok (.invokevirtual 143, 3) := by decide +kernel
theorem d_Weaver_finish_124 : decode b_Weaver_finish 124 = .ok (.pop, 1) := by decide +kernel
theorem d_Weaver_finish_125 : decode b_Weaver_finish 125 = .ok (.return_, 1) := by decide +kernel
set_option maxHeartbeats 4000000 in
set_option maxRecDepth 100000 in
theorem c_Weaver_finish_a (l : Launch) {dA : FieldType → ClassId} {D : va_G} {al : Nat → Nat} {ext : mv_Sh} {sk sv : Nat → Nat} (hi : mv_inj (mg dA D al ext)) (σ : mv_H) {t tn len n z sz th sl s0 a ns no e0 bs bd : Nat} {f0 : Nat → Int32} {g0 : Nat → Int64} {bl ol : List Bk} (hG : WG 32 32768 512 ext σ t tn len n z sz) (hM : Mt (mv_a σ 24)) (hW : WN 32 512 σ n th sl no) (hX : XM 32 th e0 bs (BLx th e0 f0 g0 (mv_a σ 39) no ol (mv_i σ 2 7 = 4 ∨ 0 ≤ (mv_i σ 2 9).toInt)) f0 g0 ns σ [] 1 1 s0) (hI : TI σ sz bd [] s0 a) (hne : ¬ bl = []) (hb15 : (mv_i σ 2 15).toInt = bl.length) (hB : BkR (mv_a σ 28) (mv_a σ 29) (mv_a σ 30) (mv_a σ 31) g0 (mv_i σ 13 7).toInt bl) (hO : Bo f0 e0 ol) (hGl : Gl (mv_i σ 2 7) bs bd bl.length (mv_i σ 2 9).toInt n th (mv_i σ 13 9).toInt) (hGx : Gx (mv_i σ 2 7) g0 (mv_i σ 2 10) bl ol) (hgt : mv_i σ 2 7 = 1 ∨ (0 ≤ (mv_i σ 2 8).toInt ∧ (mv_i σ 2 8).toInt < 32770)) (hn2 : 2 * ns + 2 ≤ a) (hn4 : mv_i σ 2 7 = 1 ∨ mv_i σ 2 7 = 2 ∨ mv_i σ 2 7 = 3 → 2 * ns + 4 ≤ a) (hnc : no ≤ nCd (mv_a σ 4) a) : mv_C l y_Weaver_finish (Cond.code y_Weaver_finish b_Weaver_finish 2 (Option.none : Option Jvm.ClassFile.FieldType) :: ma) ({ frames := 4, cells := 0, slots := 0, locals := 86 }) (mg dA D al ext) (mK sk sv) [.ref (al 2)] σ (mv_Rv (fun σ1 => TP 32 512 σ σ1 n sz a)) := by
  refine mv_C.ofV (cc := b_Weaver_finish) (nL := 2) (ret := (Option.none : Option Jvm.ClassFile.FieldType)) (by decide +kernel) rfl hi (Nat.le_of_ble_eq_true rfl) ?_
  intro p e s m below meth c B hNs hr hnm hno
  have hP : PQ 32 := by unfold PQ; omega
  have hR := hG.1
  have ht2 := hG.2.1.2.2.2.2.2.2
  have hV : WT 32 σ σ := WT0
  have hM2 := hM
  have hW2 := hW
  have hlo : ∀ b ∈ bl, ∀ y ∈ b.2, y < e0 := by
    rcases hGx with ⟨-, q⟩ | ⟨-, ex, q, -⟩
    · rw [q] at hO; exact hO.lt
    · rw [q] at hO; exact hO.tail.lt
  have hK : KX 32 σ th s0 ns no bl ol (bs + 1) (mv_i σ 2 7 = 4 ∨ 0 ≤ (mv_i σ 2 9).toInt) := hX.kx hb15 hB hO hlo
  have i2 : mv_i σ 2 = mv_i σ 2 := rfl
  have hE := hG.2.2.1
  have hsz := hE.2.2.2.2.2
  have hsz2 := hE.2.2.2.1
  have hlen := hG.2.2.2.2.1
  have hlen2 := hG.2.2.2.2.2
  have t7 := hI.1
  have hw9 := hI.2.1
  have t9 : (mv_i σ 3 9).toInt = (mv_i σ 3 9).toInt := rfl
  have t8 : (mv_i σ 3 8).toInt = (mv_i σ 3 8).toInt := rfl
  have kp : mv_a σ 4 = mv_a σ 4 := rfl
  have hd8 : ((bd + 0 : Nat) : Int) ≤ (mv_i σ 3 8).toInt := hI.2.2.1
  have hd9 := hI.2.2.2.1
  have hI5 : s0 + 0 + 3 ≤ a := hI.2.2.2.2.1
  have ha9 := hI.2.2.2.2.2.1
  have j115 : ∀ (υ : mv_H) (s2 : Nat) (ns2 : Nat) (gi2 : Prop) (hR : Rw 32 (mv_r υ)) (hV : WT 32 σ υ) (hM2 : Mt (mv_a υ 24)) (hW2 : WN 32 512 υ n th sl no) (t7 : (mv_i υ 3 7).toInt = a) (t8 : (mv_i υ 3 8).toInt = (mv_i σ 3 8).toInt) (t9 : (mv_i υ 3 9).toInt < 0) (kp : mv_a υ 4 = mv_a σ 4) (m1 : mv_i υ 2 6 = 1) (hK2 : KX 32 υ th s2 ns2 no bl bl 0 gi2) (hs2 : s2 ≤ s0 + 1) (hn2 : 2 * ns2 + 2 ≤ a) (hd7 : (bl.length : Int) ≤ (mv_i υ 3 8).toInt), mv_V p l e ({ frames := 4, cells := 0, slots := 0, locals := 86 }) s m ([.ref (al 2)] : List Value).toArray below meth c (mg dA D al ext) 2 0 0 (mv_Q (mg dA D al ext) below s 0 0 (mv_Rv (fun σ1 => TP 32 512 σ σ1 n sz a))) υ 115 [(0, .ref (al 2))] [] := by
    intro υ s2 ns2 gi2 hR hV hM2 hW2 t7 t8 t9 kp m1 hK2 hs2 hn2 hd7
    refine mv_aload_n (pc := 115) B d_Weaver_finish_115 rfl 0 rfl ?_
    refine mv_getR (pc := 116) (ci := 1) (C := R_Weaver) (T := F_Weaver) (N := 16) B 0 rfl rfl (by decide) i_Weaver (B.2.2.2.1 _ k_228) rfl (hR.1 _ 0 _ rfl) d_Weaver_finish_116 ?_
    refine mv_bipush (pc := 119) (v := 59) B d_Weaver_finish_119 (by decide) ?_
    refine mv_callVi (pc := 121) (n := 1) (ci := 2) (C := R_Tokens) B (mK_ok sk sv) hNs rfl rfl (c_Tokens_takeN l hi _ _ hR.1 (hG.2.2.1.wt hV hP ht2) (by omega) (by omega) (by decide)) rfl (ma_goodc kc_Tokens_take) (B.2.2.2.1 _ k_1266) (B.2.2.2.1 _ k_1267) (B.2.2.2.1 _ k_1268) (B.2.2.2.1 _ k_3) ⟨by decide +kernel, by decide +kernel, by decide +kernel⟩ rfl d_Weaver_finish_121 rfl (Nat.le_of_ble_eq_true rfl) ⟨by decide, by decide⟩ ⟨by decide, by decide⟩ ⟨by decide, by decide⟩ (mv_noH hno _) (fun v121 σ121 h121 => ?_)
    obtain ⟨a121, w121, e121, r121⟩ := h121
    have q121 := r121.1
    have z121 := fun q => (r121.2.1 q).1
    have y121 := And.intro r121.2.2.2.1 r121.2.2.2.2.1
    subst e121
    refine mv_gen (fun S124 eS124 => ?_)
    have hR : Rw 32 (mv_r S124) := by rw [eS124]; exact hR
    have hV : WT 32 σ S124 := by rw [eS124]; exact hV.tk3 _ _ _
    have hM2 : Mt (mv_a S124 24) := by rw [eS124]; exact hM2
    have hW2 : WN 32 512 S124 n th sl no := by rw [eS124]; exact hW2.tk3 hP _ _ _
    have hK2 : KX 32 S124 th s2 ns2 no bl bl 0 gi2 := by rw [eS124]; exact hK2.tok hP _ _ _
    have m1 : mv_i S124 2 6 = 1 := by rw [eS124]; exact m1
    have t7 : (mv_i S124 3 7).toInt = a121.toInt := by rw [eS124]; rfl
    have t8 : (mv_i S124 3 8).toInt = (mv_i σ 3 8).toInt := by rw [eS124]; first | exact t8 | exact (sub_one (by omega)).trans (by omega) | exact (i32_inc (by omega)).trans (by omega)
    have t9 : (mv_i S124 3 9).toInt = w121.toInt := by rw [eS124]; rfl
    have kp := Eq.trans (show mv_a S124 4 = mv_a _ 4 by rw [eS124]; rfl) kp
    have hend : TP 32 512 σ S124 n sz a := ⟨hV, hM2, th, sl, no, hW2, by
      by_cases q : (mv_i S124 3 9).toInt < 0
      · exact Or.inr ⟨a + 1, by omega, Or.inr (Or.inl ⟨m1, s2, ns2, bl, hne, hK2.ws ⟨by omega, q, by omega, by omega, by omega, by omega, by omega, by rw [kp]; exact Nat.le_trans hnc (nCd_mono _ (by omega))⟩⟩)⟩
      · exact Or.inl (by omega)⟩
    clear eS124
    refine mv_pop (pc := 124) B d_Weaver_finish_124 rfl ?_
    exact mv_vret (pc := 125) B hr d_Weaver_finish_125 (Nat.le_refl _) (Nat.le_refl _) ⟨rfl, hend⟩
  have j72 : ∀ (υ : mv_H) (ex : List Nat) (hR : Rw 32 (mv_r υ)) (hV : WT 32 σ υ) (hM2 : Mt (mv_a υ 24)) (hW2 : WN 32 512 υ n th sl no) (t7 : (mv_i υ 3 7).toInt = a) (t8 : (mv_i υ 3 8).toInt = (mv_i σ 3 8).toInt) (t9 : (mv_i υ 3 9).toInt < 0) (kp : mv_a υ 4 = mv_a σ 4) (m1 : mv_i υ 2 6 = 1) (hK : KX 32 υ th s0 ns no bl (((-1 : Int32), ex) :: bl) 1 (mv_i σ 2 7 = 4 ∨ 0 ≤ (mv_i σ 2 9).toInt)) (hLk : Lk (mv_b υ 42) (mv_i υ 2 10).toInt ex) (hor : ∀ y ∈ ex, ∀ b ∈ bl, ∀ y' ∈ b.2, y' < y) (hd7 : (bl.length : Int) ≤ (mv_i υ 3 8).toInt), mv_V p l e ({ frames := 4, cells := 0, slots := 0, locals := 86 }) s m ([.ref (al 2)] : List Value).toArray below meth c (mg dA D al ext) 2 0 0 (mv_Q (mg dA D al ext) below s 0 0 (mv_Rv (fun σ1 => TP 32 512 σ σ1 n sz a))) υ 72 [(0, .ref (al 2))] [] := by
    intro υ ex hR hV hM2 hW2 t7 t8 t9 kp m1 hK hLk hor hd7
    refine mv_aload_n (pc := 72) B d_Weaver_finish_72 rfl 0 rfl ?_
    refine mv_sipush (pc := 73) (v := 209) B d_Weaver_finish_73 (by decide) ?_
    refine mv_aload_n (pc := 76) B d_Weaver_finish_76 rfl 0 rfl ?_
    refine mv_getR (pc := 77) (ci := 1) (C := R_Weaver) (T := F_Weaver) (N := 16) B 5 rfl rfl (by decide) i_Weaver (B.2.2.2.1 _ k_235) rfl hR.2.2.1 d_Weaver_finish_77 ?_
    refine mv_sipush (pc := 80) (v := 312) B d_Weaver_finish_80 (by decide) ?_
    refine mv_lconst (pc := 83) (v := 0) B d_Weaver_finish_83 (by decide) ?_
    refine mv_callVi (pc := 84) (n := 2) (ci := 7) (C := R_Program) B (mK_ok sk sv) hNs rfl rfl (c_Program_emit_a l hi _ _ _ hR.2.1 (by have := hK.2.1; omega) (by have := hK.2.1; omega)) rfl (ma_goodc kc_Program_emit) (B.2.2.2.1 _ k_1384) (B.2.2.2.1 _ k_1385) (B.2.2.2.1 _ k_1386) (B.2.2.2.1 _ k_8) ⟨by decide +kernel, by decide +kernel, by decide +kernel⟩ rfl d_Weaver_finish_84 rfl (Nat.le_of_ble_eq_true rfl) ⟨by decide, by decide⟩ ⟨by decide, by decide⟩ ⟨by decide, by decide⟩ (mv_noH hno _) (fun v84 σ84 h84 => ?_)
    obtain ⟨e84, z84⟩ := h84
    have hLe := hK.1.2.2.head.2.1
    have hk17 := hK.2.1
    subst e84
    refine mv_gen (fun S87 eS87 => ?_)
    have hR : Rw 32 (mv_r S87) := by rw [eS87]; exact hR
    have hV : WT 32 σ S87 := by rw [eS87]; exact hV.emit _ _
    have hM2 : Mt (mv_a S87 24) := by rw [eS87]; exact hM2
    have hW2 : WN 32 512 S87 n th sl no := by rw [eS87]; exact hW2.of hP (OF.emit Fr.rf _ _)
    have hK : KX 32 S87 th (s0 + 1) ns no bl ((v84, ex) :: bl) 0 (mv_i σ 2 7 = 4 ∨ 0 ≤ (mv_i σ 2 9).toInt) := by rw [eS87]; exact hK.unless hP (by omega) (by rw [z84]; exact hk17)
    have t7 : (mv_i S87 3 7).toInt = a := by rw [eS87]; exact t7
    have t8 : (mv_i S87 3 8).toInt = (mv_i σ 3 8).toInt := by rw [eS87]; exact t8
    have t9 : (mv_i S87 3 9).toInt < 0 := by rw [eS87]; exact t9
    have kp : mv_a S87 4 = mv_a σ 4 := by rw [eS87]; exact kp
    have hd7 : (bl.length : Int) ≤ (mv_i S87 3 8).toInt := by rw [eS87]; exact hd7
    have hLk : Lk (mv_b S87 42) (mv_i S87 2 10).toInt ex := by
      have e210 : mv_i S87 2 10 = mv_i υ 2 10 := by rw [eS87]; rfl
      rw [e210, eS87]
      exact Lk.con ex _ hLk (fun y hy => by have := hLe y hy; have ec := i32_cl (x := mv_i υ 32 17) (by omega); show mv_b (pr_emit 32 υ 312 0) (32 + 10) y = mv_b υ (32 + 10) y; rw [em_g, if_neg (by omega)])
    clear eS87
    refine mv_aload_n (pc := 87) B d_Weaver_finish_87 rfl 0 rfl ?_
    refine mv_getI (pc := 88) (ci := 1) (C := R_Weaver) (T := F_Weaver) (N := 16) B 10 rfl rfl (by decide) i_Weaver (B.2.2.2.1 _ k_240) rfl d_Weaver_finish_88 ?_
    refine mv_callVv (pc := 91) (n := 3) (ci := 1) (C := R_Weaver) B (mK_ok sk sv) hNs rfl rfl (c_Weaver_openBlock l hi _ _ _ _ hR.1 (hG.2.2.1.wt hV hP ht2) (by omega) (by omega) (by have := hK.1.1; omega) (by have := hK.1.1; omega)) rfl (ma_goodc kc_Weaver_openBlock) (B.2.2.2.1 _ k_1345) (B.2.2.2.1 _ k_1347) (B.2.2.2.1 _ ks_41) (B.2.2.2.1 _ k_2) ⟨by decide +kernel, by decide +kernel, by decide +kernel⟩ rfl d_Weaver_finish_91 rfl (Nat.le_of_ble_eq_true rfl) ⟨by decide, by decide⟩ ⟨by decide, by decide⟩ ⟨by decide, by decide⟩ (mv_noH hno _) (fun σ91 h91 => ?_)
    obtain ⟨a6, w6, v6, r6, d6⟩ := h91
    have q6 := r6.1
    have hend : TP 32 512 σ σ91 n sz a := by
      rcases d6 with ⟨q1, q2⟩ | ⟨q1, q2⟩
      · rw [q2]; exact ⟨hV.tk3 _ _ _, hM2, th, sl, no, hW2.tk3 hP _ _ _, Or.inl q1⟩
      · rw [q2]
        have hd60 : ¬ (mv_i S87 3 8).toInt = 60 := fun q => (r6.2.1 q1).2.2.1 (Int32.toInt_inj.mp q)
        exact ⟨(hV.tk3 _ _ _).wb _ _ _, hM2, th, sl, no, hW2.of hP ((OF.tk3 Fr.rf _ _ _).wb _ _ _), Or.inr ⟨a + 1, by omega, Or.inr (Or.inl ⟨rfl, s0 + 1, ns, _, List.cons_ne_nil _ _, WS.block (bl := bl) (ex := ex) (d := ((mv_i S87 3 8).toInt + 1).toNat) hP (show a6.toInt = ((a + 1 : Nat) : Int) by omega) q1 (show (mv_i S87 3 8 + 1).toInt = _ by rw [i32_inc (by omega)]; omega) (by omega) (by omega) (by omega) (by omega) (by omega) (show no ≤ nCd (mv_a S87 4) (a + 1) by rw [kp]; exact Nat.le_trans hnc (nCd_mono _ (by omega))) hK.1.1 hK.1.2.1 hW2.2.2.1.1 ⟨⟨fun q => absurd q (by decide), fun q => absurd q hne⟩, fun q => absurd q hne⟩ hLk hor hK.1.2.2 hK.2.1 hK.2.2.1 (fun q => (hK.2.2.2 q).2)⟩)⟩⟩
    exact mv_vret (pc := 94) B hr d_Weaver_finish_94 (Nat.le_refl _) (Nat.le_refl _) ⟨rfl, hend⟩
  refine mv_aload_n (pc := 0) B d_Weaver_finish_0 rfl 0 rfl ?_
  refine mv_getR (pc := 1) (ci := 1) (C := R_Weaver) (T := F_Weaver) (N := 16) B 3 rfl rfl (by decide) i_Weaver (B.2.2.2.1 _ k_232) rfl (hR.1 _ 3 _ rfl) d_Weaver_finish_1 ?_
  refine mv_callVi (pc := 4) (n := 0) (ci := 6) (C := R_Exprs) B (mK_ok sk sv) hNs rfl rfl (c_Exprs_release l hi _ hR.1 (by have := hX.1.2.2.1; omega) (by have := hX.1.2.2.1; omega)) rfl (ma_goodc kc_Exprs_release) (B.2.2.2.1 _ k_1526) (B.2.2.2.1 _ k_1470) (B.2.2.2.1 _ k_1471) (B.2.2.2.1 _ k_7) ⟨by decide +kernel, by decide +kernel, by decide +kernel⟩ rfl d_Weaver_finish_4 rfl (Nat.le_of_ble_eq_true rfl) ⟨by decide, by decide⟩ ⟨by decide, by decide⟩ ⟨by decide, by decide⟩ (mv_noH hno _) (fun v4 σ4 h4 => ?_)
  subst h4
  refine mv_gen (fun S7 eS7 => ?_)
  have hR : Rw 32 (mv_r S7) := by rw [eS7]; exact hR
  have hV : WT 32 σ S7 := by rw [eS7]; exact hV.e _ _
  have hM2 : Mt (mv_a S7 24) := by rw [eS7]; exact hM2
  have hW2 : WN 32 512 S7 n th sl no := by rw [eS7]; exact hW2.of hP (OF.e Fr.rf _ _)
  have hK : KX 32 S7 th s0 ns no bl ol (bs + 1) (mv_i σ 2 7 = 4 ∨ 0 ≤ (mv_i σ 2 9).toInt) := by rw [eS7]; exact hK.rel hP _ _
  have i2 : mv_i S7 2 = mv_i σ 2 := by rw [eS7]; exact i2
  have t7 := Eq.trans (congrArg Int32.toInt (show mv_i S7 3 7 = mv_i _ 3 7 by rw [eS7]; rfl)) t7
  have t8 := Eq.trans (congrArg Int32.toInt (show mv_i S7 3 8 = mv_i _ 3 8 by rw [eS7]; rfl)) t8
  have t9 := Eq.trans (congrArg Int32.toInt (show mv_i S7 3 9 = mv_i _ 3 9 by rw [eS7]; rfl)) t9
  have kp := Eq.trans (show mv_a S7 4 = mv_a _ 4 by rw [eS7]; rfl) kp
  have i13 : mv_i S7 13 = mv_i σ 13 := by rw [eS7]; rfl
  have eb : mv_b S7 42 = mv_b σ 42 := by rw [eS7]; rfl
  clear eS7
  refine mv_istore_n (pc := 7) B d_Weaver_finish_7 rfl (by decide) rfl ?_
  refine mv_aload_n (pc := 8) B d_Weaver_finish_8 rfl 1 rfl ?_
  refine mv_getI (pc := 9) (ci := 1) (C := R_Weaver) (T := F_Weaver) (N := 16) B 7 rfl rfl (by decide) i_Weaver (B.2.2.2.1 _ k_237) rfl d_Weaver_finish_9 ?_
  refine mv_iconst (pc := 12) (v := 1) B d_Weaver_finish_12 (by decide) ?_
  refine mv_icmp_ne (pc := 13) (tgt := 45) B d_Weaver_finish_13 rfl (fun h13 => ?_) (fun h13 => ?_)
  · skip
    have hgl0 : ¬ mv_i σ 2 7 = 1 := fun q => h13 ((congrFun i2 7).trans q)
    refine mv_aload_n (pc := 45) B d_Weaver_finish_45 rfl 1 rfl ?_
    refine mv_iconst (pc := 46) (v := 1) B d_Weaver_finish_46 (by decide) ?_
    refine mv_putI (pc := 47) (ci := 1) (C := R_Weaver) (T := F_Weaver) (N := 16) B 6 rfl rfl (by decide) i_Weaver t_Weaver_ok n_Weaver (B.2.2.2.1 _ k_236) rfl rfl rfl rfl d_Weaver_finish_47 ?_
    refine mv_gen (fun S50 eS50 => ?_)
    have hR : Rw 32 (mv_r S50) := by rw [eS50]; exact hR
    have hV : WT 32 σ S50 := by rw [eS50]; exact hV.w 6 _
    have hM2 : Mt (mv_a S50 24) := by rw [eS50]; exact hM2
    have hW2 : WN 32 512 S50 n th sl no := by rw [eS50]; exact hW2.of hP (OF.w Fr.rf 6 _)
    have hK : KX 32 S50 th s0 ns no bl ol (bs + 1) (mv_i σ 2 7 = 4 ∨ 0 ≤ (mv_i σ 2 9).toInt) := by rw [eS50]; exact hK.w hP (i := 6) (by omega) _
    have t7 := Eq.trans (congrArg Int32.toInt (show mv_i S50 3 7 = mv_i _ 3 7 by rw [eS50]; rfl)) t7
    have t8 := Eq.trans (congrArg Int32.toInt (show mv_i S50 3 8 = mv_i _ 3 8 by rw [eS50]; rfl)) t8
    have t9 := Eq.trans (congrArg Int32.toInt (show mv_i S50 3 9 = mv_i _ 3 9 by rw [eS50]; rfl)) t9
    have kp := Eq.trans (show mv_a S50 4 = mv_a _ 4 by rw [eS50]; rfl) kp
    have i2t : mv_i S50 2 8 = mv_i σ 2 8 := by rw [eS50]; exact congrFun i2 8
    have i27 : mv_i S50 2 7 = mv_i σ 2 7 := by rw [eS50]; exact congrFun i2 7
    have i29 : mv_i S50 2 9 = mv_i σ 2 9 := by rw [eS50]; exact congrFun i2 9
    have i210 : mv_i S50 2 10 = mv_i σ 2 10 := by rw [eS50]; exact congrFun i2 10
    have i139 : mv_i S50 13 9 = mv_i σ 13 9 := by rw [eS50]; exact congrFun i13 9
    have m1 : mv_i S50 2 6 = 1 := by rw [eS50]; rfl
    have eb : mv_b S50 42 = mv_b σ 42 := by rw [eS50]; exact eb
    clear eS50
    refine mv_aload_n (pc := 50) B d_Weaver_finish_50 rfl 1 rfl ?_
    refine mv_getI (pc := 51) (ci := 1) (C := R_Weaver) (T := F_Weaver) (N := 16) B 7 rfl rfl (by decide) i_Weaver (B.2.2.2.1 _ k_237) rfl d_Weaver_finish_51 ?_
    refine mv_iconst (pc := 54) (v := 4) B d_Weaver_finish_54 (by decide) ?_
    refine mv_icmp_ne (pc := 55) (tgt := 95) B d_Weaver_finish_55 rfl (fun h55 => ?_) (fun h55 => ?_)
    · skip
      have hgl4 : ¬ mv_i σ 2 7 = 4 := fun q => h55 (i27.trans q)
      have hol : ol = bl := (hGx.resolve_right (fun q => hgl4 q.1)).2
      subst hol
      have hgt2 := hgt.resolve_left hgl0
      have hg1 : (mv_i S50 2 9).toInt < 0 → ¬ (mv_i σ 2 7 = 4 ∨ 0 ≤ (mv_i σ 2 9).toInt) := fun q z => by rw [i29] at q; rcases z with z | z; exact hgl4 z; omega
      have t9 : (mv_i S50 3 9).toInt < 0 := by omega
      refine mv_aload_n (pc := 95) B d_Weaver_finish_95 rfl 1 rfl ?_
      refine mv_getI (pc := 96) (ci := 1) (C := R_Weaver) (T := F_Weaver) (N := 16) B 7 rfl rfl (by decide) i_Weaver (B.2.2.2.1 _ k_237) rfl d_Weaver_finish_96 ?_
      refine mv_if_ne (pc := 99) (tgt := 110) B d_Weaver_finish_99 rfl (fun h99 => ?_) (fun h99 => ?_)
      · skip
        have hgl2 : ¬ mv_i σ 2 7 = 0 := fun q => h99 (i27.trans q)
        have hgl1 : ((mv_i σ 2 7 = 2 ∧ bs = 0) ∨ (mv_i σ 2 7 = 3 ∧ bs = 1)) ∧ bd = ol.length ∧ (0 ≤ (mv_i σ 2 9).toInt → (mv_i σ 2 9).toInt < th) := by
          rcases hGl with ⟨q, -⟩ | ⟨q, -⟩ | ⟨q, q2⟩ | ⟨q, q2⟩ | ⟨q, -⟩
          · exact absurd q hgl2
          · exact absurd q hgl0
          · exact ⟨Or.inl ⟨q, q2.1⟩, q2.2⟩
          · exact ⟨Or.inr ⟨q, q2.1⟩, q2.2⟩
          · exact absurd q hgl4
        have hb1 := hgl1.2.1
        have hKs := hK
        have hq9 : (mv_i S50 2 7 = 2 ∧ bs + 1 = 1) ∨ (mv_i S50 2 7 = 3 ∧ bs + 1 = 2) := by rw [i27]; exact hgl1.1.elim (fun q => Or.inl ⟨q.1, by omega⟩) (fun q => Or.inr ⟨q.1, by omega⟩)
        have hg2 : 0 ≤ (mv_i S50 2 9).toInt → (mv_i S50 2 9).toInt < th := by rw [i29]; exact hgl1.2.2
        have hn5 : 2 * ns + 4 ≤ a := hn4 (hgl1.1.elim (fun q => Or.inr (Or.inl q.1)) (fun q => Or.inr (Or.inr q.1)))
        have hd7 : (ol.length : Int) ≤ (mv_i S50 3 8).toInt := by omega
        refine mv_aload_n (pc := 110) B d_Weaver_finish_110 rfl 1 rfl ?_
        refine mv_iload_n (pc := 111) B d_Weaver_finish_111 rfl 0 rfl ?_
        refine mv_callVv (pc := 112) (n := 1) (ci := 1) (C := R_Weaver) B (mK_ok sk sv) hNs rfl rfl (c_Weaver_assign_a l hi _ _ hR hM2 hW2 (by omega) hKs hq9 hg1 hg2 (by rw [i2t]; exact hgt2)) rfl (ma_goodc kc_Weaver_assign) (B.2.2.2.1 _ k_1536) (B.2.2.2.1 _ k_1538) (B.2.2.2.1 _ ks_67) (B.2.2.2.1 _ k_2) ⟨by decide +kernel, by decide +kernel, by decide +kernel⟩ rfl d_Weaver_finish_112 rfl (Nat.le_of_ble_eq_true rfl) ⟨by decide, by decide⟩ ⟨by decide, by decide⟩ ⟨by decide, by decide⟩ (mv_noH hno _) (fun σ112 h112 => ?_)
        obtain ⟨f1, f2, f3, f4, f5, f6, s2, ns2, gi2, f7, f8, f9⟩ := h112
        have go := j115 σ112 s2 ns2 gi2 (by rw [f1.2.2.2.2]; exact hR) (hV.tr f1) f2 f3 (by rw [f4]; exact t7) (by rw [f4]; exact t8) (by rw [f4]; exact t9) (f6.trans kp) (by rw [f5]; exact m1) f9 f7 (by omega) (by rw [f4]; exact hd7)
        refine mv_lpick [1] rfl ?_
        exact go
      · skip
        have hgl2 : mv_i σ 2 7 = 0 := i27.symm.trans h99
        have hgl1 : bs = 0 ∧ bd = ol.length ∧ (0 ≤ (mv_i σ 2 9).toInt → (mv_i σ 2 9).toInt < n ∧ (mv_i σ 13 9).toInt < 64) := by
          rcases hGl with ⟨-, q⟩ | ⟨q, -⟩ | ⟨q, -⟩ | ⟨q, -⟩ | ⟨q, -⟩
          · exact q
          · rw [hgl2] at q; exact absurd q (by decide)
          · rw [hgl2] at q; exact absurd q (by decide)
          · rw [hgl2] at q; exact absurd q (by decide)
          · rw [hgl2] at q; exact absurd q (by decide)
        have hb0 := hgl1.1
        subst hb0
        have hb1 := hgl1.2.1
        rw [Nat.zero_add] at hK
        have hKs := hK
        have hg2 : 0 ≤ (mv_i S50 2 9).toInt → (mv_i S50 2 9).toInt < n ∧ (mv_i S50 13 9).toInt < 64 := by rw [i29, i139]; exact hgl1.2.2
        have hn16 := hG.2.2.1.1.2.1
        have hd7 : (ol.length : Int) ≤ (mv_i S50 3 8).toInt := by omega
        refine mv_aload_n (pc := 102) B d_Weaver_finish_102 rfl 1 rfl ?_
        refine mv_iload_n (pc := 103) B d_Weaver_finish_103 rfl 0 rfl ?_
        refine mv_callVv (pc := 104) (n := 1) (ci := 1) (C := R_Weaver) B (mK_ok sk sv) hNs rfl rfl (c_Weaver_addLet_a l hi _ _ hR hM2 hW2 (by omega) hKs hg1 hg2 hn16) rfl (ma_goodc kc_Weaver_addLet) (B.2.2.2.1 _ k_1527) (B.2.2.2.1 _ k_1529) (B.2.2.2.1 _ ks_66) (B.2.2.2.1 _ k_2) ⟨by decide +kernel, by decide +kernel, by decide +kernel⟩ rfl d_Weaver_finish_104 rfl (Nat.le_of_ble_eq_true rfl) ⟨by decide, by decide⟩ ⟨by decide, by decide⟩ ⟨by decide, by decide⟩ (mv_noH hno _) (fun σ104 h104 => ?_)
        obtain ⟨f1, f2, f3, f4, f5, f6, s2, ns2, gi2, f7, f8, f9⟩ := h104
        have go := j115 σ104 s2 ns2 gi2 (by rw [f1.2.2.2.2]; exact hR) (hV.tr f1) f2 f3 (by rw [f4]; exact t7) (by rw [f4]; exact t8) (by rw [f4]; exact t9) (f6.trans kp) (by rw [f5]; exact m1) f9 f7 (by omega) (by rw [f4]; exact hd7)
        refine mv_goto (pc := 107) (tgt := 115) B d_Weaver_finish_107 rfl ?_
        refine mv_lpick [1] rfl ?_
        exact go
    · skip
      have hgl4 : mv_i σ 2 7 = 4 := i27.symm.trans h55
      have hgl1 : bs = 0 ∧ bd = bl.length := by
        rcases hGl with ⟨q, -⟩ | ⟨q, -⟩ | ⟨q, -⟩ | ⟨q, -⟩ | ⟨-, q⟩
        · rw [hgl4] at q; exact absurd q (by decide)
        · rw [hgl4] at q; exact absurd q (by decide)
        · rw [hgl4] at q; exact absurd q (by decide)
        · rw [hgl4] at q; exact absurd q (by decide)
        · exact q
      obtain ⟨-, ex, hol, hLk, hor⟩ := hGx.resolve_left (fun q => q.1 hgl4)
      subst hol
      have hb0 := hgl1.1
      subst hb0
      have hb1 := hgl1.2
      rw [Nat.zero_add] at hK
      have hKc := hK
      have hLkc : Lk (mv_b S50 42) (mv_i S50 2 10).toInt ex := by
        rw [i210, eb]
        exact Lk.con ex _ hLk (fun y hy => (hX.2.1.2.2.1 y ((hO.head.2.1 y hy).1)).2)
      have hd7 : (bl.length : Int) ≤ (mv_i S50 3 8).toInt := by omega
      have hgt2 := hgt.resolve_left hgl0
      have go := j72 S50 ex hR hV hM2 hW2 t7 t8 (by omega) kp m1 hKc hLkc hor hd7
      have t9 : (mv_i S50 3 9).toInt < 0 := by omega
      refine mv_iload_n (pc := 58) B d_Weaver_finish_58 rfl 0 rfl ?_
      refine mv_iconst (pc := 59) (v := 1) B d_Weaver_finish_59 (by decide) ?_
      refine mv_icmp_le (pc := 60) (tgt := 72) B d_Weaver_finish_60 rfl (fun h60 => ?_) (fun h60 => ?_)
      · skip
        refine mv_lpick [1] rfl ?_
        exact go
      · skip
        refine mv_aload_n (pc := 63) B d_Weaver_finish_63 rfl 1 rfl ?_
        refine mv_aload_n (pc := 64) B d_Weaver_finish_64 rfl 1 rfl ?_
        refine mv_getI (pc := 65) (ci := 1) (C := R_Weaver) (T := F_Weaver) (N := 16) B 8 rfl rfl (by decide) i_Weaver (B.2.2.2.1 _ k_238) rfl d_Weaver_finish_65 ?_
        refine mv_iconst (pc := 68) (v := 4) B d_Weaver_finish_68 (by decide) ?_
        refine mv_callVv (pc := 69) (n := 2) (ci := 1) (C := R_Weaver) B (mK_ok sk sv) hNs rfl rfl (c_Weaver_tell l hi _ _ _ hR.1 (by rw [i2t]; exact hgt2.1) (by rw [i2t]; exact hgt2.2) (by decide)) rfl (ma_goodc kc_Weaver_tell) (B.2.2.2.1 _ k_1282) (B.2.2.2.1 _ k_1284) (B.2.2.2.1 _ ks_32) (B.2.2.2.1 _ k_2) ⟨by decide +kernel, by decide +kernel, by decide +kernel⟩ rfl d_Weaver_finish_69 rfl (Nat.le_of_ble_eq_true rfl) ⟨by decide, by decide⟩ ⟨by decide, by decide⟩ ⟨by decide, by decide⟩ (mv_noH hno _) (fun σ69 h69 => ?_)
        obtain ⟨x9, y9, q1, q2⟩ := h69
        subst q1
        have go := j72 (ex_tell S50 x9 y9) ex hR (hV.tell _ _) hM2 (hW2.tell hP _ _) t7 t8 t9 kp m1 (hKc.tell hP (fun q => absurd q q2) _) hLkc hor hd7
        refine mv_lpick [1] rfl ?_
        exact go
  · skip
    have hgl0 : mv_i σ 2 7 = 1 := (congrFun i2 7).symm.trans h13
    have hgl1 : bs = 0 ∧ bd = bl.length + 1 ∧ (0 ≤ (mv_i σ 2 9).toInt → (mv_i σ 2 9).toInt < th) := by
      rcases hGl with ⟨q, -⟩ | ⟨-, q⟩ | ⟨q, -⟩ | ⟨q, -⟩ | ⟨q, -⟩
      · rw [hgl0] at q; exact absurd q (by decide)
      · exact q
      · rw [hgl0] at q; exact absurd q (by decide)
      · rw [hgl0] at q; exact absurd q (by decide)
      · rw [hgl0] at q; exact absurd q (by decide)
    have hol : ol = bl := hGx.elim (fun q => q.2) (fun q => by rw [hgl0] at q; exact absurd q.1 (by decide))
    have hb0 := hgl1.1
    have hb1 := hgl1.2.1
    have hn5 := hn4 (Or.inl hgl0)
    rw [hol, hb0, Nat.zero_add] at hK
    refine mv_aload_n (pc := 16) B d_Weaver_finish_16 rfl 1 rfl ?_
    refine mv_getR (pc := 17) (ci := 1) (C := R_Weaver) (T := F_Weaver) (N := 16) B 0 rfl rfl (by decide) i_Weaver (B.2.2.2.1 _ k_228) rfl (hR.1 _ 0 _ rfl) d_Weaver_finish_17 ?_
    refine mv_bipush (pc := 20) (v := 93) B d_Weaver_finish_20 (by decide) ?_
    refine mv_callVi (pc := 22) (n := 1) (ci := 2) (C := R_Tokens) B (mK_ok sk sv) hNs rfl rfl (c_Tokens_closeN l hi _ _ hR.1 (hG.2.2.1.wt hV hP ht2) (by omega) (by omega) (by decide)) rfl (ma_goodc kc_Tokens_close) (B.2.2.2.1 _ k_1396) (B.2.2.2.1 _ k_1397) (B.2.2.2.1 _ k_1398) (B.2.2.2.1 _ k_3) ⟨by decide +kernel, by decide +kernel, by decide +kernel⟩ rfl d_Weaver_finish_22 rfl (Nat.le_of_ble_eq_true rfl) ⟨by decide, by decide⟩ ⟨by decide, by decide⟩ ⟨by decide, by decide⟩ (mv_noH hno _) (fun v22 σ22 h22 => ?_)
    obtain ⟨a22, w22, e22, r22⟩ := h22
    have q22 := r22.1
    have z22 := fun q => (r22.2.1 q).1
    have y22 := And.intro r22.2.2.2.1 r22.2.2.2.2.1
    subst e22
    refine mv_gen (fun S25 eS25 => ?_)
    have hR : Rw 32 (mv_r S25) := by rw [eS25]; exact hR
    have hV : WT 32 σ S25 := by rw [eS25]; exact hV.tk3 _ _ _
    have hM2 : Mt (mv_a S25 24) := by rw [eS25]; exact hM2
    have hW2 : WN 32 512 S25 n th sl no := by rw [eS25]; exact hW2.of hP (OF.tk3 Fr.rf _ _ _)
    have hK : KX 32 S25 th s0 ns no bl bl 1 (mv_i σ 2 7 = 4 ∨ 0 ≤ (mv_i σ 2 9).toInt) := by rw [eS25]; exact hK.tok hP _ _ _
    have i2 : mv_i S25 2 = mv_i σ 2 := by rw [eS25]; exact i2
    have t7 : (mv_i S25 3 7).toInt = a22.toInt := by rw [eS25]; rfl
    have t8 : (mv_i S25 3 8).toInt = (mv_i σ 3 8).toInt - 1 := by rw [eS25]; first | exact t8 | exact (sub_one (by omega)).trans (by omega) | exact (i32_inc (by omega)).trans (by omega)
    have t9 : (mv_i S25 3 9).toInt = w22.toInt := by rw [eS25]; rfl
    have kp := Eq.trans (show mv_a S25 4 = mv_a _ 4 by rw [eS25]; rfl) kp
    clear eS25
    refine mv_pop (pc := 25) B d_Weaver_finish_25 rfl ?_
    refine mv_aload_n (pc := 26) B d_Weaver_finish_26 rfl 1 rfl ?_
    refine mv_aload_n (pc := 27) B d_Weaver_finish_27 rfl 1 rfl ?_
    refine mv_getR (pc := 28) (ci := 1) (C := R_Weaver) (T := F_Weaver) (N := 16) B 0 rfl rfl (by decide) i_Weaver (B.2.2.2.1 _ k_228) rfl (hR.1 _ 0 _ rfl) d_Weaver_finish_28 ?_
    refine mv_bipush (pc := 31) (v := 61) B d_Weaver_finish_31 (by decide) ?_
    refine mv_callVi (pc := 33) (n := 1) (ci := 2) (C := R_Tokens) B (mK_ok sk sv) hNs rfl rfl (c_Tokens_takeN l hi _ _ hR.1 (hG.2.2.1.wt hV hP ht2) (by omega) (by omega) (by decide)) rfl (ma_goodc kc_Tokens_take) (B.2.2.2.1 _ k_1266) (B.2.2.2.1 _ k_1267) (B.2.2.2.1 _ k_1268) (B.2.2.2.1 _ k_3) ⟨by decide +kernel, by decide +kernel, by decide +kernel⟩ rfl d_Weaver_finish_33 rfl (Nat.le_of_ble_eq_true rfl) ⟨by decide, by decide⟩ ⟨by decide, by decide⟩ ⟨by decide, by decide⟩ (mv_noH hno _) (fun v33 σ33 h33 => ?_)
    obtain ⟨a33, w33, e33, r33⟩ := h33
    have q33 := r33.1
    have z33 := fun q => (r33.2.1 q).1
    have y33 := And.intro r33.2.2.2.1 r33.2.2.2.2.1
    subst e33
    refine mv_gen (fun S36 eS36 => ?_)
    have hR : Rw 32 (mv_r S36) := by rw [eS36]; exact hR
    have hV : WT 32 σ S36 := by rw [eS36]; exact hV.tk3 _ _ _
    have hM2 : Mt (mv_a S36 24) := by rw [eS36]; exact hM2
    have hW2 : WN 32 512 S36 n th sl no := by rw [eS36]; exact hW2.of hP (OF.tk3 Fr.rf _ _ _)
    have hK : KX 32 S36 th s0 ns no bl bl 1 (mv_i σ 2 7 = 4 ∨ 0 ≤ (mv_i σ 2 9).toInt) := by rw [eS36]; exact hK.tok hP _ _ _
    have i2 : mv_i S36 2 = mv_i σ 2 := by rw [eS36]; exact i2
    have t7 : (mv_i S36 3 7).toInt = a33.toInt := by rw [eS36]; rfl
    have t8 : (mv_i S36 3 8).toInt = (mv_i σ 3 8).toInt - 1 := by rw [eS36]; first | exact t8 | exact (sub_one (by omega)).trans (by omega) | exact (i32_inc (by omega)).trans (by omega)
    have t9 : (mv_i S36 3 9).toInt = w33.toInt := by rw [eS36]; rfl
    have kp := Eq.trans (show mv_a S36 4 = mv_a _ 4 by rw [eS36]; rfl) kp
    clear eS36
    refine mv_putI (pc := 36) (ci := 1) (C := R_Weaver) (T := F_Weaver) (N := 16) B 8 rfl rfl (by decide) i_Weaver t_Weaver_ok n_Weaver (B.2.2.2.1 _ k_238) rfl rfl rfl rfl d_Weaver_finish_36 ?_
    refine mv_aload_n (pc := 39) B d_Weaver_finish_39 rfl 1 rfl ?_
    refine mv_iconst (pc := 40) (v := 3) B d_Weaver_finish_40 (by decide) ?_
    refine mv_callVv (pc := 41) (n := 1) (ci := 1) (C := R_Weaver) B (mK_ok sk sv) hNs rfl rfl (c_Weaver_beginExpr l hi _ _ hR.1) rfl (ma_goodc kc_Weaver_beginExpr) (B.2.2.2.1 _ k_1371) (B.2.2.2.1 _ k_1373) (B.2.2.2.1 _ ks_44) (B.2.2.2.1 _ k_2) ⟨by decide +kernel, by decide +kernel, by decide +kernel⟩ rfl d_Weaver_finish_41 rfl (Nat.le_of_ble_eq_true rfl) ⟨by decide, by decide⟩ ⟨by decide, by decide⟩ ⟨by decide, by decide⟩ (mv_noH hno _) (fun σ41 h41 => ?_)
    subst h41
    refine mv_gen (fun S44 eS44 => ?_)
    have hR : Rw 32 (mv_r S44) := by rw [eS44]; exact hR
    have hV : WT 32 σ S44 := by rw [eS44]; exact hV.w 8 _ |>.wx _
    have hM2 : Mt (mv_a S44 24) := by rw [eS44]; exact hM2
    have hW2 : WN 32 512 S44 n th sl no := by rw [eS44]; exact hW2.of hP (OF.w (OF.w Fr.rf 8 v33) 7 3 |>.e 8 0 |>.e 10 0 |>.w 6 2)
    have hK : KX 32 S44 th s0 ns no bl bl 1 (mv_i σ 2 7 = 4 ∨ 0 ≤ (mv_i σ 2 9).toInt) := by rw [eS44]; exact hK.w hP (i := 8) (by omega) _ |>.wx hP _
    have hend : TP 32 512 σ S44 n sz a := ⟨hV, hM2, th, sl, no, hW2, by
      have t7 : (mv_i S44 3 7).toInt = a33.toInt := by rw [eS44]; exact t7
      have t8 : (mv_i S44 3 8).toInt = (mv_i σ 3 8).toInt - 1 := by rw [eS44]; exact t8
      have t9 : (mv_i S44 3 9).toInt = w33.toInt := by rw [eS44]; exact t9
      have e9 : mv_i S44 2 9 = mv_i σ 2 9 := by rw [eS44]; exact congrFun i2 9
      have e8 : mv_i S44 2 8 = v33 := by rw [eS44]; rfl
      have e7 : mv_i S44 2 7 = 3 := by rw [eS44]; rfl
      by_cases q : (mv_i S44 3 9).toInt < 0
      · refine Or.inr ⟨a + 2, by omega, Or.inr (Or.inr (Or.inl ⟨by rw [eS44]; rfl, ?_⟩))⟩
        refine WE.mk (s := s0) (ns := ns) (bs := 1) (bd := bl.length) (bl := bl) (ol := bl) hP (by omega) q (by omega) (by omega) (by omega) (by omega) (by omega) (fun _ => by omega) ?_ hM2 (by rw [eS44]; rfl) (by rw [eS44]; rfl) hne hK.1.1 hK.1.2.1 hK.1.2.2 (Or.inr (Or.inr (Or.inr (Or.inl ⟨e7, rfl, rfl, fun z => by rw [e9] at z ⊢; exact hgl1.2.2 z⟩)))) (Or.inl ⟨by rw [e7]; decide, rfl⟩) (Or.inr (by rw [e8]; exact ⟨y33.1, by omega⟩)) hK.2.1 hK.2.2.1 (fun z => ?_)
        · have : mv_a S44 4 = mv_a σ 4 := by rw [eS44]; exact kp
          rw [this]; exact Nat.le_trans hnc (nCd_mono _ (by omega))
        · obtain ⟨z1, z2⟩ := hK.2.2.2 z
          exact ⟨Or.inr (by rw [e9]; exact z1.resolve_left (fun y => by rw [hgl0] at y; exact absurd y (by decide))), z2⟩
      · exact Or.inl (by omega)⟩
    clear eS44
    exact mv_vret (pc := 44) B hr d_Weaver_finish_44 (Nat.le_refl _) (Nat.le_refl _) ⟨rfl, hend⟩
set_option maxHeartbeats 4000000 in
set_option maxRecDepth 100000 in
theorem c_Weaver_finish_b (l : Launch) {dA : FieldType → ClassId} {D : va_G} {al : Nat → Nat} {ext : mv_Sh} {sk sv : Nat → Nat} (hi : mv_inj (mg dA D al ext)) (σ : mv_H) {t tn len n z sz th sl s0 a ns no e0 bs bd : Nat} {f0 : Nat → Int32} {g0 : Nat → Int64} {bl ol : List Bk} (hG : WG 48 32768 512 ext σ t tn len n z sz) (hM : Mt (mv_a σ 24)) (hW : WN 48 512 σ n th sl no) (hX : XM 48 th e0 bs (BLx th e0 f0 g0 (mv_a σ 55) no ol (mv_i σ 2 7 = 4 ∨ 0 ≤ (mv_i σ 2 9).toInt)) f0 g0 ns σ [] 1 1 s0) (hI : TI σ sz bd [] s0 a) (hne : ¬ bl = []) (hb15 : (mv_i σ 2 15).toInt = bl.length) (hB : BkR (mv_a σ 28) (mv_a σ 29) (mv_a σ 30) (mv_a σ 31) g0 (mv_i σ 13 7).toInt bl) (hO : Bo f0 e0 ol) (hGl : Gl (mv_i σ 2 7) bs bd bl.length (mv_i σ 2 9).toInt n th (mv_i σ 13 9).toInt) (hGx : Gx (mv_i σ 2 7) g0 (mv_i σ 2 10) bl ol) (hgt : mv_i σ 2 7 = 1 ∨ (0 ≤ (mv_i σ 2 8).toInt ∧ (mv_i σ 2 8).toInt < 32770)) (hn2 : 2 * ns + 2 ≤ a) (hn4 : mv_i σ 2 7 = 1 ∨ mv_i σ 2 7 = 2 ∨ mv_i σ 2 7 = 3 → 2 * ns + 4 ≤ a) (hnc : no ≤ nCd (mv_a σ 4) a) : mv_C l y_Weaver_finish (Cond.code y_Weaver_finish b_Weaver_finish 2 (Option.none : Option Jvm.ClassFile.FieldType) :: ma) ({ frames := 4, cells := 0, slots := 0, locals := 86 }) (mg dA D al ext) (mK sk sv) [.ref (al 2)] σ (mv_Rv (fun σ1 => TP 48 512 σ σ1 n sz a)) := by
  refine mv_C.ofV (cc := b_Weaver_finish) (nL := 2) (ret := (Option.none : Option Jvm.ClassFile.FieldType)) (by decide +kernel) rfl hi (Nat.le_of_ble_eq_true rfl) ?_
  intro p e s m below meth c B hNs hr hnm hno
  have hP : PQ 48 := by unfold PQ; omega
  have hR := hG.1
  have ht2 := hG.2.1.2.2.2.2.2.2
  have hV : WT 48 σ σ := WT0
  have hM2 := hM
  have hW2 := hW
  have hlo : ∀ b ∈ bl, ∀ y ∈ b.2, y < e0 := by
    rcases hGx with ⟨-, q⟩ | ⟨-, ex, q, -⟩
    · rw [q] at hO; exact hO.lt
    · rw [q] at hO; exact hO.tail.lt
  have hK : KX 48 σ th s0 ns no bl ol (bs + 1) (mv_i σ 2 7 = 4 ∨ 0 ≤ (mv_i σ 2 9).toInt) := hX.kx hb15 hB hO hlo
  have i2 : mv_i σ 2 = mv_i σ 2 := rfl
  have hE := hG.2.2.1
  have hsz := hE.2.2.2.2.2
  have hsz2 := hE.2.2.2.1
  have hlen := hG.2.2.2.2.1
  have hlen2 := hG.2.2.2.2.2
  have t7 := hI.1
  have hw9 := hI.2.1
  have t9 : (mv_i σ 3 9).toInt = (mv_i σ 3 9).toInt := rfl
  have t8 : (mv_i σ 3 8).toInt = (mv_i σ 3 8).toInt := rfl
  have kp : mv_a σ 4 = mv_a σ 4 := rfl
  have hd8 : ((bd + 0 : Nat) : Int) ≤ (mv_i σ 3 8).toInt := hI.2.2.1
  have hd9 := hI.2.2.2.1
  have hI5 : s0 + 0 + 3 ≤ a := hI.2.2.2.2.1
  have ha9 := hI.2.2.2.2.2.1
  have j115 : ∀ (υ : mv_H) (s2 : Nat) (ns2 : Nat) (gi2 : Prop) (hR : Rw 48 (mv_r υ)) (hV : WT 48 σ υ) (hM2 : Mt (mv_a υ 24)) (hW2 : WN 48 512 υ n th sl no) (t7 : (mv_i υ 3 7).toInt = a) (t8 : (mv_i υ 3 8).toInt = (mv_i σ 3 8).toInt) (t9 : (mv_i υ 3 9).toInt < 0) (kp : mv_a υ 4 = mv_a σ 4) (m1 : mv_i υ 2 6 = 1) (hK2 : KX 48 υ th s2 ns2 no bl bl 0 gi2) (hs2 : s2 ≤ s0 + 1) (hn2 : 2 * ns2 + 2 ≤ a) (hd7 : (bl.length : Int) ≤ (mv_i υ 3 8).toInt), mv_V p l e ({ frames := 4, cells := 0, slots := 0, locals := 86 }) s m ([.ref (al 2)] : List Value).toArray below meth c (mg dA D al ext) 2 0 0 (mv_Q (mg dA D al ext) below s 0 0 (mv_Rv (fun σ1 => TP 48 512 σ σ1 n sz a))) υ 115 [(0, .ref (al 2))] [] := by
    intro υ s2 ns2 gi2 hR hV hM2 hW2 t7 t8 t9 kp m1 hK2 hs2 hn2 hd7
    refine mv_aload_n (pc := 115) B d_Weaver_finish_115 rfl 0 rfl ?_
    refine mv_getR (pc := 116) (ci := 1) (C := R_Weaver) (T := F_Weaver) (N := 16) B 0 rfl rfl (by decide) i_Weaver (B.2.2.2.1 _ k_228) rfl (hR.1 _ 0 _ rfl) d_Weaver_finish_116 ?_
    refine mv_bipush (pc := 119) (v := 59) B d_Weaver_finish_119 (by decide) ?_
    refine mv_callVi (pc := 121) (n := 1) (ci := 2) (C := R_Tokens) B (mK_ok sk sv) hNs rfl rfl (c_Tokens_takeN l hi _ _ hR.1 (hG.2.2.1.wt hV hP ht2) (by omega) (by omega) (by decide)) rfl (ma_goodc kc_Tokens_take) (B.2.2.2.1 _ k_1266) (B.2.2.2.1 _ k_1267) (B.2.2.2.1 _ k_1268) (B.2.2.2.1 _ k_3) ⟨by decide +kernel, by decide +kernel, by decide +kernel⟩ rfl d_Weaver_finish_121 rfl (Nat.le_of_ble_eq_true rfl) ⟨by decide, by decide⟩ ⟨by decide, by decide⟩ ⟨by decide, by decide⟩ (mv_noH hno _) (fun v121 σ121 h121 => ?_)
    obtain ⟨a121, w121, e121, r121⟩ := h121
    have q121 := r121.1
    have z121 := fun q => (r121.2.1 q).1
    have y121 := And.intro r121.2.2.2.1 r121.2.2.2.2.1
    subst e121
    refine mv_gen (fun S124 eS124 => ?_)
    have hR : Rw 48 (mv_r S124) := by rw [eS124]; exact hR
    have hV : WT 48 σ S124 := by rw [eS124]; exact hV.tk3 _ _ _
    have hM2 : Mt (mv_a S124 24) := by rw [eS124]; exact hM2
    have hW2 : WN 48 512 S124 n th sl no := by rw [eS124]; exact hW2.tk3 hP _ _ _
    have hK2 : KX 48 S124 th s2 ns2 no bl bl 0 gi2 := by rw [eS124]; exact hK2.tok hP _ _ _
    have m1 : mv_i S124 2 6 = 1 := by rw [eS124]; exact m1
    have t7 : (mv_i S124 3 7).toInt = a121.toInt := by rw [eS124]; rfl
    have t8 : (mv_i S124 3 8).toInt = (mv_i σ 3 8).toInt := by rw [eS124]; first | exact t8 | exact (sub_one (by omega)).trans (by omega) | exact (i32_inc (by omega)).trans (by omega)
    have t9 : (mv_i S124 3 9).toInt = w121.toInt := by rw [eS124]; rfl
    have kp := Eq.trans (show mv_a S124 4 = mv_a _ 4 by rw [eS124]; rfl) kp
    have hend : TP 48 512 σ S124 n sz a := ⟨hV, hM2, th, sl, no, hW2, by
      by_cases q : (mv_i S124 3 9).toInt < 0
      · exact Or.inr ⟨a + 1, by omega, Or.inr (Or.inl ⟨m1, s2, ns2, bl, hne, hK2.ws ⟨by omega, q, by omega, by omega, by omega, by omega, by omega, by rw [kp]; exact Nat.le_trans hnc (nCd_mono _ (by omega))⟩⟩)⟩
      · exact Or.inl (by omega)⟩
    clear eS124
    refine mv_pop (pc := 124) B d_Weaver_finish_124 rfl ?_
    exact mv_vret (pc := 125) B hr d_Weaver_finish_125 (Nat.le_refl _) (Nat.le_refl _) ⟨rfl, hend⟩
  have j72 : ∀ (υ : mv_H) (ex : List Nat) (hR : Rw 48 (mv_r υ)) (hV : WT 48 σ υ) (hM2 : Mt (mv_a υ 24)) (hW2 : WN 48 512 υ n th sl no) (t7 : (mv_i υ 3 7).toInt = a) (t8 : (mv_i υ 3 8).toInt = (mv_i σ 3 8).toInt) (t9 : (mv_i υ 3 9).toInt < 0) (kp : mv_a υ 4 = mv_a σ 4) (m1 : mv_i υ 2 6 = 1) (hK : KX 48 υ th s0 ns no bl (((-1 : Int32), ex) :: bl) 1 (mv_i σ 2 7 = 4 ∨ 0 ≤ (mv_i σ 2 9).toInt)) (hLk : Lk (mv_b υ 58) (mv_i υ 2 10).toInt ex) (hor : ∀ y ∈ ex, ∀ b ∈ bl, ∀ y' ∈ b.2, y' < y) (hd7 : (bl.length : Int) ≤ (mv_i υ 3 8).toInt), mv_V p l e ({ frames := 4, cells := 0, slots := 0, locals := 86 }) s m ([.ref (al 2)] : List Value).toArray below meth c (mg dA D al ext) 2 0 0 (mv_Q (mg dA D al ext) below s 0 0 (mv_Rv (fun σ1 => TP 48 512 σ σ1 n sz a))) υ 72 [(0, .ref (al 2))] [] := by
    intro υ ex hR hV hM2 hW2 t7 t8 t9 kp m1 hK hLk hor hd7
    refine mv_aload_n (pc := 72) B d_Weaver_finish_72 rfl 0 rfl ?_
    refine mv_sipush (pc := 73) (v := 209) B d_Weaver_finish_73 (by decide) ?_
    refine mv_aload_n (pc := 76) B d_Weaver_finish_76 rfl 0 rfl ?_
    refine mv_getR (pc := 77) (ci := 1) (C := R_Weaver) (T := F_Weaver) (N := 16) B 5 rfl rfl (by decide) i_Weaver (B.2.2.2.1 _ k_235) rfl hR.2.2.1 d_Weaver_finish_77 ?_
    refine mv_sipush (pc := 80) (v := 312) B d_Weaver_finish_80 (by decide) ?_
    refine mv_lconst (pc := 83) (v := 0) B d_Weaver_finish_83 (by decide) ?_
    refine mv_callVi (pc := 84) (n := 2) (ci := 7) (C := R_Program) B (mK_ok sk sv) hNs rfl rfl (c_Program_emit_b l hi _ _ _ hR.2.1 (by have := hK.2.1; omega) (by have := hK.2.1; omega)) rfl (ma_goodc kc_Program_emit) (B.2.2.2.1 _ k_1384) (B.2.2.2.1 _ k_1385) (B.2.2.2.1 _ k_1386) (B.2.2.2.1 _ k_8) ⟨by decide +kernel, by decide +kernel, by decide +kernel⟩ rfl d_Weaver_finish_84 rfl (Nat.le_of_ble_eq_true rfl) ⟨by decide, by decide⟩ ⟨by decide, by decide⟩ ⟨by decide, by decide⟩ (mv_noH hno _) (fun v84 σ84 h84 => ?_)
    obtain ⟨e84, z84⟩ := h84
    have hLe := hK.1.2.2.head.2.1
    have hk17 := hK.2.1
    subst e84
    refine mv_gen (fun S87 eS87 => ?_)
    have hR : Rw 48 (mv_r S87) := by rw [eS87]; exact hR
    have hV : WT 48 σ S87 := by rw [eS87]; exact hV.emit _ _
    have hM2 : Mt (mv_a S87 24) := by rw [eS87]; exact hM2
    have hW2 : WN 48 512 S87 n th sl no := by rw [eS87]; exact hW2.of hP (OF.emit Fr.rf _ _)
    have hK : KX 48 S87 th (s0 + 1) ns no bl ((v84, ex) :: bl) 0 (mv_i σ 2 7 = 4 ∨ 0 ≤ (mv_i σ 2 9).toInt) := by rw [eS87]; exact hK.unless hP (by omega) (by rw [z84]; exact hk17)
    have t7 : (mv_i S87 3 7).toInt = a := by rw [eS87]; exact t7
    have t8 : (mv_i S87 3 8).toInt = (mv_i σ 3 8).toInt := by rw [eS87]; exact t8
    have t9 : (mv_i S87 3 9).toInt < 0 := by rw [eS87]; exact t9
    have kp : mv_a S87 4 = mv_a σ 4 := by rw [eS87]; exact kp
    have hd7 : (bl.length : Int) ≤ (mv_i S87 3 8).toInt := by rw [eS87]; exact hd7
    have hLk : Lk (mv_b S87 58) (mv_i S87 2 10).toInt ex := by
      have e210 : mv_i S87 2 10 = mv_i υ 2 10 := by rw [eS87]; rfl
      rw [e210, eS87]
      exact Lk.con ex _ hLk (fun y hy => by have := hLe y hy; have ec := i32_cl (x := mv_i υ 48 17) (by omega); show mv_b (pr_emit 48 υ 312 0) (48 + 10) y = mv_b υ (48 + 10) y; rw [em_g, if_neg (by omega)])
    clear eS87
    refine mv_aload_n (pc := 87) B d_Weaver_finish_87 rfl 0 rfl ?_
    refine mv_getI (pc := 88) (ci := 1) (C := R_Weaver) (T := F_Weaver) (N := 16) B 10 rfl rfl (by decide) i_Weaver (B.2.2.2.1 _ k_240) rfl d_Weaver_finish_88 ?_
    refine mv_callVv (pc := 91) (n := 3) (ci := 1) (C := R_Weaver) B (mK_ok sk sv) hNs rfl rfl (c_Weaver_openBlock l hi _ _ _ _ hR.1 (hG.2.2.1.wt hV hP ht2) (by omega) (by omega) (by have := hK.1.1; omega) (by have := hK.1.1; omega)) rfl (ma_goodc kc_Weaver_openBlock) (B.2.2.2.1 _ k_1345) (B.2.2.2.1 _ k_1347) (B.2.2.2.1 _ ks_41) (B.2.2.2.1 _ k_2) ⟨by decide +kernel, by decide +kernel, by decide +kernel⟩ rfl d_Weaver_finish_91 rfl (Nat.le_of_ble_eq_true rfl) ⟨by decide, by decide⟩ ⟨by decide, by decide⟩ ⟨by decide, by decide⟩ (mv_noH hno _) (fun σ91 h91 => ?_)
    obtain ⟨a6, w6, v6, r6, d6⟩ := h91
    have q6 := r6.1
    have hend : TP 48 512 σ σ91 n sz a := by
      rcases d6 with ⟨q1, q2⟩ | ⟨q1, q2⟩
      · rw [q2]; exact ⟨hV.tk3 _ _ _, hM2, th, sl, no, hW2.tk3 hP _ _ _, Or.inl q1⟩
      · rw [q2]
        have hd60 : ¬ (mv_i S87 3 8).toInt = 60 := fun q => (r6.2.1 q1).2.2.1 (Int32.toInt_inj.mp q)
        exact ⟨(hV.tk3 _ _ _).wb _ _ _, hM2, th, sl, no, hW2.of hP ((OF.tk3 Fr.rf _ _ _).wb _ _ _), Or.inr ⟨a + 1, by omega, Or.inr (Or.inl ⟨rfl, s0 + 1, ns, _, List.cons_ne_nil _ _, WS.block (bl := bl) (ex := ex) (d := ((mv_i S87 3 8).toInt + 1).toNat) hP (show a6.toInt = ((a + 1 : Nat) : Int) by omega) q1 (show (mv_i S87 3 8 + 1).toInt = _ by rw [i32_inc (by omega)]; omega) (by omega) (by omega) (by omega) (by omega) (by omega) (show no ≤ nCd (mv_a S87 4) (a + 1) by rw [kp]; exact Nat.le_trans hnc (nCd_mono _ (by omega))) hK.1.1 hK.1.2.1 hW2.2.2.1.1 ⟨⟨fun q => absurd q (by decide), fun q => absurd q hne⟩, fun q => absurd q hne⟩ hLk hor hK.1.2.2 hK.2.1 hK.2.2.1 (fun q => (hK.2.2.2 q).2)⟩)⟩⟩
    exact mv_vret (pc := 94) B hr d_Weaver_finish_94 (Nat.le_refl _) (Nat.le_refl _) ⟨rfl, hend⟩
  refine mv_aload_n (pc := 0) B d_Weaver_finish_0 rfl 0 rfl ?_
  refine mv_getR (pc := 1) (ci := 1) (C := R_Weaver) (T := F_Weaver) (N := 16) B 3 rfl rfl (by decide) i_Weaver (B.2.2.2.1 _ k_232) rfl (hR.1 _ 3 _ rfl) d_Weaver_finish_1 ?_
  refine mv_callVi (pc := 4) (n := 0) (ci := 6) (C := R_Exprs) B (mK_ok sk sv) hNs rfl rfl (c_Exprs_release l hi _ hR.1 (by have := hX.1.2.2.1; omega) (by have := hX.1.2.2.1; omega)) rfl (ma_goodc kc_Exprs_release) (B.2.2.2.1 _ k_1526) (B.2.2.2.1 _ k_1470) (B.2.2.2.1 _ k_1471) (B.2.2.2.1 _ k_7) ⟨by decide +kernel, by decide +kernel, by decide +kernel⟩ rfl d_Weaver_finish_4 rfl (Nat.le_of_ble_eq_true rfl) ⟨by decide, by decide⟩ ⟨by decide, by decide⟩ ⟨by decide, by decide⟩ (mv_noH hno _) (fun v4 σ4 h4 => ?_)
  subst h4
  refine mv_gen (fun S7 eS7 => ?_)
  have hR : Rw 48 (mv_r S7) := by rw [eS7]; exact hR
  have hV : WT 48 σ S7 := by rw [eS7]; exact hV.e _ _
  have hM2 : Mt (mv_a S7 24) := by rw [eS7]; exact hM2
  have hW2 : WN 48 512 S7 n th sl no := by rw [eS7]; exact hW2.of hP (OF.e Fr.rf _ _)
  have hK : KX 48 S7 th s0 ns no bl ol (bs + 1) (mv_i σ 2 7 = 4 ∨ 0 ≤ (mv_i σ 2 9).toInt) := by rw [eS7]; exact hK.rel hP _ _
  have i2 : mv_i S7 2 = mv_i σ 2 := by rw [eS7]; exact i2
  have t7 := Eq.trans (congrArg Int32.toInt (show mv_i S7 3 7 = mv_i _ 3 7 by rw [eS7]; rfl)) t7
  have t8 := Eq.trans (congrArg Int32.toInt (show mv_i S7 3 8 = mv_i _ 3 8 by rw [eS7]; rfl)) t8
  have t9 := Eq.trans (congrArg Int32.toInt (show mv_i S7 3 9 = mv_i _ 3 9 by rw [eS7]; rfl)) t9
  have kp := Eq.trans (show mv_a S7 4 = mv_a _ 4 by rw [eS7]; rfl) kp
  have i13 : mv_i S7 13 = mv_i σ 13 := by rw [eS7]; rfl
  have eb : mv_b S7 58 = mv_b σ 58 := by rw [eS7]; rfl
  clear eS7
  refine mv_istore_n (pc := 7) B d_Weaver_finish_7 rfl (by decide) rfl ?_
  refine mv_aload_n (pc := 8) B d_Weaver_finish_8 rfl 1 rfl ?_
  refine mv_getI (pc := 9) (ci := 1) (C := R_Weaver) (T := F_Weaver) (N := 16) B 7 rfl rfl (by decide) i_Weaver (B.2.2.2.1 _ k_237) rfl d_Weaver_finish_9 ?_
  refine mv_iconst (pc := 12) (v := 1) B d_Weaver_finish_12 (by decide) ?_
  refine mv_icmp_ne (pc := 13) (tgt := 45) B d_Weaver_finish_13 rfl (fun h13 => ?_) (fun h13 => ?_)
  · skip
    have hgl0 : ¬ mv_i σ 2 7 = 1 := fun q => h13 ((congrFun i2 7).trans q)
    refine mv_aload_n (pc := 45) B d_Weaver_finish_45 rfl 1 rfl ?_
    refine mv_iconst (pc := 46) (v := 1) B d_Weaver_finish_46 (by decide) ?_
    refine mv_putI (pc := 47) (ci := 1) (C := R_Weaver) (T := F_Weaver) (N := 16) B 6 rfl rfl (by decide) i_Weaver t_Weaver_ok n_Weaver (B.2.2.2.1 _ k_236) rfl rfl rfl rfl d_Weaver_finish_47 ?_
    refine mv_gen (fun S50 eS50 => ?_)
    have hR : Rw 48 (mv_r S50) := by rw [eS50]; exact hR
    have hV : WT 48 σ S50 := by rw [eS50]; exact hV.w 6 _
    have hM2 : Mt (mv_a S50 24) := by rw [eS50]; exact hM2
    have hW2 : WN 48 512 S50 n th sl no := by rw [eS50]; exact hW2.of hP (OF.w Fr.rf 6 _)
    have hK : KX 48 S50 th s0 ns no bl ol (bs + 1) (mv_i σ 2 7 = 4 ∨ 0 ≤ (mv_i σ 2 9).toInt) := by rw [eS50]; exact hK.w hP (i := 6) (by omega) _
    have t7 := Eq.trans (congrArg Int32.toInt (show mv_i S50 3 7 = mv_i _ 3 7 by rw [eS50]; rfl)) t7
    have t8 := Eq.trans (congrArg Int32.toInt (show mv_i S50 3 8 = mv_i _ 3 8 by rw [eS50]; rfl)) t8
    have t9 := Eq.trans (congrArg Int32.toInt (show mv_i S50 3 9 = mv_i _ 3 9 by rw [eS50]; rfl)) t9
    have kp := Eq.trans (show mv_a S50 4 = mv_a _ 4 by rw [eS50]; rfl) kp
    have i2t : mv_i S50 2 8 = mv_i σ 2 8 := by rw [eS50]; exact congrFun i2 8
    have i27 : mv_i S50 2 7 = mv_i σ 2 7 := by rw [eS50]; exact congrFun i2 7
    have i29 : mv_i S50 2 9 = mv_i σ 2 9 := by rw [eS50]; exact congrFun i2 9
    have i210 : mv_i S50 2 10 = mv_i σ 2 10 := by rw [eS50]; exact congrFun i2 10
    have i139 : mv_i S50 13 9 = mv_i σ 13 9 := by rw [eS50]; exact congrFun i13 9
    have m1 : mv_i S50 2 6 = 1 := by rw [eS50]; rfl
    have eb : mv_b S50 58 = mv_b σ 58 := by rw [eS50]; exact eb
    clear eS50
    refine mv_aload_n (pc := 50) B d_Weaver_finish_50 rfl 1 rfl ?_
    refine mv_getI (pc := 51) (ci := 1) (C := R_Weaver) (T := F_Weaver) (N := 16) B 7 rfl rfl (by decide) i_Weaver (B.2.2.2.1 _ k_237) rfl d_Weaver_finish_51 ?_
    refine mv_iconst (pc := 54) (v := 4) B d_Weaver_finish_54 (by decide) ?_
    refine mv_icmp_ne (pc := 55) (tgt := 95) B d_Weaver_finish_55 rfl (fun h55 => ?_) (fun h55 => ?_)
    · skip
      have hgl4 : ¬ mv_i σ 2 7 = 4 := fun q => h55 (i27.trans q)
      have hol : ol = bl := (hGx.resolve_right (fun q => hgl4 q.1)).2
      subst hol
      have hgt2 := hgt.resolve_left hgl0
      have hg1 : (mv_i S50 2 9).toInt < 0 → ¬ (mv_i σ 2 7 = 4 ∨ 0 ≤ (mv_i σ 2 9).toInt) := fun q z => by rw [i29] at q; rcases z with z | z; exact hgl4 z; omega
      have t9 : (mv_i S50 3 9).toInt < 0 := by omega
      refine mv_aload_n (pc := 95) B d_Weaver_finish_95 rfl 1 rfl ?_
      refine mv_getI (pc := 96) (ci := 1) (C := R_Weaver) (T := F_Weaver) (N := 16) B 7 rfl rfl (by decide) i_Weaver (B.2.2.2.1 _ k_237) rfl d_Weaver_finish_96 ?_
      refine mv_if_ne (pc := 99) (tgt := 110) B d_Weaver_finish_99 rfl (fun h99 => ?_) (fun h99 => ?_)
      · skip
        have hgl2 : ¬ mv_i σ 2 7 = 0 := fun q => h99 (i27.trans q)
        have hgl1 : ((mv_i σ 2 7 = 2 ∧ bs = 0) ∨ (mv_i σ 2 7 = 3 ∧ bs = 1)) ∧ bd = ol.length ∧ (0 ≤ (mv_i σ 2 9).toInt → (mv_i σ 2 9).toInt < th) := by
          rcases hGl with ⟨q, -⟩ | ⟨q, -⟩ | ⟨q, q2⟩ | ⟨q, q2⟩ | ⟨q, -⟩
          · exact absurd q hgl2
          · exact absurd q hgl0
          · exact ⟨Or.inl ⟨q, q2.1⟩, q2.2⟩
          · exact ⟨Or.inr ⟨q, q2.1⟩, q2.2⟩
          · exact absurd q hgl4
        have hb1 := hgl1.2.1
        have hKs := hK
        have hq9 : (mv_i S50 2 7 = 2 ∧ bs + 1 = 1) ∨ (mv_i S50 2 7 = 3 ∧ bs + 1 = 2) := by rw [i27]; exact hgl1.1.elim (fun q => Or.inl ⟨q.1, by omega⟩) (fun q => Or.inr ⟨q.1, by omega⟩)
        have hg2 : 0 ≤ (mv_i S50 2 9).toInt → (mv_i S50 2 9).toInt < th := by rw [i29]; exact hgl1.2.2
        have hn5 : 2 * ns + 4 ≤ a := hn4 (hgl1.1.elim (fun q => Or.inr (Or.inl q.1)) (fun q => Or.inr (Or.inr q.1)))
        have hd7 : (ol.length : Int) ≤ (mv_i S50 3 8).toInt := by omega
        refine mv_aload_n (pc := 110) B d_Weaver_finish_110 rfl 1 rfl ?_
        refine mv_iload_n (pc := 111) B d_Weaver_finish_111 rfl 0 rfl ?_
        refine mv_callVv (pc := 112) (n := 1) (ci := 1) (C := R_Weaver) B (mK_ok sk sv) hNs rfl rfl (c_Weaver_assign_b l hi _ _ hR hM2 hW2 (by omega) hKs hq9 hg1 hg2 (by rw [i2t]; exact hgt2)) rfl (ma_goodc kc_Weaver_assign) (B.2.2.2.1 _ k_1536) (B.2.2.2.1 _ k_1538) (B.2.2.2.1 _ ks_67) (B.2.2.2.1 _ k_2) ⟨by decide +kernel, by decide +kernel, by decide +kernel⟩ rfl d_Weaver_finish_112 rfl (Nat.le_of_ble_eq_true rfl) ⟨by decide, by decide⟩ ⟨by decide, by decide⟩ ⟨by decide, by decide⟩ (mv_noH hno _) (fun σ112 h112 => ?_)
        obtain ⟨f1, f2, f3, f4, f5, f6, s2, ns2, gi2, f7, f8, f9⟩ := h112
        have go := j115 σ112 s2 ns2 gi2 (by rw [f1.2.2.2.2]; exact hR) (hV.tr f1) f2 f3 (by rw [f4]; exact t7) (by rw [f4]; exact t8) (by rw [f4]; exact t9) (f6.trans kp) (by rw [f5]; exact m1) f9 f7 (by omega) (by rw [f4]; exact hd7)
        refine mv_lpick [1] rfl ?_
        exact go
      · skip
        have hgl2 : mv_i σ 2 7 = 0 := i27.symm.trans h99
        have hgl1 : bs = 0 ∧ bd = ol.length ∧ (0 ≤ (mv_i σ 2 9).toInt → (mv_i σ 2 9).toInt < n ∧ (mv_i σ 13 9).toInt < 64) := by
          rcases hGl with ⟨-, q⟩ | ⟨q, -⟩ | ⟨q, -⟩ | ⟨q, -⟩ | ⟨q, -⟩
          · exact q
          · rw [hgl2] at q; exact absurd q (by decide)
          · rw [hgl2] at q; exact absurd q (by decide)
          · rw [hgl2] at q; exact absurd q (by decide)
          · rw [hgl2] at q; exact absurd q (by decide)
        have hb0 := hgl1.1
        subst hb0
        have hb1 := hgl1.2.1
        rw [Nat.zero_add] at hK
        have hKs := hK
        have hg2 : 0 ≤ (mv_i S50 2 9).toInt → (mv_i S50 2 9).toInt < n ∧ (mv_i S50 13 9).toInt < 64 := by rw [i29, i139]; exact hgl1.2.2
        have hn16 := hG.2.2.1.1.2.1
        have hd7 : (ol.length : Int) ≤ (mv_i S50 3 8).toInt := by omega
        refine mv_aload_n (pc := 102) B d_Weaver_finish_102 rfl 1 rfl ?_
        refine mv_iload_n (pc := 103) B d_Weaver_finish_103 rfl 0 rfl ?_
        refine mv_callVv (pc := 104) (n := 1) (ci := 1) (C := R_Weaver) B (mK_ok sk sv) hNs rfl rfl (c_Weaver_addLet_b l hi _ _ hR hM2 hW2 (by omega) hKs hg1 hg2 hn16) rfl (ma_goodc kc_Weaver_addLet) (B.2.2.2.1 _ k_1527) (B.2.2.2.1 _ k_1529) (B.2.2.2.1 _ ks_66) (B.2.2.2.1 _ k_2) ⟨by decide +kernel, by decide +kernel, by decide +kernel⟩ rfl d_Weaver_finish_104 rfl (Nat.le_of_ble_eq_true rfl) ⟨by decide, by decide⟩ ⟨by decide, by decide⟩ ⟨by decide, by decide⟩ (mv_noH hno _) (fun σ104 h104 => ?_)
        obtain ⟨f1, f2, f3, f4, f5, f6, s2, ns2, gi2, f7, f8, f9⟩ := h104
        have go := j115 σ104 s2 ns2 gi2 (by rw [f1.2.2.2.2]; exact hR) (hV.tr f1) f2 f3 (by rw [f4]; exact t7) (by rw [f4]; exact t8) (by rw [f4]; exact t9) (f6.trans kp) (by rw [f5]; exact m1) f9 f7 (by omega) (by rw [f4]; exact hd7)
        refine mv_goto (pc := 107) (tgt := 115) B d_Weaver_finish_107 rfl ?_
        refine mv_lpick [1] rfl ?_
        exact go
    · skip
      have hgl4 : mv_i σ 2 7 = 4 := i27.symm.trans h55
      have hgl1 : bs = 0 ∧ bd = bl.length := by
        rcases hGl with ⟨q, -⟩ | ⟨q, -⟩ | ⟨q, -⟩ | ⟨q, -⟩ | ⟨-, q⟩
        · rw [hgl4] at q; exact absurd q (by decide)
        · rw [hgl4] at q; exact absurd q (by decide)
        · rw [hgl4] at q; exact absurd q (by decide)
        · rw [hgl4] at q; exact absurd q (by decide)
        · exact q
      obtain ⟨-, ex, hol, hLk, hor⟩ := hGx.resolve_left (fun q => q.1 hgl4)
      subst hol
      have hb0 := hgl1.1
      subst hb0
      have hb1 := hgl1.2
      rw [Nat.zero_add] at hK
      have hKc := hK
      have hLkc : Lk (mv_b S50 58) (mv_i S50 2 10).toInt ex := by
        rw [i210, eb]
        exact Lk.con ex _ hLk (fun y hy => (hX.2.1.2.2.1 y ((hO.head.2.1 y hy).1)).2)
      have hd7 : (bl.length : Int) ≤ (mv_i S50 3 8).toInt := by omega
      have hgt2 := hgt.resolve_left hgl0
      have go := j72 S50 ex hR hV hM2 hW2 t7 t8 (by omega) kp m1 hKc hLkc hor hd7
      have t9 : (mv_i S50 3 9).toInt < 0 := by omega
      refine mv_iload_n (pc := 58) B d_Weaver_finish_58 rfl 0 rfl ?_
      refine mv_iconst (pc := 59) (v := 1) B d_Weaver_finish_59 (by decide) ?_
      refine mv_icmp_le (pc := 60) (tgt := 72) B d_Weaver_finish_60 rfl (fun h60 => ?_) (fun h60 => ?_)
      · skip
        refine mv_lpick [1] rfl ?_
        exact go
      · skip
        refine mv_aload_n (pc := 63) B d_Weaver_finish_63 rfl 1 rfl ?_
        refine mv_aload_n (pc := 64) B d_Weaver_finish_64 rfl 1 rfl ?_
        refine mv_getI (pc := 65) (ci := 1) (C := R_Weaver) (T := F_Weaver) (N := 16) B 8 rfl rfl (by decide) i_Weaver (B.2.2.2.1 _ k_238) rfl d_Weaver_finish_65 ?_
        refine mv_iconst (pc := 68) (v := 4) B d_Weaver_finish_68 (by decide) ?_
        refine mv_callVv (pc := 69) (n := 2) (ci := 1) (C := R_Weaver) B (mK_ok sk sv) hNs rfl rfl (c_Weaver_tell l hi _ _ _ hR.1 (by rw [i2t]; exact hgt2.1) (by rw [i2t]; exact hgt2.2) (by decide)) rfl (ma_goodc kc_Weaver_tell) (B.2.2.2.1 _ k_1282) (B.2.2.2.1 _ k_1284) (B.2.2.2.1 _ ks_32) (B.2.2.2.1 _ k_2) ⟨by decide +kernel, by decide +kernel, by decide +kernel⟩ rfl d_Weaver_finish_69 rfl (Nat.le_of_ble_eq_true rfl) ⟨by decide, by decide⟩ ⟨by decide, by decide⟩ ⟨by decide, by decide⟩ (mv_noH hno _) (fun σ69 h69 => ?_)
        obtain ⟨x9, y9, q1, q2⟩ := h69
        subst q1
        have go := j72 (ex_tell S50 x9 y9) ex hR (hV.tell _ _) hM2 (hW2.tell hP _ _) t7 t8 t9 kp m1 (hKc.tell hP (fun q => absurd q q2) _) hLkc hor hd7
        refine mv_lpick [1] rfl ?_
        exact go
  · skip
    have hgl0 : mv_i σ 2 7 = 1 := (congrFun i2 7).symm.trans h13
    have hgl1 : bs = 0 ∧ bd = bl.length + 1 ∧ (0 ≤ (mv_i σ 2 9).toInt → (mv_i σ 2 9).toInt < th) := by
      rcases hGl with ⟨q, -⟩ | ⟨-, q⟩ | ⟨q, -⟩ | ⟨q, -⟩ | ⟨q, -⟩
      · rw [hgl0] at q; exact absurd q (by decide)
      · exact q
      · rw [hgl0] at q; exact absurd q (by decide)
      · rw [hgl0] at q; exact absurd q (by decide)
      · rw [hgl0] at q; exact absurd q (by decide)
    have hol : ol = bl := hGx.elim (fun q => q.2) (fun q => by rw [hgl0] at q; exact absurd q.1 (by decide))
    have hb0 := hgl1.1
    have hb1 := hgl1.2.1
    have hn5 := hn4 (Or.inl hgl0)
    rw [hol, hb0, Nat.zero_add] at hK
    refine mv_aload_n (pc := 16) B d_Weaver_finish_16 rfl 1 rfl ?_
    refine mv_getR (pc := 17) (ci := 1) (C := R_Weaver) (T := F_Weaver) (N := 16) B 0 rfl rfl (by decide) i_Weaver (B.2.2.2.1 _ k_228) rfl (hR.1 _ 0 _ rfl) d_Weaver_finish_17 ?_
    refine mv_bipush (pc := 20) (v := 93) B d_Weaver_finish_20 (by decide) ?_
    refine mv_callVi (pc := 22) (n := 1) (ci := 2) (C := R_Tokens) B (mK_ok sk sv) hNs rfl rfl (c_Tokens_closeN l hi _ _ hR.1 (hG.2.2.1.wt hV hP ht2) (by omega) (by omega) (by decide)) rfl (ma_goodc kc_Tokens_close) (B.2.2.2.1 _ k_1396) (B.2.2.2.1 _ k_1397) (B.2.2.2.1 _ k_1398) (B.2.2.2.1 _ k_3) ⟨by decide +kernel, by decide +kernel, by decide +kernel⟩ rfl d_Weaver_finish_22 rfl (Nat.le_of_ble_eq_true rfl) ⟨by decide, by decide⟩ ⟨by decide, by decide⟩ ⟨by decide, by decide⟩ (mv_noH hno _) (fun v22 σ22 h22 => ?_)
    obtain ⟨a22, w22, e22, r22⟩ := h22
    have q22 := r22.1
    have z22 := fun q => (r22.2.1 q).1
    have y22 := And.intro r22.2.2.2.1 r22.2.2.2.2.1
    subst e22
    refine mv_gen (fun S25 eS25 => ?_)
    have hR : Rw 48 (mv_r S25) := by rw [eS25]; exact hR
    have hV : WT 48 σ S25 := by rw [eS25]; exact hV.tk3 _ _ _
    have hM2 : Mt (mv_a S25 24) := by rw [eS25]; exact hM2
    have hW2 : WN 48 512 S25 n th sl no := by rw [eS25]; exact hW2.of hP (OF.tk3 Fr.rf _ _ _)
    have hK : KX 48 S25 th s0 ns no bl bl 1 (mv_i σ 2 7 = 4 ∨ 0 ≤ (mv_i σ 2 9).toInt) := by rw [eS25]; exact hK.tok hP _ _ _
    have i2 : mv_i S25 2 = mv_i σ 2 := by rw [eS25]; exact i2
    have t7 : (mv_i S25 3 7).toInt = a22.toInt := by rw [eS25]; rfl
    have t8 : (mv_i S25 3 8).toInt = (mv_i σ 3 8).toInt - 1 := by rw [eS25]; first | exact t8 | exact (sub_one (by omega)).trans (by omega) | exact (i32_inc (by omega)).trans (by omega)
    have t9 : (mv_i S25 3 9).toInt = w22.toInt := by rw [eS25]; rfl
    have kp := Eq.trans (show mv_a S25 4 = mv_a _ 4 by rw [eS25]; rfl) kp
    clear eS25
    refine mv_pop (pc := 25) B d_Weaver_finish_25 rfl ?_
    refine mv_aload_n (pc := 26) B d_Weaver_finish_26 rfl 1 rfl ?_
    refine mv_aload_n (pc := 27) B d_Weaver_finish_27 rfl 1 rfl ?_
    refine mv_getR (pc := 28) (ci := 1) (C := R_Weaver) (T := F_Weaver) (N := 16) B 0 rfl rfl (by decide) i_Weaver (B.2.2.2.1 _ k_228) rfl (hR.1 _ 0 _ rfl) d_Weaver_finish_28 ?_
    refine mv_bipush (pc := 31) (v := 61) B d_Weaver_finish_31 (by decide) ?_
    refine mv_callVi (pc := 33) (n := 1) (ci := 2) (C := R_Tokens) B (mK_ok sk sv) hNs rfl rfl (c_Tokens_takeN l hi _ _ hR.1 (hG.2.2.1.wt hV hP ht2) (by omega) (by omega) (by decide)) rfl (ma_goodc kc_Tokens_take) (B.2.2.2.1 _ k_1266) (B.2.2.2.1 _ k_1267) (B.2.2.2.1 _ k_1268) (B.2.2.2.1 _ k_3) ⟨by decide +kernel, by decide +kernel, by decide +kernel⟩ rfl d_Weaver_finish_33 rfl (Nat.le_of_ble_eq_true rfl) ⟨by decide, by decide⟩ ⟨by decide, by decide⟩ ⟨by decide, by decide⟩ (mv_noH hno _) (fun v33 σ33 h33 => ?_)
    obtain ⟨a33, w33, e33, r33⟩ := h33
    have q33 := r33.1
    have z33 := fun q => (r33.2.1 q).1
    have y33 := And.intro r33.2.2.2.1 r33.2.2.2.2.1
    subst e33
    refine mv_gen (fun S36 eS36 => ?_)
    have hR : Rw 48 (mv_r S36) := by rw [eS36]; exact hR
    have hV : WT 48 σ S36 := by rw [eS36]; exact hV.tk3 _ _ _
    have hM2 : Mt (mv_a S36 24) := by rw [eS36]; exact hM2
    have hW2 : WN 48 512 S36 n th sl no := by rw [eS36]; exact hW2.of hP (OF.tk3 Fr.rf _ _ _)
    have hK : KX 48 S36 th s0 ns no bl bl 1 (mv_i σ 2 7 = 4 ∨ 0 ≤ (mv_i σ 2 9).toInt) := by rw [eS36]; exact hK.tok hP _ _ _
    have i2 : mv_i S36 2 = mv_i σ 2 := by rw [eS36]; exact i2
    have t7 : (mv_i S36 3 7).toInt = a33.toInt := by rw [eS36]; rfl
    have t8 : (mv_i S36 3 8).toInt = (mv_i σ 3 8).toInt - 1 := by rw [eS36]; first | exact t8 | exact (sub_one (by omega)).trans (by omega) | exact (i32_inc (by omega)).trans (by omega)
    have t9 : (mv_i S36 3 9).toInt = w33.toInt := by rw [eS36]; rfl
    have kp := Eq.trans (show mv_a S36 4 = mv_a _ 4 by rw [eS36]; rfl) kp
    clear eS36
    refine mv_putI (pc := 36) (ci := 1) (C := R_Weaver) (T := F_Weaver) (N := 16) B 8 rfl rfl (by decide) i_Weaver t_Weaver_ok n_Weaver (B.2.2.2.1 _ k_238) rfl rfl rfl rfl d_Weaver_finish_36 ?_
    refine mv_aload_n (pc := 39) B d_Weaver_finish_39 rfl 1 rfl ?_
    refine mv_iconst (pc := 40) (v := 3) B d_Weaver_finish_40 (by decide) ?_
    refine mv_callVv (pc := 41) (n := 1) (ci := 1) (C := R_Weaver) B (mK_ok sk sv) hNs rfl rfl (c_Weaver_beginExpr l hi _ _ hR.1) rfl (ma_goodc kc_Weaver_beginExpr) (B.2.2.2.1 _ k_1371) (B.2.2.2.1 _ k_1373) (B.2.2.2.1 _ ks_44) (B.2.2.2.1 _ k_2) ⟨by decide +kernel, by decide +kernel, by decide +kernel⟩ rfl d_Weaver_finish_41 rfl (Nat.le_of_ble_eq_true rfl) ⟨by decide, by decide⟩ ⟨by decide, by decide⟩ ⟨by decide, by decide⟩ (mv_noH hno _) (fun σ41 h41 => ?_)
    subst h41
    refine mv_gen (fun S44 eS44 => ?_)
    have hR : Rw 48 (mv_r S44) := by rw [eS44]; exact hR
    have hV : WT 48 σ S44 := by rw [eS44]; exact hV.w 8 _ |>.wx _
    have hM2 : Mt (mv_a S44 24) := by rw [eS44]; exact hM2
    have hW2 : WN 48 512 S44 n th sl no := by rw [eS44]; exact hW2.of hP (OF.w (OF.w Fr.rf 8 v33) 7 3 |>.e 8 0 |>.e 10 0 |>.w 6 2)
    have hK : KX 48 S44 th s0 ns no bl bl 1 (mv_i σ 2 7 = 4 ∨ 0 ≤ (mv_i σ 2 9).toInt) := by rw [eS44]; exact hK.w hP (i := 8) (by omega) _ |>.wx hP _
    have hend : TP 48 512 σ S44 n sz a := ⟨hV, hM2, th, sl, no, hW2, by
      have t7 : (mv_i S44 3 7).toInt = a33.toInt := by rw [eS44]; exact t7
      have t8 : (mv_i S44 3 8).toInt = (mv_i σ 3 8).toInt - 1 := by rw [eS44]; exact t8
      have t9 : (mv_i S44 3 9).toInt = w33.toInt := by rw [eS44]; exact t9
      have e9 : mv_i S44 2 9 = mv_i σ 2 9 := by rw [eS44]; exact congrFun i2 9
      have e8 : mv_i S44 2 8 = v33 := by rw [eS44]; rfl
      have e7 : mv_i S44 2 7 = 3 := by rw [eS44]; rfl
      by_cases q : (mv_i S44 3 9).toInt < 0
      · refine Or.inr ⟨a + 2, by omega, Or.inr (Or.inr (Or.inl ⟨by rw [eS44]; rfl, ?_⟩))⟩
        refine WE.mk (s := s0) (ns := ns) (bs := 1) (bd := bl.length) (bl := bl) (ol := bl) hP (by omega) q (by omega) (by omega) (by omega) (by omega) (by omega) (fun _ => by omega) ?_ hM2 (by rw [eS44]; rfl) (by rw [eS44]; rfl) hne hK.1.1 hK.1.2.1 hK.1.2.2 (Or.inr (Or.inr (Or.inr (Or.inl ⟨e7, rfl, rfl, fun z => by rw [e9] at z ⊢; exact hgl1.2.2 z⟩)))) (Or.inl ⟨by rw [e7]; decide, rfl⟩) (Or.inr (by rw [e8]; exact ⟨y33.1, by omega⟩)) hK.2.1 hK.2.2.1 (fun z => ?_)
        · have : mv_a S44 4 = mv_a σ 4 := by rw [eS44]; exact kp
          rw [this]; exact Nat.le_trans hnc (nCd_mono _ (by omega))
        · obtain ⟨z1, z2⟩ := hK.2.2.2 z
          exact ⟨Or.inr (by rw [e9]; exact z1.resolve_left (fun y => by rw [hgl0] at y; exact absurd y (by decide))), z2⟩
      · exact Or.inl (by omega)⟩
    clear eS44
    exact mv_vret (pc := 44) B hr d_Weaver_finish_44 (Nat.le_refl _) (Nat.le_refl _) ⟨rfl, hend⟩
set_option maxHeartbeats 4000000 in
set_option maxRecDepth 100000 in
theorem c_Weaver_finish_c (l : Launch) {dA : FieldType → ClassId} {D : va_G} {al : Nat → Nat} {sk sv : Nat → Nat} (hi : mv_inj (mg dA D al me)) (σ : mv_H) {t tn len n z sz th sl s0 a ns no e0 bs bd : Nat} {f0 : Nat → Int32} {g0 : Nat → Int64} {bl ol : List Bk} (hG : WG 145 8192 48 me σ t tn len n z sz) (hM : Mt (mv_a σ 24)) (hW : WN 145 48 σ n th sl no) (hX : XM 145 th e0 bs (BLx th e0 f0 g0 (mv_a σ 152) no ol (mv_i σ 2 7 = 4 ∨ 0 ≤ (mv_i σ 2 9).toInt)) f0 g0 ns σ [] 1 1 s0) (hI : TI σ sz bd [] s0 a) (hne : ¬ bl = []) (hb15 : (mv_i σ 2 15).toInt = bl.length) (hB : BkR (mv_a σ 28) (mv_a σ 29) (mv_a σ 30) (mv_a σ 31) g0 (mv_i σ 13 7).toInt bl) (hO : Bo f0 e0 ol) (hGl : Gl (mv_i σ 2 7) bs bd bl.length (mv_i σ 2 9).toInt n th (mv_i σ 13 9).toInt) (hGx : Gx (mv_i σ 2 7) g0 (mv_i σ 2 10) bl ol) (hgt : mv_i σ 2 7 = 1 ∨ (0 ≤ (mv_i σ 2 8).toInt ∧ (mv_i σ 2 8).toInt < 32770)) (hn2 : 2 * ns + 2 ≤ a) (hn4 : mv_i σ 2 7 = 1 ∨ mv_i σ 2 7 = 2 ∨ mv_i σ 2 7 = 3 → 2 * ns + 4 ≤ a) (hnc : no ≤ nCd (mv_a σ 4) a) : mv_C l y_Weaver_finish (Cond.code y_Weaver_finish b_Weaver_finish 2 (Option.none : Option Jvm.ClassFile.FieldType) :: ma) ({ frames := 4, cells := 0, slots := 0, locals := 86 }) (mg dA D al me) (mK sk sv) [.ref (al 2)] σ (mv_Rv (fun σ1 => TP 145 48 σ σ1 n sz a)) := by
  refine mv_C.ofV (cc := b_Weaver_finish) (nL := 2) (ret := (Option.none : Option Jvm.ClassFile.FieldType)) (by decide +kernel) rfl hi (Nat.le_of_ble_eq_true rfl) ?_
  intro p e s m below meth c B hNs hr hnm hno
  have hP : PQ 145 := by unfold PQ; omega
  have hR := hG.1
  have ht2 := hG.2.1.2.2.2.2.2.2
  have hV : WT 145 σ σ := WT0
  have hM2 := hM
  have hW2 := hW
  have hlo : ∀ b ∈ bl, ∀ y ∈ b.2, y < e0 := by
    rcases hGx with ⟨-, q⟩ | ⟨-, ex, q, -⟩
    · rw [q] at hO; exact hO.lt
    · rw [q] at hO; exact hO.tail.lt
  have hK : KX 145 σ th s0 ns no bl ol (bs + 1) (mv_i σ 2 7 = 4 ∨ 0 ≤ (mv_i σ 2 9).toInt) := hX.kx hb15 hB hO hlo
  have i2 : mv_i σ 2 = mv_i σ 2 := rfl
  have hE := hG.2.2.1
  have hsz := hE.2.2.2.2.2
  have hsz2 := hE.2.2.2.1
  have hlen := hG.2.2.2.2.1
  have hlen2 := hG.2.2.2.2.2
  have t7 := hI.1
  have hw9 := hI.2.1
  have t9 : (mv_i σ 3 9).toInt = (mv_i σ 3 9).toInt := rfl
  have t8 : (mv_i σ 3 8).toInt = (mv_i σ 3 8).toInt := rfl
  have kp : mv_a σ 4 = mv_a σ 4 := rfl
  have hd8 : ((bd + 0 : Nat) : Int) ≤ (mv_i σ 3 8).toInt := hI.2.2.1
  have hd9 := hI.2.2.2.1
  have hI5 : s0 + 0 + 3 ≤ a := hI.2.2.2.2.1
  have ha9 := hI.2.2.2.2.2.1
  have j115 : ∀ (υ : mv_H) (s2 : Nat) (ns2 : Nat) (gi2 : Prop) (hR : Rw 145 (mv_r υ)) (hV : WT 145 σ υ) (hM2 : Mt (mv_a υ 24)) (hW2 : WN 145 48 υ n th sl no) (t7 : (mv_i υ 3 7).toInt = a) (t8 : (mv_i υ 3 8).toInt = (mv_i σ 3 8).toInt) (t9 : (mv_i υ 3 9).toInt < 0) (kp : mv_a υ 4 = mv_a σ 4) (m1 : mv_i υ 2 6 = 1) (hK2 : KX 145 υ th s2 ns2 no bl bl 0 gi2) (hs2 : s2 ≤ s0 + 1) (hn2 : 2 * ns2 + 2 ≤ a) (hd7 : (bl.length : Int) ≤ (mv_i υ 3 8).toInt), mv_V p l e ({ frames := 4, cells := 0, slots := 0, locals := 86 }) s m ([.ref (al 2)] : List Value).toArray below meth c (mg dA D al me) 2 0 0 (mv_Q (mg dA D al me) below s 0 0 (mv_Rv (fun σ1 => TP 145 48 σ σ1 n sz a))) υ 115 [(0, .ref (al 2))] [] := by
    intro υ s2 ns2 gi2 hR hV hM2 hW2 t7 t8 t9 kp m1 hK2 hs2 hn2 hd7
    refine mv_aload_n (pc := 115) B d_Weaver_finish_115 rfl 0 rfl ?_
    refine mv_getR (pc := 116) (ci := 1) (C := R_Weaver) (T := F_Weaver) (N := 16) B 0 rfl rfl (by decide) i_Weaver (B.2.2.2.1 _ k_228) rfl (hR.1 _ 0 _ rfl) d_Weaver_finish_116 ?_
    refine mv_bipush (pc := 119) (v := 59) B d_Weaver_finish_119 (by decide) ?_
    refine mv_callVi (pc := 121) (n := 1) (ci := 2) (C := R_Tokens) B (mK_ok sk sv) hNs rfl rfl (c_Tokens_takeN l hi _ _ hR.1 (hG.2.2.1.wt hV hP ht2) (by omega) (by omega) (by decide)) rfl (ma_goodc kc_Tokens_take) (B.2.2.2.1 _ k_1266) (B.2.2.2.1 _ k_1267) (B.2.2.2.1 _ k_1268) (B.2.2.2.1 _ k_3) ⟨by decide +kernel, by decide +kernel, by decide +kernel⟩ rfl d_Weaver_finish_121 rfl (Nat.le_of_ble_eq_true rfl) ⟨by decide, by decide⟩ ⟨by decide, by decide⟩ ⟨by decide, by decide⟩ (mv_noH hno _) (fun v121 σ121 h121 => ?_)
    obtain ⟨a121, w121, e121, r121⟩ := h121
    have q121 := r121.1
    have z121 := fun q => (r121.2.1 q).1
    have y121 := And.intro r121.2.2.2.1 r121.2.2.2.2.1
    subst e121
    refine mv_gen (fun S124 eS124 => ?_)
    have hR : Rw 145 (mv_r S124) := by rw [eS124]; exact hR
    have hV : WT 145 σ S124 := by rw [eS124]; exact hV.tk3 _ _ _
    have hM2 : Mt (mv_a S124 24) := by rw [eS124]; exact hM2
    have hW2 : WN 145 48 S124 n th sl no := by rw [eS124]; exact hW2.tk3 hP _ _ _
    have hK2 : KX 145 S124 th s2 ns2 no bl bl 0 gi2 := by rw [eS124]; exact hK2.tok hP _ _ _
    have m1 : mv_i S124 2 6 = 1 := by rw [eS124]; exact m1
    have t7 : (mv_i S124 3 7).toInt = a121.toInt := by rw [eS124]; rfl
    have t8 : (mv_i S124 3 8).toInt = (mv_i σ 3 8).toInt := by rw [eS124]; first | exact t8 | exact (sub_one (by omega)).trans (by omega) | exact (i32_inc (by omega)).trans (by omega)
    have t9 : (mv_i S124 3 9).toInt = w121.toInt := by rw [eS124]; rfl
    have kp := Eq.trans (show mv_a S124 4 = mv_a _ 4 by rw [eS124]; rfl) kp
    have hend : TP 145 48 σ S124 n sz a := ⟨hV, hM2, th, sl, no, hW2, by
      by_cases q : (mv_i S124 3 9).toInt < 0
      · exact Or.inr ⟨a + 1, by omega, Or.inr (Or.inl ⟨m1, s2, ns2, bl, hne, hK2.ws ⟨by omega, q, by omega, by omega, by omega, by omega, by omega, by rw [kp]; exact Nat.le_trans hnc (nCd_mono _ (by omega))⟩⟩)⟩
      · exact Or.inl (by omega)⟩
    clear eS124
    refine mv_pop (pc := 124) B d_Weaver_finish_124 rfl ?_
    exact mv_vret (pc := 125) B hr d_Weaver_finish_125 (Nat.le_refl _) (Nat.le_refl _) ⟨rfl, hend⟩
  have j72 : ∀ (υ : mv_H) (ex : List Nat) (hR : Rw 145 (mv_r υ)) (hV : WT 145 σ υ) (hM2 : Mt (mv_a υ 24)) (hW2 : WN 145 48 υ n th sl no) (t7 : (mv_i υ 3 7).toInt = a) (t8 : (mv_i υ 3 8).toInt = (mv_i σ 3 8).toInt) (t9 : (mv_i υ 3 9).toInt < 0) (kp : mv_a υ 4 = mv_a σ 4) (m1 : mv_i υ 2 6 = 1) (hK : KX 145 υ th s0 ns no bl (((-1 : Int32), ex) :: bl) 1 (mv_i σ 2 7 = 4 ∨ 0 ≤ (mv_i σ 2 9).toInt)) (hLk : Lk (mv_b υ 155) (mv_i υ 2 10).toInt ex) (hor : ∀ y ∈ ex, ∀ b ∈ bl, ∀ y' ∈ b.2, y' < y) (hd7 : (bl.length : Int) ≤ (mv_i υ 3 8).toInt), mv_V p l e ({ frames := 4, cells := 0, slots := 0, locals := 86 }) s m ([.ref (al 2)] : List Value).toArray below meth c (mg dA D al me) 2 0 0 (mv_Q (mg dA D al me) below s 0 0 (mv_Rv (fun σ1 => TP 145 48 σ σ1 n sz a))) υ 72 [(0, .ref (al 2))] [] := by
    intro υ ex hR hV hM2 hW2 t7 t8 t9 kp m1 hK hLk hor hd7
    refine mv_aload_n (pc := 72) B d_Weaver_finish_72 rfl 0 rfl ?_
    refine mv_sipush (pc := 73) (v := 209) B d_Weaver_finish_73 (by decide) ?_
    refine mv_aload_n (pc := 76) B d_Weaver_finish_76 rfl 0 rfl ?_
    refine mv_getR (pc := 77) (ci := 1) (C := R_Weaver) (T := F_Weaver) (N := 16) B 5 rfl rfl (by decide) i_Weaver (B.2.2.2.1 _ k_235) rfl hR.2.2.1 d_Weaver_finish_77 ?_
    refine mv_sipush (pc := 80) (v := 312) B d_Weaver_finish_80 (by decide) ?_
    refine mv_lconst (pc := 83) (v := 0) B d_Weaver_finish_83 (by decide) ?_
    refine mv_callVi (pc := 84) (n := 2) (ci := 7) (C := R_Program) B (mK_ok sk sv) hNs rfl rfl (c_Program_emit_c l hi _ _ _ hR.2.1 (by have := hK.2.1; omega) (by have := hK.2.1; omega)) rfl (ma_goodc kc_Program_emit) (B.2.2.2.1 _ k_1384) (B.2.2.2.1 _ k_1385) (B.2.2.2.1 _ k_1386) (B.2.2.2.1 _ k_8) ⟨by decide +kernel, by decide +kernel, by decide +kernel⟩ rfl d_Weaver_finish_84 rfl (Nat.le_of_ble_eq_true rfl) ⟨by decide, by decide⟩ ⟨by decide, by decide⟩ ⟨by decide, by decide⟩ (mv_noH hno _) (fun v84 σ84 h84 => ?_)
    obtain ⟨e84, z84⟩ := h84
    have hLe := hK.1.2.2.head.2.1
    have hk17 := hK.2.1
    subst e84
    refine mv_gen (fun S87 eS87 => ?_)
    have hR : Rw 145 (mv_r S87) := by rw [eS87]; exact hR
    have hV : WT 145 σ S87 := by rw [eS87]; exact hV.emit _ _
    have hM2 : Mt (mv_a S87 24) := by rw [eS87]; exact hM2
    have hW2 : WN 145 48 S87 n th sl no := by rw [eS87]; exact hW2.of hP (OF.emit Fr.rf _ _)
    have hK : KX 145 S87 th (s0 + 1) ns no bl ((v84, ex) :: bl) 0 (mv_i σ 2 7 = 4 ∨ 0 ≤ (mv_i σ 2 9).toInt) := by rw [eS87]; exact hK.unless hP (by omega) (by rw [z84]; exact hk17)
    have t7 : (mv_i S87 3 7).toInt = a := by rw [eS87]; exact t7
    have t8 : (mv_i S87 3 8).toInt = (mv_i σ 3 8).toInt := by rw [eS87]; exact t8
    have t9 : (mv_i S87 3 9).toInt < 0 := by rw [eS87]; exact t9
    have kp : mv_a S87 4 = mv_a σ 4 := by rw [eS87]; exact kp
    have hd7 : (bl.length : Int) ≤ (mv_i S87 3 8).toInt := by rw [eS87]; exact hd7
    have hLk : Lk (mv_b S87 155) (mv_i S87 2 10).toInt ex := by
      have e210 : mv_i S87 2 10 = mv_i υ 2 10 := by rw [eS87]; rfl
      rw [e210, eS87]
      exact Lk.con ex _ hLk (fun y hy => by have := hLe y hy; have ec := i32_cl (x := mv_i υ 145 17) (by omega); show mv_b (pr_emit 145 υ 312 0) (145 + 10) y = mv_b υ (145 + 10) y; rw [em_g, if_neg (by omega)])
    clear eS87
    refine mv_aload_n (pc := 87) B d_Weaver_finish_87 rfl 0 rfl ?_
    refine mv_getI (pc := 88) (ci := 1) (C := R_Weaver) (T := F_Weaver) (N := 16) B 10 rfl rfl (by decide) i_Weaver (B.2.2.2.1 _ k_240) rfl d_Weaver_finish_88 ?_
    refine mv_callVv (pc := 91) (n := 3) (ci := 1) (C := R_Weaver) B (mK_ok sk sv) hNs rfl rfl (c_Weaver_openBlock l hi _ _ _ _ hR.1 (hG.2.2.1.wt hV hP ht2) (by omega) (by omega) (by have := hK.1.1; omega) (by have := hK.1.1; omega)) rfl (ma_goodc kc_Weaver_openBlock) (B.2.2.2.1 _ k_1345) (B.2.2.2.1 _ k_1347) (B.2.2.2.1 _ ks_41) (B.2.2.2.1 _ k_2) ⟨by decide +kernel, by decide +kernel, by decide +kernel⟩ rfl d_Weaver_finish_91 rfl (Nat.le_of_ble_eq_true rfl) ⟨by decide, by decide⟩ ⟨by decide, by decide⟩ ⟨by decide, by decide⟩ (mv_noH hno _) (fun σ91 h91 => ?_)
    obtain ⟨a6, w6, v6, r6, d6⟩ := h91
    have q6 := r6.1
    have hend : TP 145 48 σ σ91 n sz a := by
      rcases d6 with ⟨q1, q2⟩ | ⟨q1, q2⟩
      · rw [q2]; exact ⟨hV.tk3 _ _ _, hM2, th, sl, no, hW2.tk3 hP _ _ _, Or.inl q1⟩
      · rw [q2]
        have hd60 : ¬ (mv_i S87 3 8).toInt = 60 := fun q => (r6.2.1 q1).2.2.1 (Int32.toInt_inj.mp q)
        exact ⟨(hV.tk3 _ _ _).wb _ _ _, hM2, th, sl, no, hW2.of hP ((OF.tk3 Fr.rf _ _ _).wb _ _ _), Or.inr ⟨a + 1, by omega, Or.inr (Or.inl ⟨rfl, s0 + 1, ns, _, List.cons_ne_nil _ _, WS.block (bl := bl) (ex := ex) (d := ((mv_i S87 3 8).toInt + 1).toNat) hP (show a6.toInt = ((a + 1 : Nat) : Int) by omega) q1 (show (mv_i S87 3 8 + 1).toInt = _ by rw [i32_inc (by omega)]; omega) (by omega) (by omega) (by omega) (by omega) (by omega) (show no ≤ nCd (mv_a S87 4) (a + 1) by rw [kp]; exact Nat.le_trans hnc (nCd_mono _ (by omega))) hK.1.1 hK.1.2.1 hW2.2.2.1.1 ⟨⟨fun q => absurd q (by decide), fun q => absurd q hne⟩, fun q => absurd q hne⟩ hLk hor hK.1.2.2 hK.2.1 hK.2.2.1 (fun q => (hK.2.2.2 q).2)⟩)⟩⟩
    exact mv_vret (pc := 94) B hr d_Weaver_finish_94 (Nat.le_refl _) (Nat.le_refl _) ⟨rfl, hend⟩
  refine mv_aload_n (pc := 0) B d_Weaver_finish_0 rfl 0 rfl ?_
  refine mv_getR (pc := 1) (ci := 1) (C := R_Weaver) (T := F_Weaver) (N := 16) B 3 rfl rfl (by decide) i_Weaver (B.2.2.2.1 _ k_232) rfl (hR.1 _ 3 _ rfl) d_Weaver_finish_1 ?_
  refine mv_callVi (pc := 4) (n := 0) (ci := 6) (C := R_Exprs) B (mK_ok sk sv) hNs rfl rfl (c_Exprs_release l hi _ hR.1 (by have := hX.1.2.2.1; omega) (by have := hX.1.2.2.1; omega)) rfl (ma_goodc kc_Exprs_release) (B.2.2.2.1 _ k_1526) (B.2.2.2.1 _ k_1470) (B.2.2.2.1 _ k_1471) (B.2.2.2.1 _ k_7) ⟨by decide +kernel, by decide +kernel, by decide +kernel⟩ rfl d_Weaver_finish_4 rfl (Nat.le_of_ble_eq_true rfl) ⟨by decide, by decide⟩ ⟨by decide, by decide⟩ ⟨by decide, by decide⟩ (mv_noH hno _) (fun v4 σ4 h4 => ?_)
  subst h4
  refine mv_gen (fun S7 eS7 => ?_)
  have hR : Rw 145 (mv_r S7) := by rw [eS7]; exact hR
  have hV : WT 145 σ S7 := by rw [eS7]; exact hV.e _ _
  have hM2 : Mt (mv_a S7 24) := by rw [eS7]; exact hM2
  have hW2 : WN 145 48 S7 n th sl no := by rw [eS7]; exact hW2.of hP (OF.e Fr.rf _ _)
  have hK : KX 145 S7 th s0 ns no bl ol (bs + 1) (mv_i σ 2 7 = 4 ∨ 0 ≤ (mv_i σ 2 9).toInt) := by rw [eS7]; exact hK.rel hP _ _
  have i2 : mv_i S7 2 = mv_i σ 2 := by rw [eS7]; exact i2
  have t7 := Eq.trans (congrArg Int32.toInt (show mv_i S7 3 7 = mv_i _ 3 7 by rw [eS7]; rfl)) t7
  have t8 := Eq.trans (congrArg Int32.toInt (show mv_i S7 3 8 = mv_i _ 3 8 by rw [eS7]; rfl)) t8
  have t9 := Eq.trans (congrArg Int32.toInt (show mv_i S7 3 9 = mv_i _ 3 9 by rw [eS7]; rfl)) t9
  have kp := Eq.trans (show mv_a S7 4 = mv_a _ 4 by rw [eS7]; rfl) kp
  have i13 : mv_i S7 13 = mv_i σ 13 := by rw [eS7]; rfl
  have eb : mv_b S7 155 = mv_b σ 155 := by rw [eS7]; rfl
  clear eS7
  refine mv_istore_n (pc := 7) B d_Weaver_finish_7 rfl (by decide) rfl ?_
  refine mv_aload_n (pc := 8) B d_Weaver_finish_8 rfl 1 rfl ?_
  refine mv_getI (pc := 9) (ci := 1) (C := R_Weaver) (T := F_Weaver) (N := 16) B 7 rfl rfl (by decide) i_Weaver (B.2.2.2.1 _ k_237) rfl d_Weaver_finish_9 ?_
  refine mv_iconst (pc := 12) (v := 1) B d_Weaver_finish_12 (by decide) ?_
  refine mv_icmp_ne (pc := 13) (tgt := 45) B d_Weaver_finish_13 rfl (fun h13 => ?_) (fun h13 => ?_)
  · skip
    have hgl0 : ¬ mv_i σ 2 7 = 1 := fun q => h13 ((congrFun i2 7).trans q)
    refine mv_aload_n (pc := 45) B d_Weaver_finish_45 rfl 1 rfl ?_
    refine mv_iconst (pc := 46) (v := 1) B d_Weaver_finish_46 (by decide) ?_
    refine mv_putI (pc := 47) (ci := 1) (C := R_Weaver) (T := F_Weaver) (N := 16) B 6 rfl rfl (by decide) i_Weaver t_Weaver_ok n_Weaver (B.2.2.2.1 _ k_236) rfl rfl rfl rfl d_Weaver_finish_47 ?_
    refine mv_gen (fun S50 eS50 => ?_)
    have hR : Rw 145 (mv_r S50) := by rw [eS50]; exact hR
    have hV : WT 145 σ S50 := by rw [eS50]; exact hV.w 6 _
    have hM2 : Mt (mv_a S50 24) := by rw [eS50]; exact hM2
    have hW2 : WN 145 48 S50 n th sl no := by rw [eS50]; exact hW2.of hP (OF.w Fr.rf 6 _)
    have hK : KX 145 S50 th s0 ns no bl ol (bs + 1) (mv_i σ 2 7 = 4 ∨ 0 ≤ (mv_i σ 2 9).toInt) := by rw [eS50]; exact hK.w hP (i := 6) (by omega) _
    have t7 := Eq.trans (congrArg Int32.toInt (show mv_i S50 3 7 = mv_i _ 3 7 by rw [eS50]; rfl)) t7
    have t8 := Eq.trans (congrArg Int32.toInt (show mv_i S50 3 8 = mv_i _ 3 8 by rw [eS50]; rfl)) t8
    have t9 := Eq.trans (congrArg Int32.toInt (show mv_i S50 3 9 = mv_i _ 3 9 by rw [eS50]; rfl)) t9
    have kp := Eq.trans (show mv_a S50 4 = mv_a _ 4 by rw [eS50]; rfl) kp
    have i2t : mv_i S50 2 8 = mv_i σ 2 8 := by rw [eS50]; exact congrFun i2 8
    have i27 : mv_i S50 2 7 = mv_i σ 2 7 := by rw [eS50]; exact congrFun i2 7
    have i29 : mv_i S50 2 9 = mv_i σ 2 9 := by rw [eS50]; exact congrFun i2 9
    have i210 : mv_i S50 2 10 = mv_i σ 2 10 := by rw [eS50]; exact congrFun i2 10
    have i139 : mv_i S50 13 9 = mv_i σ 13 9 := by rw [eS50]; exact congrFun i13 9
    have m1 : mv_i S50 2 6 = 1 := by rw [eS50]; rfl
    have eb : mv_b S50 155 = mv_b σ 155 := by rw [eS50]; exact eb
    clear eS50
    refine mv_aload_n (pc := 50) B d_Weaver_finish_50 rfl 1 rfl ?_
    refine mv_getI (pc := 51) (ci := 1) (C := R_Weaver) (T := F_Weaver) (N := 16) B 7 rfl rfl (by decide) i_Weaver (B.2.2.2.1 _ k_237) rfl d_Weaver_finish_51 ?_
    refine mv_iconst (pc := 54) (v := 4) B d_Weaver_finish_54 (by decide) ?_
    refine mv_icmp_ne (pc := 55) (tgt := 95) B d_Weaver_finish_55 rfl (fun h55 => ?_) (fun h55 => ?_)
    · skip
      have hgl4 : ¬ mv_i σ 2 7 = 4 := fun q => h55 (i27.trans q)
      have hol : ol = bl := (hGx.resolve_right (fun q => hgl4 q.1)).2
      subst hol
      have hgt2 := hgt.resolve_left hgl0
      have hg1 : (mv_i S50 2 9).toInt < 0 → ¬ (mv_i σ 2 7 = 4 ∨ 0 ≤ (mv_i σ 2 9).toInt) := fun q z => by rw [i29] at q; rcases z with z | z; exact hgl4 z; omega
      have t9 : (mv_i S50 3 9).toInt < 0 := by omega
      refine mv_aload_n (pc := 95) B d_Weaver_finish_95 rfl 1 rfl ?_
      refine mv_getI (pc := 96) (ci := 1) (C := R_Weaver) (T := F_Weaver) (N := 16) B 7 rfl rfl (by decide) i_Weaver (B.2.2.2.1 _ k_237) rfl d_Weaver_finish_96 ?_
      refine mv_if_ne (pc := 99) (tgt := 110) B d_Weaver_finish_99 rfl (fun h99 => ?_) (fun h99 => ?_)
      · skip
        have hgl2 : ¬ mv_i σ 2 7 = 0 := fun q => h99 (i27.trans q)
        have hgl1 : ((mv_i σ 2 7 = 2 ∧ bs = 0) ∨ (mv_i σ 2 7 = 3 ∧ bs = 1)) ∧ bd = ol.length ∧ (0 ≤ (mv_i σ 2 9).toInt → (mv_i σ 2 9).toInt < th) := by
          rcases hGl with ⟨q, -⟩ | ⟨q, -⟩ | ⟨q, q2⟩ | ⟨q, q2⟩ | ⟨q, -⟩
          · exact absurd q hgl2
          · exact absurd q hgl0
          · exact ⟨Or.inl ⟨q, q2.1⟩, q2.2⟩
          · exact ⟨Or.inr ⟨q, q2.1⟩, q2.2⟩
          · exact absurd q hgl4
        have hb1 := hgl1.2.1
        have hKs := hK
        have hq9 : (mv_i S50 2 7 = 2 ∧ bs + 1 = 1) ∨ (mv_i S50 2 7 = 3 ∧ bs + 1 = 2) := by rw [i27]; exact hgl1.1.elim (fun q => Or.inl ⟨q.1, by omega⟩) (fun q => Or.inr ⟨q.1, by omega⟩)
        have hg2 : 0 ≤ (mv_i S50 2 9).toInt → (mv_i S50 2 9).toInt < th := by rw [i29]; exact hgl1.2.2
        have hn5 : 2 * ns + 4 ≤ a := hn4 (hgl1.1.elim (fun q => Or.inr (Or.inl q.1)) (fun q => Or.inr (Or.inr q.1)))
        have hd7 : (ol.length : Int) ≤ (mv_i S50 3 8).toInt := by omega
        refine mv_aload_n (pc := 110) B d_Weaver_finish_110 rfl 1 rfl ?_
        refine mv_iload_n (pc := 111) B d_Weaver_finish_111 rfl 0 rfl ?_
        refine mv_callVv (pc := 112) (n := 1) (ci := 1) (C := R_Weaver) B (mK_ok sk sv) hNs rfl rfl (c_Weaver_assign_c l hi _ _ hR hM2 hW2 (by omega) hKs hq9 hg1 hg2 (by rw [i2t]; exact hgt2)) rfl (ma_goodc kc_Weaver_assign) (B.2.2.2.1 _ k_1536) (B.2.2.2.1 _ k_1538) (B.2.2.2.1 _ ks_67) (B.2.2.2.1 _ k_2) ⟨by decide +kernel, by decide +kernel, by decide +kernel⟩ rfl d_Weaver_finish_112 rfl (Nat.le_of_ble_eq_true rfl) ⟨by decide, by decide⟩ ⟨by decide, by decide⟩ ⟨by decide, by decide⟩ (mv_noH hno _) (fun σ112 h112 => ?_)
        obtain ⟨f1, f2, f3, f4, f5, f6, s2, ns2, gi2, f7, f8, f9⟩ := h112
        have go := j115 σ112 s2 ns2 gi2 (by rw [f1.2.2.2.2]; exact hR) (hV.tr f1) f2 f3 (by rw [f4]; exact t7) (by rw [f4]; exact t8) (by rw [f4]; exact t9) (f6.trans kp) (by rw [f5]; exact m1) f9 f7 (by omega) (by rw [f4]; exact hd7)
        refine mv_lpick [1] rfl ?_
        exact go
      · skip
        have hgl2 : mv_i σ 2 7 = 0 := i27.symm.trans h99
        have hgl1 : bs = 0 ∧ bd = ol.length ∧ (0 ≤ (mv_i σ 2 9).toInt → (mv_i σ 2 9).toInt < n ∧ (mv_i σ 13 9).toInt < 64) := by
          rcases hGl with ⟨-, q⟩ | ⟨q, -⟩ | ⟨q, -⟩ | ⟨q, -⟩ | ⟨q, -⟩
          · exact q
          · rw [hgl2] at q; exact absurd q (by decide)
          · rw [hgl2] at q; exact absurd q (by decide)
          · rw [hgl2] at q; exact absurd q (by decide)
          · rw [hgl2] at q; exact absurd q (by decide)
        have hb0 := hgl1.1
        subst hb0
        have hb1 := hgl1.2.1
        rw [Nat.zero_add] at hK
        have hKs := hK
        have hg2 : 0 ≤ (mv_i S50 2 9).toInt → (mv_i S50 2 9).toInt < n ∧ (mv_i S50 13 9).toInt < 64 := by rw [i29, i139]; exact hgl1.2.2
        have hn16 := hG.2.2.1.1.2.1
        have hd7 : (ol.length : Int) ≤ (mv_i S50 3 8).toInt := by omega
        refine mv_aload_n (pc := 102) B d_Weaver_finish_102 rfl 1 rfl ?_
        refine mv_iload_n (pc := 103) B d_Weaver_finish_103 rfl 0 rfl ?_
        refine mv_callVv (pc := 104) (n := 1) (ci := 1) (C := R_Weaver) B (mK_ok sk sv) hNs rfl rfl (c_Weaver_addLet_c l hi _ _ hR hM2 hW2 (by omega) hKs hg1 hg2 hn16) rfl (ma_goodc kc_Weaver_addLet) (B.2.2.2.1 _ k_1527) (B.2.2.2.1 _ k_1529) (B.2.2.2.1 _ ks_66) (B.2.2.2.1 _ k_2) ⟨by decide +kernel, by decide +kernel, by decide +kernel⟩ rfl d_Weaver_finish_104 rfl (Nat.le_of_ble_eq_true rfl) ⟨by decide, by decide⟩ ⟨by decide, by decide⟩ ⟨by decide, by decide⟩ (mv_noH hno _) (fun σ104 h104 => ?_)
        obtain ⟨f1, f2, f3, f4, f5, f6, s2, ns2, gi2, f7, f8, f9⟩ := h104
        have go := j115 σ104 s2 ns2 gi2 (by rw [f1.2.2.2.2]; exact hR) (hV.tr f1) f2 f3 (by rw [f4]; exact t7) (by rw [f4]; exact t8) (by rw [f4]; exact t9) (f6.trans kp) (by rw [f5]; exact m1) f9 f7 (by omega) (by rw [f4]; exact hd7)
        refine mv_goto (pc := 107) (tgt := 115) B d_Weaver_finish_107 rfl ?_
        refine mv_lpick [1] rfl ?_
        exact go
    · skip
      have hgl4 : mv_i σ 2 7 = 4 := i27.symm.trans h55
      have hgl1 : bs = 0 ∧ bd = bl.length := by
        rcases hGl with ⟨q, -⟩ | ⟨q, -⟩ | ⟨q, -⟩ | ⟨q, -⟩ | ⟨-, q⟩
        · rw [hgl4] at q; exact absurd q (by decide)
        · rw [hgl4] at q; exact absurd q (by decide)
        · rw [hgl4] at q; exact absurd q (by decide)
        · rw [hgl4] at q; exact absurd q (by decide)
        · exact q
      obtain ⟨-, ex, hol, hLk, hor⟩ := hGx.resolve_left (fun q => q.1 hgl4)
      subst hol
      have hb0 := hgl1.1
      subst hb0
      have hb1 := hgl1.2
      rw [Nat.zero_add] at hK
      have hKc := hK
      have hLkc : Lk (mv_b S50 155) (mv_i S50 2 10).toInt ex := by
        rw [i210, eb]
        exact Lk.con ex _ hLk (fun y hy => (hX.2.1.2.2.1 y ((hO.head.2.1 y hy).1)).2)
      have hd7 : (bl.length : Int) ≤ (mv_i S50 3 8).toInt := by omega
      have hgt2 := hgt.resolve_left hgl0
      have go := j72 S50 ex hR hV hM2 hW2 t7 t8 (by omega) kp m1 hKc hLkc hor hd7
      have t9 : (mv_i S50 3 9).toInt < 0 := by omega
      refine mv_iload_n (pc := 58) B d_Weaver_finish_58 rfl 0 rfl ?_
      refine mv_iconst (pc := 59) (v := 1) B d_Weaver_finish_59 (by decide) ?_
      refine mv_icmp_le (pc := 60) (tgt := 72) B d_Weaver_finish_60 rfl (fun h60 => ?_) (fun h60 => ?_)
      · skip
        refine mv_lpick [1] rfl ?_
        exact go
      · skip
        refine mv_aload_n (pc := 63) B d_Weaver_finish_63 rfl 1 rfl ?_
        refine mv_aload_n (pc := 64) B d_Weaver_finish_64 rfl 1 rfl ?_
        refine mv_getI (pc := 65) (ci := 1) (C := R_Weaver) (T := F_Weaver) (N := 16) B 8 rfl rfl (by decide) i_Weaver (B.2.2.2.1 _ k_238) rfl d_Weaver_finish_65 ?_
        refine mv_iconst (pc := 68) (v := 4) B d_Weaver_finish_68 (by decide) ?_
        refine mv_callVv (pc := 69) (n := 2) (ci := 1) (C := R_Weaver) B (mK_ok sk sv) hNs rfl rfl (c_Weaver_tell l hi _ _ _ hR.1 (by rw [i2t]; exact hgt2.1) (by rw [i2t]; exact hgt2.2) (by decide)) rfl (ma_goodc kc_Weaver_tell) (B.2.2.2.1 _ k_1282) (B.2.2.2.1 _ k_1284) (B.2.2.2.1 _ ks_32) (B.2.2.2.1 _ k_2) ⟨by decide +kernel, by decide +kernel, by decide +kernel⟩ rfl d_Weaver_finish_69 rfl (Nat.le_of_ble_eq_true rfl) ⟨by decide, by decide⟩ ⟨by decide, by decide⟩ ⟨by decide, by decide⟩ (mv_noH hno _) (fun σ69 h69 => ?_)
        obtain ⟨x9, y9, q1, q2⟩ := h69
        subst q1
        have go := j72 (ex_tell S50 x9 y9) ex hR (hV.tell _ _) hM2 (hW2.tell hP _ _) t7 t8 t9 kp m1 (hKc.tell hP (fun q => absurd q q2) _) hLkc hor hd7
        refine mv_lpick [1] rfl ?_
        exact go
  · skip
    have hgl0 : mv_i σ 2 7 = 1 := (congrFun i2 7).symm.trans h13
    have hgl1 : bs = 0 ∧ bd = bl.length + 1 ∧ (0 ≤ (mv_i σ 2 9).toInt → (mv_i σ 2 9).toInt < th) := by
      rcases hGl with ⟨q, -⟩ | ⟨-, q⟩ | ⟨q, -⟩ | ⟨q, -⟩ | ⟨q, -⟩
      · rw [hgl0] at q; exact absurd q (by decide)
      · exact q
      · rw [hgl0] at q; exact absurd q (by decide)
      · rw [hgl0] at q; exact absurd q (by decide)
      · rw [hgl0] at q; exact absurd q (by decide)
    have hol : ol = bl := hGx.elim (fun q => q.2) (fun q => by rw [hgl0] at q; exact absurd q.1 (by decide))
    have hb0 := hgl1.1
    have hb1 := hgl1.2.1
    have hn5 := hn4 (Or.inl hgl0)
    rw [hol, hb0, Nat.zero_add] at hK
    refine mv_aload_n (pc := 16) B d_Weaver_finish_16 rfl 1 rfl ?_
    refine mv_getR (pc := 17) (ci := 1) (C := R_Weaver) (T := F_Weaver) (N := 16) B 0 rfl rfl (by decide) i_Weaver (B.2.2.2.1 _ k_228) rfl (hR.1 _ 0 _ rfl) d_Weaver_finish_17 ?_
    refine mv_bipush (pc := 20) (v := 93) B d_Weaver_finish_20 (by decide) ?_
    refine mv_callVi (pc := 22) (n := 1) (ci := 2) (C := R_Tokens) B (mK_ok sk sv) hNs rfl rfl (c_Tokens_closeN l hi _ _ hR.1 (hG.2.2.1.wt hV hP ht2) (by omega) (by omega) (by decide)) rfl (ma_goodc kc_Tokens_close) (B.2.2.2.1 _ k_1396) (B.2.2.2.1 _ k_1397) (B.2.2.2.1 _ k_1398) (B.2.2.2.1 _ k_3) ⟨by decide +kernel, by decide +kernel, by decide +kernel⟩ rfl d_Weaver_finish_22 rfl (Nat.le_of_ble_eq_true rfl) ⟨by decide, by decide⟩ ⟨by decide, by decide⟩ ⟨by decide, by decide⟩ (mv_noH hno _) (fun v22 σ22 h22 => ?_)
    obtain ⟨a22, w22, e22, r22⟩ := h22
    have q22 := r22.1
    have z22 := fun q => (r22.2.1 q).1
    have y22 := And.intro r22.2.2.2.1 r22.2.2.2.2.1
    subst e22
    refine mv_gen (fun S25 eS25 => ?_)
    have hR : Rw 145 (mv_r S25) := by rw [eS25]; exact hR
    have hV : WT 145 σ S25 := by rw [eS25]; exact hV.tk3 _ _ _
    have hM2 : Mt (mv_a S25 24) := by rw [eS25]; exact hM2
    have hW2 : WN 145 48 S25 n th sl no := by rw [eS25]; exact hW2.of hP (OF.tk3 Fr.rf _ _ _)
    have hK : KX 145 S25 th s0 ns no bl bl 1 (mv_i σ 2 7 = 4 ∨ 0 ≤ (mv_i σ 2 9).toInt) := by rw [eS25]; exact hK.tok hP _ _ _
    have i2 : mv_i S25 2 = mv_i σ 2 := by rw [eS25]; exact i2
    have t7 : (mv_i S25 3 7).toInt = a22.toInt := by rw [eS25]; rfl
    have t8 : (mv_i S25 3 8).toInt = (mv_i σ 3 8).toInt - 1 := by rw [eS25]; first | exact t8 | exact (sub_one (by omega)).trans (by omega) | exact (i32_inc (by omega)).trans (by omega)
    have t9 : (mv_i S25 3 9).toInt = w22.toInt := by rw [eS25]; rfl
    have kp := Eq.trans (show mv_a S25 4 = mv_a _ 4 by rw [eS25]; rfl) kp
    clear eS25
    refine mv_pop (pc := 25) B d_Weaver_finish_25 rfl ?_
    refine mv_aload_n (pc := 26) B d_Weaver_finish_26 rfl 1 rfl ?_
    refine mv_aload_n (pc := 27) B d_Weaver_finish_27 rfl 1 rfl ?_
    refine mv_getR (pc := 28) (ci := 1) (C := R_Weaver) (T := F_Weaver) (N := 16) B 0 rfl rfl (by decide) i_Weaver (B.2.2.2.1 _ k_228) rfl (hR.1 _ 0 _ rfl) d_Weaver_finish_28 ?_
    refine mv_bipush (pc := 31) (v := 61) B d_Weaver_finish_31 (by decide) ?_
    refine mv_callVi (pc := 33) (n := 1) (ci := 2) (C := R_Tokens) B (mK_ok sk sv) hNs rfl rfl (c_Tokens_takeN l hi _ _ hR.1 (hG.2.2.1.wt hV hP ht2) (by omega) (by omega) (by decide)) rfl (ma_goodc kc_Tokens_take) (B.2.2.2.1 _ k_1266) (B.2.2.2.1 _ k_1267) (B.2.2.2.1 _ k_1268) (B.2.2.2.1 _ k_3) ⟨by decide +kernel, by decide +kernel, by decide +kernel⟩ rfl d_Weaver_finish_33 rfl (Nat.le_of_ble_eq_true rfl) ⟨by decide, by decide⟩ ⟨by decide, by decide⟩ ⟨by decide, by decide⟩ (mv_noH hno _) (fun v33 σ33 h33 => ?_)
    obtain ⟨a33, w33, e33, r33⟩ := h33
    have q33 := r33.1
    have z33 := fun q => (r33.2.1 q).1
    have y33 := And.intro r33.2.2.2.1 r33.2.2.2.2.1
    subst e33
    refine mv_gen (fun S36 eS36 => ?_)
    have hR : Rw 145 (mv_r S36) := by rw [eS36]; exact hR
    have hV : WT 145 σ S36 := by rw [eS36]; exact hV.tk3 _ _ _
    have hM2 : Mt (mv_a S36 24) := by rw [eS36]; exact hM2
    have hW2 : WN 145 48 S36 n th sl no := by rw [eS36]; exact hW2.of hP (OF.tk3 Fr.rf _ _ _)
    have hK : KX 145 S36 th s0 ns no bl bl 1 (mv_i σ 2 7 = 4 ∨ 0 ≤ (mv_i σ 2 9).toInt) := by rw [eS36]; exact hK.tok hP _ _ _
    have i2 : mv_i S36 2 = mv_i σ 2 := by rw [eS36]; exact i2
    have t7 : (mv_i S36 3 7).toInt = a33.toInt := by rw [eS36]; rfl
    have t8 : (mv_i S36 3 8).toInt = (mv_i σ 3 8).toInt - 1 := by rw [eS36]; first | exact t8 | exact (sub_one (by omega)).trans (by omega) | exact (i32_inc (by omega)).trans (by omega)
    have t9 : (mv_i S36 3 9).toInt = w33.toInt := by rw [eS36]; rfl
    have kp := Eq.trans (show mv_a S36 4 = mv_a _ 4 by rw [eS36]; rfl) kp
    clear eS36
    refine mv_putI (pc := 36) (ci := 1) (C := R_Weaver) (T := F_Weaver) (N := 16) B 8 rfl rfl (by decide) i_Weaver t_Weaver_ok n_Weaver (B.2.2.2.1 _ k_238) rfl rfl rfl rfl d_Weaver_finish_36 ?_
    refine mv_aload_n (pc := 39) B d_Weaver_finish_39 rfl 1 rfl ?_
    refine mv_iconst (pc := 40) (v := 3) B d_Weaver_finish_40 (by decide) ?_
    refine mv_callVv (pc := 41) (n := 1) (ci := 1) (C := R_Weaver) B (mK_ok sk sv) hNs rfl rfl (c_Weaver_beginExpr l hi _ _ hR.1) rfl (ma_goodc kc_Weaver_beginExpr) (B.2.2.2.1 _ k_1371) (B.2.2.2.1 _ k_1373) (B.2.2.2.1 _ ks_44) (B.2.2.2.1 _ k_2) ⟨by decide +kernel, by decide +kernel, by decide +kernel⟩ rfl d_Weaver_finish_41 rfl (Nat.le_of_ble_eq_true rfl) ⟨by decide, by decide⟩ ⟨by decide, by decide⟩ ⟨by decide, by decide⟩ (mv_noH hno _) (fun σ41 h41 => ?_)
    subst h41
    refine mv_gen (fun S44 eS44 => ?_)
    have hR : Rw 145 (mv_r S44) := by rw [eS44]; exact hR
    have hV : WT 145 σ S44 := by rw [eS44]; exact hV.w 8 _ |>.wx _
    have hM2 : Mt (mv_a S44 24) := by rw [eS44]; exact hM2
    have hW2 : WN 145 48 S44 n th sl no := by rw [eS44]; exact hW2.of hP (OF.w (OF.w Fr.rf 8 v33) 7 3 |>.e 8 0 |>.e 10 0 |>.w 6 2)
    have hK : KX 145 S44 th s0 ns no bl bl 1 (mv_i σ 2 7 = 4 ∨ 0 ≤ (mv_i σ 2 9).toInt) := by rw [eS44]; exact hK.w hP (i := 8) (by omega) _ |>.wx hP _
    have hend : TP 145 48 σ S44 n sz a := ⟨hV, hM2, th, sl, no, hW2, by
      have t7 : (mv_i S44 3 7).toInt = a33.toInt := by rw [eS44]; exact t7
      have t8 : (mv_i S44 3 8).toInt = (mv_i σ 3 8).toInt - 1 := by rw [eS44]; exact t8
      have t9 : (mv_i S44 3 9).toInt = w33.toInt := by rw [eS44]; exact t9
      have e9 : mv_i S44 2 9 = mv_i σ 2 9 := by rw [eS44]; exact congrFun i2 9
      have e8 : mv_i S44 2 8 = v33 := by rw [eS44]; rfl
      have e7 : mv_i S44 2 7 = 3 := by rw [eS44]; rfl
      by_cases q : (mv_i S44 3 9).toInt < 0
      · refine Or.inr ⟨a + 2, by omega, Or.inr (Or.inr (Or.inl ⟨by rw [eS44]; rfl, ?_⟩))⟩
        refine WE.mk (s := s0) (ns := ns) (bs := 1) (bd := bl.length) (bl := bl) (ol := bl) hP (by omega) q (by omega) (by omega) (by omega) (by omega) (by omega) (fun _ => by omega) ?_ hM2 (by rw [eS44]; rfl) (by rw [eS44]; rfl) hne hK.1.1 hK.1.2.1 hK.1.2.2 (Or.inr (Or.inr (Or.inr (Or.inl ⟨e7, rfl, rfl, fun z => by rw [e9] at z ⊢; exact hgl1.2.2 z⟩)))) (Or.inl ⟨by rw [e7]; decide, rfl⟩) (Or.inr (by rw [e8]; exact ⟨y33.1, by omega⟩)) hK.2.1 hK.2.2.1 (fun z => ?_)
        · have : mv_a S44 4 = mv_a σ 4 := by rw [eS44]; exact kp
          rw [this]; exact Nat.le_trans hnc (nCd_mono _ (by omega))
        · obtain ⟨z1, z2⟩ := hK.2.2.2 z
          exact ⟨Or.inr (by rw [e9]; exact z1.resolve_left (fun y => by rw [hgl0] at y; exact absurd y (by decide))), z2⟩
      · exact Or.inl (by omega)⟩
    clear eS44
    exact mv_vret (pc := 44) B hr d_Weaver_finish_44 (Nat.le_refl _) (Nat.le_refl _) ⟨rfl, hend⟩
