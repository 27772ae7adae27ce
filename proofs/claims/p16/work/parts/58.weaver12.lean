/-! Weaver: statement, item, areApart -/
section MVLDCW
variable {p : Program} {l : Launch} {e : Env} {R : Room} {s : State} {m : MethodId} {args : Array Value} {below : List Frame} {meth : Method} {c : Code} {G : mv_G} {ws : List Cond} {own : String} {cc : ByteArray} {nL : Nat} {cells slots : Nat} {Q : State → Prop} {σ : mv_H} {pc : Nat} {L : List (Nat × Value)} {st : List Value}
theorem mv_ldcw (B : mv_B p s m args meth c G ws own cc nL) {index : Nat} {v : Int32} (hconst : (Jvm.Cond.constant own index v).before args s = true) (hdg : decode cc pc = .ok (.ldc_w index, 3)) (k : mv_V p l e R s m args below meth c G nL cells slots Q σ (pc + 3) L (.int v :: st)) : mv_V p l e R s m args below meth c G nL cells slots Q σ pc L st := fun H locs ls h1 h2 h3 => lv_ldcw B.1.1 B.1.2 B.2.2.1 hconst hdg (k H locs ls h1 h2 h3)
end MVLDCW
def y_Weaver_statement : MethodName := ⟨"MachineLoom$Weaver", "statement", "()V"⟩
abbrev b_Weaver_statement : ByteArray := prog_12_method_16_code
theorem kc_Weaver_statement : Cond.code y_Weaver_statement b_Weaver_statement 1 (Option.none : Option Jvm.ClassFile.FieldType) ∈ ma := ma_of (tb_6 _ (List.mem_of_getElem? (i := 166) rfl)) rfl
theorem k_1379 : (Jvm.Cond.methodLink "MachineLoom$Weaver" (269 : Nat) ({ cls := "MachineLoom$Weaver", name := "beginAssignment", desc := "()V" } : Jvm.MethodName)) ∈ ma := ma_of (tb_6 _ (List.mem_of_getElem? (i := 179) rfl)) rfl
theorem k_1381 : (Jvm.Cond.instanceMethod ({ cls := "MachineLoom$Weaver", name := "beginAssignment", desc := "()V" } : Jvm.MethodName)) ∈ ma := ma_of (tb_6 _ (List.mem_of_getElem? (i := 181) rfl)) rfl
theorem ks_45 : Cond.selects "MachineLoom$Weaver" ⟨"MachineLoom$Weaver", "beginAssignment", "()V"⟩ ⟨"MachineLoom$Weaver", "beginAssignment", "()V"⟩ ∈ ma := ma_sel 45 rfl rfl
theorem k_1392 : (Jvm.Cond.methodLink "MachineLoom$Weaver" (273 : Nat) ({ cls := "MachineLoom$Weaver", name := "closeBlock", desc := "()V" } : Jvm.MethodName)) ∈ ma := ma_of (tb_6 _ (List.mem_of_getElem? (i := 192) rfl)) rfl
theorem k_1394 : (Jvm.Cond.instanceMethod ({ cls := "MachineLoom$Weaver", name := "closeBlock", desc := "()V" } : Jvm.MethodName)) ∈ ma := ma_of (tb_6 _ (List.mem_of_getElem? (i := 194) rfl)) rfl
theorem ks_47 : Cond.selects "MachineLoom$Weaver" ⟨"MachineLoom$Weaver", "closeBlock", "()V"⟩ ⟨"MachineLoom$Weaver", "closeBlock", "()V"⟩ ∈ ma := ma_sel 47 rfl rfl
theorem k_1367 : (Jvm.Cond.methodLink "MachineLoom$Weaver" (266 : Nat) ({ cls := "MachineLoom$Weaver", name := "beginLet", desc := "()V" } : Jvm.MethodName)) ∈ ma := ma_of (tb_6 _ (List.mem_of_getElem? (i := 167) rfl)) rfl
theorem k_1369 : (Jvm.Cond.instanceMethod ({ cls := "MachineLoom$Weaver", name := "beginLet", desc := "()V" } : Jvm.MethodName)) ∈ ma := ma_of (tb_6 _ (List.mem_of_getElem? (i := 169) rfl)) rfl
theorem ks_43 : Cond.selects "MachineLoom$Weaver" ⟨"MachineLoom$Weaver", "beginLet", "()V"⟩ ⟨"MachineLoom$Weaver", "beginLet", "()V"⟩ ∈ ma := ma_sel 43 rfl rfl
theorem k_1383 : (Jvm.Cond.constant "MachineLoom$Weaver" (272 : Nat) (1000000 : Int32)) ∈ ma := ma_of (tb_6 _ (List.mem_of_getElem? (i := 183) rfl)) rfl
theorem k_1362 : (Jvm.Cond.methodLink "MachineLoom$Weaver" (174 : Nat) ({ cls := "MachineLoom$Tokens", name := "wrong", desc := "()V" } : Jvm.MethodName)) ∈ ma := ma_of (tb_6 _ (List.mem_of_getElem? (i := 162) rfl)) rfl
theorem d_Weaver_statement_0 : decode b_Weaver_statement 0 = .ok (.aload_n 0, 1) := by decide +kernel
theorem d_Weaver_statement_1 : decode b_Weaver_statement 1 = .ok (.getfield 12, 3) := by decide +kernel
theorem d_Weaver_statement_4 : decode b_Weaver_statement 4 = .ok (.invokevirtual 159, 3) := by decide +kernel
theorem d_Weaver_statement_7 : decode b_Weaver_statement 7 = .ok (.lookupswitch (129) #[(3, 56), (125, 122), (207, 49), (208, 63), (209, 114)], 49) := by decide +kernel
theorem d_Weaver_statement_56 : decode b_Weaver_statement 56 = .ok (.aload_n 0, 1) := by decide +kernel
theorem d_Weaver_statement_57 : decode b_Weaver_statement 57 = .ok (.invokevirtual 266, 3) := by decide +kernel
theorem d_Weaver_statement_60 : decode b_Weaver_statement 60 = .ok (.goto (83), 3) := by decide +kernel
theorem d_Weaver_statement_63 : decode b_Weaver_statement 63 = .ok (.aload_n 0, 1) := by decide +kernel
theorem d_Weaver_statement_64 : decode b_Weaver_statement 64 = .ok (.invokevirtual 269, 3) := by decide +kernel
theorem d_Weaver_statement_67 : decode b_Weaver_statement 67 = .ok (.goto (76), 3) := by decide +kernel
theorem d_Weaver_statement_70 : decode b_Weaver_statement 70 = .ok (.aload_n 0, 1) := by decide +kernel
theorem d_Weaver_statement_71 : decode b_Weaver_statement 71 = .ok (.getfield 12, 3) := by decide +kernel
theorem d_Weaver_statement_74 : decode b_Weaver_statement 74 = .ok (.sipush 208, 3) := by decide +kernel
theorem d_Weaver_statement_77 : decode b_Weaver_statement 77 = .ok (.invokevirtual 143, 3) := by decide +kernel
theorem d_Weaver_statement_80 : decode b_Weaver_statement 80 = .ok (.pop, 1) := by decide +kernel
theorem d_Weaver_statement_81 : decode b_Weaver_statement 81 = .ok (.aload_n 0, 1) := by decide +kernel
theorem d_Weaver_statement_82 : decode b_Weaver_statement 82 = .ok (.getfield 113, 3) := by decide +kernel
theorem d_Weaver_statement_85 : decode b_Weaver_statement 85 = .ok (.sipush 316, 3) := by decide +kernel
theorem d_Weaver_statement_88 : decode b_Weaver_statement 88 = .ok (.aload_n 0, 1) := by decide +kernel
theorem d_Weaver_statement_89 : decode b_Weaver_statement 89 = .ok (.aload_n 0, 1) := by decide +kernel
theorem d_Weaver_statement_90 : decode b_Weaver_statement 90 = .ok (.getfield 12, 3) := by decide +kernel
theorem d_Weaver_statement_93 : decode b_Weaver_statement 93 = .ok (.iconst 4, 1) := by decide +kernel
theorem d_Weaver_statement_94 : decode b_Weaver_statement 94 = .ok (.invokevirtual 143, 3) := by decide +kernel
theorem d_Weaver_statement_97 : decode b_Weaver_statement 97 = .ok (.ldc_w 272, 3) := by decide +kernel
theorem d_Weaver_statement_100 : decode b_Weaver_statement 100 = .ok (.invokevirtual 177, 3) := by decide +kernel
theorem d_Weaver_statement_103 : decode b_Weaver_statement 103 = .ok (.i2l, 1) := by decide +kernel
theorem d_Weaver_statement_104 : decode b_Weaver_statement 104 = .ok (.invokevirtual 250, 3) := by decide +kernel
theorem d_Weaver_statement_107 : decode b_Weaver_statement 107 = .ok (.pop, 1) := by decide +kernel
theorem d_Weaver_statement_108 : decode b_Weaver_statement 108 = .ok (.aload_n 0, 1) := by decide +kernel
theorem d_Weaver_statement_109 : decode b_Weaver_statement 109 = .ok (.getfield 12, 3) := by decide +kernel
theorem d_Weaver_statement_112 : decode b_Weaver_statement 112 = .ok (.bipush 59, 2) := by decide +kernel
theorem d_Weaver_statement_114 : decode b_Weaver_statement 114 = .ok (.invokevirtual 143, 3) := by decide +kernel
theorem d_Weaver_statement_117 : decode b_Weaver_statement 117 = .ok (.pop, 1) := by decide +kernel
theorem d_Weaver_statement_118 : decode b_Weaver_statement 118 = .ok (.goto (25), 3) := by decide +kernel
theorem d_Weaver_statement_121 : decode b_Weaver_statement 121 = .ok (.aload_n 0, 1) := by decide +kernel
theorem d_Weaver_statement_122 : decode b_Weaver_statement 122 = .ok (.iconst (-1), 1) := by decide +kernel
theorem d_Weaver_statement_123 : decode b_Weaver_statement 123 = .ok (.invokevirtual 260, 3) := by decide +kernel
theorem d_Weaver_statement_126 : decode b_Weaver_statement 126 = .ok (.goto (17), 3) := by decide +kernel
theorem d_Weaver_statement_129 : decode b_Weaver_statement 129 = .ok (.aload_n 0, 1) := by decide +kernel
theorem d_Weaver_statement_130 : decode b_Weaver_statement 130 = .ok (.invokevirtual 273, 3) := by decide +kernel
theorem d_Weaver_statement_133 : decode b_Weaver_statement 133 = .ok (.goto (10), 3) := by decide +kernel
theorem d_Weaver_statement_136 : decode b_Weaver_statement 136 = .ok (.aload_n 0, 1) := by decide +kernel
theorem d_Weaver_statement_137 : decode b_Weaver_statement 137 = .ok (.getfield 12, 3) := by decide +kernel
theorem d_Weaver_statement_140 : decode b_Weaver_statement 140 = .ok (.invokevirtual 174, 3) := by decide +kernel
theorem d_Weaver_statement_143 : decode b_Weaver_statement 143 = .ok (.return_, 1) := by decide +kernel
set_option maxHeartbeats 4000000 in
set_option maxRecDepth 100000 in
theorem c_Weaver_statement_a (l : Launch) {dA : FieldType → ClassId} {D : va_G} {al : Nat → Nat} {ext : mv_Sh} {sk sv : Nat → Nat} (hi : mv_inj (mg dA D al ext)) (σ : mv_H) {t tn len n z sz th sl s0 a ns no : Nat} (hG : WG 32 32768 512 ext σ t tn len n z sz) (hM : Mt (mv_a σ 24)) (hW : WN 32 512 σ n th sl no) {bl : List Bk} (hS : WS 32 σ sz th s0 a ns no bl) (hne : ¬ bl = []) (hm1 : mv_i σ 2 6 = 1) : mv_C l y_Weaver_statement (Cond.code y_Weaver_statement b_Weaver_statement 1 (Option.none : Option Jvm.ClassFile.FieldType) :: ma) ({ frames := 5, cells := 0, slots := 0, locals := 108 }) (mg dA D al ext) (mK sk sv) [.ref (al 2)] σ (mv_Rv (fun σ1 => TP 32 512 σ σ1 n sz a)) := by
  refine mv_C.ofV (cc := b_Weaver_statement) (nL := 1) (ret := (Option.none : Option Jvm.ClassFile.FieldType)) (by decide +kernel) rfl hi (Nat.le_of_ble_eq_true rfl) ?_
  intro p e s m below meth c B hNs hr hnm hno
  have hP : PQ 32 := by unfold PQ; omega
  have hR := hG.1
  have ht2 := hG.2.1.2.2.2.2.2.2
  have hN : mv_i σ 21 0 = 0 → mv_i σ 21 0 = 0 := fun q => q
  have hE := hG.2.2.1
  have hsz := hE.2.2.2.2.2
  have hsz2 := hE.2.2.2.1
  have hlen := hG.2.2.2.2.1
  have hlen2 := hG.2.2.2.2.2
  have t7 := hS.1.1
  have hw9 := hS.1.2.1
  have ha9 := hS.1.2.2.2.2.1
  have t9 : (mv_i σ 3 9).toInt = (mv_i σ 3 9).toInt := rfl
  have t8 : (mv_i σ 3 8).toInt = (mv_i σ 3 8).toInt := rfl
  have kp : mv_a σ 4 = mv_a σ 4 := rfl
  have k6 : mv_b σ 6 = mv_b σ 6 := rfl
  have hs5 := hS.1.2.2.2.2.2.1
  have hs6 := hS.1.2.2.2.2.2.2.1
  have hd8 := hS.1.2.2.1
  have hd9 := hS.1.2.2.2.1
  have hV : WT 32 σ σ := WT0
  have hM2 := hM
  have hW2 := hW
  have hK := hS.kx
  have m1 := hm1
  have hnc := hS.1.2.2.2.2.2.2.2
  refine mv_aload_n (pc := 0) B d_Weaver_statement_0 rfl 0 rfl ?_
  refine mv_getR (pc := 1) (ci := 1) (C := R_Weaver) (T := F_Weaver) (N := 16) B 0 rfl rfl (by decide) i_Weaver (B.2.2.2.1 _ k_228) rfl (hR.1 _ 0 _ rfl) d_Weaver_statement_1 ?_
  refine mv_callVi (pc := 4) (n := 0) (ci := 2) (C := R_Tokens) B (mK_ok sk sv) hNs rfl rfl (c_Tokens_kind l hi _ hR.1 (i32_in (by omega) (by omega))) rfl (ma_goodc kc_Tokens_kind) (B.2.2.2.1 _ k_1299) (B.2.2.2.1 _ k_1271) (B.2.2.2.1 _ k_1272) (B.2.2.2.1 _ k_3) ⟨by decide +kernel, by decide +kernel, by decide +kernel⟩ rfl d_Weaver_statement_4 rfl (Nat.le_of_ble_eq_true rfl) ⟨by decide, by decide⟩ ⟨by decide, by decide⟩ ⟨by decide, by decide⟩ (mv_noH hno _) (fun v4 σ4 h4 => ?_)
  obtain ⟨e4, z4⟩ := h4
  have e4 := e4.symm
  subst e4
  have hk3 : mv_a σ 4 (mv_i σ 3 7).toNatClampNeg = v4 := (z4.trans (if_pos (lt0.mpr hw9))).symm
  clear z4
  refine mv_lsw (pc := 7) B d_Weaver_statement_7 (by decide) (by decide) ?_
  refine ⟨fun h7 => ?_, fun h7n3 => ?_⟩
  · skip
    have h7 : v4 = 3 := Int32.toInt_inj.mp (show v4.toInt = (3 : Int32).toInt from h7)
    rw [h7] at hk3
    refine mv_aload_n (pc := 63) B d_Weaver_statement_63 rfl 0 rfl ?_
    refine mv_callVv (pc := 64) (n := 0) (ci := 1) (C := R_Weaver) B (mK_ok sk sv) hNs rfl rfl (c_Weaver_beginAssignment_a l hi _ hG hM hW hS hne hk3) rfl (ma_goodc kc_Weaver_beginAssignment) (B.2.2.2.1 _ k_1379) (B.2.2.2.1 _ k_1381) (B.2.2.2.1 _ ks_45) (B.2.2.2.1 _ k_2) ⟨by decide +kernel, by decide +kernel, by decide +kernel⟩ rfl d_Weaver_statement_64 rfl (Nat.le_of_ble_eq_true rfl) ⟨by decide, by decide⟩ ⟨by decide, by decide⟩ ⟨by decide, by decide⟩ (mv_noH hno _) (fun σ64 h64 => ?_)
    have hend := h64
    refine mv_goto (pc := 67) (tgt := 143) B d_Weaver_statement_67 rfl ?_
    exact mv_vret (pc := 143) B hr d_Weaver_statement_143 (Nat.le_refl _) (Nat.le_refl _) ⟨rfl, hend⟩
  refine ⟨fun h7 => ?_, fun h7n125 => ?_⟩
  · skip
    have h7 : v4 = 125 := Int32.toInt_inj.mp (show v4.toInt = (125 : Int32).toInt from h7)
    rw [h7] at hk3
    obtain ⟨b9, r9, ebl⟩ : ∃ b r, bl = b :: r := by cases bl with | nil => exact absurd rfl hne | cons b r => exact ⟨b, r, rfl⟩
    obtain ⟨u9, ex9⟩ := b9
    subst ebl
    refine mv_aload_n (pc := 129) B d_Weaver_statement_129 rfl 0 rfl ?_
    refine mv_callVv (pc := 130) (n := 0) (ci := 1) (C := R_Weaver) B (mK_ok sk sv) hNs rfl rfl (c_Weaver_closeBlock_a l hi _ _ _ _ hG hM hW hS hm1 hk3) rfl (ma_goodc kc_Weaver_closeBlock) (B.2.2.2.1 _ k_1392) (B.2.2.2.1 _ k_1394) (B.2.2.2.1 _ ks_47) (B.2.2.2.1 _ k_2) ⟨by decide +kernel, by decide +kernel, by decide +kernel⟩ rfl d_Weaver_statement_130 rfl (Nat.le_of_ble_eq_true rfl) ⟨by decide, by decide⟩ ⟨by decide, by decide⟩ ⟨by decide, by decide⟩ (mv_noH hno _) (fun σ130 h130 => ?_)
    have hend := h130
    refine mv_goto (pc := 133) (tgt := 143) B d_Weaver_statement_133 rfl ?_
    exact mv_vret (pc := 143) B hr d_Weaver_statement_143 (Nat.le_refl _) (Nat.le_refl _) ⟨rfl, hend⟩
  refine ⟨fun h7 => ?_, fun h7n207 => ?_⟩
  · skip
    have h7 : v4 = 207 := Int32.toInt_inj.mp (show v4.toInt = (207 : Int32).toInt from h7)
    rw [h7] at hk3
    refine mv_aload_n (pc := 56) B d_Weaver_statement_56 rfl 0 rfl ?_
    refine mv_callVv (pc := 57) (n := 0) (ci := 1) (C := R_Weaver) B (mK_ok sk sv) hNs rfl rfl (c_Weaver_beginLet_a l hi _ hG hM hW hS hne hk3) rfl (ma_goodc kc_Weaver_beginLet) (B.2.2.2.1 _ k_1367) (B.2.2.2.1 _ k_1369) (B.2.2.2.1 _ ks_43) (B.2.2.2.1 _ k_2) ⟨by decide +kernel, by decide +kernel, by decide +kernel⟩ rfl d_Weaver_statement_57 rfl (Nat.le_of_ble_eq_true rfl) ⟨by decide, by decide⟩ ⟨by decide, by decide⟩ ⟨by decide, by decide⟩ (mv_noH hno _) (fun σ57 h57 => ?_)
    have hend := h57
    refine mv_goto (pc := 60) (tgt := 143) B d_Weaver_statement_60 rfl ?_
    exact mv_vret (pc := 143) B hr d_Weaver_statement_143 (Nat.le_refl _) (Nat.le_refl _) ⟨rfl, hend⟩
  refine ⟨fun h7 => ?_, fun h7n208 => ?_⟩
  · skip
    have h7 : v4 = 208 := Int32.toInt_inj.mp (show v4.toInt = (208 : Int32).toInt from h7)
    rw [h7] at hk3
    refine mv_aload_n (pc := 70) B d_Weaver_statement_70 rfl 0 rfl ?_
    refine mv_getR (pc := 71) (ci := 1) (C := R_Weaver) (T := F_Weaver) (N := 16) B 0 rfl rfl (by decide) i_Weaver (B.2.2.2.1 _ k_228) rfl (hR.1 _ 0 _ rfl) d_Weaver_statement_71 ?_
    refine mv_sipush (pc := 74) (v := 208) B d_Weaver_statement_74 (by decide) ?_
    refine mv_callVi (pc := 77) (n := 1) (ci := 2) (C := R_Tokens) B (mK_ok sk sv) hNs rfl rfl (c_Tokens_takeN l hi _ _ hR.1 (hG.2.2.1.wt hV hP ht2) (by omega) (by omega) (by decide)) rfl (ma_goodc kc_Tokens_take) (B.2.2.2.1 _ k_1266) (B.2.2.2.1 _ k_1267) (B.2.2.2.1 _ k_1268) (B.2.2.2.1 _ k_3) ⟨by decide +kernel, by decide +kernel, by decide +kernel⟩ rfl d_Weaver_statement_77 rfl (Nat.le_of_ble_eq_true rfl) ⟨by decide, by decide⟩ ⟨by decide, by decide⟩ ⟨by decide, by decide⟩ (mv_noH hno _) (fun v77 σ77 h77 => ?_)
    obtain ⟨a77, w77, e77, r77⟩ := h77
    have q77 := r77.1
    have z77 := fun q => (r77.2.1 q).1
    have y77 := And.intro r77.2.2.2.1 r77.2.2.2.2.1
    subst e77
    have hw77 := r77.2.2.1 hw9 hk3 trivial
    refine mv_gen (fun S80 eS80 => ?_)
    have hR : Rw 32 (mv_r S80) := by rw [eS80]; exact hR
    have hV : WT 32 σ S80 := by rw [eS80]; exact hV.tk3 _ _ _
    have hM2 : Mt (mv_a S80 24) := by rw [eS80]; exact hM2
    have hW2 : WN 32 512 S80 n th sl no := by rw [eS80]; exact hW2.of hP (OF.tk3 Fr.rf _ _ _)
    have hK : KX 32 S80 th s0 ns no bl bl 0 True := by rw [eS80]; exact hK.tok hP _ _ _
    have m1 : mv_i S80 2 6 = 1 := by rw [eS80]; exact m1
    have t7 : (mv_i S80 3 7).toInt = a77.toInt := by rw [eS80]; rfl
    have t8 : (mv_i S80 3 8).toInt = (mv_i σ 3 8).toInt := by rw [eS80]; exact t8
    have t9 : (mv_i S80 3 9).toInt = w77.toInt := by rw [eS80]; rfl
    have kp := Eq.trans (show mv_a S80 4 = mv_a _ 4 by rw [eS80]; rfl) kp
    clear eS80
    refine mv_pop (pc := 80) B d_Weaver_statement_80 rfl ?_
    refine mv_aload_n (pc := 81) B d_Weaver_statement_81 rfl 0 rfl ?_
    refine mv_getR (pc := 82) (ci := 1) (C := R_Weaver) (T := F_Weaver) (N := 16) B 5 rfl rfl (by decide) i_Weaver (B.2.2.2.1 _ k_235) rfl hR.2.2.1 d_Weaver_statement_82 ?_
    refine mv_sipush (pc := 85) (v := 316) B d_Weaver_statement_85 (by decide) ?_
    refine mv_aload_n (pc := 88) B d_Weaver_statement_88 rfl 0 rfl ?_
    refine mv_aload_n (pc := 89) B d_Weaver_statement_89 rfl 0 rfl ?_
    refine mv_getR (pc := 90) (ci := 1) (C := R_Weaver) (T := F_Weaver) (N := 16) B 0 rfl rfl (by decide) i_Weaver (B.2.2.2.1 _ k_228) rfl (hR.1 _ 0 _ rfl) d_Weaver_statement_90 ?_
    refine mv_iconst (pc := 93) (v := 4) B d_Weaver_statement_93 (by decide) ?_
    refine mv_callVi (pc := 94) (n := 1) (ci := 2) (C := R_Tokens) B (mK_ok sk sv) hNs rfl rfl (c_Tokens_takeN l hi _ _ hR.1 (hG.2.2.1.wt hV hP ht2) (by omega) (by omega) (by decide)) rfl (ma_goodc kc_Tokens_take) (B.2.2.2.1 _ k_1266) (B.2.2.2.1 _ k_1267) (B.2.2.2.1 _ k_1268) (B.2.2.2.1 _ k_3) ⟨by decide +kernel, by decide +kernel, by decide +kernel⟩ rfl d_Weaver_statement_94 rfl (Nat.le_of_ble_eq_true rfl) ⟨by decide, by decide⟩ ⟨by decide, by decide⟩ ⟨by decide, by decide⟩ (mv_noH hno _) (fun v94 σ94 h94 => ?_)
    obtain ⟨a94, w94, e94, r94⟩ := h94
    have q94 := r94.1
    have z94 := fun q => (r94.2.1 q).1
    have y94 := And.intro r94.2.2.2.1 r94.2.2.2.2.1
    subst e94
    refine mv_gen (fun S97 eS97 => ?_)
    have hR : Rw 32 (mv_r S97) := by rw [eS97]; exact hR
    have hV : WT 32 σ S97 := by rw [eS97]; exact hV.tk3 _ _ _
    have hM2 : Mt (mv_a S97 24) := by rw [eS97]; exact hM2
    have hW2 : WN 32 512 S97 n th sl no := by rw [eS97]; exact hW2.of hP (OF.tk3 Fr.rf _ _ _)
    have hK : KX 32 S97 th s0 ns no bl bl 0 True := by rw [eS97]; exact hK.tok hP _ _ _
    have m1 : mv_i S97 2 6 = 1 := by rw [eS97]; exact m1
    have t7 : (mv_i S97 3 7).toInt = a94.toInt := by rw [eS97]; rfl
    have t8 : (mv_i S97 3 8).toInt = (mv_i σ 3 8).toInt := by rw [eS97]; exact t8
    have t9 : (mv_i S97 3 9).toInt = w94.toInt := by rw [eS97]; rfl
    have kp := Eq.trans (show mv_a S97 4 = mv_a _ 4 by rw [eS97]; rfl) kp
    clear eS97
    refine mv_ldcw (pc := 97) (v := 1000000) B (B.2.2.2.1 _ k_1383) d_Weaver_statement_97 ?_
    refine mv_callVi (pc := 100) (n := 2) (ci := 1) (C := R_Weaver) B (mK_ok sk sv) hNs rfl rfl (c_Weaver_numberUpTo l hi _ _ _ hR.1 y94.1 (by omega) (by decide)) rfl (ma_goodc kc_Weaver_numberUpTo) (B.2.2.2.1 _ k_1304) (B.2.2.2.1 _ k_1306) (B.2.2.2.1 _ ks_35) (B.2.2.2.1 _ k_2) ⟨by decide +kernel, by decide +kernel, by decide +kernel⟩ rfl d_Weaver_statement_100 rfl (Nat.le_of_ble_eq_true rfl) ⟨by decide, by decide⟩ ⟨by decide, by decide⟩ ⟨by decide, by decide⟩ (mv_noH hno _) (fun v100 σ100 h100 => ?_)
    obtain ⟨x9, y9, e100, z100, u100⟩ := num_n (by decide) h100
    subst e100
    refine mv_gen (fun S103 eS103 => ?_)
    have hR : Rw 32 (mv_r S103) := by rw [eS103]; exact hR
    have hV : WT 32 σ S103 := by rw [eS103]; exact hV.tell _ _
    have hM2 : Mt (mv_a S103 24) := by rw [eS103]; exact hM2
    have hW2 : WN 32 512 S103 n th sl no := by rw [eS103]; exact hW2.of hP (OF.tell Fr.rf _ _)
    have hK : KX 32 S103 th s0 ns no bl bl 0 True := by rw [eS103]; exact hK.tell hP z100 _
    have m1 : mv_i S103 2 6 = 1 := by rw [eS103]; exact m1
    have t7 := Eq.trans (congrArg Int32.toInt (show mv_i S103 3 7 = mv_i _ 3 7 by rw [eS103]; rfl)) t7
    have t8 := Eq.trans (congrArg Int32.toInt (show mv_i S103 3 8 = mv_i _ 3 8 by rw [eS103]; rfl)) t8
    have t9 := Eq.trans (congrArg Int32.toInt (show mv_i S103 3 9 = mv_i _ 3 9 by rw [eS103]; rfl)) t9
    have kp := Eq.trans (show mv_a S103 4 = mv_a _ 4 by rw [eS103]; rfl) kp
    clear eS103
    refine mv_i2l (pc := 103) B d_Weaver_statement_103 ?_
    refine mv_callVi (pc := 104) (n := 2) (ci := 7) (C := R_Program) B (mK_ok sk sv) hNs rfl rfl (c_Program_emit_a l hi _ _ _ hR.2.1 (by have := hK.2.1; omega) (by have := hK.2.1; omega)) rfl (ma_goodc kc_Program_emit) (B.2.2.2.1 _ k_1384) (B.2.2.2.1 _ k_1385) (B.2.2.2.1 _ k_1386) (B.2.2.2.1 _ k_8) ⟨by decide +kernel, by decide +kernel, by decide +kernel⟩ rfl d_Weaver_statement_104 rfl (Nat.le_of_ble_eq_true rfl) ⟨by decide, by decide⟩ ⟨by decide, by decide⟩ ⟨by decide, by decide⟩ (mv_noH hno _) (fun v104 σ104 h104 => ?_)
    obtain ⟨e104, -⟩ := h104
    subst e104
    refine mv_gen (fun S107 eS107 => ?_)
    have hR : Rw 32 (mv_r S107) := by rw [eS107]; exact hR
    have hV : WT 32 σ S107 := by rw [eS107]; exact hV.emit _ _
    have hM2 : Mt (mv_a S107 24) := by rw [eS107]; exact hM2
    have hW2 : WN 32 512 S107 n th sl no := by rw [eS107]; exact hW2.of hP (OF.emit Fr.rf _ _)
    have hK : KX 32 S107 th (s0 + 1) ns no bl bl 0 True := by rw [eS107]; exact hK.trap hP (by omega)
    have m1 : mv_i S107 2 6 = 1 := by rw [eS107]; exact m1
    have t7 := Eq.trans (congrArg Int32.toInt (show mv_i S107 3 7 = mv_i _ 3 7 by rw [eS107]; rfl)) t7
    have t8 := Eq.trans (congrArg Int32.toInt (show mv_i S107 3 8 = mv_i _ 3 8 by rw [eS107]; rfl)) t8
    have t9 := Eq.trans (congrArg Int32.toInt (show mv_i S107 3 9 = mv_i _ 3 9 by rw [eS107]; rfl)) t9
    have kp := Eq.trans (show mv_a S107 4 = mv_a _ 4 by rw [eS107]; rfl) kp
    clear eS107
    refine mv_pop (pc := 107) B d_Weaver_statement_107 rfl ?_
    refine mv_aload_n (pc := 108) B d_Weaver_statement_108 rfl 0 rfl ?_
    refine mv_getR (pc := 109) (ci := 1) (C := R_Weaver) (T := F_Weaver) (N := 16) B 0 rfl rfl (by decide) i_Weaver (B.2.2.2.1 _ k_228) rfl (hR.1 _ 0 _ rfl) d_Weaver_statement_109 ?_
    refine mv_bipush (pc := 112) (v := 59) B d_Weaver_statement_112 (by decide) ?_
    refine mv_callVi (pc := 114) (n := 1) (ci := 2) (C := R_Tokens) B (mK_ok sk sv) hNs rfl rfl (c_Tokens_takeN l hi _ _ hR.1 (hG.2.2.1.wt hV hP ht2) (by omega) (by omega) (by decide)) rfl (ma_goodc kc_Tokens_take) (B.2.2.2.1 _ k_1266) (B.2.2.2.1 _ k_1267) (B.2.2.2.1 _ k_1268) (B.2.2.2.1 _ k_3) ⟨by decide +kernel, by decide +kernel, by decide +kernel⟩ rfl d_Weaver_statement_114 rfl (Nat.le_of_ble_eq_true rfl) ⟨by decide, by decide⟩ ⟨by decide, by decide⟩ ⟨by decide, by decide⟩ (mv_noH hno _) (fun v114 σ114 h114 => ?_)
    obtain ⟨a114, w114, e114, r114⟩ := h114
    have q114 := r114.1
    have z114 := fun q => (r114.2.1 q).1
    have y114 := And.intro r114.2.2.2.1 r114.2.2.2.2.1
    subst e114
    refine mv_gen (fun S117 eS117 => ?_)
    have hR : Rw 32 (mv_r S117) := by rw [eS117]; exact hR
    have hV : WT 32 σ S117 := by rw [eS117]; exact hV.tk3 _ _ _
    have hM2 : Mt (mv_a S117 24) := by rw [eS117]; exact hM2
    have hW2 : WN 32 512 S117 n th sl no := by rw [eS117]; exact hW2.of hP (OF.tk3 Fr.rf _ _ _)
    have hK : KX 32 S117 th (s0 + 1) ns no bl bl 0 True := by rw [eS117]; exact hK.tok hP _ _ _
    have m1 : mv_i S117 2 6 = 1 := by rw [eS117]; exact m1
    have t7 : (mv_i S117 3 7).toInt = a114.toInt := by rw [eS117]; rfl
    have t8 : (mv_i S117 3 8).toInt = (mv_i σ 3 8).toInt := by rw [eS117]; exact t8
    have t9 : (mv_i S117 3 9).toInt = w114.toInt := by rw [eS117]; rfl
    have kp := Eq.trans (show mv_a S117 4 = mv_a _ 4 by rw [eS117]; rfl) kp
    have hend : TP 32 512 σ S117 n sz a := ⟨hV, hM2, th, sl, no, hW2, by
      by_cases q : (mv_i S117 3 9).toInt < 0
      · exact Or.inr ⟨a + 3, by omega, Or.inr (Or.inl ⟨m1, s0 + 1, ns, bl, hne, hK.ws ⟨by omega, q, by omega, by omega, by omega, by omega, by omega, by rw [kp]; exact Nat.le_trans hnc (nCd_mono _ (by omega))⟩⟩)⟩
      · exact Or.inl (by omega)⟩
    clear eS117
    refine mv_pop (pc := 117) B d_Weaver_statement_117 rfl ?_
    refine mv_goto (pc := 118) (tgt := 143) B d_Weaver_statement_118 rfl ?_
    exact mv_vret (pc := 143) B hr d_Weaver_statement_143 (Nat.le_refl _) (Nat.le_refl _) ⟨rfl, hend⟩
  refine ⟨fun h7 => ?_, fun h7n209 => ?_⟩
  · skip
    have h7 : v4 = 209 := Int32.toInt_inj.mp (show v4.toInt = (209 : Int32).toInt from h7)
    rw [h7] at hk3
    refine mv_aload_n (pc := 121) B d_Weaver_statement_121 rfl 0 rfl ?_
    refine mv_iconst (pc := 122) (v := -1) B d_Weaver_statement_122 (by decide) ?_
    refine mv_callVv (pc := 123) (n := 1) (ci := 1) (C := R_Weaver) B (mK_ok sk sv) hNs rfl rfl (c_Weaver_beginIf_a l hi _ _ hG hM hW hS.x hne hk3) rfl (ma_goodc kc_Weaver_beginIf) (B.2.2.2.1 _ k_1388) (B.2.2.2.1 _ k_1390) (B.2.2.2.1 _ ks_46) (B.2.2.2.1 _ k_2) ⟨by decide +kernel, by decide +kernel, by decide +kernel⟩ rfl d_Weaver_statement_123 rfl (Nat.le_of_ble_eq_true rfl) ⟨by decide, by decide⟩ ⟨by decide, by decide⟩ ⟨by decide, by decide⟩ (mv_noH hno _) (fun σ123 h123 => ?_)
    have hend := h123
    refine mv_goto (pc := 126) (tgt := 143) B d_Weaver_statement_126 rfl ?_
    exact mv_vret (pc := 143) B hr d_Weaver_statement_143 (Nat.le_refl _) (Nat.le_refl _) ⟨rfl, hend⟩
  show mv_V _ _ _ _ _ _ _ _ _ _ _ _ _ _ _ _ 136 _ _
  refine mv_aload_n (pc := 136) B d_Weaver_statement_136 rfl 0 rfl ?_
  refine mv_getR (pc := 137) (ci := 1) (C := R_Weaver) (T := F_Weaver) (N := 16) B 0 rfl rfl (by decide) i_Weaver (B.2.2.2.1 _ k_228) rfl (hR.1 _ 0 _ rfl) d_Weaver_statement_137 ?_
  refine mv_callVv (pc := 140) (n := 0) (ci := 2) (C := R_Tokens) B (mK_ok sk sv) hNs rfl rfl (c_Tokens_wrongN l hi _ hR.1 hG.2.2.1 (by omega) (by omega)) rfl (ma_goodc kc_Tokens_wrong) (B.2.2.2.1 _ k_1362) (B.2.2.2.1 _ k_1275) (B.2.2.2.1 _ k_1276) (B.2.2.2.1 _ k_3) ⟨by decide +kernel, by decide +kernel, by decide +kernel⟩ rfl d_Weaver_statement_140 rfl (Nat.le_of_ble_eq_true rfl) ⟨by decide, by decide⟩ ⟨by decide, by decide⟩ ⟨by decide, by decide⟩ (mv_noH hno _) (fun σ140 h140 => ?_)
  obtain ⟨w18, e18, z18⟩ := h140
  subst e18
  have hend : TP 32 512 σ (tk3 σ (mv_i σ 3 7) (mv_i σ 3 8) w18) n sz a := ⟨WT0.tk3 _ _ _, hM, th, sl, no, hW.tk3 hP _ _ _, Or.inl z18⟩
  exact mv_vret (pc := 143) B hr d_Weaver_statement_143 (Nat.le_refl _) (Nat.le_refl _) ⟨rfl, hend⟩
set_option maxHeartbeats 4000000 in
set_option maxRecDepth 100000 in
theorem c_Weaver_statement_b (l : Launch) {dA : FieldType → ClassId} {D : va_G} {al : Nat → Nat} {ext : mv_Sh} {sk sv : Nat → Nat} (hi : mv_inj (mg dA D al ext)) (σ : mv_H) {t tn len n z sz th sl s0 a ns no : Nat} (hG : WG 48 32768 512 ext σ t tn len n z sz) (hM : Mt (mv_a σ 24)) (hW : WN 48 512 σ n th sl no) {bl : List Bk} (hS : WS 48 σ sz th s0 a ns no bl) (hne : ¬ bl = []) (hm1 : mv_i σ 2 6 = 1) : mv_C l y_Weaver_statement (Cond.code y_Weaver_statement b_Weaver_statement 1 (Option.none : Option Jvm.ClassFile.FieldType) :: ma) ({ frames := 5, cells := 0, slots := 0, locals := 108 }) (mg dA D al ext) (mK sk sv) [.ref (al 2)] σ (mv_Rv (fun σ1 => TP 48 512 σ σ1 n sz a)) := by
  refine mv_C.ofV (cc := b_Weaver_statement) (nL := 1) (ret := (Option.none : Option Jvm.ClassFile.FieldType)) (by decide +kernel) rfl hi (Nat.le_of_ble_eq_true rfl) ?_
  intro p e s m below meth c B hNs hr hnm hno
  have hP : PQ 48 := by unfold PQ; omega
  have hR := hG.1
  have ht2 := hG.2.1.2.2.2.2.2.2
  have hN : mv_i σ 21 0 = 0 → mv_i σ 21 0 = 0 := fun q => q
  have hE := hG.2.2.1
  have hsz := hE.2.2.2.2.2
  have hsz2 := hE.2.2.2.1
  have hlen := hG.2.2.2.2.1
  have hlen2 := hG.2.2.2.2.2
  have t7 := hS.1.1
  have hw9 := hS.1.2.1
  have ha9 := hS.1.2.2.2.2.1
  have t9 : (mv_i σ 3 9).toInt = (mv_i σ 3 9).toInt := rfl
  have t8 : (mv_i σ 3 8).toInt = (mv_i σ 3 8).toInt := rfl
  have kp : mv_a σ 4 = mv_a σ 4 := rfl
  have k6 : mv_b σ 6 = mv_b σ 6 := rfl
  have hs5 := hS.1.2.2.2.2.2.1
  have hs6 := hS.1.2.2.2.2.2.2.1
  have hd8 := hS.1.2.2.1
  have hd9 := hS.1.2.2.2.1
  have hV : WT 48 σ σ := WT0
  have hM2 := hM
  have hW2 := hW
  have hK := hS.kx
  have m1 := hm1
  have hnc := hS.1.2.2.2.2.2.2.2
  refine mv_aload_n (pc := 0) B d_Weaver_statement_0 rfl 0 rfl ?_
  refine mv_getR (pc := 1) (ci := 1) (C := R_Weaver) (T := F_Weaver) (N := 16) B 0 rfl rfl (by decide) i_Weaver (B.2.2.2.1 _ k_228) rfl (hR.1 _ 0 _ rfl) d_Weaver_statement_1 ?_
  refine mv_callVi (pc := 4) (n := 0) (ci := 2) (C := R_Tokens) B (mK_ok sk sv) hNs rfl rfl (c_Tokens_kind l hi _ hR.1 (i32_in (by omega) (by omega))) rfl (ma_goodc kc_Tokens_kind) (B.2.2.2.1 _ k_1299) (B.2.2.2.1 _ k_1271) (B.2.2.2.1 _ k_1272) (B.2.2.2.1 _ k_3) ⟨by decide +kernel, by decide +kernel, by decide +kernel⟩ rfl d_Weaver_statement_4 rfl (Nat.le_of_ble_eq_true rfl) ⟨by decide, by decide⟩ ⟨by decide, by decide⟩ ⟨by decide, by decide⟩ (mv_noH hno _) (fun v4 σ4 h4 => ?_)
  obtain ⟨e4, z4⟩ := h4
  have e4 := e4.symm
  subst e4
  have hk3 : mv_a σ 4 (mv_i σ 3 7).toNatClampNeg = v4 := (z4.trans (if_pos (lt0.mpr hw9))).symm
  clear z4
  refine mv_lsw (pc := 7) B d_Weaver_statement_7 (by decide) (by decide) ?_
  refine ⟨fun h7 => ?_, fun h7n3 => ?_⟩
  · skip
    have h7 : v4 = 3 := Int32.toInt_inj.mp (show v4.toInt = (3 : Int32).toInt from h7)
    rw [h7] at hk3
    refine mv_aload_n (pc := 63) B d_Weaver_statement_63 rfl 0 rfl ?_
    refine mv_callVv (pc := 64) (n := 0) (ci := 1) (C := R_Weaver) B (mK_ok sk sv) hNs rfl rfl (c_Weaver_beginAssignment_b l hi _ hG hM hW hS hne hk3) rfl (ma_goodc kc_Weaver_beginAssignment) (B.2.2.2.1 _ k_1379) (B.2.2.2.1 _ k_1381) (B.2.2.2.1 _ ks_45) (B.2.2.2.1 _ k_2) ⟨by decide +kernel, by decide +kernel, by decide +kernel⟩ rfl d_Weaver_statement_64 rfl (Nat.le_of_ble_eq_true rfl) ⟨by decide, by decide⟩ ⟨by decide, by decide⟩ ⟨by decide, by decide⟩ (mv_noH hno _) (fun σ64 h64 => ?_)
    have hend := h64
    refine mv_goto (pc := 67) (tgt := 143) B d_Weaver_statement_67 rfl ?_
    exact mv_vret (pc := 143) B hr d_Weaver_statement_143 (Nat.le_refl _) (Nat.le_refl _) ⟨rfl, hend⟩
  refine ⟨fun h7 => ?_, fun h7n125 => ?_⟩
  · skip
    have h7 : v4 = 125 := Int32.toInt_inj.mp (show v4.toInt = (125 : Int32).toInt from h7)
    rw [h7] at hk3
    obtain ⟨b9, r9, ebl⟩ : ∃ b r, bl = b :: r := by cases bl with | nil => exact absurd rfl hne | cons b r => exact ⟨b, r, rfl⟩
    obtain ⟨u9, ex9⟩ := b9
    subst ebl
    refine mv_aload_n (pc := 129) B d_Weaver_statement_129 rfl 0 rfl ?_
    refine mv_callVv (pc := 130) (n := 0) (ci := 1) (C := R_Weaver) B (mK_ok sk sv) hNs rfl rfl (c_Weaver_closeBlock_b l hi _ _ _ _ hG hM hW hS hm1 hk3) rfl (ma_goodc kc_Weaver_closeBlock) (B.2.2.2.1 _ k_1392) (B.2.2.2.1 _ k_1394) (B.2.2.2.1 _ ks_47) (B.2.2.2.1 _ k_2) ⟨by decide +kernel, by decide +kernel, by decide +kernel⟩ rfl d_Weaver_statement_130 rfl (Nat.le_of_ble_eq_true rfl) ⟨by decide, by decide⟩ ⟨by decide, by decide⟩ ⟨by decide, by decide⟩ (mv_noH hno _) (fun σ130 h130 => ?_)
    have hend := h130
    refine mv_goto (pc := 133) (tgt := 143) B d_Weaver_statement_133 rfl ?_
    exact mv_vret (pc := 143) B hr d_Weaver_statement_143 (Nat.le_refl _) (Nat.le_refl _) ⟨rfl, hend⟩
  refine ⟨fun h7 => ?_, fun h7n207 => ?_⟩
  · skip
    have h7 : v4 = 207 := Int32.toInt_inj.mp (show v4.toInt = (207 : Int32).toInt from h7)
    rw [h7] at hk3
    refine mv_aload_n (pc := 56) B d_Weaver_statement_56 rfl 0 rfl ?_
    refine mv_callVv (pc := 57) (n := 0) (ci := 1) (C := R_Weaver) B (mK_ok sk sv) hNs rfl rfl (c_Weaver_beginLet_b l hi _ hG hM hW hS hne hk3) rfl (ma_goodc kc_Weaver_beginLet) (B.2.2.2.1 _ k_1367) (B.2.2.2.1 _ k_1369) (B.2.2.2.1 _ ks_43) (B.2.2.2.1 _ k_2) ⟨by decide +kernel, by decide +kernel, by decide +kernel⟩ rfl d_Weaver_statement_57 rfl (Nat.le_of_ble_eq_true rfl) ⟨by decide, by decide⟩ ⟨by decide, by decide⟩ ⟨by decide, by decide⟩ (mv_noH hno _) (fun σ57 h57 => ?_)
    have hend := h57
    refine mv_goto (pc := 60) (tgt := 143) B d_Weaver_statement_60 rfl ?_
    exact mv_vret (pc := 143) B hr d_Weaver_statement_143 (Nat.le_refl _) (Nat.le_refl _) ⟨rfl, hend⟩
  refine ⟨fun h7 => ?_, fun h7n208 => ?_⟩
  · skip
    have h7 : v4 = 208 := Int32.toInt_inj.mp (show v4.toInt = (208 : Int32).toInt from h7)
    rw [h7] at hk3
    refine mv_aload_n (pc := 70) B d_Weaver_statement_70 rfl 0 rfl ?_
    refine mv_getR (pc := 71) (ci := 1) (C := R_Weaver) (T := F_Weaver) (N := 16) B 0 rfl rfl (by decide) i_Weaver (B.2.2.2.1 _ k_228) rfl (hR.1 _ 0 _ rfl) d_Weaver_statement_71 ?_
    refine mv_sipush (pc := 74) (v := 208) B d_Weaver_statement_74 (by decide) ?_
    refine mv_callVi (pc := 77) (n := 1) (ci := 2) (C := R_Tokens) B (mK_ok sk sv) hNs rfl rfl (c_Tokens_takeN l hi _ _ hR.1 (hG.2.2.1.wt hV hP ht2) (by omega) (by omega) (by decide)) rfl (ma_goodc kc_Tokens_take) (B.2.2.2.1 _ k_1266) (B.2.2.2.1 _ k_1267) (B.2.2.2.1 _ k_1268) (B.2.2.2.1 _ k_3) ⟨by decide +kernel, by decide +kernel, by decide +kernel⟩ rfl d_Weaver_statement_77 rfl (Nat.le_of_ble_eq_true rfl) ⟨by decide, by decide⟩ ⟨by decide, by decide⟩ ⟨by decide, by decide⟩ (mv_noH hno _) (fun v77 σ77 h77 => ?_)
    obtain ⟨a77, w77, e77, r77⟩ := h77
    have q77 := r77.1
    have z77 := fun q => (r77.2.1 q).1
    have y77 := And.intro r77.2.2.2.1 r77.2.2.2.2.1
    subst e77
    have hw77 := r77.2.2.1 hw9 hk3 trivial
    refine mv_gen (fun S80 eS80 => ?_)
    have hR : Rw 48 (mv_r S80) := by rw [eS80]; exact hR
    have hV : WT 48 σ S80 := by rw [eS80]; exact hV.tk3 _ _ _
    have hM2 : Mt (mv_a S80 24) := by rw [eS80]; exact hM2
    have hW2 : WN 48 512 S80 n th sl no := by rw [eS80]; exact hW2.of hP (OF.tk3 Fr.rf _ _ _)
    have hK : KX 48 S80 th s0 ns no bl bl 0 True := by rw [eS80]; exact hK.tok hP _ _ _
    have m1 : mv_i S80 2 6 = 1 := by rw [eS80]; exact m1
    have t7 : (mv_i S80 3 7).toInt = a77.toInt := by rw [eS80]; rfl
    have t8 : (mv_i S80 3 8).toInt = (mv_i σ 3 8).toInt := by rw [eS80]; exact t8
    have t9 : (mv_i S80 3 9).toInt = w77.toInt := by rw [eS80]; rfl
    have kp := Eq.trans (show mv_a S80 4 = mv_a _ 4 by rw [eS80]; rfl) kp
    clear eS80
    refine mv_pop (pc := 80) B d_Weaver_statement_80 rfl ?_
    refine mv_aload_n (pc := 81) B d_Weaver_statement_81 rfl 0 rfl ?_
    refine mv_getR (pc := 82) (ci := 1) (C := R_Weaver) (T := F_Weaver) (N := 16) B 5 rfl rfl (by decide) i_Weaver (B.2.2.2.1 _ k_235) rfl hR.2.2.1 d_Weaver_statement_82 ?_
    refine mv_sipush (pc := 85) (v := 316) B d_Weaver_statement_85 (by decide) ?_
    refine mv_aload_n (pc := 88) B d_Weaver_statement_88 rfl 0 rfl ?_
    refine mv_aload_n (pc := 89) B d_Weaver_statement_89 rfl 0 rfl ?_
    refine mv_getR (pc := 90) (ci := 1) (C := R_Weaver) (T := F_Weaver) (N := 16) B 0 rfl rfl (by decide) i_Weaver (B.2.2.2.1 _ k_228) rfl (hR.1 _ 0 _ rfl) d_Weaver_statement_90 ?_
    refine mv_iconst (pc := 93) (v := 4) B d_Weaver_statement_93 (by decide) ?_
    refine mv_callVi (pc := 94) (n := 1) (ci := 2) (C := R_Tokens) B (mK_ok sk sv) hNs rfl rfl (c_Tokens_takeN l hi _ _ hR.1 (hG.2.2.1.wt hV hP ht2) (by omega) (by omega) (by decide)) rfl (ma_goodc kc_Tokens_take) (B.2.2.2.1 _ k_1266) (B.2.2.2.1 _ k_1267) (B.2.2.2.1 _ k_1268) (B.2.2.2.1 _ k_3) ⟨by decide +kernel, by decide +kernel, by decide +kernel⟩ rfl d_Weaver_statement_94 rfl (Nat.le_of_ble_eq_true rfl) ⟨by decide, by decide⟩ ⟨by decide, by decide⟩ ⟨by decide, by decide⟩ (mv_noH hno _) (fun v94 σ94 h94 => ?_)
    obtain ⟨a94, w94, e94, r94⟩ := h94
    have q94 := r94.1
    have z94 := fun q => (r94.2.1 q).1
    have y94 := And.intro r94.2.2.2.1 r94.2.2.2.2.1
    subst e94
    refine mv_gen (fun S97 eS97 => ?_)
    have hR : Rw 48 (mv_r S97) := by rw [eS97]; exact hR
    have hV : WT 48 σ S97 := by rw [eS97]; exact hV.tk3 _ _ _
    have hM2 : Mt (mv_a S97 24) := by rw [eS97]; exact hM2
    have hW2 : WN 48 512 S97 n th sl no := by rw [eS97]; exact hW2.of hP (OF.tk3 Fr.rf _ _ _)
    have hK : KX 48 S97 th s0 ns no bl bl 0 True := by rw [eS97]; exact hK.tok hP _ _ _
    have m1 : mv_i S97 2 6 = 1 := by rw [eS97]; exact m1
    have t7 : (mv_i S97 3 7).toInt = a94.toInt := by rw [eS97]; rfl
    have t8 : (mv_i S97 3 8).toInt = (mv_i σ 3 8).toInt := by rw [eS97]; exact t8
    have t9 : (mv_i S97 3 9).toInt = w94.toInt := by rw [eS97]; rfl
    have kp := Eq.trans (show mv_a S97 4 = mv_a _ 4 by rw [eS97]; rfl) kp
    clear eS97
    refine mv_ldcw (pc := 97) (v := 1000000) B (B.2.2.2.1 _ k_1383) d_Weaver_statement_97 ?_
    refine mv_callVi (pc := 100) (n := 2) (ci := 1) (C := R_Weaver) B (mK_ok sk sv) hNs rfl rfl (c_Weaver_numberUpTo l hi _ _ _ hR.1 y94.1 (by omega) (by decide)) rfl (ma_goodc kc_Weaver_numberUpTo) (B.2.2.2.1 _ k_1304) (B.2.2.2.1 _ k_1306) (B.2.2.2.1 _ ks_35) (B.2.2.2.1 _ k_2) ⟨by decide +kernel, by decide +kernel, by decide +kernel⟩ rfl d_Weaver_statement_100 rfl (Nat.le_of_ble_eq_true rfl) ⟨by decide, by decide⟩ ⟨by decide, by decide⟩ ⟨by decide, by decide⟩ (mv_noH hno _) (fun v100 σ100 h100 => ?_)
    obtain ⟨x9, y9, e100, z100, u100⟩ := num_n (by decide) h100
    subst e100
    refine mv_gen (fun S103 eS103 => ?_)
    have hR : Rw 48 (mv_r S103) := by rw [eS103]; exact hR
    have hV : WT 48 σ S103 := by rw [eS103]; exact hV.tell _ _
    have hM2 : Mt (mv_a S103 24) := by rw [eS103]; exact hM2
    have hW2 : WN 48 512 S103 n th sl no := by rw [eS103]; exact hW2.of hP (OF.tell Fr.rf _ _)
    have hK : KX 48 S103 th s0 ns no bl bl 0 True := by rw [eS103]; exact hK.tell hP z100 _
    have m1 : mv_i S103 2 6 = 1 := by rw [eS103]; exact m1
    have t7 := Eq.trans (congrArg Int32.toInt (show mv_i S103 3 7 = mv_i _ 3 7 by rw [eS103]; rfl)) t7
    have t8 := Eq.trans (congrArg Int32.toInt (show mv_i S103 3 8 = mv_i _ 3 8 by rw [eS103]; rfl)) t8
    have t9 := Eq.trans (congrArg Int32.toInt (show mv_i S103 3 9 = mv_i _ 3 9 by rw [eS103]; rfl)) t9
    have kp := Eq.trans (show mv_a S103 4 = mv_a _ 4 by rw [eS103]; rfl) kp
    clear eS103
    refine mv_i2l (pc := 103) B d_Weaver_statement_103 ?_
    refine mv_callVi (pc := 104) (n := 2) (ci := 7) (C := R_Program) B (mK_ok sk sv) hNs rfl rfl (c_Program_emit_b l hi _ _ _ hR.2.1 (by have := hK.2.1; omega) (by have := hK.2.1; omega)) rfl (ma_goodc kc_Program_emit) (B.2.2.2.1 _ k_1384) (B.2.2.2.1 _ k_1385) (B.2.2.2.1 _ k_1386) (B.2.2.2.1 _ k_8) ⟨by decide +kernel, by decide +kernel, by decide +kernel⟩ rfl d_Weaver_statement_104 rfl (Nat.le_of_ble_eq_true rfl) ⟨by decide, by decide⟩ ⟨by decide, by decide⟩ ⟨by decide, by decide⟩ (mv_noH hno _) (fun v104 σ104 h104 => ?_)
    obtain ⟨e104, -⟩ := h104
    subst e104
    refine mv_gen (fun S107 eS107 => ?_)
    have hR : Rw 48 (mv_r S107) := by rw [eS107]; exact hR
    have hV : WT 48 σ S107 := by rw [eS107]; exact hV.emit _ _
    have hM2 : Mt (mv_a S107 24) := by rw [eS107]; exact hM2
    have hW2 : WN 48 512 S107 n th sl no := by rw [eS107]; exact hW2.of hP (OF.emit Fr.rf _ _)
    have hK : KX 48 S107 th (s0 + 1) ns no bl bl 0 True := by rw [eS107]; exact hK.trap hP (by omega)
    have m1 : mv_i S107 2 6 = 1 := by rw [eS107]; exact m1
    have t7 := Eq.trans (congrArg Int32.toInt (show mv_i S107 3 7 = mv_i _ 3 7 by rw [eS107]; rfl)) t7
    have t8 := Eq.trans (congrArg Int32.toInt (show mv_i S107 3 8 = mv_i _ 3 8 by rw [eS107]; rfl)) t8
    have t9 := Eq.trans (congrArg Int32.toInt (show mv_i S107 3 9 = mv_i _ 3 9 by rw [eS107]; rfl)) t9
    have kp := Eq.trans (show mv_a S107 4 = mv_a _ 4 by rw [eS107]; rfl) kp
    clear eS107
    refine mv_pop (pc := 107) B d_Weaver_statement_107 rfl ?_
    refine mv_aload_n (pc := 108) B d_Weaver_statement_108 rfl 0 rfl ?_
    refine mv_getR (pc := 109) (ci := 1) (C := R_Weaver) (T := F_Weaver) (N := 16) B 0 rfl rfl (by decide) i_Weaver (B.2.2.2.1 _ k_228) rfl (hR.1 _ 0 _ rfl) d_Weaver_statement_109 ?_
    refine mv_bipush (pc := 112) (v := 59) B d_Weaver_statement_112 (by decide) ?_
    refine mv_callVi (pc := 114) (n := 1) (ci := 2) (C := R_Tokens) B (mK_ok sk sv) hNs rfl rfl (c_Tokens_takeN l hi _ _ hR.1 (hG.2.2.1.wt hV hP ht2) (by omega) (by omega) (by decide)) rfl (ma_goodc kc_Tokens_take) (B.2.2.2.1 _ k_1266) (B.2.2.2.1 _ k_1267) (B.2.2.2.1 _ k_1268) (B.2.2.2.1 _ k_3) ⟨by decide +kernel, by decide +kernel, by decide +kernel⟩ rfl d_Weaver_statement_114 rfl (Nat.le_of_ble_eq_true rfl) ⟨by decide, by decide⟩ ⟨by decide, by decide⟩ ⟨by decide, by decide⟩ (mv_noH hno _) (fun v114 σ114 h114 => ?_)
    obtain ⟨a114, w114, e114, r114⟩ := h114
    have q114 := r114.1
    have z114 := fun q => (r114.2.1 q).1
    have y114 := And.intro r114.2.2.2.1 r114.2.2.2.2.1
    subst e114
    refine mv_gen (fun S117 eS117 => ?_)
    have hR : Rw 48 (mv_r S117) := by rw [eS117]; exact hR
    have hV : WT 48 σ S117 := by rw [eS117]; exact hV.tk3 _ _ _
    have hM2 : Mt (mv_a S117 24) := by rw [eS117]; exact hM2
    have hW2 : WN 48 512 S117 n th sl no := by rw [eS117]; exact hW2.of hP (OF.tk3 Fr.rf _ _ _)
    have hK : KX 48 S117 th (s0 + 1) ns no bl bl 0 True := by rw [eS117]; exact hK.tok hP _ _ _
    have m1 : mv_i S117 2 6 = 1 := by rw [eS117]; exact m1
    have t7 : (mv_i S117 3 7).toInt = a114.toInt := by rw [eS117]; rfl
    have t8 : (mv_i S117 3 8).toInt = (mv_i σ 3 8).toInt := by rw [eS117]; exact t8
    have t9 : (mv_i S117 3 9).toInt = w114.toInt := by rw [eS117]; rfl
    have kp := Eq.trans (show mv_a S117 4 = mv_a _ 4 by rw [eS117]; rfl) kp
    have hend : TP 48 512 σ S117 n sz a := ⟨hV, hM2, th, sl, no, hW2, by
      by_cases q : (mv_i S117 3 9).toInt < 0
      · exact Or.inr ⟨a + 3, by omega, Or.inr (Or.inl ⟨m1, s0 + 1, ns, bl, hne, hK.ws ⟨by omega, q, by omega, by omega, by omega, by omega, by omega, by rw [kp]; exact Nat.le_trans hnc (nCd_mono _ (by omega))⟩⟩)⟩
      · exact Or.inl (by omega)⟩
    clear eS117
    refine mv_pop (pc := 117) B d_Weaver_statement_117 rfl ?_
    refine mv_goto (pc := 118) (tgt := 143) B d_Weaver_statement_118 rfl ?_
    exact mv_vret (pc := 143) B hr d_Weaver_statement_143 (Nat.le_refl _) (Nat.le_refl _) ⟨rfl, hend⟩
  refine ⟨fun h7 => ?_, fun h7n209 => ?_⟩
  · skip
    have h7 : v4 = 209 := Int32.toInt_inj.mp (show v4.toInt = (209 : Int32).toInt from h7)
    rw [h7] at hk3
    refine mv_aload_n (pc := 121) B d_Weaver_statement_121 rfl 0 rfl ?_
    refine mv_iconst (pc := 122) (v := -1) B d_Weaver_statement_122 (by decide) ?_
    refine mv_callVv (pc := 123) (n := 1) (ci := 1) (C := R_Weaver) B (mK_ok sk sv) hNs rfl rfl (c_Weaver_beginIf_b l hi _ _ hG hM hW hS.x hne hk3) rfl (ma_goodc kc_Weaver_beginIf) (B.2.2.2.1 _ k_1388) (B.2.2.2.1 _ k_1390) (B.2.2.2.1 _ ks_46) (B.2.2.2.1 _ k_2) ⟨by decide +kernel, by decide +kernel, by decide +kernel⟩ rfl d_Weaver_statement_123 rfl (Nat.le_of_ble_eq_true rfl) ⟨by decide, by decide⟩ ⟨by decide, by decide⟩ ⟨by decide, by decide⟩ (mv_noH hno _) (fun σ123 h123 => ?_)
    have hend := h123
    refine mv_goto (pc := 126) (tgt := 143) B d_Weaver_statement_126 rfl ?_
    exact mv_vret (pc := 143) B hr d_Weaver_statement_143 (Nat.le_refl _) (Nat.le_refl _) ⟨rfl, hend⟩
  show mv_V _ _ _ _ _ _ _ _ _ _ _ _ _ _ _ _ 136 _ _
  refine mv_aload_n (pc := 136) B d_Weaver_statement_136 rfl 0 rfl ?_
  refine mv_getR (pc := 137) (ci := 1) (C := R_Weaver) (T := F_Weaver) (N := 16) B 0 rfl rfl (by decide) i_Weaver (B.2.2.2.1 _ k_228) rfl (hR.1 _ 0 _ rfl) d_Weaver_statement_137 ?_
  refine mv_callVv (pc := 140) (n := 0) (ci := 2) (C := R_Tokens) B (mK_ok sk sv) hNs rfl rfl (c_Tokens_wrongN l hi _ hR.1 hG.2.2.1 (by omega) (by omega)) rfl (ma_goodc kc_Tokens_wrong) (B.2.2.2.1 _ k_1362) (B.2.2.2.1 _ k_1275) (B.2.2.2.1 _ k_1276) (B.2.2.2.1 _ k_3) ⟨by decide +kernel, by decide +kernel, by decide +kernel⟩ rfl d_Weaver_statement_140 rfl (Nat.le_of_ble_eq_true rfl) ⟨by decide, by decide⟩ ⟨by decide, by decide⟩ ⟨by decide, by decide⟩ (mv_noH hno _) (fun σ140 h140 => ?_)
  obtain ⟨w18, e18, z18⟩ := h140
  subst e18
  have hend : TP 48 512 σ (tk3 σ (mv_i σ 3 7) (mv_i σ 3 8) w18) n sz a := ⟨WT0.tk3 _ _ _, hM, th, sl, no, hW.tk3 hP _ _ _, Or.inl z18⟩
  exact mv_vret (pc := 143) B hr d_Weaver_statement_143 (Nat.le_refl _) (Nat.le_refl _) ⟨rfl, hend⟩
set_option maxHeartbeats 4000000 in
set_option maxRecDepth 100000 in
theorem c_Weaver_statement_c (l : Launch) {dA : FieldType → ClassId} {D : va_G} {al : Nat → Nat} {sk sv : Nat → Nat} (hi : mv_inj (mg dA D al me)) (σ : mv_H) {t tn len n z sz th sl s0 a ns no : Nat} (hG : WG 145 8192 48 me σ t tn len n z sz) (hM : Mt (mv_a σ 24)) (hW : WN 145 48 σ n th sl no) {bl : List Bk} (hS : WS 145 σ sz th s0 a ns no bl) (hne : ¬ bl = []) (hm1 : mv_i σ 2 6 = 1) : mv_C l y_Weaver_statement (Cond.code y_Weaver_statement b_Weaver_statement 1 (Option.none : Option Jvm.ClassFile.FieldType) :: ma) ({ frames := 5, cells := 0, slots := 0, locals := 108 }) (mg dA D al me) (mK sk sv) [.ref (al 2)] σ (mv_Rv (fun σ1 => TP 145 48 σ σ1 n sz a)) := by
  refine mv_C.ofV (cc := b_Weaver_statement) (nL := 1) (ret := (Option.none : Option Jvm.ClassFile.FieldType)) (by decide +kernel) rfl hi (Nat.le_of_ble_eq_true rfl) ?_
  intro p e s m below meth c B hNs hr hnm hno
  have hP : PQ 145 := by unfold PQ; omega
  have hR := hG.1
  have ht2 := hG.2.1.2.2.2.2.2.2
  have hN : mv_i σ 21 0 = 0 → mv_i σ 21 0 = 0 := fun q => q
  have hE := hG.2.2.1
  have hsz := hE.2.2.2.2.2
  have hsz2 := hE.2.2.2.1
  have hlen := hG.2.2.2.2.1
  have hlen2 := hG.2.2.2.2.2
  have t7 := hS.1.1
  have hw9 := hS.1.2.1
  have ha9 := hS.1.2.2.2.2.1
  have t9 : (mv_i σ 3 9).toInt = (mv_i σ 3 9).toInt := rfl
  have t8 : (mv_i σ 3 8).toInt = (mv_i σ 3 8).toInt := rfl
  have kp : mv_a σ 4 = mv_a σ 4 := rfl
  have k6 : mv_b σ 6 = mv_b σ 6 := rfl
  have hs5 := hS.1.2.2.2.2.2.1
  have hs6 := hS.1.2.2.2.2.2.2.1
  have hd8 := hS.1.2.2.1
  have hd9 := hS.1.2.2.2.1
  have hV : WT 145 σ σ := WT0
  have hM2 := hM
  have hW2 := hW
  have hK := hS.kx
  have m1 := hm1
  have hnc := hS.1.2.2.2.2.2.2.2
  refine mv_aload_n (pc := 0) B d_Weaver_statement_0 rfl 0 rfl ?_
  refine mv_getR (pc := 1) (ci := 1) (C := R_Weaver) (T := F_Weaver) (N := 16) B 0 rfl rfl (by decide) i_Weaver (B.2.2.2.1 _ k_228) rfl (hR.1 _ 0 _ rfl) d_Weaver_statement_1 ?_
  refine mv_callVi (pc := 4) (n := 0) (ci := 2) (C := R_Tokens) B (mK_ok sk sv) hNs rfl rfl (c_Tokens_kind l hi _ hR.1 (i32_in (by omega) (by omega))) rfl (ma_goodc kc_Tokens_kind) (B.2.2.2.1 _ k_1299) (B.2.2.2.1 _ k_1271) (B.2.2.2.1 _ k_1272) (B.2.2.2.1 _ k_3) ⟨by decide +kernel, by decide +kernel, by decide +kernel⟩ rfl d_Weaver_statement_4 rfl (Nat.le_of_ble_eq_true rfl) ⟨by decide, by decide⟩ ⟨by decide, by decide⟩ ⟨by decide, by decide⟩ (mv_noH hno _) (fun v4 σ4 h4 => ?_)
  obtain ⟨e4, z4⟩ := h4
  have e4 := e4.symm
  subst e4
  have hk3 : mv_a σ 4 (mv_i σ 3 7).toNatClampNeg = v4 := (z4.trans (if_pos (lt0.mpr hw9))).symm
  clear z4
  refine mv_lsw (pc := 7) B d_Weaver_statement_7 (by decide) (by decide) ?_
  refine ⟨fun h7 => ?_, fun h7n3 => ?_⟩
  · skip
    have h7 : v4 = 3 := Int32.toInt_inj.mp (show v4.toInt = (3 : Int32).toInt from h7)
    rw [h7] at hk3
    refine mv_aload_n (pc := 63) B d_Weaver_statement_63 rfl 0 rfl ?_
    refine mv_callVv (pc := 64) (n := 0) (ci := 1) (C := R_Weaver) B (mK_ok sk sv) hNs rfl rfl (c_Weaver_beginAssignment_c l hi _ hG hM hW hS hne hk3) rfl (ma_goodc kc_Weaver_beginAssignment) (B.2.2.2.1 _ k_1379) (B.2.2.2.1 _ k_1381) (B.2.2.2.1 _ ks_45) (B.2.2.2.1 _ k_2) ⟨by decide +kernel, by decide +kernel, by decide +kernel⟩ rfl d_Weaver_statement_64 rfl (Nat.le_of_ble_eq_true rfl) ⟨by decide, by decide⟩ ⟨by decide, by decide⟩ ⟨by decide, by decide⟩ (mv_noH hno _) (fun σ64 h64 => ?_)
    have hend := h64
    refine mv_goto (pc := 67) (tgt := 143) B d_Weaver_statement_67 rfl ?_
    exact mv_vret (pc := 143) B hr d_Weaver_statement_143 (Nat.le_refl _) (Nat.le_refl _) ⟨rfl, hend⟩
  refine ⟨fun h7 => ?_, fun h7n125 => ?_⟩
  · skip
    have h7 : v4 = 125 := Int32.toInt_inj.mp (show v4.toInt = (125 : Int32).toInt from h7)
    rw [h7] at hk3
    obtain ⟨b9, r9, ebl⟩ : ∃ b r, bl = b :: r := by cases bl with | nil => exact absurd rfl hne | cons b r => exact ⟨b, r, rfl⟩
    obtain ⟨u9, ex9⟩ := b9
    subst ebl
    refine mv_aload_n (pc := 129) B d_Weaver_statement_129 rfl 0 rfl ?_
    refine mv_callVv (pc := 130) (n := 0) (ci := 1) (C := R_Weaver) B (mK_ok sk sv) hNs rfl rfl (c_Weaver_closeBlock_c l hi _ _ _ _ hG hM hW hS hm1 hk3) rfl (ma_goodc kc_Weaver_closeBlock) (B.2.2.2.1 _ k_1392) (B.2.2.2.1 _ k_1394) (B.2.2.2.1 _ ks_47) (B.2.2.2.1 _ k_2) ⟨by decide +kernel, by decide +kernel, by decide +kernel⟩ rfl d_Weaver_statement_130 rfl (Nat.le_of_ble_eq_true rfl) ⟨by decide, by decide⟩ ⟨by decide, by decide⟩ ⟨by decide, by decide⟩ (mv_noH hno _) (fun σ130 h130 => ?_)
    have hend := h130
    refine mv_goto (pc := 133) (tgt := 143) B d_Weaver_statement_133 rfl ?_
    exact mv_vret (pc := 143) B hr d_Weaver_statement_143 (Nat.le_refl _) (Nat.le_refl _) ⟨rfl, hend⟩
  refine ⟨fun h7 => ?_, fun h7n207 => ?_⟩
  · skip
    have h7 : v4 = 207 := Int32.toInt_inj.mp (show v4.toInt = (207 : Int32).toInt from h7)
    rw [h7] at hk3
    refine mv_aload_n (pc := 56) B d_Weaver_statement_56 rfl 0 rfl ?_
    refine mv_callVv (pc := 57) (n := 0) (ci := 1) (C := R_Weaver) B (mK_ok sk sv) hNs rfl rfl (c_Weaver_beginLet_c l hi _ hG hM hW hS hne hk3) rfl (ma_goodc kc_Weaver_beginLet) (B.2.2.2.1 _ k_1367) (B.2.2.2.1 _ k_1369) (B.2.2.2.1 _ ks_43) (B.2.2.2.1 _ k_2) ⟨by decide +kernel, by decide +kernel, by decide +kernel⟩ rfl d_Weaver_statement_57 rfl (Nat.le_of_ble_eq_true rfl) ⟨by decide, by decide⟩ ⟨by decide, by decide⟩ ⟨by decide, by decide⟩ (mv_noH hno _) (fun σ57 h57 => ?_)
    have hend := h57
    refine mv_goto (pc := 60) (tgt := 143) B d_Weaver_statement_60 rfl ?_
    exact mv_vret (pc := 143) B hr d_Weaver_statement_143 (Nat.le_refl _) (Nat.le_refl _) ⟨rfl, hend⟩
  refine ⟨fun h7 => ?_, fun h7n208 => ?_⟩
  · skip
    have h7 : v4 = 208 := Int32.toInt_inj.mp (show v4.toInt = (208 : Int32).toInt from h7)
    rw [h7] at hk3
    refine mv_aload_n (pc := 70) B d_Weaver_statement_70 rfl 0 rfl ?_
    refine mv_getR (pc := 71) (ci := 1) (C := R_Weaver) (T := F_Weaver) (N := 16) B 0 rfl rfl (by decide) i_Weaver (B.2.2.2.1 _ k_228) rfl (hR.1 _ 0 _ rfl) d_Weaver_statement_71 ?_
    refine mv_sipush (pc := 74) (v := 208) B d_Weaver_statement_74 (by decide) ?_
    refine mv_callVi (pc := 77) (n := 1) (ci := 2) (C := R_Tokens) B (mK_ok sk sv) hNs rfl rfl (c_Tokens_takeN l hi _ _ hR.1 (hG.2.2.1.wt hV hP ht2) (by omega) (by omega) (by decide)) rfl (ma_goodc kc_Tokens_take) (B.2.2.2.1 _ k_1266) (B.2.2.2.1 _ k_1267) (B.2.2.2.1 _ k_1268) (B.2.2.2.1 _ k_3) ⟨by decide +kernel, by decide +kernel, by decide +kernel⟩ rfl d_Weaver_statement_77 rfl (Nat.le_of_ble_eq_true rfl) ⟨by decide, by decide⟩ ⟨by decide, by decide⟩ ⟨by decide, by decide⟩ (mv_noH hno _) (fun v77 σ77 h77 => ?_)
    obtain ⟨a77, w77, e77, r77⟩ := h77
    have q77 := r77.1
    have z77 := fun q => (r77.2.1 q).1
    have y77 := And.intro r77.2.2.2.1 r77.2.2.2.2.1
    subst e77
    have hw77 := r77.2.2.1 hw9 hk3 trivial
    refine mv_gen (fun S80 eS80 => ?_)
    have hR : Rw 145 (mv_r S80) := by rw [eS80]; exact hR
    have hV : WT 145 σ S80 := by rw [eS80]; exact hV.tk3 _ _ _
    have hM2 : Mt (mv_a S80 24) := by rw [eS80]; exact hM2
    have hW2 : WN 145 48 S80 n th sl no := by rw [eS80]; exact hW2.of hP (OF.tk3 Fr.rf _ _ _)
    have hK : KX 145 S80 th s0 ns no bl bl 0 True := by rw [eS80]; exact hK.tok hP _ _ _
    have m1 : mv_i S80 2 6 = 1 := by rw [eS80]; exact m1
    have t7 : (mv_i S80 3 7).toInt = a77.toInt := by rw [eS80]; rfl
    have t8 : (mv_i S80 3 8).toInt = (mv_i σ 3 8).toInt := by rw [eS80]; exact t8
    have t9 : (mv_i S80 3 9).toInt = w77.toInt := by rw [eS80]; rfl
    have kp := Eq.trans (show mv_a S80 4 = mv_a _ 4 by rw [eS80]; rfl) kp
    clear eS80
    refine mv_pop (pc := 80) B d_Weaver_statement_80 rfl ?_
    refine mv_aload_n (pc := 81) B d_Weaver_statement_81 rfl 0 rfl ?_
    refine mv_getR (pc := 82) (ci := 1) (C := R_Weaver) (T := F_Weaver) (N := 16) B 5 rfl rfl (by decide) i_Weaver (B.2.2.2.1 _ k_235) rfl hR.2.2.1 d_Weaver_statement_82 ?_
    refine mv_sipush (pc := 85) (v := 316) B d_Weaver_statement_85 (by decide) ?_
    refine mv_aload_n (pc := 88) B d_Weaver_statement_88 rfl 0 rfl ?_
    refine mv_aload_n (pc := 89) B d_Weaver_statement_89 rfl 0 rfl ?_
    refine mv_getR (pc := 90) (ci := 1) (C := R_Weaver) (T := F_Weaver) (N := 16) B 0 rfl rfl (by decide) i_Weaver (B.2.2.2.1 _ k_228) rfl (hR.1 _ 0 _ rfl) d_Weaver_statement_90 ?_
    refine mv_iconst (pc := 93) (v := 4) B d_Weaver_statement_93 (by decide) ?_
    refine mv_callVi (pc := 94) (n := 1) (ci := 2) (C := R_Tokens) B (mK_ok sk sv) hNs rfl rfl (c_Tokens_takeN l hi _ _ hR.1 (hG.2.2.1.wt hV hP ht2) (by omega) (by omega) (by decide)) rfl (ma_goodc kc_Tokens_take) (B.2.2.2.1 _ k_1266) (B.2.2.2.1 _ k_1267) (B.2.2.2.1 _ k_1268) (B.2.2.2.1 _ k_3) ⟨by decide +kernel, by decide +kernel, by decide +kernel⟩ rfl d_Weaver_statement_94 rfl (Nat.le_of_ble_eq_true rfl) ⟨by decide, by decide⟩ ⟨by decide, by decide⟩ ⟨by decide, by decide⟩ (mv_noH hno _) (fun v94 σ94 h94 => ?_)
    obtain ⟨a94, w94, e94, r94⟩ := h94
    have q94 := r94.1
    have z94 := fun q => (r94.2.1 q).1
    have y94 := And.intro r94.2.2.2.1 r94.2.2.2.2.1
    subst e94
    refine mv_gen (fun S97 eS97 => ?_)
    have hR : Rw 145 (mv_r S97) := by rw [eS97]; exact hR
    have hV : WT 145 σ S97 := by rw [eS97]; exact hV.tk3 _ _ _
    have hM2 : Mt (mv_a S97 24) := by rw [eS97]; exact hM2
    have hW2 : WN 145 48 S97 n th sl no := by rw [eS97]; exact hW2.of hP (OF.tk3 Fr.rf _ _ _)
    have hK : KX 145 S97 th s0 ns no bl bl 0 True := by rw [eS97]; exact hK.tok hP _ _ _
    have m1 : mv_i S97 2 6 = 1 := by rw [eS97]; exact m1
    have t7 : (mv_i S97 3 7).toInt = a94.toInt := by rw [eS97]; rfl
    have t8 : (mv_i S97 3 8).toInt = (mv_i σ 3 8).toInt := by rw [eS97]; exact t8
    have t9 : (mv_i S97 3 9).toInt = w94.toInt := by rw [eS97]; rfl
    have kp := Eq.trans (show mv_a S97 4 = mv_a _ 4 by rw [eS97]; rfl) kp
    clear eS97
    refine mv_ldcw (pc := 97) (v := 1000000) B (B.2.2.2.1 _ k_1383) d_Weaver_statement_97 ?_
    refine mv_callVi (pc := 100) (n := 2) (ci := 1) (C := R_Weaver) B (mK_ok sk sv) hNs rfl rfl (c_Weaver_numberUpTo l hi _ _ _ hR.1 y94.1 (by omega) (by decide)) rfl (ma_goodc kc_Weaver_numberUpTo) (B.2.2.2.1 _ k_1304) (B.2.2.2.1 _ k_1306) (B.2.2.2.1 _ ks_35) (B.2.2.2.1 _ k_2) ⟨by decide +kernel, by decide +kernel, by decide +kernel⟩ rfl d_Weaver_statement_100 rfl (Nat.le_of_ble_eq_true rfl) ⟨by decide, by decide⟩ ⟨by decide, by decide⟩ ⟨by decide, by decide⟩ (mv_noH hno _) (fun v100 σ100 h100 => ?_)
    obtain ⟨x9, y9, e100, z100, u100⟩ := num_n (by decide) h100
    subst e100
    refine mv_gen (fun S103 eS103 => ?_)
    have hR : Rw 145 (mv_r S103) := by rw [eS103]; exact hR
    have hV : WT 145 σ S103 := by rw [eS103]; exact hV.tell _ _
    have hM2 : Mt (mv_a S103 24) := by rw [eS103]; exact hM2
    have hW2 : WN 145 48 S103 n th sl no := by rw [eS103]; exact hW2.of hP (OF.tell Fr.rf _ _)
    have hK : KX 145 S103 th s0 ns no bl bl 0 True := by rw [eS103]; exact hK.tell hP z100 _
    have m1 : mv_i S103 2 6 = 1 := by rw [eS103]; exact m1
    have t7 := Eq.trans (congrArg Int32.toInt (show mv_i S103 3 7 = mv_i _ 3 7 by rw [eS103]; rfl)) t7
    have t8 := Eq.trans (congrArg Int32.toInt (show mv_i S103 3 8 = mv_i _ 3 8 by rw [eS103]; rfl)) t8
    have t9 := Eq.trans (congrArg Int32.toInt (show mv_i S103 3 9 = mv_i _ 3 9 by rw [eS103]; rfl)) t9
    have kp := Eq.trans (show mv_a S103 4 = mv_a _ 4 by rw [eS103]; rfl) kp
    clear eS103
    refine mv_i2l (pc := 103) B d_Weaver_statement_103 ?_
    refine mv_callVi (pc := 104) (n := 2) (ci := 7) (C := R_Program) B (mK_ok sk sv) hNs rfl rfl (c_Program_emit_c l hi _ _ _ hR.2.1 (by have := hK.2.1; omega) (by have := hK.2.1; omega)) rfl (ma_goodc kc_Program_emit) (B.2.2.2.1 _ k_1384) (B.2.2.2.1 _ k_1385) (B.2.2.2.1 _ k_1386) (B.2.2.2.1 _ k_8) ⟨by decide +kernel, by decide +kernel, by decide +kernel⟩ rfl d_Weaver_statement_104 rfl (Nat.le_of_ble_eq_true rfl) ⟨by decide, by decide⟩ ⟨by decide, by decide⟩ ⟨by decide, by decide⟩ (mv_noH hno _) (fun v104 σ104 h104 => ?_)
    obtain ⟨e104, -⟩ := h104
    subst e104
    refine mv_gen (fun S107 eS107 => ?_)
    have hR : Rw 145 (mv_r S107) := by rw [eS107]; exact hR
    have hV : WT 145 σ S107 := by rw [eS107]; exact hV.emit _ _
    have hM2 : Mt (mv_a S107 24) := by rw [eS107]; exact hM2
    have hW2 : WN 145 48 S107 n th sl no := by rw [eS107]; exact hW2.of hP (OF.emit Fr.rf _ _)
    have hK : KX 145 S107 th (s0 + 1) ns no bl bl 0 True := by rw [eS107]; exact hK.trap hP (by omega)
    have m1 : mv_i S107 2 6 = 1 := by rw [eS107]; exact m1
    have t7 := Eq.trans (congrArg Int32.toInt (show mv_i S107 3 7 = mv_i _ 3 7 by rw [eS107]; rfl)) t7
    have t8 := Eq.trans (congrArg Int32.toInt (show mv_i S107 3 8 = mv_i _ 3 8 by rw [eS107]; rfl)) t8
    have t9 := Eq.trans (congrArg Int32.toInt (show mv_i S107 3 9 = mv_i _ 3 9 by rw [eS107]; rfl)) t9
    have kp := Eq.trans (show mv_a S107 4 = mv_a _ 4 by rw [eS107]; rfl) kp
    clear eS107
    refine mv_pop (pc := 107) B d_Weaver_statement_107 rfl ?_
    refine mv_aload_n (pc := 108) B d_Weaver_statement_108 rfl 0 rfl ?_
    refine mv_getR (pc := 109) (ci := 1) (C := R_Weaver) (T := F_Weaver) (N := 16) B 0 rfl rfl (by decide) i_Weaver (B.2.2.2.1 _ k_228) rfl (hR.1 _ 0 _ rfl) d_Weaver_statement_109 ?_
    refine mv_bipush (pc := 112) (v := 59) B d_Weaver_statement_112 (by decide) ?_
    refine mv_callVi (pc := 114) (n := 1) (ci := 2) (C := R_Tokens) B (mK_ok sk sv) hNs rfl rfl (c_Tokens_takeN l hi _ _ hR.1 (hG.2.2.1.wt hV hP ht2) (by omega) (by omega) (by decide)) rfl (ma_goodc kc_Tokens_take) (B.2.2.2.1 _ k_1266) (B.2.2.2.1 _ k_1267) (B.2.2.2.1 _ k_1268) (B.2.2.2.1 _ k_3) ⟨by decide +kernel, by decide +kernel, by decide +kernel⟩ rfl d_Weaver_statement_114 rfl (Nat.le_of_ble_eq_true rfl) ⟨by decide, by decide⟩ ⟨by decide, by decide⟩ ⟨by decide, by decide⟩ (mv_noH hno _) (fun v114 σ114 h114 => ?_)
    obtain ⟨a114, w114, e114, r114⟩ := h114
    have q114 := r114.1
    have z114 := fun q => (r114.2.1 q).1
    have y114 := And.intro r114.2.2.2.1 r114.2.2.2.2.1
    subst e114
    refine mv_gen (fun S117 eS117 => ?_)
    have hR : Rw 145 (mv_r S117) := by rw [eS117]; exact hR
    have hV : WT 145 σ S117 := by rw [eS117]; exact hV.tk3 _ _ _
    have hM2 : Mt (mv_a S117 24) := by rw [eS117]; exact hM2
    have hW2 : WN 145 48 S117 n th sl no := by rw [eS117]; exact hW2.of hP (OF.tk3 Fr.rf _ _ _)
    have hK : KX 145 S117 th (s0 + 1) ns no bl bl 0 True := by rw [eS117]; exact hK.tok hP _ _ _
    have m1 : mv_i S117 2 6 = 1 := by rw [eS117]; exact m1
    have t7 : (mv_i S117 3 7).toInt = a114.toInt := by rw [eS117]; rfl
    have t8 : (mv_i S117 3 8).toInt = (mv_i σ 3 8).toInt := by rw [eS117]; exact t8
    have t9 : (mv_i S117 3 9).toInt = w114.toInt := by rw [eS117]; rfl
    have kp := Eq.trans (show mv_a S117 4 = mv_a _ 4 by rw [eS117]; rfl) kp
    have hend : TP 145 48 σ S117 n sz a := ⟨hV, hM2, th, sl, no, hW2, by
      by_cases q : (mv_i S117 3 9).toInt < 0
      · exact Or.inr ⟨a + 3, by omega, Or.inr (Or.inl ⟨m1, s0 + 1, ns, bl, hne, hK.ws ⟨by omega, q, by omega, by omega, by omega, by omega, by omega, by rw [kp]; exact Nat.le_trans hnc (nCd_mono _ (by omega))⟩⟩)⟩
      · exact Or.inl (by omega)⟩
    clear eS117
    refine mv_pop (pc := 117) B d_Weaver_statement_117 rfl ?_
    refine mv_goto (pc := 118) (tgt := 143) B d_Weaver_statement_118 rfl ?_
    exact mv_vret (pc := 143) B hr d_Weaver_statement_143 (Nat.le_refl _) (Nat.le_refl _) ⟨rfl, hend⟩
  refine ⟨fun h7 => ?_, fun h7n209 => ?_⟩
  · skip
    have h7 : v4 = 209 := Int32.toInt_inj.mp (show v4.toInt = (209 : Int32).toInt from h7)
    rw [h7] at hk3
    refine mv_aload_n (pc := 121) B d_Weaver_statement_121 rfl 0 rfl ?_
    refine mv_iconst (pc := 122) (v := -1) B d_Weaver_statement_122 (by decide) ?_
    refine mv_callVv (pc := 123) (n := 1) (ci := 1) (C := R_Weaver) B (mK_ok sk sv) hNs rfl rfl (c_Weaver_beginIf_c l hi _ _ hG hM hW hS.x hne hk3) rfl (ma_goodc kc_Weaver_beginIf) (B.2.2.2.1 _ k_1388) (B.2.2.2.1 _ k_1390) (B.2.2.2.1 _ ks_46) (B.2.2.2.1 _ k_2) ⟨by decide +kernel, by decide +kernel, by decide +kernel⟩ rfl d_Weaver_statement_123 rfl (Nat.le_of_ble_eq_true rfl) ⟨by decide, by decide⟩ ⟨by decide, by decide⟩ ⟨by decide, by decide⟩ (mv_noH hno _) (fun σ123 h123 => ?_)
    have hend := h123
    refine mv_goto (pc := 126) (tgt := 143) B d_Weaver_statement_126 rfl ?_
    exact mv_vret (pc := 143) B hr d_Weaver_statement_143 (Nat.le_refl _) (Nat.le_refl _) ⟨rfl, hend⟩
  show mv_V _ _ _ _ _ _ _ _ _ _ _ _ _ _ _ _ 136 _ _
  refine mv_aload_n (pc := 136) B d_Weaver_statement_136 rfl 0 rfl ?_
  refine mv_getR (pc := 137) (ci := 1) (C := R_Weaver) (T := F_Weaver) (N := 16) B 0 rfl rfl (by decide) i_Weaver (B.2.2.2.1 _ k_228) rfl (hR.1 _ 0 _ rfl) d_Weaver_statement_137 ?_
  refine mv_callVv (pc := 140) (n := 0) (ci := 2) (C := R_Tokens) B (mK_ok sk sv) hNs rfl rfl (c_Tokens_wrongN l hi _ hR.1 hG.2.2.1 (by omega) (by omega)) rfl (ma_goodc kc_Tokens_wrong) (B.2.2.2.1 _ k_1362) (B.2.2.2.1 _ k_1275) (B.2.2.2.1 _ k_1276) (B.2.2.2.1 _ k_3) ⟨by decide +kernel, by decide +kernel, by decide +kernel⟩ rfl d_Weaver_statement_140 rfl (Nat.le_of_ble_eq_true rfl) ⟨by decide, by decide⟩ ⟨by decide, by decide⟩ ⟨by decide, by decide⟩ (mv_noH hno _) (fun σ140 h140 => ?_)
  obtain ⟨w18, e18, z18⟩ := h140
  subst e18
  have hend : TP 145 48 σ (tk3 σ (mv_i σ 3 7) (mv_i σ 3 8) w18) n sz a := ⟨WT0.tk3 _ _ _, hM, th, sl, no, hW.tk3 hP _ _ _, Or.inl z18⟩
  exact mv_vret (pc := 143) B hr d_Weaver_statement_143 (Nat.le_refl _) (Nat.le_refl _) ⟨rfl, hend⟩
def y_Weaver_item : MethodName := ⟨"MachineLoom$Weaver", "item", "()V"⟩
abbrev b_Weaver_item : ByteArray := prog_12_method_7_code
theorem kc_Weaver_item : Cond.code y_Weaver_item b_Weaver_item 1 (Option.none : Option Jvm.ClassFile.FieldType) ∈ ma := ma_of (tb_6 _ (List.mem_of_getElem? (i := 98) rfl)) rfl
theorem k_1300 : (Jvm.Cond.methodLink "MachineLoom$Weaver" (162 : Nat) ({ cls := "MachineLoom$Weaver", name := "register", desc := "()V" } : Jvm.MethodName)) ∈ ma := ma_of (tb_6 _ (List.mem_of_getElem? (i := 100) rfl)) rfl
theorem k_1302 : (Jvm.Cond.instanceMethod ({ cls := "MachineLoom$Weaver", name := "register", desc := "()V" } : Jvm.MethodName)) ∈ ma := ma_of (tb_6 _ (List.mem_of_getElem? (i := 102) rfl)) rfl
theorem ks_34 : Cond.selects "MachineLoom$Weaver" ⟨"MachineLoom$Weaver", "register", "()V"⟩ ⟨"MachineLoom$Weaver", "register", "()V"⟩ ∈ ma := ma_sel 34 rfl rfl
theorem k_1333 : (Jvm.Cond.methodLink "MachineLoom$Weaver" (165 : Nat) ({ cls := "MachineLoom$Weaver", name := "file", desc := "()V" } : Jvm.MethodName)) ∈ ma := ma_of (tb_6 _ (List.mem_of_getElem? (i := 133) rfl)) rfl
theorem k_1335 : (Jvm.Cond.instanceMethod ({ cls := "MachineLoom$Weaver", name := "file", desc := "()V" } : Jvm.MethodName)) ∈ ma := ma_of (tb_6 _ (List.mem_of_getElem? (i := 135) rfl)) rfl
theorem ks_38 : Cond.selects "MachineLoom$Weaver" ⟨"MachineLoom$Weaver", "file", "()V"⟩ ⟨"MachineLoom$Weaver", "file", "()V"⟩ ∈ ma := ma_sel 38 rfl rfl
theorem k_1337 : (Jvm.Cond.methodLink "MachineLoom$Weaver" (168 : Nat) ({ cls := "MachineLoom$Weaver", name := "fetch", desc := "()V" } : Jvm.MethodName)) ∈ ma := ma_of (tb_6 _ (List.mem_of_getElem? (i := 137) rfl)) rfl
theorem k_1339 : (Jvm.Cond.instanceMethod ({ cls := "MachineLoom$Weaver", name := "fetch", desc := "()V" } : Jvm.MethodName)) ∈ ma := ma_of (tb_6 _ (List.mem_of_getElem? (i := 139) rfl)) rfl
theorem ks_39 : Cond.selects "MachineLoom$Weaver" ⟨"MachineLoom$Weaver", "fetch", "()V"⟩ ⟨"MachineLoom$Weaver", "fetch", "()V"⟩ ∈ ma := ma_sel 39 rfl rfl
theorem k_1341 : (Jvm.Cond.methodLink "MachineLoom$Weaver" (171 : Nat) ({ cls := "MachineLoom$Weaver", name := "op", desc := "()V" } : Jvm.MethodName)) ∈ ma := ma_of (tb_6 _ (List.mem_of_getElem? (i := 141) rfl)) rfl
theorem k_1343 : (Jvm.Cond.instanceMethod ({ cls := "MachineLoom$Weaver", name := "op", desc := "()V" } : Jvm.MethodName)) ∈ ma := ma_of (tb_6 _ (List.mem_of_getElem? (i := 143) rfl)) rfl
theorem ks_40 : Cond.selects "MachineLoom$Weaver" ⟨"MachineLoom$Weaver", "op", "()V"⟩ ⟨"MachineLoom$Weaver", "op", "()V"⟩ ∈ ma := ma_sel 40 rfl rfl
theorem d_Weaver_item_0 : decode b_Weaver_item 0 = .ok (.aload_n 0, 1) := by decide +kernel
theorem d_Weaver_item_1 : decode b_Weaver_item 1 = .ok (.getfield 12, 3) := by decide +kernel
theorem d_Weaver_item_4 : decode b_Weaver_item 4 = .ok (.invokevirtual 159, 3) := by decide +kernel
theorem d_Weaver_item_7 : decode b_Weaver_item 7 = .ok (.lookupswitch (85) #[(1, 77), (201, 49), (202, 56), (204, 63), (206, 70)], 49) := by decide +kernel
theorem d_Weaver_item_56 : decode b_Weaver_item 56 = .ok (.aload_n 0, 1) := by decide +kernel
theorem d_Weaver_item_57 : decode b_Weaver_item 57 = .ok (.invokevirtual 162, 3) := by decide +kernel
theorem d_Weaver_item_60 : decode b_Weaver_item 60 = .ok (.goto (39), 3) := by decide +kernel
theorem d_Weaver_item_63 : decode b_Weaver_item 63 = .ok (.aload_n 0, 1) := by decide +kernel
theorem d_Weaver_item_64 : decode b_Weaver_item 64 = .ok (.invokevirtual 165, 3) := by decide +kernel
theorem d_Weaver_item_67 : decode b_Weaver_item 67 = .ok (.goto (32), 3) := by decide +kernel
theorem d_Weaver_item_70 : decode b_Weaver_item 70 = .ok (.aload_n 0, 1) := by decide +kernel
theorem d_Weaver_item_71 : decode b_Weaver_item 71 = .ok (.invokevirtual 168, 3) := by decide +kernel
theorem d_Weaver_item_74 : decode b_Weaver_item 74 = .ok (.goto (25), 3) := by decide +kernel
theorem d_Weaver_item_77 : decode b_Weaver_item 77 = .ok (.aload_n 0, 1) := by decide +kernel
theorem d_Weaver_item_78 : decode b_Weaver_item 78 = .ok (.invokevirtual 171, 3) := by decide +kernel
theorem d_Weaver_item_81 : decode b_Weaver_item 81 = .ok (.goto (18), 3) := by decide +kernel
theorem d_Weaver_item_84 : decode b_Weaver_item 84 = .ok (.aload_n 0, 1) := by decide +kernel
theorem d_Weaver_item_85 : decode b_Weaver_item 85 = .ok (.iconst 4, 1) := by decide +kernel
theorem d_Weaver_item_86 : decode b_Weaver_item 86 = .ok (.putfield 75, 3) := by decide +kernel
theorem d_Weaver_item_89 : decode b_Weaver_item 89 = .ok (.goto (10), 3) := by decide +kernel
theorem d_Weaver_item_92 : decode b_Weaver_item 92 = .ok (.aload_n 0, 1) := by decide +kernel
theorem d_Weaver_item_93 : decode b_Weaver_item 93 = .ok (.getfield 12, 3) := by decide +kernel
theorem d_Weaver_item_96 : decode b_Weaver_item 96 = .ok (.invokevirtual 174, 3) := by decide +kernel
theorem d_Weaver_item_99 : decode b_Weaver_item 99 = .ok (.return_, 1) := by decide +kernel
set_option maxHeartbeats 4000000 in
set_option maxRecDepth 100000 in
theorem c_Weaver_item_a (l : Launch) {dA : FieldType → ClassId} {D : va_G} {al : Nat → Nat} {ext : mv_Sh} {sk sv : Nat → Nat} (hi : mv_inj (mg dA D al ext)) (σ : mv_H) {t tn len n z sz th sl s0 a ns no : Nat} (hG : WG 32 32768 512 ext σ t tn len n z sz) (hM : Mt (mv_a σ 24)) (hW : WN 32 512 σ n th sl no) (hS : WS 32 σ sz th s0 a ns no []) (hm0 : mv_i σ 2 6 = 0) : mv_C l y_Weaver_item (Cond.code y_Weaver_item b_Weaver_item 1 (Option.none : Option Jvm.ClassFile.FieldType) :: ma) ({ frames := 5, cells := 0, slots := 0, locals := 111 }) (mg dA D al ext) (mK sk sv) [.ref (al 2)] σ (mv_Rv (fun σ1 => TP 32 512 σ σ1 n sz a ∨ σ1 = mv_si σ 2 6 4)) := by
  refine mv_C.ofV (cc := b_Weaver_item) (nL := 1) (ret := (Option.none : Option Jvm.ClassFile.FieldType)) (by decide +kernel) rfl hi (Nat.le_of_ble_eq_true rfl) ?_
  intro p e s m below meth c B hNs hr hnm hno
  have hP : PQ 32 := by unfold PQ; omega
  have hR := hG.1
  have ht2 := hG.2.1.2.2.2.2.2.2
  have hN : mv_i σ 21 0 = 0 → mv_i σ 21 0 = 0 := fun q => q
  have hE := hG.2.2.1
  have hsz := hE.2.2.2.2.2
  have hsz2 := hE.2.2.2.1
  have hlen := hG.2.2.2.2.1
  have hlen2 := hG.2.2.2.2.2
  have t7 := hS.1.1
  have hw9 := hS.1.2.1
  have ha9 := hS.1.2.2.2.2.1
  have t9 : (mv_i σ 3 9).toInt = (mv_i σ 3 9).toInt := rfl
  have t8 : (mv_i σ 3 8).toInt = (mv_i σ 3 8).toInt := rfl
  have kp : mv_a σ 4 = mv_a σ 4 := rfl
  have k6 : mv_b σ 6 = mv_b σ 6 := rfl
  have hs5 := hS.1.2.2.2.2.2.1
  have hs6 := hS.1.2.2.2.2.2.2.1
  have hd8 := hS.1.2.2.1
  have hd9 := hS.1.2.2.2.1
  refine mv_aload_n (pc := 0) B d_Weaver_item_0 rfl 0 rfl ?_
  refine mv_getR (pc := 1) (ci := 1) (C := R_Weaver) (T := F_Weaver) (N := 16) B 0 rfl rfl (by decide) i_Weaver (B.2.2.2.1 _ k_228) rfl (hR.1 _ 0 _ rfl) d_Weaver_item_1 ?_
  refine mv_callVi (pc := 4) (n := 0) (ci := 2) (C := R_Tokens) B (mK_ok sk sv) hNs rfl rfl (c_Tokens_kind l hi _ hR.1 (i32_in (by omega) (by omega))) rfl (ma_goodc kc_Tokens_kind) (B.2.2.2.1 _ k_1299) (B.2.2.2.1 _ k_1271) (B.2.2.2.1 _ k_1272) (B.2.2.2.1 _ k_3) ⟨by decide +kernel, by decide +kernel, by decide +kernel⟩ rfl d_Weaver_item_4 rfl (Nat.le_of_ble_eq_true rfl) ⟨by decide, by decide⟩ ⟨by decide, by decide⟩ ⟨by decide, by decide⟩ (mv_noH hno _) (fun v4 σ4 h4 => ?_)
  obtain ⟨e4, z4⟩ := h4
  have e4 := e4.symm
  subst e4
  have hk3 : mv_a σ 4 (mv_i σ 3 7).toNatClampNeg = v4 := (z4.trans (if_pos (lt0.mpr hw9))).symm
  clear z4
  refine mv_lsw (pc := 7) B d_Weaver_item_7 (by decide) (by decide) ?_
  refine ⟨fun h7 => ?_, fun h7n1 => ?_⟩
  · skip
    have h7 : v4 = 1 := Int32.toInt_inj.mp (show v4.toInt = (1 : Int32).toInt from h7)
    rw [h7] at hk3
    refine mv_aload_n (pc := 84) B d_Weaver_item_84 rfl 0 rfl ?_
    refine mv_iconst (pc := 85) (v := 4) B d_Weaver_item_85 (by decide) ?_
    refine mv_putI (pc := 86) (ci := 1) (C := R_Weaver) (T := F_Weaver) (N := 16) B 6 rfl rfl (by decide) i_Weaver t_Weaver_ok n_Weaver (B.2.2.2.1 _ k_236) rfl rfl rfl rfl d_Weaver_item_86 ?_
    refine mv_goto (pc := 89) (tgt := 99) B d_Weaver_item_89 rfl ?_
    exact mv_vret (pc := 99) B hr d_Weaver_item_99 (Nat.le_refl _) (Nat.le_refl _) ⟨rfl, by first | exact hend | exact Or.inr rfl⟩
  refine ⟨fun h7 => ?_, fun h7n201 => ?_⟩
  · skip
    have h7 : v4 = 201 := Int32.toInt_inj.mp (show v4.toInt = (201 : Int32).toInt from h7)
    rw [h7] at hk3
    refine mv_aload_n (pc := 56) B d_Weaver_item_56 rfl 0 rfl ?_
    refine mv_callVv (pc := 57) (n := 0) (ci := 1) (C := R_Weaver) B (mK_ok sk sv) hNs rfl rfl (c_Weaver_register_a l hi _ hG hM hW hS hm0 hk3) rfl (ma_goodc kc_Weaver_register) (B.2.2.2.1 _ k_1300) (B.2.2.2.1 _ k_1302) (B.2.2.2.1 _ ks_34) (B.2.2.2.1 _ k_2) ⟨by decide +kernel, by decide +kernel, by decide +kernel⟩ rfl d_Weaver_item_57 rfl (Nat.le_of_ble_eq_true rfl) ⟨by decide, by decide⟩ ⟨by decide, by decide⟩ ⟨by decide, by decide⟩ (mv_noH hno _) (fun σ57 h57 => ?_)
    have hend := Or.inl (b := σ57 = mv_si σ 2 6 4) h57
    refine mv_goto (pc := 60) (tgt := 99) B d_Weaver_item_60 rfl ?_
    exact mv_vret (pc := 99) B hr d_Weaver_item_99 (Nat.le_refl _) (Nat.le_refl _) ⟨rfl, by first | exact hend | exact Or.inr rfl⟩
  refine ⟨fun h7 => ?_, fun h7n202 => ?_⟩
  · skip
    have h7 : v4 = 202 := Int32.toInt_inj.mp (show v4.toInt = (202 : Int32).toInt from h7)
    rw [h7] at hk3
    refine mv_aload_n (pc := 63) B d_Weaver_item_63 rfl 0 rfl ?_
    refine mv_callVv (pc := 64) (n := 0) (ci := 1) (C := R_Weaver) B (mK_ok sk sv) hNs rfl rfl (c_Weaver_file_a l hi _ hG hM hW hS hm0 hk3) rfl (ma_goodc kc_Weaver_file) (B.2.2.2.1 _ k_1333) (B.2.2.2.1 _ k_1335) (B.2.2.2.1 _ ks_38) (B.2.2.2.1 _ k_2) ⟨by decide +kernel, by decide +kernel, by decide +kernel⟩ rfl d_Weaver_item_64 rfl (Nat.le_of_ble_eq_true rfl) ⟨by decide, by decide⟩ ⟨by decide, by decide⟩ ⟨by decide, by decide⟩ (mv_noH hno _) (fun σ64 h64 => ?_)
    have hend := Or.inl (b := σ64 = mv_si σ 2 6 4) h64
    refine mv_goto (pc := 67) (tgt := 99) B d_Weaver_item_67 rfl ?_
    exact mv_vret (pc := 99) B hr d_Weaver_item_99 (Nat.le_refl _) (Nat.le_refl _) ⟨rfl, by first | exact hend | exact Or.inr rfl⟩
  refine ⟨fun h7 => ?_, fun h7n204 => ?_⟩
  · skip
    have h7 : v4 = 204 := Int32.toInt_inj.mp (show v4.toInt = (204 : Int32).toInt from h7)
    rw [h7] at hk3
    refine mv_aload_n (pc := 70) B d_Weaver_item_70 rfl 0 rfl ?_
    refine mv_callVv (pc := 71) (n := 0) (ci := 1) (C := R_Weaver) B (mK_ok sk sv) hNs rfl rfl (c_Weaver_fetch_a l hi _ hG hM hW hS hm0 hk3) rfl (ma_goodc kc_Weaver_fetch) (B.2.2.2.1 _ k_1337) (B.2.2.2.1 _ k_1339) (B.2.2.2.1 _ ks_39) (B.2.2.2.1 _ k_2) ⟨by decide +kernel, by decide +kernel, by decide +kernel⟩ rfl d_Weaver_item_71 rfl (Nat.le_of_ble_eq_true rfl) ⟨by decide, by decide⟩ ⟨by decide, by decide⟩ ⟨by decide, by decide⟩ (mv_noH hno _) (fun σ71 h71 => ?_)
    have hend := Or.inl (b := σ71 = mv_si σ 2 6 4) h71
    refine mv_goto (pc := 74) (tgt := 99) B d_Weaver_item_74 rfl ?_
    exact mv_vret (pc := 99) B hr d_Weaver_item_99 (Nat.le_refl _) (Nat.le_refl _) ⟨rfl, by first | exact hend | exact Or.inr rfl⟩
  refine ⟨fun h7 => ?_, fun h7n206 => ?_⟩
  · skip
    have h7 : v4 = 206 := Int32.toInt_inj.mp (show v4.toInt = (206 : Int32).toInt from h7)
    rw [h7] at hk3
    refine mv_aload_n (pc := 77) B d_Weaver_item_77 rfl 0 rfl ?_
    refine mv_callVv (pc := 78) (n := 0) (ci := 1) (C := R_Weaver) B (mK_ok sk sv) hNs rfl rfl (c_Weaver_op_a l hi _ hG hM hW hS hm0 hk3) rfl (ma_goodc kc_Weaver_op) (B.2.2.2.1 _ k_1341) (B.2.2.2.1 _ k_1343) (B.2.2.2.1 _ ks_40) (B.2.2.2.1 _ k_2) ⟨by decide +kernel, by decide +kernel, by decide +kernel⟩ rfl d_Weaver_item_78 rfl (Nat.le_of_ble_eq_true rfl) ⟨by decide, by decide⟩ ⟨by decide, by decide⟩ ⟨by decide, by decide⟩ (mv_noH hno _) (fun σ78 h78 => ?_)
    have hend := Or.inl (b := σ78 = mv_si σ 2 6 4) h78
    refine mv_goto (pc := 81) (tgt := 99) B d_Weaver_item_81 rfl ?_
    exact mv_vret (pc := 99) B hr d_Weaver_item_99 (Nat.le_refl _) (Nat.le_refl _) ⟨rfl, by first | exact hend | exact Or.inr rfl⟩
  show mv_V _ _ _ _ _ _ _ _ _ _ _ _ _ _ _ _ 92 _ _
  refine mv_aload_n (pc := 92) B d_Weaver_item_92 rfl 0 rfl ?_
  refine mv_getR (pc := 93) (ci := 1) (C := R_Weaver) (T := F_Weaver) (N := 16) B 0 rfl rfl (by decide) i_Weaver (B.2.2.2.1 _ k_228) rfl (hR.1 _ 0 _ rfl) d_Weaver_item_93 ?_
  refine mv_callVv (pc := 96) (n := 0) (ci := 2) (C := R_Tokens) B (mK_ok sk sv) hNs rfl rfl (c_Tokens_wrongN l hi _ hR.1 hG.2.2.1 (by omega) (by omega)) rfl (ma_goodc kc_Tokens_wrong) (B.2.2.2.1 _ k_1362) (B.2.2.2.1 _ k_1275) (B.2.2.2.1 _ k_1276) (B.2.2.2.1 _ k_3) ⟨by decide +kernel, by decide +kernel, by decide +kernel⟩ rfl d_Weaver_item_96 rfl (Nat.le_of_ble_eq_true rfl) ⟨by decide, by decide⟩ ⟨by decide, by decide⟩ ⟨by decide, by decide⟩ (mv_noH hno _) (fun σ96 h96 => ?_)
  obtain ⟨w18, e18, z18⟩ := h96
  subst e18
  have hend : TP 32 512 σ (tk3 σ (mv_i σ 3 7) (mv_i σ 3 8) w18) n sz a := ⟨WT0.tk3 _ _ _, hM, th, sl, no, hW.tk3 hP _ _ _, Or.inl z18⟩
  have hend := Or.inl (b := tk3 σ (mv_i σ 3 7) (mv_i σ 3 8) w18 = mv_si σ 2 6 4) hend
  exact mv_vret (pc := 99) B hr d_Weaver_item_99 (Nat.le_refl _) (Nat.le_refl _) ⟨rfl, by first | exact hend | exact Or.inr rfl⟩
set_option maxHeartbeats 4000000 in
set_option maxRecDepth 100000 in
theorem c_Weaver_item_b (l : Launch) {dA : FieldType → ClassId} {D : va_G} {al : Nat → Nat} {ext : mv_Sh} {sk sv : Nat → Nat} (hi : mv_inj (mg dA D al ext)) (σ : mv_H) {t tn len n z sz th sl s0 a ns no : Nat} (hG : WG 48 32768 512 ext σ t tn len n z sz) (hM : Mt (mv_a σ 24)) (hW : WN 48 512 σ n th sl no) (hS : WS 48 σ sz th s0 a ns no []) (hm0 : mv_i σ 2 6 = 0) : mv_C l y_Weaver_item (Cond.code y_Weaver_item b_Weaver_item 1 (Option.none : Option Jvm.ClassFile.FieldType) :: ma) ({ frames := 5, cells := 0, slots := 0, locals := 111 }) (mg dA D al ext) (mK sk sv) [.ref (al 2)] σ (mv_Rv (fun σ1 => TP 48 512 σ σ1 n sz a ∨ σ1 = mv_si σ 2 6 4)) := by
  refine mv_C.ofV (cc := b_Weaver_item) (nL := 1) (ret := (Option.none : Option Jvm.ClassFile.FieldType)) (by decide +kernel) rfl hi (Nat.le_of_ble_eq_true rfl) ?_
  intro p e s m below meth c B hNs hr hnm hno
  have hP : PQ 48 := by unfold PQ; omega
  have hR := hG.1
  have ht2 := hG.2.1.2.2.2.2.2.2
  have hN : mv_i σ 21 0 = 0 → mv_i σ 21 0 = 0 := fun q => q
  have hE := hG.2.2.1
  have hsz := hE.2.2.2.2.2
  have hsz2 := hE.2.2.2.1
  have hlen := hG.2.2.2.2.1
  have hlen2 := hG.2.2.2.2.2
  have t7 := hS.1.1
  have hw9 := hS.1.2.1
  have ha9 := hS.1.2.2.2.2.1
  have t9 : (mv_i σ 3 9).toInt = (mv_i σ 3 9).toInt := rfl
  have t8 : (mv_i σ 3 8).toInt = (mv_i σ 3 8).toInt := rfl
  have kp : mv_a σ 4 = mv_a σ 4 := rfl
  have k6 : mv_b σ 6 = mv_b σ 6 := rfl
  have hs5 := hS.1.2.2.2.2.2.1
  have hs6 := hS.1.2.2.2.2.2.2.1
  have hd8 := hS.1.2.2.1
  have hd9 := hS.1.2.2.2.1
  refine mv_aload_n (pc := 0) B d_Weaver_item_0 rfl 0 rfl ?_
  refine mv_getR (pc := 1) (ci := 1) (C := R_Weaver) (T := F_Weaver) (N := 16) B 0 rfl rfl (by decide) i_Weaver (B.2.2.2.1 _ k_228) rfl (hR.1 _ 0 _ rfl) d_Weaver_item_1 ?_
  refine mv_callVi (pc := 4) (n := 0) (ci := 2) (C := R_Tokens) B (mK_ok sk sv) hNs rfl rfl (c_Tokens_kind l hi _ hR.1 (i32_in (by omega) (by omega))) rfl (ma_goodc kc_Tokens_kind) (B.2.2.2.1 _ k_1299) (B.2.2.2.1 _ k_1271) (B.2.2.2.1 _ k_1272) (B.2.2.2.1 _ k_3) ⟨by decide +kernel, by decide +kernel, by decide +kernel⟩ rfl d_Weaver_item_4 rfl (Nat.le_of_ble_eq_true rfl) ⟨by decide, by decide⟩ ⟨by decide, by decide⟩ ⟨by decide, by decide⟩ (mv_noH hno _) (fun v4 σ4 h4 => ?_)
  obtain ⟨e4, z4⟩ := h4
  have e4 := e4.symm
  subst e4
  have hk3 : mv_a σ 4 (mv_i σ 3 7).toNatClampNeg = v4 := (z4.trans (if_pos (lt0.mpr hw9))).symm
  clear z4
  refine mv_lsw (pc := 7) B d_Weaver_item_7 (by decide) (by decide) ?_
  refine ⟨fun h7 => ?_, fun h7n1 => ?_⟩
  · skip
    have h7 : v4 = 1 := Int32.toInt_inj.mp (show v4.toInt = (1 : Int32).toInt from h7)
    rw [h7] at hk3
    refine mv_aload_n (pc := 84) B d_Weaver_item_84 rfl 0 rfl ?_
    refine mv_iconst (pc := 85) (v := 4) B d_Weaver_item_85 (by decide) ?_
    refine mv_putI (pc := 86) (ci := 1) (C := R_Weaver) (T := F_Weaver) (N := 16) B 6 rfl rfl (by decide) i_Weaver t_Weaver_ok n_Weaver (B.2.2.2.1 _ k_236) rfl rfl rfl rfl d_Weaver_item_86 ?_
    refine mv_goto (pc := 89) (tgt := 99) B d_Weaver_item_89 rfl ?_
    exact mv_vret (pc := 99) B hr d_Weaver_item_99 (Nat.le_refl _) (Nat.le_refl _) ⟨rfl, by first | exact hend | exact Or.inr rfl⟩
  refine ⟨fun h7 => ?_, fun h7n201 => ?_⟩
  · skip
    have h7 : v4 = 201 := Int32.toInt_inj.mp (show v4.toInt = (201 : Int32).toInt from h7)
    rw [h7] at hk3
    refine mv_aload_n (pc := 56) B d_Weaver_item_56 rfl 0 rfl ?_
    refine mv_callVv (pc := 57) (n := 0) (ci := 1) (C := R_Weaver) B (mK_ok sk sv) hNs rfl rfl (c_Weaver_register_b l hi _ hG hM hW hS hm0 hk3) rfl (ma_goodc kc_Weaver_register) (B.2.2.2.1 _ k_1300) (B.2.2.2.1 _ k_1302) (B.2.2.2.1 _ ks_34) (B.2.2.2.1 _ k_2) ⟨by decide +kernel, by decide +kernel, by decide +kernel⟩ rfl d_Weaver_item_57 rfl (Nat.le_of_ble_eq_true rfl) ⟨by decide, by decide⟩ ⟨by decide, by decide⟩ ⟨by decide, by decide⟩ (mv_noH hno _) (fun σ57 h57 => ?_)
    have hend := Or.inl (b := σ57 = mv_si σ 2 6 4) h57
    refine mv_goto (pc := 60) (tgt := 99) B d_Weaver_item_60 rfl ?_
    exact mv_vret (pc := 99) B hr d_Weaver_item_99 (Nat.le_refl _) (Nat.le_refl _) ⟨rfl, by first | exact hend | exact Or.inr rfl⟩
  refine ⟨fun h7 => ?_, fun h7n202 => ?_⟩
  · skip
    have h7 : v4 = 202 := Int32.toInt_inj.mp (show v4.toInt = (202 : Int32).toInt from h7)
    rw [h7] at hk3
    refine mv_aload_n (pc := 63) B d_Weaver_item_63 rfl 0 rfl ?_
    refine mv_callVv (pc := 64) (n := 0) (ci := 1) (C := R_Weaver) B (mK_ok sk sv) hNs rfl rfl (c_Weaver_file_b l hi _ hG hM hW hS hm0 hk3) rfl (ma_goodc kc_Weaver_file) (B.2.2.2.1 _ k_1333) (B.2.2.2.1 _ k_1335) (B.2.2.2.1 _ ks_38) (B.2.2.2.1 _ k_2) ⟨by decide +kernel, by decide +kernel, by decide +kernel⟩ rfl d_Weaver_item_64 rfl (Nat.le_of_ble_eq_true rfl) ⟨by decide, by decide⟩ ⟨by decide, by decide⟩ ⟨by decide, by decide⟩ (mv_noH hno _) (fun σ64 h64 => ?_)
    have hend := Or.inl (b := σ64 = mv_si σ 2 6 4) h64
    refine mv_goto (pc := 67) (tgt := 99) B d_Weaver_item_67 rfl ?_
    exact mv_vret (pc := 99) B hr d_Weaver_item_99 (Nat.le_refl _) (Nat.le_refl _) ⟨rfl, by first | exact hend | exact Or.inr rfl⟩
  refine ⟨fun h7 => ?_, fun h7n204 => ?_⟩
  · skip
    have h7 : v4 = 204 := Int32.toInt_inj.mp (show v4.toInt = (204 : Int32).toInt from h7)
    rw [h7] at hk3
    refine mv_aload_n (pc := 70) B d_Weaver_item_70 rfl 0 rfl ?_
    refine mv_callVv (pc := 71) (n := 0) (ci := 1) (C := R_Weaver) B (mK_ok sk sv) hNs rfl rfl (c_Weaver_fetch_b l hi _ hG hM hW hS hm0 hk3) rfl (ma_goodc kc_Weaver_fetch) (B.2.2.2.1 _ k_1337) (B.2.2.2.1 _ k_1339) (B.2.2.2.1 _ ks_39) (B.2.2.2.1 _ k_2) ⟨by decide +kernel, by decide +kernel, by decide +kernel⟩ rfl d_Weaver_item_71 rfl (Nat.le_of_ble_eq_true rfl) ⟨by decide, by decide⟩ ⟨by decide, by decide⟩ ⟨by decide, by decide⟩ (mv_noH hno _) (fun σ71 h71 => ?_)
    have hend := Or.inl (b := σ71 = mv_si σ 2 6 4) h71
    refine mv_goto (pc := 74) (tgt := 99) B d_Weaver_item_74 rfl ?_
    exact mv_vret (pc := 99) B hr d_Weaver_item_99 (Nat.le_refl _) (Nat.le_refl _) ⟨rfl, by first | exact hend | exact Or.inr rfl⟩
  refine ⟨fun h7 => ?_, fun h7n206 => ?_⟩
  · skip
    have h7 : v4 = 206 := Int32.toInt_inj.mp (show v4.toInt = (206 : Int32).toInt from h7)
    rw [h7] at hk3
    refine mv_aload_n (pc := 77) B d_Weaver_item_77 rfl 0 rfl ?_
    refine mv_callVv (pc := 78) (n := 0) (ci := 1) (C := R_Weaver) B (mK_ok sk sv) hNs rfl rfl (c_Weaver_op_b l hi _ hG hM hW hS hm0 hk3) rfl (ma_goodc kc_Weaver_op) (B.2.2.2.1 _ k_1341) (B.2.2.2.1 _ k_1343) (B.2.2.2.1 _ ks_40) (B.2.2.2.1 _ k_2) ⟨by decide +kernel, by decide +kernel, by decide +kernel⟩ rfl d_Weaver_item_78 rfl (Nat.le_of_ble_eq_true rfl) ⟨by decide, by decide⟩ ⟨by decide, by decide⟩ ⟨by decide, by decide⟩ (mv_noH hno _) (fun σ78 h78 => ?_)
    have hend := Or.inl (b := σ78 = mv_si σ 2 6 4) h78
    refine mv_goto (pc := 81) (tgt := 99) B d_Weaver_item_81 rfl ?_
    exact mv_vret (pc := 99) B hr d_Weaver_item_99 (Nat.le_refl _) (Nat.le_refl _) ⟨rfl, by first | exact hend | exact Or.inr rfl⟩
  show mv_V _ _ _ _ _ _ _ _ _ _ _ _ _ _ _ _ 92 _ _
  refine mv_aload_n (pc := 92) B d_Weaver_item_92 rfl 0 rfl ?_
  refine mv_getR (pc := 93) (ci := 1) (C := R_Weaver) (T := F_Weaver) (N := 16) B 0 rfl rfl (by decide) i_Weaver (B.2.2.2.1 _ k_228) rfl (hR.1 _ 0 _ rfl) d_Weaver_item_93 ?_
  refine mv_callVv (pc := 96) (n := 0) (ci := 2) (C := R_Tokens) B (mK_ok sk sv) hNs rfl rfl (c_Tokens_wrongN l hi _ hR.1 hG.2.2.1 (by omega) (by omega)) rfl (ma_goodc kc_Tokens_wrong) (B.2.2.2.1 _ k_1362) (B.2.2.2.1 _ k_1275) (B.2.2.2.1 _ k_1276) (B.2.2.2.1 _ k_3) ⟨by decide +kernel, by decide +kernel, by decide +kernel⟩ rfl d_Weaver_item_96 rfl (Nat.le_of_ble_eq_true rfl) ⟨by decide, by decide⟩ ⟨by decide, by decide⟩ ⟨by decide, by decide⟩ (mv_noH hno _) (fun σ96 h96 => ?_)
  obtain ⟨w18, e18, z18⟩ := h96
  subst e18
  have hend : TP 48 512 σ (tk3 σ (mv_i σ 3 7) (mv_i σ 3 8) w18) n sz a := ⟨WT0.tk3 _ _ _, hM, th, sl, no, hW.tk3 hP _ _ _, Or.inl z18⟩
  have hend := Or.inl (b := tk3 σ (mv_i σ 3 7) (mv_i σ 3 8) w18 = mv_si σ 2 6 4) hend
  exact mv_vret (pc := 99) B hr d_Weaver_item_99 (Nat.le_refl _) (Nat.le_refl _) ⟨rfl, by first | exact hend | exact Or.inr rfl⟩
set_option maxHeartbeats 4000000 in
set_option maxRecDepth 100000 in
theorem c_Weaver_item_c (l : Launch) {dA : FieldType → ClassId} {D : va_G} {al : Nat → Nat} {sk sv : Nat → Nat} (hi : mv_inj (mg dA D al me)) (σ : mv_H) {t tn len n z sz th sl s0 a ns no : Nat} (hG : WG 145 8192 48 me σ t tn len n z sz) (hM : Mt (mv_a σ 24)) (hW : WN 145 48 σ n th sl no) (hS : WS 145 σ sz th s0 a ns no []) (hm0 : mv_i σ 2 6 = 0) : mv_C l y_Weaver_item (Cond.code y_Weaver_item b_Weaver_item 1 (Option.none : Option Jvm.ClassFile.FieldType) :: ma) ({ frames := 5, cells := 0, slots := 0, locals := 111 }) (mg dA D al me) (mK sk sv) [.ref (al 2)] σ (mv_Rv (fun σ1 => TP 145 48 σ σ1 n sz a ∨ σ1 = mv_si σ 2 6 4)) := by
  refine mv_C.ofV (cc := b_Weaver_item) (nL := 1) (ret := (Option.none : Option Jvm.ClassFile.FieldType)) (by decide +kernel) rfl hi (Nat.le_of_ble_eq_true rfl) ?_
  intro p e s m below meth c B hNs hr hnm hno
  have hP : PQ 145 := by unfold PQ; omega
  have hR := hG.1
  have ht2 := hG.2.1.2.2.2.2.2.2
  have hN : mv_i σ 21 0 = 0 → mv_i σ 21 0 = 0 := fun q => q
  have hE := hG.2.2.1
  have hsz := hE.2.2.2.2.2
  have hsz2 := hE.2.2.2.1
  have hlen := hG.2.2.2.2.1
  have hlen2 := hG.2.2.2.2.2
  have t7 := hS.1.1
  have hw9 := hS.1.2.1
  have ha9 := hS.1.2.2.2.2.1
  have t9 : (mv_i σ 3 9).toInt = (mv_i σ 3 9).toInt := rfl
  have t8 : (mv_i σ 3 8).toInt = (mv_i σ 3 8).toInt := rfl
  have kp : mv_a σ 4 = mv_a σ 4 := rfl
  have k6 : mv_b σ 6 = mv_b σ 6 := rfl
  have hs5 := hS.1.2.2.2.2.2.1
  have hs6 := hS.1.2.2.2.2.2.2.1
  have hd8 := hS.1.2.2.1
  have hd9 := hS.1.2.2.2.1
  refine mv_aload_n (pc := 0) B d_Weaver_item_0 rfl 0 rfl ?_
  refine mv_getR (pc := 1) (ci := 1) (C := R_Weaver) (T := F_Weaver) (N := 16) B 0 rfl rfl (by decide) i_Weaver (B.2.2.2.1 _ k_228) rfl (hR.1 _ 0 _ rfl) d_Weaver_item_1 ?_
  refine mv_callVi (pc := 4) (n := 0) (ci := 2) (C := R_Tokens) B (mK_ok sk sv) hNs rfl rfl (c_Tokens_kind l hi _ hR.1 (i32_in (by omega) (by omega))) rfl (ma_goodc kc_Tokens_kind) (B.2.2.2.1 _ k_1299) (B.2.2.2.1 _ k_1271) (B.2.2.2.1 _ k_1272) (B.2.2.2.1 _ k_3) ⟨by decide +kernel, by decide +kernel, by decide +kernel⟩ rfl d_Weaver_item_4 rfl (Nat.le_of_ble_eq_true rfl) ⟨by decide, by decide⟩ ⟨by decide, by decide⟩ ⟨by decide, by decide⟩ (mv_noH hno _) (fun v4 σ4 h4 => ?_)
  obtain ⟨e4, z4⟩ := h4
  have e4 := e4.symm
  subst e4
  have hk3 : mv_a σ 4 (mv_i σ 3 7).toNatClampNeg = v4 := (z4.trans (if_pos (lt0.mpr hw9))).symm
  clear z4
  refine mv_lsw (pc := 7) B d_Weaver_item_7 (by decide) (by decide) ?_
  refine ⟨fun h7 => ?_, fun h7n1 => ?_⟩
  · skip
    have h7 : v4 = 1 := Int32.toInt_inj.mp (show v4.toInt = (1 : Int32).toInt from h7)
    rw [h7] at hk3
    refine mv_aload_n (pc := 84) B d_Weaver_item_84 rfl 0 rfl ?_
    refine mv_iconst (pc := 85) (v := 4) B d_Weaver_item_85 (by decide) ?_
    refine mv_putI (pc := 86) (ci := 1) (C := R_Weaver) (T := F_Weaver) (N := 16) B 6 rfl rfl (by decide) i_Weaver t_Weaver_ok n_Weaver (B.2.2.2.1 _ k_236) rfl rfl rfl rfl d_Weaver_item_86 ?_
    refine mv_goto (pc := 89) (tgt := 99) B d_Weaver_item_89 rfl ?_
    exact mv_vret (pc := 99) B hr d_Weaver_item_99 (Nat.le_refl _) (Nat.le_refl _) ⟨rfl, by first | exact hend | exact Or.inr rfl⟩
  refine ⟨fun h7 => ?_, fun h7n201 => ?_⟩
  · skip
    have h7 : v4 = 201 := Int32.toInt_inj.mp (show v4.toInt = (201 : Int32).toInt from h7)
    rw [h7] at hk3
    refine mv_aload_n (pc := 56) B d_Weaver_item_56 rfl 0 rfl ?_
    refine mv_callVv (pc := 57) (n := 0) (ci := 1) (C := R_Weaver) B (mK_ok sk sv) hNs rfl rfl (c_Weaver_register_c l hi _ hG hM hW hS hm0 hk3) rfl (ma_goodc kc_Weaver_register) (B.2.2.2.1 _ k_1300) (B.2.2.2.1 _ k_1302) (B.2.2.2.1 _ ks_34) (B.2.2.2.1 _ k_2) ⟨by decide +kernel, by decide +kernel, by decide +kernel⟩ rfl d_Weaver_item_57 rfl (Nat.le_of_ble_eq_true rfl) ⟨by decide, by decide⟩ ⟨by decide, by decide⟩ ⟨by decide, by decide⟩ (mv_noH hno _) (fun σ57 h57 => ?_)
    have hend := Or.inl (b := σ57 = mv_si σ 2 6 4) h57
    refine mv_goto (pc := 60) (tgt := 99) B d_Weaver_item_60 rfl ?_
    exact mv_vret (pc := 99) B hr d_Weaver_item_99 (Nat.le_refl _) (Nat.le_refl _) ⟨rfl, by first | exact hend | exact Or.inr rfl⟩
  refine ⟨fun h7 => ?_, fun h7n202 => ?_⟩
  · skip
    have h7 : v4 = 202 := Int32.toInt_inj.mp (show v4.toInt = (202 : Int32).toInt from h7)
    rw [h7] at hk3
    refine mv_aload_n (pc := 63) B d_Weaver_item_63 rfl 0 rfl ?_
    refine mv_callVv (pc := 64) (n := 0) (ci := 1) (C := R_Weaver) B (mK_ok sk sv) hNs rfl rfl (c_Weaver_file_c l hi _ hG hM hW hS hm0 hk3) rfl (ma_goodc kc_Weaver_file) (B.2.2.2.1 _ k_1333) (B.2.2.2.1 _ k_1335) (B.2.2.2.1 _ ks_38) (B.2.2.2.1 _ k_2) ⟨by decide +kernel, by decide +kernel, by decide +kernel⟩ rfl d_Weaver_item_64 rfl (Nat.le_of_ble_eq_true rfl) ⟨by decide, by decide⟩ ⟨by decide, by decide⟩ ⟨by decide, by decide⟩ (mv_noH hno _) (fun σ64 h64 => ?_)
    have hend := Or.inl (b := σ64 = mv_si σ 2 6 4) h64
    refine mv_goto (pc := 67) (tgt := 99) B d_Weaver_item_67 rfl ?_
    exact mv_vret (pc := 99) B hr d_Weaver_item_99 (Nat.le_refl _) (Nat.le_refl _) ⟨rfl, by first | exact hend | exact Or.inr rfl⟩
  refine ⟨fun h7 => ?_, fun h7n204 => ?_⟩
  · skip
    have h7 : v4 = 204 := Int32.toInt_inj.mp (show v4.toInt = (204 : Int32).toInt from h7)
    rw [h7] at hk3
    refine mv_aload_n (pc := 70) B d_Weaver_item_70 rfl 0 rfl ?_
    refine mv_callVv (pc := 71) (n := 0) (ci := 1) (C := R_Weaver) B (mK_ok sk sv) hNs rfl rfl (c_Weaver_fetch_c l hi _ hG hM hW hS hm0 hk3) rfl (ma_goodc kc_Weaver_fetch) (B.2.2.2.1 _ k_1337) (B.2.2.2.1 _ k_1339) (B.2.2.2.1 _ ks_39) (B.2.2.2.1 _ k_2) ⟨by decide +kernel, by decide +kernel, by decide +kernel⟩ rfl d_Weaver_item_71 rfl (Nat.le_of_ble_eq_true rfl) ⟨by decide, by decide⟩ ⟨by decide, by decide⟩ ⟨by decide, by decide⟩ (mv_noH hno _) (fun σ71 h71 => ?_)
    have hend := Or.inl (b := σ71 = mv_si σ 2 6 4) h71
    refine mv_goto (pc := 74) (tgt := 99) B d_Weaver_item_74 rfl ?_
    exact mv_vret (pc := 99) B hr d_Weaver_item_99 (Nat.le_refl _) (Nat.le_refl _) ⟨rfl, by first | exact hend | exact Or.inr rfl⟩
  refine ⟨fun h7 => ?_, fun h7n206 => ?_⟩
  · skip
    have h7 : v4 = 206 := Int32.toInt_inj.mp (show v4.toInt = (206 : Int32).toInt from h7)
    rw [h7] at hk3
    refine mv_aload_n (pc := 77) B d_Weaver_item_77 rfl 0 rfl ?_
    refine mv_callVv (pc := 78) (n := 0) (ci := 1) (C := R_Weaver) B (mK_ok sk sv) hNs rfl rfl (c_Weaver_op_c l hi _ hG hM hW hS hm0 hk3) rfl (ma_goodc kc_Weaver_op) (B.2.2.2.1 _ k_1341) (B.2.2.2.1 _ k_1343) (B.2.2.2.1 _ ks_40) (B.2.2.2.1 _ k_2) ⟨by decide +kernel, by decide +kernel, by decide +kernel⟩ rfl d_Weaver_item_78 rfl (Nat.le_of_ble_eq_true rfl) ⟨by decide, by decide⟩ ⟨by decide, by decide⟩ ⟨by decide, by decide⟩ (mv_noH hno _) (fun σ78 h78 => ?_)
    have hend := Or.inl (b := σ78 = mv_si σ 2 6 4) h78
    refine mv_goto (pc := 81) (tgt := 99) B d_Weaver_item_81 rfl ?_
    exact mv_vret (pc := 99) B hr d_Weaver_item_99 (Nat.le_refl _) (Nat.le_refl _) ⟨rfl, by first | exact hend | exact Or.inr rfl⟩
  show mv_V _ _ _ _ _ _ _ _ _ _ _ _ _ _ _ _ 92 _ _
  refine mv_aload_n (pc := 92) B d_Weaver_item_92 rfl 0 rfl ?_
  refine mv_getR (pc := 93) (ci := 1) (C := R_Weaver) (T := F_Weaver) (N := 16) B 0 rfl rfl (by decide) i_Weaver (B.2.2.2.1 _ k_228) rfl (hR.1 _ 0 _ rfl) d_Weaver_item_93 ?_
  refine mv_callVv (pc := 96) (n := 0) (ci := 2) (C := R_Tokens) B (mK_ok sk sv) hNs rfl rfl (c_Tokens_wrongN l hi _ hR.1 hG.2.2.1 (by omega) (by omega)) rfl (ma_goodc kc_Tokens_wrong) (B.2.2.2.1 _ k_1362) (B.2.2.2.1 _ k_1275) (B.2.2.2.1 _ k_1276) (B.2.2.2.1 _ k_3) ⟨by decide +kernel, by decide +kernel, by decide +kernel⟩ rfl d_Weaver_item_96 rfl (Nat.le_of_ble_eq_true rfl) ⟨by decide, by decide⟩ ⟨by decide, by decide⟩ ⟨by decide, by decide⟩ (mv_noH hno _) (fun σ96 h96 => ?_)
  obtain ⟨w18, e18, z18⟩ := h96
  subst e18
  have hend : TP 145 48 σ (tk3 σ (mv_i σ 3 7) (mv_i σ 3 8) w18) n sz a := ⟨WT0.tk3 _ _ _, hM, th, sl, no, hW.tk3 hP _ _ _, Or.inl z18⟩
  have hend := Or.inl (b := tk3 σ (mv_i σ 3 7) (mv_i σ 3 8) w18 = mv_si σ 2 6 4) hend
  exact mv_vret (pc := 99) B hr d_Weaver_item_99 (Nat.le_refl _) (Nat.le_refl _) ⟨rfl, by first | exact hend | exact Or.inr rfl⟩
def y_Weaver_areApart : MethodName := ⟨"MachineLoom$Weaver", "areApart", "()Z"⟩
abbrev b_Weaver_areApart : ByteArray := prog_12_method_24_code
theorem kc_Weaver_areApart : Cond.code y_Weaver_areApart b_Weaver_areApart 3 (Option.some Jvm.ClassFile.FieldType.boolean) ∈ ma := ma_of (tb_7 _ (List.mem_of_getElem? (i := 103) rfl)) rfl
theorem k_1544 : (Jvm.Cond.methodLink "MachineLoom$Weaver" (307 : Nat) ({ cls := "MachineLoom$Program", name := "apart", desc := "(II)Z" } : Jvm.MethodName)) ∈ ma := ma_of (tb_7 _ (List.mem_of_getElem? (i := 104) rfl)) rfl
theorem k_1545 : (Jvm.Cond.instanceMethod ({ cls := "MachineLoom$Program", name := "apart", desc := "(II)Z" } : Jvm.MethodName)) ∈ ma := ma_of (tb_7 _ (List.mem_of_getElem? (i := 105) rfl)) rfl
theorem k_1546 : (Jvm.Cond.selects "MachineLoom$Program" ({ cls := "MachineLoom$Program", name := "apart", desc := "(II)Z" } : Jvm.MethodName) ({ cls := "MachineLoom$Program", name := "apart", desc := "(II)Z" } : Jvm.MethodName)) ∈ ma := ma_of (tb_7 _ (List.mem_of_getElem? (i := 106) rfl)) rfl
theorem k_233 : (Jvm.Cond.fieldLink "MachineLoom$Weaver" (130 : Nat) "MachineLoom$Weaver" "other" "I") ∈ ma := ma_of (tb_1 _ (List.mem_of_getElem? (i := 233) rfl)) rfl
theorem d_Weaver_areApart_0 : decode b_Weaver_areApart 0 = .ok (.iconst 1, 1) := by decide +kernel
theorem d_Weaver_areApart_1 : decode b_Weaver_areApart 1 = .ok (.istore_n 1, 1) := by decide +kernel
theorem d_Weaver_areApart_2 : decode b_Weaver_areApart 2 = .ok (.iload_n 1, 1) := by decide +kernel
theorem d_Weaver_areApart_3 : decode b_Weaver_areApart 3 = .ok (.aload_n 0, 1) := by decide +kernel
theorem d_Weaver_areApart_4 : decode b_Weaver_areApart 4 = .ok (.getfield 113, 3) := by decide +kernel
theorem d_Weaver_areApart_7 : decode b_Weaver_areApart 7 = .ok (.getfield 225, 3) := by decide +kernel
theorem d_Weaver_areApart_10 : decode b_Weaver_areApart 10 = .ok (.if_icmp .ge (51), 3) := by decide +kernel
theorem d_Weaver_areApart_13 : decode b_Weaver_areApart 13 = .ok (.iconst 0, 1) := by decide +kernel
theorem d_Weaver_areApart_14 : decode b_Weaver_areApart 14 = .ok (.istore_n 2, 1) := by decide +kernel
theorem d_Weaver_areApart_15 : decode b_Weaver_areApart 15 = .ok (.iload_n 2, 1) := by decide +kernel
theorem d_Weaver_areApart_16 : decode b_Weaver_areApart 16 = .ok (.iload_n 1, 1) := by decide +kernel
theorem d_Weaver_areApart_17 : decode b_Weaver_areApart 17 = .ok (.if_icmp .ge (38), 3) := by decide +kernel
theorem d_Weaver_areApart_20 : decode b_Weaver_areApart 20 = .ok (.aload_n 0, 1) := by decide +kernel
theorem d_Weaver_areApart_21 : decode b_Weaver_areApart 21 = .ok (.getfield 113, 3) := by decide +kernel
theorem d_Weaver_areApart_24 : decode b_Weaver_areApart 24 = .ok (.iload_n 2, 1) := by decide +kernel
theorem d_Weaver_areApart_25 : decode b_Weaver_areApart 25 = .ok (.iload_n 1, 1) := by decide +kernel
theorem d_Weaver_areApart_26 : decode b_Weaver_areApart 26 = .ok (.invokevirtual 307, 3) := by decide +kernel
theorem d_Weaver_areApart_29 : decode b_Weaver_areApart 29 = .ok (.ifCond .ne (20), 3) := by decide +kernel
theorem d_Weaver_areApart_32 : decode b_Weaver_areApart 32 = .ok (.aload_n 0, 1) := by decide +kernel
theorem d_Weaver_areApart_33 : decode b_Weaver_areApart 33 = .ok (.getfield 34, 3) := by decide +kernel
theorem d_Weaver_areApart_36 : decode b_Weaver_areApart 36 = .ok (.iload_n 1, 1) := by decide +kernel
theorem d_Weaver_areApart_37 : decode b_Weaver_areApart 37 = .ok (.bipush 7, 2) := by decide +kernel
theorem d_Weaver_areApart_39 : decode b_Weaver_areApart 39 = .ok (.invokevirtual 103, 3) := by decide +kernel
theorem d_Weaver_areApart_42 : decode b_Weaver_areApart 42 = .ok (.aload_n 0, 1) := by decide +kernel
theorem d_Weaver_areApart_43 : decode b_Weaver_areApart 43 = .ok (.iload_n 2, 1) := by decide +kernel
theorem d_Weaver_areApart_44 : decode b_Weaver_areApart 44 = .ok (.putfield 130, 3) := by decide +kernel
theorem d_Weaver_areApart_47 : decode b_Weaver_areApart 47 = .ok (.iconst 0, 1) := by decide +kernel
theorem d_Weaver_areApart_48 : decode b_Weaver_areApart 48 = .ok (.ireturn, 1) := by decide +kernel
theorem d_Weaver_areApart_49 : decode b_Weaver_areApart 49 = .ok (.iinc 2 (1), 3) := by decide +kernel
theorem d_Weaver_areApart_52 : decode b_Weaver_areApart 52 = .ok (.goto (-37), 3) := by decide +kernel
theorem d_Weaver_areApart_55 : decode b_Weaver_areApart 55 = .ok (.iinc 1 (1), 3) := by decide +kernel
theorem d_Weaver_areApart_58 : decode b_Weaver_areApart 58 = .ok (.goto (-56), 3) := by decide +kernel
theorem d_Weaver_areApart_61 : decode b_Weaver_areApart 61 = .ok (.iconst 1, 1) := by decide +kernel
theorem d_Weaver_areApart_62 : decode b_Weaver_areApart 62 = .ok (.ireturn, 1) := by decide +kernel
set_option maxHeartbeats 4000000 in
set_option maxRecDepth 100000 in
theorem c_Weaver_areApart_a (l : Launch) {dA : FieldType → ClassId} {D : va_G} {al : Nat → Nat} {ext : mv_Sh} {sk sv : Nat → Nat} (hi : mv_inj (mg dA D al ext)) (σ : mv_H) (hR : Rw 32 (mv_r σ)) (no : Nat) (hno : (mv_i σ 32 10).toInt = no) (hno2 : no ≤ 512) : mv_C l y_Weaver_areApart (Cond.code y_Weaver_areApart b_Weaver_areApart 3 (Option.some Jvm.ClassFile.FieldType.boolean) :: ma) ({ frames := 1, cells := 0, slots := 0, locals := 22 }) (mg dA D al ext) (mK sk sv) [.ref (al 2)] σ (mv_Ri (fun v σ1 => WT 32 σ σ1 ∧ ((v = 0 ∧ ∃ x y z, σ1 = mv_si (ex_tell σ x y) 2 4 z) ∨ (v = 1 ∧ σ1 = σ)))) := by
  refine mv_C.ofV (cc := b_Weaver_areApart) (nL := 3) (ret := (Option.some Jvm.ClassFile.FieldType.boolean)) (by decide +kernel) rfl hi (Nat.le_of_ble_eq_true rfl) ?_
  intro p e s m below meth c B hNs hr hnm hno
  have lp : ∀ (nn : Nat) (jj : Int32) (q0 : 1 ≤ jj.toInt), (1000 - jj.toInt).toNat < nn → mv_V p l e ({ frames := 1, cells := 0, slots := 0, locals := 22 }) s m ([.ref (al 2)] : List Value).toArray below meth c (mg dA D al ext) 3 0 0 (mv_Q (mg dA D al ext) below s 0 0 (mv_Ri (fun v σ1 => WT 32 σ σ1 ∧ ((v = 0 ∧ ∃ x y z, σ1 = mv_si (ex_tell σ x y) 2 4 z) ∨ (v = 1 ∧ σ1 = σ))))) σ 2 [(1, .int jj), (0, .ref (al 2))] [] := by
    intro nn
    induction nn with
    | zero => intro jj q0 hm; exact absurd hm (Nat.not_lt_zero _)
    | succ nn ih =>
      intro jj q0 hm
      have l2 : ∀ (h10 : jj.toInt < (mv_i σ 32 10).toInt) (n2 : Nat) (kk : Int32) (p0 : 0 ≤ kk.toInt) (p1 : kk.toInt ≤ jj.toInt), (jj.toInt - kk.toInt).toNat < n2 → mv_V p l e ({ frames := 1, cells := 0, slots := 0, locals := 22 }) s m ([.ref (al 2)] : List Value).toArray below meth c (mg dA D al ext) 3 0 0 (mv_Q (mg dA D al ext) below s 0 0 (mv_Ri (fun v σ1 => WT 32 σ σ1 ∧ ((v = 0 ∧ ∃ x y z, σ1 = mv_si (ex_tell σ x y) 2 4 z) ∨ (v = 1 ∧ σ1 = σ))))) σ 15 [(2, .int kk), (1, .int jj), (0, .ref (al 2))] [] := by
        intro h10 n2
        induction n2 with
        | zero => intro kk p0 p1 hm2; exact absurd hm2 (Nat.not_lt_zero _)
        | succ n2 ih2 =>
          intro kk p0 p1 hm2
          refine mv_iload_n (pc := 15) B d_Weaver_areApart_15 rfl 0 rfl ?_
          refine mv_iload_n (pc := 16) B d_Weaver_areApart_16 rfl 1 rfl ?_
          refine mv_icmp_ge (pc := 17) (tgt := 55) B d_Weaver_areApart_17 rfl (fun h17 => ?_) (fun h17 => ?_)
          · skip
            rw [Int32.le_iff_toInt_le] at h17
            have w2 : (jj + 1).toInt = jj.toInt + 1 := i32_inc (by omega)
            have go2 := ih (jj + 1) (by omega) (by omega)
            refine mv_iinc (pc := 55) (j := 1) (v := 1) B d_Weaver_areApart_55 rfl (by decide) (by decide) rfl ?_
            refine mv_goto (pc := 58) (tgt := 2) B d_Weaver_areApart_58 rfl ?_
            refine mv_lpick [0, 2] rfl ?_
            exact go2
          · skip
            rw [Int32.le_iff_toInt_le] at h17
            have w3 : (kk + 1).toInt = kk.toInt + 1 := i32_inc (by omega)
            have go := ih2 (kk + 1) (by omega) (by omega) (by omega)
            refine mv_aload_n (pc := 20) B d_Weaver_areApart_20 rfl 2 rfl ?_
            refine mv_getR (pc := 21) (ci := 1) (C := R_Weaver) (T := F_Weaver) (N := 16) B 5 rfl rfl (by decide) i_Weaver (B.2.2.2.1 _ k_235) rfl hR.2.2.1 d_Weaver_areApart_21 ?_
            refine mv_iload_n (pc := 24) B d_Weaver_areApart_24 rfl 0 rfl ?_
            refine mv_iload_n (pc := 25) B d_Weaver_areApart_25 rfl 1 rfl ?_
            refine mv_callVi (pc := 26) (n := 2) (ci := 7) (C := R_Program) B (mK_ok sk sv) hNs rfl rfl (c_Program_apart_a l hi _ _ _ hR.2.1 (by omega) (by omega) (by omega) (by omega)) rfl (ma_goodc kc_Program_apart) (B.2.2.2.1 _ k_1544) (B.2.2.2.1 _ k_1545) (B.2.2.2.1 _ k_1546) (B.2.2.2.1 _ k_8) ⟨by decide +kernel, by decide +kernel, by decide +kernel⟩ rfl d_Weaver_areApart_26 rfl (Nat.le_of_ble_eq_true rfl) ⟨by decide, by decide⟩ ⟨by decide, by decide⟩ ⟨by decide, by decide⟩ (mv_noH hno _) (fun v26 σ26 h26 => ?_)
            obtain ⟨e26, -⟩ := h26
            have e26 := e26.symm
            subst e26
            refine mv_if_ne (pc := 29) (tgt := 49) B d_Weaver_areApart_29 rfl (fun h29 => ?_) (fun h29 => ?_)
            · skip
              refine mv_iinc (pc := 49) (j := 0) (v := 1) B d_Weaver_areApart_49 rfl (by decide) (by decide) rfl ?_
              refine mv_goto (pc := 52) (tgt := 15) B d_Weaver_areApart_52 rfl ?_
              refine mv_lpick [0, 1, 2] rfl ?_
              exact go
            · skip
              refine mv_aload_n (pc := 32) B d_Weaver_areApart_32 rfl 2 rfl ?_
              refine mv_getR (pc := 33) (ci := 1) (C := R_Weaver) (T := F_Weaver) (N := 16) B 2 rfl rfl (by decide) i_Weaver (B.2.2.2.1 _ k_230) rfl (hR.1 _ 2 _ rfl) d_Weaver_areApart_33 ?_
              refine mv_iload_n (pc := 36) B d_Weaver_areApart_36 rfl 1 rfl ?_
              refine mv_bipush (pc := 37) (v := 7) B d_Weaver_areApart_37 (by decide) ?_
              refine mv_callVv (pc := 39) (n := 2) (ci := 5) (C := R_Faults) B (mK_ok sk sv) hNs rfl rfl (c_Faults_tell l hi _ _ _) rfl (ma_goodc kc_Faults_tell) (B.2.2.2.1 _ k_1286) (B.2.2.2.1 _ k_1287) (B.2.2.2.1 _ k_1288) (B.2.2.2.1 _ k_6) ⟨by decide +kernel, by decide +kernel, by decide +kernel⟩ rfl d_Weaver_areApart_39 rfl (Nat.le_of_ble_eq_true rfl) ⟨by decide, by decide⟩ ⟨by decide, by decide⟩ ⟨by decide, by decide⟩ (mv_noH hno _) (fun σ39 h39 => ?_)
              obtain ⟨x9, y9, e39, z39⟩ := tell_n (b := 7) (by decide) h39
              subst e39
              refine mv_aload_n (pc := 42) B d_Weaver_areApart_42 rfl 2 rfl ?_
              refine mv_iload_n (pc := 43) B d_Weaver_areApart_43 rfl 0 rfl ?_
              refine mv_putI (pc := 44) (ci := 1) (C := R_Weaver) (T := F_Weaver) (N := 16) B 4 rfl rfl (by decide) i_Weaver t_Weaver_ok n_Weaver (B.2.2.2.1 _ k_233) rfl rfl rfl rfl d_Weaver_areApart_44 ?_
              refine mv_iconst (pc := 47) (v := 0) B d_Weaver_areApart_47 (by decide) ?_
              exact mv_iret (pc := 48) B hr rfl d_Weaver_areApart_48 (Nat.le_refl _) (Nat.le_refl _) ⟨_, rfl, (WT0.tell _ _).w 4 _, Or.inl ⟨rfl, _, _, _, rfl⟩⟩
      refine mv_iload_n (pc := 2) B d_Weaver_areApart_2 rfl 0 rfl ?_
      refine mv_aload_n (pc := 3) B d_Weaver_areApart_3 rfl 1 rfl ?_
      refine mv_getR (pc := 4) (ci := 1) (C := R_Weaver) (T := F_Weaver) (N := 16) B 5 rfl rfl (by decide) i_Weaver (B.2.2.2.1 _ k_235) rfl hR.2.2.1 d_Weaver_areApart_4 ?_
      refine mv_getI (pc := 7) (ci := 7) (C := R_Program) (T := F_Program) (N := 19) B 10 rfl rfl (by decide) i_Program (B.2.2.2.1 _ k_347) rfl d_Weaver_areApart_7 ?_
      refine mv_icmp_ge (pc := 10) (tgt := 61) B d_Weaver_areApart_10 rfl (fun h10 => ?_) (fun h10 => ?_)
      · skip
        refine mv_iconst (pc := 61) (v := 1) B d_Weaver_areApart_61 (by decide) ?_
        exact mv_iret (pc := 62) B hr rfl d_Weaver_areApart_62 (Nat.le_refl _) (Nat.le_refl _) ⟨_, rfl, WT0, Or.inr ⟨rfl, rfl⟩⟩
      · skip
        rw [Int32.le_iff_toInt_le] at h10
        have go := l2 (by omega) (jj.toInt.toNat + 1) 0 (by decide) (by show (0 : Int) ≤ jj.toInt; omega) (by show (jj.toInt - 0).toNat < _; omega)
        refine mv_iconst (pc := 13) (v := 0) B d_Weaver_areApart_13 (by decide) ?_
        refine mv_istore_n (pc := 14) B d_Weaver_areApart_14 rfl (by decide) rfl ?_
        refine mv_lpick [0, 1, 2] rfl ?_
        exact go
  refine mv_iconst (pc := 0) (v := 1) B d_Weaver_areApart_0 (by decide) ?_
  refine mv_istore_n (pc := 1) B d_Weaver_areApart_1 rfl (by decide) rfl ?_
  refine mv_lpick [0, 1] rfl ?_
  exact lp _ _ (by decide) (Nat.lt_succ_self _)
set_option maxHeartbeats 4000000 in
set_option maxRecDepth 100000 in
theorem c_Weaver_areApart_b (l : Launch) {dA : FieldType → ClassId} {D : va_G} {al : Nat → Nat} {ext : mv_Sh} {sk sv : Nat → Nat} (hi : mv_inj (mg dA D al ext)) (σ : mv_H) (hR : Rw 48 (mv_r σ)) (no : Nat) (hno : (mv_i σ 48 10).toInt = no) (hno2 : no ≤ 512) : mv_C l y_Weaver_areApart (Cond.code y_Weaver_areApart b_Weaver_areApart 3 (Option.some Jvm.ClassFile.FieldType.boolean) :: ma) ({ frames := 1, cells := 0, slots := 0, locals := 22 }) (mg dA D al ext) (mK sk sv) [.ref (al 2)] σ (mv_Ri (fun v σ1 => WT 48 σ σ1 ∧ ((v = 0 ∧ ∃ x y z, σ1 = mv_si (ex_tell σ x y) 2 4 z) ∨ (v = 1 ∧ σ1 = σ)))) := by
  refine mv_C.ofV (cc := b_Weaver_areApart) (nL := 3) (ret := (Option.some Jvm.ClassFile.FieldType.boolean)) (by decide +kernel) rfl hi (Nat.le_of_ble_eq_true rfl) ?_
  intro p e s m below meth c B hNs hr hnm hno
  have lp : ∀ (nn : Nat) (jj : Int32) (q0 : 1 ≤ jj.toInt), (1000 - jj.toInt).toNat < nn → mv_V p l e ({ frames := 1, cells := 0, slots := 0, locals := 22 }) s m ([.ref (al 2)] : List Value).toArray below meth c (mg dA D al ext) 3 0 0 (mv_Q (mg dA D al ext) below s 0 0 (mv_Ri (fun v σ1 => WT 48 σ σ1 ∧ ((v = 0 ∧ ∃ x y z, σ1 = mv_si (ex_tell σ x y) 2 4 z) ∨ (v = 1 ∧ σ1 = σ))))) σ 2 [(1, .int jj), (0, .ref (al 2))] [] := by
    intro nn
    induction nn with
    | zero => intro jj q0 hm; exact absurd hm (Nat.not_lt_zero _)
    | succ nn ih =>
      intro jj q0 hm
      have l2 : ∀ (h10 : jj.toInt < (mv_i σ 48 10).toInt) (n2 : Nat) (kk : Int32) (p0 : 0 ≤ kk.toInt) (p1 : kk.toInt ≤ jj.toInt), (jj.toInt - kk.toInt).toNat < n2 → mv_V p l e ({ frames := 1, cells := 0, slots := 0, locals := 22 }) s m ([.ref (al 2)] : List Value).toArray below meth c (mg dA D al ext) 3 0 0 (mv_Q (mg dA D al ext) below s 0 0 (mv_Ri (fun v σ1 => WT 48 σ σ1 ∧ ((v = 0 ∧ ∃ x y z, σ1 = mv_si (ex_tell σ x y) 2 4 z) ∨ (v = 1 ∧ σ1 = σ))))) σ 15 [(2, .int kk), (1, .int jj), (0, .ref (al 2))] [] := by
        intro h10 n2
        induction n2 with
        | zero => intro kk p0 p1 hm2; exact absurd hm2 (Nat.not_lt_zero _)
        | succ n2 ih2 =>
          intro kk p0 p1 hm2
          refine mv_iload_n (pc := 15) B d_Weaver_areApart_15 rfl 0 rfl ?_
          refine mv_iload_n (pc := 16) B d_Weaver_areApart_16 rfl 1 rfl ?_
          refine mv_icmp_ge (pc := 17) (tgt := 55) B d_Weaver_areApart_17 rfl (fun h17 => ?_) (fun h17 => ?_)
          · skip
            rw [Int32.le_iff_toInt_le] at h17
            have w2 : (jj + 1).toInt = jj.toInt + 1 := i32_inc (by omega)
            have go2 := ih (jj + 1) (by omega) (by omega)
            refine mv_iinc (pc := 55) (j := 1) (v := 1) B d_Weaver_areApart_55 rfl (by decide) (by decide) rfl ?_
            refine mv_goto (pc := 58) (tgt := 2) B d_Weaver_areApart_58 rfl ?_
            refine mv_lpick [0, 2] rfl ?_
            exact go2
          · skip
            rw [Int32.le_iff_toInt_le] at h17
            have w3 : (kk + 1).toInt = kk.toInt + 1 := i32_inc (by omega)
            have go := ih2 (kk + 1) (by omega) (by omega) (by omega)
            refine mv_aload_n (pc := 20) B d_Weaver_areApart_20 rfl 2 rfl ?_
            refine mv_getR (pc := 21) (ci := 1) (C := R_Weaver) (T := F_Weaver) (N := 16) B 5 rfl rfl (by decide) i_Weaver (B.2.2.2.1 _ k_235) rfl hR.2.2.1 d_Weaver_areApart_21 ?_
            refine mv_iload_n (pc := 24) B d_Weaver_areApart_24 rfl 0 rfl ?_
            refine mv_iload_n (pc := 25) B d_Weaver_areApart_25 rfl 1 rfl ?_
            refine mv_callVi (pc := 26) (n := 2) (ci := 7) (C := R_Program) B (mK_ok sk sv) hNs rfl rfl (c_Program_apart_b l hi _ _ _ hR.2.1 (by omega) (by omega) (by omega) (by omega)) rfl (ma_goodc kc_Program_apart) (B.2.2.2.1 _ k_1544) (B.2.2.2.1 _ k_1545) (B.2.2.2.1 _ k_1546) (B.2.2.2.1 _ k_8) ⟨by decide +kernel, by decide +kernel, by decide +kernel⟩ rfl d_Weaver_areApart_26 rfl (Nat.le_of_ble_eq_true rfl) ⟨by decide, by decide⟩ ⟨by decide, by decide⟩ ⟨by decide, by decide⟩ (mv_noH hno _) (fun v26 σ26 h26 => ?_)
            obtain ⟨e26, -⟩ := h26
            have e26 := e26.symm
            subst e26
            refine mv_if_ne (pc := 29) (tgt := 49) B d_Weaver_areApart_29 rfl (fun h29 => ?_) (fun h29 => ?_)
            · skip
              refine mv_iinc (pc := 49) (j := 0) (v := 1) B d_Weaver_areApart_49 rfl (by decide) (by decide) rfl ?_
              refine mv_goto (pc := 52) (tgt := 15) B d_Weaver_areApart_52 rfl ?_
              refine mv_lpick [0, 1, 2] rfl ?_
              exact go
            · skip
              refine mv_aload_n (pc := 32) B d_Weaver_areApart_32 rfl 2 rfl ?_
              refine mv_getR (pc := 33) (ci := 1) (C := R_Weaver) (T := F_Weaver) (N := 16) B 2 rfl rfl (by decide) i_Weaver (B.2.2.2.1 _ k_230) rfl (hR.1 _ 2 _ rfl) d_Weaver_areApart_33 ?_
              refine mv_iload_n (pc := 36) B d_Weaver_areApart_36 rfl 1 rfl ?_
              refine mv_bipush (pc := 37) (v := 7) B d_Weaver_areApart_37 (by decide) ?_
              refine mv_callVv (pc := 39) (n := 2) (ci := 5) (C := R_Faults) B (mK_ok sk sv) hNs rfl rfl (c_Faults_tell l hi _ _ _) rfl (ma_goodc kc_Faults_tell) (B.2.2.2.1 _ k_1286) (B.2.2.2.1 _ k_1287) (B.2.2.2.1 _ k_1288) (B.2.2.2.1 _ k_6) ⟨by decide +kernel, by decide +kernel, by decide +kernel⟩ rfl d_Weaver_areApart_39 rfl (Nat.le_of_ble_eq_true rfl) ⟨by decide, by decide⟩ ⟨by decide, by decide⟩ ⟨by decide, by decide⟩ (mv_noH hno _) (fun σ39 h39 => ?_)
              obtain ⟨x9, y9, e39, z39⟩ := tell_n (b := 7) (by decide) h39
              subst e39
              refine mv_aload_n (pc := 42) B d_Weaver_areApart_42 rfl 2 rfl ?_
              refine mv_iload_n (pc := 43) B d_Weaver_areApart_43 rfl 0 rfl ?_
              refine mv_putI (pc := 44) (ci := 1) (C := R_Weaver) (T := F_Weaver) (N := 16) B 4 rfl rfl (by decide) i_Weaver t_Weaver_ok n_Weaver (B.2.2.2.1 _ k_233) rfl rfl rfl rfl d_Weaver_areApart_44 ?_
              refine mv_iconst (pc := 47) (v := 0) B d_Weaver_areApart_47 (by decide) ?_
              exact mv_iret (pc := 48) B hr rfl d_Weaver_areApart_48 (Nat.le_refl _) (Nat.le_refl _) ⟨_, rfl, (WT0.tell _ _).w 4 _, Or.inl ⟨rfl, _, _, _, rfl⟩⟩
      refine mv_iload_n (pc := 2) B d_Weaver_areApart_2 rfl 0 rfl ?_
      refine mv_aload_n (pc := 3) B d_Weaver_areApart_3 rfl 1 rfl ?_
      refine mv_getR (pc := 4) (ci := 1) (C := R_Weaver) (T := F_Weaver) (N := 16) B 5 rfl rfl (by decide) i_Weaver (B.2.2.2.1 _ k_235) rfl hR.2.2.1 d_Weaver_areApart_4 ?_
      refine mv_getI (pc := 7) (ci := 7) (C := R_Program) (T := F_Program) (N := 19) B 10 rfl rfl (by decide) i_Program (B.2.2.2.1 _ k_347) rfl d_Weaver_areApart_7 ?_
      refine mv_icmp_ge (pc := 10) (tgt := 61) B d_Weaver_areApart_10 rfl (fun h10 => ?_) (fun h10 => ?_)
      · skip
        refine mv_iconst (pc := 61) (v := 1) B d_Weaver_areApart_61 (by decide) ?_
        exact mv_iret (pc := 62) B hr rfl d_Weaver_areApart_62 (Nat.le_refl _) (Nat.le_refl _) ⟨_, rfl, WT0, Or.inr ⟨rfl, rfl⟩⟩
      · skip
        rw [Int32.le_iff_toInt_le] at h10
        have go := l2 (by omega) (jj.toInt.toNat + 1) 0 (by decide) (by show (0 : Int) ≤ jj.toInt; omega) (by show (jj.toInt - 0).toNat < _; omega)
        refine mv_iconst (pc := 13) (v := 0) B d_Weaver_areApart_13 (by decide) ?_
        refine mv_istore_n (pc := 14) B d_Weaver_areApart_14 rfl (by decide) rfl ?_
        refine mv_lpick [0, 1, 2] rfl ?_
        exact go
  refine mv_iconst (pc := 0) (v := 1) B d_Weaver_areApart_0 (by decide) ?_
  refine mv_istore_n (pc := 1) B d_Weaver_areApart_1 rfl (by decide) rfl ?_
  refine mv_lpick [0, 1] rfl ?_
  exact lp _ _ (by decide) (Nat.lt_succ_self _)
set_option maxHeartbeats 4000000 in
set_option maxRecDepth 100000 in
theorem c_Weaver_areApart_c (l : Launch) {dA : FieldType → ClassId} {D : va_G} {al : Nat → Nat} {sk sv : Nat → Nat} (hi : mv_inj (mg dA D al me)) (σ : mv_H) (hR : Rw 145 (mv_r σ)) (no : Nat) (hno : (mv_i σ 145 10).toInt = no) (hno2 : no ≤ 48) : mv_C l y_Weaver_areApart (Cond.code y_Weaver_areApart b_Weaver_areApart 3 (Option.some Jvm.ClassFile.FieldType.boolean) :: ma) ({ frames := 1, cells := 0, slots := 0, locals := 22 }) (mg dA D al me) (mK sk sv) [.ref (al 2)] σ (mv_Ri (fun v σ1 => WT 145 σ σ1 ∧ ((v = 0 ∧ ∃ x y z, σ1 = mv_si (ex_tell σ x y) 2 4 z) ∨ (v = 1 ∧ σ1 = σ)))) := by
  refine mv_C.ofV (cc := b_Weaver_areApart) (nL := 3) (ret := (Option.some Jvm.ClassFile.FieldType.boolean)) (by decide +kernel) rfl hi (Nat.le_of_ble_eq_true rfl) ?_
  intro p e s m below meth c B hNs hr hnm hno
  have lp : ∀ (nn : Nat) (jj : Int32) (q0 : 1 ≤ jj.toInt), (1000 - jj.toInt).toNat < nn → mv_V p l e ({ frames := 1, cells := 0, slots := 0, locals := 22 }) s m ([.ref (al 2)] : List Value).toArray below meth c (mg dA D al me) 3 0 0 (mv_Q (mg dA D al me) below s 0 0 (mv_Ri (fun v σ1 => WT 145 σ σ1 ∧ ((v = 0 ∧ ∃ x y z, σ1 = mv_si (ex_tell σ x y) 2 4 z) ∨ (v = 1 ∧ σ1 = σ))))) σ 2 [(1, .int jj), (0, .ref (al 2))] [] := by
    intro nn
    induction nn with
    | zero => intro jj q0 hm; exact absurd hm (Nat.not_lt_zero _)
    | succ nn ih =>
      intro jj q0 hm
      have l2 : ∀ (h10 : jj.toInt < (mv_i σ 145 10).toInt) (n2 : Nat) (kk : Int32) (p0 : 0 ≤ kk.toInt) (p1 : kk.toInt ≤ jj.toInt), (jj.toInt - kk.toInt).toNat < n2 → mv_V p l e ({ frames := 1, cells := 0, slots := 0, locals := 22 }) s m ([.ref (al 2)] : List Value).toArray below meth c (mg dA D al me) 3 0 0 (mv_Q (mg dA D al me) below s 0 0 (mv_Ri (fun v σ1 => WT 145 σ σ1 ∧ ((v = 0 ∧ ∃ x y z, σ1 = mv_si (ex_tell σ x y) 2 4 z) ∨ (v = 1 ∧ σ1 = σ))))) σ 15 [(2, .int kk), (1, .int jj), (0, .ref (al 2))] [] := by
        intro h10 n2
        induction n2 with
        | zero => intro kk p0 p1 hm2; exact absurd hm2 (Nat.not_lt_zero _)
        | succ n2 ih2 =>
          intro kk p0 p1 hm2
          refine mv_iload_n (pc := 15) B d_Weaver_areApart_15 rfl 0 rfl ?_
          refine mv_iload_n (pc := 16) B d_Weaver_areApart_16 rfl 1 rfl ?_
          refine mv_icmp_ge (pc := 17) (tgt := 55) B d_Weaver_areApart_17 rfl (fun h17 => ?_) (fun h17 => ?_)
          · skip
            rw [Int32.le_iff_toInt_le] at h17
            have w2 : (jj + 1).toInt = jj.toInt + 1 := i32_inc (by omega)
            have go2 := ih (jj + 1) (by omega) (by omega)
            refine mv_iinc (pc := 55) (j := 1) (v := 1) B d_Weaver_areApart_55 rfl (by decide) (by decide) rfl ?_
            refine mv_goto (pc := 58) (tgt := 2) B d_Weaver_areApart_58 rfl ?_
            refine mv_lpick [0, 2] rfl ?_
            exact go2
          · skip
            rw [Int32.le_iff_toInt_le] at h17
            have w3 : (kk + 1).toInt = kk.toInt + 1 := i32_inc (by omega)
            have go := ih2 (kk + 1) (by omega) (by omega) (by omega)
            refine mv_aload_n (pc := 20) B d_Weaver_areApart_20 rfl 2 rfl ?_
            refine mv_getR (pc := 21) (ci := 1) (C := R_Weaver) (T := F_Weaver) (N := 16) B 5 rfl rfl (by decide) i_Weaver (B.2.2.2.1 _ k_235) rfl hR.2.2.1 d_Weaver_areApart_21 ?_
            refine mv_iload_n (pc := 24) B d_Weaver_areApart_24 rfl 0 rfl ?_
            refine mv_iload_n (pc := 25) B d_Weaver_areApart_25 rfl 1 rfl ?_
            refine mv_callVi (pc := 26) (n := 2) (ci := 7) (C := R_Program) B (mK_ok sk sv) hNs rfl rfl (c_Program_apart_c l hi _ _ _ hR.2.1 (by omega) (by omega) (by omega) (by omega)) rfl (ma_goodc kc_Program_apart) (B.2.2.2.1 _ k_1544) (B.2.2.2.1 _ k_1545) (B.2.2.2.1 _ k_1546) (B.2.2.2.1 _ k_8) ⟨by decide +kernel, by decide +kernel, by decide +kernel⟩ rfl d_Weaver_areApart_26 rfl (Nat.le_of_ble_eq_true rfl) ⟨by decide, by decide⟩ ⟨by decide, by decide⟩ ⟨by decide, by decide⟩ (mv_noH hno _) (fun v26 σ26 h26 => ?_)
            obtain ⟨e26, -⟩ := h26
            have e26 := e26.symm
            subst e26
            refine mv_if_ne (pc := 29) (tgt := 49) B d_Weaver_areApart_29 rfl (fun h29 => ?_) (fun h29 => ?_)
            · skip
              refine mv_iinc (pc := 49) (j := 0) (v := 1) B d_Weaver_areApart_49 rfl (by decide) (by decide) rfl ?_
              refine mv_goto (pc := 52) (tgt := 15) B d_Weaver_areApart_52 rfl ?_
              refine mv_lpick [0, 1, 2] rfl ?_
              exact go
            · skip
              refine mv_aload_n (pc := 32) B d_Weaver_areApart_32 rfl 2 rfl ?_
              refine mv_getR (pc := 33) (ci := 1) (C := R_Weaver) (T := F_Weaver) (N := 16) B 2 rfl rfl (by decide) i_Weaver (B.2.2.2.1 _ k_230) rfl (hR.1 _ 2 _ rfl) d_Weaver_areApart_33 ?_
              refine mv_iload_n (pc := 36) B d_Weaver_areApart_36 rfl 1 rfl ?_
              refine mv_bipush (pc := 37) (v := 7) B d_Weaver_areApart_37 (by decide) ?_
              refine mv_callVv (pc := 39) (n := 2) (ci := 5) (C := R_Faults) B (mK_ok sk sv) hNs rfl rfl (c_Faults_tell l hi _ _ _) rfl (ma_goodc kc_Faults_tell) (B.2.2.2.1 _ k_1286) (B.2.2.2.1 _ k_1287) (B.2.2.2.1 _ k_1288) (B.2.2.2.1 _ k_6) ⟨by decide +kernel, by decide +kernel, by decide +kernel⟩ rfl d_Weaver_areApart_39 rfl (Nat.le_of_ble_eq_true rfl) ⟨by decide, by decide⟩ ⟨by decide, by decide⟩ ⟨by decide, by decide⟩ (mv_noH hno _) (fun σ39 h39 => ?_)
              obtain ⟨x9, y9, e39, z39⟩ := tell_n (b := 7) (by decide) h39
              subst e39
              refine mv_aload_n (pc := 42) B d_Weaver_areApart_42 rfl 2 rfl ?_
              refine mv_iload_n (pc := 43) B d_Weaver_areApart_43 rfl 0 rfl ?_
              refine mv_putI (pc := 44) (ci := 1) (C := R_Weaver) (T := F_Weaver) (N := 16) B 4 rfl rfl (by decide) i_Weaver t_Weaver_ok n_Weaver (B.2.2.2.1 _ k_233) rfl rfl rfl rfl d_Weaver_areApart_44 ?_
              refine mv_iconst (pc := 47) (v := 0) B d_Weaver_areApart_47 (by decide) ?_
              exact mv_iret (pc := 48) B hr rfl d_Weaver_areApart_48 (Nat.le_refl _) (Nat.le_refl _) ⟨_, rfl, (WT0.tell _ _).w 4 _, Or.inl ⟨rfl, _, _, _, rfl⟩⟩
      refine mv_iload_n (pc := 2) B d_Weaver_areApart_2 rfl 0 rfl ?_
      refine mv_aload_n (pc := 3) B d_Weaver_areApart_3 rfl 1 rfl ?_
      refine mv_getR (pc := 4) (ci := 1) (C := R_Weaver) (T := F_Weaver) (N := 16) B 5 rfl rfl (by decide) i_Weaver (B.2.2.2.1 _ k_235) rfl hR.2.2.1 d_Weaver_areApart_4 ?_
      refine mv_getI (pc := 7) (ci := 7) (C := R_Program) (T := F_Program) (N := 19) B 10 rfl rfl (by decide) i_Program (B.2.2.2.1 _ k_347) rfl d_Weaver_areApart_7 ?_
      refine mv_icmp_ge (pc := 10) (tgt := 61) B d_Weaver_areApart_10 rfl (fun h10 => ?_) (fun h10 => ?_)
      · skip
        refine mv_iconst (pc := 61) (v := 1) B d_Weaver_areApart_61 (by decide) ?_
        exact mv_iret (pc := 62) B hr rfl d_Weaver_areApart_62 (Nat.le_refl _) (Nat.le_refl _) ⟨_, rfl, WT0, Or.inr ⟨rfl, rfl⟩⟩
      · skip
        rw [Int32.le_iff_toInt_le] at h10
        have go := l2 (by omega) (jj.toInt.toNat + 1) 0 (by decide) (by show (0 : Int) ≤ jj.toInt; omega) (by show (jj.toInt - 0).toNat < _; omega)
        refine mv_iconst (pc := 13) (v := 0) B d_Weaver_areApart_13 (by decide) ?_
        refine mv_istore_n (pc := 14) B d_Weaver_areApart_14 rfl (by decide) rfl ?_
        refine mv_lpick [0, 1, 2] rfl ?_
        exact go
  refine mv_iconst (pc := 0) (v := 1) B d_Weaver_areApart_0 (by decide) ?_
  refine mv_istore_n (pc := 1) B d_Weaver_areApart_1 rfl (by decide) rfl ?_
  refine mv_lpick [0, 1] rfl ?_
  exact lp _ _ (by decide) (Nat.lt_succ_self _)
