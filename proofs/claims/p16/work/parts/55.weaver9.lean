/-! Weaver: closeBlock -/
def y_Weaver_closeBlock : MethodName := ⟨"MachineLoom$Weaver", "closeBlock", "()V"⟩
abbrev b_Weaver_closeBlock : ByteArray := prog_12_method_15_code
theorem kc_Weaver_closeBlock : Cond.code y_Weaver_closeBlock b_Weaver_closeBlock 3 (Option.none : Option Jvm.ClassFile.FieldType) ∈ ma := ma_of (tb_6 _ (List.mem_of_getElem? (i := 195) rfl)) rfl
theorem k_1402 : (Jvm.Cond.methodLink "MachineLoom$Weaver" (257 : Nat) ({ cls := "MachineLoom$Program", name := "aim", desc := "(I)V" } : Jvm.MethodName)) ∈ ma := ma_of (tb_6 _ (List.mem_of_getElem? (i := 202) rfl)) rfl
theorem k_1406 : (Jvm.Cond.methodLink "MachineLoom$Weaver" (263 : Nat) ({ cls := "MachineLoom$Program", name := "aimAll", desc := "(I)V" } : Jvm.MethodName)) ∈ ma := ma_of (tb_6 _ (List.mem_of_getElem? (i := 206) rfl)) rfl
theorem k_1407 : (Jvm.Cond.instanceMethod ({ cls := "MachineLoom$Program", name := "aimAll", desc := "(I)V" } : Jvm.MethodName)) ∈ ma := ma_of (tb_6 _ (List.mem_of_getElem? (i := 207) rfl)) rfl
theorem k_1408 : (Jvm.Cond.selects "MachineLoom$Program" ({ cls := "MachineLoom$Program", name := "aimAll", desc := "(I)V" } : Jvm.MethodName) ({ cls := "MachineLoom$Program", name := "aimAll", desc := "(I)V" } : Jvm.MethodName)) ∈ ma := ma_of (tb_6 _ (List.mem_of_getElem? (i := 208) rfl)) rfl
theorem k_1384 : (Jvm.Cond.methodLink "MachineLoom$Weaver" (250 : Nat) ({ cls := "MachineLoom$Program", name := "emit", desc := "(IJ)I" } : Jvm.MethodName)) ∈ ma := ma_of (tb_6 _ (List.mem_of_getElem? (i := 184) rfl)) rfl
theorem k_1388 : (Jvm.Cond.methodLink "MachineLoom$Weaver" (260 : Nat) ({ cls := "MachineLoom$Weaver", name := "beginIf", desc := "(I)V" } : Jvm.MethodName)) ∈ ma := ma_of (tb_6 _ (List.mem_of_getElem? (i := 188) rfl)) rfl
theorem k_1390 : (Jvm.Cond.instanceMethod ({ cls := "MachineLoom$Weaver", name := "beginIf", desc := "(I)V" } : Jvm.MethodName)) ∈ ma := ma_of (tb_6 _ (List.mem_of_getElem? (i := 190) rfl)) rfl
theorem ks_46 : Cond.selects "MachineLoom$Weaver" ⟨"MachineLoom$Weaver", "beginIf", "(I)V"⟩ ⟨"MachineLoom$Weaver", "beginIf", "(I)V"⟩ ∈ ma := ma_sel 46 rfl rfl
theorem k_1401 : (Jvm.Cond.methodLink "MachineLoom$Weaver" (254 : Nat) ({ cls := "MachineLoom$Names", name := "leaveOp", desc := "()V" } : Jvm.MethodName)) ∈ ma := ma_of (tb_6 _ (List.mem_of_getElem? (i := 201) rfl)) rfl
theorem k_1396 : (Jvm.Cond.methodLink "MachineLoom$Weaver" (243 : Nat) ({ cls := "MachineLoom$Tokens", name := "close", desc := "(I)I" } : Jvm.MethodName)) ∈ ma := ma_of (tb_6 _ (List.mem_of_getElem? (i := 196) rfl)) rfl
theorem k_1400 : (Jvm.Cond.methodLink "MachineLoom$Weaver" (246 : Nat) ({ cls := "MachineLoom$Names", name := "forget", desc := "(I)V" } : Jvm.MethodName)) ∈ ma := ma_of (tb_6 _ (List.mem_of_getElem? (i := 200) rfl)) rfl
theorem d_Weaver_closeBlock_0 : decode b_Weaver_closeBlock 0 = .ok (.aload_n 0, 1) := by decide +kernel
theorem d_Weaver_closeBlock_1 : decode b_Weaver_closeBlock 1 = .ok (.getfield 12, 3) := by decide +kernel
theorem d_Weaver_closeBlock_4 : decode b_Weaver_closeBlock 4 = .ok (.bipush 125, 2) := by decide +kernel
theorem d_Weaver_closeBlock_6 : decode b_Weaver_closeBlock 6 = .ok (.invokevirtual 243, 3) := by decide +kernel
theorem d_Weaver_closeBlock_9 : decode b_Weaver_closeBlock 9 = .ok (.pop, 1) := by decide +kernel
theorem d_Weaver_closeBlock_10 : decode b_Weaver_closeBlock 10 = .ok (.aload_n 0, 1) := by decide +kernel
theorem d_Weaver_closeBlock_11 : decode b_Weaver_closeBlock 11 = .ok (.dup, 1) := by decide +kernel
theorem d_Weaver_closeBlock_12 : decode b_Weaver_closeBlock 12 = .ok (.getfield 133, 3) := by decide +kernel
theorem d_Weaver_closeBlock_15 : decode b_Weaver_closeBlock 15 = .ok (.iconst 1, 1) := by decide +kernel
theorem d_Weaver_closeBlock_16 : decode b_Weaver_closeBlock 16 = .ok (.isub, 1) := by decide +kernel
theorem d_Weaver_closeBlock_17 : decode b_Weaver_closeBlock 17 = .ok (.putfield 133, 3) := by decide +kernel
theorem d_Weaver_closeBlock_20 : decode b_Weaver_closeBlock 20 = .ok (.aload_n 0, 1) := by decide +kernel
theorem d_Weaver_closeBlock_21 : decode b_Weaver_closeBlock 21 = .ok (.getfield 27, 3) := by decide +kernel
theorem d_Weaver_closeBlock_24 : decode b_Weaver_closeBlock 24 = .ok (.aload_n 0, 1) := by decide +kernel
theorem d_Weaver_closeBlock_25 : decode b_Weaver_closeBlock 25 = .ok (.getfield 57, 3) := by decide +kernel
theorem d_Weaver_closeBlock_28 : decode b_Weaver_closeBlock 28 = .ok (.aload_n 0, 1) := by decide +kernel
theorem d_Weaver_closeBlock_29 : decode b_Weaver_closeBlock 29 = .ok (.getfield 133, 3) := by decide +kernel
theorem d_Weaver_closeBlock_32 : decode b_Weaver_closeBlock 32 = .ok (.iaload, 1) := by decide +kernel
theorem d_Weaver_closeBlock_33 : decode b_Weaver_closeBlock 33 = .ok (.invokevirtual 246, 3) := by decide +kernel
theorem d_Weaver_closeBlock_36 : decode b_Weaver_closeBlock 36 = .ok (.aload_n 0, 1) := by decide +kernel
theorem d_Weaver_closeBlock_37 : decode b_Weaver_closeBlock 37 = .ok (.getfield 47, 3) := by decide +kernel
theorem d_Weaver_closeBlock_40 : decode b_Weaver_closeBlock 40 = .ok (.aload_n 0, 1) := by decide +kernel
theorem d_Weaver_closeBlock_41 : decode b_Weaver_closeBlock 41 = .ok (.getfield 133, 3) := by decide +kernel
theorem d_Weaver_closeBlock_44 : decode b_Weaver_closeBlock 44 = .ok (.iaload, 1) := by decide +kernel
theorem d_Weaver_closeBlock_45 : decode b_Weaver_closeBlock 45 = .ok (.istore_n 1, 1) := by decide +kernel
theorem d_Weaver_closeBlock_46 : decode b_Weaver_closeBlock 46 = .ok (.iload_n 1, 1) := by decide +kernel
theorem d_Weaver_closeBlock_47 : decode b_Weaver_closeBlock 47 = .ok (.sipush 206, 3) := by decide +kernel
theorem d_Weaver_closeBlock_50 : decode b_Weaver_closeBlock 50 = .ok (.if_icmp .ne (30), 3) := by decide +kernel
theorem d_Weaver_closeBlock_53 : decode b_Weaver_closeBlock 53 = .ok (.aload_n 0, 1) := by decide +kernel
theorem d_Weaver_closeBlock_54 : decode b_Weaver_closeBlock 54 = .ok (.getfield 113, 3) := by decide +kernel
theorem d_Weaver_closeBlock_57 : decode b_Weaver_closeBlock 57 = .ok (.sipush 317, 3) := by decide +kernel
theorem d_Weaver_closeBlock_60 : decode b_Weaver_closeBlock 60 = .ok (.lconst 0, 1) := by decide +kernel
theorem d_Weaver_closeBlock_61 : decode b_Weaver_closeBlock 61 = .ok (.invokevirtual 250, 3) := by decide +kernel
theorem d_Weaver_closeBlock_64 : decode b_Weaver_closeBlock 64 = .ok (.pop, 1) := by decide +kernel
theorem d_Weaver_closeBlock_65 : decode b_Weaver_closeBlock 65 = .ok (.aload_n 0, 1) := by decide +kernel
theorem d_Weaver_closeBlock_66 : decode b_Weaver_closeBlock 66 = .ok (.getfield 27, 3) := by decide +kernel
theorem d_Weaver_closeBlock_69 : decode b_Weaver_closeBlock 69 = .ok (.invokevirtual 254, 3) := by decide +kernel
theorem d_Weaver_closeBlock_72 : decode b_Weaver_closeBlock 72 = .ok (.aload_n 0, 1) := by decide +kernel
theorem d_Weaver_closeBlock_73 : decode b_Weaver_closeBlock 73 = .ok (.iconst 0, 1) := by decide +kernel
theorem d_Weaver_closeBlock_74 : decode b_Weaver_closeBlock 74 = .ok (.putfield 75, 3) := by decide +kernel
theorem d_Weaver_closeBlock_77 : decode b_Weaver_closeBlock 77 = .ok (.goto (136), 3) := by decide +kernel
theorem d_Weaver_closeBlock_80 : decode b_Weaver_closeBlock 80 = .ok (.iload_n 1, 1) := by decide +kernel
theorem d_Weaver_closeBlock_81 : decode b_Weaver_closeBlock 81 = .ok (.sipush 209, 3) := by decide +kernel
theorem d_Weaver_closeBlock_84 : decode b_Weaver_closeBlock 84 = .ok (.if_icmp .ne (97), 3) := by decide +kernel
theorem d_Weaver_closeBlock_87 : decode b_Weaver_closeBlock 87 = .ok (.aload_n 0, 1) := by decide +kernel
theorem d_Weaver_closeBlock_88 : decode b_Weaver_closeBlock 88 = .ok (.getfield 12, 3) := by decide +kernel
theorem d_Weaver_closeBlock_91 : decode b_Weaver_closeBlock 91 = .ok (.invokevirtual 159, 3) := by decide +kernel
theorem d_Weaver_closeBlock_94 : decode b_Weaver_closeBlock 94 = .ok (.sipush 210, 3) := by decide +kernel
theorem d_Weaver_closeBlock_97 : decode b_Weaver_closeBlock 97 = .ok (.if_icmp .ne (84), 3) := by decide +kernel
theorem d_Weaver_closeBlock_100 : decode b_Weaver_closeBlock 100 = .ok (.aload_n 0, 1) := by decide +kernel
theorem d_Weaver_closeBlock_101 : decode b_Weaver_closeBlock 101 = .ok (.getfield 12, 3) := by decide +kernel
theorem d_Weaver_closeBlock_104 : decode b_Weaver_closeBlock 104 = .ok (.sipush 210, 3) := by decide +kernel
theorem d_Weaver_closeBlock_107 : decode b_Weaver_closeBlock 107 = .ok (.invokevirtual 143, 3) := by decide +kernel
theorem d_Weaver_closeBlock_110 : decode b_Weaver_closeBlock 110 = .ok (.pop, 1) := by decide +kernel
theorem d_Weaver_closeBlock_111 : decode b_Weaver_closeBlock 111 = .ok (.aload_n 0, 1) := by decide +kernel
theorem d_Weaver_closeBlock_112 : decode b_Weaver_closeBlock 112 = .ok (.getfield 113, 3) := by decide +kernel
theorem d_Weaver_closeBlock_115 : decode b_Weaver_closeBlock 115 = .ok (.sipush 311, 3) := by decide +kernel
theorem d_Weaver_closeBlock_118 : decode b_Weaver_closeBlock 118 = .ok (.aload_n 0, 1) := by decide +kernel
theorem d_Weaver_closeBlock_119 : decode b_Weaver_closeBlock 119 = .ok (.getfield 54, 3) := by decide +kernel
theorem d_Weaver_closeBlock_122 : decode b_Weaver_closeBlock 122 = .ok (.aload_n 0, 1) := by decide +kernel
theorem d_Weaver_closeBlock_123 : decode b_Weaver_closeBlock 123 = .ok (.getfield 133, 3) := by decide +kernel
theorem d_Weaver_closeBlock_126 : decode b_Weaver_closeBlock 126 = .ok (.iaload, 1) := by decide +kernel
theorem d_Weaver_closeBlock_127 : decode b_Weaver_closeBlock 127 = .ok (.i2l, 1) := by decide +kernel
theorem d_Weaver_closeBlock_128 : decode b_Weaver_closeBlock 128 = .ok (.invokevirtual 250, 3) := by decide +kernel
theorem d_Weaver_closeBlock_131 : decode b_Weaver_closeBlock 131 = .ok (.istore_n 2, 1) := by decide +kernel
theorem d_Weaver_closeBlock_132 : decode b_Weaver_closeBlock 132 = .ok (.aload_n 0, 1) := by decide +kernel
theorem d_Weaver_closeBlock_133 : decode b_Weaver_closeBlock 133 = .ok (.getfield 113, 3) := by decide +kernel
theorem d_Weaver_closeBlock_136 : decode b_Weaver_closeBlock 136 = .ok (.aload_n 0, 1) := by decide +kernel
theorem d_Weaver_closeBlock_137 : decode b_Weaver_closeBlock 137 = .ok (.getfield 51, 3) := by decide +kernel
theorem d_Weaver_closeBlock_140 : decode b_Weaver_closeBlock 140 = .ok (.aload_n 0, 1) := by decide +kernel
theorem d_Weaver_closeBlock_141 : decode b_Weaver_closeBlock 141 = .ok (.getfield 133, 3) := by decide +kernel
theorem d_Weaver_closeBlock_144 : decode b_Weaver_closeBlock 144 = .ok (.iaload, 1) := by decide +kernel
theorem d_Weaver_closeBlock_145 : decode b_Weaver_closeBlock 145 = .ok (.invokevirtual 257, 3) := by decide +kernel
theorem d_Weaver_closeBlock_148 : decode b_Weaver_closeBlock 148 = .ok (.aload_n 0, 1) := by decide +kernel
theorem d_Weaver_closeBlock_149 : decode b_Weaver_closeBlock 149 = .ok (.getfield 12, 3) := by decide +kernel
theorem d_Weaver_closeBlock_152 : decode b_Weaver_closeBlock 152 = .ok (.invokevirtual 159, 3) := by decide +kernel
theorem d_Weaver_closeBlock_155 : decode b_Weaver_closeBlock 155 = .ok (.sipush 209, 3) := by decide +kernel
theorem d_Weaver_closeBlock_158 : decode b_Weaver_closeBlock 158 = .ok (.if_icmp .ne (11), 3) := by decide +kernel
theorem d_Weaver_closeBlock_161 : decode b_Weaver_closeBlock 161 = .ok (.aload_n 0, 1) := by decide +kernel
theorem d_Weaver_closeBlock_162 : decode b_Weaver_closeBlock 162 = .ok (.iload_n 2, 1) := by decide +kernel
theorem d_Weaver_closeBlock_163 : decode b_Weaver_closeBlock 163 = .ok (.invokevirtual 260, 3) := by decide +kernel
theorem d_Weaver_closeBlock_166 : decode b_Weaver_closeBlock 166 = .ok (.goto (12), 3) := by decide +kernel
theorem d_Weaver_closeBlock_169 : decode b_Weaver_closeBlock 169 = .ok (.aload_n 0, 1) := by decide +kernel
theorem d_Weaver_closeBlock_170 : decode b_Weaver_closeBlock 170 = .ok (.sipush 210, 3) := by decide +kernel
theorem d_Weaver_closeBlock_173 : decode b_Weaver_closeBlock 173 = .ok (.iconst (-1), 1) := by decide +kernel
theorem d_Weaver_closeBlock_174 : decode b_Weaver_closeBlock 174 = .ok (.iload_n 2, 1) := by decide +kernel
theorem d_Weaver_closeBlock_175 : decode b_Weaver_closeBlock 175 = .ok (.invokevirtual 218, 3) := by decide +kernel
theorem d_Weaver_closeBlock_178 : decode b_Weaver_closeBlock 178 = .ok (.goto (35), 3) := by decide +kernel
theorem d_Weaver_closeBlock_181 : decode b_Weaver_closeBlock 181 = .ok (.aload_n 0, 1) := by decide +kernel
theorem d_Weaver_closeBlock_182 : decode b_Weaver_closeBlock 182 = .ok (.getfield 113, 3) := by decide +kernel
theorem d_Weaver_closeBlock_185 : decode b_Weaver_closeBlock 185 = .ok (.aload_n 0, 1) := by decide +kernel
theorem d_Weaver_closeBlock_186 : decode b_Weaver_closeBlock 186 = .ok (.getfield 51, 3) := by decide +kernel
theorem d_Weaver_closeBlock_189 : decode b_Weaver_closeBlock 189 = .ok (.aload_n 0, 1) := by decide +kernel
theorem d_Weaver_closeBlock_190 : decode b_Weaver_closeBlock 190 = .ok (.getfield 133, 3) := by decide +kernel
theorem d_Weaver_closeBlock_193 : decode b_Weaver_closeBlock 193 = .ok (.iaload, 1) := by decide +kernel
theorem d_Weaver_closeBlock_194 : decode b_Weaver_closeBlock 194 = .ok (.invokevirtual 257, 3) := by decide +kernel
theorem d_Weaver_closeBlock_197 : decode b_Weaver_closeBlock 197 = .ok (.aload_n 0, 1) := by decide +kernel
theorem d_Weaver_closeBlock_198 : decode b_Weaver_closeBlock 198 = .ok (.getfield 113, 3) := by decide +kernel
theorem d_Weaver_closeBlock_201 : decode b_Weaver_closeBlock 201 = .ok (.aload_n 0, 1) := by decide +kernel
theorem d_Weaver_closeBlock_202 : decode b_Weaver_closeBlock 202 = .ok (.getfield 54, 3) := by decide +kernel
theorem d_Weaver_closeBlock_205 : decode b_Weaver_closeBlock 205 = .ok (.aload_n 0, 1) := by decide +kernel
theorem d_Weaver_closeBlock_206 : decode b_Weaver_closeBlock 206 = .ok (.getfield 133, 3) := by decide +kernel
theorem d_Weaver_closeBlock_209 : decode b_Weaver_closeBlock 209 = .ok (.iaload, 1) := by decide +kernel
theorem d_Weaver_closeBlock_210 : decode b_Weaver_closeBlock 210 = .ok (.invokevirtual 263, 3) := by decide +kernel
theorem d_Weaver_closeBlock_213 : decode b_Weaver_closeBlock 213 = .ok (.return_, 1) := by decide +kernel
set_option maxHeartbeats 4000000 in
set_option maxRecDepth 100000 in
theorem c_Weaver_closeBlock_a (l : Launch) {dA : FieldType → ClassId} {D : va_G} {al : Nat → Nat} {ext : mv_Sh} {sk sv : Nat → Nat} (hi : mv_inj (mg dA D al ext)) (σ : mv_H) (u8 : Int32) (ex : List Nat) (r : List Bk) {t tn len n z sz th sl s0 a ns no : Nat} (hG : WG 32 32768 512 ext σ t tn len n z sz) (hM : Mt (mv_a σ 24)) (hW : WN 32 512 σ n th sl no) (hS : WS 32 σ sz th s0 a ns no ((u8, ex) :: r)) (hm1 : mv_i σ 2 6 = 1) (hk3 : mv_a σ 4 (mv_i σ 3 7).toNatClampNeg = 125) : mv_C l y_Weaver_closeBlock (Cond.code y_Weaver_closeBlock b_Weaver_closeBlock 3 (Option.none : Option Jvm.ClassFile.FieldType) :: ma) ({ frames := 4, cells := 0, slots := 0, locals := 86 }) (mg dA D al ext) (mK sk sv) [.ref (al 2)] σ (mv_Rv (fun σ1 => TP 32 512 σ σ1 n sz a)) := by
  refine mv_C.ofV (cc := b_Weaver_closeBlock) (nL := 3) (ret := (Option.none : Option Jvm.ClassFile.FieldType)) (by decide +kernel) rfl hi (Nat.le_of_ble_eq_true rfl) ?_
  intro p e s m below meth c B hNs hr hnm hno
  have hP : PQ 32 := by unfold PQ; omega
  have hR := hG.1
  have ht2 := hG.2.1.2.2.2.2.2.2
  have hF : EF σ σ := Fr.rf
  have hN : mv_i σ 21 0 = 0 → mv_i σ 21 0 = 0 := fun q => q
  have hE := hG.2.2.1
  have hsz := hE.2.2.2.2.2
  have hsz2 := hE.2.2.2.1
  have hlen := hG.2.2.2.2.1
  have hlen2 := hG.2.2.2.2.2
  have t7 := hS.1.1
  have hw9 := hS.1.2.1
  have ha9 := hS.1.2.2.2.2.1
  have t9 : (mv_i σ 3 9).toInt = (mv_i σ 3 9).toInt := rfl
  have t8 : (mv_i σ 3 8).toInt = (mv_i σ 3 8).toInt := rfl
  have kp : mv_a σ 4 = mv_a σ 4 := rfl
  have k6 : mv_b σ 6 = mv_b σ 6 := rfl
  have hs5 := hS.1.2.2.2.2.2.1
  have hs6 := hS.1.2.2.2.2.2.2.1
  have hd8 := hS.1.2.2.1
  have hd9 := hS.1.2.2.2.1
  obtain ⟨hB1, hB2, hB3, hB4, hB5, hB6, hB7⟩ := hS.2.1.2.1
  have hlb : (((u8, ex) : Bk) :: r).length = r.length + 1 := rfl
  have hb15 := hS.2.1.1
  have j36 : ∀ (υ : mv_H) (u8 x8 : Int32) (ex : List Nat) (r : List Bk) (hR : Rw 32 (mv_r υ)) (hV : WT 32 σ υ) (hMt : Mt (mv_a υ 24)) (hW3 : WN 32 512 υ n th sl no) (hK : KB 32 υ th s0 ns no u8 x8 ex r) (u7 : (mv_i υ 3 7).toInt = a + 1) (u6 : a + 1 < sz) (ud : (r.length : Int) ≤ (mv_i υ 3 8).toInt ∧ (mv_i υ 3 8).toInt ≤ 60) (u9 : (mv_i υ 3 9).toInt < 0) (hm1 : mv_i υ 2 6 = 1) (hrow : mv_a υ 28 r.length = 206 ↔ r = []) (hz : r = [] → u8 = -1 ∧ ex = []) (hu : mv_a υ 29 r.length = u8) (hx : mv_a υ 30 r.length = x8) (hnc : no ≤ nCd (mv_a υ 4) (a + 1)), mv_V p l e ({ frames := 4, cells := 0, slots := 0, locals := 86 }) s m ([.ref (al 2)] : List Value).toArray below meth c (mg dA D al ext) 3 0 0 (mv_Q (mg dA D al ext) below s 0 0 (mv_Rv (fun σ1 => TP 32 512 σ σ1 n sz a))) υ 36 [(0, .ref (al 2))] [] := by
    intro υ u8 x8 ex r hR hV hMt hW3 hK u7 u6 ud u9 hm1 hrow hz hu hx hnc
    have hb15 := hK.1.1
    have ec : (mv_i υ 2 15).toNatClampNeg = r.length := by have := i32_cl (x := mv_i υ 2 15) (by omega); omega
    have h17 := hK.2.1
    have hO := hK.1.2.2.1
    have hu8R : u8.toInt < 32768 := by
      by_cases q : u8.toInt < 0
      · omega
      · have := (hO.head.1 u8.toInt.toNat (show u8.toInt = _ by omega)).1; omega
    have hTE := hG.2.2.1.wt hV hP ht2
    have j181 : ∀ (hrn : ¬ r = []) , mv_V p l e ({ frames := 4, cells := 0, slots := 0, locals := 86 }) s m ([.ref (al 2)] : List Value).toArray below meth c (mg dA D al ext) 3 0 0 (mv_Q (mg dA D al ext) below s 0 0 (mv_Rv (fun σ1 => TP 32 512 σ σ1 n sz a))) υ 181 [(0, .ref (al 2))] [] := by
      intro hrn
      refine mv_aload_n (pc := 181) B d_Weaver_closeBlock_181 rfl 0 rfl ?_
      refine mv_getR (pc := 182) (ci := 1) (C := R_Weaver) (T := F_Weaver) (N := 16) B 5 rfl rfl (by decide) i_Weaver (B.2.2.2.1 _ k_235) rfl hR.2.2.1 d_Weaver_closeBlock_182 ?_
      refine mv_aload_n (pc := 185) B d_Weaver_closeBlock_185 rfl 0 rfl ?_
      refine mv_getR (pc := 186) (ci := 1) (C := R_Weaver) (T := F_Weaver) (N := 16) B 12 rfl rfl (by decide) i_Weaver (B.2.2.2.1 _ k_242) rfl (hR.1 _ 12 _ rfl) d_Weaver_closeBlock_186 ?_
      refine mv_aload_n (pc := 189) B d_Weaver_closeBlock_189 rfl 0 rfl ?_
      refine mv_getI (pc := 190) (ci := 1) (C := R_Weaver) (T := F_Weaver) (N := 16) B 15 rfl rfl (by decide) i_Weaver (B.2.2.2.1 _ k_245) rfl d_Weaver_closeBlock_190 ?_
      refine mv_iald (pc := 193) B rfl (i32_in (show 0 ≤ (mv_i υ 2 15).toInt by omega) (show (mv_i υ 2 15).toInt < 61 by omega)) d_Weaver_closeBlock_193 ?_
      rw [ec, hu]
      refine mv_callVv (pc := 194) (n := 1) (ci := 7) (C := R_Program) B (mK_ok sk sv) hNs rfl rfl (c_Program_aim_a l hi _ _ hR.2.1 hu8R) rfl (ma_goodc kc_Program_aim) (B.2.2.2.1 _ k_1402) (B.2.2.2.1 _ k_1403) (B.2.2.2.1 _ k_1404) (B.2.2.2.1 _ k_8) ⟨by decide +kernel, by decide +kernel, by decide +kernel⟩ rfl d_Weaver_closeBlock_194 rfl (Nat.le_of_ble_eq_true rfl) ⟨by decide, by decide⟩ ⟨by decide, by decide⟩ ⟨by decide, by decide⟩ (mv_noH hno _) (fun σ194 h194 => ?_)
      have hK2 := hK.aim hP h194
      have hR : Rw 32 (mv_r σ194) := by rcases h194 with ⟨-, q⟩ | ⟨-, q⟩ <;> (rw [q]; exact hR)
      have hV2 : WT 32 υ σ194 := h194.elim (fun q => by rw [q.2]; exact WT0) (fun q => by rw [q.2]; exact Fr.rf.sb (Or.inr (Or.inr (Or.inr rfl))))
      have i194 : mv_i σ194 = mv_i υ := h194.elim (fun q => by rw [q.2]) (fun q => by rw [q.2]; rfl)
      have a194 : mv_a σ194 = mv_a υ := h194.elim (fun q => by rw [q.2]) (fun q => by rw [q.2]; rfl)
      refine mv_aload_n (pc := 197) B d_Weaver_closeBlock_197 rfl 0 rfl ?_
      refine mv_getR (pc := 198) (ci := 1) (C := R_Weaver) (T := F_Weaver) (N := 16) B 5 rfl rfl (by decide) i_Weaver (B.2.2.2.1 _ k_235) rfl hR.2.2.1 d_Weaver_closeBlock_198 ?_
      refine mv_aload_n (pc := 201) B d_Weaver_closeBlock_201 rfl 0 rfl ?_
      refine mv_getR (pc := 202) (ci := 1) (C := R_Weaver) (T := F_Weaver) (N := 16) B 13 rfl rfl (by decide) i_Weaver (B.2.2.2.1 _ k_243) rfl (hR.1 _ 13 _ rfl) d_Weaver_closeBlock_202 ?_
      refine mv_aload_n (pc := 205) B d_Weaver_closeBlock_205 rfl 0 rfl ?_
      refine mv_getI (pc := 206) (ci := 1) (C := R_Weaver) (T := F_Weaver) (N := 16) B 15 rfl rfl (by decide) i_Weaver (B.2.2.2.1 _ k_245) rfl d_Weaver_closeBlock_206 ?_
      refine mv_iald (pc := 209) B rfl (i32_in (by rw [i194]; omega) (by rw [i194]; omega)) d_Weaver_closeBlock_209 ?_
      rw [i194, ec, a194, hx]
      refine mv_callVv (pc := 210) (n := 1) (ci := 7) (C := R_Program) B (mK_ok sk sv) hNs rfl rfl (c_Program_aimAll_a l hi _ _ s0 ex hR.2.1 hK2.2.1 (by omega) hK2.1.2.2.2.1 (fun y hy => (hK2.1.2.2.1.head.2.1 y hy).1)) rfl (ma_goodc kc_Program_aimAll) (B.2.2.2.1 _ k_1406) (B.2.2.2.1 _ k_1407) (B.2.2.2.1 _ k_1408) (B.2.2.2.1 _ k_8) ⟨by decide +kernel, by decide +kernel, by decide +kernel⟩ rfl d_Weaver_closeBlock_210 rfl (Nat.le_of_ble_eq_true rfl) ⟨by decide, by decide⟩ ⟨by decide, by decide⟩ ⟨by decide, by decide⟩ (mv_noH hno _) (fun σ210 h210 => ?_)
      obtain ⟨f210, g210⟩ := h210
      have kA := hK2.all hP f210 g210
      have f211 : OF 32 σ194 σ210 := f210.up (fun _ _ q => q.elim) (fun _ q => q.elim) (fun o q => Or.inr q)
      have i210 : mv_i σ210 = mv_i υ := (funext fun o => funext fun k => f210.1 o k (fun q => q)).trans i194
      have a210 : mv_a σ210 = mv_a υ := (funext fun o => f210.2.1 o (fun q => q)).trans a194
      have hend : TP 32 512 σ σ210 n sz a := ⟨(hV.tr hV2).tr f211.wt, by rw [a210]; exact hMt, th, sl, no, (hW3.fr (by rw [i194]) (by rw [i194]) (by rw [i194]) (by rw [i194]) (by rw [i194]) (by rw [i194]) (by rw [i194]) (by rw [i194]) (by rw [a194]) (by rw [a194]) (by rw [a194]) (by rw [a194]) (by rw [a194])).of hP f211, Or.inr ⟨a + 1, by omega, Or.inr (Or.inl ⟨by rw [i210]; exact hm1, s0, ns, r, hrn, ⟨by rw [i210]; exact u7, by rw [i210]; exact u9, by rw [i210]; exact ud.1, by rw [i210]; exact ud.2, u6, by omega, by omega, by rw [a210]; exact hnc⟩, kA.1, kA.2⟩)⟩⟩
      exact mv_vret (pc := 213) B hr d_Weaver_closeBlock_213 (Nat.le_refl _) (Nat.le_refl _) ⟨rfl, hend⟩
    refine mv_aload_n (pc := 36) B d_Weaver_closeBlock_36 rfl 0 rfl ?_
    refine mv_getR (pc := 37) (ci := 1) (C := R_Weaver) (T := F_Weaver) (N := 16) B 11 rfl rfl (by decide) i_Weaver (B.2.2.2.1 _ k_241) rfl (hR.1 _ 11 _ rfl) d_Weaver_closeBlock_37 ?_
    refine mv_aload_n (pc := 40) B d_Weaver_closeBlock_40 rfl 0 rfl ?_
    refine mv_getI (pc := 41) (ci := 1) (C := R_Weaver) (T := F_Weaver) (N := 16) B 15 rfl rfl (by decide) i_Weaver (B.2.2.2.1 _ k_245) rfl d_Weaver_closeBlock_41 ?_
    refine mv_iald (pc := 44) B rfl (i32_in (show 0 ≤ (mv_i υ 2 15).toInt by omega) (show (mv_i υ 2 15).toInt < 61 by omega)) d_Weaver_closeBlock_44 ?_
    rw [ec]
    obtain ⟨kd, ekd⟩ : ∃ k, k = mv_a υ 28 r.length := ⟨_, rfl⟩
    rw [← ekd]
    rw [← ekd] at hrow
    clear ekd
    refine mv_istore_n (pc := 45) B d_Weaver_closeBlock_45 rfl (by decide) rfl ?_
    refine mv_iload_n (pc := 46) B d_Weaver_closeBlock_46 rfl 0 rfl ?_
    refine mv_sipush (pc := 47) (v := 206) B d_Weaver_closeBlock_47 (by decide) ?_
    refine mv_icmp_ne (pc := 50) (tgt := 80) B d_Weaver_closeBlock_50 rfl (fun h50 => ?_) (fun h50 => ?_)
    · skip
      have hrn : ¬ r = [] := fun q => h50 (hrow.mpr q)
      refine mv_iload_n (pc := 80) B d_Weaver_closeBlock_80 rfl 0 rfl ?_
      refine mv_sipush (pc := 81) (v := 209) B d_Weaver_closeBlock_81 (by decide) ?_
      refine mv_icmp_ne (pc := 84) (tgt := 181) B d_Weaver_closeBlock_84 rfl (fun h84 => ?_) (fun h84 => ?_)
      · skip
        refine mv_lpick [1] rfl ?_
        exact j181 hrn
      · skip
        refine mv_aload_n (pc := 87) B d_Weaver_closeBlock_87 rfl 1 rfl ?_
        refine mv_getR (pc := 88) (ci := 1) (C := R_Weaver) (T := F_Weaver) (N := 16) B 0 rfl rfl (by decide) i_Weaver (B.2.2.2.1 _ k_228) rfl (hR.1 _ 0 _ rfl) d_Weaver_closeBlock_88 ?_
        refine mv_callVi (pc := 91) (n := 0) (ci := 2) (C := R_Tokens) B (mK_ok sk sv) hNs rfl rfl (c_Tokens_kind l hi _ hR.1 (i32_in (by omega) (by omega))) rfl (ma_goodc kc_Tokens_kind) (B.2.2.2.1 _ k_1299) (B.2.2.2.1 _ k_1271) (B.2.2.2.1 _ k_1272) (B.2.2.2.1 _ k_3) ⟨by decide +kernel, by decide +kernel, by decide +kernel⟩ rfl d_Weaver_closeBlock_91 rfl (Nat.le_of_ble_eq_true rfl) ⟨by decide, by decide⟩ ⟨by decide, by decide⟩ ⟨by decide, by decide⟩ (mv_noH hno _) (fun v91 σ91 h91 => ?_)
        obtain ⟨e91, z91⟩ := h91
        have e91 := e91.symm
        subst e91
        have hk91 : mv_a υ 4 (mv_i υ 3 7).toNatClampNeg = v91 := (z91.trans (if_pos (lt0.mpr u9))).symm
        clear z91
        refine mv_sipush (pc := 94) (v := 210) B d_Weaver_closeBlock_94 (by decide) ?_
        refine mv_icmp_ne (pc := 97) (tgt := 181) B d_Weaver_closeBlock_97 rfl (fun h97 => ?_) (fun h97 => ?_)
        · skip
          refine mv_lpick [1] rfl ?_
          exact j181 hrn
        · skip
          refine mv_aload_n (pc := 100) B d_Weaver_closeBlock_100 rfl 1 rfl ?_
          refine mv_getR (pc := 101) (ci := 1) (C := R_Weaver) (T := F_Weaver) (N := 16) B 0 rfl rfl (by decide) i_Weaver (B.2.2.2.1 _ k_228) rfl (hR.1 _ 0 _ rfl) d_Weaver_closeBlock_101 ?_
          refine mv_sipush (pc := 104) (v := 210) B d_Weaver_closeBlock_104 (by decide) ?_
          refine mv_callVi (pc := 107) (n := 1) (ci := 2) (C := R_Tokens) B (mK_ok sk sv) hNs rfl rfl (c_Tokens_takeN l hi _ _ hR.1 hTE (by omega) (by omega) (by decide)) rfl (ma_goodc kc_Tokens_take) (B.2.2.2.1 _ k_1266) (B.2.2.2.1 _ k_1267) (B.2.2.2.1 _ k_1268) (B.2.2.2.1 _ k_3) ⟨by decide +kernel, by decide +kernel, by decide +kernel⟩ rfl d_Weaver_closeBlock_107 rfl (Nat.le_of_ble_eq_true rfl) ⟨by decide, by decide⟩ ⟨by decide, by decide⟩ ⟨by decide, by decide⟩ (mv_noH hno _) (fun v107 σ107 h107 => ?_)
          obtain ⟨a107, w107, e107, r107⟩ := h107
          have q107 := r107.1
          have hw107 := r107.2.2.1 u9 (hk91.trans h97) trivial
          subst e107
          refine mv_gen (fun S110 eS110 => ?_)
          have hR : Rw 32 (mv_r S110) := by rw [eS110]; exact hR
          have hV : WT 32 σ S110 := by rw [eS110]; exact hV.tk3 _ _ _
          have hMt : Mt (mv_a S110 24) := by rw [eS110]; exact hMt
          have hW3 : WN 32 512 S110 n th sl no := by rw [eS110]; exact hW3.of hP (OF.tk3 Fr.rf _ _ _)
          have hK : KB 32 S110 th s0 ns no u8 x8 ex r := by rw [eS110]; exact hK.fr hP rfl rfl rfl rfl rfl rfl
          have u7 : (mv_i S110 3 7).toInt = a + 2 := by rw [eS110]; show a107.toInt = _; omega
          have ud : (r.length : Int) ≤ (mv_i S110 3 8).toInt ∧ (mv_i S110 3 8).toInt ≤ 60 := by rw [eS110]; exact ud
          have u9 : (mv_i S110 3 9).toInt < 0 := by rw [eS110]; exact hw107
          have a4 : mv_a S110 4 = mv_a υ 4 := by rw [eS110]; rfl
          have i15 : mv_i S110 2 15 = mv_i υ 2 15 := by rw [eS110]; rfl
          have a29 : mv_a S110 29 = mv_a υ 29 := by rw [eS110]; rfl
          have a30 : mv_a S110 30 = mv_a υ 30 := by rw [eS110]; rfl
          have p17 : mv_i S110 32 17 = mv_i υ 32 17 := by rw [eS110]; rfl
          clear eS110
          refine mv_pop (pc := 110) B d_Weaver_closeBlock_110 rfl ?_
          refine mv_aload_n (pc := 111) B d_Weaver_closeBlock_111 rfl 1 rfl ?_
          refine mv_getR (pc := 112) (ci := 1) (C := R_Weaver) (T := F_Weaver) (N := 16) B 5 rfl rfl (by decide) i_Weaver (B.2.2.2.1 _ k_235) rfl hR.2.2.1 d_Weaver_closeBlock_112 ?_
          refine mv_sipush (pc := 115) (v := 311) B d_Weaver_closeBlock_115 (by decide) ?_
          refine mv_aload_n (pc := 118) B d_Weaver_closeBlock_118 rfl 1 rfl ?_
          refine mv_getR (pc := 119) (ci := 1) (C := R_Weaver) (T := F_Weaver) (N := 16) B 13 rfl rfl (by decide) i_Weaver (B.2.2.2.1 _ k_243) rfl (hR.1 _ 13 _ rfl) d_Weaver_closeBlock_119 ?_
          refine mv_aload_n (pc := 122) B d_Weaver_closeBlock_122 rfl 1 rfl ?_
          refine mv_getI (pc := 123) (ci := 1) (C := R_Weaver) (T := F_Weaver) (N := 16) B 15 rfl rfl (by decide) i_Weaver (B.2.2.2.1 _ k_245) rfl d_Weaver_closeBlock_123 ?_
          refine mv_iald (pc := 126) B rfl (i32_in (by rw [i15]; omega) (by rw [i15]; omega)) d_Weaver_closeBlock_126 ?_
          rw [i15, ec, a30, hx]
          refine mv_i2l (pc := 127) B d_Weaver_closeBlock_127 ?_
          refine mv_callVi (pc := 128) (n := 2) (ci := 7) (C := R_Program) B (mK_ok sk sv) hNs rfl rfl (c_Program_emit_a l hi _ _ _ hR.2.1 (show 0 ≤ (mv_i S110 32 17).toInt by rw [p17]; omega) (show (mv_i S110 32 17).toInt < 32768 by rw [p17]; omega)) rfl (ma_goodc kc_Program_emit) (B.2.2.2.1 _ k_1384) (B.2.2.2.1 _ k_1385) (B.2.2.2.1 _ k_1386) (B.2.2.2.1 _ k_8) ⟨by decide +kernel, by decide +kernel, by decide +kernel⟩ rfl d_Weaver_closeBlock_128 rfl (Nat.le_of_ble_eq_true rfl) ⟨by decide, by decide⟩ ⟨by decide, by decide⟩ ⟨by decide, by decide⟩ (mv_noH hno _) (fun v128 σ128 h128 => ?_)
          obtain ⟨e128, z128⟩ := h128
          subst e128
          refine mv_gen (fun S131 eS131 => ?_)
          have hR : Rw 32 (mv_r S131) := by rw [eS131]; exact hR
          have hV : WT 32 σ S131 := by rw [eS131]; exact hV.emit _ _
          have hMt : Mt (mv_a S131 24) := by rw [eS131]; exact hMt
          have hW3 : WN 32 512 S131 n th sl no := by rw [eS131]; exact hW3.of hP (OF.emit Fr.rf _ _)
          have hK : KB 32 S131 th (s0 + 1) ns no u8 v128 (s0 :: ex) r := by rw [eS131]; exact hK.jump hP (by omega) (by rw [z128, p17]; exact h17)
          have u7 : (mv_i S131 3 7).toInt = a + 2 := by rw [eS131]; exact u7
          have ud : (r.length : Int) ≤ (mv_i S131 3 8).toInt ∧ (mv_i S131 3 8).toInt ≤ 60 := by rw [eS131]; exact ud
          have u9 : (mv_i S131 3 9).toInt < 0 := by rw [eS131]; exact u9
          have a4 : mv_a S131 4 = mv_a υ 4 := by rw [eS131]; exact a4
          have i15 : mv_i S131 2 15 = mv_i υ 2 15 := by rw [eS131]; exact i15
          have a29 : mv_a S131 29 = mv_a υ 29 := by rw [eS131]; exact a29
          have a30 : mv_a S131 30 = mv_a υ 30 := by rw [eS131]; exact a30
          clear eS131
          refine mv_istore_n (pc := 131) B d_Weaver_closeBlock_131 rfl (by decide) rfl ?_
          refine mv_aload_n (pc := 132) B d_Weaver_closeBlock_132 rfl 2 rfl ?_
          refine mv_getR (pc := 133) (ci := 1) (C := R_Weaver) (T := F_Weaver) (N := 16) B 5 rfl rfl (by decide) i_Weaver (B.2.2.2.1 _ k_235) rfl hR.2.2.1 d_Weaver_closeBlock_133 ?_
          refine mv_aload_n (pc := 136) B d_Weaver_closeBlock_136 rfl 2 rfl ?_
          refine mv_getR (pc := 137) (ci := 1) (C := R_Weaver) (T := F_Weaver) (N := 16) B 12 rfl rfl (by decide) i_Weaver (B.2.2.2.1 _ k_242) rfl (hR.1 _ 12 _ rfl) d_Weaver_closeBlock_137 ?_
          refine mv_aload_n (pc := 140) B d_Weaver_closeBlock_140 rfl 2 rfl ?_
          refine mv_getI (pc := 141) (ci := 1) (C := R_Weaver) (T := F_Weaver) (N := 16) B 15 rfl rfl (by decide) i_Weaver (B.2.2.2.1 _ k_245) rfl d_Weaver_closeBlock_141 ?_
          refine mv_iald (pc := 144) B rfl (i32_in (by rw [i15]; omega) (by rw [i15]; omega)) d_Weaver_closeBlock_144 ?_
          rw [i15, ec, a29, hu]
          refine mv_callVv (pc := 145) (n := 1) (ci := 7) (C := R_Program) B (mK_ok sk sv) hNs rfl rfl (c_Program_aim_a l hi _ _ hR.2.1 hu8R) rfl (ma_goodc kc_Program_aim) (B.2.2.2.1 _ k_1402) (B.2.2.2.1 _ k_1403) (B.2.2.2.1 _ k_1404) (B.2.2.2.1 _ k_8) ⟨by decide +kernel, by decide +kernel, by decide +kernel⟩ rfl d_Weaver_closeBlock_145 rfl (Nat.le_of_ble_eq_true rfl) ⟨by decide, by decide⟩ ⟨by decide, by decide⟩ ⟨by decide, by decide⟩ (mv_noH hno _) (fun σ145 h145 => ?_)
          have hK := hK.aim hP h145
          have hR : Rw 32 (mv_r σ145) := by rcases h145 with ⟨-, q⟩ | ⟨-, q⟩ <;> (rw [q]; exact hR)
          have hV : WT 32 σ σ145 := hV.tr (h145.elim (fun q => by rw [q.2]; exact WT0) (fun q => by rw [q.2]; exact Fr.rf.sb (Or.inr (Or.inr (Or.inr rfl)))))
          have i145 : mv_i σ145 = mv_i S131 := h145.elim (fun q => by rw [q.2]) (fun q => by rw [q.2]; rfl)
          have a145 : mv_a σ145 = mv_a S131 := h145.elim (fun q => by rw [q.2]) (fun q => by rw [q.2]; rfl)
          have hW3 : WN 32 512 σ145 n th sl no := hW3.fr (by rw [i145]) (by rw [i145]) (by rw [i145]) (by rw [i145]) (by rw [i145]) (by rw [i145]) (by rw [i145]) (by rw [i145]) (by rw [a145]) (by rw [a145]) (by rw [a145]) (by rw [a145]) (by rw [a145])
          have hMt : Mt (mv_a σ145 24) := by rw [a145]; exact hMt
          have u7 : (mv_i σ145 3 7).toInt = a + 2 := by rw [i145]; exact u7
          have ud : (r.length : Int) ≤ (mv_i σ145 3 8).toInt ∧ (mv_i σ145 3 8).toInt ≤ 60 := by rw [i145]; exact ud
          have u9 : (mv_i σ145 3 9).toInt < 0 := by rw [i145]; exact u9
          have a4 : mv_a σ145 4 = mv_a υ 4 := by rw [a145]; exact a4
          have i15 : mv_i σ145 2 15 = mv_i υ 2 15 := by rw [i145]; exact i15
          have hnc2 : no ≤ nCd (mv_a σ145 4) (a + 2) := by rw [a4]; exact Nat.le_trans hnc (nCd_mono _ (by omega))
          have hWX : WX 32 σ145 sz th (s0 + 1) (a + 2) ns no r (s0 :: ex) v128 := ⟨⟨u7, u9, ud.1, ud.2, by omega, by omega, by omega, hnc2⟩, hK.1, hK.2⟩
          refine mv_aload_n (pc := 148) B d_Weaver_closeBlock_148 rfl 2 rfl ?_
          refine mv_getR (pc := 149) (ci := 1) (C := R_Weaver) (T := F_Weaver) (N := 16) B 0 rfl rfl (by decide) i_Weaver (B.2.2.2.1 _ k_228) rfl (hR.1 _ 0 _ rfl) d_Weaver_closeBlock_149 ?_
          refine mv_callVi (pc := 152) (n := 0) (ci := 2) (C := R_Tokens) B (mK_ok sk sv) hNs rfl rfl (c_Tokens_kind l hi _ hR.1 (i32_in (by omega) (by omega))) rfl (ma_goodc kc_Tokens_kind) (B.2.2.2.1 _ k_1299) (B.2.2.2.1 _ k_1271) (B.2.2.2.1 _ k_1272) (B.2.2.2.1 _ k_3) ⟨by decide +kernel, by decide +kernel, by decide +kernel⟩ rfl d_Weaver_closeBlock_152 rfl (Nat.le_of_ble_eq_true rfl) ⟨by decide, by decide⟩ ⟨by decide, by decide⟩ ⟨by decide, by decide⟩ (mv_noH hno _) (fun v152 σ152 h152 => ?_)
          obtain ⟨e152, z152⟩ := h152
          have e152 := e152.symm
          subst e152
          have hk152 : mv_a σ145 4 (mv_i σ145 3 7).toNatClampNeg = v152 := (z152.trans (if_pos (lt0.mpr u9))).symm
          clear z152
          refine mv_sipush (pc := 155) (v := 209) B d_Weaver_closeBlock_155 (by decide) ?_
          refine mv_icmp_ne (pc := 158) (tgt := 169) B d_Weaver_closeBlock_158 rfl (fun h158 => ?_) (fun h158 => ?_)
          · skip
            refine mv_aload_n (pc := 169) B d_Weaver_closeBlock_169 rfl 2 rfl ?_
            refine mv_sipush (pc := 170) (v := 210) B d_Weaver_closeBlock_170 (by decide) ?_
            refine mv_iconst (pc := 173) (v := -1) B d_Weaver_closeBlock_173 (by decide) ?_
            refine mv_iload_n (pc := 174) B d_Weaver_closeBlock_174 rfl 0 rfl ?_
            refine mv_callVv (pc := 175) (n := 3) (ci := 1) (C := R_Weaver) B (mK_ok sk sv) hNs rfl rfl (c_Weaver_openBlock l hi _ _ _ _ hR.1 (hG.2.2.1.wt hV hP ht2) (by omega) (by omega) (by rw [i15]; omega) (by rw [i15]; omega)) rfl (ma_goodc kc_Weaver_openBlock) (B.2.2.2.1 _ k_1345) (B.2.2.2.1 _ k_1347) (B.2.2.2.1 _ ks_41) (B.2.2.2.1 _ k_2) ⟨by decide +kernel, by decide +kernel, by decide +kernel⟩ rfl d_Weaver_closeBlock_175 rfl (Nat.le_of_ble_eq_true rfl) ⟨by decide, by decide⟩ ⟨by decide, by decide⟩ ⟨by decide, by decide⟩ (mv_noH hno _) (fun σ175 h175 => ?_)
            obtain ⟨a6, w6, v6, r6, d6⟩ := h175
            have q6 := r6.1
            have hend : TP 32 512 σ σ175 n sz a := by
              rcases d6 with ⟨q1, q2⟩ | ⟨q1, q2⟩
              · rw [q2]; exact ⟨hV.tk3 _ _ _, hMt, th, sl, no, hW3.tk3 hP _ _ _, Or.inl q1⟩
              · rw [q2]
                have hd60 : ¬ (mv_i σ145 3 8).toInt = 60 := fun q => (r6.2.1 q1).2.2.1 (Int32.toInt_inj.mp q)
                exact ⟨(hV.tk3 _ _ _).wb _ _ _, hMt, th, sl, no, hW3.of hP ((OF.tk3 Fr.rf _ _ _).wb _ _ _), Or.inr ⟨a + 3, by omega, Or.inr (Or.inl ⟨rfl, s0 + 1, ns, _, List.cons_ne_nil _ _, WS.block (bl := r) (ex := s0 :: ex) (d := ((mv_i σ145 3 8).toInt + 1).toNat) hP (show a6.toInt = ((a + 3 : Nat) : Int) by omega) q1 (show (mv_i σ145 3 8 + 1).toInt = _ by rw [i32_inc (by omega)]; omega) (by omega) (by omega) (by omega) (by omega) (by omega) (show no ≤ nCd (mv_a σ145 4) (a + 3) from Nat.le_trans hnc2 (nCd_mono _ (by omega))) hK.1.1 hK.1.2.1 hW3.2.2.1.1 ⟨⟨fun q => absurd q (by decide), fun q => absurd q hrn⟩, fun q => absurd q hrn⟩ hK.1.2.2.2.1 hK.1.2.2.2.2 hK.1.2.2.1 hK.2.1 hK.2.2.1 hK.2.2.2⟩)⟩⟩
            refine mv_goto (pc := 178) (tgt := 213) B d_Weaver_closeBlock_178 rfl ?_
            exact mv_vret (pc := 213) B hr d_Weaver_closeBlock_213 (Nat.le_refl _) (Nat.le_refl _) ⟨rfl, hend⟩
          · skip
            have hk209 : mv_a σ145 4 (mv_i σ145 3 7).toNatClampNeg = 209 := hk152.trans h158
            refine mv_aload_n (pc := 161) B d_Weaver_closeBlock_161 rfl 2 rfl ?_
            refine mv_iload_n (pc := 162) B d_Weaver_closeBlock_162 rfl 0 rfl ?_
            refine mv_callVv (pc := 163) (n := 1) (ci := 1) (C := R_Weaver) B (mK_ok sk sv) hNs rfl rfl (c_Weaver_beginIf_a l hi _ _ (hG.wt hV hP) hMt hW3 hWX hrn hk209) rfl (ma_goodc kc_Weaver_beginIf) (B.2.2.2.1 _ k_1388) (B.2.2.2.1 _ k_1390) (B.2.2.2.1 _ ks_46) (B.2.2.2.1 _ k_2) ⟨by decide +kernel, by decide +kernel, by decide +kernel⟩ rfl d_Weaver_closeBlock_163 rfl (Nat.le_of_ble_eq_true rfl) ⟨by decide, by decide⟩ ⟨by decide, by decide⟩ ⟨by decide, by decide⟩ (mv_noH hno _) (fun σ163 h163 => ?_)
            have hend : TP 32 512 σ σ163 n sz a := h163.tr hV (by omega)
            refine mv_goto (pc := 166) (tgt := 178) B d_Weaver_closeBlock_166 rfl ?_
            refine mv_goto (pc := 178) (tgt := 213) B d_Weaver_closeBlock_178 rfl ?_
            exact mv_vret (pc := 213) B hr d_Weaver_closeBlock_213 (Nat.le_refl _) (Nat.le_refl _) ⟨rfl, hend⟩
    · skip
      have hr9 := hrow.mp h50
      subst hr9
      obtain ⟨hu8, hex⟩ := hz rfl
      subst hu8
      subst hex
      refine mv_aload_n (pc := 53) B d_Weaver_closeBlock_53 rfl 1 rfl ?_
      refine mv_getR (pc := 54) (ci := 1) (C := R_Weaver) (T := F_Weaver) (N := 16) B 5 rfl rfl (by decide) i_Weaver (B.2.2.2.1 _ k_235) rfl hR.2.2.1 d_Weaver_closeBlock_54 ?_
      refine mv_sipush (pc := 57) (v := 317) B d_Weaver_closeBlock_57 (by decide) ?_
      refine mv_lconst (pc := 60) (v := 0) B d_Weaver_closeBlock_60 (by decide) ?_
      refine mv_callVi (pc := 61) (n := 2) (ci := 7) (C := R_Program) B (mK_ok sk sv) hNs rfl rfl (c_Program_emit_a l hi _ _ _ hR.2.1 (by omega) (by omega)) rfl (ma_goodc kc_Program_emit) (B.2.2.2.1 _ k_1384) (B.2.2.2.1 _ k_1385) (B.2.2.2.1 _ k_1386) (B.2.2.2.1 _ k_8) ⟨by decide +kernel, by decide +kernel, by decide +kernel⟩ rfl d_Weaver_closeBlock_61 rfl (Nat.le_of_ble_eq_true rfl) ⟨by decide, by decide⟩ ⟨by decide, by decide⟩ ⟨by decide, by decide⟩ (mv_noH hno _) (fun v61 σ61 h61 => ?_)
      obtain ⟨e61, -⟩ := h61
      subst e61
      refine mv_gen (fun S64 eS64 => ?_)
      have hR : Rw 32 (mv_r S64) := by rw [eS64]; exact hR
      have hV : WT 32 σ S64 := by rw [eS64]; exact hV.emit _ _
      have hMt : Mt (mv_a S64 24) := by rw [eS64]; exact hMt
      have hW3 : WN 32 512 S64 n th sl no := by rw [eS64]; exact hW3.of hP (OF.emit Fr.rf _ _)
      have kO := hK.over hP (by omega)
      rw [← eS64] at kO
      have a64 : mv_a S64 4 = mv_a υ 4 := by rw [eS64]; rfl
      have u7 : (mv_i S64 3 7).toInt = a + 1 := by rw [eS64]; exact u7
      have ud : ((0 : Nat) : Int) ≤ (mv_i S64 3 8).toInt ∧ (mv_i S64 3 8).toInt ≤ 60 := by rw [eS64]; exact ud
      have u9 : (mv_i S64 3 9).toInt < 0 := by rw [eS64]; exact u9
      clear eS64
      refine mv_pop (pc := 64) B d_Weaver_closeBlock_64 rfl ?_
      refine mv_aload_n (pc := 65) B d_Weaver_closeBlock_65 rfl 1 rfl ?_
      refine mv_getR (pc := 66) (ci := 1) (C := R_Weaver) (T := F_Weaver) (N := 16) B 1 rfl rfl (by decide) i_Weaver (B.2.2.2.1 _ k_229) rfl (hR.1 _ 1 _ rfl) d_Weaver_closeBlock_66 ?_
      refine mv_callVv (pc := 69) (n := 0) (ci := 4) (C := R_Names) B (mK_ok sk sv) hNs rfl rfl (c_Names_leaveOp l hi _ hR.1 hW3.2.2.1) rfl (ma_goodc kc_Names_leaveOp) (B.2.2.2.1 _ k_1401) (B.2.2.2.1 _ k_1251) (B.2.2.2.1 _ k_1252) (B.2.2.2.1 _ k_5) ⟨by decide +kernel, by decide +kernel, by decide +kernel⟩ rfl d_Weaver_closeBlock_69 rfl (Nat.le_of_ble_eq_true rfl) ⟨by decide, by decide⟩ ⟨by decide, by decide⟩ ⟨by decide, by decide⟩ (mv_noH hno _) (fun σ69 h69 => ?_)
      obtain ⟨f69, n69, i69, l69⟩ := h69
      have w69 := hW3.leave hP f69 n69 i69 l69
      have hend : TP 32 512 σ (mv_si σ69 2 6 0) n sz a := ⟨WT.w (P := 32) (hV.tr (f69.up (fun o k q => by omega) (fun o q => by omega) (fun o q => by omega))) 6 0, by show Mt (mv_a σ69 24); rw [f69.2.1 24 (by decide)]; exact hMt, th, sl, no, w69.of hP (Fr.rf.si (Or.inr (Or.inr (Or.inl rfl)))), Or.inr ⟨a + 1, by omega, Or.inl ⟨rfl, s0 + 1, ns, ⟨by show (mv_i σ69 3 7).toInt = _; rw [f69.1 3 7 (by decide)]; omega, by show (mv_i σ69 3 9).toInt < 0; rw [f69.1 3 9 (by decide)]; omega, by show ((0 : Nat) : Int) ≤ (mv_i σ69 3 8).toInt; rw [f69.1 3 8 (by decide)]; omega, by show (mv_i σ69 3 8).toInt ≤ 60; rw [f69.1 3 8 (by decide)]; omega, u6, by omega, by omega, by show no ≤ nCd (mv_a σ69 4) (a + 1); rw [f69.2.1 4 (by decide), a64]; exact hnc⟩, ⟨by show (mv_i σ69 2 15).toInt = 0; rw [f69.1 2 15 (by decide)]; exact kO.1, trivial, fun b hb => absurd hb List.not_mem_nil⟩, by show (mv_i σ69 32 17).toInt = _; rw [f69.1 32 17 (by decide)]; exact kO.2.1, by show nSet (mv_a σ69 41) (s0 + 1) = ns; rw [f69.2.1 41 (by decide)]; exact kO.2.2.1, fun q => by have q : mv_i σ69 21 0 = 0 := q; rw [f69.1 21 0 (by decide)] at q; obtain ⟨hg, k⟩ := kO.2.2.2 q; exact ⟨hg, by show CS th (s0 + 1) (mv_a σ69 41) (mv_b σ69 42) (mv_a σ69 39) no [] hg 0; rw [f69.2.1 41 (by decide), f69.2.2.1 42 (by decide), f69.2.1 39 (by decide)]; exact k⟩⟩⟩⟩
      refine mv_aload_n (pc := 72) B d_Weaver_closeBlock_72 rfl 1 rfl ?_
      refine mv_iconst (pc := 73) (v := 0) B d_Weaver_closeBlock_73 (by decide) ?_
      refine mv_putI (pc := 74) (ci := 1) (C := R_Weaver) (T := F_Weaver) (N := 16) B 6 rfl rfl (by decide) i_Weaver t_Weaver_ok n_Weaver (B.2.2.2.1 _ k_236) rfl rfl rfl rfl d_Weaver_closeBlock_74 ?_
      refine mv_goto (pc := 77) (tgt := 213) B d_Weaver_closeBlock_77 rfl ?_
      exact mv_vret (pc := 213) B hr d_Weaver_closeBlock_213 (Nat.le_refl _) (Nat.le_refl _) ⟨rfl, hend⟩
  refine mv_aload_n (pc := 0) B d_Weaver_closeBlock_0 rfl 0 rfl ?_
  refine mv_getR (pc := 1) (ci := 1) (C := R_Weaver) (T := F_Weaver) (N := 16) B 0 rfl rfl (by decide) i_Weaver (B.2.2.2.1 _ k_228) rfl (hR.1 _ 0 _ rfl) d_Weaver_closeBlock_1 ?_
  refine mv_bipush (pc := 4) (v := 125) B d_Weaver_closeBlock_4 (by decide) ?_
  refine mv_callVi (pc := 6) (n := 1) (ci := 2) (C := R_Tokens) B (mK_ok sk sv) hNs rfl rfl (c_Tokens_closeN l hi _ _ hR.1 hG.2.2.1 (by omega) (by omega) (by decide)) rfl (ma_goodc kc_Tokens_close) (B.2.2.2.1 _ k_1396) (B.2.2.2.1 _ k_1397) (B.2.2.2.1 _ k_1398) (B.2.2.2.1 _ k_3) ⟨by decide +kernel, by decide +kernel, by decide +kernel⟩ rfl d_Weaver_closeBlock_6 rfl (Nat.le_of_ble_eq_true rfl) ⟨by decide, by decide⟩ ⟨by decide, by decide⟩ ⟨by decide, by decide⟩ (mv_noH hno _) (fun v6 σ6 h6 => ?_)
  obtain ⟨a6, w6, e6, r6⟩ := h6
  have q6 := r6.1
  have hw6 := r6.2.2.1 hw9 hk3 trivial
  subst e6
  refine mv_pop (pc := 9) B d_Weaver_closeBlock_9 rfl ?_
  refine mv_aload_n (pc := 10) B d_Weaver_closeBlock_10 rfl 0 rfl ?_
  refine mv_dup (pc := 11) B d_Weaver_closeBlock_11 rfl ?_
  refine mv_getI (pc := 12) (ci := 1) (C := R_Weaver) (T := F_Weaver) (N := 16) B 15 rfl rfl (by decide) i_Weaver (B.2.2.2.1 _ k_245) rfl d_Weaver_closeBlock_12 ?_
  refine mv_iconst (pc := 15) (v := 1) B d_Weaver_closeBlock_15 (by decide) ?_
  refine mv_isub (pc := 16) B d_Weaver_closeBlock_16 ?_
  refine mv_putI (pc := 17) (ci := 1) (C := R_Weaver) (T := F_Weaver) (N := 16) B 15 rfl rfl (by decide) i_Weaver t_Weaver_ok n_Weaver (B.2.2.2.1 _ k_245) rfl rfl rfl rfl d_Weaver_closeBlock_17 ?_
  refine mv_gen (fun S20 eS20 => ?_)
  have hR : Rw 32 (mv_r S20) := by rw [eS20]; exact hR
  have hV : WT 32 σ S20 := by rw [eS20]; exact (WT0.tk3 _ _ _).w _ _
  have hMt : Mt (mv_a S20 24) := by rw [eS20]; exact hM
  have hW2 : WN 32 512 S20 n th sl no := by rw [eS20]; exact hW.of hP ((OF.tk3 Fr.rf _ _ _).w _ _)
  have ea : mv_a S20 = mv_a σ := by rw [eS20]; rfl
  have eb : mv_b S20 = mv_b σ := by rw [eS20]; rfl
  have i15 : (mv_i S20 2 15).toInt = r.length := by rw [eS20]; show (mv_i σ 2 15 - 1).toInt = _; rw [sub_one (by omega)]; omega
  have i13 : mv_i S20 13 7 = mv_i σ 13 7 := by rw [eS20]; rfl
  have i21 : mv_i S20 21 0 = mv_i σ 21 0 := by rw [eS20]; rfl
  have iP17 : mv_i S20 32 17 = mv_i σ 32 17 := by rw [eS20]; rfl
  have j6 : mv_i S20 2 6 = 1 := by rw [eS20]; exact hm1
  have j7 : (mv_i S20 3 7).toInt = a6.toInt := by rw [eS20]; rfl
  have j8 : (mv_i S20 3 8).toInt = (mv_i σ 3 8).toInt - 1 := by rw [eS20]; exact sub_one (x := mv_i σ 3 8) (by omega)
  have j9 : (mv_i S20 3 9).toInt = w6.toInt := by rw [eS20]; rfl
  have ec20 : (mv_i S20 2 15).toNatClampNeg = r.length := by have := i32_cl (x := mv_i S20 2 15) (by omega); omega
  obtain ⟨k8, ek8⟩ : ∃ k, k = mv_a σ 31 r.length := ⟨_, rfl⟩
  rw [← ek8] at hB4 hB5 hB7
  have hk80 := hB4
  have hk81 := hB5
  clear eS20
  refine mv_aload_n (pc := 20) B d_Weaver_closeBlock_20 rfl 0 rfl ?_
  refine mv_getR (pc := 21) (ci := 1) (C := R_Weaver) (T := F_Weaver) (N := 16) B 1 rfl rfl (by decide) i_Weaver (B.2.2.2.1 _ k_229) rfl (hR.1 _ 1 _ rfl) d_Weaver_closeBlock_21 ?_
  refine mv_aload_n (pc := 24) B d_Weaver_closeBlock_24 rfl 0 rfl ?_
  refine mv_getR (pc := 25) (ci := 1) (C := R_Weaver) (T := F_Weaver) (N := 16) B 14 rfl rfl (by decide) i_Weaver (B.2.2.2.1 _ k_244) rfl (hR.1 _ 14 _ rfl) d_Weaver_closeBlock_25 ?_
  refine mv_aload_n (pc := 28) B d_Weaver_closeBlock_28 rfl 0 rfl ?_
  refine mv_getI (pc := 29) (ci := 1) (C := R_Weaver) (T := F_Weaver) (N := 16) B 15 rfl rfl (by decide) i_Weaver (B.2.2.2.1 _ k_245) rfl d_Weaver_closeBlock_29 ?_
  refine mv_iald (pc := 32) B rfl (i32_in (by omega) (by omega)) d_Weaver_closeBlock_32 ?_
  rw [ec20, ea, ← ek8]
  clear ek8
  refine mv_callVv (pc := 33) (n := 1) (ci := 4) (C := R_Names) B (mK_ok sk sv) hNs rfl rfl (c_Names_forget l hi _ _ hR.1 hW2.2.2.1 hk80) rfl (ma_goodc kc_Names_forget) (B.2.2.2.1 _ k_1400) (B.2.2.2.1 _ k_1259) (B.2.2.2.1 _ k_1260) (B.2.2.2.1 _ k_5) ⟨by decide +kernel, by decide +kernel, by decide +kernel⟩ rfl d_Weaver_closeBlock_33 rfl (Nat.le_of_ble_eq_true rfl) ⟨by decide, by decide⟩ ⟨by decide, by decide⟩ ⟨by decide, by decide⟩ (mv_noH hno _) (fun σ33 h33 => ?_)
  obtain ⟨f33, n33, i33⟩ := h33
  have hR : Rw 32 (mv_r σ33) := by rw [f33.2.2.2.2]; exact hR
  have hV : WT 32 σ σ33 := hV.tr (f33.up (fun o k q => by omega) (fun o q => by omega) (fun o q => q.elim))
  have hMt : Mt (mv_a σ33 24) := by rw [f33.2.1 24 (by decide)]; exact hMt
  have hW3 := hW2.forget hP f33 n33 i33 hk80 (by rw [i13]; exact hk81)
  have b28 : mv_a σ33 28 = mv_a σ 28 := (f33.2.1 28 (by decide)).trans (congrFun ea 28)
  have b29 : mv_a σ33 29 = mv_a σ 29 := (f33.2.1 29 (by decide)).trans (congrFun ea 29)
  have b30 : mv_a σ33 30 = mv_a σ 30 := (f33.2.1 30 (by decide)).trans (congrFun ea 30)
  have b31 : mv_a σ33 31 = mv_a σ 31 := (f33.2.1 31 (by decide)).trans (congrFun ea 31)
  have b9 : mv_a σ33 41 = mv_a σ 41 := (f33.2.1 41 (by decide)).trans (congrFun ea 41)
  have b7 : mv_a σ33 39 = mv_a σ 39 := (f33.2.1 39 (by decide)).trans (congrFun ea 39)
  have b10 : mv_b σ33 42 = mv_b σ 42 := (f33.2.2.1 42 (fun q => q)).trans (congrFun eb 42)
  have b4 : mv_a σ33 4 = mv_a σ 4 := (f33.2.1 4 (by decide)).trans (congrFun ea 4)
  have hK : KB 32 σ33 th s0 ns no u8 (mv_a σ 30 r.length) ex r := by
    unfold KB
    rw [b28, b29, b30, b31, show mv_a σ33 (32 + 9) = mv_a σ (32 + 9) from b9, show mv_b σ33 (32 + 10) = mv_b σ (32 + 10) from b10, show mv_a σ33 (32 + 7) = mv_a σ (32 + 7) from b7, i33, f33.1 2 15 (by decide), f33.1 32 17 (by decide), f33.1 21 0 (by decide), i21, iP17]
    exact ⟨⟨i15, hB7, hS.2.1.2.2, hB3, hB6⟩, hS.2.2⟩
  have t7 : (mv_i σ33 3 7).toInt = a6.toInt := by rw [f33.1 3 7 (by decide)]; exact j7
  have t8 : (mv_i σ33 3 8).toInt = (mv_i σ 3 8).toInt - 1 := by rw [f33.1 3 8 (by decide)]; exact j8
  have t9 : (mv_i σ33 3 9).toInt = w6.toInt := by rw [f33.1 3 9 (by decide)]; exact j9
  have hm2 : mv_i σ33 2 6 = 1 := by rw [f33.1 2 6 (by decide)]; exact j6
  have hrow : mv_a σ33 28 r.length = 206 ↔ r = [] := by rw [b28]; exact hB1.1
  have hz : r = [] → u8 = -1 ∧ ex = [] := hB1.2
  have hu : mv_a σ33 29 r.length = u8 := by rw [b29]; exact hB2
  have hx : mv_a σ33 30 r.length = mv_a σ 30 r.length := by rw [b30]
  have hnc : no ≤ nCd (mv_a σ33 4) (a + 1) := by rw [b4]; exact Nat.le_trans hS.1.2.2.2.2.2.2.2 (nCd_mono _ (by omega))
  obtain ⟨x8, ex8⟩ : ∃ x, x = mv_a σ 30 r.length := ⟨_, rfl⟩
  rw [← ex8] at hK hx
  refine mv_lpick [0] rfl ?_
  exact j36 _ u8 x8 ex r hR hV hMt hW3 hK (by omega) (by omega) ⟨by omega, by omega⟩ (by omega) hm2 hrow hz hu hx hnc
set_option maxHeartbeats 4000000 in
set_option maxRecDepth 100000 in
theorem c_Weaver_closeBlock_b (l : Launch) {dA : FieldType → ClassId} {D : va_G} {al : Nat → Nat} {ext : mv_Sh} {sk sv : Nat → Nat} (hi : mv_inj (mg dA D al ext)) (σ : mv_H) (u8 : Int32) (ex : List Nat) (r : List Bk) {t tn len n z sz th sl s0 a ns no : Nat} (hG : WG 48 32768 512 ext σ t tn len n z sz) (hM : Mt (mv_a σ 24)) (hW : WN 48 512 σ n th sl no) (hS : WS 48 σ sz th s0 a ns no ((u8, ex) :: r)) (hm1 : mv_i σ 2 6 = 1) (hk3 : mv_a σ 4 (mv_i σ 3 7).toNatClampNeg = 125) : mv_C l y_Weaver_closeBlock (Cond.code y_Weaver_closeBlock b_Weaver_closeBlock 3 (Option.none : Option Jvm.ClassFile.FieldType) :: ma) ({ frames := 4, cells := 0, slots := 0, locals := 86 }) (mg dA D al ext) (mK sk sv) [.ref (al 2)] σ (mv_Rv (fun σ1 => TP 48 512 σ σ1 n sz a)) := by
  refine mv_C.ofV (cc := b_Weaver_closeBlock) (nL := 3) (ret := (Option.none : Option Jvm.ClassFile.FieldType)) (by decide +kernel) rfl hi (Nat.le_of_ble_eq_true rfl) ?_
  intro p e s m below meth c B hNs hr hnm hno
  have hP : PQ 48 := by unfold PQ; omega
  have hR := hG.1
  have ht2 := hG.2.1.2.2.2.2.2.2
  have hF : EF σ σ := Fr.rf
  have hN : mv_i σ 21 0 = 0 → mv_i σ 21 0 = 0 := fun q => q
  have hE := hG.2.2.1
  have hsz := hE.2.2.2.2.2
  have hsz2 := hE.2.2.2.1
  have hlen := hG.2.2.2.2.1
  have hlen2 := hG.2.2.2.2.2
  have t7 := hS.1.1
  have hw9 := hS.1.2.1
  have ha9 := hS.1.2.2.2.2.1
  have t9 : (mv_i σ 3 9).toInt = (mv_i σ 3 9).toInt := rfl
  have t8 : (mv_i σ 3 8).toInt = (mv_i σ 3 8).toInt := rfl
  have kp : mv_a σ 4 = mv_a σ 4 := rfl
  have k6 : mv_b σ 6 = mv_b σ 6 := rfl
  have hs5 := hS.1.2.2.2.2.2.1
  have hs6 := hS.1.2.2.2.2.2.2.1
  have hd8 := hS.1.2.2.1
  have hd9 := hS.1.2.2.2.1
  obtain ⟨hB1, hB2, hB3, hB4, hB5, hB6, hB7⟩ := hS.2.1.2.1
  have hlb : (((u8, ex) : Bk) :: r).length = r.length + 1 := rfl
  have hb15 := hS.2.1.1
  have j36 : ∀ (υ : mv_H) (u8 x8 : Int32) (ex : List Nat) (r : List Bk) (hR : Rw 48 (mv_r υ)) (hV : WT 48 σ υ) (hMt : Mt (mv_a υ 24)) (hW3 : WN 48 512 υ n th sl no) (hK : KB 48 υ th s0 ns no u8 x8 ex r) (u7 : (mv_i υ 3 7).toInt = a + 1) (u6 : a + 1 < sz) (ud : (r.length : Int) ≤ (mv_i υ 3 8).toInt ∧ (mv_i υ 3 8).toInt ≤ 60) (u9 : (mv_i υ 3 9).toInt < 0) (hm1 : mv_i υ 2 6 = 1) (hrow : mv_a υ 28 r.length = 206 ↔ r = []) (hz : r = [] → u8 = -1 ∧ ex = []) (hu : mv_a υ 29 r.length = u8) (hx : mv_a υ 30 r.length = x8) (hnc : no ≤ nCd (mv_a υ 4) (a + 1)), mv_V p l e ({ frames := 4, cells := 0, slots := 0, locals := 86 }) s m ([.ref (al 2)] : List Value).toArray below meth c (mg dA D al ext) 3 0 0 (mv_Q (mg dA D al ext) below s 0 0 (mv_Rv (fun σ1 => TP 48 512 σ σ1 n sz a))) υ 36 [(0, .ref (al 2))] [] := by
    intro υ u8 x8 ex r hR hV hMt hW3 hK u7 u6 ud u9 hm1 hrow hz hu hx hnc
    have hb15 := hK.1.1
    have ec : (mv_i υ 2 15).toNatClampNeg = r.length := by have := i32_cl (x := mv_i υ 2 15) (by omega); omega
    have h17 := hK.2.1
    have hO := hK.1.2.2.1
    have hu8R : u8.toInt < 32768 := by
      by_cases q : u8.toInt < 0
      · omega
      · have := (hO.head.1 u8.toInt.toNat (show u8.toInt = _ by omega)).1; omega
    have hTE := hG.2.2.1.wt hV hP ht2
    have j181 : ∀ (hrn : ¬ r = []) , mv_V p l e ({ frames := 4, cells := 0, slots := 0, locals := 86 }) s m ([.ref (al 2)] : List Value).toArray below meth c (mg dA D al ext) 3 0 0 (mv_Q (mg dA D al ext) below s 0 0 (mv_Rv (fun σ1 => TP 48 512 σ σ1 n sz a))) υ 181 [(0, .ref (al 2))] [] := by
      intro hrn
      refine mv_aload_n (pc := 181) B d_Weaver_closeBlock_181 rfl 0 rfl ?_
      refine mv_getR (pc := 182) (ci := 1) (C := R_Weaver) (T := F_Weaver) (N := 16) B 5 rfl rfl (by decide) i_Weaver (B.2.2.2.1 _ k_235) rfl hR.2.2.1 d_Weaver_closeBlock_182 ?_
      refine mv_aload_n (pc := 185) B d_Weaver_closeBlock_185 rfl 0 rfl ?_
      refine mv_getR (pc := 186) (ci := 1) (C := R_Weaver) (T := F_Weaver) (N := 16) B 12 rfl rfl (by decide) i_Weaver (B.2.2.2.1 _ k_242) rfl (hR.1 _ 12 _ rfl) d_Weaver_closeBlock_186 ?_
      refine mv_aload_n (pc := 189) B d_Weaver_closeBlock_189 rfl 0 rfl ?_
      refine mv_getI (pc := 190) (ci := 1) (C := R_Weaver) (T := F_Weaver) (N := 16) B 15 rfl rfl (by decide) i_Weaver (B.2.2.2.1 _ k_245) rfl d_Weaver_closeBlock_190 ?_
      refine mv_iald (pc := 193) B rfl (i32_in (show 0 ≤ (mv_i υ 2 15).toInt by omega) (show (mv_i υ 2 15).toInt < 61 by omega)) d_Weaver_closeBlock_193 ?_
      rw [ec, hu]
      refine mv_callVv (pc := 194) (n := 1) (ci := 7) (C := R_Program) B (mK_ok sk sv) hNs rfl rfl (c_Program_aim_b l hi _ _ hR.2.1 hu8R) rfl (ma_goodc kc_Program_aim) (B.2.2.2.1 _ k_1402) (B.2.2.2.1 _ k_1403) (B.2.2.2.1 _ k_1404) (B.2.2.2.1 _ k_8) ⟨by decide +kernel, by decide +kernel, by decide +kernel⟩ rfl d_Weaver_closeBlock_194 rfl (Nat.le_of_ble_eq_true rfl) ⟨by decide, by decide⟩ ⟨by decide, by decide⟩ ⟨by decide, by decide⟩ (mv_noH hno _) (fun σ194 h194 => ?_)
      have hK2 := hK.aim hP h194
      have hR : Rw 48 (mv_r σ194) := by rcases h194 with ⟨-, q⟩ | ⟨-, q⟩ <;> (rw [q]; exact hR)
      have hV2 : WT 48 υ σ194 := h194.elim (fun q => by rw [q.2]; exact WT0) (fun q => by rw [q.2]; exact Fr.rf.sb (Or.inr (Or.inr (Or.inr rfl))))
      have i194 : mv_i σ194 = mv_i υ := h194.elim (fun q => by rw [q.2]) (fun q => by rw [q.2]; rfl)
      have a194 : mv_a σ194 = mv_a υ := h194.elim (fun q => by rw [q.2]) (fun q => by rw [q.2]; rfl)
      refine mv_aload_n (pc := 197) B d_Weaver_closeBlock_197 rfl 0 rfl ?_
      refine mv_getR (pc := 198) (ci := 1) (C := R_Weaver) (T := F_Weaver) (N := 16) B 5 rfl rfl (by decide) i_Weaver (B.2.2.2.1 _ k_235) rfl hR.2.2.1 d_Weaver_closeBlock_198 ?_
      refine mv_aload_n (pc := 201) B d_Weaver_closeBlock_201 rfl 0 rfl ?_
      refine mv_getR (pc := 202) (ci := 1) (C := R_Weaver) (T := F_Weaver) (N := 16) B 13 rfl rfl (by decide) i_Weaver (B.2.2.2.1 _ k_243) rfl (hR.1 _ 13 _ rfl) d_Weaver_closeBlock_202 ?_
      refine mv_aload_n (pc := 205) B d_Weaver_closeBlock_205 rfl 0 rfl ?_
      refine mv_getI (pc := 206) (ci := 1) (C := R_Weaver) (T := F_Weaver) (N := 16) B 15 rfl rfl (by decide) i_Weaver (B.2.2.2.1 _ k_245) rfl d_Weaver_closeBlock_206 ?_
      refine mv_iald (pc := 209) B rfl (i32_in (by rw [i194]; omega) (by rw [i194]; omega)) d_Weaver_closeBlock_209 ?_
      rw [i194, ec, a194, hx]
      refine mv_callVv (pc := 210) (n := 1) (ci := 7) (C := R_Program) B (mK_ok sk sv) hNs rfl rfl (c_Program_aimAll_b l hi _ _ s0 ex hR.2.1 hK2.2.1 (by omega) hK2.1.2.2.2.1 (fun y hy => (hK2.1.2.2.1.head.2.1 y hy).1)) rfl (ma_goodc kc_Program_aimAll) (B.2.2.2.1 _ k_1406) (B.2.2.2.1 _ k_1407) (B.2.2.2.1 _ k_1408) (B.2.2.2.1 _ k_8) ⟨by decide +kernel, by decide +kernel, by decide +kernel⟩ rfl d_Weaver_closeBlock_210 rfl (Nat.le_of_ble_eq_true rfl) ⟨by decide, by decide⟩ ⟨by decide, by decide⟩ ⟨by decide, by decide⟩ (mv_noH hno _) (fun σ210 h210 => ?_)
      obtain ⟨f210, g210⟩ := h210
      have kA := hK2.all hP f210 g210
      have f211 : OF 48 σ194 σ210 := f210.up (fun _ _ q => q.elim) (fun _ q => q.elim) (fun o q => Or.inr q)
      have i210 : mv_i σ210 = mv_i υ := (funext fun o => funext fun k => f210.1 o k (fun q => q)).trans i194
      have a210 : mv_a σ210 = mv_a υ := (funext fun o => f210.2.1 o (fun q => q)).trans a194
      have hend : TP 48 512 σ σ210 n sz a := ⟨(hV.tr hV2).tr f211.wt, by rw [a210]; exact hMt, th, sl, no, (hW3.fr (by rw [i194]) (by rw [i194]) (by rw [i194]) (by rw [i194]) (by rw [i194]) (by rw [i194]) (by rw [i194]) (by rw [i194]) (by rw [a194]) (by rw [a194]) (by rw [a194]) (by rw [a194]) (by rw [a194])).of hP f211, Or.inr ⟨a + 1, by omega, Or.inr (Or.inl ⟨by rw [i210]; exact hm1, s0, ns, r, hrn, ⟨by rw [i210]; exact u7, by rw [i210]; exact u9, by rw [i210]; exact ud.1, by rw [i210]; exact ud.2, u6, by omega, by omega, by rw [a210]; exact hnc⟩, kA.1, kA.2⟩)⟩⟩
      exact mv_vret (pc := 213) B hr d_Weaver_closeBlock_213 (Nat.le_refl _) (Nat.le_refl _) ⟨rfl, hend⟩
    refine mv_aload_n (pc := 36) B d_Weaver_closeBlock_36 rfl 0 rfl ?_
    refine mv_getR (pc := 37) (ci := 1) (C := R_Weaver) (T := F_Weaver) (N := 16) B 11 rfl rfl (by decide) i_Weaver (B.2.2.2.1 _ k_241) rfl (hR.1 _ 11 _ rfl) d_Weaver_closeBlock_37 ?_
    refine mv_aload_n (pc := 40) B d_Weaver_closeBlock_40 rfl 0 rfl ?_
    refine mv_getI (pc := 41) (ci := 1) (C := R_Weaver) (T := F_Weaver) (N := 16) B 15 rfl rfl (by decide) i_Weaver (B.2.2.2.1 _ k_245) rfl d_Weaver_closeBlock_41 ?_
    refine mv_iald (pc := 44) B rfl (i32_in (show 0 ≤ (mv_i υ 2 15).toInt by omega) (show (mv_i υ 2 15).toInt < 61 by omega)) d_Weaver_closeBlock_44 ?_
    rw [ec]
    obtain ⟨kd, ekd⟩ : ∃ k, k = mv_a υ 28 r.length := ⟨_, rfl⟩
    rw [← ekd]
    rw [← ekd] at hrow
    clear ekd
    refine mv_istore_n (pc := 45) B d_Weaver_closeBlock_45 rfl (by decide) rfl ?_
    refine mv_iload_n (pc := 46) B d_Weaver_closeBlock_46 rfl 0 rfl ?_
    refine mv_sipush (pc := 47) (v := 206) B d_Weaver_closeBlock_47 (by decide) ?_
    refine mv_icmp_ne (pc := 50) (tgt := 80) B d_Weaver_closeBlock_50 rfl (fun h50 => ?_) (fun h50 => ?_)
    · skip
      have hrn : ¬ r = [] := fun q => h50 (hrow.mpr q)
      refine mv_iload_n (pc := 80) B d_Weaver_closeBlock_80 rfl 0 rfl ?_
      refine mv_sipush (pc := 81) (v := 209) B d_Weaver_closeBlock_81 (by decide) ?_
      refine mv_icmp_ne (pc := 84) (tgt := 181) B d_Weaver_closeBlock_84 rfl (fun h84 => ?_) (fun h84 => ?_)
      · skip
        refine mv_lpick [1] rfl ?_
        exact j181 hrn
      · skip
        refine mv_aload_n (pc := 87) B d_Weaver_closeBlock_87 rfl 1 rfl ?_
        refine mv_getR (pc := 88) (ci := 1) (C := R_Weaver) (T := F_Weaver) (N := 16) B 0 rfl rfl (by decide) i_Weaver (B.2.2.2.1 _ k_228) rfl (hR.1 _ 0 _ rfl) d_Weaver_closeBlock_88 ?_
        refine mv_callVi (pc := 91) (n := 0) (ci := 2) (C := R_Tokens) B (mK_ok sk sv) hNs rfl rfl (c_Tokens_kind l hi _ hR.1 (i32_in (by omega) (by omega))) rfl (ma_goodc kc_Tokens_kind) (B.2.2.2.1 _ k_1299) (B.2.2.2.1 _ k_1271) (B.2.2.2.1 _ k_1272) (B.2.2.2.1 _ k_3) ⟨by decide +kernel, by decide +kernel, by decide +kernel⟩ rfl d_Weaver_closeBlock_91 rfl (Nat.le_of_ble_eq_true rfl) ⟨by decide, by decide⟩ ⟨by decide, by decide⟩ ⟨by decide, by decide⟩ (mv_noH hno _) (fun v91 σ91 h91 => ?_)
        obtain ⟨e91, z91⟩ := h91
        have e91 := e91.symm
        subst e91
        have hk91 : mv_a υ 4 (mv_i υ 3 7).toNatClampNeg = v91 := (z91.trans (if_pos (lt0.mpr u9))).symm
        clear z91
        refine mv_sipush (pc := 94) (v := 210) B d_Weaver_closeBlock_94 (by decide) ?_
        refine mv_icmp_ne (pc := 97) (tgt := 181) B d_Weaver_closeBlock_97 rfl (fun h97 => ?_) (fun h97 => ?_)
        · skip
          refine mv_lpick [1] rfl ?_
          exact j181 hrn
        · skip
          refine mv_aload_n (pc := 100) B d_Weaver_closeBlock_100 rfl 1 rfl ?_
          refine mv_getR (pc := 101) (ci := 1) (C := R_Weaver) (T := F_Weaver) (N := 16) B 0 rfl rfl (by decide) i_Weaver (B.2.2.2.1 _ k_228) rfl (hR.1 _ 0 _ rfl) d_Weaver_closeBlock_101 ?_
          refine mv_sipush (pc := 104) (v := 210) B d_Weaver_closeBlock_104 (by decide) ?_
          refine mv_callVi (pc := 107) (n := 1) (ci := 2) (C := R_Tokens) B (mK_ok sk sv) hNs rfl rfl (c_Tokens_takeN l hi _ _ hR.1 hTE (by omega) (by omega) (by decide)) rfl (ma_goodc kc_Tokens_take) (B.2.2.2.1 _ k_1266) (B.2.2.2.1 _ k_1267) (B.2.2.2.1 _ k_1268) (B.2.2.2.1 _ k_3) ⟨by decide +kernel, by decide +kernel, by decide +kernel⟩ rfl d_Weaver_closeBlock_107 rfl (Nat.le_of_ble_eq_true rfl) ⟨by decide, by decide⟩ ⟨by decide, by decide⟩ ⟨by decide, by decide⟩ (mv_noH hno _) (fun v107 σ107 h107 => ?_)
          obtain ⟨a107, w107, e107, r107⟩ := h107
          have q107 := r107.1
          have hw107 := r107.2.2.1 u9 (hk91.trans h97) trivial
          subst e107
          refine mv_gen (fun S110 eS110 => ?_)
          have hR : Rw 48 (mv_r S110) := by rw [eS110]; exact hR
          have hV : WT 48 σ S110 := by rw [eS110]; exact hV.tk3 _ _ _
          have hMt : Mt (mv_a S110 24) := by rw [eS110]; exact hMt
          have hW3 : WN 48 512 S110 n th sl no := by rw [eS110]; exact hW3.of hP (OF.tk3 Fr.rf _ _ _)
          have hK : KB 48 S110 th s0 ns no u8 x8 ex r := by rw [eS110]; exact hK.fr hP rfl rfl rfl rfl rfl rfl
          have u7 : (mv_i S110 3 7).toInt = a + 2 := by rw [eS110]; show a107.toInt = _; omega
          have ud : (r.length : Int) ≤ (mv_i S110 3 8).toInt ∧ (mv_i S110 3 8).toInt ≤ 60 := by rw [eS110]; exact ud
          have u9 : (mv_i S110 3 9).toInt < 0 := by rw [eS110]; exact hw107
          have a4 : mv_a S110 4 = mv_a υ 4 := by rw [eS110]; rfl
          have i15 : mv_i S110 2 15 = mv_i υ 2 15 := by rw [eS110]; rfl
          have a29 : mv_a S110 29 = mv_a υ 29 := by rw [eS110]; rfl
          have a30 : mv_a S110 30 = mv_a υ 30 := by rw [eS110]; rfl
          have p17 : mv_i S110 48 17 = mv_i υ 48 17 := by rw [eS110]; rfl
          clear eS110
          refine mv_pop (pc := 110) B d_Weaver_closeBlock_110 rfl ?_
          refine mv_aload_n (pc := 111) B d_Weaver_closeBlock_111 rfl 1 rfl ?_
          refine mv_getR (pc := 112) (ci := 1) (C := R_Weaver) (T := F_Weaver) (N := 16) B 5 rfl rfl (by decide) i_Weaver (B.2.2.2.1 _ k_235) rfl hR.2.2.1 d_Weaver_closeBlock_112 ?_
          refine mv_sipush (pc := 115) (v := 311) B d_Weaver_closeBlock_115 (by decide) ?_
          refine mv_aload_n (pc := 118) B d_Weaver_closeBlock_118 rfl 1 rfl ?_
          refine mv_getR (pc := 119) (ci := 1) (C := R_Weaver) (T := F_Weaver) (N := 16) B 13 rfl rfl (by decide) i_Weaver (B.2.2.2.1 _ k_243) rfl (hR.1 _ 13 _ rfl) d_Weaver_closeBlock_119 ?_
          refine mv_aload_n (pc := 122) B d_Weaver_closeBlock_122 rfl 1 rfl ?_
          refine mv_getI (pc := 123) (ci := 1) (C := R_Weaver) (T := F_Weaver) (N := 16) B 15 rfl rfl (by decide) i_Weaver (B.2.2.2.1 _ k_245) rfl d_Weaver_closeBlock_123 ?_
          refine mv_iald (pc := 126) B rfl (i32_in (by rw [i15]; omega) (by rw [i15]; omega)) d_Weaver_closeBlock_126 ?_
          rw [i15, ec, a30, hx]
          refine mv_i2l (pc := 127) B d_Weaver_closeBlock_127 ?_
          refine mv_callVi (pc := 128) (n := 2) (ci := 7) (C := R_Program) B (mK_ok sk sv) hNs rfl rfl (c_Program_emit_b l hi _ _ _ hR.2.1 (show 0 ≤ (mv_i S110 48 17).toInt by rw [p17]; omega) (show (mv_i S110 48 17).toInt < 32768 by rw [p17]; omega)) rfl (ma_goodc kc_Program_emit) (B.2.2.2.1 _ k_1384) (B.2.2.2.1 _ k_1385) (B.2.2.2.1 _ k_1386) (B.2.2.2.1 _ k_8) ⟨by decide +kernel, by decide +kernel, by decide +kernel⟩ rfl d_Weaver_closeBlock_128 rfl (Nat.le_of_ble_eq_true rfl) ⟨by decide, by decide⟩ ⟨by decide, by decide⟩ ⟨by decide, by decide⟩ (mv_noH hno _) (fun v128 σ128 h128 => ?_)
          obtain ⟨e128, z128⟩ := h128
          subst e128
          refine mv_gen (fun S131 eS131 => ?_)
          have hR : Rw 48 (mv_r S131) := by rw [eS131]; exact hR
          have hV : WT 48 σ S131 := by rw [eS131]; exact hV.emit _ _
          have hMt : Mt (mv_a S131 24) := by rw [eS131]; exact hMt
          have hW3 : WN 48 512 S131 n th sl no := by rw [eS131]; exact hW3.of hP (OF.emit Fr.rf _ _)
          have hK : KB 48 S131 th (s0 + 1) ns no u8 v128 (s0 :: ex) r := by rw [eS131]; exact hK.jump hP (by omega) (by rw [z128, p17]; exact h17)
          have u7 : (mv_i S131 3 7).toInt = a + 2 := by rw [eS131]; exact u7
          have ud : (r.length : Int) ≤ (mv_i S131 3 8).toInt ∧ (mv_i S131 3 8).toInt ≤ 60 := by rw [eS131]; exact ud
          have u9 : (mv_i S131 3 9).toInt < 0 := by rw [eS131]; exact u9
          have a4 : mv_a S131 4 = mv_a υ 4 := by rw [eS131]; exact a4
          have i15 : mv_i S131 2 15 = mv_i υ 2 15 := by rw [eS131]; exact i15
          have a29 : mv_a S131 29 = mv_a υ 29 := by rw [eS131]; exact a29
          have a30 : mv_a S131 30 = mv_a υ 30 := by rw [eS131]; exact a30
          clear eS131
          refine mv_istore_n (pc := 131) B d_Weaver_closeBlock_131 rfl (by decide) rfl ?_
          refine mv_aload_n (pc := 132) B d_Weaver_closeBlock_132 rfl 2 rfl ?_
          refine mv_getR (pc := 133) (ci := 1) (C := R_Weaver) (T := F_Weaver) (N := 16) B 5 rfl rfl (by decide) i_Weaver (B.2.2.2.1 _ k_235) rfl hR.2.2.1 d_Weaver_closeBlock_133 ?_
          refine mv_aload_n (pc := 136) B d_Weaver_closeBlock_136 rfl 2 rfl ?_
          refine mv_getR (pc := 137) (ci := 1) (C := R_Weaver) (T := F_Weaver) (N := 16) B 12 rfl rfl (by decide) i_Weaver (B.2.2.2.1 _ k_242) rfl (hR.1 _ 12 _ rfl) d_Weaver_closeBlock_137 ?_
          refine mv_aload_n (pc := 140) B d_Weaver_closeBlock_140 rfl 2 rfl ?_
          refine mv_getI (pc := 141) (ci := 1) (C := R_Weaver) (T := F_Weaver) (N := 16) B 15 rfl rfl (by decide) i_Weaver (B.2.2.2.1 _ k_245) rfl d_Weaver_closeBlock_141 ?_
          refine mv_iald (pc := 144) B rfl (i32_in (by rw [i15]; omega) (by rw [i15]; omega)) d_Weaver_closeBlock_144 ?_
          rw [i15, ec, a29, hu]
          refine mv_callVv (pc := 145) (n := 1) (ci := 7) (C := R_Program) B (mK_ok sk sv) hNs rfl rfl (c_Program_aim_b l hi _ _ hR.2.1 hu8R) rfl (ma_goodc kc_Program_aim) (B.2.2.2.1 _ k_1402) (B.2.2.2.1 _ k_1403) (B.2.2.2.1 _ k_1404) (B.2.2.2.1 _ k_8) ⟨by decide +kernel, by decide +kernel, by decide +kernel⟩ rfl d_Weaver_closeBlock_145 rfl (Nat.le_of_ble_eq_true rfl) ⟨by decide, by decide⟩ ⟨by decide, by decide⟩ ⟨by decide, by decide⟩ (mv_noH hno _) (fun σ145 h145 => ?_)
          have hK := hK.aim hP h145
          have hR : Rw 48 (mv_r σ145) := by rcases h145 with ⟨-, q⟩ | ⟨-, q⟩ <;> (rw [q]; exact hR)
          have hV : WT 48 σ σ145 := hV.tr (h145.elim (fun q => by rw [q.2]; exact WT0) (fun q => by rw [q.2]; exact Fr.rf.sb (Or.inr (Or.inr (Or.inr rfl)))))
          have i145 : mv_i σ145 = mv_i S131 := h145.elim (fun q => by rw [q.2]) (fun q => by rw [q.2]; rfl)
          have a145 : mv_a σ145 = mv_a S131 := h145.elim (fun q => by rw [q.2]) (fun q => by rw [q.2]; rfl)
          have hW3 : WN 48 512 σ145 n th sl no := hW3.fr (by rw [i145]) (by rw [i145]) (by rw [i145]) (by rw [i145]) (by rw [i145]) (by rw [i145]) (by rw [i145]) (by rw [i145]) (by rw [a145]) (by rw [a145]) (by rw [a145]) (by rw [a145]) (by rw [a145])
          have hMt : Mt (mv_a σ145 24) := by rw [a145]; exact hMt
          have u7 : (mv_i σ145 3 7).toInt = a + 2 := by rw [i145]; exact u7
          have ud : (r.length : Int) ≤ (mv_i σ145 3 8).toInt ∧ (mv_i σ145 3 8).toInt ≤ 60 := by rw [i145]; exact ud
          have u9 : (mv_i σ145 3 9).toInt < 0 := by rw [i145]; exact u9
          have a4 : mv_a σ145 4 = mv_a υ 4 := by rw [a145]; exact a4
          have i15 : mv_i σ145 2 15 = mv_i υ 2 15 := by rw [i145]; exact i15
          have hnc2 : no ≤ nCd (mv_a σ145 4) (a + 2) := by rw [a4]; exact Nat.le_trans hnc (nCd_mono _ (by omega))
          have hWX : WX 48 σ145 sz th (s0 + 1) (a + 2) ns no r (s0 :: ex) v128 := ⟨⟨u7, u9, ud.1, ud.2, by omega, by omega, by omega, hnc2⟩, hK.1, hK.2⟩
          refine mv_aload_n (pc := 148) B d_Weaver_closeBlock_148 rfl 2 rfl ?_
          refine mv_getR (pc := 149) (ci := 1) (C := R_Weaver) (T := F_Weaver) (N := 16) B 0 rfl rfl (by decide) i_Weaver (B.2.2.2.1 _ k_228) rfl (hR.1 _ 0 _ rfl) d_Weaver_closeBlock_149 ?_
          refine mv_callVi (pc := 152) (n := 0) (ci := 2) (C := R_Tokens) B (mK_ok sk sv) hNs rfl rfl (c_Tokens_kind l hi _ hR.1 (i32_in (by omega) (by omega))) rfl (ma_goodc kc_Tokens_kind) (B.2.2.2.1 _ k_1299) (B.2.2.2.1 _ k_1271) (B.2.2.2.1 _ k_1272) (B.2.2.2.1 _ k_3) ⟨by decide +kernel, by decide +kernel, by decide +kernel⟩ rfl d_Weaver_closeBlock_152 rfl (Nat.le_of_ble_eq_true rfl) ⟨by decide, by decide⟩ ⟨by decide, by decide⟩ ⟨by decide, by decide⟩ (mv_noH hno _) (fun v152 σ152 h152 => ?_)
          obtain ⟨e152, z152⟩ := h152
          have e152 := e152.symm
          subst e152
          have hk152 : mv_a σ145 4 (mv_i σ145 3 7).toNatClampNeg = v152 := (z152.trans (if_pos (lt0.mpr u9))).symm
          clear z152
          refine mv_sipush (pc := 155) (v := 209) B d_Weaver_closeBlock_155 (by decide) ?_
          refine mv_icmp_ne (pc := 158) (tgt := 169) B d_Weaver_closeBlock_158 rfl (fun h158 => ?_) (fun h158 => ?_)
          · skip
            refine mv_aload_n (pc := 169) B d_Weaver_closeBlock_169 rfl 2 rfl ?_
            refine mv_sipush (pc := 170) (v := 210) B d_Weaver_closeBlock_170 (by decide) ?_
            refine mv_iconst (pc := 173) (v := -1) B d_Weaver_closeBlock_173 (by decide) ?_
            refine mv_iload_n (pc := 174) B d_Weaver_closeBlock_174 rfl 0 rfl ?_
            refine mv_callVv (pc := 175) (n := 3) (ci := 1) (C := R_Weaver) B (mK_ok sk sv) hNs rfl rfl (c_Weaver_openBlock l hi _ _ _ _ hR.1 (hG.2.2.1.wt hV hP ht2) (by omega) (by omega) (by rw [i15]; omega) (by rw [i15]; omega)) rfl (ma_goodc kc_Weaver_openBlock) (B.2.2.2.1 _ k_1345) (B.2.2.2.1 _ k_1347) (B.2.2.2.1 _ ks_41) (B.2.2.2.1 _ k_2) ⟨by decide +kernel, by decide +kernel, by decide +kernel⟩ rfl d_Weaver_closeBlock_175 rfl (Nat.le_of_ble_eq_true rfl) ⟨by decide, by decide⟩ ⟨by decide, by decide⟩ ⟨by decide, by decide⟩ (mv_noH hno _) (fun σ175 h175 => ?_)
            obtain ⟨a6, w6, v6, r6, d6⟩ := h175
            have q6 := r6.1
            have hend : TP 48 512 σ σ175 n sz a := by
              rcases d6 with ⟨q1, q2⟩ | ⟨q1, q2⟩
              · rw [q2]; exact ⟨hV.tk3 _ _ _, hMt, th, sl, no, hW3.tk3 hP _ _ _, Or.inl q1⟩
              · rw [q2]
                have hd60 : ¬ (mv_i σ145 3 8).toInt = 60 := fun q => (r6.2.1 q1).2.2.1 (Int32.toInt_inj.mp q)
                exact ⟨(hV.tk3 _ _ _).wb _ _ _, hMt, th, sl, no, hW3.of hP ((OF.tk3 Fr.rf _ _ _).wb _ _ _), Or.inr ⟨a + 3, by omega, Or.inr (Or.inl ⟨rfl, s0 + 1, ns, _, List.cons_ne_nil _ _, WS.block (bl := r) (ex := s0 :: ex) (d := ((mv_i σ145 3 8).toInt + 1).toNat) hP (show a6.toInt = ((a + 3 : Nat) : Int) by omega) q1 (show (mv_i σ145 3 8 + 1).toInt = _ by rw [i32_inc (by omega)]; omega) (by omega) (by omega) (by omega) (by omega) (by omega) (show no ≤ nCd (mv_a σ145 4) (a + 3) from Nat.le_trans hnc2 (nCd_mono _ (by omega))) hK.1.1 hK.1.2.1 hW3.2.2.1.1 ⟨⟨fun q => absurd q (by decide), fun q => absurd q hrn⟩, fun q => absurd q hrn⟩ hK.1.2.2.2.1 hK.1.2.2.2.2 hK.1.2.2.1 hK.2.1 hK.2.2.1 hK.2.2.2⟩)⟩⟩
            refine mv_goto (pc := 178) (tgt := 213) B d_Weaver_closeBlock_178 rfl ?_
            exact mv_vret (pc := 213) B hr d_Weaver_closeBlock_213 (Nat.le_refl _) (Nat.le_refl _) ⟨rfl, hend⟩
          · skip
            have hk209 : mv_a σ145 4 (mv_i σ145 3 7).toNatClampNeg = 209 := hk152.trans h158
            refine mv_aload_n (pc := 161) B d_Weaver_closeBlock_161 rfl 2 rfl ?_
            refine mv_iload_n (pc := 162) B d_Weaver_closeBlock_162 rfl 0 rfl ?_
            refine mv_callVv (pc := 163) (n := 1) (ci := 1) (C := R_Weaver) B (mK_ok sk sv) hNs rfl rfl (c_Weaver_beginIf_b l hi _ _ (hG.wt hV hP) hMt hW3 hWX hrn hk209) rfl (ma_goodc kc_Weaver_beginIf) (B.2.2.2.1 _ k_1388) (B.2.2.2.1 _ k_1390) (B.2.2.2.1 _ ks_46) (B.2.2.2.1 _ k_2) ⟨by decide +kernel, by decide +kernel, by decide +kernel⟩ rfl d_Weaver_closeBlock_163 rfl (Nat.le_of_ble_eq_true rfl) ⟨by decide, by decide⟩ ⟨by decide, by decide⟩ ⟨by decide, by decide⟩ (mv_noH hno _) (fun σ163 h163 => ?_)
            have hend : TP 48 512 σ σ163 n sz a := h163.tr hV (by omega)
            refine mv_goto (pc := 166) (tgt := 178) B d_Weaver_closeBlock_166 rfl ?_
            refine mv_goto (pc := 178) (tgt := 213) B d_Weaver_closeBlock_178 rfl ?_
            exact mv_vret (pc := 213) B hr d_Weaver_closeBlock_213 (Nat.le_refl _) (Nat.le_refl _) ⟨rfl, hend⟩
    · skip
      have hr9 := hrow.mp h50
      subst hr9
      obtain ⟨hu8, hex⟩ := hz rfl
      subst hu8
      subst hex
      refine mv_aload_n (pc := 53) B d_Weaver_closeBlock_53 rfl 1 rfl ?_
      refine mv_getR (pc := 54) (ci := 1) (C := R_Weaver) (T := F_Weaver) (N := 16) B 5 rfl rfl (by decide) i_Weaver (B.2.2.2.1 _ k_235) rfl hR.2.2.1 d_Weaver_closeBlock_54 ?_
      refine mv_sipush (pc := 57) (v := 317) B d_Weaver_closeBlock_57 (by decide) ?_
      refine mv_lconst (pc := 60) (v := 0) B d_Weaver_closeBlock_60 (by decide) ?_
      refine mv_callVi (pc := 61) (n := 2) (ci := 7) (C := R_Program) B (mK_ok sk sv) hNs rfl rfl (c_Program_emit_b l hi _ _ _ hR.2.1 (by omega) (by omega)) rfl (ma_goodc kc_Program_emit) (B.2.2.2.1 _ k_1384) (B.2.2.2.1 _ k_1385) (B.2.2.2.1 _ k_1386) (B.2.2.2.1 _ k_8) ⟨by decide +kernel, by decide +kernel, by decide +kernel⟩ rfl d_Weaver_closeBlock_61 rfl (Nat.le_of_ble_eq_true rfl) ⟨by decide, by decide⟩ ⟨by decide, by decide⟩ ⟨by decide, by decide⟩ (mv_noH hno _) (fun v61 σ61 h61 => ?_)
      obtain ⟨e61, -⟩ := h61
      subst e61
      refine mv_gen (fun S64 eS64 => ?_)
      have hR : Rw 48 (mv_r S64) := by rw [eS64]; exact hR
      have hV : WT 48 σ S64 := by rw [eS64]; exact hV.emit _ _
      have hMt : Mt (mv_a S64 24) := by rw [eS64]; exact hMt
      have hW3 : WN 48 512 S64 n th sl no := by rw [eS64]; exact hW3.of hP (OF.emit Fr.rf _ _)
      have kO := hK.over hP (by omega)
      rw [← eS64] at kO
      have a64 : mv_a S64 4 = mv_a υ 4 := by rw [eS64]; rfl
      have u7 : (mv_i S64 3 7).toInt = a + 1 := by rw [eS64]; exact u7
      have ud : ((0 : Nat) : Int) ≤ (mv_i S64 3 8).toInt ∧ (mv_i S64 3 8).toInt ≤ 60 := by rw [eS64]; exact ud
      have u9 : (mv_i S64 3 9).toInt < 0 := by rw [eS64]; exact u9
      clear eS64
      refine mv_pop (pc := 64) B d_Weaver_closeBlock_64 rfl ?_
      refine mv_aload_n (pc := 65) B d_Weaver_closeBlock_65 rfl 1 rfl ?_
      refine mv_getR (pc := 66) (ci := 1) (C := R_Weaver) (T := F_Weaver) (N := 16) B 1 rfl rfl (by decide) i_Weaver (B.2.2.2.1 _ k_229) rfl (hR.1 _ 1 _ rfl) d_Weaver_closeBlock_66 ?_
      refine mv_callVv (pc := 69) (n := 0) (ci := 4) (C := R_Names) B (mK_ok sk sv) hNs rfl rfl (c_Names_leaveOp l hi _ hR.1 hW3.2.2.1) rfl (ma_goodc kc_Names_leaveOp) (B.2.2.2.1 _ k_1401) (B.2.2.2.1 _ k_1251) (B.2.2.2.1 _ k_1252) (B.2.2.2.1 _ k_5) ⟨by decide +kernel, by decide +kernel, by decide +kernel⟩ rfl d_Weaver_closeBlock_69 rfl (Nat.le_of_ble_eq_true rfl) ⟨by decide, by decide⟩ ⟨by decide, by decide⟩ ⟨by decide, by decide⟩ (mv_noH hno _) (fun σ69 h69 => ?_)
      obtain ⟨f69, n69, i69, l69⟩ := h69
      have w69 := hW3.leave hP f69 n69 i69 l69
      have hend : TP 48 512 σ (mv_si σ69 2 6 0) n sz a := ⟨WT.w (P := 48) (hV.tr (f69.up (fun o k q => by omega) (fun o q => by omega) (fun o q => by omega))) 6 0, by show Mt (mv_a σ69 24); rw [f69.2.1 24 (by decide)]; exact hMt, th, sl, no, w69.of hP (Fr.rf.si (Or.inr (Or.inr (Or.inl rfl)))), Or.inr ⟨a + 1, by omega, Or.inl ⟨rfl, s0 + 1, ns, ⟨by show (mv_i σ69 3 7).toInt = _; rw [f69.1 3 7 (by decide)]; omega, by show (mv_i σ69 3 9).toInt < 0; rw [f69.1 3 9 (by decide)]; omega, by show ((0 : Nat) : Int) ≤ (mv_i σ69 3 8).toInt; rw [f69.1 3 8 (by decide)]; omega, by show (mv_i σ69 3 8).toInt ≤ 60; rw [f69.1 3 8 (by decide)]; omega, u6, by omega, by omega, by show no ≤ nCd (mv_a σ69 4) (a + 1); rw [f69.2.1 4 (by decide), a64]; exact hnc⟩, ⟨by show (mv_i σ69 2 15).toInt = 0; rw [f69.1 2 15 (by decide)]; exact kO.1, trivial, fun b hb => absurd hb List.not_mem_nil⟩, by show (mv_i σ69 48 17).toInt = _; rw [f69.1 48 17 (by decide)]; exact kO.2.1, by show nSet (mv_a σ69 57) (s0 + 1) = ns; rw [f69.2.1 57 (by decide)]; exact kO.2.2.1, fun q => by have q : mv_i σ69 21 0 = 0 := q; rw [f69.1 21 0 (by decide)] at q; obtain ⟨hg, k⟩ := kO.2.2.2 q; exact ⟨hg, by show CS th (s0 + 1) (mv_a σ69 57) (mv_b σ69 58) (mv_a σ69 55) no [] hg 0; rw [f69.2.1 57 (by decide), f69.2.2.1 58 (by decide), f69.2.1 55 (by decide)]; exact k⟩⟩⟩⟩
      refine mv_aload_n (pc := 72) B d_Weaver_closeBlock_72 rfl 1 rfl ?_
      refine mv_iconst (pc := 73) (v := 0) B d_Weaver_closeBlock_73 (by decide) ?_
      refine mv_putI (pc := 74) (ci := 1) (C := R_Weaver) (T := F_Weaver) (N := 16) B 6 rfl rfl (by decide) i_Weaver t_Weaver_ok n_Weaver (B.2.2.2.1 _ k_236) rfl rfl rfl rfl d_Weaver_closeBlock_74 ?_
      refine mv_goto (pc := 77) (tgt := 213) B d_Weaver_closeBlock_77 rfl ?_
      exact mv_vret (pc := 213) B hr d_Weaver_closeBlock_213 (Nat.le_refl _) (Nat.le_refl _) ⟨rfl, hend⟩
  refine mv_aload_n (pc := 0) B d_Weaver_closeBlock_0 rfl 0 rfl ?_
  refine mv_getR (pc := 1) (ci := 1) (C := R_Weaver) (T := F_Weaver) (N := 16) B 0 rfl rfl (by decide) i_Weaver (B.2.2.2.1 _ k_228) rfl (hR.1 _ 0 _ rfl) d_Weaver_closeBlock_1 ?_
  refine mv_bipush (pc := 4) (v := 125) B d_Weaver_closeBlock_4 (by decide) ?_
  refine mv_callVi (pc := 6) (n := 1) (ci := 2) (C := R_Tokens) B (mK_ok sk sv) hNs rfl rfl (c_Tokens_closeN l hi _ _ hR.1 hG.2.2.1 (by omega) (by omega) (by decide)) rfl (ma_goodc kc_Tokens_close) (B.2.2.2.1 _ k_1396) (B.2.2.2.1 _ k_1397) (B.2.2.2.1 _ k_1398) (B.2.2.2.1 _ k_3) ⟨by decide +kernel, by decide +kernel, by decide +kernel⟩ rfl d_Weaver_closeBlock_6 rfl (Nat.le_of_ble_eq_true rfl) ⟨by decide, by decide⟩ ⟨by decide, by decide⟩ ⟨by decide, by decide⟩ (mv_noH hno _) (fun v6 σ6 h6 => ?_)
  obtain ⟨a6, w6, e6, r6⟩ := h6
  have q6 := r6.1
  have hw6 := r6.2.2.1 hw9 hk3 trivial
  subst e6
  refine mv_pop (pc := 9) B d_Weaver_closeBlock_9 rfl ?_
  refine mv_aload_n (pc := 10) B d_Weaver_closeBlock_10 rfl 0 rfl ?_
  refine mv_dup (pc := 11) B d_Weaver_closeBlock_11 rfl ?_
  refine mv_getI (pc := 12) (ci := 1) (C := R_Weaver) (T := F_Weaver) (N := 16) B 15 rfl rfl (by decide) i_Weaver (B.2.2.2.1 _ k_245) rfl d_Weaver_closeBlock_12 ?_
  refine mv_iconst (pc := 15) (v := 1) B d_Weaver_closeBlock_15 (by decide) ?_
  refine mv_isub (pc := 16) B d_Weaver_closeBlock_16 ?_
  refine mv_putI (pc := 17) (ci := 1) (C := R_Weaver) (T := F_Weaver) (N := 16) B 15 rfl rfl (by decide) i_Weaver t_Weaver_ok n_Weaver (B.2.2.2.1 _ k_245) rfl rfl rfl rfl d_Weaver_closeBlock_17 ?_
  refine mv_gen (fun S20 eS20 => ?_)
  have hR : Rw 48 (mv_r S20) := by rw [eS20]; exact hR
  have hV : WT 48 σ S20 := by rw [eS20]; exact (WT0.tk3 _ _ _).w _ _
  have hMt : Mt (mv_a S20 24) := by rw [eS20]; exact hM
  have hW2 : WN 48 512 S20 n th sl no := by rw [eS20]; exact hW.of hP ((OF.tk3 Fr.rf _ _ _).w _ _)
  have ea : mv_a S20 = mv_a σ := by rw [eS20]; rfl
  have eb : mv_b S20 = mv_b σ := by rw [eS20]; rfl
  have i15 : (mv_i S20 2 15).toInt = r.length := by rw [eS20]; show (mv_i σ 2 15 - 1).toInt = _; rw [sub_one (by omega)]; omega
  have i13 : mv_i S20 13 7 = mv_i σ 13 7 := by rw [eS20]; rfl
  have i21 : mv_i S20 21 0 = mv_i σ 21 0 := by rw [eS20]; rfl
  have iP17 : mv_i S20 48 17 = mv_i σ 48 17 := by rw [eS20]; rfl
  have j6 : mv_i S20 2 6 = 1 := by rw [eS20]; exact hm1
  have j7 : (mv_i S20 3 7).toInt = a6.toInt := by rw [eS20]; rfl
  have j8 : (mv_i S20 3 8).toInt = (mv_i σ 3 8).toInt - 1 := by rw [eS20]; exact sub_one (x := mv_i σ 3 8) (by omega)
  have j9 : (mv_i S20 3 9).toInt = w6.toInt := by rw [eS20]; rfl
  have ec20 : (mv_i S20 2 15).toNatClampNeg = r.length := by have := i32_cl (x := mv_i S20 2 15) (by omega); omega
  obtain ⟨k8, ek8⟩ : ∃ k, k = mv_a σ 31 r.length := ⟨_, rfl⟩
  rw [← ek8] at hB4 hB5 hB7
  have hk80 := hB4
  have hk81 := hB5
  clear eS20
  refine mv_aload_n (pc := 20) B d_Weaver_closeBlock_20 rfl 0 rfl ?_
  refine mv_getR (pc := 21) (ci := 1) (C := R_Weaver) (T := F_Weaver) (N := 16) B 1 rfl rfl (by decide) i_Weaver (B.2.2.2.1 _ k_229) rfl (hR.1 _ 1 _ rfl) d_Weaver_closeBlock_21 ?_
  refine mv_aload_n (pc := 24) B d_Weaver_closeBlock_24 rfl 0 rfl ?_
  refine mv_getR (pc := 25) (ci := 1) (C := R_Weaver) (T := F_Weaver) (N := 16) B 14 rfl rfl (by decide) i_Weaver (B.2.2.2.1 _ k_244) rfl (hR.1 _ 14 _ rfl) d_Weaver_closeBlock_25 ?_
  refine mv_aload_n (pc := 28) B d_Weaver_closeBlock_28 rfl 0 rfl ?_
  refine mv_getI (pc := 29) (ci := 1) (C := R_Weaver) (T := F_Weaver) (N := 16) B 15 rfl rfl (by decide) i_Weaver (B.2.2.2.1 _ k_245) rfl d_Weaver_closeBlock_29 ?_
  refine mv_iald (pc := 32) B rfl (i32_in (by omega) (by omega)) d_Weaver_closeBlock_32 ?_
  rw [ec20, ea, ← ek8]
  clear ek8
  refine mv_callVv (pc := 33) (n := 1) (ci := 4) (C := R_Names) B (mK_ok sk sv) hNs rfl rfl (c_Names_forget l hi _ _ hR.1 hW2.2.2.1 hk80) rfl (ma_goodc kc_Names_forget) (B.2.2.2.1 _ k_1400) (B.2.2.2.1 _ k_1259) (B.2.2.2.1 _ k_1260) (B.2.2.2.1 _ k_5) ⟨by decide +kernel, by decide +kernel, by decide +kernel⟩ rfl d_Weaver_closeBlock_33 rfl (Nat.le_of_ble_eq_true rfl) ⟨by decide, by decide⟩ ⟨by decide, by decide⟩ ⟨by decide, by decide⟩ (mv_noH hno _) (fun σ33 h33 => ?_)
  obtain ⟨f33, n33, i33⟩ := h33
  have hR : Rw 48 (mv_r σ33) := by rw [f33.2.2.2.2]; exact hR
  have hV : WT 48 σ σ33 := hV.tr (f33.up (fun o k q => by omega) (fun o q => by omega) (fun o q => q.elim))
  have hMt : Mt (mv_a σ33 24) := by rw [f33.2.1 24 (by decide)]; exact hMt
  have hW3 := hW2.forget hP f33 n33 i33 hk80 (by rw [i13]; exact hk81)
  have b28 : mv_a σ33 28 = mv_a σ 28 := (f33.2.1 28 (by decide)).trans (congrFun ea 28)
  have b29 : mv_a σ33 29 = mv_a σ 29 := (f33.2.1 29 (by decide)).trans (congrFun ea 29)
  have b30 : mv_a σ33 30 = mv_a σ 30 := (f33.2.1 30 (by decide)).trans (congrFun ea 30)
  have b31 : mv_a σ33 31 = mv_a σ 31 := (f33.2.1 31 (by decide)).trans (congrFun ea 31)
  have b9 : mv_a σ33 57 = mv_a σ 57 := (f33.2.1 57 (by decide)).trans (congrFun ea 57)
  have b7 : mv_a σ33 55 = mv_a σ 55 := (f33.2.1 55 (by decide)).trans (congrFun ea 55)
  have b10 : mv_b σ33 58 = mv_b σ 58 := (f33.2.2.1 58 (fun q => q)).trans (congrFun eb 58)
  have b4 : mv_a σ33 4 = mv_a σ 4 := (f33.2.1 4 (by decide)).trans (congrFun ea 4)
  have hK : KB 48 σ33 th s0 ns no u8 (mv_a σ 30 r.length) ex r := by
    unfold KB
    rw [b28, b29, b30, b31, show mv_a σ33 (48 + 9) = mv_a σ (48 + 9) from b9, show mv_b σ33 (48 + 10) = mv_b σ (48 + 10) from b10, show mv_a σ33 (48 + 7) = mv_a σ (48 + 7) from b7, i33, f33.1 2 15 (by decide), f33.1 48 17 (by decide), f33.1 21 0 (by decide), i21, iP17]
    exact ⟨⟨i15, hB7, hS.2.1.2.2, hB3, hB6⟩, hS.2.2⟩
  have t7 : (mv_i σ33 3 7).toInt = a6.toInt := by rw [f33.1 3 7 (by decide)]; exact j7
  have t8 : (mv_i σ33 3 8).toInt = (mv_i σ 3 8).toInt - 1 := by rw [f33.1 3 8 (by decide)]; exact j8
  have t9 : (mv_i σ33 3 9).toInt = w6.toInt := by rw [f33.1 3 9 (by decide)]; exact j9
  have hm2 : mv_i σ33 2 6 = 1 := by rw [f33.1 2 6 (by decide)]; exact j6
  have hrow : mv_a σ33 28 r.length = 206 ↔ r = [] := by rw [b28]; exact hB1.1
  have hz : r = [] → u8 = -1 ∧ ex = [] := hB1.2
  have hu : mv_a σ33 29 r.length = u8 := by rw [b29]; exact hB2
  have hx : mv_a σ33 30 r.length = mv_a σ 30 r.length := by rw [b30]
  have hnc : no ≤ nCd (mv_a σ33 4) (a + 1) := by rw [b4]; exact Nat.le_trans hS.1.2.2.2.2.2.2.2 (nCd_mono _ (by omega))
  obtain ⟨x8, ex8⟩ : ∃ x, x = mv_a σ 30 r.length := ⟨_, rfl⟩
  rw [← ex8] at hK hx
  refine mv_lpick [0] rfl ?_
  exact j36 _ u8 x8 ex r hR hV hMt hW3 hK (by omega) (by omega) ⟨by omega, by omega⟩ (by omega) hm2 hrow hz hu hx hnc
set_option maxHeartbeats 4000000 in
set_option maxRecDepth 100000 in
theorem c_Weaver_closeBlock_c (l : Launch) {dA : FieldType → ClassId} {D : va_G} {al : Nat → Nat} {sk sv : Nat → Nat} (hi : mv_inj (mg dA D al me)) (σ : mv_H) (u8 : Int32) (ex : List Nat) (r : List Bk) {t tn len n z sz th sl s0 a ns no : Nat} (hG : WG 145 8192 48 me σ t tn len n z sz) (hM : Mt (mv_a σ 24)) (hW : WN 145 48 σ n th sl no) (hS : WS 145 σ sz th s0 a ns no ((u8, ex) :: r)) (hm1 : mv_i σ 2 6 = 1) (hk3 : mv_a σ 4 (mv_i σ 3 7).toNatClampNeg = 125) : mv_C l y_Weaver_closeBlock (Cond.code y_Weaver_closeBlock b_Weaver_closeBlock 3 (Option.none : Option Jvm.ClassFile.FieldType) :: ma) ({ frames := 4, cells := 0, slots := 0, locals := 86 }) (mg dA D al me) (mK sk sv) [.ref (al 2)] σ (mv_Rv (fun σ1 => TP 145 48 σ σ1 n sz a)) := by
  refine mv_C.ofV (cc := b_Weaver_closeBlock) (nL := 3) (ret := (Option.none : Option Jvm.ClassFile.FieldType)) (by decide +kernel) rfl hi (Nat.le_of_ble_eq_true rfl) ?_
  intro p e s m below meth c B hNs hr hnm hno
  have hP : PQ 145 := by unfold PQ; omega
  have hR := hG.1
  have ht2 := hG.2.1.2.2.2.2.2.2
  have hF : EF σ σ := Fr.rf
  have hN : mv_i σ 21 0 = 0 → mv_i σ 21 0 = 0 := fun q => q
  have hE := hG.2.2.1
  have hsz := hE.2.2.2.2.2
  have hsz2 := hE.2.2.2.1
  have hlen := hG.2.2.2.2.1
  have hlen2 := hG.2.2.2.2.2
  have t7 := hS.1.1
  have hw9 := hS.1.2.1
  have ha9 := hS.1.2.2.2.2.1
  have t9 : (mv_i σ 3 9).toInt = (mv_i σ 3 9).toInt := rfl
  have t8 : (mv_i σ 3 8).toInt = (mv_i σ 3 8).toInt := rfl
  have kp : mv_a σ 4 = mv_a σ 4 := rfl
  have k6 : mv_b σ 6 = mv_b σ 6 := rfl
  have hs5 := hS.1.2.2.2.2.2.1
  have hs6 := hS.1.2.2.2.2.2.2.1
  have hd8 := hS.1.2.2.1
  have hd9 := hS.1.2.2.2.1
  obtain ⟨hB1, hB2, hB3, hB4, hB5, hB6, hB7⟩ := hS.2.1.2.1
  have hlb : (((u8, ex) : Bk) :: r).length = r.length + 1 := rfl
  have hb15 := hS.2.1.1
  have j36 : ∀ (υ : mv_H) (u8 x8 : Int32) (ex : List Nat) (r : List Bk) (hR : Rw 145 (mv_r υ)) (hV : WT 145 σ υ) (hMt : Mt (mv_a υ 24)) (hW3 : WN 145 48 υ n th sl no) (hK : KB 145 υ th s0 ns no u8 x8 ex r) (u7 : (mv_i υ 3 7).toInt = a + 1) (u6 : a + 1 < sz) (ud : (r.length : Int) ≤ (mv_i υ 3 8).toInt ∧ (mv_i υ 3 8).toInt ≤ 60) (u9 : (mv_i υ 3 9).toInt < 0) (hm1 : mv_i υ 2 6 = 1) (hrow : mv_a υ 28 r.length = 206 ↔ r = []) (hz : r = [] → u8 = -1 ∧ ex = []) (hu : mv_a υ 29 r.length = u8) (hx : mv_a υ 30 r.length = x8) (hnc : no ≤ nCd (mv_a υ 4) (a + 1)), mv_V p l e ({ frames := 4, cells := 0, slots := 0, locals := 86 }) s m ([.ref (al 2)] : List Value).toArray below meth c (mg dA D al me) 3 0 0 (mv_Q (mg dA D al me) below s 0 0 (mv_Rv (fun σ1 => TP 145 48 σ σ1 n sz a))) υ 36 [(0, .ref (al 2))] [] := by
    intro υ u8 x8 ex r hR hV hMt hW3 hK u7 u6 ud u9 hm1 hrow hz hu hx hnc
    have hb15 := hK.1.1
    have ec : (mv_i υ 2 15).toNatClampNeg = r.length := by have := i32_cl (x := mv_i υ 2 15) (by omega); omega
    have h17 := hK.2.1
    have hO := hK.1.2.2.1
    have hu8R : u8.toInt < 8192 := by
      by_cases q : u8.toInt < 0
      · omega
      · have := (hO.head.1 u8.toInt.toNat (show u8.toInt = _ by omega)).1; omega
    have hTE := hG.2.2.1.wt hV hP ht2
    have j181 : ∀ (hrn : ¬ r = []) , mv_V p l e ({ frames := 4, cells := 0, slots := 0, locals := 86 }) s m ([.ref (al 2)] : List Value).toArray below meth c (mg dA D al me) 3 0 0 (mv_Q (mg dA D al me) below s 0 0 (mv_Rv (fun σ1 => TP 145 48 σ σ1 n sz a))) υ 181 [(0, .ref (al 2))] [] := by
      intro hrn
      refine mv_aload_n (pc := 181) B d_Weaver_closeBlock_181 rfl 0 rfl ?_
      refine mv_getR (pc := 182) (ci := 1) (C := R_Weaver) (T := F_Weaver) (N := 16) B 5 rfl rfl (by decide) i_Weaver (B.2.2.2.1 _ k_235) rfl hR.2.2.1 d_Weaver_closeBlock_182 ?_
      refine mv_aload_n (pc := 185) B d_Weaver_closeBlock_185 rfl 0 rfl ?_
      refine mv_getR (pc := 186) (ci := 1) (C := R_Weaver) (T := F_Weaver) (N := 16) B 12 rfl rfl (by decide) i_Weaver (B.2.2.2.1 _ k_242) rfl (hR.1 _ 12 _ rfl) d_Weaver_closeBlock_186 ?_
      refine mv_aload_n (pc := 189) B d_Weaver_closeBlock_189 rfl 0 rfl ?_
      refine mv_getI (pc := 190) (ci := 1) (C := R_Weaver) (T := F_Weaver) (N := 16) B 15 rfl rfl (by decide) i_Weaver (B.2.2.2.1 _ k_245) rfl d_Weaver_closeBlock_190 ?_
      refine mv_iald (pc := 193) B rfl (i32_in (show 0 ≤ (mv_i υ 2 15).toInt by omega) (show (mv_i υ 2 15).toInt < 61 by omega)) d_Weaver_closeBlock_193 ?_
      rw [ec, hu]
      refine mv_callVv (pc := 194) (n := 1) (ci := 7) (C := R_Program) B (mK_ok sk sv) hNs rfl rfl (c_Program_aim_c l hi _ _ hR.2.1 hu8R) rfl (ma_goodc kc_Program_aim) (B.2.2.2.1 _ k_1402) (B.2.2.2.1 _ k_1403) (B.2.2.2.1 _ k_1404) (B.2.2.2.1 _ k_8) ⟨by decide +kernel, by decide +kernel, by decide +kernel⟩ rfl d_Weaver_closeBlock_194 rfl (Nat.le_of_ble_eq_true rfl) ⟨by decide, by decide⟩ ⟨by decide, by decide⟩ ⟨by decide, by decide⟩ (mv_noH hno _) (fun σ194 h194 => ?_)
      have hK2 := hK.aim hP h194
      have hR : Rw 145 (mv_r σ194) := by rcases h194 with ⟨-, q⟩ | ⟨-, q⟩ <;> (rw [q]; exact hR)
      have hV2 : WT 145 υ σ194 := h194.elim (fun q => by rw [q.2]; exact WT0) (fun q => by rw [q.2]; exact Fr.rf.sb (Or.inr (Or.inr (Or.inr rfl))))
      have i194 : mv_i σ194 = mv_i υ := h194.elim (fun q => by rw [q.2]) (fun q => by rw [q.2]; rfl)
      have a194 : mv_a σ194 = mv_a υ := h194.elim (fun q => by rw [q.2]) (fun q => by rw [q.2]; rfl)
      refine mv_aload_n (pc := 197) B d_Weaver_closeBlock_197 rfl 0 rfl ?_
      refine mv_getR (pc := 198) (ci := 1) (C := R_Weaver) (T := F_Weaver) (N := 16) B 5 rfl rfl (by decide) i_Weaver (B.2.2.2.1 _ k_235) rfl hR.2.2.1 d_Weaver_closeBlock_198 ?_
      refine mv_aload_n (pc := 201) B d_Weaver_closeBlock_201 rfl 0 rfl ?_
      refine mv_getR (pc := 202) (ci := 1) (C := R_Weaver) (T := F_Weaver) (N := 16) B 13 rfl rfl (by decide) i_Weaver (B.2.2.2.1 _ k_243) rfl (hR.1 _ 13 _ rfl) d_Weaver_closeBlock_202 ?_
      refine mv_aload_n (pc := 205) B d_Weaver_closeBlock_205 rfl 0 rfl ?_
      refine mv_getI (pc := 206) (ci := 1) (C := R_Weaver) (T := F_Weaver) (N := 16) B 15 rfl rfl (by decide) i_Weaver (B.2.2.2.1 _ k_245) rfl d_Weaver_closeBlock_206 ?_
      refine mv_iald (pc := 209) B rfl (i32_in (by rw [i194]; omega) (by rw [i194]; omega)) d_Weaver_closeBlock_209 ?_
      rw [i194, ec, a194, hx]
      refine mv_callVv (pc := 210) (n := 1) (ci := 7) (C := R_Program) B (mK_ok sk sv) hNs rfl rfl (c_Program_aimAll_c l hi _ _ s0 ex hR.2.1 hK2.2.1 (by omega) hK2.1.2.2.2.1 (fun y hy => (hK2.1.2.2.1.head.2.1 y hy).1)) rfl (ma_goodc kc_Program_aimAll) (B.2.2.2.1 _ k_1406) (B.2.2.2.1 _ k_1407) (B.2.2.2.1 _ k_1408) (B.2.2.2.1 _ k_8) ⟨by decide +kernel, by decide +kernel, by decide +kernel⟩ rfl d_Weaver_closeBlock_210 rfl (Nat.le_of_ble_eq_true rfl) ⟨by decide, by decide⟩ ⟨by decide, by decide⟩ ⟨by decide, by decide⟩ (mv_noH hno _) (fun σ210 h210 => ?_)
      obtain ⟨f210, g210⟩ := h210
      have kA := hK2.all hP f210 g210
      have f211 : OF 145 σ194 σ210 := f210.up (fun _ _ q => q.elim) (fun _ q => q.elim) (fun o q => Or.inr q)
      have i210 : mv_i σ210 = mv_i υ := (funext fun o => funext fun k => f210.1 o k (fun q => q)).trans i194
      have a210 : mv_a σ210 = mv_a υ := (funext fun o => f210.2.1 o (fun q => q)).trans a194
      have hend : TP 145 48 σ σ210 n sz a := ⟨(hV.tr hV2).tr f211.wt, by rw [a210]; exact hMt, th, sl, no, (hW3.fr (by rw [i194]) (by rw [i194]) (by rw [i194]) (by rw [i194]) (by rw [i194]) (by rw [i194]) (by rw [i194]) (by rw [i194]) (by rw [a194]) (by rw [a194]) (by rw [a194]) (by rw [a194]) (by rw [a194])).of hP f211, Or.inr ⟨a + 1, by omega, Or.inr (Or.inl ⟨by rw [i210]; exact hm1, s0, ns, r, hrn, ⟨by rw [i210]; exact u7, by rw [i210]; exact u9, by rw [i210]; exact ud.1, by rw [i210]; exact ud.2, u6, by omega, by omega, by rw [a210]; exact hnc⟩, kA.1, kA.2⟩)⟩⟩
      exact mv_vret (pc := 213) B hr d_Weaver_closeBlock_213 (Nat.le_refl _) (Nat.le_refl _) ⟨rfl, hend⟩
    refine mv_aload_n (pc := 36) B d_Weaver_closeBlock_36 rfl 0 rfl ?_
    refine mv_getR (pc := 37) (ci := 1) (C := R_Weaver) (T := F_Weaver) (N := 16) B 11 rfl rfl (by decide) i_Weaver (B.2.2.2.1 _ k_241) rfl (hR.1 _ 11 _ rfl) d_Weaver_closeBlock_37 ?_
    refine mv_aload_n (pc := 40) B d_Weaver_closeBlock_40 rfl 0 rfl ?_
    refine mv_getI (pc := 41) (ci := 1) (C := R_Weaver) (T := F_Weaver) (N := 16) B 15 rfl rfl (by decide) i_Weaver (B.2.2.2.1 _ k_245) rfl d_Weaver_closeBlock_41 ?_
    refine mv_iald (pc := 44) B rfl (i32_in (show 0 ≤ (mv_i υ 2 15).toInt by omega) (show (mv_i υ 2 15).toInt < 61 by omega)) d_Weaver_closeBlock_44 ?_
    rw [ec]
    obtain ⟨kd, ekd⟩ : ∃ k, k = mv_a υ 28 r.length := ⟨_, rfl⟩
    rw [← ekd]
    rw [← ekd] at hrow
    clear ekd
    refine mv_istore_n (pc := 45) B d_Weaver_closeBlock_45 rfl (by decide) rfl ?_
    refine mv_iload_n (pc := 46) B d_Weaver_closeBlock_46 rfl 0 rfl ?_
    refine mv_sipush (pc := 47) (v := 206) B d_Weaver_closeBlock_47 (by decide) ?_
    refine mv_icmp_ne (pc := 50) (tgt := 80) B d_Weaver_closeBlock_50 rfl (fun h50 => ?_) (fun h50 => ?_)
    · skip
      have hrn : ¬ r = [] := fun q => h50 (hrow.mpr q)
      refine mv_iload_n (pc := 80) B d_Weaver_closeBlock_80 rfl 0 rfl ?_
      refine mv_sipush (pc := 81) (v := 209) B d_Weaver_closeBlock_81 (by decide) ?_
      refine mv_icmp_ne (pc := 84) (tgt := 181) B d_Weaver_closeBlock_84 rfl (fun h84 => ?_) (fun h84 => ?_)
      · skip
        refine mv_lpick [1] rfl ?_
        exact j181 hrn
      · skip
        refine mv_aload_n (pc := 87) B d_Weaver_closeBlock_87 rfl 1 rfl ?_
        refine mv_getR (pc := 88) (ci := 1) (C := R_Weaver) (T := F_Weaver) (N := 16) B 0 rfl rfl (by decide) i_Weaver (B.2.2.2.1 _ k_228) rfl (hR.1 _ 0 _ rfl) d_Weaver_closeBlock_88 ?_
        refine mv_callVi (pc := 91) (n := 0) (ci := 2) (C := R_Tokens) B (mK_ok sk sv) hNs rfl rfl (c_Tokens_kind l hi _ hR.1 (i32_in (by omega) (by omega))) rfl (ma_goodc kc_Tokens_kind) (B.2.2.2.1 _ k_1299) (B.2.2.2.1 _ k_1271) (B.2.2.2.1 _ k_1272) (B.2.2.2.1 _ k_3) ⟨by decide +kernel, by decide +kernel, by decide +kernel⟩ rfl d_Weaver_closeBlock_91 rfl (Nat.le_of_ble_eq_true rfl) ⟨by decide, by decide⟩ ⟨by decide, by decide⟩ ⟨by decide, by decide⟩ (mv_noH hno _) (fun v91 σ91 h91 => ?_)
        obtain ⟨e91, z91⟩ := h91
        have e91 := e91.symm
        subst e91
        have hk91 : mv_a υ 4 (mv_i υ 3 7).toNatClampNeg = v91 := (z91.trans (if_pos (lt0.mpr u9))).symm
        clear z91
        refine mv_sipush (pc := 94) (v := 210) B d_Weaver_closeBlock_94 (by decide) ?_
        refine mv_icmp_ne (pc := 97) (tgt := 181) B d_Weaver_closeBlock_97 rfl (fun h97 => ?_) (fun h97 => ?_)
        · skip
          refine mv_lpick [1] rfl ?_
          exact j181 hrn
        · skip
          refine mv_aload_n (pc := 100) B d_Weaver_closeBlock_100 rfl 1 rfl ?_
          refine mv_getR (pc := 101) (ci := 1) (C := R_Weaver) (T := F_Weaver) (N := 16) B 0 rfl rfl (by decide) i_Weaver (B.2.2.2.1 _ k_228) rfl (hR.1 _ 0 _ rfl) d_Weaver_closeBlock_101 ?_
          refine mv_sipush (pc := 104) (v := 210) B d_Weaver_closeBlock_104 (by decide) ?_
          refine mv_callVi (pc := 107) (n := 1) (ci := 2) (C := R_Tokens) B (mK_ok sk sv) hNs rfl rfl (c_Tokens_takeN l hi _ _ hR.1 hTE (by omega) (by omega) (by decide)) rfl (ma_goodc kc_Tokens_take) (B.2.2.2.1 _ k_1266) (B.2.2.2.1 _ k_1267) (B.2.2.2.1 _ k_1268) (B.2.2.2.1 _ k_3) ⟨by decide +kernel, by decide +kernel, by decide +kernel⟩ rfl d_Weaver_closeBlock_107 rfl (Nat.le_of_ble_eq_true rfl) ⟨by decide, by decide⟩ ⟨by decide, by decide⟩ ⟨by decide, by decide⟩ (mv_noH hno _) (fun v107 σ107 h107 => ?_)
          obtain ⟨a107, w107, e107, r107⟩ := h107
          have q107 := r107.1
          have hw107 := r107.2.2.1 u9 (hk91.trans h97) trivial
          subst e107
          refine mv_gen (fun S110 eS110 => ?_)
          have hR : Rw 145 (mv_r S110) := by rw [eS110]; exact hR
          have hV : WT 145 σ S110 := by rw [eS110]; exact hV.tk3 _ _ _
          have hMt : Mt (mv_a S110 24) := by rw [eS110]; exact hMt
          have hW3 : WN 145 48 S110 n th sl no := by rw [eS110]; exact hW3.of hP (OF.tk3 Fr.rf _ _ _)
          have hK : KB 145 S110 th s0 ns no u8 x8 ex r := by rw [eS110]; exact hK.fr hP rfl rfl rfl rfl rfl rfl
          have u7 : (mv_i S110 3 7).toInt = a + 2 := by rw [eS110]; show a107.toInt = _; omega
          have ud : (r.length : Int) ≤ (mv_i S110 3 8).toInt ∧ (mv_i S110 3 8).toInt ≤ 60 := by rw [eS110]; exact ud
          have u9 : (mv_i S110 3 9).toInt < 0 := by rw [eS110]; exact hw107
          have a4 : mv_a S110 4 = mv_a υ 4 := by rw [eS110]; rfl
          have i15 : mv_i S110 2 15 = mv_i υ 2 15 := by rw [eS110]; rfl
          have a29 : mv_a S110 29 = mv_a υ 29 := by rw [eS110]; rfl
          have a30 : mv_a S110 30 = mv_a υ 30 := by rw [eS110]; rfl
          have p17 : mv_i S110 145 17 = mv_i υ 145 17 := by rw [eS110]; rfl
          clear eS110
          refine mv_pop (pc := 110) B d_Weaver_closeBlock_110 rfl ?_
          refine mv_aload_n (pc := 111) B d_Weaver_closeBlock_111 rfl 1 rfl ?_
          refine mv_getR (pc := 112) (ci := 1) (C := R_Weaver) (T := F_Weaver) (N := 16) B 5 rfl rfl (by decide) i_Weaver (B.2.2.2.1 _ k_235) rfl hR.2.2.1 d_Weaver_closeBlock_112 ?_
          refine mv_sipush (pc := 115) (v := 311) B d_Weaver_closeBlock_115 (by decide) ?_
          refine mv_aload_n (pc := 118) B d_Weaver_closeBlock_118 rfl 1 rfl ?_
          refine mv_getR (pc := 119) (ci := 1) (C := R_Weaver) (T := F_Weaver) (N := 16) B 13 rfl rfl (by decide) i_Weaver (B.2.2.2.1 _ k_243) rfl (hR.1 _ 13 _ rfl) d_Weaver_closeBlock_119 ?_
          refine mv_aload_n (pc := 122) B d_Weaver_closeBlock_122 rfl 1 rfl ?_
          refine mv_getI (pc := 123) (ci := 1) (C := R_Weaver) (T := F_Weaver) (N := 16) B 15 rfl rfl (by decide) i_Weaver (B.2.2.2.1 _ k_245) rfl d_Weaver_closeBlock_123 ?_
          refine mv_iald (pc := 126) B rfl (i32_in (by rw [i15]; omega) (by rw [i15]; omega)) d_Weaver_closeBlock_126 ?_
          rw [i15, ec, a30, hx]
          refine mv_i2l (pc := 127) B d_Weaver_closeBlock_127 ?_
          refine mv_callVi (pc := 128) (n := 2) (ci := 7) (C := R_Program) B (mK_ok sk sv) hNs rfl rfl (c_Program_emit_c l hi _ _ _ hR.2.1 (show 0 ≤ (mv_i S110 145 17).toInt by rw [p17]; omega) (show (mv_i S110 145 17).toInt < 8192 by rw [p17]; omega)) rfl (ma_goodc kc_Program_emit) (B.2.2.2.1 _ k_1384) (B.2.2.2.1 _ k_1385) (B.2.2.2.1 _ k_1386) (B.2.2.2.1 _ k_8) ⟨by decide +kernel, by decide +kernel, by decide +kernel⟩ rfl d_Weaver_closeBlock_128 rfl (Nat.le_of_ble_eq_true rfl) ⟨by decide, by decide⟩ ⟨by decide, by decide⟩ ⟨by decide, by decide⟩ (mv_noH hno _) (fun v128 σ128 h128 => ?_)
          obtain ⟨e128, z128⟩ := h128
          subst e128
          refine mv_gen (fun S131 eS131 => ?_)
          have hR : Rw 145 (mv_r S131) := by rw [eS131]; exact hR
          have hV : WT 145 σ S131 := by rw [eS131]; exact hV.emit _ _
          have hMt : Mt (mv_a S131 24) := by rw [eS131]; exact hMt
          have hW3 : WN 145 48 S131 n th sl no := by rw [eS131]; exact hW3.of hP (OF.emit Fr.rf _ _)
          have hK : KB 145 S131 th (s0 + 1) ns no u8 v128 (s0 :: ex) r := by rw [eS131]; exact hK.jump hP (by omega) (by rw [z128, p17]; exact h17)
          have u7 : (mv_i S131 3 7).toInt = a + 2 := by rw [eS131]; exact u7
          have ud : (r.length : Int) ≤ (mv_i S131 3 8).toInt ∧ (mv_i S131 3 8).toInt ≤ 60 := by rw [eS131]; exact ud
          have u9 : (mv_i S131 3 9).toInt < 0 := by rw [eS131]; exact u9
          have a4 : mv_a S131 4 = mv_a υ 4 := by rw [eS131]; exact a4
          have i15 : mv_i S131 2 15 = mv_i υ 2 15 := by rw [eS131]; exact i15
          have a29 : mv_a S131 29 = mv_a υ 29 := by rw [eS131]; exact a29
          have a30 : mv_a S131 30 = mv_a υ 30 := by rw [eS131]; exact a30
          clear eS131
          refine mv_istore_n (pc := 131) B d_Weaver_closeBlock_131 rfl (by decide) rfl ?_
          refine mv_aload_n (pc := 132) B d_Weaver_closeBlock_132 rfl 2 rfl ?_
          refine mv_getR (pc := 133) (ci := 1) (C := R_Weaver) (T := F_Weaver) (N := 16) B 5 rfl rfl (by decide) i_Weaver (B.2.2.2.1 _ k_235) rfl hR.2.2.1 d_Weaver_closeBlock_133 ?_
          refine mv_aload_n (pc := 136) B d_Weaver_closeBlock_136 rfl 2 rfl ?_
          refine mv_getR (pc := 137) (ci := 1) (C := R_Weaver) (T := F_Weaver) (N := 16) B 12 rfl rfl (by decide) i_Weaver (B.2.2.2.1 _ k_242) rfl (hR.1 _ 12 _ rfl) d_Weaver_closeBlock_137 ?_
          refine mv_aload_n (pc := 140) B d_Weaver_closeBlock_140 rfl 2 rfl ?_
          refine mv_getI (pc := 141) (ci := 1) (C := R_Weaver) (T := F_Weaver) (N := 16) B 15 rfl rfl (by decide) i_Weaver (B.2.2.2.1 _ k_245) rfl d_Weaver_closeBlock_141 ?_
          refine mv_iald (pc := 144) B rfl (i32_in (by rw [i15]; omega) (by rw [i15]; omega)) d_Weaver_closeBlock_144 ?_
          rw [i15, ec, a29, hu]
          refine mv_callVv (pc := 145) (n := 1) (ci := 7) (C := R_Program) B (mK_ok sk sv) hNs rfl rfl (c_Program_aim_c l hi _ _ hR.2.1 hu8R) rfl (ma_goodc kc_Program_aim) (B.2.2.2.1 _ k_1402) (B.2.2.2.1 _ k_1403) (B.2.2.2.1 _ k_1404) (B.2.2.2.1 _ k_8) ⟨by decide +kernel, by decide +kernel, by decide +kernel⟩ rfl d_Weaver_closeBlock_145 rfl (Nat.le_of_ble_eq_true rfl) ⟨by decide, by decide⟩ ⟨by decide, by decide⟩ ⟨by decide, by decide⟩ (mv_noH hno _) (fun σ145 h145 => ?_)
          have hK := hK.aim hP h145
          have hR : Rw 145 (mv_r σ145) := by rcases h145 with ⟨-, q⟩ | ⟨-, q⟩ <;> (rw [q]; exact hR)
          have hV : WT 145 σ σ145 := hV.tr (h145.elim (fun q => by rw [q.2]; exact WT0) (fun q => by rw [q.2]; exact Fr.rf.sb (Or.inr (Or.inr (Or.inr rfl)))))
          have i145 : mv_i σ145 = mv_i S131 := h145.elim (fun q => by rw [q.2]) (fun q => by rw [q.2]; rfl)
          have a145 : mv_a σ145 = mv_a S131 := h145.elim (fun q => by rw [q.2]) (fun q => by rw [q.2]; rfl)
          have hW3 : WN 145 48 σ145 n th sl no := hW3.fr (by rw [i145]) (by rw [i145]) (by rw [i145]) (by rw [i145]) (by rw [i145]) (by rw [i145]) (by rw [i145]) (by rw [i145]) (by rw [a145]) (by rw [a145]) (by rw [a145]) (by rw [a145]) (by rw [a145])
          have hMt : Mt (mv_a σ145 24) := by rw [a145]; exact hMt
          have u7 : (mv_i σ145 3 7).toInt = a + 2 := by rw [i145]; exact u7
          have ud : (r.length : Int) ≤ (mv_i σ145 3 8).toInt ∧ (mv_i σ145 3 8).toInt ≤ 60 := by rw [i145]; exact ud
          have u9 : (mv_i σ145 3 9).toInt < 0 := by rw [i145]; exact u9
          have a4 : mv_a σ145 4 = mv_a υ 4 := by rw [a145]; exact a4
          have i15 : mv_i σ145 2 15 = mv_i υ 2 15 := by rw [i145]; exact i15
          have hnc2 : no ≤ nCd (mv_a σ145 4) (a + 2) := by rw [a4]; exact Nat.le_trans hnc (nCd_mono _ (by omega))
          have hWX : WX 145 σ145 sz th (s0 + 1) (a + 2) ns no r (s0 :: ex) v128 := ⟨⟨u7, u9, ud.1, ud.2, by omega, by omega, by omega, hnc2⟩, hK.1, hK.2⟩
          refine mv_aload_n (pc := 148) B d_Weaver_closeBlock_148 rfl 2 rfl ?_
          refine mv_getR (pc := 149) (ci := 1) (C := R_Weaver) (T := F_Weaver) (N := 16) B 0 rfl rfl (by decide) i_Weaver (B.2.2.2.1 _ k_228) rfl (hR.1 _ 0 _ rfl) d_Weaver_closeBlock_149 ?_
          refine mv_callVi (pc := 152) (n := 0) (ci := 2) (C := R_Tokens) B (mK_ok sk sv) hNs rfl rfl (c_Tokens_kind l hi _ hR.1 (i32_in (by omega) (by omega))) rfl (ma_goodc kc_Tokens_kind) (B.2.2.2.1 _ k_1299) (B.2.2.2.1 _ k_1271) (B.2.2.2.1 _ k_1272) (B.2.2.2.1 _ k_3) ⟨by decide +kernel, by decide +kernel, by decide +kernel⟩ rfl d_Weaver_closeBlock_152 rfl (Nat.le_of_ble_eq_true rfl) ⟨by decide, by decide⟩ ⟨by decide, by decide⟩ ⟨by decide, by decide⟩ (mv_noH hno _) (fun v152 σ152 h152 => ?_)
          obtain ⟨e152, z152⟩ := h152
          have e152 := e152.symm
          subst e152
          have hk152 : mv_a σ145 4 (mv_i σ145 3 7).toNatClampNeg = v152 := (z152.trans (if_pos (lt0.mpr u9))).symm
          clear z152
          refine mv_sipush (pc := 155) (v := 209) B d_Weaver_closeBlock_155 (by decide) ?_
          refine mv_icmp_ne (pc := 158) (tgt := 169) B d_Weaver_closeBlock_158 rfl (fun h158 => ?_) (fun h158 => ?_)
          · skip
            refine mv_aload_n (pc := 169) B d_Weaver_closeBlock_169 rfl 2 rfl ?_
            refine mv_sipush (pc := 170) (v := 210) B d_Weaver_closeBlock_170 (by decide) ?_
            refine mv_iconst (pc := 173) (v := -1) B d_Weaver_closeBlock_173 (by decide) ?_
            refine mv_iload_n (pc := 174) B d_Weaver_closeBlock_174 rfl 0 rfl ?_
            refine mv_callVv (pc := 175) (n := 3) (ci := 1) (C := R_Weaver) B (mK_ok sk sv) hNs rfl rfl (c_Weaver_openBlock l hi _ _ _ _ hR.1 (hG.2.2.1.wt hV hP ht2) (by omega) (by omega) (by rw [i15]; omega) (by rw [i15]; omega)) rfl (ma_goodc kc_Weaver_openBlock) (B.2.2.2.1 _ k_1345) (B.2.2.2.1 _ k_1347) (B.2.2.2.1 _ ks_41) (B.2.2.2.1 _ k_2) ⟨by decide +kernel, by decide +kernel, by decide +kernel⟩ rfl d_Weaver_closeBlock_175 rfl (Nat.le_of_ble_eq_true rfl) ⟨by decide, by decide⟩ ⟨by decide, by decide⟩ ⟨by decide, by decide⟩ (mv_noH hno _) (fun σ175 h175 => ?_)
            obtain ⟨a6, w6, v6, r6, d6⟩ := h175
            have q6 := r6.1
            have hend : TP 145 48 σ σ175 n sz a := by
              rcases d6 with ⟨q1, q2⟩ | ⟨q1, q2⟩
              · rw [q2]; exact ⟨hV.tk3 _ _ _, hMt, th, sl, no, hW3.tk3 hP _ _ _, Or.inl q1⟩
              · rw [q2]
                have hd60 : ¬ (mv_i σ145 3 8).toInt = 60 := fun q => (r6.2.1 q1).2.2.1 (Int32.toInt_inj.mp q)
                exact ⟨(hV.tk3 _ _ _).wb _ _ _, hMt, th, sl, no, hW3.of hP ((OF.tk3 Fr.rf _ _ _).wb _ _ _), Or.inr ⟨a + 3, by omega, Or.inr (Or.inl ⟨rfl, s0 + 1, ns, _, List.cons_ne_nil _ _, WS.block (bl := r) (ex := s0 :: ex) (d := ((mv_i σ145 3 8).toInt + 1).toNat) hP (show a6.toInt = ((a + 3 : Nat) : Int) by omega) q1 (show (mv_i σ145 3 8 + 1).toInt = _ by rw [i32_inc (by omega)]; omega) (by omega) (by omega) (by omega) (by omega) (by omega) (show no ≤ nCd (mv_a σ145 4) (a + 3) from Nat.le_trans hnc2 (nCd_mono _ (by omega))) hK.1.1 hK.1.2.1 hW3.2.2.1.1 ⟨⟨fun q => absurd q (by decide), fun q => absurd q hrn⟩, fun q => absurd q hrn⟩ hK.1.2.2.2.1 hK.1.2.2.2.2 hK.1.2.2.1 hK.2.1 hK.2.2.1 hK.2.2.2⟩)⟩⟩
            refine mv_goto (pc := 178) (tgt := 213) B d_Weaver_closeBlock_178 rfl ?_
            exact mv_vret (pc := 213) B hr d_Weaver_closeBlock_213 (Nat.le_refl _) (Nat.le_refl _) ⟨rfl, hend⟩
          · skip
            have hk209 : mv_a σ145 4 (mv_i σ145 3 7).toNatClampNeg = 209 := hk152.trans h158
            refine mv_aload_n (pc := 161) B d_Weaver_closeBlock_161 rfl 2 rfl ?_
            refine mv_iload_n (pc := 162) B d_Weaver_closeBlock_162 rfl 0 rfl ?_
            refine mv_callVv (pc := 163) (n := 1) (ci := 1) (C := R_Weaver) B (mK_ok sk sv) hNs rfl rfl (c_Weaver_beginIf_c l hi _ _ (hG.wt hV hP) hMt hW3 hWX hrn hk209) rfl (ma_goodc kc_Weaver_beginIf) (B.2.2.2.1 _ k_1388) (B.2.2.2.1 _ k_1390) (B.2.2.2.1 _ ks_46) (B.2.2.2.1 _ k_2) ⟨by decide +kernel, by decide +kernel, by decide +kernel⟩ rfl d_Weaver_closeBlock_163 rfl (Nat.le_of_ble_eq_true rfl) ⟨by decide, by decide⟩ ⟨by decide, by decide⟩ ⟨by decide, by decide⟩ (mv_noH hno _) (fun σ163 h163 => ?_)
            have hend : TP 145 48 σ σ163 n sz a := h163.tr hV (by omega)
            refine mv_goto (pc := 166) (tgt := 178) B d_Weaver_closeBlock_166 rfl ?_
            refine mv_goto (pc := 178) (tgt := 213) B d_Weaver_closeBlock_178 rfl ?_
            exact mv_vret (pc := 213) B hr d_Weaver_closeBlock_213 (Nat.le_refl _) (Nat.le_refl _) ⟨rfl, hend⟩
    · skip
      have hr9 := hrow.mp h50
      subst hr9
      obtain ⟨hu8, hex⟩ := hz rfl
      subst hu8
      subst hex
      refine mv_aload_n (pc := 53) B d_Weaver_closeBlock_53 rfl 1 rfl ?_
      refine mv_getR (pc := 54) (ci := 1) (C := R_Weaver) (T := F_Weaver) (N := 16) B 5 rfl rfl (by decide) i_Weaver (B.2.2.2.1 _ k_235) rfl hR.2.2.1 d_Weaver_closeBlock_54 ?_
      refine mv_sipush (pc := 57) (v := 317) B d_Weaver_closeBlock_57 (by decide) ?_
      refine mv_lconst (pc := 60) (v := 0) B d_Weaver_closeBlock_60 (by decide) ?_
      refine mv_callVi (pc := 61) (n := 2) (ci := 7) (C := R_Program) B (mK_ok sk sv) hNs rfl rfl (c_Program_emit_c l hi _ _ _ hR.2.1 (by omega) (by omega)) rfl (ma_goodc kc_Program_emit) (B.2.2.2.1 _ k_1384) (B.2.2.2.1 _ k_1385) (B.2.2.2.1 _ k_1386) (B.2.2.2.1 _ k_8) ⟨by decide +kernel, by decide +kernel, by decide +kernel⟩ rfl d_Weaver_closeBlock_61 rfl (Nat.le_of_ble_eq_true rfl) ⟨by decide, by decide⟩ ⟨by decide, by decide⟩ ⟨by decide, by decide⟩ (mv_noH hno _) (fun v61 σ61 h61 => ?_)
      obtain ⟨e61, -⟩ := h61
      subst e61
      refine mv_gen (fun S64 eS64 => ?_)
      have hR : Rw 145 (mv_r S64) := by rw [eS64]; exact hR
      have hV : WT 145 σ S64 := by rw [eS64]; exact hV.emit _ _
      have hMt : Mt (mv_a S64 24) := by rw [eS64]; exact hMt
      have hW3 : WN 145 48 S64 n th sl no := by rw [eS64]; exact hW3.of hP (OF.emit Fr.rf _ _)
      have kO := hK.over hP (by omega)
      rw [← eS64] at kO
      have a64 : mv_a S64 4 = mv_a υ 4 := by rw [eS64]; rfl
      have u7 : (mv_i S64 3 7).toInt = a + 1 := by rw [eS64]; exact u7
      have ud : ((0 : Nat) : Int) ≤ (mv_i S64 3 8).toInt ∧ (mv_i S64 3 8).toInt ≤ 60 := by rw [eS64]; exact ud
      have u9 : (mv_i S64 3 9).toInt < 0 := by rw [eS64]; exact u9
      clear eS64
      refine mv_pop (pc := 64) B d_Weaver_closeBlock_64 rfl ?_
      refine mv_aload_n (pc := 65) B d_Weaver_closeBlock_65 rfl 1 rfl ?_
      refine mv_getR (pc := 66) (ci := 1) (C := R_Weaver) (T := F_Weaver) (N := 16) B 1 rfl rfl (by decide) i_Weaver (B.2.2.2.1 _ k_229) rfl (hR.1 _ 1 _ rfl) d_Weaver_closeBlock_66 ?_
      refine mv_callVv (pc := 69) (n := 0) (ci := 4) (C := R_Names) B (mK_ok sk sv) hNs rfl rfl (c_Names_leaveOp l hi _ hR.1 hW3.2.2.1) rfl (ma_goodc kc_Names_leaveOp) (B.2.2.2.1 _ k_1401) (B.2.2.2.1 _ k_1251) (B.2.2.2.1 _ k_1252) (B.2.2.2.1 _ k_5) ⟨by decide +kernel, by decide +kernel, by decide +kernel⟩ rfl d_Weaver_closeBlock_69 rfl (Nat.le_of_ble_eq_true rfl) ⟨by decide, by decide⟩ ⟨by decide, by decide⟩ ⟨by decide, by decide⟩ (mv_noH hno _) (fun σ69 h69 => ?_)
      obtain ⟨f69, n69, i69, l69⟩ := h69
      have w69 := hW3.leave hP f69 n69 i69 l69
      have hend : TP 145 48 σ (mv_si σ69 2 6 0) n sz a := ⟨WT.w (P := 145) (hV.tr (f69.up (fun o k q => by omega) (fun o q => by omega) (fun o q => by omega))) 6 0, by show Mt (mv_a σ69 24); rw [f69.2.1 24 (by decide)]; exact hMt, th, sl, no, w69.of hP (Fr.rf.si (Or.inr (Or.inr (Or.inl rfl)))), Or.inr ⟨a + 1, by omega, Or.inl ⟨rfl, s0 + 1, ns, ⟨by show (mv_i σ69 3 7).toInt = _; rw [f69.1 3 7 (by decide)]; omega, by show (mv_i σ69 3 9).toInt < 0; rw [f69.1 3 9 (by decide)]; omega, by show ((0 : Nat) : Int) ≤ (mv_i σ69 3 8).toInt; rw [f69.1 3 8 (by decide)]; omega, by show (mv_i σ69 3 8).toInt ≤ 60; rw [f69.1 3 8 (by decide)]; omega, u6, by omega, by omega, by show no ≤ nCd (mv_a σ69 4) (a + 1); rw [f69.2.1 4 (by decide), a64]; exact hnc⟩, ⟨by show (mv_i σ69 2 15).toInt = 0; rw [f69.1 2 15 (by decide)]; exact kO.1, trivial, fun b hb => absurd hb List.not_mem_nil⟩, by show (mv_i σ69 145 17).toInt = _; rw [f69.1 145 17 (by decide)]; exact kO.2.1, by show nSet (mv_a σ69 154) (s0 + 1) = ns; rw [f69.2.1 154 (by decide)]; exact kO.2.2.1, fun q => by have q : mv_i σ69 21 0 = 0 := q; rw [f69.1 21 0 (by decide)] at q; obtain ⟨hg, k⟩ := kO.2.2.2 q; exact ⟨hg, by show CS th (s0 + 1) (mv_a σ69 154) (mv_b σ69 155) (mv_a σ69 152) no [] hg 0; rw [f69.2.1 154 (by decide), f69.2.2.1 155 (by decide), f69.2.1 152 (by decide)]; exact k⟩⟩⟩⟩
      refine mv_aload_n (pc := 72) B d_Weaver_closeBlock_72 rfl 1 rfl ?_
      refine mv_iconst (pc := 73) (v := 0) B d_Weaver_closeBlock_73 (by decide) ?_
      refine mv_putI (pc := 74) (ci := 1) (C := R_Weaver) (T := F_Weaver) (N := 16) B 6 rfl rfl (by decide) i_Weaver t_Weaver_ok n_Weaver (B.2.2.2.1 _ k_236) rfl rfl rfl rfl d_Weaver_closeBlock_74 ?_
      refine mv_goto (pc := 77) (tgt := 213) B d_Weaver_closeBlock_77 rfl ?_
      exact mv_vret (pc := 213) B hr d_Weaver_closeBlock_213 (Nat.le_refl _) (Nat.le_refl _) ⟨rfl, hend⟩
  refine mv_aload_n (pc := 0) B d_Weaver_closeBlock_0 rfl 0 rfl ?_
  refine mv_getR (pc := 1) (ci := 1) (C := R_Weaver) (T := F_Weaver) (N := 16) B 0 rfl rfl (by decide) i_Weaver (B.2.2.2.1 _ k_228) rfl (hR.1 _ 0 _ rfl) d_Weaver_closeBlock_1 ?_
  refine mv_bipush (pc := 4) (v := 125) B d_Weaver_closeBlock_4 (by decide) ?_
  refine mv_callVi (pc := 6) (n := 1) (ci := 2) (C := R_Tokens) B (mK_ok sk sv) hNs rfl rfl (c_Tokens_closeN l hi _ _ hR.1 hG.2.2.1 (by omega) (by omega) (by decide)) rfl (ma_goodc kc_Tokens_close) (B.2.2.2.1 _ k_1396) (B.2.2.2.1 _ k_1397) (B.2.2.2.1 _ k_1398) (B.2.2.2.1 _ k_3) ⟨by decide +kernel, by decide +kernel, by decide +kernel⟩ rfl d_Weaver_closeBlock_6 rfl (Nat.le_of_ble_eq_true rfl) ⟨by decide, by decide⟩ ⟨by decide, by decide⟩ ⟨by decide, by decide⟩ (mv_noH hno _) (fun v6 σ6 h6 => ?_)
  obtain ⟨a6, w6, e6, r6⟩ := h6
  have q6 := r6.1
  have hw6 := r6.2.2.1 hw9 hk3 trivial
  subst e6
  refine mv_pop (pc := 9) B d_Weaver_closeBlock_9 rfl ?_
  refine mv_aload_n (pc := 10) B d_Weaver_closeBlock_10 rfl 0 rfl ?_
  refine mv_dup (pc := 11) B d_Weaver_closeBlock_11 rfl ?_
  refine mv_getI (pc := 12) (ci := 1) (C := R_Weaver) (T := F_Weaver) (N := 16) B 15 rfl rfl (by decide) i_Weaver (B.2.2.2.1 _ k_245) rfl d_Weaver_closeBlock_12 ?_
  refine mv_iconst (pc := 15) (v := 1) B d_Weaver_closeBlock_15 (by decide) ?_
  refine mv_isub (pc := 16) B d_Weaver_closeBlock_16 ?_
  refine mv_putI (pc := 17) (ci := 1) (C := R_Weaver) (T := F_Weaver) (N := 16) B 15 rfl rfl (by decide) i_Weaver t_Weaver_ok n_Weaver (B.2.2.2.1 _ k_245) rfl rfl rfl rfl d_Weaver_closeBlock_17 ?_
  refine mv_gen (fun S20 eS20 => ?_)
  have hR : Rw 145 (mv_r S20) := by rw [eS20]; exact hR
  have hV : WT 145 σ S20 := by rw [eS20]; exact (WT0.tk3 _ _ _).w _ _
  have hMt : Mt (mv_a S20 24) := by rw [eS20]; exact hM
  have hW2 : WN 145 48 S20 n th sl no := by rw [eS20]; exact hW.of hP ((OF.tk3 Fr.rf _ _ _).w _ _)
  have ea : mv_a S20 = mv_a σ := by rw [eS20]; rfl
  have eb : mv_b S20 = mv_b σ := by rw [eS20]; rfl
  have i15 : (mv_i S20 2 15).toInt = r.length := by rw [eS20]; show (mv_i σ 2 15 - 1).toInt = _; rw [sub_one (by omega)]; omega
  have i13 : mv_i S20 13 7 = mv_i σ 13 7 := by rw [eS20]; rfl
  have i21 : mv_i S20 21 0 = mv_i σ 21 0 := by rw [eS20]; rfl
  have iP17 : mv_i S20 145 17 = mv_i σ 145 17 := by rw [eS20]; rfl
  have j6 : mv_i S20 2 6 = 1 := by rw [eS20]; exact hm1
  have j7 : (mv_i S20 3 7).toInt = a6.toInt := by rw [eS20]; rfl
  have j8 : (mv_i S20 3 8).toInt = (mv_i σ 3 8).toInt - 1 := by rw [eS20]; exact sub_one (x := mv_i σ 3 8) (by omega)
  have j9 : (mv_i S20 3 9).toInt = w6.toInt := by rw [eS20]; rfl
  have ec20 : (mv_i S20 2 15).toNatClampNeg = r.length := by have := i32_cl (x := mv_i S20 2 15) (by omega); omega
  obtain ⟨k8, ek8⟩ : ∃ k, k = mv_a σ 31 r.length := ⟨_, rfl⟩
  rw [← ek8] at hB4 hB5 hB7
  have hk80 := hB4
  have hk81 := hB5
  clear eS20
  refine mv_aload_n (pc := 20) B d_Weaver_closeBlock_20 rfl 0 rfl ?_
  refine mv_getR (pc := 21) (ci := 1) (C := R_Weaver) (T := F_Weaver) (N := 16) B 1 rfl rfl (by decide) i_Weaver (B.2.2.2.1 _ k_229) rfl (hR.1 _ 1 _ rfl) d_Weaver_closeBlock_21 ?_
  refine mv_aload_n (pc := 24) B d_Weaver_closeBlock_24 rfl 0 rfl ?_
  refine mv_getR (pc := 25) (ci := 1) (C := R_Weaver) (T := F_Weaver) (N := 16) B 14 rfl rfl (by decide) i_Weaver (B.2.2.2.1 _ k_244) rfl (hR.1 _ 14 _ rfl) d_Weaver_closeBlock_25 ?_
  refine mv_aload_n (pc := 28) B d_Weaver_closeBlock_28 rfl 0 rfl ?_
  refine mv_getI (pc := 29) (ci := 1) (C := R_Weaver) (T := F_Weaver) (N := 16) B 15 rfl rfl (by decide) i_Weaver (B.2.2.2.1 _ k_245) rfl d_Weaver_closeBlock_29 ?_
  refine mv_iald (pc := 32) B rfl (i32_in (by omega) (by omega)) d_Weaver_closeBlock_32 ?_
  rw [ec20, ea, ← ek8]
  clear ek8
  refine mv_callVv (pc := 33) (n := 1) (ci := 4) (C := R_Names) B (mK_ok sk sv) hNs rfl rfl (c_Names_forget l hi _ _ hR.1 hW2.2.2.1 hk80) rfl (ma_goodc kc_Names_forget) (B.2.2.2.1 _ k_1400) (B.2.2.2.1 _ k_1259) (B.2.2.2.1 _ k_1260) (B.2.2.2.1 _ k_5) ⟨by decide +kernel, by decide +kernel, by decide +kernel⟩ rfl d_Weaver_closeBlock_33 rfl (Nat.le_of_ble_eq_true rfl) ⟨by decide, by decide⟩ ⟨by decide, by decide⟩ ⟨by decide, by decide⟩ (mv_noH hno _) (fun σ33 h33 => ?_)
  obtain ⟨f33, n33, i33⟩ := h33
  have hR : Rw 145 (mv_r σ33) := by rw [f33.2.2.2.2]; exact hR
  have hV : WT 145 σ σ33 := hV.tr (f33.up (fun o k q => by omega) (fun o q => by omega) (fun o q => q.elim))
  have hMt : Mt (mv_a σ33 24) := by rw [f33.2.1 24 (by decide)]; exact hMt
  have hW3 := hW2.forget hP f33 n33 i33 hk80 (by rw [i13]; exact hk81)
  have b28 : mv_a σ33 28 = mv_a σ 28 := (f33.2.1 28 (by decide)).trans (congrFun ea 28)
  have b29 : mv_a σ33 29 = mv_a σ 29 := (f33.2.1 29 (by decide)).trans (congrFun ea 29)
  have b30 : mv_a σ33 30 = mv_a σ 30 := (f33.2.1 30 (by decide)).trans (congrFun ea 30)
  have b31 : mv_a σ33 31 = mv_a σ 31 := (f33.2.1 31 (by decide)).trans (congrFun ea 31)
  have b9 : mv_a σ33 154 = mv_a σ 154 := (f33.2.1 154 (by decide)).trans (congrFun ea 154)
  have b7 : mv_a σ33 152 = mv_a σ 152 := (f33.2.1 152 (by decide)).trans (congrFun ea 152)
  have b10 : mv_b σ33 155 = mv_b σ 155 := (f33.2.2.1 155 (fun q => q)).trans (congrFun eb 155)
  have b4 : mv_a σ33 4 = mv_a σ 4 := (f33.2.1 4 (by decide)).trans (congrFun ea 4)
  have hK : KB 145 σ33 th s0 ns no u8 (mv_a σ 30 r.length) ex r := by
    unfold KB
    rw [b28, b29, b30, b31, show mv_a σ33 (145 + 9) = mv_a σ (145 + 9) from b9, show mv_b σ33 (145 + 10) = mv_b σ (145 + 10) from b10, show mv_a σ33 (145 + 7) = mv_a σ (145 + 7) from b7, i33, f33.1 2 15 (by decide), f33.1 145 17 (by decide), f33.1 21 0 (by decide), i21, iP17]
    exact ⟨⟨i15, hB7, hS.2.1.2.2, hB3, hB6⟩, hS.2.2⟩
  have t7 : (mv_i σ33 3 7).toInt = a6.toInt := by rw [f33.1 3 7 (by decide)]; exact j7
  have t8 : (mv_i σ33 3 8).toInt = (mv_i σ 3 8).toInt - 1 := by rw [f33.1 3 8 (by decide)]; exact j8
  have t9 : (mv_i σ33 3 9).toInt = w6.toInt := by rw [f33.1 3 9 (by decide)]; exact j9
  have hm2 : mv_i σ33 2 6 = 1 := by rw [f33.1 2 6 (by decide)]; exact j6
  have hrow : mv_a σ33 28 r.length = 206 ↔ r = [] := by rw [b28]; exact hB1.1
  have hz : r = [] → u8 = -1 ∧ ex = [] := hB1.2
  have hu : mv_a σ33 29 r.length = u8 := by rw [b29]; exact hB2
  have hx : mv_a σ33 30 r.length = mv_a σ 30 r.length := by rw [b30]
  have hnc : no ≤ nCd (mv_a σ33 4) (a + 1) := by rw [b4]; exact Nat.le_trans hS.1.2.2.2.2.2.2.2 (nCd_mono _ (by omega))
  obtain ⟨x8, ex8⟩ : ∃ x, x = mv_a σ 30 r.length := ⟨_, rfl⟩
  rw [← ex8] at hK hx
  refine mv_lpick [0] rfl ?_
  exact j36 _ u8 x8 ex r hR hV hMt hW3 hK (by omega) (by omega) ⟨by omega, by omega⟩ (by omega) hm2 hrow hz hu hx hnc
