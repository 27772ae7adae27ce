/-! Machine: perform -/
/-- one doing at a, with heights hg -/
def Ins (th sz : Nat) (hg : Nat → Nat) (a : Nat) (d : Int32) (w : Int64) : Prop :=
  d = 316 ∨ d = 317 ∨ (d = 311 ∧ ∃ t : Nat, w.toInt = t ∧ a < t ∧ t ≤ sz ∧ hg t = hg a) ∨ (d = 312 ∧ ∃ t : Nat, w.toInt = t ∧ a < t ∧ t ≤ sz ∧ hg a = hg t + 1 ∧ hg (a + 1) = hg t) ∨ (¬ d = 311 ∧ ¬ d = 312 ∧ ¬ d = 316 ∧ ¬ d = 317 ∧ Op1 th d w (hg a) (hg (a + 1)))
def isSet (d : Int32) : Nat := if d = 314 ∨ d = 315 then 1 else 0
/-- how many assignments stand before place a -/
def nSet (f : Nat → Int32) : Nat → Nat
  | 0 => 0
  | n + 1 => nSet f n + isSet (f n)
theorem nSet_mono (f : Nat → Int32) {a b : Nat} (h : a ≤ b) : nSet f a ≤ nSet f b := by
  induction b with
  | zero => have : a = 0 := by omega
            subst this; exact Nat.le_refl _
  | succ b ih =>
    by_cases e : a = b + 1
    · subst e; exact Nat.le_refl _
    · have := ih (by omega)
      show nSet f a ≤ nSet f b + isSet (f b)
      omega
theorem nSet_con {f g : Nat → Int32} : ∀ n : Nat, (∀ i, i < n → f i = g i) → nSet f n = nSet g n := by
  intro n
  induction n with
  | zero => intro _; rfl
  | succ n ih =>
    intro h
    show nSet f n + isSet (f n) = nSet g n + isSet (g n)
    rw [ih (fun i q => h i (by omega)), h n (by omega)]
/-- the code is well made -/
def CodeOK (P R : Nat) (σ : mv_H) (th : Nat) : Prop := ∃ (hg : Nat → Nat) (sz : Nat), (mv_i σ P 17).toInt = sz ∧ sz ≤ R ∧ (∀ a, hg a ≤ 1000) ∧ (∀ a, a < sz → Ins th sz hg a (mv_a σ (P + 9) a) (mv_b σ (P + 10) a)) ∧ (∀ j : Nat, (j : Int) < (mv_i σ P 10).toInt → ∃ n : Nat, (mv_a σ (P + 7) j).toInt = n ∧ n ≤ sz ∧ hg n = 0) ∧ nSet (mv_a σ (P + 9)) sz ≤ 8193
theorem CodeOK.fm {P R th : Nat} {σ τ : mv_H} (h : CodeOK P R σ th) (f : FM σ τ) (hP : PP P) : CodeOK P R τ th := by
  unfold CodeOK
  rw [f.i hP, f.i hP, f.a hP (by omega), f.a hP (by omega), f.b hP (by omega)]
  exact h
theorem Un.up {σ : mv_H} {u : Nat} (h : Un σ u) : (mv_i σ 64 7).toInt = u := h.1
def y_Machine_perform : MethodName := ⟨"MachineLoom$Machine", "perform", "(IJ)I"⟩
abbrev b_Machine_perform : ByteArray := prog_5_method_10_code
theorem kc_Machine_perform : Cond.code y_Machine_perform b_Machine_perform 9 (Option.some Jvm.ClassFile.FieldType.int) ∈ ma := ma_of (tb_7 _ (List.mem_of_getElem? (i := 140) rfl)) rfl
theorem k_362 : (Jvm.Cond.fieldLink "MachineLoom$Machine" (146 : Nat) "MachineLoom$Program" "size" "I") ∈ ma := ma_of (tb_2 _ (List.mem_of_getElem? (i := 122) rfl)) rfl
theorem k_358 : (Jvm.Cond.fieldLink "MachineLoom$Machine" (149 : Nat) "MachineLoom$Program" "does" "[I") ∈ ma := ma_of (tb_2 _ (List.mem_of_getElem? (i := 118) rfl)) rfl
theorem k_360 : (Jvm.Cond.fieldLink "MachineLoom$Machine" (152 : Nat) "MachineLoom$Program" "withs" "[J") ∈ ma := ma_of (tb_2 _ (List.mem_of_getElem? (i := 120) rfl)) rfl
theorem k_1581 : (Jvm.Cond.methodLink "MachineLoom$Machine" (155 : Nat) ({ cls := "MachineLoom$Bits", name := "gather", desc := "(JJ)J" } : Jvm.MethodName)) ∈ ma := ma_of (tb_7 _ (List.mem_of_getElem? (i := 141) rfl)) rfl
theorem k_1582 : (Jvm.Cond.static ({ cls := "MachineLoom$Bits", name := "gather", desc := "(JJ)J" } : Jvm.MethodName)) ∈ ma := ma_of (tb_7 _ (List.mem_of_getElem? (i := 142) rfl)) rfl
theorem k_1605 : (Jvm.Cond.methodLink "MachineLoom$Machine" (166 : Nat) ({ cls := "MachineLoom$Machine", name := "work", desc := "(IJ)V" } : Jvm.MethodName)) ∈ ma := ma_of (tb_7 _ (List.mem_of_getElem? (i := 165) rfl)) rfl
theorem k_1607 : (Jvm.Cond.instanceMethod ({ cls := "MachineLoom$Machine", name := "work", desc := "(IJ)V" } : Jvm.MethodName)) ∈ ma := ma_of (tb_7 _ (List.mem_of_getElem? (i := 167) rfl)) rfl
theorem ks_74 : Cond.selects "MachineLoom$Machine" ⟨"MachineLoom$Machine", "work", "(IJ)V"⟩ ⟨"MachineLoom$Machine", "work", "(IJ)V"⟩ ∈ ma := ma_sel 74 rfl rfl
theorem k_1588 : (Jvm.Cond.methodLink "MachineLoom$Machine" (162 : Nat) ({ cls := "MachineLoom$Machine", name := "ofCell", desc := "(II)Z" } : Jvm.MethodName)) ∈ ma := ma_of (tb_7 _ (List.mem_of_getElem? (i := 148) rfl)) rfl
theorem k_1590 : (Jvm.Cond.instanceMethod ({ cls := "MachineLoom$Machine", name := "ofCell", desc := "(II)Z" } : Jvm.MethodName)) ∈ ma := ma_of (tb_7 _ (List.mem_of_getElem? (i := 150) rfl)) rfl
theorem ks_71 : Cond.selects "MachineLoom$Machine" ⟨"MachineLoom$Machine", "ofCell", "(II)Z"⟩ ⟨"MachineLoom$Machine", "ofCell", "(II)Z"⟩ ∈ ma := ma_sel 71 rfl rfl
theorem d_Machine_perform_0 : decode b_Machine_perform 0 = .ok (.aload_n 0, 1) := by decide +kernel
theorem d_Machine_perform_1 : decode b_Machine_perform 1 = .ok (.iconst 0, 1) := by decide +kernel
theorem d_Machine_perform_2 : decode b_Machine_perform 2 = .ok (.putfield 143, 3) := by decide +kernel
theorem d_Machine_perform_5 : decode b_Machine_perform 5 = .ok (.iload_n 1, 1) := by decide +kernel
theorem d_Machine_perform_6 : decode b_Machine_perform 6 = .ok (.istore 4, 2) := by decide +kernel
theorem d_Machine_perform_8 : decode b_Machine_perform 8 = .ok (.iconst 0, 1) := by decide +kernel
theorem d_Machine_perform_9 : decode b_Machine_perform 9 = .ok (.istore 5, 2) := by decide +kernel
theorem d_Machine_perform_11 : decode b_Machine_perform 11 = .ok (.iload 5, 2) := by decide +kernel
theorem d_Machine_perform_13 : decode b_Machine_perform 13 = .ok (.aload_n 0, 1) := by decide +kernel
theorem d_Machine_perform_14 : decode b_Machine_perform 14 = .ok (.getfield 29, 3) := by decide +kernel
theorem d_Machine_perform_17 : decode b_Machine_perform 17 = .ok (.getfield 146, 3) := by decide +kernel
theorem d_Machine_perform_20 : decode b_Machine_perform 20 = .ok (.if_icmp .ge (221), 3) := by decide +kernel
theorem d_Machine_perform_23 : decode b_Machine_perform 23 = .ok (.iload 4, 2) := by decide +kernel
theorem d_Machine_perform_25 : decode b_Machine_perform 25 = .ok (.aload_n 0, 1) := by decide +kernel
theorem d_Machine_perform_26 : decode b_Machine_perform 26 = .ok (.getfield 29, 3) := by decide +kernel
theorem d_Machine_perform_29 : decode b_Machine_perform 29 = .ok (.getfield 146, 3) := by decide +kernel
theorem d_Machine_perform_32 : decode b_Machine_perform 32 = .ok (.if_icmp .ge (209), 3) := by decide +kernel
theorem d_Machine_perform_35 : decode b_Machine_perform 35 = .ok (.aload_n 0, 1) := by decide +kernel
theorem d_Machine_perform_36 : decode b_Machine_perform 36 = .ok (.getfield 29, 3) := by decide +kernel
theorem d_Machine_perform_39 : decode b_Machine_perform 39 = .ok (.getfield 149, 3) := by decide +kernel
theorem d_Machine_perform_42 : decode b_Machine_perform 42 = .ok (.iload 4, 2) := by decide +kernel
theorem d_Machine_perform_44 : decode b_Machine_perform 44 = .ok (.iaload, 1) := by decide +kernel
theorem d_Machine_perform_45 : decode b_Machine_perform 45 = .ok (.istore 6, 2) := by decide +kernel
theorem d_Machine_perform_47 : decode b_Machine_perform 47 = .ok (.aload_n 0, 1) := by decide +kernel
theorem d_Machine_perform_48 : decode b_Machine_perform 48 = .ok (.getfield 29, 3) := by decide +kernel
theorem d_Machine_perform_51 : decode b_Machine_perform 51 = .ok (.getfield 152, 3) := by decide +kernel
theorem d_Machine_perform_54 : decode b_Machine_perform 54 = .ok (.iload 4, 2) := by decide +kernel
theorem d_Machine_perform_56 : decode b_Machine_perform 56 = .ok (.laload, 1) := by decide +kernel
theorem d_Machine_perform_57 : decode b_Machine_perform 57 = .ok (.lstore 7, 2) := by decide +kernel
theorem d_Machine_perform_59 : decode b_Machine_perform 59 = .ok (.iinc 4 (1), 3) := by decide +kernel
theorem d_Machine_perform_62 : decode b_Machine_perform 62 = .ok (.iload 6, 2) := by decide +kernel
theorem d_Machine_perform_64 : decode b_Machine_perform 64 = .ok (.tableswitch (163) (301) (317) #[135, 163, 163, 148, 163, 163, 163, 163, 163, 163, 90, 98, 163, 163, 148, 86, 84], 84) := by decide +kernel
theorem d_Machine_perform_148 : decode b_Machine_perform 148 = .ok (.iconst 0, 1) := by decide +kernel
theorem d_Machine_perform_149 : decode b_Machine_perform 149 = .ok (.ireturn, 1) := by decide +kernel
theorem d_Machine_perform_150 : decode b_Machine_perform 150 = .ok (.lload 7, 2) := by decide +kernel
theorem d_Machine_perform_152 : decode b_Machine_perform 152 = .ok (.l2i, 1) := by decide +kernel
theorem d_Machine_perform_153 : decode b_Machine_perform 153 = .ok (.ireturn, 1) := by decide +kernel
theorem d_Machine_perform_154 : decode b_Machine_perform 154 = .ok (.lload 7, 2) := by decide +kernel
theorem d_Machine_perform_156 : decode b_Machine_perform 156 = .ok (.l2i, 1) := by decide +kernel
theorem d_Machine_perform_157 : decode b_Machine_perform 157 = .ok (.istore 4, 2) := by decide +kernel
theorem d_Machine_perform_159 : decode b_Machine_perform 159 = .ok (.goto (76), 3) := by decide +kernel
theorem d_Machine_perform_162 : decode b_Machine_perform 162 = .ok (.aload_n 0, 1) := by decide +kernel
theorem d_Machine_perform_163 : decode b_Machine_perform 163 = .ok (.dup, 1) := by decide +kernel
theorem d_Machine_perform_164 : decode b_Machine_perform 164 = .ok (.getfield 143, 3) := by decide +kernel
theorem d_Machine_perform_167 : decode b_Machine_perform 167 = .ok (.iconst 1, 1) := by decide +kernel
theorem d_Machine_perform_168 : decode b_Machine_perform 168 = .ok (.isub, 1) := by decide +kernel
theorem d_Machine_perform_169 : decode b_Machine_perform 169 = .ok (.putfield 143, 3) := by decide +kernel
theorem d_Machine_perform_172 : decode b_Machine_perform 172 = .ok (.aload_n 0, 1) := by decide +kernel
theorem d_Machine_perform_173 : decode b_Machine_perform 173 = .ok (.getfield 19, 3) := by decide +kernel
theorem d_Machine_perform_176 : decode b_Machine_perform 176 = .ok (.aload_n 0, 1) := by decide +kernel
theorem d_Machine_perform_177 : decode b_Machine_perform 177 = .ok (.getfield 143, 3) := by decide +kernel
theorem d_Machine_perform_180 : decode b_Machine_perform 180 = .ok (.laload, 1) := by decide +kernel
theorem d_Machine_perform_181 : decode b_Machine_perform 181 = .ok (.lconst 0, 1) := by decide +kernel
theorem d_Machine_perform_182 : decode b_Machine_perform 182 = .ok (.lcmp, 1) := by decide +kernel
theorem d_Machine_perform_183 : decode b_Machine_perform 183 = .ok (.ifCond .ne (9), 3) := by decide +kernel
theorem d_Machine_perform_186 : decode b_Machine_perform 186 = .ok (.lload 7, 2) := by decide +kernel
theorem d_Machine_perform_188 : decode b_Machine_perform 188 = .ok (.l2i, 1) := by decide +kernel
theorem d_Machine_perform_189 : decode b_Machine_perform 189 = .ok (.goto (5), 3) := by decide +kernel
theorem d_Machine_perform_192 : decode b_Machine_perform 192 = .ok (.iload 4, 2) := by decide +kernel
theorem d_Machine_perform_194 : decode b_Machine_perform 194 = .ok (.istore 4, 2) := by decide +kernel
theorem d_Machine_perform_196 : decode b_Machine_perform 196 = .ok (.goto (39), 3) := by decide +kernel
theorem d_Machine_perform_199 : decode b_Machine_perform 199 = .ok (.aload_n 0, 1) := by decide +kernel
theorem d_Machine_perform_200 : decode b_Machine_perform 200 = .ok (.lload_n 2, 1) := by decide +kernel
theorem d_Machine_perform_201 : decode b_Machine_perform 201 = .ok (.lload 7, 2) := by decide +kernel
theorem d_Machine_perform_203 : decode b_Machine_perform 203 = .ok (.invokestatic 155, 3) := by decide +kernel
theorem d_Machine_perform_206 : decode b_Machine_perform 206 = .ok (.invokevirtual 159, 3) := by decide +kernel
theorem d_Machine_perform_209 : decode b_Machine_perform 209 = .ok (.goto (26), 3) := by decide +kernel
theorem d_Machine_perform_212 : decode b_Machine_perform 212 = .ok (.aload_n 0, 1) := by decide +kernel
theorem d_Machine_perform_213 : decode b_Machine_perform 213 = .ok (.iload 6, 2) := by decide +kernel
theorem d_Machine_perform_215 : decode b_Machine_perform 215 = .ok (.lload 7, 2) := by decide +kernel
theorem d_Machine_perform_217 : decode b_Machine_perform 217 = .ok (.l2i, 1) := by decide +kernel
theorem d_Machine_perform_218 : decode b_Machine_perform 218 = .ok (.invokevirtual 162, 3) := by decide +kernel
theorem d_Machine_perform_221 : decode b_Machine_perform 221 = .ok (.ifCond .ne (14), 3) := by decide +kernel
theorem d_Machine_perform_224 : decode b_Machine_perform 224 = .ok (.bipush (-3), 2) := by decide +kernel
theorem d_Machine_perform_226 : decode b_Machine_perform 226 = .ok (.ireturn, 1) := by decide +kernel
theorem d_Machine_perform_227 : decode b_Machine_perform 227 = .ok (.aload_n 0, 1) := by decide +kernel
theorem d_Machine_perform_228 : decode b_Machine_perform 228 = .ok (.iload 6, 2) := by decide +kernel
theorem d_Machine_perform_230 : decode b_Machine_perform 230 = .ok (.lload 7, 2) := by decide +kernel
theorem d_Machine_perform_232 : decode b_Machine_perform 232 = .ok (.invokevirtual 166, 3) := by decide +kernel
theorem d_Machine_perform_235 : decode b_Machine_perform 235 = .ok (.iinc 5 (1), 3) := by decide +kernel
theorem d_Machine_perform_238 : decode b_Machine_perform 238 = .ok (.goto (-227), 3) := by decide +kernel
theorem d_Machine_perform_241 : decode b_Machine_perform 241 = .ok (.iconst 0, 1) := by decide +kernel
theorem d_Machine_perform_242 : decode b_Machine_perform 242 = .ok (.ireturn, 1) := by decide +kernel
set_option maxHeartbeats 4000000 in
set_option maxRecDepth 100000 in
theorem c_Machine_perform_a (l : Launch) {dA : FieldType → ClassId} {D : va_G} {al : Nat → Nat} {ext : mv_Sh} {sk sv : Nat → Nat} (hi : mv_inj (mg dA D al ext)) (σ : mv_H) (st9 : Int32) (w9 : Int64) (hR : Rf 32 (mv_r σ)) (th sl : Nat) (hT : Th 32 σ th sl) (hg : Nat → Nat) (sz : Nat) (hsz : (mv_i σ 32 17).toInt = sz) (hszR : sz ≤ 32768) (hg1 : ∀ a, hg a ≤ 1000) (hC : ∀ a, a < sz → Ins th sz hg a (mv_a σ 41 a) (mv_b σ 42 a)) (n9 : Nat) (hst : st9.toInt = n9) (hn1 : n9 ≤ sz) (hn2 : hg n9 = 0) (hns : nSet (mv_a σ 41) sz ≤ 8193) (hU : Un σ 0) : mv_C l y_Machine_perform (Cond.code y_Machine_perform b_Machine_perform 9 (Option.some Jvm.ClassFile.FieldType.int) :: ma) ({ frames := 4, cells := 0, slots := 0, locals := 101 }) (mg dA D al ext) (mK sk sv) [.ref (al 64), .int st9, .long w9] σ (mv_Ri (fun v σ1 => MF σ σ1 ∧ ∃ u, Un σ1 u)) := by
  refine mv_C.ofV (cc := b_Machine_perform) (nL := 9) (ret := (Option.some Jvm.ClassFile.FieldType.int)) (by decide +kernel) rfl hi (Nat.le_of_ble_eq_true rfl) ?_
  intro p e s m below meth c B hNs hr hnm hno
  have hP : PP 32 := by unfold PP; omega
  have ht64 := hT.2.1
  have lp : ∀ (nn : Nat) (τ : mv_H) (tt : Int32) (aa : Int32) (a : Nat) (u : Nat) (q0 : 0 ≤ tt.toInt) (qtz : tt.toInt ≤ sz) (qa : aa.toInt = a) (qaz : a ≤ sz) (qF : MF σ τ) (qR : Rf 32 (mv_r τ)) (qT : Th 32 τ th sl) (qh : (mv_i τ 64 4).toInt = hg a) (qU : Un τ u) (qu : u ≤ nSet (mv_a σ 41) a), sz - a < nn → mv_V p l e ({ frames := 4, cells := 0, slots := 0, locals := 101 }) s m ([.ref (al 64), .int st9, .long w9] : List Value).toArray below meth c (mg dA D al ext) 9 0 0 (mv_Q (mg dA D al ext) below s 0 0 (mv_Ri (fun v σ1 => MF σ σ1 ∧ ∃ u, Un σ1 u))) τ 11 [(5, .int tt), (4, .int aa), (0, .ref (al 64)), (2, .long w9)] [] := by
    intro nn
    induction nn with
    | zero => intro τ tt aa a u q0 qtz qa qaz qF qR qT qh qU qu hm; exact absurd hm (Nat.not_lt_zero _)
    | succ nn ih =>
      intro τ tt aa a u q0 qtz qa qaz qF qR qT qh qU qu hm
      have e17 : (mv_i τ 32 17).toInt = sz := by rw [qF.1 _ _ (by decide)]; exact hsz
      refine mv_iload (pc := 11) B d_Machine_perform_11 0 rfl ?_
      refine mv_aload_n (pc := 13) B d_Machine_perform_13 rfl 2 rfl ?_
      refine mv_getR (pc := 14) (ci := 9) (C := R_Machine) (T := F_Machine) (N := 13) B 0 rfl rfl (by decide) i_Machine (B.2.2.2.1 _ k_440) rfl qR.2.2 d_Machine_perform_14 ?_
      refine mv_getI (pc := 17) (ci := 7) (C := R_Program) (T := F_Program) (N := 19) B 17 rfl rfl (by decide) i_Program (B.2.2.2.1 _ k_362) rfl d_Machine_perform_17 ?_
      refine mv_icmp_ge (pc := 20) (tgt := 241) B d_Machine_perform_20 rfl (fun h20 => ?_) (fun h20 => ?_)
      · skip
        skip
        refine mv_iconst (pc := 241) (v := 0) B d_Machine_perform_241 (by decide) ?_
        exact mv_iret (pc := 242) B hr rfl d_Machine_perform_242 (Nat.le_refl _) (Nat.le_refl _) ⟨_, rfl, qF, u, qU⟩
      · skip
        rw [Int32.le_iff_toInt_le] at h20
        rw [e17] at h20
        refine mv_iload (pc := 23) B d_Machine_perform_23 1 rfl ?_
        refine mv_aload_n (pc := 25) B d_Machine_perform_25 rfl 2 rfl ?_
        refine mv_getR (pc := 26) (ci := 9) (C := R_Machine) (T := F_Machine) (N := 13) B 0 rfl rfl (by decide) i_Machine (B.2.2.2.1 _ k_440) rfl qR.2.2 d_Machine_perform_26 ?_
        refine mv_getI (pc := 29) (ci := 7) (C := R_Program) (T := F_Program) (N := 19) B 17 rfl rfl (by decide) i_Program (B.2.2.2.1 _ k_362) rfl d_Machine_perform_29 ?_
        refine mv_icmp_ge (pc := 32) (tgt := 241) B d_Machine_perform_32 rfl (fun h32 => ?_) (fun h32 => ?_)
        · skip
          skip
          refine mv_iconst (pc := 241) (v := 0) B d_Machine_perform_241 (by decide) ?_
          exact mv_iret (pc := 242) B hr rfl d_Machine_perform_242 (Nat.le_refl _) (Nat.le_refl _) ⟨_, rfl, qF, u, qU⟩
        · skip
          rw [Int32.le_iff_toInt_le] at h32
          rw [e17] at h32
          have eaa := i32_cl (x := aa) (by omega)
          have za : aa.toNatClampNeg = a := by omega
          have hI := hC a (by omega)
          have w2 : (aa + 1).toInt = ((a + 1 : Nat) : Int) := by rw [i32_inc (by omega)]; omega
          have t2 : (tt + 1).toInt = tt.toInt + 1 := i32_inc (by omega)
          have ed : mv_a τ 41 aa.toNatClampNeg = mv_a σ 41 a := by rw [za, qF.2.1 _ (by decide)]
          have ew : mv_b τ 42 aa.toNatClampNeg = mv_b σ 42 a := by rw [za, qF.2.2.1 _ (by decide)]
          have hz1 : nSet (mv_a σ 41) (a + 1) = nSet (mv_a σ 41) a + isSet (mv_a σ 41 a) := rfl
          have hz2 := nSet_mono (mv_a σ 41) (show a + 1 ≤ sz by omega)
          have hga := hg1 a
          have hga1 := hg1 (a + 1)
          refine mv_aload_n (pc := 35) B d_Machine_perform_35 rfl 2 rfl ?_
          refine mv_getR (pc := 36) (ci := 9) (C := R_Machine) (T := F_Machine) (N := 13) B 0 rfl rfl (by decide) i_Machine (B.2.2.2.1 _ k_440) rfl qR.2.2 d_Machine_perform_36 ?_
          refine mv_getR (pc := 39) (ci := 7) (C := R_Program) (T := F_Program) (N := 19) B 15 rfl rfl (by decide) i_Program (B.2.2.2.1 _ k_358) rfl (qR.2.1 _ 15 41 rfl) d_Machine_perform_39 ?_
          refine mv_iload (pc := 42) B d_Machine_perform_42 1 rfl ?_
          refine mv_iald (pc := 44) B rfl (i32_in (by omega) (by omega)) d_Machine_perform_44 ?_
          refine mv_istore (pc := 45) B d_Machine_perform_45 (by decide) rfl ?_
          refine mv_aload_n (pc := 47) B d_Machine_perform_47 rfl 3 rfl ?_
          refine mv_getR (pc := 48) (ci := 9) (C := R_Machine) (T := F_Machine) (N := 13) B 0 rfl rfl (by decide) i_Machine (B.2.2.2.1 _ k_440) rfl qR.2.2 d_Machine_perform_48 ?_
          refine mv_getR (pc := 51) (ci := 7) (C := R_Program) (T := F_Program) (N := 19) B 16 rfl rfl (by decide) i_Program (B.2.2.2.1 _ k_360) rfl (qR.2.1 _ 16 42 rfl) d_Machine_perform_51 ?_
          refine mv_iload (pc := 54) B d_Machine_perform_54 2 rfl ?_
          refine mv_lald (pc := 56) B rfl (i32_in (by omega) (by omega)) d_Machine_perform_56 ?_
          refine mv_lstore (pc := 57) B d_Machine_perform_57 (by decide) rfl ?_
          rw [ed, ew]
          obtain ⟨dd, hdd⟩ : ∃ d, d = mv_a σ 41 a := ⟨_, rfl⟩
          obtain ⟨ww, hww⟩ : ∃ d, d = mv_b σ 42 a := ⟨_, rfl⟩
          rw [← hdd, ← hww] at hI
          rw [← hdd] at hz1
          rw [← hdd, ← hww]
          clear ed ew hdd hww
          refine mv_iinc (pc := 59) (j := 3) (v := 1) B d_Machine_perform_59 rfl (by decide) (by decide) rfl ?_
          refine mv_iload (pc := 62) B d_Machine_perform_62 2 rfl ?_
          refine mv_tsw (pc := 64) B d_Machine_perform_64 (by decide) (by decide) ?_
          refine ⟨fun h64 => ?_, fun h64n301 => ?_⟩
          · skip
            have h64 : dd = 301 := Int32.toInt_inj.mp (show dd.toInt = (301 : Int32).toInt from h64)
            have hO : Op1 th dd ww (hg a) (hg (a + 1)) := by
              rcases hI with q | q | ⟨q, -⟩ | ⟨q, -⟩ | ⟨-, -, -, -, q⟩
              · rw [h64] at q; cases q
              · rw [h64] at q; cases q
              · rw [h64] at q; cases q
              · rw [h64] at q; cases q
              · exact q
            subst h64
            have o1 : 0 ≤ hg a := hO.1
            have o2 : hg (a + 1) + 0 = hg a + 1 := hO.2.1
            refine mv_aload_n (pc := 199) B d_Machine_perform_199 rfl 4 rfl ?_
            refine mv_lload_n (pc := 200) B d_Machine_perform_200 rfl 5 rfl ?_
            refine mv_lload (pc := 201) B d_Machine_perform_201 1 rfl ?_
            refine mv_callSl (pc := 203) (n := 2) B (mK_ok sk sv) hNs (c_Bits_gather l hi _ _ _) rfl (ma_goodc kc_Bits_gather) (B.2.2.2.1 _ k_1581) (B.2.2.2.1 _ k_1582) (B.2.2.2.1 _ k_33) ⟨by decide +kernel, by decide +kernel, by decide +kernel⟩ rfl d_Machine_perform_203 rfl (Nat.le_of_ble_eq_true rfl) ⟨by decide, by decide⟩ ⟨by decide, by decide⟩ ⟨by decide, by decide⟩ (mv_noH hno _) (fun v203 σ203 h203 => ?_)
            have h203 := h203.symm
            subst h203
            refine mv_callVv (pc := 206) (n := 1) (ci := 9) (C := R_Machine) B (mK_ok sk sv) hNs rfl rfl (c_Machine_push_a l hi _ _ qR (by omega) (by omega)) rfl (ma_goodc kc_Machine_push) (B.2.2.2.1 _ k_1584) (B.2.2.2.1 _ k_1586) (B.2.2.2.1 _ ks_70) (B.2.2.2.1 _ k_11) ⟨by decide +kernel, by decide +kernel, by decide +kernel⟩ rfl d_Machine_perform_206 rfl (Nat.le_of_ble_eq_true rfl) ⟨by decide, by decide⟩ ⟨by decide, by decide⟩ ⟨by decide, by decide⟩ (mv_noH hno _) (fun σ206 h206 => ?_)
            subst h206
            have go := ih (mc_push τ v203) (tt + 1) (aa + 1) (a + 1) u (by omega) (by omega) w2 (by omega) ((qF.sb (Or.inr (Or.inr (Or.inl rfl)))).si ⟨rfl, Or.inl rfl⟩) qR qT (show (mv_i τ 64 4 + 1).toInt = _ by rw [i32_inc (by omega)]; omega) qU (by omega) (by omega)
            refine mv_goto (pc := 209) (tgt := 235) B d_Machine_perform_209 rfl ?_
            refine mv_iinc (pc := 235) (j := 3) (v := 1) B d_Machine_perform_235 rfl (by decide) (by decide) rfl ?_
            refine mv_goto (pc := 238) (tgt := 11) B d_Machine_perform_238 rfl ?_
            refine mv_lpick [0, 1, 4, 5] rfl ?_
            exact go
          refine ⟨fun h64 => ?_, fun h64n302 => ?_⟩
          · skip
            have h64 : dd = 302 := Int32.toInt_inj.mp (show dd.toInt = (302 : Int32).toInt from h64)
            have hO : Op1 th dd ww (hg a) (hg (a + 1)) := by
              rcases hI with q | q | ⟨q, -⟩ | ⟨q, -⟩ | ⟨-, -, -, -, q⟩
              · rw [h64] at q; cases q
              · rw [h64] at q; cases q
              · rw [h64] at q; cases q
              · rw [h64] at q; cases q
              · exact q
            have hx : ¬ dd = 301 ∧ ¬ dd = 304 ∧ ¬ dd = 311 ∧ ¬ dd = 312 := by rw [h64]; decide
            have hx5 : ¬ dd = 315 := by rw [h64]; decide
            have hu9 : dd = 314 → u < 8193 ∧ isSet dd = 1 := fun q => by rw [h64] at q; cases q
            refine mv_aload_n (pc := 227) B d_Machine_perform_227 rfl 4 rfl ?_
            refine mv_iload (pc := 228) B d_Machine_perform_228 2 rfl ?_
            refine mv_lload (pc := 230) B d_Machine_perform_230 1 rfl ?_
            refine mv_callVv (pc := 232) (n := 2) (ci := 9) (C := R_Machine) B (mK_ok sk sv) hNs rfl rfl (c_Machine_work_a l hi _ _ _ qR th sl qT (hg a) (hg (a + 1)) qh (by omega) (by omega) hO hx hx5 u qU (fun q => (hu9 q).1)) rfl (ma_goodc kc_Machine_work) (B.2.2.2.1 _ k_1605) (B.2.2.2.1 _ k_1607) (B.2.2.2.1 _ ks_74) (B.2.2.2.1 _ k_11) ⟨by decide +kernel, by decide +kernel, by decide +kernel⟩ rfl d_Machine_perform_232 rfl (Nat.le_of_ble_eq_true rfl) ⟨by decide, by decide⟩ ⟨by decide, by decide⟩ ⟨by decide, by decide⟩ (mv_noH hno _) (fun σ232 h232 => ?_)
            obtain ⟨f232, d232⟩ := h232
            have go := d232.elim (fun q => ih σ232 (tt + 1) (aa + 1) (a + 1) (u + 1) (by omega) (by omega) w2 (by omega) (qF.tr f232) (by rw [f232.2.2.2.2]; exact qR) (qT.fm f232.fm hP) q.2.2 q.2.1 (by have := hu9 q.1; omega) (by omega)) (fun q => ih σ232 (tt + 1) (aa + 1) (a + 1) u (by omega) (by omega) w2 (by omega) (qF.tr f232) (by rw [f232.2.2.2.2]; exact qR) (qT.fm f232.fm hP) q.2 q.1 (by omega) (by omega))
            refine mv_iinc (pc := 235) (j := 3) (v := 1) B d_Machine_perform_235 rfl (by decide) (by decide) rfl ?_
            refine mv_goto (pc := 238) (tgt := 11) B d_Machine_perform_238 rfl ?_
            refine mv_lpick [0, 1, 4, 5] rfl ?_
            exact go
          refine ⟨fun h64 => ?_, fun h64n303 => ?_⟩
          · skip
            have h64 : dd = 303 := Int32.toInt_inj.mp (show dd.toInt = (303 : Int32).toInt from h64)
            have hO : Op1 th dd ww (hg a) (hg (a + 1)) := by
              rcases hI with q | q | ⟨q, -⟩ | ⟨q, -⟩ | ⟨-, -, -, -, q⟩
              · rw [h64] at q; cases q
              · rw [h64] at q; cases q
              · rw [h64] at q; cases q
              · rw [h64] at q; cases q
              · exact q
            have hx : ¬ dd = 301 ∧ ¬ dd = 304 ∧ ¬ dd = 311 ∧ ¬ dd = 312 := by rw [h64]; decide
            have hx5 : ¬ dd = 315 := by rw [h64]; decide
            have hu9 : dd = 314 → u < 8193 ∧ isSet dd = 1 := fun q => by rw [h64] at q; cases q
            refine mv_aload_n (pc := 227) B d_Machine_perform_227 rfl 4 rfl ?_
            refine mv_iload (pc := 228) B d_Machine_perform_228 2 rfl ?_
            refine mv_lload (pc := 230) B d_Machine_perform_230 1 rfl ?_
            refine mv_callVv (pc := 232) (n := 2) (ci := 9) (C := R_Machine) B (mK_ok sk sv) hNs rfl rfl (c_Machine_work_a l hi _ _ _ qR th sl qT (hg a) (hg (a + 1)) qh (by omega) (by omega) hO hx hx5 u qU (fun q => (hu9 q).1)) rfl (ma_goodc kc_Machine_work) (B.2.2.2.1 _ k_1605) (B.2.2.2.1 _ k_1607) (B.2.2.2.1 _ ks_74) (B.2.2.2.1 _ k_11) ⟨by decide +kernel, by decide +kernel, by decide +kernel⟩ rfl d_Machine_perform_232 rfl (Nat.le_of_ble_eq_true rfl) ⟨by decide, by decide⟩ ⟨by decide, by decide⟩ ⟨by decide, by decide⟩ (mv_noH hno _) (fun σ232 h232 => ?_)
            obtain ⟨f232, d232⟩ := h232
            have go := d232.elim (fun q => ih σ232 (tt + 1) (aa + 1) (a + 1) (u + 1) (by omega) (by omega) w2 (by omega) (qF.tr f232) (by rw [f232.2.2.2.2]; exact qR) (qT.fm f232.fm hP) q.2.2 q.2.1 (by have := hu9 q.1; omega) (by omega)) (fun q => ih σ232 (tt + 1) (aa + 1) (a + 1) u (by omega) (by omega) w2 (by omega) (qF.tr f232) (by rw [f232.2.2.2.2]; exact qR) (qT.fm f232.fm hP) q.2 q.1 (by omega) (by omega))
            refine mv_iinc (pc := 235) (j := 3) (v := 1) B d_Machine_perform_235 rfl (by decide) (by decide) rfl ?_
            refine mv_goto (pc := 238) (tgt := 11) B d_Machine_perform_238 rfl ?_
            refine mv_lpick [0, 1, 4, 5] rfl ?_
            exact go
          refine ⟨fun h64 => ?_, fun h64n304 => ?_⟩
          · skip
            have h64 : dd = 304 := Int32.toInt_inj.mp (show dd.toInt = (304 : Int32).toInt from h64)
            have hO : Op1 th dd ww (hg a) (hg (a + 1)) := by
              rcases hI with q | q | ⟨q, -⟩ | ⟨q, -⟩ | ⟨-, -, -, -, q⟩
              · rw [h64] at q; cases q
              · rw [h64] at q; cases q
              · rw [h64] at q; cases q
              · rw [h64] at q; cases q
              · exact q
            subst h64
            have o1 : 1 ≤ hg a := hO.1
            have o2 : hg (a + 1) + 1 = hg a + 1 := hO.2.1
            have o3 := hO.2.2.2.2 (by decide)
            have o4 := l2i_nn o3.1 (by omega)
            have o5 : ww.toInt32.toInt = ww.toInt.toNat := by rw [o4]; omega
            have p15 : (304 : Int32) = 315 → hg (a + 1) + 2 = hg a ∧ isSet (304 : Int32) = 1 := fun q => absurd q (by decide)
            have p04 : ¬ (304 : Int32) = 315 → hg (a + 1) = hg a := fun _ => by omega
            have hd9 : ((304 : Int32) = 315 ∧ 2 ≤ hg a ∧ u < 8193) ∨ (¬ (304 : Int32) = 315 ∧ 1 ≤ hg a) := Or.inr ⟨by decide, o1⟩
            refine mv_aload_n (pc := 212) B d_Machine_perform_212 rfl 4 rfl ?_
            refine mv_iload (pc := 213) B d_Machine_perform_213 2 rfl ?_
            refine mv_lload (pc := 215) B d_Machine_perform_215 1 rfl ?_
            refine mv_l2i (pc := 217) B d_Machine_perform_217 ?_
            refine mv_callVi (pc := 218) (n := 2) (ci := 9) (C := R_Machine) B (mK_ok sk sv) hNs rfl rfl (c_Machine_ofCell_a l hi _ _ _ qR th sl qT ww.toInt.toNat o5 (by omega) (hg a) qh (by omega) u qU hd9) rfl (ma_goodc kc_Machine_ofCell) (B.2.2.2.1 _ k_1588) (B.2.2.2.1 _ k_1590) (B.2.2.2.1 _ ks_71) (B.2.2.2.1 _ k_11) ⟨by decide +kernel, by decide +kernel, by decide +kernel⟩ rfl d_Machine_perform_218 rfl (Nat.le_of_ble_eq_true rfl) ⟨by decide, by decide⟩ ⟨by decide, by decide⟩ ⟨by decide, by decide⟩ (mv_noH hno _) (fun v218 σ218 h218 => ?_)
            obtain ⟨f218, d218⟩ := h218
            refine mv_if_ne (pc := 221) (tgt := 235) B d_Machine_perform_221 rfl (fun h221 => ?_) (fun h221 => ?_)
            · skip
              have d218 := d218.resolve_left (fun q => h221 q.1)
              have go := d218.2.elim (fun q => ih σ218 (tt + 1) (aa + 1) (a + 1) (u + 1) (by omega) (by omega) w2 (by omega) (qF.tr f218) (by rw [f218.2.2.2.2]; exact qR) (qT.fm f218.fm hP) (by have := p15 q.1; have := q.2.2; omega) q.2.1 (by have := p15 q.1; omega) (by omega)) (fun q => ih σ218 (tt + 1) (aa + 1) (a + 1) u (by omega) (by omega) w2 (by omega) (qF.tr f218) (by rw [f218.2.2.2.2]; exact qR) (qT.fm f218.fm hP) (by have := p04 q.1; have := q.2.2; omega) q.2.1 (by omega) (by omega))
              refine mv_iinc (pc := 235) (j := 3) (v := 1) B d_Machine_perform_235 rfl (by decide) (by decide) rfl ?_
              refine mv_goto (pc := 238) (tgt := 11) B d_Machine_perform_238 rfl ?_
              refine mv_lpick [0, 1, 4, 5] rfl ?_
              exact go
            · skip
              have d218u : Un σ218 u := d218.elim (fun q => q.2) (fun q => absurd (q.1 ▸ h221) (by decide))
              refine mv_bipush (pc := 224) (v := -3) B d_Machine_perform_224 (by decide) ?_
              exact mv_iret (pc := 226) B hr rfl d_Machine_perform_226 (Nat.le_refl _) (Nat.le_refl _) ⟨_, rfl, qF.tr f218, u, d218u⟩
          refine ⟨fun h64 => ?_, fun h64n305 => ?_⟩
          · skip
            have h64 : dd = 305 := Int32.toInt_inj.mp (show dd.toInt = (305 : Int32).toInt from h64)
            have hO : Op1 th dd ww (hg a) (hg (a + 1)) := by
              rcases hI with q | q | ⟨q, -⟩ | ⟨q, -⟩ | ⟨-, -, -, -, q⟩
              · rw [h64] at q; cases q
              · rw [h64] at q; cases q
              · rw [h64] at q; cases q
              · rw [h64] at q; cases q
              · exact q
            have hx : ¬ dd = 301 ∧ ¬ dd = 304 ∧ ¬ dd = 311 ∧ ¬ dd = 312 := by rw [h64]; decide
            have hx5 : ¬ dd = 315 := by rw [h64]; decide
            have hu9 : dd = 314 → u < 8193 ∧ isSet dd = 1 := fun q => by rw [h64] at q; cases q
            refine mv_aload_n (pc := 227) B d_Machine_perform_227 rfl 4 rfl ?_
            refine mv_iload (pc := 228) B d_Machine_perform_228 2 rfl ?_
            refine mv_lload (pc := 230) B d_Machine_perform_230 1 rfl ?_
            refine mv_callVv (pc := 232) (n := 2) (ci := 9) (C := R_Machine) B (mK_ok sk sv) hNs rfl rfl (c_Machine_work_a l hi _ _ _ qR th sl qT (hg a) (hg (a + 1)) qh (by omega) (by omega) hO hx hx5 u qU (fun q => (hu9 q).1)) rfl (ma_goodc kc_Machine_work) (B.2.2.2.1 _ k_1605) (B.2.2.2.1 _ k_1607) (B.2.2.2.1 _ ks_74) (B.2.2.2.1 _ k_11) ⟨by decide +kernel, by decide +kernel, by decide +kernel⟩ rfl d_Machine_perform_232 rfl (Nat.le_of_ble_eq_true rfl) ⟨by decide, by decide⟩ ⟨by decide, by decide⟩ ⟨by decide, by decide⟩ (mv_noH hno _) (fun σ232 h232 => ?_)
            obtain ⟨f232, d232⟩ := h232
            have go := d232.elim (fun q => ih σ232 (tt + 1) (aa + 1) (a + 1) (u + 1) (by omega) (by omega) w2 (by omega) (qF.tr f232) (by rw [f232.2.2.2.2]; exact qR) (qT.fm f232.fm hP) q.2.2 q.2.1 (by have := hu9 q.1; omega) (by omega)) (fun q => ih σ232 (tt + 1) (aa + 1) (a + 1) u (by omega) (by omega) w2 (by omega) (qF.tr f232) (by rw [f232.2.2.2.2]; exact qR) (qT.fm f232.fm hP) q.2 q.1 (by omega) (by omega))
            refine mv_iinc (pc := 235) (j := 3) (v := 1) B d_Machine_perform_235 rfl (by decide) (by decide) rfl ?_
            refine mv_goto (pc := 238) (tgt := 11) B d_Machine_perform_238 rfl ?_
            refine mv_lpick [0, 1, 4, 5] rfl ?_
            exact go
          refine ⟨fun h64 => ?_, fun h64n306 => ?_⟩
          · skip
            have h64 : dd = 306 := Int32.toInt_inj.mp (show dd.toInt = (306 : Int32).toInt from h64)
            have hO : Op1 th dd ww (hg a) (hg (a + 1)) := by
              rcases hI with q | q | ⟨q, -⟩ | ⟨q, -⟩ | ⟨-, -, -, -, q⟩
              · rw [h64] at q; cases q
              · rw [h64] at q; cases q
              · rw [h64] at q; cases q
              · rw [h64] at q; cases q
              · exact q
            have hx : ¬ dd = 301 ∧ ¬ dd = 304 ∧ ¬ dd = 311 ∧ ¬ dd = 312 := by rw [h64]; decide
            have hx5 : ¬ dd = 315 := by rw [h64]; decide
            have hu9 : dd = 314 → u < 8193 ∧ isSet dd = 1 := fun q => by rw [h64] at q; cases q
            refine mv_aload_n (pc := 227) B d_Machine_perform_227 rfl 4 rfl ?_
            refine mv_iload (pc := 228) B d_Machine_perform_228 2 rfl ?_
            refine mv_lload (pc := 230) B d_Machine_perform_230 1 rfl ?_
            refine mv_callVv (pc := 232) (n := 2) (ci := 9) (C := R_Machine) B (mK_ok sk sv) hNs rfl rfl (c_Machine_work_a l hi _ _ _ qR th sl qT (hg a) (hg (a + 1)) qh (by omega) (by omega) hO hx hx5 u qU (fun q => (hu9 q).1)) rfl (ma_goodc kc_Machine_work) (B.2.2.2.1 _ k_1605) (B.2.2.2.1 _ k_1607) (B.2.2.2.1 _ ks_74) (B.2.2.2.1 _ k_11) ⟨by decide +kernel, by decide +kernel, by decide +kernel⟩ rfl d_Machine_perform_232 rfl (Nat.le_of_ble_eq_true rfl) ⟨by decide, by decide⟩ ⟨by decide, by decide⟩ ⟨by decide, by decide⟩ (mv_noH hno _) (fun σ232 h232 => ?_)
            obtain ⟨f232, d232⟩ := h232
            have go := d232.elim (fun q => ih σ232 (tt + 1) (aa + 1) (a + 1) (u + 1) (by omega) (by omega) w2 (by omega) (qF.tr f232) (by rw [f232.2.2.2.2]; exact qR) (qT.fm f232.fm hP) q.2.2 q.2.1 (by have := hu9 q.1; omega) (by omega)) (fun q => ih σ232 (tt + 1) (aa + 1) (a + 1) u (by omega) (by omega) w2 (by omega) (qF.tr f232) (by rw [f232.2.2.2.2]; exact qR) (qT.fm f232.fm hP) q.2 q.1 (by omega) (by omega))
            refine mv_iinc (pc := 235) (j := 3) (v := 1) B d_Machine_perform_235 rfl (by decide) (by decide) rfl ?_
            refine mv_goto (pc := 238) (tgt := 11) B d_Machine_perform_238 rfl ?_
            refine mv_lpick [0, 1, 4, 5] rfl ?_
            exact go
          refine ⟨fun h64 => ?_, fun h64n307 => ?_⟩
          · skip
            have h64 : dd = 307 := Int32.toInt_inj.mp (show dd.toInt = (307 : Int32).toInt from h64)
            have hO : Op1 th dd ww (hg a) (hg (a + 1)) := by
              rcases hI with q | q | ⟨q, -⟩ | ⟨q, -⟩ | ⟨-, -, -, -, q⟩
              · rw [h64] at q; cases q
              · rw [h64] at q; cases q
              · rw [h64] at q; cases q
              · rw [h64] at q; cases q
              · exact q
            have hx : ¬ dd = 301 ∧ ¬ dd = 304 ∧ ¬ dd = 311 ∧ ¬ dd = 312 := by rw [h64]; decide
            have hx5 : ¬ dd = 315 := by rw [h64]; decide
            have hu9 : dd = 314 → u < 8193 ∧ isSet dd = 1 := fun q => by rw [h64] at q; cases q
            refine mv_aload_n (pc := 227) B d_Machine_perform_227 rfl 4 rfl ?_
            refine mv_iload (pc := 228) B d_Machine_perform_228 2 rfl ?_
            refine mv_lload (pc := 230) B d_Machine_perform_230 1 rfl ?_
            refine mv_callVv (pc := 232) (n := 2) (ci := 9) (C := R_Machine) B (mK_ok sk sv) hNs rfl rfl (c_Machine_work_a l hi _ _ _ qR th sl qT (hg a) (hg (a + 1)) qh (by omega) (by omega) hO hx hx5 u qU (fun q => (hu9 q).1)) rfl (ma_goodc kc_Machine_work) (B.2.2.2.1 _ k_1605) (B.2.2.2.1 _ k_1607) (B.2.2.2.1 _ ks_74) (B.2.2.2.1 _ k_11) ⟨by decide +kernel, by decide +kernel, by decide +kernel⟩ rfl d_Machine_perform_232 rfl (Nat.le_of_ble_eq_true rfl) ⟨by decide, by decide⟩ ⟨by decide, by decide⟩ ⟨by decide, by decide⟩ (mv_noH hno _) (fun σ232 h232 => ?_)
            obtain ⟨f232, d232⟩ := h232
            have go := d232.elim (fun q => ih σ232 (tt + 1) (aa + 1) (a + 1) (u + 1) (by omega) (by omega) w2 (by omega) (qF.tr f232) (by rw [f232.2.2.2.2]; exact qR) (qT.fm f232.fm hP) q.2.2 q.2.1 (by have := hu9 q.1; omega) (by omega)) (fun q => ih σ232 (tt + 1) (aa + 1) (a + 1) u (by omega) (by omega) w2 (by omega) (qF.tr f232) (by rw [f232.2.2.2.2]; exact qR) (qT.fm f232.fm hP) q.2 q.1 (by omega) (by omega))
            refine mv_iinc (pc := 235) (j := 3) (v := 1) B d_Machine_perform_235 rfl (by decide) (by decide) rfl ?_
            refine mv_goto (pc := 238) (tgt := 11) B d_Machine_perform_238 rfl ?_
            refine mv_lpick [0, 1, 4, 5] rfl ?_
            exact go
          refine ⟨fun h64 => ?_, fun h64n308 => ?_⟩
          · skip
            have h64 : dd = 308 := Int32.toInt_inj.mp (show dd.toInt = (308 : Int32).toInt from h64)
            have hO : Op1 th dd ww (hg a) (hg (a + 1)) := by
              rcases hI with q | q | ⟨q, -⟩ | ⟨q, -⟩ | ⟨-, -, -, -, q⟩
              · rw [h64] at q; cases q
              · rw [h64] at q; cases q
              · rw [h64] at q; cases q
              · rw [h64] at q; cases q
              · exact q
            have hx : ¬ dd = 301 ∧ ¬ dd = 304 ∧ ¬ dd = 311 ∧ ¬ dd = 312 := by rw [h64]; decide
            have hx5 : ¬ dd = 315 := by rw [h64]; decide
            have hu9 : dd = 314 → u < 8193 ∧ isSet dd = 1 := fun q => by rw [h64] at q; cases q
            refine mv_aload_n (pc := 227) B d_Machine_perform_227 rfl 4 rfl ?_
            refine mv_iload (pc := 228) B d_Machine_perform_228 2 rfl ?_
            refine mv_lload (pc := 230) B d_Machine_perform_230 1 rfl ?_
            refine mv_callVv (pc := 232) (n := 2) (ci := 9) (C := R_Machine) B (mK_ok sk sv) hNs rfl rfl (c_Machine_work_a l hi _ _ _ qR th sl qT (hg a) (hg (a + 1)) qh (by omega) (by omega) hO hx hx5 u qU (fun q => (hu9 q).1)) rfl (ma_goodc kc_Machine_work) (B.2.2.2.1 _ k_1605) (B.2.2.2.1 _ k_1607) (B.2.2.2.1 _ ks_74) (B.2.2.2.1 _ k_11) ⟨by decide +kernel, by decide +kernel, by decide +kernel⟩ rfl d_Machine_perform_232 rfl (Nat.le_of_ble_eq_true rfl) ⟨by decide, by decide⟩ ⟨by decide, by decide⟩ ⟨by decide, by decide⟩ (mv_noH hno _) (fun σ232 h232 => ?_)
            obtain ⟨f232, d232⟩ := h232
            have go := d232.elim (fun q => ih σ232 (tt + 1) (aa + 1) (a + 1) (u + 1) (by omega) (by omega) w2 (by omega) (qF.tr f232) (by rw [f232.2.2.2.2]; exact qR) (qT.fm f232.fm hP) q.2.2 q.2.1 (by have := hu9 q.1; omega) (by omega)) (fun q => ih σ232 (tt + 1) (aa + 1) (a + 1) u (by omega) (by omega) w2 (by omega) (qF.tr f232) (by rw [f232.2.2.2.2]; exact qR) (qT.fm f232.fm hP) q.2 q.1 (by omega) (by omega))
            refine mv_iinc (pc := 235) (j := 3) (v := 1) B d_Machine_perform_235 rfl (by decide) (by decide) rfl ?_
            refine mv_goto (pc := 238) (tgt := 11) B d_Machine_perform_238 rfl ?_
            refine mv_lpick [0, 1, 4, 5] rfl ?_
            exact go
          refine ⟨fun h64 => ?_, fun h64n309 => ?_⟩
          · skip
            have h64 : dd = 309 := Int32.toInt_inj.mp (show dd.toInt = (309 : Int32).toInt from h64)
            have hO : Op1 th dd ww (hg a) (hg (a + 1)) := by
              rcases hI with q | q | ⟨q, -⟩ | ⟨q, -⟩ | ⟨-, -, -, -, q⟩
              · rw [h64] at q; cases q
              · rw [h64] at q; cases q
              · rw [h64] at q; cases q
              · rw [h64] at q; cases q
              · exact q
            have hx : ¬ dd = 301 ∧ ¬ dd = 304 ∧ ¬ dd = 311 ∧ ¬ dd = 312 := by rw [h64]; decide
            have hx5 : ¬ dd = 315 := by rw [h64]; decide
            have hu9 : dd = 314 → u < 8193 ∧ isSet dd = 1 := fun q => by rw [h64] at q; cases q
            refine mv_aload_n (pc := 227) B d_Machine_perform_227 rfl 4 rfl ?_
            refine mv_iload (pc := 228) B d_Machine_perform_228 2 rfl ?_
            refine mv_lload (pc := 230) B d_Machine_perform_230 1 rfl ?_
            refine mv_callVv (pc := 232) (n := 2) (ci := 9) (C := R_Machine) B (mK_ok sk sv) hNs rfl rfl (c_Machine_work_a l hi _ _ _ qR th sl qT (hg a) (hg (a + 1)) qh (by omega) (by omega) hO hx hx5 u qU (fun q => (hu9 q).1)) rfl (ma_goodc kc_Machine_work) (B.2.2.2.1 _ k_1605) (B.2.2.2.1 _ k_1607) (B.2.2.2.1 _ ks_74) (B.2.2.2.1 _ k_11) ⟨by decide +kernel, by decide +kernel, by decide +kernel⟩ rfl d_Machine_perform_232 rfl (Nat.le_of_ble_eq_true rfl) ⟨by decide, by decide⟩ ⟨by decide, by decide⟩ ⟨by decide, by decide⟩ (mv_noH hno _) (fun σ232 h232 => ?_)
            obtain ⟨f232, d232⟩ := h232
            have go := d232.elim (fun q => ih σ232 (tt + 1) (aa + 1) (a + 1) (u + 1) (by omega) (by omega) w2 (by omega) (qF.tr f232) (by rw [f232.2.2.2.2]; exact qR) (qT.fm f232.fm hP) q.2.2 q.2.1 (by have := hu9 q.1; omega) (by omega)) (fun q => ih σ232 (tt + 1) (aa + 1) (a + 1) u (by omega) (by omega) w2 (by omega) (qF.tr f232) (by rw [f232.2.2.2.2]; exact qR) (qT.fm f232.fm hP) q.2 q.1 (by omega) (by omega))
            refine mv_iinc (pc := 235) (j := 3) (v := 1) B d_Machine_perform_235 rfl (by decide) (by decide) rfl ?_
            refine mv_goto (pc := 238) (tgt := 11) B d_Machine_perform_238 rfl ?_
            refine mv_lpick [0, 1, 4, 5] rfl ?_
            exact go
          refine ⟨fun h64 => ?_, fun h64n310 => ?_⟩
          · skip
            have h64 : dd = 310 := Int32.toInt_inj.mp (show dd.toInt = (310 : Int32).toInt from h64)
            have hO : Op1 th dd ww (hg a) (hg (a + 1)) := by
              rcases hI with q | q | ⟨q, -⟩ | ⟨q, -⟩ | ⟨-, -, -, -, q⟩
              · rw [h64] at q; cases q
              · rw [h64] at q; cases q
              · rw [h64] at q; cases q
              · rw [h64] at q; cases q
              · exact q
            have hx : ¬ dd = 301 ∧ ¬ dd = 304 ∧ ¬ dd = 311 ∧ ¬ dd = 312 := by rw [h64]; decide
            have hx5 : ¬ dd = 315 := by rw [h64]; decide
            have hu9 : dd = 314 → u < 8193 ∧ isSet dd = 1 := fun q => by rw [h64] at q; cases q
            refine mv_aload_n (pc := 227) B d_Machine_perform_227 rfl 4 rfl ?_
            refine mv_iload (pc := 228) B d_Machine_perform_228 2 rfl ?_
            refine mv_lload (pc := 230) B d_Machine_perform_230 1 rfl ?_
            refine mv_callVv (pc := 232) (n := 2) (ci := 9) (C := R_Machine) B (mK_ok sk sv) hNs rfl rfl (c_Machine_work_a l hi _ _ _ qR th sl qT (hg a) (hg (a + 1)) qh (by omega) (by omega) hO hx hx5 u qU (fun q => (hu9 q).1)) rfl (ma_goodc kc_Machine_work) (B.2.2.2.1 _ k_1605) (B.2.2.2.1 _ k_1607) (B.2.2.2.1 _ ks_74) (B.2.2.2.1 _ k_11) ⟨by decide +kernel, by decide +kernel, by decide +kernel⟩ rfl d_Machine_perform_232 rfl (Nat.le_of_ble_eq_true rfl) ⟨by decide, by decide⟩ ⟨by decide, by decide⟩ ⟨by decide, by decide⟩ (mv_noH hno _) (fun σ232 h232 => ?_)
            obtain ⟨f232, d232⟩ := h232
            have go := d232.elim (fun q => ih σ232 (tt + 1) (aa + 1) (a + 1) (u + 1) (by omega) (by omega) w2 (by omega) (qF.tr f232) (by rw [f232.2.2.2.2]; exact qR) (qT.fm f232.fm hP) q.2.2 q.2.1 (by have := hu9 q.1; omega) (by omega)) (fun q => ih σ232 (tt + 1) (aa + 1) (a + 1) u (by omega) (by omega) w2 (by omega) (qF.tr f232) (by rw [f232.2.2.2.2]; exact qR) (qT.fm f232.fm hP) q.2 q.1 (by omega) (by omega))
            refine mv_iinc (pc := 235) (j := 3) (v := 1) B d_Machine_perform_235 rfl (by decide) (by decide) rfl ?_
            refine mv_goto (pc := 238) (tgt := 11) B d_Machine_perform_238 rfl ?_
            refine mv_lpick [0, 1, 4, 5] rfl ?_
            exact go
          refine ⟨fun h64 => ?_, fun h64n311 => ?_⟩
          · skip
            have h64 : dd = 311 := Int32.toInt_inj.mp (show dd.toInt = (311 : Int32).toInt from h64)
            obtain ⟨-, t9, k1, k2, k3, k4⟩ : dd = 311 ∧ ∃ t : Nat, ww.toInt = t ∧ a < t ∧ t ≤ sz ∧ hg t = hg a := by
              rcases hI with q | q | q | ⟨q, -⟩ | ⟨q, -⟩
              · rw [h64] at q; cases q
              · rw [h64] at q; cases q
              · exact q
              · rw [h64] at q; cases q
              · exact absurd h64 q
            have k5 := l2i_nn (x := ww) (by omega) (by omega)
            have k6 := nSet_mono (mv_a σ 41) (show a ≤ t9 by omega)
            have go := ih τ (tt + 1) ww.toInt32 t9 u (by omega) (by omega) (by rw [k5]; exact k1) k3 qF qR qT (by rw [qh, k4]) qU (by omega) (by omega)
            refine mv_lload (pc := 154) B d_Machine_perform_154 1 rfl ?_
            refine mv_l2i (pc := 156) B d_Machine_perform_156 ?_
            refine mv_istore (pc := 157) B d_Machine_perform_157 (by decide) rfl ?_
            refine mv_goto (pc := 159) (tgt := 235) B d_Machine_perform_159 rfl ?_
            refine mv_iinc (pc := 235) (j := 3) (v := 1) B d_Machine_perform_235 rfl (by decide) (by decide) rfl ?_
            refine mv_goto (pc := 238) (tgt := 11) B d_Machine_perform_238 rfl ?_
            refine mv_lpick [0, 1, 4, 5] rfl ?_
            exact go
          refine ⟨fun h64 => ?_, fun h64n312 => ?_⟩
          · skip
            have h64 : dd = 312 := Int32.toInt_inj.mp (show dd.toInt = (312 : Int32).toInt from h64)
            obtain ⟨-, t9, k1, k2, k3, k4, k7⟩ : dd = 312 ∧ ∃ t : Nat, ww.toInt = t ∧ a < t ∧ t ≤ sz ∧ hg a = hg t + 1 ∧ hg (a + 1) = hg t := by
              rcases hI with q | q | ⟨q, -⟩ | q | ⟨-, q, -⟩
              · rw [h64] at q; cases q
              · rw [h64] at q; cases q
              · rw [h64] at q; cases q
              · exact q
              · exact absurd h64 q
            have k5 := l2i_nn (x := ww) (by omega) (by omega)
            have k6 := nSet_mono (mv_a σ 41) (show a ≤ t9 by omega)
            have k8 := sub_one (x := mv_i τ 64 4) (by omega)
            refine mv_aload_n (pc := 162) B d_Machine_perform_162 rfl 4 rfl ?_
            refine mv_dup (pc := 163) B d_Machine_perform_163 rfl ?_
            refine mv_getI (pc := 164) (ci := 9) (C := R_Machine) (T := F_Machine) (N := 13) B 4 rfl rfl (by decide) i_Machine (B.2.2.2.1 _ k_446) rfl d_Machine_perform_164 ?_
            refine mv_iconst (pc := 167) (v := 1) B d_Machine_perform_167 (by decide) ?_
            refine mv_isub (pc := 168) B d_Machine_perform_168 ?_
            refine mv_putI (pc := 169) (ci := 9) (C := R_Machine) (T := F_Machine) (N := 13) B 4 rfl rfl (by decide) i_Machine t_Machine_ok n_Machine (B.2.2.2.1 _ k_446) rfl rfl rfl rfl d_Machine_perform_169 ?_
            refine mv_aload_n (pc := 172) B d_Machine_perform_172 rfl 4 rfl ?_
            refine mv_getR (pc := 173) (ci := 9) (C := R_Machine) (T := F_Machine) (N := 13) B 3 rfl rfl (by decide) i_Machine (B.2.2.2.1 _ k_445) rfl (qR.1 _ 3 _ rfl) d_Machine_perform_173 ?_
            refine mv_aload_n (pc := 176) B d_Machine_perform_176 rfl 4 rfl ?_
            refine mv_getI (pc := 177) (ci := 9) (C := R_Machine) (T := F_Machine) (N := 13) B 4 rfl rfl (by decide) i_Machine (B.2.2.2.1 _ k_446) rfl d_Machine_perform_177 ?_
            refine mv_lald (pc := 180) B rfl (i32_in (show 0 ≤ (mv_i τ 64 4 - 1).toInt by omega) (show (mv_i τ 64 4 - 1).toInt < 1024 by omega)) d_Machine_perform_180 ?_
            refine mv_lconst (pc := 181) (v := 0) B d_Machine_perform_181 (by decide) ?_
            refine mv_lcmp (pc := 182) B d_Machine_perform_182 ?_
            refine mv_if_ne (pc := 183) (tgt := 192) B d_Machine_perform_183 rfl (fun h183 => ?_) (fun h183 => ?_)
            · skip
              have go := ih (mv_si τ 64 4 (mv_i τ 64 4 - 1)) (tt + 1) (aa + 1) (a + 1) u (by omega) (by omega) w2 (by omega) (qF.si ⟨rfl, Or.inl rfl⟩) qR qT (show (mv_i τ 64 4 - 1).toInt = _ by omega) qU (by omega) (by omega)
              refine mv_iload (pc := 192) B d_Machine_perform_192 0 rfl ?_
              refine mv_istore (pc := 194) B d_Machine_perform_194 (by decide) rfl ?_
              refine mv_goto (pc := 196) (tgt := 235) B d_Machine_perform_196 rfl ?_
              refine mv_iinc (pc := 235) (j := 3) (v := 1) B d_Machine_perform_235 rfl (by decide) (by decide) rfl ?_
              refine mv_goto (pc := 238) (tgt := 11) B d_Machine_perform_238 rfl ?_
              refine mv_lpick [0, 1, 4, 5] rfl ?_
              exact go
            · skip
              have go := ih (mv_si τ 64 4 (mv_i τ 64 4 - 1)) (tt + 1) ww.toInt32 t9 u (by omega) (by omega) (by rw [k5]; exact k1) k3 (qF.si ⟨rfl, Or.inl rfl⟩) qR qT (show (mv_i τ 64 4 - 1).toInt = _ by omega) qU (by omega) (by omega)
              refine mv_lload (pc := 186) B d_Machine_perform_186 1 rfl ?_
              refine mv_l2i (pc := 188) B d_Machine_perform_188 ?_
              refine mv_goto (pc := 189) (tgt := 194) B d_Machine_perform_189 rfl ?_
              refine mv_istore (pc := 194) B d_Machine_perform_194 (by decide) rfl ?_
              refine mv_goto (pc := 196) (tgt := 235) B d_Machine_perform_196 rfl ?_
              refine mv_iinc (pc := 235) (j := 3) (v := 1) B d_Machine_perform_235 rfl (by decide) (by decide) rfl ?_
              refine mv_goto (pc := 238) (tgt := 11) B d_Machine_perform_238 rfl ?_
              refine mv_lpick [0, 1, 4, 5] rfl ?_
              exact go
          refine ⟨fun h64 => ?_, fun h64n313 => ?_⟩
          · skip
            have h64 : dd = 313 := Int32.toInt_inj.mp (show dd.toInt = (313 : Int32).toInt from h64)
            have hO : Op1 th dd ww (hg a) (hg (a + 1)) := by
              rcases hI with q | q | ⟨q, -⟩ | ⟨q, -⟩ | ⟨-, -, -, -, q⟩
              · rw [h64] at q; cases q
              · rw [h64] at q; cases q
              · rw [h64] at q; cases q
              · rw [h64] at q; cases q
              · exact q
            have hx : ¬ dd = 301 ∧ ¬ dd = 304 ∧ ¬ dd = 311 ∧ ¬ dd = 312 := by rw [h64]; decide
            have hx5 : ¬ dd = 315 := by rw [h64]; decide
            have hu9 : dd = 314 → u < 8193 ∧ isSet dd = 1 := fun q => by rw [h64] at q; cases q
            refine mv_aload_n (pc := 227) B d_Machine_perform_227 rfl 4 rfl ?_
            refine mv_iload (pc := 228) B d_Machine_perform_228 2 rfl ?_
            refine mv_lload (pc := 230) B d_Machine_perform_230 1 rfl ?_
            refine mv_callVv (pc := 232) (n := 2) (ci := 9) (C := R_Machine) B (mK_ok sk sv) hNs rfl rfl (c_Machine_work_a l hi _ _ _ qR th sl qT (hg a) (hg (a + 1)) qh (by omega) (by omega) hO hx hx5 u qU (fun q => (hu9 q).1)) rfl (ma_goodc kc_Machine_work) (B.2.2.2.1 _ k_1605) (B.2.2.2.1 _ k_1607) (B.2.2.2.1 _ ks_74) (B.2.2.2.1 _ k_11) ⟨by decide +kernel, by decide +kernel, by decide +kernel⟩ rfl d_Machine_perform_232 rfl (Nat.le_of_ble_eq_true rfl) ⟨by decide, by decide⟩ ⟨by decide, by decide⟩ ⟨by decide, by decide⟩ (mv_noH hno _) (fun σ232 h232 => ?_)
            obtain ⟨f232, d232⟩ := h232
            have go := d232.elim (fun q => ih σ232 (tt + 1) (aa + 1) (a + 1) (u + 1) (by omega) (by omega) w2 (by omega) (qF.tr f232) (by rw [f232.2.2.2.2]; exact qR) (qT.fm f232.fm hP) q.2.2 q.2.1 (by have := hu9 q.1; omega) (by omega)) (fun q => ih σ232 (tt + 1) (aa + 1) (a + 1) u (by omega) (by omega) w2 (by omega) (qF.tr f232) (by rw [f232.2.2.2.2]; exact qR) (qT.fm f232.fm hP) q.2 q.1 (by omega) (by omega))
            refine mv_iinc (pc := 235) (j := 3) (v := 1) B d_Machine_perform_235 rfl (by decide) (by decide) rfl ?_
            refine mv_goto (pc := 238) (tgt := 11) B d_Machine_perform_238 rfl ?_
            refine mv_lpick [0, 1, 4, 5] rfl ?_
            exact go
          refine ⟨fun h64 => ?_, fun h64n314 => ?_⟩
          · skip
            have h64 : dd = 314 := Int32.toInt_inj.mp (show dd.toInt = (314 : Int32).toInt from h64)
            have hO : Op1 th dd ww (hg a) (hg (a + 1)) := by
              rcases hI with q | q | ⟨q, -⟩ | ⟨q, -⟩ | ⟨-, -, -, -, q⟩
              · rw [h64] at q; cases q
              · rw [h64] at q; cases q
              · rw [h64] at q; cases q
              · rw [h64] at q; cases q
              · exact q
            have hx : ¬ dd = 301 ∧ ¬ dd = 304 ∧ ¬ dd = 311 ∧ ¬ dd = 312 := by rw [h64]; decide
            have hx5 : ¬ dd = 315 := by rw [h64]; decide
            have hu9 : dd = 314 → u < 8193 ∧ isSet dd = 1 := fun q => by have o6 : isSet dd = 1 := by { rw [q]; decide }; omega
            refine mv_aload_n (pc := 227) B d_Machine_perform_227 rfl 4 rfl ?_
            refine mv_iload (pc := 228) B d_Machine_perform_228 2 rfl ?_
            refine mv_lload (pc := 230) B d_Machine_perform_230 1 rfl ?_
            refine mv_callVv (pc := 232) (n := 2) (ci := 9) (C := R_Machine) B (mK_ok sk sv) hNs rfl rfl (c_Machine_work_a l hi _ _ _ qR th sl qT (hg a) (hg (a + 1)) qh (by omega) (by omega) hO hx hx5 u qU (fun q => (hu9 q).1)) rfl (ma_goodc kc_Machine_work) (B.2.2.2.1 _ k_1605) (B.2.2.2.1 _ k_1607) (B.2.2.2.1 _ ks_74) (B.2.2.2.1 _ k_11) ⟨by decide +kernel, by decide +kernel, by decide +kernel⟩ rfl d_Machine_perform_232 rfl (Nat.le_of_ble_eq_true rfl) ⟨by decide, by decide⟩ ⟨by decide, by decide⟩ ⟨by decide, by decide⟩ (mv_noH hno _) (fun σ232 h232 => ?_)
            obtain ⟨f232, d232⟩ := h232
            have go := d232.elim (fun q => ih σ232 (tt + 1) (aa + 1) (a + 1) (u + 1) (by omega) (by omega) w2 (by omega) (qF.tr f232) (by rw [f232.2.2.2.2]; exact qR) (qT.fm f232.fm hP) q.2.2 q.2.1 (by have := hu9 q.1; omega) (by omega)) (fun q => ih σ232 (tt + 1) (aa + 1) (a + 1) u (by omega) (by omega) w2 (by omega) (qF.tr f232) (by rw [f232.2.2.2.2]; exact qR) (qT.fm f232.fm hP) q.2 q.1 (by omega) (by omega))
            refine mv_iinc (pc := 235) (j := 3) (v := 1) B d_Machine_perform_235 rfl (by decide) (by decide) rfl ?_
            refine mv_goto (pc := 238) (tgt := 11) B d_Machine_perform_238 rfl ?_
            refine mv_lpick [0, 1, 4, 5] rfl ?_
            exact go
          refine ⟨fun h64 => ?_, fun h64n315 => ?_⟩
          · skip
            have h64 : dd = 315 := Int32.toInt_inj.mp (show dd.toInt = (315 : Int32).toInt from h64)
            have hO : Op1 th dd ww (hg a) (hg (a + 1)) := by
              rcases hI with q | q | ⟨q, -⟩ | ⟨q, -⟩ | ⟨-, -, -, -, q⟩
              · rw [h64] at q; cases q
              · rw [h64] at q; cases q
              · rw [h64] at q; cases q
              · rw [h64] at q; cases q
              · exact q
            subst h64
            have o1 : 2 ≤ hg a := hO.1
            have o2 : hg (a + 1) + 2 = hg a + 0 := hO.2.1
            have o3 := hO.2.2.2.2 (by decide)
            have o4 := l2i_nn o3.1 (by omega)
            have o5 : ww.toInt32.toInt = ww.toInt.toNat := by rw [o4]; omega
            have o6 : isSet (315 : Int32) = 1 := by decide
            have p15 : (315 : Int32) = 315 → hg (a + 1) + 2 = hg a ∧ isSet (315 : Int32) = 1 := fun _ => ⟨by omega, o6⟩
            have p04 : ¬ (315 : Int32) = 315 → hg (a + 1) = hg a := fun q => absurd rfl q
            have hd9 : ((315 : Int32) = 315 ∧ 2 ≤ hg a ∧ u < 8193) ∨ (¬ (315 : Int32) = 315 ∧ 1 ≤ hg a) := Or.inl ⟨rfl, o1, by omega⟩
            refine mv_aload_n (pc := 212) B d_Machine_perform_212 rfl 4 rfl ?_
            refine mv_iload (pc := 213) B d_Machine_perform_213 2 rfl ?_
            refine mv_lload (pc := 215) B d_Machine_perform_215 1 rfl ?_
            refine mv_l2i (pc := 217) B d_Machine_perform_217 ?_
            refine mv_callVi (pc := 218) (n := 2) (ci := 9) (C := R_Machine) B (mK_ok sk sv) hNs rfl rfl (c_Machine_ofCell_a l hi _ _ _ qR th sl qT ww.toInt.toNat o5 (by omega) (hg a) qh (by omega) u qU hd9) rfl (ma_goodc kc_Machine_ofCell) (B.2.2.2.1 _ k_1588) (B.2.2.2.1 _ k_1590) (B.2.2.2.1 _ ks_71) (B.2.2.2.1 _ k_11) ⟨by decide +kernel, by decide +kernel, by decide +kernel⟩ rfl d_Machine_perform_218 rfl (Nat.le_of_ble_eq_true rfl) ⟨by decide, by decide⟩ ⟨by decide, by decide⟩ ⟨by decide, by decide⟩ (mv_noH hno _) (fun v218 σ218 h218 => ?_)
            obtain ⟨f218, d218⟩ := h218
            refine mv_if_ne (pc := 221) (tgt := 235) B d_Machine_perform_221 rfl (fun h221 => ?_) (fun h221 => ?_)
            · skip
              have d218 := d218.resolve_left (fun q => h221 q.1)
              have go := d218.2.elim (fun q => ih σ218 (tt + 1) (aa + 1) (a + 1) (u + 1) (by omega) (by omega) w2 (by omega) (qF.tr f218) (by rw [f218.2.2.2.2]; exact qR) (qT.fm f218.fm hP) (by have := p15 q.1; have := q.2.2; omega) q.2.1 (by have := p15 q.1; omega) (by omega)) (fun q => ih σ218 (tt + 1) (aa + 1) (a + 1) u (by omega) (by omega) w2 (by omega) (qF.tr f218) (by rw [f218.2.2.2.2]; exact qR) (qT.fm f218.fm hP) (by have := p04 q.1; have := q.2.2; omega) q.2.1 (by omega) (by omega))
              refine mv_iinc (pc := 235) (j := 3) (v := 1) B d_Machine_perform_235 rfl (by decide) (by decide) rfl ?_
              refine mv_goto (pc := 238) (tgt := 11) B d_Machine_perform_238 rfl ?_
              refine mv_lpick [0, 1, 4, 5] rfl ?_
              exact go
            · skip
              have d218u : Un σ218 u := d218.elim (fun q => q.2) (fun q => absurd (q.1 ▸ h221) (by decide))
              refine mv_bipush (pc := 224) (v := -3) B d_Machine_perform_224 (by decide) ?_
              exact mv_iret (pc := 226) B hr rfl d_Machine_perform_226 (Nat.le_refl _) (Nat.le_refl _) ⟨_, rfl, qF.tr f218, u, d218u⟩
          refine ⟨fun h64 => ?_, fun h64n316 => ?_⟩
          · skip
            have h64 : dd = 316 := Int32.toInt_inj.mp (show dd.toInt = (316 : Int32).toInt from h64)
            refine mv_lload (pc := 150) B d_Machine_perform_150 1 rfl ?_
            refine mv_l2i (pc := 152) B d_Machine_perform_152 ?_
            exact mv_iret (pc := 153) B hr rfl d_Machine_perform_153 (Nat.le_refl _) (Nat.le_refl _) ⟨_, rfl, qF, u, qU⟩
          refine ⟨fun h64 => ?_, fun h64n317 => ?_⟩
          · skip
            have h64 : dd = 317 := Int32.toInt_inj.mp (show dd.toInt = (317 : Int32).toInt from h64)
            refine mv_iconst (pc := 148) (v := 0) B d_Machine_perform_148 (by decide) ?_
            exact mv_iret (pc := 149) B hr rfl d_Machine_perform_149 (Nat.le_refl _) (Nat.le_refl _) ⟨_, rfl, qF, u, qU⟩
          show mv_V _ _ _ _ _ _ _ _ _ _ _ _ _ _ _ _ 227 _ _
          have n301 : ¬ dd = 301 := fun q => h64n301 (by rw [q]; rfl)
          have n302 : ¬ dd = 302 := fun q => h64n302 (by rw [q]; rfl)
          have n303 : ¬ dd = 303 := fun q => h64n303 (by rw [q]; rfl)
          have n304 : ¬ dd = 304 := fun q => h64n304 (by rw [q]; rfl)
          have n305 : ¬ dd = 305 := fun q => h64n305 (by rw [q]; rfl)
          have n306 : ¬ dd = 306 := fun q => h64n306 (by rw [q]; rfl)
          have n307 : ¬ dd = 307 := fun q => h64n307 (by rw [q]; rfl)
          have n308 : ¬ dd = 308 := fun q => h64n308 (by rw [q]; rfl)
          have n309 : ¬ dd = 309 := fun q => h64n309 (by rw [q]; rfl)
          have n310 : ¬ dd = 310 := fun q => h64n310 (by rw [q]; rfl)
          have n311 : ¬ dd = 311 := fun q => h64n311 (by rw [q]; rfl)
          have n312 : ¬ dd = 312 := fun q => h64n312 (by rw [q]; rfl)
          have n313 : ¬ dd = 313 := fun q => h64n313 (by rw [q]; rfl)
          have n314 : ¬ dd = 314 := fun q => h64n314 (by rw [q]; rfl)
          have n315 : ¬ dd = 315 := fun q => h64n315 (by rw [q]; rfl)
          have n316 : ¬ dd = 316 := fun q => h64n316 (by rw [q]; rfl)
          have n317 : ¬ dd = 317 := fun q => h64n317 (by rw [q]; rfl)
          have hO : Op1 th dd ww (hg a) (hg (a + 1)) := by
            rcases hI with q | q | ⟨q, -⟩ | ⟨q, -⟩ | ⟨-, -, -, -, q⟩
            · exact absurd q n316
            · exact absurd q n317
            · exact absurd q n311
            · exact absurd q n312
            · exact q
          have hx : ¬ dd = 301 ∧ ¬ dd = 304 ∧ ¬ dd = 311 ∧ ¬ dd = 312 := ⟨n301, n304, n311, n312⟩
          have hx5 : ¬ dd = 315 := n315
          have hu9 : dd = 314 → u < 8193 ∧ isSet dd = 1 := fun q => absurd q n314
          refine mv_aload_n (pc := 227) B d_Machine_perform_227 rfl 4 rfl ?_
          refine mv_iload (pc := 228) B d_Machine_perform_228 2 rfl ?_
          refine mv_lload (pc := 230) B d_Machine_perform_230 1 rfl ?_
          refine mv_callVv (pc := 232) (n := 2) (ci := 9) (C := R_Machine) B (mK_ok sk sv) hNs rfl rfl (c_Machine_work_a l hi _ _ _ qR th sl qT (hg a) (hg (a + 1)) qh (by omega) (by omega) hO hx hx5 u qU (fun q => (hu9 q).1)) rfl (ma_goodc kc_Machine_work) (B.2.2.2.1 _ k_1605) (B.2.2.2.1 _ k_1607) (B.2.2.2.1 _ ks_74) (B.2.2.2.1 _ k_11) ⟨by decide +kernel, by decide +kernel, by decide +kernel⟩ rfl d_Machine_perform_232 rfl (Nat.le_of_ble_eq_true rfl) ⟨by decide, by decide⟩ ⟨by decide, by decide⟩ ⟨by decide, by decide⟩ (mv_noH hno _) (fun σ232 h232 => ?_)
          obtain ⟨f232, d232⟩ := h232
          have go := d232.elim (fun q => ih σ232 (tt + 1) (aa + 1) (a + 1) (u + 1) (by omega) (by omega) w2 (by omega) (qF.tr f232) (by rw [f232.2.2.2.2]; exact qR) (qT.fm f232.fm hP) q.2.2 q.2.1 (by have := hu9 q.1; omega) (by omega)) (fun q => ih σ232 (tt + 1) (aa + 1) (a + 1) u (by omega) (by omega) w2 (by omega) (qF.tr f232) (by rw [f232.2.2.2.2]; exact qR) (qT.fm f232.fm hP) q.2 q.1 (by omega) (by omega))
          refine mv_iinc (pc := 235) (j := 3) (v := 1) B d_Machine_perform_235 rfl (by decide) (by decide) rfl ?_
          refine mv_goto (pc := 238) (tgt := 11) B d_Machine_perform_238 rfl ?_
          refine mv_lpick [0, 1, 4, 5] rfl ?_
          exact go
  refine mv_aload_n (pc := 0) B d_Machine_perform_0 rfl 0 rfl ?_
  refine mv_iconst (pc := 1) (v := 0) B d_Machine_perform_1 (by decide) ?_
  refine mv_putI (pc := 2) (ci := 9) (C := R_Machine) (T := F_Machine) (N := 13) B 4 rfl rfl (by decide) i_Machine t_Machine_ok n_Machine (B.2.2.2.1 _ k_446) rfl rfl rfl rfl d_Machine_perform_2 ?_
  refine mv_iload_n (pc := 5) B d_Machine_perform_5 rfl 1 rfl ?_
  refine mv_istore (pc := 6) B d_Machine_perform_6 (by decide) rfl ?_
  refine mv_iconst (pc := 8) (v := 0) B d_Machine_perform_8 (by decide) ?_
  refine mv_istore (pc := 9) B d_Machine_perform_9 (by decide) rfl ?_
  refine mv_lpick [0, 1, 2, 4] rfl ?_
  exact lp _ _ _ _ n9 0 (by decide) (by show (0 : Int) ≤ sz; omega) hst hn1 (MF0.si ⟨rfl, Or.inl rfl⟩) hR hT (show (0 : Int) = hg n9 by omega) hU (Nat.zero_le _) (Nat.lt_succ_self _)
set_option maxHeartbeats 4000000 in
set_option maxRecDepth 100000 in
theorem c_Machine_perform_b (l : Launch) {dA : FieldType → ClassId} {D : va_G} {al : Nat → Nat} {ext : mv_Sh} {sk sv : Nat → Nat} (hi : mv_inj (mg dA D al ext)) (σ : mv_H) (st9 : Int32) (w9 : Int64) (hR : Rf 48 (mv_r σ)) (th sl : Nat) (hT : Th 48 σ th sl) (hg : Nat → Nat) (sz : Nat) (hsz : (mv_i σ 48 17).toInt = sz) (hszR : sz ≤ 32768) (hg1 : ∀ a, hg a ≤ 1000) (hC : ∀ a, a < sz → Ins th sz hg a (mv_a σ 57 a) (mv_b σ 58 a)) (n9 : Nat) (hst : st9.toInt = n9) (hn1 : n9 ≤ sz) (hn2 : hg n9 = 0) (hns : nSet (mv_a σ 57) sz ≤ 8193) (hU : Un σ 0) : mv_C l y_Machine_perform (Cond.code y_Machine_perform b_Machine_perform 9 (Option.some Jvm.ClassFile.FieldType.int) :: ma) ({ frames := 4, cells := 0, slots := 0, locals := 101 }) (mg dA D al ext) (mK sk sv) [.ref (al 64), .int st9, .long w9] σ (mv_Ri (fun v σ1 => MF σ σ1 ∧ ∃ u, Un σ1 u)) := by
  refine mv_C.ofV (cc := b_Machine_perform) (nL := 9) (ret := (Option.some Jvm.ClassFile.FieldType.int)) (by decide +kernel) rfl hi (Nat.le_of_ble_eq_true rfl) ?_
  intro p e s m below meth c B hNs hr hnm hno
  have hP : PP 48 := by unfold PP; omega
  have ht64 := hT.2.1
  have lp : ∀ (nn : Nat) (τ : mv_H) (tt : Int32) (aa : Int32) (a : Nat) (u : Nat) (q0 : 0 ≤ tt.toInt) (qtz : tt.toInt ≤ sz) (qa : aa.toInt = a) (qaz : a ≤ sz) (qF : MF σ τ) (qR : Rf 48 (mv_r τ)) (qT : Th 48 τ th sl) (qh : (mv_i τ 64 4).toInt = hg a) (qU : Un τ u) (qu : u ≤ nSet (mv_a σ 57) a), sz - a < nn → mv_V p l e ({ frames := 4, cells := 0, slots := 0, locals := 101 }) s m ([.ref (al 64), .int st9, .long w9] : List Value).toArray below meth c (mg dA D al ext) 9 0 0 (mv_Q (mg dA D al ext) below s 0 0 (mv_Ri (fun v σ1 => MF σ σ1 ∧ ∃ u, Un σ1 u))) τ 11 [(5, .int tt), (4, .int aa), (0, .ref (al 64)), (2, .long w9)] [] := by
    intro nn
    induction nn with
    | zero => intro τ tt aa a u q0 qtz qa qaz qF qR qT qh qU qu hm; exact absurd hm (Nat.not_lt_zero _)
    | succ nn ih =>
      intro τ tt aa a u q0 qtz qa qaz qF qR qT qh qU qu hm
      have e17 : (mv_i τ 48 17).toInt = sz := by rw [qF.1 _ _ (by decide)]; exact hsz
      refine mv_iload (pc := 11) B d_Machine_perform_11 0 rfl ?_
      refine mv_aload_n (pc := 13) B d_Machine_perform_13 rfl 2 rfl ?_
      refine mv_getR (pc := 14) (ci := 9) (C := R_Machine) (T := F_Machine) (N := 13) B 0 rfl rfl (by decide) i_Machine (B.2.2.2.1 _ k_440) rfl qR.2.2 d_Machine_perform_14 ?_
      refine mv_getI (pc := 17) (ci := 7) (C := R_Program) (T := F_Program) (N := 19) B 17 rfl rfl (by decide) i_Program (B.2.2.2.1 _ k_362) rfl d_Machine_perform_17 ?_
      refine mv_icmp_ge (pc := 20) (tgt := 241) B d_Machine_perform_20 rfl (fun h20 => ?_) (fun h20 => ?_)
      · skip
        skip
        refine mv_iconst (pc := 241) (v := 0) B d_Machine_perform_241 (by decide) ?_
        exact mv_iret (pc := 242) B hr rfl d_Machine_perform_242 (Nat.le_refl _) (Nat.le_refl _) ⟨_, rfl, qF, u, qU⟩
      · skip
        rw [Int32.le_iff_toInt_le] at h20
        rw [e17] at h20
        refine mv_iload (pc := 23) B d_Machine_perform_23 1 rfl ?_
        refine mv_aload_n (pc := 25) B d_Machine_perform_25 rfl 2 rfl ?_
        refine mv_getR (pc := 26) (ci := 9) (C := R_Machine) (T := F_Machine) (N := 13) B 0 rfl rfl (by decide) i_Machine (B.2.2.2.1 _ k_440) rfl qR.2.2 d_Machine_perform_26 ?_
        refine mv_getI (pc := 29) (ci := 7) (C := R_Program) (T := F_Program) (N := 19) B 17 rfl rfl (by decide) i_Program (B.2.2.2.1 _ k_362) rfl d_Machine_perform_29 ?_
        refine mv_icmp_ge (pc := 32) (tgt := 241) B d_Machine_perform_32 rfl (fun h32 => ?_) (fun h32 => ?_)
        · skip
          skip
          refine mv_iconst (pc := 241) (v := 0) B d_Machine_perform_241 (by decide) ?_
          exact mv_iret (pc := 242) B hr rfl d_Machine_perform_242 (Nat.le_refl _) (Nat.le_refl _) ⟨_, rfl, qF, u, qU⟩
        · skip
          rw [Int32.le_iff_toInt_le] at h32
          rw [e17] at h32
          have eaa := i32_cl (x := aa) (by omega)
          have za : aa.toNatClampNeg = a := by omega
          have hI := hC a (by omega)
          have w2 : (aa + 1).toInt = ((a + 1 : Nat) : Int) := by rw [i32_inc (by omega)]; omega
          have t2 : (tt + 1).toInt = tt.toInt + 1 := i32_inc (by omega)
          have ed : mv_a τ 57 aa.toNatClampNeg = mv_a σ 57 a := by rw [za, qF.2.1 _ (by decide)]
          have ew : mv_b τ 58 aa.toNatClampNeg = mv_b σ 58 a := by rw [za, qF.2.2.1 _ (by decide)]
          have hz1 : nSet (mv_a σ 57) (a + 1) = nSet (mv_a σ 57) a + isSet (mv_a σ 57 a) := rfl
          have hz2 := nSet_mono (mv_a σ 57) (show a + 1 ≤ sz by omega)
          have hga := hg1 a
          have hga1 := hg1 (a + 1)
          refine mv_aload_n (pc := 35) B d_Machine_perform_35 rfl 2 rfl ?_
          refine mv_getR (pc := 36) (ci := 9) (C := R_Machine) (T := F_Machine) (N := 13) B 0 rfl rfl (by decide) i_Machine (B.2.2.2.1 _ k_440) rfl qR.2.2 d_Machine_perform_36 ?_
          refine mv_getR (pc := 39) (ci := 7) (C := R_Program) (T := F_Program) (N := 19) B 15 rfl rfl (by decide) i_Program (B.2.2.2.1 _ k_358) rfl (qR.2.1 _ 15 57 rfl) d_Machine_perform_39 ?_
          refine mv_iload (pc := 42) B d_Machine_perform_42 1 rfl ?_
          refine mv_iald (pc := 44) B rfl (i32_in (by omega) (by omega)) d_Machine_perform_44 ?_
          refine mv_istore (pc := 45) B d_Machine_perform_45 (by decide) rfl ?_
          refine mv_aload_n (pc := 47) B d_Machine_perform_47 rfl 3 rfl ?_
          refine mv_getR (pc := 48) (ci := 9) (C := R_Machine) (T := F_Machine) (N := 13) B 0 rfl rfl (by decide) i_Machine (B.2.2.2.1 _ k_440) rfl qR.2.2 d_Machine_perform_48 ?_
          refine mv_getR (pc := 51) (ci := 7) (C := R_Program) (T := F_Program) (N := 19) B 16 rfl rfl (by decide) i_Program (B.2.2.2.1 _ k_360) rfl (qR.2.1 _ 16 58 rfl) d_Machine_perform_51 ?_
          refine mv_iload (pc := 54) B d_Machine_perform_54 2 rfl ?_
          refine mv_lald (pc := 56) B rfl (i32_in (by omega) (by omega)) d_Machine_perform_56 ?_
          refine mv_lstore (pc := 57) B d_Machine_perform_57 (by decide) rfl ?_
          rw [ed, ew]
          obtain ⟨dd, hdd⟩ : ∃ d, d = mv_a σ 57 a := ⟨_, rfl⟩
          obtain ⟨ww, hww⟩ : ∃ d, d = mv_b σ 58 a := ⟨_, rfl⟩
          rw [← hdd, ← hww] at hI
          rw [← hdd] at hz1
          rw [← hdd, ← hww]
          clear ed ew hdd hww
          refine mv_iinc (pc := 59) (j := 3) (v := 1) B d_Machine_perform_59 rfl (by decide) (by decide) rfl ?_
          refine mv_iload (pc := 62) B d_Machine_perform_62 2 rfl ?_
          refine mv_tsw (pc := 64) B d_Machine_perform_64 (by decide) (by decide) ?_
          refine ⟨fun h64 => ?_, fun h64n301 => ?_⟩
          · skip
            have h64 : dd = 301 := Int32.toInt_inj.mp (show dd.toInt = (301 : Int32).toInt from h64)
            have hO : Op1 th dd ww (hg a) (hg (a + 1)) := by
              rcases hI with q | q | ⟨q, -⟩ | ⟨q, -⟩ | ⟨-, -, -, -, q⟩
              · rw [h64] at q; cases q
              · rw [h64] at q; cases q
              · rw [h64] at q; cases q
              · rw [h64] at q; cases q
              · exact q
            subst h64
            have o1 : 0 ≤ hg a := hO.1
            have o2 : hg (a + 1) + 0 = hg a + 1 := hO.2.1
            refine mv_aload_n (pc := 199) B d_Machine_perform_199 rfl 4 rfl ?_
            refine mv_lload_n (pc := 200) B d_Machine_perform_200 rfl 5 rfl ?_
            refine mv_lload (pc := 201) B d_Machine_perform_201 1 rfl ?_
            refine mv_callSl (pc := 203) (n := 2) B (mK_ok sk sv) hNs (c_Bits_gather l hi _ _ _) rfl (ma_goodc kc_Bits_gather) (B.2.2.2.1 _ k_1581) (B.2.2.2.1 _ k_1582) (B.2.2.2.1 _ k_33) ⟨by decide +kernel, by decide +kernel, by decide +kernel⟩ rfl d_Machine_perform_203 rfl (Nat.le_of_ble_eq_true rfl) ⟨by decide, by decide⟩ ⟨by decide, by decide⟩ ⟨by decide, by decide⟩ (mv_noH hno _) (fun v203 σ203 h203 => ?_)
            have h203 := h203.symm
            subst h203
            refine mv_callVv (pc := 206) (n := 1) (ci := 9) (C := R_Machine) B (mK_ok sk sv) hNs rfl rfl (c_Machine_push_b l hi _ _ qR (by omega) (by omega)) rfl (ma_goodc kc_Machine_push) (B.2.2.2.1 _ k_1584) (B.2.2.2.1 _ k_1586) (B.2.2.2.1 _ ks_70) (B.2.2.2.1 _ k_11) ⟨by decide +kernel, by decide +kernel, by decide +kernel⟩ rfl d_Machine_perform_206 rfl (Nat.le_of_ble_eq_true rfl) ⟨by decide, by decide⟩ ⟨by decide, by decide⟩ ⟨by decide, by decide⟩ (mv_noH hno _) (fun σ206 h206 => ?_)
            subst h206
            have go := ih (mc_push τ v203) (tt + 1) (aa + 1) (a + 1) u (by omega) (by omega) w2 (by omega) ((qF.sb (Or.inr (Or.inr (Or.inl rfl)))).si ⟨rfl, Or.inl rfl⟩) qR qT (show (mv_i τ 64 4 + 1).toInt = _ by rw [i32_inc (by omega)]; omega) qU (by omega) (by omega)
            refine mv_goto (pc := 209) (tgt := 235) B d_Machine_perform_209 rfl ?_
            refine mv_iinc (pc := 235) (j := 3) (v := 1) B d_Machine_perform_235 rfl (by decide) (by decide) rfl ?_
            refine mv_goto (pc := 238) (tgt := 11) B d_Machine_perform_238 rfl ?_
            refine mv_lpick [0, 1, 4, 5] rfl ?_
            exact go
          refine ⟨fun h64 => ?_, fun h64n302 => ?_⟩
          · skip
            have h64 : dd = 302 := Int32.toInt_inj.mp (show dd.toInt = (302 : Int32).toInt from h64)
            have hO : Op1 th dd ww (hg a) (hg (a + 1)) := by
              rcases hI with q | q | ⟨q, -⟩ | ⟨q, -⟩ | ⟨-, -, -, -, q⟩
              · rw [h64] at q; cases q
              · rw [h64] at q; cases q
              · rw [h64] at q; cases q
              · rw [h64] at q; cases q
              · exact q
            have hx : ¬ dd = 301 ∧ ¬ dd = 304 ∧ ¬ dd = 311 ∧ ¬ dd = 312 := by rw [h64]; decide
            have hx5 : ¬ dd = 315 := by rw [h64]; decide
            have hu9 : dd = 314 → u < 8193 ∧ isSet dd = 1 := fun q => by rw [h64] at q; cases q
            refine mv_aload_n (pc := 227) B d_Machine_perform_227 rfl 4 rfl ?_
            refine mv_iload (pc := 228) B d_Machine_perform_228 2 rfl ?_
            refine mv_lload (pc := 230) B d_Machine_perform_230 1 rfl ?_
            refine mv_callVv (pc := 232) (n := 2) (ci := 9) (C := R_Machine) B (mK_ok sk sv) hNs rfl rfl (c_Machine_work_b l hi _ _ _ qR th sl qT (hg a) (hg (a + 1)) qh (by omega) (by omega) hO hx hx5 u qU (fun q => (hu9 q).1)) rfl (ma_goodc kc_Machine_work) (B.2.2.2.1 _ k_1605) (B.2.2.2.1 _ k_1607) (B.2.2.2.1 _ ks_74) (B.2.2.2.1 _ k_11) ⟨by decide +kernel, by decide +kernel, by decide +kernel⟩ rfl d_Machine_perform_232 rfl (Nat.le_of_ble_eq_true rfl) ⟨by decide, by decide⟩ ⟨by decide, by decide⟩ ⟨by decide, by decide⟩ (mv_noH hno _) (fun σ232 h232 => ?_)
            obtain ⟨f232, d232⟩ := h232
            have go := d232.elim (fun q => ih σ232 (tt + 1) (aa + 1) (a + 1) (u + 1) (by omega) (by omega) w2 (by omega) (qF.tr f232) (by rw [f232.2.2.2.2]; exact qR) (qT.fm f232.fm hP) q.2.2 q.2.1 (by have := hu9 q.1; omega) (by omega)) (fun q => ih σ232 (tt + 1) (aa + 1) (a + 1) u (by omega) (by omega) w2 (by omega) (qF.tr f232) (by rw [f232.2.2.2.2]; exact qR) (qT.fm f232.fm hP) q.2 q.1 (by omega) (by omega))
            refine mv_iinc (pc := 235) (j := 3) (v := 1) B d_Machine_perform_235 rfl (by decide) (by decide) rfl ?_
            refine mv_goto (pc := 238) (tgt := 11) B d_Machine_perform_238 rfl ?_
            refine mv_lpick [0, 1, 4, 5] rfl ?_
            exact go
          refine ⟨fun h64 => ?_, fun h64n303 => ?_⟩
          · skip
            have h64 : dd = 303 := Int32.toInt_inj.mp (show dd.toInt = (303 : Int32).toInt from h64)
            have hO : Op1 th dd ww (hg a) (hg (a + 1)) := by
              rcases hI with q | q | ⟨q, -⟩ | ⟨q, -⟩ | ⟨-, -, -, -, q⟩
              · rw [h64] at q; cases q
              · rw [h64] at q; cases q
              · rw [h64] at q; cases q
              · rw [h64] at q; cases q
              · exact q
            have hx : ¬ dd = 301 ∧ ¬ dd = 304 ∧ ¬ dd = 311 ∧ ¬ dd = 312 := by rw [h64]; decide
            have hx5 : ¬ dd = 315 := by rw [h64]; decide
            have hu9 : dd = 314 → u < 8193 ∧ isSet dd = 1 := fun q => by rw [h64] at q; cases q
            refine mv_aload_n (pc := 227) B d_Machine_perform_227 rfl 4 rfl ?_
            refine mv_iload (pc := 228) B d_Machine_perform_228 2 rfl ?_
            refine mv_lload (pc := 230) B d_Machine_perform_230 1 rfl ?_
            refine mv_callVv (pc := 232) (n := 2) (ci := 9) (C := R_Machine) B (mK_ok sk sv) hNs rfl rfl (c_Machine_work_b l hi _ _ _ qR th sl qT (hg a) (hg (a + 1)) qh (by omega) (by omega) hO hx hx5 u qU (fun q => (hu9 q).1)) rfl (ma_goodc kc_Machine_work) (B.2.2.2.1 _ k_1605) (B.2.2.2.1 _ k_1607) (B.2.2.2.1 _ ks_74) (B.2.2.2.1 _ k_11) ⟨by decide +kernel, by decide +kernel, by decide +kernel⟩ rfl d_Machine_perform_232 rfl (Nat.le_of_ble_eq_true rfl) ⟨by decide, by decide⟩ ⟨by decide, by decide⟩ ⟨by decide, by decide⟩ (mv_noH hno _) (fun σ232 h232 => ?_)
            obtain ⟨f232, d232⟩ := h232
            have go := d232.elim (fun q => ih σ232 (tt + 1) (aa + 1) (a + 1) (u + 1) (by omega) (by omega) w2 (by omega) (qF.tr f232) (by rw [f232.2.2.2.2]; exact qR) (qT.fm f232.fm hP) q.2.2 q.2.1 (by have := hu9 q.1; omega) (by omega)) (fun q => ih σ232 (tt + 1) (aa + 1) (a + 1) u (by omega) (by omega) w2 (by omega) (qF.tr f232) (by rw [f232.2.2.2.2]; exact qR) (qT.fm f232.fm hP) q.2 q.1 (by omega) (by omega))
            refine mv_iinc (pc := 235) (j := 3) (v := 1) B d_Machine_perform_235 rfl (by decide) (by decide) rfl ?_
            refine mv_goto (pc := 238) (tgt := 11) B d_Machine_perform_238 rfl ?_
            refine mv_lpick [0, 1, 4, 5] rfl ?_
            exact go
          refine ⟨fun h64 => ?_, fun h64n304 => ?_⟩
          · skip
            have h64 : dd = 304 := Int32.toInt_inj.mp (show dd.toInt = (304 : Int32).toInt from h64)
            have hO : Op1 th dd ww (hg a) (hg (a + 1)) := by
              rcases hI with q | q | ⟨q, -⟩ | ⟨q, -⟩ | ⟨-, -, -, -, q⟩
              · rw [h64] at q; cases q
              · rw [h64] at q; cases q
              · rw [h64] at q; cases q
              · rw [h64] at q; cases q
              · exact q
            subst h64
            have o1 : 1 ≤ hg a := hO.1
            have o2 : hg (a + 1) + 1 = hg a + 1 := hO.2.1
            have o3 := hO.2.2.2.2 (by decide)
            have o4 := l2i_nn o3.1 (by omega)
            have o5 : ww.toInt32.toInt = ww.toInt.toNat := by rw [o4]; omega
            have p15 : (304 : Int32) = 315 → hg (a + 1) + 2 = hg a ∧ isSet (304 : Int32) = 1 := fun q => absurd q (by decide)
            have p04 : ¬ (304 : Int32) = 315 → hg (a + 1) = hg a := fun _ => by omega
            have hd9 : ((304 : Int32) = 315 ∧ 2 ≤ hg a ∧ u < 8193) ∨ (¬ (304 : Int32) = 315 ∧ 1 ≤ hg a) := Or.inr ⟨by decide, o1⟩
            refine mv_aload_n (pc := 212) B d_Machine_perform_212 rfl 4 rfl ?_
            refine mv_iload (pc := 213) B d_Machine_perform_213 2 rfl ?_
            refine mv_lload (pc := 215) B d_Machine_perform_215 1 rfl ?_
            refine mv_l2i (pc := 217) B d_Machine_perform_217 ?_
            refine mv_callVi (pc := 218) (n := 2) (ci := 9) (C := R_Machine) B (mK_ok sk sv) hNs rfl rfl (c_Machine_ofCell_b l hi _ _ _ qR th sl qT ww.toInt.toNat o5 (by omega) (hg a) qh (by omega) u qU hd9) rfl (ma_goodc kc_Machine_ofCell) (B.2.2.2.1 _ k_1588) (B.2.2.2.1 _ k_1590) (B.2.2.2.1 _ ks_71) (B.2.2.2.1 _ k_11) ⟨by decide +kernel, by decide +kernel, by decide +kernel⟩ rfl d_Machine_perform_218 rfl (Nat.le_of_ble_eq_true rfl) ⟨by decide, by decide⟩ ⟨by decide, by decide⟩ ⟨by decide, by decide⟩ (mv_noH hno _) (fun v218 σ218 h218 => ?_)
            obtain ⟨f218, d218⟩ := h218
            refine mv_if_ne (pc := 221) (tgt := 235) B d_Machine_perform_221 rfl (fun h221 => ?_) (fun h221 => ?_)
            · skip
              have d218 := d218.resolve_left (fun q => h221 q.1)
              have go := d218.2.elim (fun q => ih σ218 (tt + 1) (aa + 1) (a + 1) (u + 1) (by omega) (by omega) w2 (by omega) (qF.tr f218) (by rw [f218.2.2.2.2]; exact qR) (qT.fm f218.fm hP) (by have := p15 q.1; have := q.2.2; omega) q.2.1 (by have := p15 q.1; omega) (by omega)) (fun q => ih σ218 (tt + 1) (aa + 1) (a + 1) u (by omega) (by omega) w2 (by omega) (qF.tr f218) (by rw [f218.2.2.2.2]; exact qR) (qT.fm f218.fm hP) (by have := p04 q.1; have := q.2.2; omega) q.2.1 (by omega) (by omega))
              refine mv_iinc (pc := 235) (j := 3) (v := 1) B d_Machine_perform_235 rfl (by decide) (by decide) rfl ?_
              refine mv_goto (pc := 238) (tgt := 11) B d_Machine_perform_238 rfl ?_
              refine mv_lpick [0, 1, 4, 5] rfl ?_
              exact go
            · skip
              have d218u : Un σ218 u := d218.elim (fun q => q.2) (fun q => absurd (q.1 ▸ h221) (by decide))
              refine mv_bipush (pc := 224) (v := -3) B d_Machine_perform_224 (by decide) ?_
              exact mv_iret (pc := 226) B hr rfl d_Machine_perform_226 (Nat.le_refl _) (Nat.le_refl _) ⟨_, rfl, qF.tr f218, u, d218u⟩
          refine ⟨fun h64 => ?_, fun h64n305 => ?_⟩
          · skip
            have h64 : dd = 305 := Int32.toInt_inj.mp (show dd.toInt = (305 : Int32).toInt from h64)
            have hO : Op1 th dd ww (hg a) (hg (a + 1)) := by
              rcases hI with q | q | ⟨q, -⟩ | ⟨q, -⟩ | ⟨-, -, -, -, q⟩
              · rw [h64] at q; cases q
              · rw [h64] at q; cases q
              · rw [h64] at q; cases q
              · rw [h64] at q; cases q
              · exact q
            have hx : ¬ dd = 301 ∧ ¬ dd = 304 ∧ ¬ dd = 311 ∧ ¬ dd = 312 := by rw [h64]; decide
            have hx5 : ¬ dd = 315 := by rw [h64]; decide
            have hu9 : dd = 314 → u < 8193 ∧ isSet dd = 1 := fun q => by rw [h64] at q; cases q
            refine mv_aload_n (pc := 227) B d_Machine_perform_227 rfl 4 rfl ?_
            refine mv_iload (pc := 228) B d_Machine_perform_228 2 rfl ?_
            refine mv_lload (pc := 230) B d_Machine_perform_230 1 rfl ?_
            refine mv_callVv (pc := 232) (n := 2) (ci := 9) (C := R_Machine) B (mK_ok sk sv) hNs rfl rfl (c_Machine_work_b l hi _ _ _ qR th sl qT (hg a) (hg (a + 1)) qh (by omega) (by omega) hO hx hx5 u qU (fun q => (hu9 q).1)) rfl (ma_goodc kc_Machine_work) (B.2.2.2.1 _ k_1605) (B.2.2.2.1 _ k_1607) (B.2.2.2.1 _ ks_74) (B.2.2.2.1 _ k_11) ⟨by decide +kernel, by decide +kernel, by decide +kernel⟩ rfl d_Machine_perform_232 rfl (Nat.le_of_ble_eq_true rfl) ⟨by decide, by decide⟩ ⟨by decide, by decide⟩ ⟨by decide, by decide⟩ (mv_noH hno _) (fun σ232 h232 => ?_)
            obtain ⟨f232, d232⟩ := h232
            have go := d232.elim (fun q => ih σ232 (tt + 1) (aa + 1) (a + 1) (u + 1) (by omega) (by omega) w2 (by omega) (qF.tr f232) (by rw [f232.2.2.2.2]; exact qR) (qT.fm f232.fm hP) q.2.2 q.2.1 (by have := hu9 q.1; omega) (by omega)) (fun q => ih σ232 (tt + 1) (aa + 1) (a + 1) u (by omega) (by omega) w2 (by omega) (qF.tr f232) (by rw [f232.2.2.2.2]; exact qR) (qT.fm f232.fm hP) q.2 q.1 (by omega) (by omega))
            refine mv_iinc (pc := 235) (j := 3) (v := 1) B d_Machine_perform_235 rfl (by decide) (by decide) rfl ?_
            refine mv_goto (pc := 238) (tgt := 11) B d_Machine_perform_238 rfl ?_
            refine mv_lpick [0, 1, 4, 5] rfl ?_
            exact go
          refine ⟨fun h64 => ?_, fun h64n306 => ?_⟩
          · skip
            have h64 : dd = 306 := Int32.toInt_inj.mp (show dd.toInt = (306 : Int32).toInt from h64)
            have hO : Op1 th dd ww (hg a) (hg (a + 1)) := by
              rcases hI with q | q | ⟨q, -⟩ | ⟨q, -⟩ | ⟨-, -, -, -, q⟩
              · rw [h64] at q; cases q
              · rw [h64] at q; cases q
              · rw [h64] at q; cases q
              · rw [h64] at q; cases q
              · exact q
            have hx : ¬ dd = 301 ∧ ¬ dd = 304 ∧ ¬ dd = 311 ∧ ¬ dd = 312 := by rw [h64]; decide
            have hx5 : ¬ dd = 315 := by rw [h64]; decide
            have hu9 : dd = 314 → u < 8193 ∧ isSet dd = 1 := fun q => by rw [h64] at q; cases q
            refine mv_aload_n (pc := 227) B d_Machine_perform_227 rfl 4 rfl ?_
            refine mv_iload (pc := 228) B d_Machine_perform_228 2 rfl ?_
            refine mv_lload (pc := 230) B d_Machine_perform_230 1 rfl ?_
            refine mv_callVv (pc := 232) (n := 2) (ci := 9) (C := R_Machine) B (mK_ok sk sv) hNs rfl rfl (c_Machine_work_b l hi _ _ _ qR th sl qT (hg a) (hg (a + 1)) qh (by omega) (by omega) hO hx hx5 u qU (fun q => (hu9 q).1)) rfl (ma_goodc kc_Machine_work) (B.2.2.2.1 _ k_1605) (B.2.2.2.1 _ k_1607) (B.2.2.2.1 _ ks_74) (B.2.2.2.1 _ k_11) ⟨by decide +kernel, by decide +kernel, by decide +kernel⟩ rfl d_Machine_perform_232 rfl (Nat.le_of_ble_eq_true rfl) ⟨by decide, by decide⟩ ⟨by decide, by decide⟩ ⟨by decide, by decide⟩ (mv_noH hno _) (fun σ232 h232 => ?_)
            obtain ⟨f232, d232⟩ := h232
            have go := d232.elim (fun q => ih σ232 (tt + 1) (aa + 1) (a + 1) (u + 1) (by omega) (by omega) w2 (by omega) (qF.tr f232) (by rw [f232.2.2.2.2]; exact qR) (qT.fm f232.fm hP) q.2.2 q.2.1 (by have := hu9 q.1; omega) (by omega)) (fun q => ih σ232 (tt + 1) (aa + 1) (a + 1) u (by omega) (by omega) w2 (by omega) (qF.tr f232) (by rw [f232.2.2.2.2]; exact qR) (qT.fm f232.fm hP) q.2 q.1 (by omega) (by omega))
            refine mv_iinc (pc := 235) (j := 3) (v := 1) B d_Machine_perform_235 rfl (by decide) (by decide) rfl ?_
            refine mv_goto (pc := 238) (tgt := 11) B d_Machine_perform_238 rfl ?_
            refine mv_lpick [0, 1, 4, 5] rfl ?_
            exact go
          refine ⟨fun h64 => ?_, fun h64n307 => ?_⟩
          · skip
            have h64 : dd = 307 := Int32.toInt_inj.mp (show dd.toInt = (307 : Int32).toInt from h64)
            have hO : Op1 th dd ww (hg a) (hg (a + 1)) := by
              rcases hI with q | q | ⟨q, -⟩ | ⟨q, -⟩ | ⟨-, -, -, -, q⟩
              · rw [h64] at q; cases q
              · rw [h64] at q; cases q
              · rw [h64] at q; cases q
              · rw [h64] at q; cases q
              · exact q
            have hx : ¬ dd = 301 ∧ ¬ dd = 304 ∧ ¬ dd = 311 ∧ ¬ dd = 312 := by rw [h64]; decide
            have hx5 : ¬ dd = 315 := by rw [h64]; decide
            have hu9 : dd = 314 → u < 8193 ∧ isSet dd = 1 := fun q => by rw [h64] at q; cases q
            refine mv_aload_n (pc := 227) B d_Machine_perform_227 rfl 4 rfl ?_
            refine mv_iload (pc := 228) B d_Machine_perform_228 2 rfl ?_
            refine mv_lload (pc := 230) B d_Machine_perform_230 1 rfl ?_
            refine mv_callVv (pc := 232) (n := 2) (ci := 9) (C := R_Machine) B (mK_ok sk sv) hNs rfl rfl (c_Machine_work_b l hi _ _ _ qR th sl qT (hg a) (hg (a + 1)) qh (by omega) (by omega) hO hx hx5 u qU (fun q => (hu9 q).1)) rfl (ma_goodc kc_Machine_work) (B.2.2.2.1 _ k_1605) (B.2.2.2.1 _ k_1607) (B.2.2.2.1 _ ks_74) (B.2.2.2.1 _ k_11) ⟨by decide +kernel, by decide +kernel, by decide +kernel⟩ rfl d_Machine_perform_232 rfl (Nat.le_of_ble_eq_true rfl) ⟨by decide, by decide⟩ ⟨by decide, by decide⟩ ⟨by decide, by decide⟩ (mv_noH hno _) (fun σ232 h232 => ?_)
            obtain ⟨f232, d232⟩ := h232
            have go := d232.elim (fun q => ih σ232 (tt + 1) (aa + 1) (a + 1) (u + 1) (by omega) (by omega) w2 (by omega) (qF.tr f232) (by rw [f232.2.2.2.2]; exact qR) (qT.fm f232.fm hP) q.2.2 q.2.1 (by have := hu9 q.1; omega) (by omega)) (fun q => ih σ232 (tt + 1) (aa + 1) (a + 1) u (by omega) (by omega) w2 (by omega) (qF.tr f232) (by rw [f232.2.2.2.2]; exact qR) (qT.fm f232.fm hP) q.2 q.1 (by omega) (by omega))
            refine mv_iinc (pc := 235) (j := 3) (v := 1) B d_Machine_perform_235 rfl (by decide) (by decide) rfl ?_
            refine mv_goto (pc := 238) (tgt := 11) B d_Machine_perform_238 rfl ?_
            refine mv_lpick [0, 1, 4, 5] rfl ?_
            exact go
          refine ⟨fun h64 => ?_, fun h64n308 => ?_⟩
          · skip
            have h64 : dd = 308 := Int32.toInt_inj.mp (show dd.toInt = (308 : Int32).toInt from h64)
            have hO : Op1 th dd ww (hg a) (hg (a + 1)) := by
              rcases hI with q | q | ⟨q, -⟩ | ⟨q, -⟩ | ⟨-, -, -, -, q⟩
              · rw [h64] at q; cases q
              · rw [h64] at q; cases q
              · rw [h64] at q; cases q
              · rw [h64] at q; cases q
              · exact q
            have hx : ¬ dd = 301 ∧ ¬ dd = 304 ∧ ¬ dd = 311 ∧ ¬ dd = 312 := by rw [h64]; decide
            have hx5 : ¬ dd = 315 := by rw [h64]; decide
            have hu9 : dd = 314 → u < 8193 ∧ isSet dd = 1 := fun q => by rw [h64] at q; cases q
            refine mv_aload_n (pc := 227) B d_Machine_perform_227 rfl 4 rfl ?_
            refine mv_iload (pc := 228) B d_Machine_perform_228 2 rfl ?_
            refine mv_lload (pc := 230) B d_Machine_perform_230 1 rfl ?_
            refine mv_callVv (pc := 232) (n := 2) (ci := 9) (C := R_Machine) B (mK_ok sk sv) hNs rfl rfl (c_Machine_work_b l hi _ _ _ qR th sl qT (hg a) (hg (a + 1)) qh (by omega) (by omega) hO hx hx5 u qU (fun q => (hu9 q).1)) rfl (ma_goodc kc_Machine_work) (B.2.2.2.1 _ k_1605) (B.2.2.2.1 _ k_1607) (B.2.2.2.1 _ ks_74) (B.2.2.2.1 _ k_11) ⟨by decide +kernel, by decide +kernel, by decide +kernel⟩ rfl d_Machine_perform_232 rfl (Nat.le_of_ble_eq_true rfl) ⟨by decide, by decide⟩ ⟨by decide, by decide⟩ ⟨by decide, by decide⟩ (mv_noH hno _) (fun σ232 h232 => ?_)
            obtain ⟨f232, d232⟩ := h232
            have go := d232.elim (fun q => ih σ232 (tt + 1) (aa + 1) (a + 1) (u + 1) (by omega) (by omega) w2 (by omega) (qF.tr f232) (by rw [f232.2.2.2.2]; exact qR) (qT.fm f232.fm hP) q.2.2 q.2.1 (by have := hu9 q.1; omega) (by omega)) (fun q => ih σ232 (tt + 1) (aa + 1) (a + 1) u (by omega) (by omega) w2 (by omega) (qF.tr f232) (by rw [f232.2.2.2.2]; exact qR) (qT.fm f232.fm hP) q.2 q.1 (by omega) (by omega))
            refine mv_iinc (pc := 235) (j := 3) (v := 1) B d_Machine_perform_235 rfl (by decide) (by decide) rfl ?_
            refine mv_goto (pc := 238) (tgt := 11) B d_Machine_perform_238 rfl ?_
            refine mv_lpick [0, 1, 4, 5] rfl ?_
            exact go
          refine ⟨fun h64 => ?_, fun h64n309 => ?_⟩
          · skip
            have h64 : dd = 309 := Int32.toInt_inj.mp (show dd.toInt = (309 : Int32).toInt from h64)
            have hO : Op1 th dd ww (hg a) (hg (a + 1)) := by
              rcases hI with q | q | ⟨q, -⟩ | ⟨q, -⟩ | ⟨-, -, -, -, q⟩
              · rw [h64] at q; cases q
              · rw [h64] at q; cases q
              · rw [h64] at q; cases q
              · rw [h64] at q; cases q
              · exact q
            have hx : ¬ dd = 301 ∧ ¬ dd = 304 ∧ ¬ dd = 311 ∧ ¬ dd = 312 := by rw [h64]; decide
            have hx5 : ¬ dd = 315 := by rw [h64]; decide
            have hu9 : dd = 314 → u < 8193 ∧ isSet dd = 1 := fun q => by rw [h64] at q; cases q
            refine mv_aload_n (pc := 227) B d_Machine_perform_227 rfl 4 rfl ?_
            refine mv_iload (pc := 228) B d_Machine_perform_228 2 rfl ?_
            refine mv_lload (pc := 230) B d_Machine_perform_230 1 rfl ?_
            refine mv_callVv (pc := 232) (n := 2) (ci := 9) (C := R_Machine) B (mK_ok sk sv) hNs rfl rfl (c_Machine_work_b l hi _ _ _ qR th sl qT (hg a) (hg (a + 1)) qh (by omega) (by omega) hO hx hx5 u qU (fun q => (hu9 q).1)) rfl (ma_goodc kc_Machine_work) (B.2.2.2.1 _ k_1605) (B.2.2.2.1 _ k_1607) (B.2.2.2.1 _ ks_74) (B.2.2.2.1 _ k_11) ⟨by decide +kernel, by decide +kernel, by decide +kernel⟩ rfl d_Machine_perform_232 rfl (Nat.le_of_ble_eq_true rfl) ⟨by decide, by decide⟩ ⟨by decide, by decide⟩ ⟨by decide, by decide⟩ (mv_noH hno _) (fun σ232 h232 => ?_)
            obtain ⟨f232, d232⟩ := h232
            have go := d232.elim (fun q => ih σ232 (tt + 1) (aa + 1) (a + 1) (u + 1) (by omega) (by omega) w2 (by omega) (qF.tr f232) (by rw [f232.2.2.2.2]; exact qR) (qT.fm f232.fm hP) q.2.2 q.2.1 (by have := hu9 q.1; omega) (by omega)) (fun q => ih σ232 (tt + 1) (aa + 1) (a + 1) u (by omega) (by omega) w2 (by omega) (qF.tr f232) (by rw [f232.2.2.2.2]; exact qR) (qT.fm f232.fm hP) q.2 q.1 (by omega) (by omega))
            refine mv_iinc (pc := 235) (j := 3) (v := 1) B d_Machine_perform_235 rfl (by decide) (by decide) rfl ?_
            refine mv_goto (pc := 238) (tgt := 11) B d_Machine_perform_238 rfl ?_
            refine mv_lpick [0, 1, 4, 5] rfl ?_
            exact go
          refine ⟨fun h64 => ?_, fun h64n310 => ?_⟩
          · skip
            have h64 : dd = 310 := Int32.toInt_inj.mp (show dd.toInt = (310 : Int32).toInt from h64)
            have hO : Op1 th dd ww (hg a) (hg (a + 1)) := by
              rcases hI with q | q | ⟨q, -⟩ | ⟨q, -⟩ | ⟨-, -, -, -, q⟩
              · rw [h64] at q; cases q
              · rw [h64] at q; cases q
              · rw [h64] at q; cases q
              · rw [h64] at q; cases q
              · exact q
            have hx : ¬ dd = 301 ∧ ¬ dd = 304 ∧ ¬ dd = 311 ∧ ¬ dd = 312 := by rw [h64]; decide
            have hx5 : ¬ dd = 315 := by rw [h64]; decide
            have hu9 : dd = 314 → u < 8193 ∧ isSet dd = 1 := fun q => by rw [h64] at q; cases q
            refine mv_aload_n (pc := 227) B d_Machine_perform_227 rfl 4 rfl ?_
            refine mv_iload (pc := 228) B d_Machine_perform_228 2 rfl ?_
            refine mv_lload (pc := 230) B d_Machine_perform_230 1 rfl ?_
            refine mv_callVv (pc := 232) (n := 2) (ci := 9) (C := R_Machine) B (mK_ok sk sv) hNs rfl rfl (c_Machine_work_b l hi _ _ _ qR th sl qT (hg a) (hg (a + 1)) qh (by omega) (by omega) hO hx hx5 u qU (fun q => (hu9 q).1)) rfl (ma_goodc kc_Machine_work) (B.2.2.2.1 _ k_1605) (B.2.2.2.1 _ k_1607) (B.2.2.2.1 _ ks_74) (B.2.2.2.1 _ k_11) ⟨by decide +kernel, by decide +kernel, by decide +kernel⟩ rfl d_Machine_perform_232 rfl (Nat.le_of_ble_eq_true rfl) ⟨by decide, by decide⟩ ⟨by decide, by decide⟩ ⟨by decide, by decide⟩ (mv_noH hno _) (fun σ232 h232 => ?_)
            obtain ⟨f232, d232⟩ := h232
            have go := d232.elim (fun q => ih σ232 (tt + 1) (aa + 1) (a + 1) (u + 1) (by omega) (by omega) w2 (by omega) (qF.tr f232) (by rw [f232.2.2.2.2]; exact qR) (qT.fm f232.fm hP) q.2.2 q.2.1 (by have := hu9 q.1; omega) (by omega)) (fun q => ih σ232 (tt + 1) (aa + 1) (a + 1) u (by omega) (by omega) w2 (by omega) (qF.tr f232) (by rw [f232.2.2.2.2]; exact qR) (qT.fm f232.fm hP) q.2 q.1 (by omega) (by omega))
            refine mv_iinc (pc := 235) (j := 3) (v := 1) B d_Machine_perform_235 rfl (by decide) (by decide) rfl ?_
            refine mv_goto (pc := 238) (tgt := 11) B d_Machine_perform_238 rfl ?_
            refine mv_lpick [0, 1, 4, 5] rfl ?_
            exact go
          refine ⟨fun h64 => ?_, fun h64n311 => ?_⟩
          · skip
            have h64 : dd = 311 := Int32.toInt_inj.mp (show dd.toInt = (311 : Int32).toInt from h64)
            obtain ⟨-, t9, k1, k2, k3, k4⟩ : dd = 311 ∧ ∃ t : Nat, ww.toInt = t ∧ a < t ∧ t ≤ sz ∧ hg t = hg a := by
              rcases hI with q | q | q | ⟨q, -⟩ | ⟨q, -⟩
              · rw [h64] at q; cases q
              · rw [h64] at q; cases q
              · exact q
              · rw [h64] at q; cases q
              · exact absurd h64 q
            have k5 := l2i_nn (x := ww) (by omega) (by omega)
            have k6 := nSet_mono (mv_a σ 57) (show a ≤ t9 by omega)
            have go := ih τ (tt + 1) ww.toInt32 t9 u (by omega) (by omega) (by rw [k5]; exact k1) k3 qF qR qT (by rw [qh, k4]) qU (by omega) (by omega)
            refine mv_lload (pc := 154) B d_Machine_perform_154 1 rfl ?_
            refine mv_l2i (pc := 156) B d_Machine_perform_156 ?_
            refine mv_istore (pc := 157) B d_Machine_perform_157 (by decide) rfl ?_
            refine mv_goto (pc := 159) (tgt := 235) B d_Machine_perform_159 rfl ?_
            refine mv_iinc (pc := 235) (j := 3) (v := 1) B d_Machine_perform_235 rfl (by decide) (by decide) rfl ?_
            refine mv_goto (pc := 238) (tgt := 11) B d_Machine_perform_238 rfl ?_
            refine mv_lpick [0, 1, 4, 5] rfl ?_
            exact go
          refine ⟨fun h64 => ?_, fun h64n312 => ?_⟩
          · skip
            have h64 : dd = 312 := Int32.toInt_inj.mp (show dd.toInt = (312 : Int32).toInt from h64)
            obtain ⟨-, t9, k1, k2, k3, k4, k7⟩ : dd = 312 ∧ ∃ t : Nat, ww.toInt = t ∧ a < t ∧ t ≤ sz ∧ hg a = hg t + 1 ∧ hg (a + 1) = hg t := by
              rcases hI with q | q | ⟨q, -⟩ | q | ⟨-, q, -⟩
              · rw [h64] at q; cases q
              · rw [h64] at q; cases q
              · rw [h64] at q; cases q
              · exact q
              · exact absurd h64 q
            have k5 := l2i_nn (x := ww) (by omega) (by omega)
            have k6 := nSet_mono (mv_a σ 57) (show a ≤ t9 by omega)
            have k8 := sub_one (x := mv_i τ 64 4) (by omega)
            refine mv_aload_n (pc := 162) B d_Machine_perform_162 rfl 4 rfl ?_
            refine mv_dup (pc := 163) B d_Machine_perform_163 rfl ?_
            refine mv_getI (pc := 164) (ci := 9) (C := R_Machine) (T := F_Machine) (N := 13) B 4 rfl rfl (by decide) i_Machine (B.2.2.2.1 _ k_446) rfl d_Machine_perform_164 ?_
            refine mv_iconst (pc := 167) (v := 1) B d_Machine_perform_167 (by decide) ?_
            refine mv_isub (pc := 168) B d_Machine_perform_168 ?_
            refine mv_putI (pc := 169) (ci := 9) (C := R_Machine) (T := F_Machine) (N := 13) B 4 rfl rfl (by decide) i_Machine t_Machine_ok n_Machine (B.2.2.2.1 _ k_446) rfl rfl rfl rfl d_Machine_perform_169 ?_
            refine mv_aload_n (pc := 172) B d_Machine_perform_172 rfl 4 rfl ?_
            refine mv_getR (pc := 173) (ci := 9) (C := R_Machine) (T := F_Machine) (N := 13) B 3 rfl rfl (by decide) i_Machine (B.2.2.2.1 _ k_445) rfl (qR.1 _ 3 _ rfl) d_Machine_perform_173 ?_
            refine mv_aload_n (pc := 176) B d_Machine_perform_176 rfl 4 rfl ?_
            refine mv_getI (pc := 177) (ci := 9) (C := R_Machine) (T := F_Machine) (N := 13) B 4 rfl rfl (by decide) i_Machine (B.2.2.2.1 _ k_446) rfl d_Machine_perform_177 ?_
            refine mv_lald (pc := 180) B rfl (i32_in (show 0 ≤ (mv_i τ 64 4 - 1).toInt by omega) (show (mv_i τ 64 4 - 1).toInt < 1024 by omega)) d_Machine_perform_180 ?_
            refine mv_lconst (pc := 181) (v := 0) B d_Machine_perform_181 (by decide) ?_
            refine mv_lcmp (pc := 182) B d_Machine_perform_182 ?_
            refine mv_if_ne (pc := 183) (tgt := 192) B d_Machine_perform_183 rfl (fun h183 => ?_) (fun h183 => ?_)
            · skip
              have go := ih (mv_si τ 64 4 (mv_i τ 64 4 - 1)) (tt + 1) (aa + 1) (a + 1) u (by omega) (by omega) w2 (by omega) (qF.si ⟨rfl, Or.inl rfl⟩) qR qT (show (mv_i τ 64 4 - 1).toInt = _ by omega) qU (by omega) (by omega)
              refine mv_iload (pc := 192) B d_Machine_perform_192 0 rfl ?_
              refine mv_istore (pc := 194) B d_Machine_perform_194 (by decide) rfl ?_
              refine mv_goto (pc := 196) (tgt := 235) B d_Machine_perform_196 rfl ?_
              refine mv_iinc (pc := 235) (j := 3) (v := 1) B d_Machine_perform_235 rfl (by decide) (by decide) rfl ?_
              refine mv_goto (pc := 238) (tgt := 11) B d_Machine_perform_238 rfl ?_
              refine mv_lpick [0, 1, 4, 5] rfl ?_
              exact go
            · skip
              have go := ih (mv_si τ 64 4 (mv_i τ 64 4 - 1)) (tt + 1) ww.toInt32 t9 u (by omega) (by omega) (by rw [k5]; exact k1) k3 (qF.si ⟨rfl, Or.inl rfl⟩) qR qT (show (mv_i τ 64 4 - 1).toInt = _ by omega) qU (by omega) (by omega)
              refine mv_lload (pc := 186) B d_Machine_perform_186 1 rfl ?_
              refine mv_l2i (pc := 188) B d_Machine_perform_188 ?_
              refine mv_goto (pc := 189) (tgt := 194) B d_Machine_perform_189 rfl ?_
              refine mv_istore (pc := 194) B d_Machine_perform_194 (by decide) rfl ?_
              refine mv_goto (pc := 196) (tgt := 235) B d_Machine_perform_196 rfl ?_
              refine mv_iinc (pc := 235) (j := 3) (v := 1) B d_Machine_perform_235 rfl (by decide) (by decide) rfl ?_
              refine mv_goto (pc := 238) (tgt := 11) B d_Machine_perform_238 rfl ?_
              refine mv_lpick [0, 1, 4, 5] rfl ?_
              exact go
          refine ⟨fun h64 => ?_, fun h64n313 => ?_⟩
          · skip
            have h64 : dd = 313 := Int32.toInt_inj.mp (show dd.toInt = (313 : Int32).toInt from h64)
            have hO : Op1 th dd ww (hg a) (hg (a + 1)) := by
              rcases hI with q | q | ⟨q, -⟩ | ⟨q, -⟩ | ⟨-, -, -, -, q⟩
              · rw [h64] at q; cases q
              · rw [h64] at q; cases q
              · rw [h64] at q; cases q
              · rw [h64] at q; cases q
              · exact q
            have hx : ¬ dd = 301 ∧ ¬ dd = 304 ∧ ¬ dd = 311 ∧ ¬ dd = 312 := by rw [h64]; decide
            have hx5 : ¬ dd = 315 := by rw [h64]; decide
            have hu9 : dd = 314 → u < 8193 ∧ isSet dd = 1 := fun q => by rw [h64] at q; cases q
            refine mv_aload_n (pc := 227) B d_Machine_perform_227 rfl 4 rfl ?_
            refine mv_iload (pc := 228) B d_Machine_perform_228 2 rfl ?_
            refine mv_lload (pc := 230) B d_Machine_perform_230 1 rfl ?_
            refine mv_callVv (pc := 232) (n := 2) (ci := 9) (C := R_Machine) B (mK_ok sk sv) hNs rfl rfl (c_Machine_work_b l hi _ _ _ qR th sl qT (hg a) (hg (a + 1)) qh (by omega) (by omega) hO hx hx5 u qU (fun q => (hu9 q).1)) rfl (ma_goodc kc_Machine_work) (B.2.2.2.1 _ k_1605) (B.2.2.2.1 _ k_1607) (B.2.2.2.1 _ ks_74) (B.2.2.2.1 _ k_11) ⟨by decide +kernel, by decide +kernel, by decide +kernel⟩ rfl d_Machine_perform_232 rfl (Nat.le_of_ble_eq_true rfl) ⟨by decide, by decide⟩ ⟨by decide, by decide⟩ ⟨by decide, by decide⟩ (mv_noH hno _) (fun σ232 h232 => ?_)
            obtain ⟨f232, d232⟩ := h232
            have go := d232.elim (fun q => ih σ232 (tt + 1) (aa + 1) (a + 1) (u + 1) (by omega) (by omega) w2 (by omega) (qF.tr f232) (by rw [f232.2.2.2.2]; exact qR) (qT.fm f232.fm hP) q.2.2 q.2.1 (by have := hu9 q.1; omega) (by omega)) (fun q => ih σ232 (tt + 1) (aa + 1) (a + 1) u (by omega) (by omega) w2 (by omega) (qF.tr f232) (by rw [f232.2.2.2.2]; exact qR) (qT.fm f232.fm hP) q.2 q.1 (by omega) (by omega))
            refine mv_iinc (pc := 235) (j := 3) (v := 1) B d_Machine_perform_235 rfl (by decide) (by decide) rfl ?_
            refine mv_goto (pc := 238) (tgt := 11) B d_Machine_perform_238 rfl ?_
            refine mv_lpick [0, 1, 4, 5] rfl ?_
            exact go
          refine ⟨fun h64 => ?_, fun h64n314 => ?_⟩
          · skip
            have h64 : dd = 314 := Int32.toInt_inj.mp (show dd.toInt = (314 : Int32).toInt from h64)
            have hO : Op1 th dd ww (hg a) (hg (a + 1)) := by
              rcases hI with q | q | ⟨q, -⟩ | ⟨q, -⟩ | ⟨-, -, -, -, q⟩
              · rw [h64] at q; cases q
              · rw [h64] at q; cases q
              · rw [h64] at q; cases q
              · rw [h64] at q; cases q
              · exact q
            have hx : ¬ dd = 301 ∧ ¬ dd = 304 ∧ ¬ dd = 311 ∧ ¬ dd = 312 := by rw [h64]; decide
            have hx5 : ¬ dd = 315 := by rw [h64]; decide
            have hu9 : dd = 314 → u < 8193 ∧ isSet dd = 1 := fun q => by have o6 : isSet dd = 1 := by { rw [q]; decide }; omega
            refine mv_aload_n (pc := 227) B d_Machine_perform_227 rfl 4 rfl ?_
            refine mv_iload (pc := 228) B d_Machine_perform_228 2 rfl ?_
            refine mv_lload (pc := 230) B d_Machine_perform_230 1 rfl ?_
            refine mv_callVv (pc := 232) (n := 2) (ci := 9) (C := R_Machine) B (mK_ok sk sv) hNs rfl rfl (c_Machine_work_b l hi _ _ _ qR th sl qT (hg a) (hg (a + 1)) qh (by omega) (by omega) hO hx hx5 u qU (fun q => (hu9 q).1)) rfl (ma_goodc kc_Machine_work) (B.2.2.2.1 _ k_1605) (B.2.2.2.1 _ k_1607) (B.2.2.2.1 _ ks_74) (B.2.2.2.1 _ k_11) ⟨by decide +kernel, by decide +kernel, by decide +kernel⟩ rfl d_Machine_perform_232 rfl (Nat.le_of_ble_eq_true rfl) ⟨by decide, by decide⟩ ⟨by decide, by decide⟩ ⟨by decide, by decide⟩ (mv_noH hno _) (fun σ232 h232 => ?_)
            obtain ⟨f232, d232⟩ := h232
            have go := d232.elim (fun q => ih σ232 (tt + 1) (aa + 1) (a + 1) (u + 1) (by omega) (by omega) w2 (by omega) (qF.tr f232) (by rw [f232.2.2.2.2]; exact qR) (qT.fm f232.fm hP) q.2.2 q.2.1 (by have := hu9 q.1; omega) (by omega)) (fun q => ih σ232 (tt + 1) (aa + 1) (a + 1) u (by omega) (by omega) w2 (by omega) (qF.tr f232) (by rw [f232.2.2.2.2]; exact qR) (qT.fm f232.fm hP) q.2 q.1 (by omega) (by omega))
            refine mv_iinc (pc := 235) (j := 3) (v := 1) B d_Machine_perform_235 rfl (by decide) (by decide) rfl ?_
            refine mv_goto (pc := 238) (tgt := 11) B d_Machine_perform_238 rfl ?_
            refine mv_lpick [0, 1, 4, 5] rfl ?_
            exact go
          refine ⟨fun h64 => ?_, fun h64n315 => ?_⟩
          · skip
            have h64 : dd = 315 := Int32.toInt_inj.mp (show dd.toInt = (315 : Int32).toInt from h64)
            have hO : Op1 th dd ww (hg a) (hg (a + 1)) := by
              rcases hI with q | q | ⟨q, -⟩ | ⟨q, -⟩ | ⟨-, -, -, -, q⟩
              · rw [h64] at q; cases q
              · rw [h64] at q; cases q
              · rw [h64] at q; cases q
              · rw [h64] at q; cases q
              · exact q
            subst h64
            have o1 : 2 ≤ hg a := hO.1
            have o2 : hg (a + 1) + 2 = hg a + 0 := hO.2.1
            have o3 := hO.2.2.2.2 (by decide)
            have o4 := l2i_nn o3.1 (by omega)
            have o5 : ww.toInt32.toInt = ww.toInt.toNat := by rw [o4]; omega
            have o6 : isSet (315 : Int32) = 1 := by decide
            have p15 : (315 : Int32) = 315 → hg (a + 1) + 2 = hg a ∧ isSet (315 : Int32) = 1 := fun _ => ⟨by omega, o6⟩
            have p04 : ¬ (315 : Int32) = 315 → hg (a + 1) = hg a := fun q => absurd rfl q
            have hd9 : ((315 : Int32) = 315 ∧ 2 ≤ hg a ∧ u < 8193) ∨ (¬ (315 : Int32) = 315 ∧ 1 ≤ hg a) := Or.inl ⟨rfl, o1, by omega⟩
            refine mv_aload_n (pc := 212) B d_Machine_perform_212 rfl 4 rfl ?_
            refine mv_iload (pc := 213) B d_Machine_perform_213 2 rfl ?_
            refine mv_lload (pc := 215) B d_Machine_perform_215 1 rfl ?_
            refine mv_l2i (pc := 217) B d_Machine_perform_217 ?_
            refine mv_callVi (pc := 218) (n := 2) (ci := 9) (C := R_Machine) B (mK_ok sk sv) hNs rfl rfl (c_Machine_ofCell_b l hi _ _ _ qR th sl qT ww.toInt.toNat o5 (by omega) (hg a) qh (by omega) u qU hd9) rfl (ma_goodc kc_Machine_ofCell) (B.2.2.2.1 _ k_1588) (B.2.2.2.1 _ k_1590) (B.2.2.2.1 _ ks_71) (B.2.2.2.1 _ k_11) ⟨by decide +kernel, by decide +kernel, by decide +kernel⟩ rfl d_Machine_perform_218 rfl (Nat.le_of_ble_eq_true rfl) ⟨by decide, by decide⟩ ⟨by decide, by decide⟩ ⟨by decide, by decide⟩ (mv_noH hno _) (fun v218 σ218 h218 => ?_)
            obtain ⟨f218, d218⟩ := h218
            refine mv_if_ne (pc := 221) (tgt := 235) B d_Machine_perform_221 rfl (fun h221 => ?_) (fun h221 => ?_)
            · skip
              have d218 := d218.resolve_left (fun q => h221 q.1)
              have go := d218.2.elim (fun q => ih σ218 (tt + 1) (aa + 1) (a + 1) (u + 1) (by omega) (by omega) w2 (by omega) (qF.tr f218) (by rw [f218.2.2.2.2]; exact qR) (qT.fm f218.fm hP) (by have := p15 q.1; have := q.2.2; omega) q.2.1 (by have := p15 q.1; omega) (by omega)) (fun q => ih σ218 (tt + 1) (aa + 1) (a + 1) u (by omega) (by omega) w2 (by omega) (qF.tr f218) (by rw [f218.2.2.2.2]; exact qR) (qT.fm f218.fm hP) (by have := p04 q.1; have := q.2.2; omega) q.2.1 (by omega) (by omega))
              refine mv_iinc (pc := 235) (j := 3) (v := 1) B d_Machine_perform_235 rfl (by decide) (by decide) rfl ?_
              refine mv_goto (pc := 238) (tgt := 11) B d_Machine_perform_238 rfl ?_
              refine mv_lpick [0, 1, 4, 5] rfl ?_
              exact go
            · skip
              have d218u : Un σ218 u := d218.elim (fun q => q.2) (fun q => absurd (q.1 ▸ h221) (by decide))
              refine mv_bipush (pc := 224) (v := -3) B d_Machine_perform_224 (by decide) ?_
              exact mv_iret (pc := 226) B hr rfl d_Machine_perform_226 (Nat.le_refl _) (Nat.le_refl _) ⟨_, rfl, qF.tr f218, u, d218u⟩
          refine ⟨fun h64 => ?_, fun h64n316 => ?_⟩
          · skip
            have h64 : dd = 316 := Int32.toInt_inj.mp (show dd.toInt = (316 : Int32).toInt from h64)
            refine mv_lload (pc := 150) B d_Machine_perform_150 1 rfl ?_
            refine mv_l2i (pc := 152) B d_Machine_perform_152 ?_
            exact mv_iret (pc := 153) B hr rfl d_Machine_perform_153 (Nat.le_refl _) (Nat.le_refl _) ⟨_, rfl, qF, u, qU⟩
          refine ⟨fun h64 => ?_, fun h64n317 => ?_⟩
          · skip
            have h64 : dd = 317 := Int32.toInt_inj.mp (show dd.toInt = (317 : Int32).toInt from h64)
            refine mv_iconst (pc := 148) (v := 0) B d_Machine_perform_148 (by decide) ?_
            exact mv_iret (pc := 149) B hr rfl d_Machine_perform_149 (Nat.le_refl _) (Nat.le_refl _) ⟨_, rfl, qF, u, qU⟩
          show mv_V _ _ _ _ _ _ _ _ _ _ _ _ _ _ _ _ 227 _ _
          have n301 : ¬ dd = 301 := fun q => h64n301 (by rw [q]; rfl)
          have n302 : ¬ dd = 302 := fun q => h64n302 (by rw [q]; rfl)
          have n303 : ¬ dd = 303 := fun q => h64n303 (by rw [q]; rfl)
          have n304 : ¬ dd = 304 := fun q => h64n304 (by rw [q]; rfl)
          have n305 : ¬ dd = 305 := fun q => h64n305 (by rw [q]; rfl)
          have n306 : ¬ dd = 306 := fun q => h64n306 (by rw [q]; rfl)
          have n307 : ¬ dd = 307 := fun q => h64n307 (by rw [q]; rfl)
          have n308 : ¬ dd = 308 := fun q => h64n308 (by rw [q]; rfl)
          have n309 : ¬ dd = 309 := fun q => h64n309 (by rw [q]; rfl)
          have n310 : ¬ dd = 310 := fun q => h64n310 (by rw [q]; rfl)
          have n311 : ¬ dd = 311 := fun q => h64n311 (by rw [q]; rfl)
          have n312 : ¬ dd = 312 := fun q => h64n312 (by rw [q]; rfl)
          have n313 : ¬ dd = 313 := fun q => h64n313 (by rw [q]; rfl)
          have n314 : ¬ dd = 314 := fun q => h64n314 (by rw [q]; rfl)
          have n315 : ¬ dd = 315 := fun q => h64n315 (by rw [q]; rfl)
          have n316 : ¬ dd = 316 := fun q => h64n316 (by rw [q]; rfl)
          have n317 : ¬ dd = 317 := fun q => h64n317 (by rw [q]; rfl)
          have hO : Op1 th dd ww (hg a) (hg (a + 1)) := by
            rcases hI with q | q | ⟨q, -⟩ | ⟨q, -⟩ | ⟨-, -, -, -, q⟩
            · exact absurd q n316
            · exact absurd q n317
            · exact absurd q n311
            · exact absurd q n312
            · exact q
          have hx : ¬ dd = 301 ∧ ¬ dd = 304 ∧ ¬ dd = 311 ∧ ¬ dd = 312 := ⟨n301, n304, n311, n312⟩
          have hx5 : ¬ dd = 315 := n315
          have hu9 : dd = 314 → u < 8193 ∧ isSet dd = 1 := fun q => absurd q n314
          refine mv_aload_n (pc := 227) B d_Machine_perform_227 rfl 4 rfl ?_
          refine mv_iload (pc := 228) B d_Machine_perform_228 2 rfl ?_
          refine mv_lload (pc := 230) B d_Machine_perform_230 1 rfl ?_
          refine mv_callVv (pc := 232) (n := 2) (ci := 9) (C := R_Machine) B (mK_ok sk sv) hNs rfl rfl (c_Machine_work_b l hi _ _ _ qR th sl qT (hg a) (hg (a + 1)) qh (by omega) (by omega) hO hx hx5 u qU (fun q => (hu9 q).1)) rfl (ma_goodc kc_Machine_work) (B.2.2.2.1 _ k_1605) (B.2.2.2.1 _ k_1607) (B.2.2.2.1 _ ks_74) (B.2.2.2.1 _ k_11) ⟨by decide +kernel, by decide +kernel, by decide +kernel⟩ rfl d_Machine_perform_232 rfl (Nat.le_of_ble_eq_true rfl) ⟨by decide, by decide⟩ ⟨by decide, by decide⟩ ⟨by decide, by decide⟩ (mv_noH hno _) (fun σ232 h232 => ?_)
          obtain ⟨f232, d232⟩ := h232
          have go := d232.elim (fun q => ih σ232 (tt + 1) (aa + 1) (a + 1) (u + 1) (by omega) (by omega) w2 (by omega) (qF.tr f232) (by rw [f232.2.2.2.2]; exact qR) (qT.fm f232.fm hP) q.2.2 q.2.1 (by have := hu9 q.1; omega) (by omega)) (fun q => ih σ232 (tt + 1) (aa + 1) (a + 1) u (by omega) (by omega) w2 (by omega) (qF.tr f232) (by rw [f232.2.2.2.2]; exact qR) (qT.fm f232.fm hP) q.2 q.1 (by omega) (by omega))
          refine mv_iinc (pc := 235) (j := 3) (v := 1) B d_Machine_perform_235 rfl (by decide) (by decide) rfl ?_
          refine mv_goto (pc := 238) (tgt := 11) B d_Machine_perform_238 rfl ?_
          refine mv_lpick [0, 1, 4, 5] rfl ?_
          exact go
  refine mv_aload_n (pc := 0) B d_Machine_perform_0 rfl 0 rfl ?_
  refine mv_iconst (pc := 1) (v := 0) B d_Machine_perform_1 (by decide) ?_
  refine mv_putI (pc := 2) (ci := 9) (C := R_Machine) (T := F_Machine) (N := 13) B 4 rfl rfl (by decide) i_Machine t_Machine_ok n_Machine (B.2.2.2.1 _ k_446) rfl rfl rfl rfl d_Machine_perform_2 ?_
  refine mv_iload_n (pc := 5) B d_Machine_perform_5 rfl 1 rfl ?_
  refine mv_istore (pc := 6) B d_Machine_perform_6 (by decide) rfl ?_
  refine mv_iconst (pc := 8) (v := 0) B d_Machine_perform_8 (by decide) ?_
  refine mv_istore (pc := 9) B d_Machine_perform_9 (by decide) rfl ?_
  refine mv_lpick [0, 1, 2, 4] rfl ?_
  exact lp _ _ _ _ n9 0 (by decide) (by show (0 : Int) ≤ sz; omega) hst hn1 (MF0.si ⟨rfl, Or.inl rfl⟩) hR hT (show (0 : Int) = hg n9 by omega) hU (Nat.zero_le _) (Nat.lt_succ_self _)
set_option maxHeartbeats 4000000 in
set_option maxRecDepth 100000 in
theorem c_Machine_perform_c (l : Launch) {dA : FieldType → ClassId} {D : va_G} {al : Nat → Nat} {sk sv : Nat → Nat} (hi : mv_inj (mg dA D al me)) (σ : mv_H) (st9 : Int32) (w9 : Int64) (hR : Rf 145 (mv_r σ)) (th sl : Nat) (hT : Th 145 σ th sl) (hg : Nat → Nat) (sz : Nat) (hsz : (mv_i σ 145 17).toInt = sz) (hszR : sz ≤ 8192) (hg1 : ∀ a, hg a ≤ 1000) (hC : ∀ a, a < sz → Ins th sz hg a (mv_a σ 154 a) (mv_b σ 155 a)) (n9 : Nat) (hst : st9.toInt = n9) (hn1 : n9 ≤ sz) (hn2 : hg n9 = 0) (hns : nSet (mv_a σ 154) sz ≤ 8193) (hU : Un σ 0) : mv_C l y_Machine_perform (Cond.code y_Machine_perform b_Machine_perform 9 (Option.some Jvm.ClassFile.FieldType.int) :: ma) ({ frames := 4, cells := 0, slots := 0, locals := 101 }) (mg dA D al me) (mK sk sv) [.ref (al 64), .int st9, .long w9] σ (mv_Ri (fun v σ1 => MF σ σ1 ∧ ∃ u, Un σ1 u)) := by
  refine mv_C.ofV (cc := b_Machine_perform) (nL := 9) (ret := (Option.some Jvm.ClassFile.FieldType.int)) (by decide +kernel) rfl hi (Nat.le_of_ble_eq_true rfl) ?_
  intro p e s m below meth c B hNs hr hnm hno
  have hP : PP 145 := by unfold PP; omega
  have ht64 := hT.2.1
  have lp : ∀ (nn : Nat) (τ : mv_H) (tt : Int32) (aa : Int32) (a : Nat) (u : Nat) (q0 : 0 ≤ tt.toInt) (qtz : tt.toInt ≤ sz) (qa : aa.toInt = a) (qaz : a ≤ sz) (qF : MF σ τ) (qR : Rf 145 (mv_r τ)) (qT : Th 145 τ th sl) (qh : (mv_i τ 64 4).toInt = hg a) (qU : Un τ u) (qu : u ≤ nSet (mv_a σ 154) a), sz - a < nn → mv_V p l e ({ frames := 4, cells := 0, slots := 0, locals := 101 }) s m ([.ref (al 64), .int st9, .long w9] : List Value).toArray below meth c (mg dA D al me) 9 0 0 (mv_Q (mg dA D al me) below s 0 0 (mv_Ri (fun v σ1 => MF σ σ1 ∧ ∃ u, Un σ1 u))) τ 11 [(5, .int tt), (4, .int aa), (0, .ref (al 64)), (2, .long w9)] [] := by
    intro nn
    induction nn with
    | zero => intro τ tt aa a u q0 qtz qa qaz qF qR qT qh qU qu hm; exact absurd hm (Nat.not_lt_zero _)
    | succ nn ih =>
      intro τ tt aa a u q0 qtz qa qaz qF qR qT qh qU qu hm
      have e17 : (mv_i τ 145 17).toInt = sz := by rw [qF.1 _ _ (by decide)]; exact hsz
      refine mv_iload (pc := 11) B d_Machine_perform_11 0 rfl ?_
      refine mv_aload_n (pc := 13) B d_Machine_perform_13 rfl 2 rfl ?_
      refine mv_getR (pc := 14) (ci := 9) (C := R_Machine) (T := F_Machine) (N := 13) B 0 rfl rfl (by decide) i_Machine (B.2.2.2.1 _ k_440) rfl qR.2.2 d_Machine_perform_14 ?_
      refine mv_getI (pc := 17) (ci := 7) (C := R_Program) (T := F_Program) (N := 19) B 17 rfl rfl (by decide) i_Program (B.2.2.2.1 _ k_362) rfl d_Machine_perform_17 ?_
      refine mv_icmp_ge (pc := 20) (tgt := 241) B d_Machine_perform_20 rfl (fun h20 => ?_) (fun h20 => ?_)
      · skip
        skip
        refine mv_iconst (pc := 241) (v := 0) B d_Machine_perform_241 (by decide) ?_
        exact mv_iret (pc := 242) B hr rfl d_Machine_perform_242 (Nat.le_refl _) (Nat.le_refl _) ⟨_, rfl, qF, u, qU⟩
      · skip
        rw [Int32.le_iff_toInt_le] at h20
        rw [e17] at h20
        refine mv_iload (pc := 23) B d_Machine_perform_23 1 rfl ?_
        refine mv_aload_n (pc := 25) B d_Machine_perform_25 rfl 2 rfl ?_
        refine mv_getR (pc := 26) (ci := 9) (C := R_Machine) (T := F_Machine) (N := 13) B 0 rfl rfl (by decide) i_Machine (B.2.2.2.1 _ k_440) rfl qR.2.2 d_Machine_perform_26 ?_
        refine mv_getI (pc := 29) (ci := 7) (C := R_Program) (T := F_Program) (N := 19) B 17 rfl rfl (by decide) i_Program (B.2.2.2.1 _ k_362) rfl d_Machine_perform_29 ?_
        refine mv_icmp_ge (pc := 32) (tgt := 241) B d_Machine_perform_32 rfl (fun h32 => ?_) (fun h32 => ?_)
        · skip
          skip
          refine mv_iconst (pc := 241) (v := 0) B d_Machine_perform_241 (by decide) ?_
          exact mv_iret (pc := 242) B hr rfl d_Machine_perform_242 (Nat.le_refl _) (Nat.le_refl _) ⟨_, rfl, qF, u, qU⟩
        · skip
          rw [Int32.le_iff_toInt_le] at h32
          rw [e17] at h32
          have eaa := i32_cl (x := aa) (by omega)
          have za : aa.toNatClampNeg = a := by omega
          have hI := hC a (by omega)
          have w2 : (aa + 1).toInt = ((a + 1 : Nat) : Int) := by rw [i32_inc (by omega)]; omega
          have t2 : (tt + 1).toInt = tt.toInt + 1 := i32_inc (by omega)
          have ed : mv_a τ 154 aa.toNatClampNeg = mv_a σ 154 a := by rw [za, qF.2.1 _ (by decide)]
          have ew : mv_b τ 155 aa.toNatClampNeg = mv_b σ 155 a := by rw [za, qF.2.2.1 _ (by decide)]
          have hz1 : nSet (mv_a σ 154) (a + 1) = nSet (mv_a σ 154) a + isSet (mv_a σ 154 a) := rfl
          have hz2 := nSet_mono (mv_a σ 154) (show a + 1 ≤ sz by omega)
          have hga := hg1 a
          have hga1 := hg1 (a + 1)
          refine mv_aload_n (pc := 35) B d_Machine_perform_35 rfl 2 rfl ?_
          refine mv_getR (pc := 36) (ci := 9) (C := R_Machine) (T := F_Machine) (N := 13) B 0 rfl rfl (by decide) i_Machine (B.2.2.2.1 _ k_440) rfl qR.2.2 d_Machine_perform_36 ?_
          refine mv_getR (pc := 39) (ci := 7) (C := R_Program) (T := F_Program) (N := 19) B 15 rfl rfl (by decide) i_Program (B.2.2.2.1 _ k_358) rfl (qR.2.1 _ 15 154 rfl) d_Machine_perform_39 ?_
          refine mv_iload (pc := 42) B d_Machine_perform_42 1 rfl ?_
          refine mv_iald (pc := 44) B rfl (i32_in (by omega) (by omega)) d_Machine_perform_44 ?_
          refine mv_istore (pc := 45) B d_Machine_perform_45 (by decide) rfl ?_
          refine mv_aload_n (pc := 47) B d_Machine_perform_47 rfl 3 rfl ?_
          refine mv_getR (pc := 48) (ci := 9) (C := R_Machine) (T := F_Machine) (N := 13) B 0 rfl rfl (by decide) i_Machine (B.2.2.2.1 _ k_440) rfl qR.2.2 d_Machine_perform_48 ?_
          refine mv_getR (pc := 51) (ci := 7) (C := R_Program) (T := F_Program) (N := 19) B 16 rfl rfl (by decide) i_Program (B.2.2.2.1 _ k_360) rfl (qR.2.1 _ 16 155 rfl) d_Machine_perform_51 ?_
          refine mv_iload (pc := 54) B d_Machine_perform_54 2 rfl ?_
          refine mv_lald (pc := 56) B rfl (i32_in (by omega) (by omega)) d_Machine_perform_56 ?_
          refine mv_lstore (pc := 57) B d_Machine_perform_57 (by decide) rfl ?_
          rw [ed, ew]
          obtain ⟨dd, hdd⟩ : ∃ d, d = mv_a σ 154 a := ⟨_, rfl⟩
          obtain ⟨ww, hww⟩ : ∃ d, d = mv_b σ 155 a := ⟨_, rfl⟩
          rw [← hdd, ← hww] at hI
          rw [← hdd] at hz1
          rw [← hdd, ← hww]
          clear ed ew hdd hww
          refine mv_iinc (pc := 59) (j := 3) (v := 1) B d_Machine_perform_59 rfl (by decide) (by decide) rfl ?_
          refine mv_iload (pc := 62) B d_Machine_perform_62 2 rfl ?_
          refine mv_tsw (pc := 64) B d_Machine_perform_64 (by decide) (by decide) ?_
          refine ⟨fun h64 => ?_, fun h64n301 => ?_⟩
          · skip
            have h64 : dd = 301 := Int32.toInt_inj.mp (show dd.toInt = (301 : Int32).toInt from h64)
            have hO : Op1 th dd ww (hg a) (hg (a + 1)) := by
              rcases hI with q | q | ⟨q, -⟩ | ⟨q, -⟩ | ⟨-, -, -, -, q⟩
              · rw [h64] at q; cases q
              · rw [h64] at q; cases q
              · rw [h64] at q; cases q
              · rw [h64] at q; cases q
              · exact q
            subst h64
            have o1 : 0 ≤ hg a := hO.1
            have o2 : hg (a + 1) + 0 = hg a + 1 := hO.2.1
            refine mv_aload_n (pc := 199) B d_Machine_perform_199 rfl 4 rfl ?_
            refine mv_lload_n (pc := 200) B d_Machine_perform_200 rfl 5 rfl ?_
            refine mv_lload (pc := 201) B d_Machine_perform_201 1 rfl ?_
            refine mv_callSl (pc := 203) (n := 2) B (mK_ok sk sv) hNs (c_Bits_gather l hi _ _ _) rfl (ma_goodc kc_Bits_gather) (B.2.2.2.1 _ k_1581) (B.2.2.2.1 _ k_1582) (B.2.2.2.1 _ k_33) ⟨by decide +kernel, by decide +kernel, by decide +kernel⟩ rfl d_Machine_perform_203 rfl (Nat.le_of_ble_eq_true rfl) ⟨by decide, by decide⟩ ⟨by decide, by decide⟩ ⟨by decide, by decide⟩ (mv_noH hno _) (fun v203 σ203 h203 => ?_)
            have h203 := h203.symm
            subst h203
            refine mv_callVv (pc := 206) (n := 1) (ci := 9) (C := R_Machine) B (mK_ok sk sv) hNs rfl rfl (c_Machine_push_c l hi _ _ qR (by omega) (by omega)) rfl (ma_goodc kc_Machine_push) (B.2.2.2.1 _ k_1584) (B.2.2.2.1 _ k_1586) (B.2.2.2.1 _ ks_70) (B.2.2.2.1 _ k_11) ⟨by decide +kernel, by decide +kernel, by decide +kernel⟩ rfl d_Machine_perform_206 rfl (Nat.le_of_ble_eq_true rfl) ⟨by decide, by decide⟩ ⟨by decide, by decide⟩ ⟨by decide, by decide⟩ (mv_noH hno _) (fun σ206 h206 => ?_)
            subst h206
            have go := ih (mc_push τ v203) (tt + 1) (aa + 1) (a + 1) u (by omega) (by omega) w2 (by omega) ((qF.sb (Or.inr (Or.inr (Or.inl rfl)))).si ⟨rfl, Or.inl rfl⟩) qR qT (show (mv_i τ 64 4 + 1).toInt = _ by rw [i32_inc (by omega)]; omega) qU (by omega) (by omega)
            refine mv_goto (pc := 209) (tgt := 235) B d_Machine_perform_209 rfl ?_
            refine mv_iinc (pc := 235) (j := 3) (v := 1) B d_Machine_perform_235 rfl (by decide) (by decide) rfl ?_
            refine mv_goto (pc := 238) (tgt := 11) B d_Machine_perform_238 rfl ?_
            refine mv_lpick [0, 1, 4, 5] rfl ?_
            exact go
          refine ⟨fun h64 => ?_, fun h64n302 => ?_⟩
          · skip
            have h64 : dd = 302 := Int32.toInt_inj.mp (show dd.toInt = (302 : Int32).toInt from h64)
            have hO : Op1 th dd ww (hg a) (hg (a + 1)) := by
              rcases hI with q | q | ⟨q, -⟩ | ⟨q, -⟩ | ⟨-, -, -, -, q⟩
              · rw [h64] at q; cases q
              · rw [h64] at q; cases q
              · rw [h64] at q; cases q
              · rw [h64] at q; cases q
              · exact q
            have hx : ¬ dd = 301 ∧ ¬ dd = 304 ∧ ¬ dd = 311 ∧ ¬ dd = 312 := by rw [h64]; decide
            have hx5 : ¬ dd = 315 := by rw [h64]; decide
            have hu9 : dd = 314 → u < 8193 ∧ isSet dd = 1 := fun q => by rw [h64] at q; cases q
            refine mv_aload_n (pc := 227) B d_Machine_perform_227 rfl 4 rfl ?_
            refine mv_iload (pc := 228) B d_Machine_perform_228 2 rfl ?_
            refine mv_lload (pc := 230) B d_Machine_perform_230 1 rfl ?_
            refine mv_callVv (pc := 232) (n := 2) (ci := 9) (C := R_Machine) B (mK_ok sk sv) hNs rfl rfl (c_Machine_work_c l hi _ _ _ qR th sl qT (hg a) (hg (a + 1)) qh (by omega) (by omega) hO hx hx5 u qU (fun q => (hu9 q).1)) rfl (ma_goodc kc_Machine_work) (B.2.2.2.1 _ k_1605) (B.2.2.2.1 _ k_1607) (B.2.2.2.1 _ ks_74) (B.2.2.2.1 _ k_11) ⟨by decide +kernel, by decide +kernel, by decide +kernel⟩ rfl d_Machine_perform_232 rfl (Nat.le_of_ble_eq_true rfl) ⟨by decide, by decide⟩ ⟨by decide, by decide⟩ ⟨by decide, by decide⟩ (mv_noH hno _) (fun σ232 h232 => ?_)
            obtain ⟨f232, d232⟩ := h232
            have go := d232.elim (fun q => ih σ232 (tt + 1) (aa + 1) (a + 1) (u + 1) (by omega) (by omega) w2 (by omega) (qF.tr f232) (by rw [f232.2.2.2.2]; exact qR) (qT.fm f232.fm hP) q.2.2 q.2.1 (by have := hu9 q.1; omega) (by omega)) (fun q => ih σ232 (tt + 1) (aa + 1) (a + 1) u (by omega) (by omega) w2 (by omega) (qF.tr f232) (by rw [f232.2.2.2.2]; exact qR) (qT.fm f232.fm hP) q.2 q.1 (by omega) (by omega))
            refine mv_iinc (pc := 235) (j := 3) (v := 1) B d_Machine_perform_235 rfl (by decide) (by decide) rfl ?_
            refine mv_goto (pc := 238) (tgt := 11) B d_Machine_perform_238 rfl ?_
            refine mv_lpick [0, 1, 4, 5] rfl ?_
            exact go
          refine ⟨fun h64 => ?_, fun h64n303 => ?_⟩
          · skip
            have h64 : dd = 303 := Int32.toInt_inj.mp (show dd.toInt = (303 : Int32).toInt from h64)
            have hO : Op1 th dd ww (hg a) (hg (a + 1)) := by
              rcases hI with q | q | ⟨q, -⟩ | ⟨q, -⟩ | ⟨-, -, -, -, q⟩
              · rw [h64] at q; cases q
              · rw [h64] at q; cases q
              · rw [h64] at q; cases q
              · rw [h64] at q; cases q
              · exact q
            have hx : ¬ dd = 301 ∧ ¬ dd = 304 ∧ ¬ dd = 311 ∧ ¬ dd = 312 := by rw [h64]; decide
            have hx5 : ¬ dd = 315 := by rw [h64]; decide
            have hu9 : dd = 314 → u < 8193 ∧ isSet dd = 1 := fun q => by rw [h64] at q; cases q
            refine mv_aload_n (pc := 227) B d_Machine_perform_227 rfl 4 rfl ?_
            refine mv_iload (pc := 228) B d_Machine_perform_228 2 rfl ?_
            refine mv_lload (pc := 230) B d_Machine_perform_230 1 rfl ?_
            refine mv_callVv (pc := 232) (n := 2) (ci := 9) (C := R_Machine) B (mK_ok sk sv) hNs rfl rfl (c_Machine_work_c l hi _ _ _ qR th sl qT (hg a) (hg (a + 1)) qh (by omega) (by omega) hO hx hx5 u qU (fun q => (hu9 q).1)) rfl (ma_goodc kc_Machine_work) (B.2.2.2.1 _ k_1605) (B.2.2.2.1 _ k_1607) (B.2.2.2.1 _ ks_74) (B.2.2.2.1 _ k_11) ⟨by decide +kernel, by decide +kernel, by decide +kernel⟩ rfl d_Machine_perform_232 rfl (Nat.le_of_ble_eq_true rfl) ⟨by decide, by decide⟩ ⟨by decide, by decide⟩ ⟨by decide, by decide⟩ (mv_noH hno _) (fun σ232 h232 => ?_)
            obtain ⟨f232, d232⟩ := h232
            have go := d232.elim (fun q => ih σ232 (tt + 1) (aa + 1) (a + 1) (u + 1) (by omega) (by omega) w2 (by omega) (qF.tr f232) (by rw [f232.2.2.2.2]; exact qR) (qT.fm f232.fm hP) q.2.2 q.2.1 (by have := hu9 q.1; omega) (by omega)) (fun q => ih σ232 (tt + 1) (aa + 1) (a + 1) u (by omega) (by omega) w2 (by omega) (qF.tr f232) (by rw [f232.2.2.2.2]; exact qR) (qT.fm f232.fm hP) q.2 q.1 (by omega) (by omega))
            refine mv_iinc (pc := 235) (j := 3) (v := 1) B d_Machine_perform_235 rfl (by decide) (by decide) rfl ?_
            refine mv_goto (pc := 238) (tgt := 11) B d_Machine_perform_238 rfl ?_
            refine mv_lpick [0, 1, 4, 5] rfl ?_
            exact go
          refine ⟨fun h64 => ?_, fun h64n304 => ?_⟩
          · skip
            have h64 : dd = 304 := Int32.toInt_inj.mp (show dd.toInt = (304 : Int32).toInt from h64)
            have hO : Op1 th dd ww (hg a) (hg (a + 1)) := by
              rcases hI with q | q | ⟨q, -⟩ | ⟨q, -⟩ | ⟨-, -, -, -, q⟩
              · rw [h64] at q; cases q
              · rw [h64] at q; cases q
              · rw [h64] at q; cases q
              · rw [h64] at q; cases q
              · exact q
            subst h64
            have o1 : 1 ≤ hg a := hO.1
            have o2 : hg (a + 1) + 1 = hg a + 1 := hO.2.1
            have o3 := hO.2.2.2.2 (by decide)
            have o4 := l2i_nn o3.1 (by omega)
            have o5 : ww.toInt32.toInt = ww.toInt.toNat := by rw [o4]; omega
            have p15 : (304 : Int32) = 315 → hg (a + 1) + 2 = hg a ∧ isSet (304 : Int32) = 1 := fun q => absurd q (by decide)
            have p04 : ¬ (304 : Int32) = 315 → hg (a + 1) = hg a := fun _ => by omega
            have hd9 : ((304 : Int32) = 315 ∧ 2 ≤ hg a ∧ u < 8193) ∨ (¬ (304 : Int32) = 315 ∧ 1 ≤ hg a) := Or.inr ⟨by decide, o1⟩
            refine mv_aload_n (pc := 212) B d_Machine_perform_212 rfl 4 rfl ?_
            refine mv_iload (pc := 213) B d_Machine_perform_213 2 rfl ?_
            refine mv_lload (pc := 215) B d_Machine_perform_215 1 rfl ?_
            refine mv_l2i (pc := 217) B d_Machine_perform_217 ?_
            refine mv_callVi (pc := 218) (n := 2) (ci := 9) (C := R_Machine) B (mK_ok sk sv) hNs rfl rfl (c_Machine_ofCell_c l hi _ _ _ qR th sl qT ww.toInt.toNat o5 (by omega) (hg a) qh (by omega) u qU hd9) rfl (ma_goodc kc_Machine_ofCell) (B.2.2.2.1 _ k_1588) (B.2.2.2.1 _ k_1590) (B.2.2.2.1 _ ks_71) (B.2.2.2.1 _ k_11) ⟨by decide +kernel, by decide +kernel, by decide +kernel⟩ rfl d_Machine_perform_218 rfl (Nat.le_of_ble_eq_true rfl) ⟨by decide, by decide⟩ ⟨by decide, by decide⟩ ⟨by decide, by decide⟩ (mv_noH hno _) (fun v218 σ218 h218 => ?_)
            obtain ⟨f218, d218⟩ := h218
            refine mv_if_ne (pc := 221) (tgt := 235) B d_Machine_perform_221 rfl (fun h221 => ?_) (fun h221 => ?_)
            · skip
              have d218 := d218.resolve_left (fun q => h221 q.1)
              have go := d218.2.elim (fun q => ih σ218 (tt + 1) (aa + 1) (a + 1) (u + 1) (by omega) (by omega) w2 (by omega) (qF.tr f218) (by rw [f218.2.2.2.2]; exact qR) (qT.fm f218.fm hP) (by have := p15 q.1; have := q.2.2; omega) q.2.1 (by have := p15 q.1; omega) (by omega)) (fun q => ih σ218 (tt + 1) (aa + 1) (a + 1) u (by omega) (by omega) w2 (by omega) (qF.tr f218) (by rw [f218.2.2.2.2]; exact qR) (qT.fm f218.fm hP) (by have := p04 q.1; have := q.2.2; omega) q.2.1 (by omega) (by omega))
              refine mv_iinc (pc := 235) (j := 3) (v := 1) B d_Machine_perform_235 rfl (by decide) (by decide) rfl ?_
              refine mv_goto (pc := 238) (tgt := 11) B d_Machine_perform_238 rfl ?_
              refine mv_lpick [0, 1, 4, 5] rfl ?_
              exact go
            · skip
              have d218u : Un σ218 u := d218.elim (fun q => q.2) (fun q => absurd (q.1 ▸ h221) (by decide))
              refine mv_bipush (pc := 224) (v := -3) B d_Machine_perform_224 (by decide) ?_
              exact mv_iret (pc := 226) B hr rfl d_Machine_perform_226 (Nat.le_refl _) (Nat.le_refl _) ⟨_, rfl, qF.tr f218, u, d218u⟩
          refine ⟨fun h64 => ?_, fun h64n305 => ?_⟩
          · skip
            have h64 : dd = 305 := Int32.toInt_inj.mp (show dd.toInt = (305 : Int32).toInt from h64)
            have hO : Op1 th dd ww (hg a) (hg (a + 1)) := by
              rcases hI with q | q | ⟨q, -⟩ | ⟨q, -⟩ | ⟨-, -, -, -, q⟩
              · rw [h64] at q; cases q
              · rw [h64] at q; cases q
              · rw [h64] at q; cases q
              · rw [h64] at q; cases q
              · exact q
            have hx : ¬ dd = 301 ∧ ¬ dd = 304 ∧ ¬ dd = 311 ∧ ¬ dd = 312 := by rw [h64]; decide
            have hx5 : ¬ dd = 315 := by rw [h64]; decide
            have hu9 : dd = 314 → u < 8193 ∧ isSet dd = 1 := fun q => by rw [h64] at q; cases q
            refine mv_aload_n (pc := 227) B d_Machine_perform_227 rfl 4 rfl ?_
            refine mv_iload (pc := 228) B d_Machine_perform_228 2 rfl ?_
            refine mv_lload (pc := 230) B d_Machine_perform_230 1 rfl ?_
            refine mv_callVv (pc := 232) (n := 2) (ci := 9) (C := R_Machine) B (mK_ok sk sv) hNs rfl rfl (c_Machine_work_c l hi _ _ _ qR th sl qT (hg a) (hg (a + 1)) qh (by omega) (by omega) hO hx hx5 u qU (fun q => (hu9 q).1)) rfl (ma_goodc kc_Machine_work) (B.2.2.2.1 _ k_1605) (B.2.2.2.1 _ k_1607) (B.2.2.2.1 _ ks_74) (B.2.2.2.1 _ k_11) ⟨by decide +kernel, by decide +kernel, by decide +kernel⟩ rfl d_Machine_perform_232 rfl (Nat.le_of_ble_eq_true rfl) ⟨by decide, by decide⟩ ⟨by decide, by decide⟩ ⟨by decide, by decide⟩ (mv_noH hno _) (fun σ232 h232 => ?_)
            obtain ⟨f232, d232⟩ := h232
            have go := d232.elim (fun q => ih σ232 (tt + 1) (aa + 1) (a + 1) (u + 1) (by omega) (by omega) w2 (by omega) (qF.tr f232) (by rw [f232.2.2.2.2]; exact qR) (qT.fm f232.fm hP) q.2.2 q.2.1 (by have := hu9 q.1; omega) (by omega)) (fun q => ih σ232 (tt + 1) (aa + 1) (a + 1) u (by omega) (by omega) w2 (by omega) (qF.tr f232) (by rw [f232.2.2.2.2]; exact qR) (qT.fm f232.fm hP) q.2 q.1 (by omega) (by omega))
            refine mv_iinc (pc := 235) (j := 3) (v := 1) B d_Machine_perform_235 rfl (by decide) (by decide) rfl ?_
            refine mv_goto (pc := 238) (tgt := 11) B d_Machine_perform_238 rfl ?_
            refine mv_lpick [0, 1, 4, 5] rfl ?_
            exact go
          refine ⟨fun h64 => ?_, fun h64n306 => ?_⟩
          · skip
            have h64 : dd = 306 := Int32.toInt_inj.mp (show dd.toInt = (306 : Int32).toInt from h64)
            have hO : Op1 th dd ww (hg a) (hg (a + 1)) := by
              rcases hI with q | q | ⟨q, -⟩ | ⟨q, -⟩ | ⟨-, -, -, -, q⟩
              · rw [h64] at q; cases q
              · rw [h64] at q; cases q
              · rw [h64] at q; cases q
              · rw [h64] at q; cases q
              · exact q
            have hx : ¬ dd = 301 ∧ ¬ dd = 304 ∧ ¬ dd = 311 ∧ ¬ dd = 312 := by rw [h64]; decide
            have hx5 : ¬ dd = 315 := by rw [h64]; decide
            have hu9 : dd = 314 → u < 8193 ∧ isSet dd = 1 := fun q => by rw [h64] at q; cases q
            refine mv_aload_n (pc := 227) B d_Machine_perform_227 rfl 4 rfl ?_
            refine mv_iload (pc := 228) B d_Machine_perform_228 2 rfl ?_
            refine mv_lload (pc := 230) B d_Machine_perform_230 1 rfl ?_
            refine mv_callVv (pc := 232) (n := 2) (ci := 9) (C := R_Machine) B (mK_ok sk sv) hNs rfl rfl (c_Machine_work_c l hi _ _ _ qR th sl qT (hg a) (hg (a + 1)) qh (by omega) (by omega) hO hx hx5 u qU (fun q => (hu9 q).1)) rfl (ma_goodc kc_Machine_work) (B.2.2.2.1 _ k_1605) (B.2.2.2.1 _ k_1607) (B.2.2.2.1 _ ks_74) (B.2.2.2.1 _ k_11) ⟨by decide +kernel, by decide +kernel, by decide +kernel⟩ rfl d_Machine_perform_232 rfl (Nat.le_of_ble_eq_true rfl) ⟨by decide, by decide⟩ ⟨by decide, by decide⟩ ⟨by decide, by decide⟩ (mv_noH hno _) (fun σ232 h232 => ?_)
            obtain ⟨f232, d232⟩ := h232
            have go := d232.elim (fun q => ih σ232 (tt + 1) (aa + 1) (a + 1) (u + 1) (by omega) (by omega) w2 (by omega) (qF.tr f232) (by rw [f232.2.2.2.2]; exact qR) (qT.fm f232.fm hP) q.2.2 q.2.1 (by have := hu9 q.1; omega) (by omega)) (fun q => ih σ232 (tt + 1) (aa + 1) (a + 1) u (by omega) (by omega) w2 (by omega) (qF.tr f232) (by rw [f232.2.2.2.2]; exact qR) (qT.fm f232.fm hP) q.2 q.1 (by omega) (by omega))
            refine mv_iinc (pc := 235) (j := 3) (v := 1) B d_Machine_perform_235 rfl (by decide) (by decide) rfl ?_
            refine mv_goto (pc := 238) (tgt := 11) B d_Machine_perform_238 rfl ?_
            refine mv_lpick [0, 1, 4, 5] rfl ?_
            exact go
          refine ⟨fun h64 => ?_, fun h64n307 => ?_⟩
          · skip
            have h64 : dd = 307 := Int32.toInt_inj.mp (show dd.toInt = (307 : Int32).toInt from h64)
            have hO : Op1 th dd ww (hg a) (hg (a + 1)) := by
              rcases hI with q | q | ⟨q, -⟩ | ⟨q, -⟩ | ⟨-, -, -, -, q⟩
              · rw [h64] at q; cases q
              · rw [h64] at q; cases q
              · rw [h64] at q; cases q
              · rw [h64] at q; cases q
              · exact q
            have hx : ¬ dd = 301 ∧ ¬ dd = 304 ∧ ¬ dd = 311 ∧ ¬ dd = 312 := by rw [h64]; decide
            have hx5 : ¬ dd = 315 := by rw [h64]; decide
            have hu9 : dd = 314 → u < 8193 ∧ isSet dd = 1 := fun q => by rw [h64] at q; cases q
            refine mv_aload_n (pc := 227) B d_Machine_perform_227 rfl 4 rfl ?_
            refine mv_iload (pc := 228) B d_Machine_perform_228 2 rfl ?_
            refine mv_lload (pc := 230) B d_Machine_perform_230 1 rfl ?_
            refine mv_callVv (pc := 232) (n := 2) (ci := 9) (C := R_Machine) B (mK_ok sk sv) hNs rfl rfl (c_Machine_work_c l hi _ _ _ qR th sl qT (hg a) (hg (a + 1)) qh (by omega) (by omega) hO hx hx5 u qU (fun q => (hu9 q).1)) rfl (ma_goodc kc_Machine_work) (B.2.2.2.1 _ k_1605) (B.2.2.2.1 _ k_1607) (B.2.2.2.1 _ ks_74) (B.2.2.2.1 _ k_11) ⟨by decide +kernel, by decide +kernel, by decide +kernel⟩ rfl d_Machine_perform_232 rfl (Nat.le_of_ble_eq_true rfl) ⟨by decide, by decide⟩ ⟨by decide, by decide⟩ ⟨by decide, by decide⟩ (mv_noH hno _) (fun σ232 h232 => ?_)
            obtain ⟨f232, d232⟩ := h232
            have go := d232.elim (fun q => ih σ232 (tt + 1) (aa + 1) (a + 1) (u + 1) (by omega) (by omega) w2 (by omega) (qF.tr f232) (by rw [f232.2.2.2.2]; exact qR) (qT.fm f232.fm hP) q.2.2 q.2.1 (by have := hu9 q.1; omega) (by omega)) (fun q => ih σ232 (tt + 1) (aa + 1) (a + 1) u (by omega) (by omega) w2 (by omega) (qF.tr f232) (by rw [f232.2.2.2.2]; exact qR) (qT.fm f232.fm hP) q.2 q.1 (by omega) (by omega))
            refine mv_iinc (pc := 235) (j := 3) (v := 1) B d_Machine_perform_235 rfl (by decide) (by decide) rfl ?_
            refine mv_goto (pc := 238) (tgt := 11) B d_Machine_perform_238 rfl ?_
            refine mv_lpick [0, 1, 4, 5] rfl ?_
            exact go
          refine ⟨fun h64 => ?_, fun h64n308 => ?_⟩
          · skip
            have h64 : dd = 308 := Int32.toInt_inj.mp (show dd.toInt = (308 : Int32).toInt from h64)
            have hO : Op1 th dd ww (hg a) (hg (a + 1)) := by
              rcases hI with q | q | ⟨q, -⟩ | ⟨q, -⟩ | ⟨-, -, -, -, q⟩
              · rw [h64] at q; cases q
              · rw [h64] at q; cases q
              · rw [h64] at q; cases q
              · rw [h64] at q; cases q
              · exact q
            have hx : ¬ dd = 301 ∧ ¬ dd = 304 ∧ ¬ dd = 311 ∧ ¬ dd = 312 := by rw [h64]; decide
            have hx5 : ¬ dd = 315 := by rw [h64]; decide
            have hu9 : dd = 314 → u < 8193 ∧ isSet dd = 1 := fun q => by rw [h64] at q; cases q
            refine mv_aload_n (pc := 227) B d_Machine_perform_227 rfl 4 rfl ?_
            refine mv_iload (pc := 228) B d_Machine_perform_228 2 rfl ?_
            refine mv_lload (pc := 230) B d_Machine_perform_230 1 rfl ?_
            refine mv_callVv (pc := 232) (n := 2) (ci := 9) (C := R_Machine) B (mK_ok sk sv) hNs rfl rfl (c_Machine_work_c l hi _ _ _ qR th sl qT (hg a) (hg (a + 1)) qh (by omega) (by omega) hO hx hx5 u qU (fun q => (hu9 q).1)) rfl (ma_goodc kc_Machine_work) (B.2.2.2.1 _ k_1605) (B.2.2.2.1 _ k_1607) (B.2.2.2.1 _ ks_74) (B.2.2.2.1 _ k_11) ⟨by decide +kernel, by decide +kernel, by decide +kernel⟩ rfl d_Machine_perform_232 rfl (Nat.le_of_ble_eq_true rfl) ⟨by decide, by decide⟩ ⟨by decide, by decide⟩ ⟨by decide, by decide⟩ (mv_noH hno _) (fun σ232 h232 => ?_)
            obtain ⟨f232, d232⟩ := h232
            have go := d232.elim (fun q => ih σ232 (tt + 1) (aa + 1) (a + 1) (u + 1) (by omega) (by omega) w2 (by omega) (qF.tr f232) (by rw [f232.2.2.2.2]; exact qR) (qT.fm f232.fm hP) q.2.2 q.2.1 (by have := hu9 q.1; omega) (by omega)) (fun q => ih σ232 (tt + 1) (aa + 1) (a + 1) u (by omega) (by omega) w2 (by omega) (qF.tr f232) (by rw [f232.2.2.2.2]; exact qR) (qT.fm f232.fm hP) q.2 q.1 (by omega) (by omega))
            refine mv_iinc (pc := 235) (j := 3) (v := 1) B d_Machine_perform_235 rfl (by decide) (by decide) rfl ?_
            refine mv_goto (pc := 238) (tgt := 11) B d_Machine_perform_238 rfl ?_
            refine mv_lpick [0, 1, 4, 5] rfl ?_
            exact go
          refine ⟨fun h64 => ?_, fun h64n309 => ?_⟩
          · skip
            have h64 : dd = 309 := Int32.toInt_inj.mp (show dd.toInt = (309 : Int32).toInt from h64)
            have hO : Op1 th dd ww (hg a) (hg (a + 1)) := by
              rcases hI with q | q | ⟨q, -⟩ | ⟨q, -⟩ | ⟨-, -, -, -, q⟩
              · rw [h64] at q; cases q
              · rw [h64] at q; cases q
              · rw [h64] at q; cases q
              · rw [h64] at q; cases q
              · exact q
            have hx : ¬ dd = 301 ∧ ¬ dd = 304 ∧ ¬ dd = 311 ∧ ¬ dd = 312 := by rw [h64]; decide
            have hx5 : ¬ dd = 315 := by rw [h64]; decide
            have hu9 : dd = 314 → u < 8193 ∧ isSet dd = 1 := fun q => by rw [h64] at q; cases q
            refine mv_aload_n (pc := 227) B d_Machine_perform_227 rfl 4 rfl ?_
            refine mv_iload (pc := 228) B d_Machine_perform_228 2 rfl ?_
            refine mv_lload (pc := 230) B d_Machine_perform_230 1 rfl ?_
            refine mv_callVv (pc := 232) (n := 2) (ci := 9) (C := R_Machine) B (mK_ok sk sv) hNs rfl rfl (c_Machine_work_c l hi _ _ _ qR th sl qT (hg a) (hg (a + 1)) qh (by omega) (by omega) hO hx hx5 u qU (fun q => (hu9 q).1)) rfl (ma_goodc kc_Machine_work) (B.2.2.2.1 _ k_1605) (B.2.2.2.1 _ k_1607) (B.2.2.2.1 _ ks_74) (B.2.2.2.1 _ k_11) ⟨by decide +kernel, by decide +kernel, by decide +kernel⟩ rfl d_Machine_perform_232 rfl (Nat.le_of_ble_eq_true rfl) ⟨by decide, by decide⟩ ⟨by decide, by decide⟩ ⟨by decide, by decide⟩ (mv_noH hno _) (fun σ232 h232 => ?_)
            obtain ⟨f232, d232⟩ := h232
            have go := d232.elim (fun q => ih σ232 (tt + 1) (aa + 1) (a + 1) (u + 1) (by omega) (by omega) w2 (by omega) (qF.tr f232) (by rw [f232.2.2.2.2]; exact qR) (qT.fm f232.fm hP) q.2.2 q.2.1 (by have := hu9 q.1; omega) (by omega)) (fun q => ih σ232 (tt + 1) (aa + 1) (a + 1) u (by omega) (by omega) w2 (by omega) (qF.tr f232) (by rw [f232.2.2.2.2]; exact qR) (qT.fm f232.fm hP) q.2 q.1 (by omega) (by omega))
            refine mv_iinc (pc := 235) (j := 3) (v := 1) B d_Machine_perform_235 rfl (by decide) (by decide) rfl ?_
            refine mv_goto (pc := 238) (tgt := 11) B d_Machine_perform_238 rfl ?_
            refine mv_lpick [0, 1, 4, 5] rfl ?_
            exact go
          refine ⟨fun h64 => ?_, fun h64n310 => ?_⟩
          · skip
            have h64 : dd = 310 := Int32.toInt_inj.mp (show dd.toInt = (310 : Int32).toInt from h64)
            have hO : Op1 th dd ww (hg a) (hg (a + 1)) := by
              rcases hI with q | q | ⟨q, -⟩ | ⟨q, -⟩ | ⟨-, -, -, -, q⟩
              · rw [h64] at q; cases q
              · rw [h64] at q; cases q
              · rw [h64] at q; cases q
              · rw [h64] at q; cases q
              · exact q
            have hx : ¬ dd = 301 ∧ ¬ dd = 304 ∧ ¬ dd = 311 ∧ ¬ dd = 312 := by rw [h64]; decide
            have hx5 : ¬ dd = 315 := by rw [h64]; decide
            have hu9 : dd = 314 → u < 8193 ∧ isSet dd = 1 := fun q => by rw [h64] at q; cases q
            refine mv_aload_n (pc := 227) B d_Machine_perform_227 rfl 4 rfl ?_
            refine mv_iload (pc := 228) B d_Machine_perform_228 2 rfl ?_
            refine mv_lload (pc := 230) B d_Machine_perform_230 1 rfl ?_
            refine mv_callVv (pc := 232) (n := 2) (ci := 9) (C := R_Machine) B (mK_ok sk sv) hNs rfl rfl (c_Machine_work_c l hi _ _ _ qR th sl qT (hg a) (hg (a + 1)) qh (by omega) (by omega) hO hx hx5 u qU (fun q => (hu9 q).1)) rfl (ma_goodc kc_Machine_work) (B.2.2.2.1 _ k_1605) (B.2.2.2.1 _ k_1607) (B.2.2.2.1 _ ks_74) (B.2.2.2.1 _ k_11) ⟨by decide +kernel, by decide +kernel, by decide +kernel⟩ rfl d_Machine_perform_232 rfl (Nat.le_of_ble_eq_true rfl) ⟨by decide, by decide⟩ ⟨by decide, by decide⟩ ⟨by decide, by decide⟩ (mv_noH hno _) (fun σ232 h232 => ?_)
            obtain ⟨f232, d232⟩ := h232
            have go := d232.elim (fun q => ih σ232 (tt + 1) (aa + 1) (a + 1) (u + 1) (by omega) (by omega) w2 (by omega) (qF.tr f232) (by rw [f232.2.2.2.2]; exact qR) (qT.fm f232.fm hP) q.2.2 q.2.1 (by have := hu9 q.1; omega) (by omega)) (fun q => ih σ232 (tt + 1) (aa + 1) (a + 1) u (by omega) (by omega) w2 (by omega) (qF.tr f232) (by rw [f232.2.2.2.2]; exact qR) (qT.fm f232.fm hP) q.2 q.1 (by omega) (by omega))
            refine mv_iinc (pc := 235) (j := 3) (v := 1) B d_Machine_perform_235 rfl (by decide) (by decide) rfl ?_
            refine mv_goto (pc := 238) (tgt := 11) B d_Machine_perform_238 rfl ?_
            refine mv_lpick [0, 1, 4, 5] rfl ?_
            exact go
          refine ⟨fun h64 => ?_, fun h64n311 => ?_⟩
          · skip
            have h64 : dd = 311 := Int32.toInt_inj.mp (show dd.toInt = (311 : Int32).toInt from h64)
            obtain ⟨-, t9, k1, k2, k3, k4⟩ : dd = 311 ∧ ∃ t : Nat, ww.toInt = t ∧ a < t ∧ t ≤ sz ∧ hg t = hg a := by
              rcases hI with q | q | q | ⟨q, -⟩ | ⟨q, -⟩
              · rw [h64] at q; cases q
              · rw [h64] at q; cases q
              · exact q
              · rw [h64] at q; cases q
              · exact absurd h64 q
            have k5 := l2i_nn (x := ww) (by omega) (by omega)
            have k6 := nSet_mono (mv_a σ 154) (show a ≤ t9 by omega)
            have go := ih τ (tt + 1) ww.toInt32 t9 u (by omega) (by omega) (by rw [k5]; exact k1) k3 qF qR qT (by rw [qh, k4]) qU (by omega) (by omega)
            refine mv_lload (pc := 154) B d_Machine_perform_154 1 rfl ?_
            refine mv_l2i (pc := 156) B d_Machine_perform_156 ?_
            refine mv_istore (pc := 157) B d_Machine_perform_157 (by decide) rfl ?_
            refine mv_goto (pc := 159) (tgt := 235) B d_Machine_perform_159 rfl ?_
            refine mv_iinc (pc := 235) (j := 3) (v := 1) B d_Machine_perform_235 rfl (by decide) (by decide) rfl ?_
            refine mv_goto (pc := 238) (tgt := 11) B d_Machine_perform_238 rfl ?_
            refine mv_lpick [0, 1, 4, 5] rfl ?_
            exact go
          refine ⟨fun h64 => ?_, fun h64n312 => ?_⟩
          · skip
            have h64 : dd = 312 := Int32.toInt_inj.mp (show dd.toInt = (312 : Int32).toInt from h64)
            obtain ⟨-, t9, k1, k2, k3, k4, k7⟩ : dd = 312 ∧ ∃ t : Nat, ww.toInt = t ∧ a < t ∧ t ≤ sz ∧ hg a = hg t + 1 ∧ hg (a + 1) = hg t := by
              rcases hI with q | q | ⟨q, -⟩ | q | ⟨-, q, -⟩
              · rw [h64] at q; cases q
              · rw [h64] at q; cases q
              · rw [h64] at q; cases q
              · exact q
              · exact absurd h64 q
            have k5 := l2i_nn (x := ww) (by omega) (by omega)
            have k6 := nSet_mono (mv_a σ 154) (show a ≤ t9 by omega)
            have k8 := sub_one (x := mv_i τ 64 4) (by omega)
            refine mv_aload_n (pc := 162) B d_Machine_perform_162 rfl 4 rfl ?_
            refine mv_dup (pc := 163) B d_Machine_perform_163 rfl ?_
            refine mv_getI (pc := 164) (ci := 9) (C := R_Machine) (T := F_Machine) (N := 13) B 4 rfl rfl (by decide) i_Machine (B.2.2.2.1 _ k_446) rfl d_Machine_perform_164 ?_
            refine mv_iconst (pc := 167) (v := 1) B d_Machine_perform_167 (by decide) ?_
            refine mv_isub (pc := 168) B d_Machine_perform_168 ?_
            refine mv_putI (pc := 169) (ci := 9) (C := R_Machine) (T := F_Machine) (N := 13) B 4 rfl rfl (by decide) i_Machine t_Machine_ok n_Machine (B.2.2.2.1 _ k_446) rfl rfl rfl rfl d_Machine_perform_169 ?_
            refine mv_aload_n (pc := 172) B d_Machine_perform_172 rfl 4 rfl ?_
            refine mv_getR (pc := 173) (ci := 9) (C := R_Machine) (T := F_Machine) (N := 13) B 3 rfl rfl (by decide) i_Machine (B.2.2.2.1 _ k_445) rfl (qR.1 _ 3 _ rfl) d_Machine_perform_173 ?_
            refine mv_aload_n (pc := 176) B d_Machine_perform_176 rfl 4 rfl ?_
            refine mv_getI (pc := 177) (ci := 9) (C := R_Machine) (T := F_Machine) (N := 13) B 4 rfl rfl (by decide) i_Machine (B.2.2.2.1 _ k_446) rfl d_Machine_perform_177 ?_
            refine mv_lald (pc := 180) B rfl (i32_in (show 0 ≤ (mv_i τ 64 4 - 1).toInt by omega) (show (mv_i τ 64 4 - 1).toInt < 1024 by omega)) d_Machine_perform_180 ?_
            refine mv_lconst (pc := 181) (v := 0) B d_Machine_perform_181 (by decide) ?_
            refine mv_lcmp (pc := 182) B d_Machine_perform_182 ?_
            refine mv_if_ne (pc := 183) (tgt := 192) B d_Machine_perform_183 rfl (fun h183 => ?_) (fun h183 => ?_)
            · skip
              have go := ih (mv_si τ 64 4 (mv_i τ 64 4 - 1)) (tt + 1) (aa + 1) (a + 1) u (by omega) (by omega) w2 (by omega) (qF.si ⟨rfl, Or.inl rfl⟩) qR qT (show (mv_i τ 64 4 - 1).toInt = _ by omega) qU (by omega) (by omega)
              refine mv_iload (pc := 192) B d_Machine_perform_192 0 rfl ?_
              refine mv_istore (pc := 194) B d_Machine_perform_194 (by decide) rfl ?_
              refine mv_goto (pc := 196) (tgt := 235) B d_Machine_perform_196 rfl ?_
              refine mv_iinc (pc := 235) (j := 3) (v := 1) B d_Machine_perform_235 rfl (by decide) (by decide) rfl ?_
              refine mv_goto (pc := 238) (tgt := 11) B d_Machine_perform_238 rfl ?_
              refine mv_lpick [0, 1, 4, 5] rfl ?_
              exact go
            · skip
              have go := ih (mv_si τ 64 4 (mv_i τ 64 4 - 1)) (tt + 1) ww.toInt32 t9 u (by omega) (by omega) (by rw [k5]; exact k1) k3 (qF.si ⟨rfl, Or.inl rfl⟩) qR qT (show (mv_i τ 64 4 - 1).toInt = _ by omega) qU (by omega) (by omega)
              refine mv_lload (pc := 186) B d_Machine_perform_186 1 rfl ?_
              refine mv_l2i (pc := 188) B d_Machine_perform_188 ?_
              refine mv_goto (pc := 189) (tgt := 194) B d_Machine_perform_189 rfl ?_
              refine mv_istore (pc := 194) B d_Machine_perform_194 (by decide) rfl ?_
              refine mv_goto (pc := 196) (tgt := 235) B d_Machine_perform_196 rfl ?_
              refine mv_iinc (pc := 235) (j := 3) (v := 1) B d_Machine_perform_235 rfl (by decide) (by decide) rfl ?_
              refine mv_goto (pc := 238) (tgt := 11) B d_Machine_perform_238 rfl ?_
              refine mv_lpick [0, 1, 4, 5] rfl ?_
              exact go
          refine ⟨fun h64 => ?_, fun h64n313 => ?_⟩
          · skip
            have h64 : dd = 313 := Int32.toInt_inj.mp (show dd.toInt = (313 : Int32).toInt from h64)
            have hO : Op1 th dd ww (hg a) (hg (a + 1)) := by
              rcases hI with q | q | ⟨q, -⟩ | ⟨q, -⟩ | ⟨-, -, -, -, q⟩
              · rw [h64] at q; cases q
              · rw [h64] at q; cases q
              · rw [h64] at q; cases q
              · rw [h64] at q; cases q
              · exact q
            have hx : ¬ dd = 301 ∧ ¬ dd = 304 ∧ ¬ dd = 311 ∧ ¬ dd = 312 := by rw [h64]; decide
            have hx5 : ¬ dd = 315 := by rw [h64]; decide
            have hu9 : dd = 314 → u < 8193 ∧ isSet dd = 1 := fun q => by rw [h64] at q; cases q
            refine mv_aload_n (pc := 227) B d_Machine_perform_227 rfl 4 rfl ?_
            refine mv_iload (pc := 228) B d_Machine_perform_228 2 rfl ?_
            refine mv_lload (pc := 230) B d_Machine_perform_230 1 rfl ?_
            refine mv_callVv (pc := 232) (n := 2) (ci := 9) (C := R_Machine) B (mK_ok sk sv) hNs rfl rfl (c_Machine_work_c l hi _ _ _ qR th sl qT (hg a) (hg (a + 1)) qh (by omega) (by omega) hO hx hx5 u qU (fun q => (hu9 q).1)) rfl (ma_goodc kc_Machine_work) (B.2.2.2.1 _ k_1605) (B.2.2.2.1 _ k_1607) (B.2.2.2.1 _ ks_74) (B.2.2.2.1 _ k_11) ⟨by decide +kernel, by decide +kernel, by decide +kernel⟩ rfl d_Machine_perform_232 rfl (Nat.le_of_ble_eq_true rfl) ⟨by decide, by decide⟩ ⟨by decide, by decide⟩ ⟨by decide, by decide⟩ (mv_noH hno _) (fun σ232 h232 => ?_)
            obtain ⟨f232, d232⟩ := h232
            have go := d232.elim (fun q => ih σ232 (tt + 1) (aa + 1) (a + 1) (u + 1) (by omega) (by omega) w2 (by omega) (qF.tr f232) (by rw [f232.2.2.2.2]; exact qR) (qT.fm f232.fm hP) q.2.2 q.2.1 (by have := hu9 q.1; omega) (by omega)) (fun q => ih σ232 (tt + 1) (aa + 1) (a + 1) u (by omega) (by omega) w2 (by omega) (qF.tr f232) (by rw [f232.2.2.2.2]; exact qR) (qT.fm f232.fm hP) q.2 q.1 (by omega) (by omega))
            refine mv_iinc (pc := 235) (j := 3) (v := 1) B d_Machine_perform_235 rfl (by decide) (by decide) rfl ?_
            refine mv_goto (pc := 238) (tgt := 11) B d_Machine_perform_238 rfl ?_
            refine mv_lpick [0, 1, 4, 5] rfl ?_
            exact go
          refine ⟨fun h64 => ?_, fun h64n314 => ?_⟩
          · skip
            have h64 : dd = 314 := Int32.toInt_inj.mp (show dd.toInt = (314 : Int32).toInt from h64)
            have hO : Op1 th dd ww (hg a) (hg (a + 1)) := by
              rcases hI with q | q | ⟨q, -⟩ | ⟨q, -⟩ | ⟨-, -, -, -, q⟩
              · rw [h64] at q; cases q
              · rw [h64] at q; cases q
              · rw [h64] at q; cases q
              · rw [h64] at q; cases q
              · exact q
            have hx : ¬ dd = 301 ∧ ¬ dd = 304 ∧ ¬ dd = 311 ∧ ¬ dd = 312 := by rw [h64]; decide
            have hx5 : ¬ dd = 315 := by rw [h64]; decide
            have hu9 : dd = 314 → u < 8193 ∧ isSet dd = 1 := fun q => by have o6 : isSet dd = 1 := by { rw [q]; decide }; omega
            refine mv_aload_n (pc := 227) B d_Machine_perform_227 rfl 4 rfl ?_
            refine mv_iload (pc := 228) B d_Machine_perform_228 2 rfl ?_
            refine mv_lload (pc := 230) B d_Machine_perform_230 1 rfl ?_
            refine mv_callVv (pc := 232) (n := 2) (ci := 9) (C := R_Machine) B (mK_ok sk sv) hNs rfl rfl (c_Machine_work_c l hi _ _ _ qR th sl qT (hg a) (hg (a + 1)) qh (by omega) (by omega) hO hx hx5 u qU (fun q => (hu9 q).1)) rfl (ma_goodc kc_Machine_work) (B.2.2.2.1 _ k_1605) (B.2.2.2.1 _ k_1607) (B.2.2.2.1 _ ks_74) (B.2.2.2.1 _ k_11) ⟨by decide +kernel, by decide +kernel, by decide +kernel⟩ rfl d_Machine_perform_232 rfl (Nat.le_of_ble_eq_true rfl) ⟨by decide, by decide⟩ ⟨by decide, by decide⟩ ⟨by decide, by decide⟩ (mv_noH hno _) (fun σ232 h232 => ?_)
            obtain ⟨f232, d232⟩ := h232
            have go := d232.elim (fun q => ih σ232 (tt + 1) (aa + 1) (a + 1) (u + 1) (by omega) (by omega) w2 (by omega) (qF.tr f232) (by rw [f232.2.2.2.2]; exact qR) (qT.fm f232.fm hP) q.2.2 q.2.1 (by have := hu9 q.1; omega) (by omega)) (fun q => ih σ232 (tt + 1) (aa + 1) (a + 1) u (by omega) (by omega) w2 (by omega) (qF.tr f232) (by rw [f232.2.2.2.2]; exact qR) (qT.fm f232.fm hP) q.2 q.1 (by omega) (by omega))
            refine mv_iinc (pc := 235) (j := 3) (v := 1) B d_Machine_perform_235 rfl (by decide) (by decide) rfl ?_
            refine mv_goto (pc := 238) (tgt := 11) B d_Machine_perform_238 rfl ?_
            refine mv_lpick [0, 1, 4, 5] rfl ?_
            exact go
          refine ⟨fun h64 => ?_, fun h64n315 => ?_⟩
          · skip
            have h64 : dd = 315 := Int32.toInt_inj.mp (show dd.toInt = (315 : Int32).toInt from h64)
            have hO : Op1 th dd ww (hg a) (hg (a + 1)) := by
              rcases hI with q | q | ⟨q, -⟩ | ⟨q, -⟩ | ⟨-, -, -, -, q⟩
              · rw [h64] at q; cases q
              · rw [h64] at q; cases q
              · rw [h64] at q; cases q
              · rw [h64] at q; cases q
              · exact q
            subst h64
            have o1 : 2 ≤ hg a := hO.1
            have o2 : hg (a + 1) + 2 = hg a + 0 := hO.2.1
            have o3 := hO.2.2.2.2 (by decide)
            have o4 := l2i_nn o3.1 (by omega)
            have o5 : ww.toInt32.toInt = ww.toInt.toNat := by rw [o4]; omega
            have o6 : isSet (315 : Int32) = 1 := by decide
            have p15 : (315 : Int32) = 315 → hg (a + 1) + 2 = hg a ∧ isSet (315 : Int32) = 1 := fun _ => ⟨by omega, o6⟩
            have p04 : ¬ (315 : Int32) = 315 → hg (a + 1) = hg a := fun q => absurd rfl q
            have hd9 : ((315 : Int32) = 315 ∧ 2 ≤ hg a ∧ u < 8193) ∨ (¬ (315 : Int32) = 315 ∧ 1 ≤ hg a) := Or.inl ⟨rfl, o1, by omega⟩
            refine mv_aload_n (pc := 212) B d_Machine_perform_212 rfl 4 rfl ?_
            refine mv_iload (pc := 213) B d_Machine_perform_213 2 rfl ?_
            refine mv_lload (pc := 215) B d_Machine_perform_215 1 rfl ?_
            refine mv_l2i (pc := 217) B d_Machine_perform_217 ?_
            refine mv_callVi (pc := 218) (n := 2) (ci := 9) (C := R_Machine) B (mK_ok sk sv) hNs rfl rfl (c_Machine_ofCell_c l hi _ _ _ qR th sl qT ww.toInt.toNat o5 (by omega) (hg a) qh (by omega) u qU hd9) rfl (ma_goodc kc_Machine_ofCell) (B.2.2.2.1 _ k_1588) (B.2.2.2.1 _ k_1590) (B.2.2.2.1 _ ks_71) (B.2.2.2.1 _ k_11) ⟨by decide +kernel, by decide +kernel, by decide +kernel⟩ rfl d_Machine_perform_218 rfl (Nat.le_of_ble_eq_true rfl) ⟨by decide, by decide⟩ ⟨by decide, by decide⟩ ⟨by decide, by decide⟩ (mv_noH hno _) (fun v218 σ218 h218 => ?_)
            obtain ⟨f218, d218⟩ := h218
            refine mv_if_ne (pc := 221) (tgt := 235) B d_Machine_perform_221 rfl (fun h221 => ?_) (fun h221 => ?_)
            · skip
              have d218 := d218.resolve_left (fun q => h221 q.1)
              have go := d218.2.elim (fun q => ih σ218 (tt + 1) (aa + 1) (a + 1) (u + 1) (by omega) (by omega) w2 (by omega) (qF.tr f218) (by rw [f218.2.2.2.2]; exact qR) (qT.fm f218.fm hP) (by have := p15 q.1; have := q.2.2; omega) q.2.1 (by have := p15 q.1; omega) (by omega)) (fun q => ih σ218 (tt + 1) (aa + 1) (a + 1) u (by omega) (by omega) w2 (by omega) (qF.tr f218) (by rw [f218.2.2.2.2]; exact qR) (qT.fm f218.fm hP) (by have := p04 q.1; have := q.2.2; omega) q.2.1 (by omega) (by omega))
              refine mv_iinc (pc := 235) (j := 3) (v := 1) B d_Machine_perform_235 rfl (by decide) (by decide) rfl ?_
              refine mv_goto (pc := 238) (tgt := 11) B d_Machine_perform_238 rfl ?_
              refine mv_lpick [0, 1, 4, 5] rfl ?_
              exact go
            · skip
              have d218u : Un σ218 u := d218.elim (fun q => q.2) (fun q => absurd (q.1 ▸ h221) (by decide))
              refine mv_bipush (pc := 224) (v := -3) B d_Machine_perform_224 (by decide) ?_
              exact mv_iret (pc := 226) B hr rfl d_Machine_perform_226 (Nat.le_refl _) (Nat.le_refl _) ⟨_, rfl, qF.tr f218, u, d218u⟩
          refine ⟨fun h64 => ?_, fun h64n316 => ?_⟩
          · skip
            have h64 : dd = 316 := Int32.toInt_inj.mp (show dd.toInt = (316 : Int32).toInt from h64)
            refine mv_lload (pc := 150) B d_Machine_perform_150 1 rfl ?_
            refine mv_l2i (pc := 152) B d_Machine_perform_152 ?_
            exact mv_iret (pc := 153) B hr rfl d_Machine_perform_153 (Nat.le_refl _) (Nat.le_refl _) ⟨_, rfl, qF, u, qU⟩
          refine ⟨fun h64 => ?_, fun h64n317 => ?_⟩
          · skip
            have h64 : dd = 317 := Int32.toInt_inj.mp (show dd.toInt = (317 : Int32).toInt from h64)
            refine mv_iconst (pc := 148) (v := 0) B d_Machine_perform_148 (by decide) ?_
            exact mv_iret (pc := 149) B hr rfl d_Machine_perform_149 (Nat.le_refl _) (Nat.le_refl _) ⟨_, rfl, qF, u, qU⟩
          show mv_V _ _ _ _ _ _ _ _ _ _ _ _ _ _ _ _ 227 _ _
          have n301 : ¬ dd = 301 := fun q => h64n301 (by rw [q]; rfl)
          have n302 : ¬ dd = 302 := fun q => h64n302 (by rw [q]; rfl)
          have n303 : ¬ dd = 303 := fun q => h64n303 (by rw [q]; rfl)
          have n304 : ¬ dd = 304 := fun q => h64n304 (by rw [q]; rfl)
          have n305 : ¬ dd = 305 := fun q => h64n305 (by rw [q]; rfl)
          have n306 : ¬ dd = 306 := fun q => h64n306 (by rw [q]; rfl)
          have n307 : ¬ dd = 307 := fun q => h64n307 (by rw [q]; rfl)
          have n308 : ¬ dd = 308 := fun q => h64n308 (by rw [q]; rfl)
          have n309 : ¬ dd = 309 := fun q => h64n309 (by rw [q]; rfl)
          have n310 : ¬ dd = 310 := fun q => h64n310 (by rw [q]; rfl)
          have n311 : ¬ dd = 311 := fun q => h64n311 (by rw [q]; rfl)
          have n312 : ¬ dd = 312 := fun q => h64n312 (by rw [q]; rfl)
          have n313 : ¬ dd = 313 := fun q => h64n313 (by rw [q]; rfl)
          have n314 : ¬ dd = 314 := fun q => h64n314 (by rw [q]; rfl)
          have n315 : ¬ dd = 315 := fun q => h64n315 (by rw [q]; rfl)
          have n316 : ¬ dd = 316 := fun q => h64n316 (by rw [q]; rfl)
          have n317 : ¬ dd = 317 := fun q => h64n317 (by rw [q]; rfl)
          have hO : Op1 th dd ww (hg a) (hg (a + 1)) := by
            rcases hI with q | q | ⟨q, -⟩ | ⟨q, -⟩ | ⟨-, -, -, -, q⟩
            · exact absurd q n316
            · exact absurd q n317
            · exact absurd q n311
            · exact absurd q n312
            · exact q
          have hx : ¬ dd = 301 ∧ ¬ dd = 304 ∧ ¬ dd = 311 ∧ ¬ dd = 312 := ⟨n301, n304, n311, n312⟩
          have hx5 : ¬ dd = 315 := n315
          have hu9 : dd = 314 → u < 8193 ∧ isSet dd = 1 := fun q => absurd q n314
          refine mv_aload_n (pc := 227) B d_Machine_perform_227 rfl 4 rfl ?_
          refine mv_iload (pc := 228) B d_Machine_perform_228 2 rfl ?_
          refine mv_lload (pc := 230) B d_Machine_perform_230 1 rfl ?_
          refine mv_callVv (pc := 232) (n := 2) (ci := 9) (C := R_Machine) B (mK_ok sk sv) hNs rfl rfl (c_Machine_work_c l hi _ _ _ qR th sl qT (hg a) (hg (a + 1)) qh (by omega) (by omega) hO hx hx5 u qU (fun q => (hu9 q).1)) rfl (ma_goodc kc_Machine_work) (B.2.2.2.1 _ k_1605) (B.2.2.2.1 _ k_1607) (B.2.2.2.1 _ ks_74) (B.2.2.2.1 _ k_11) ⟨by decide +kernel, by decide +kernel, by decide +kernel⟩ rfl d_Machine_perform_232 rfl (Nat.le_of_ble_eq_true rfl) ⟨by decide, by decide⟩ ⟨by decide, by decide⟩ ⟨by decide, by decide⟩ (mv_noH hno _) (fun σ232 h232 => ?_)
          obtain ⟨f232, d232⟩ := h232
          have go := d232.elim (fun q => ih σ232 (tt + 1) (aa + 1) (a + 1) (u + 1) (by omega) (by omega) w2 (by omega) (qF.tr f232) (by rw [f232.2.2.2.2]; exact qR) (qT.fm f232.fm hP) q.2.2 q.2.1 (by have := hu9 q.1; omega) (by omega)) (fun q => ih σ232 (tt + 1) (aa + 1) (a + 1) u (by omega) (by omega) w2 (by omega) (qF.tr f232) (by rw [f232.2.2.2.2]; exact qR) (qT.fm f232.fm hP) q.2 q.1 (by omega) (by omega))
          refine mv_iinc (pc := 235) (j := 3) (v := 1) B d_Machine_perform_235 rfl (by decide) (by decide) rfl ?_
          refine mv_goto (pc := 238) (tgt := 11) B d_Machine_perform_238 rfl ?_
          refine mv_lpick [0, 1, 4, 5] rfl ?_
          exact go
  refine mv_aload_n (pc := 0) B d_Machine_perform_0 rfl 0 rfl ?_
  refine mv_iconst (pc := 1) (v := 0) B d_Machine_perform_1 (by decide) ?_
  refine mv_putI (pc := 2) (ci := 9) (C := R_Machine) (T := F_Machine) (N := 13) B 4 rfl rfl (by decide) i_Machine t_Machine_ok n_Machine (B.2.2.2.1 _ k_446) rfl rfl rfl rfl d_Machine_perform_2 ?_
  refine mv_iload_n (pc := 5) B d_Machine_perform_5 rfl 1 rfl ?_
  refine mv_istore (pc := 6) B d_Machine_perform_6 (by decide) rfl ?_
  refine mv_iconst (pc := 8) (v := 0) B d_Machine_perform_8 (by decide) ?_
  refine mv_istore (pc := 9) B d_Machine_perform_9 (by decide) rfl ?_
  refine mv_lpick [0, 1, 2, 4] rfl ?_
  exact lp _ _ _ _ n9 0 (by decide) (by show (0 : Int) ≤ sz; omega) hst hn1 (MF0.si ⟨rfl, Or.inl rfl⟩) hR hT (show (0 : Int) = hg n9 by omega) hU (Nat.zero_le _) (Nat.lt_succ_self _)
