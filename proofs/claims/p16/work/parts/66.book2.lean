/-! the reference's Book: tokens -/
/-- a token at hand: from a1 to a2 -/
def Tq (B len : Nat) (σ τ : mv_H) (a1 a2 : Nat) : Prop := Ta B len σ τ a2 ∧ (mv_i τ B 5).toInt = a1 ∧ a1 ≤ a2 ∧ mv_i τ B 6 = mv_i τ B 3 ∧ (mv_i τ B 4 = 0 ∨ mv_i τ B 4 = -1 ∨ a1 < a2) ∧ (mv_i τ B 4 = 3 → a1 + 2 ≤ a2)
theorem Tq.re {B len a b : Nat} {σ τ : mv_H} (h : Tq B len σ τ a b) : Tq B len τ τ a b := ⟨h.1.re, h.2⟩
theorem Tq.tr {B len a b a' b' : Nat} {σ τ υ : mv_H} (h : Tq B len σ τ a b) (g : Tq B len τ υ a' b') : Tq B len σ υ a' b' := ⟨h.1.tr g.1, g.2⟩
theorem Tq.stop {B len a b : Nat} {σ τ : mv_H} (h : Tq B len σ τ a b) : (mv_i τ B 6).toInt = b := by rw [h.2.2.2.1]; exact h.1.2.2.2.1
theorem i32_p1 {x : Int32} {n : Nat} (h : x.toInt = n) (hn : n ≤ 10240) : (x + 1).toInt = n + 1 := by rw [i32_inc (by omega)]; omega
theorem i32_p2 {x : Int32} {n : Nat} (h : x.toInt = n) (hn : n ≤ 10240) : (x + 2).toInt = n + 2 := by rw [i32_add (x := x) (y := 2) (by show -2147483648 ≤ x.toInt + 2; omega) (by show x.toInt + 2 < 2147483648; omega)]; show x.toInt + 2 = _; omega

def y_Book_readNumber : MethodName := ⟨"MachineLoomModel$Book", "readNumber", "()V"⟩
abbrev b_Book_readNumber : ByteArray := prog_15_method_9_code
theorem kc_Book_readNumber : Cond.code y_Book_readNumber b_Book_readNumber 5 (Option.none : Option Jvm.ClassFile.FieldType) ∈ ma := ma_of (tb_9 _ (List.mem_of_getElem? (i := 215) rfl)) rfl
theorem k_1850 : (Jvm.Cond.fieldLink "MachineLoomModel$Book" (168 : Nat) "MachineLoomModel$Book" "broken" "I") ∈ ma := ma_of (tb_8 _ (List.mem_of_getElem? (i := 170) rfl)) rfl
theorem k_2126 : (Jvm.Cond.methodLink "MachineLoomModel$Book" (165 : Nat) ({ cls := "MachineLoomModel$Book", name := "letter", desc := "(I)Z" } : Jvm.MethodName)) ∈ ma := ma_of (tb_9 _ (List.mem_of_getElem? (i := 206) rfl)) rfl
theorem k_2127 : (Jvm.Cond.static ({ cls := "MachineLoomModel$Book", name := "letter", desc := "(I)Z" } : Jvm.MethodName)) ∈ ma := ma_of (tb_9 _ (List.mem_of_getElem? (i := 207) rfl)) rfl
theorem k_1852 : (Jvm.Cond.fieldLink "MachineLoomModel$Book" (154 : Nat) "MachineLoomModel$Book" "number" "J") ∈ ma := ma_of (tb_8 _ (List.mem_of_getElem? (i := 172) rfl)) rfl
theorem k_2139 : (Jvm.Cond.methodLink "MachineLoomModel$Book" (161 : Nat) ({ cls := "MachineLoomModel$Book", name := "fits", desc := "(JII)Z" } : Jvm.MethodName)) ∈ ma := ma_of (tb_9 _ (List.mem_of_getElem? (i := 219) rfl)) rfl
theorem k_2140 : (Jvm.Cond.static ({ cls := "MachineLoomModel$Book", name := "fits", desc := "(JII)Z" } : Jvm.MethodName)) ∈ ma := ma_of (tb_9 _ (List.mem_of_getElem? (i := 220) rfl)) rfl
theorem k_2136 : (Jvm.Cond.methodLink "MachineLoomModel$Book" (158 : Nat) ({ cls := "MachineLoomModel$Book", name := "hex", desc := "(I)I" } : Jvm.MethodName)) ∈ ma := ma_of (tb_9 _ (List.mem_of_getElem? (i := 216) rfl)) rfl
theorem k_2137 : (Jvm.Cond.static ({ cls := "MachineLoomModel$Book", name := "hex", desc := "(I)I" } : Jvm.MethodName)) ∈ ma := ma_of (tb_9 _ (List.mem_of_getElem? (i := 217) rfl)) rfl
theorem k_1847 : (Jvm.Cond.fieldLink "MachineLoomModel$Book" (151 : Nat) "MachineLoomModel$Book" "kind" "I") ∈ ma := ma_of (tb_8 _ (List.mem_of_getElem? (i := 167) rfl)) rfl
theorem d_Book_readNumber_0 : decode b_Book_readNumber 0 = .ok (.aload_n 0, 1) := by decide +kernel
theorem d_Book_readNumber_1 : decode b_Book_readNumber 1 = .ok (.iconst 2, 1) := by decide +kernel
theorem d_Book_readNumber_2 : decode b_Book_readNumber 2 = .ok (.putfield 151, 3) := by decide +kernel
theorem d_Book_readNumber_5 : decode b_Book_readNumber 5 = .ok (.aload_n 0, 1) := by decide +kernel
theorem d_Book_readNumber_6 : decode b_Book_readNumber 6 = .ok (.lconst 0, 1) := by decide +kernel
theorem d_Book_readNumber_7 : decode b_Book_readNumber 7 = .ok (.putfield 154, 3) := by decide +kernel
theorem d_Book_readNumber_10 : decode b_Book_readNumber 10 = .ok (.aload_n 0, 1) := by decide +kernel
theorem d_Book_readNumber_11 : decode b_Book_readNumber 11 = .ok (.aload_n 0, 1) := by decide +kernel
theorem d_Book_readNumber_12 : decode b_Book_readNumber 12 = .ok (.getfield 142, 3) := by decide +kernel
theorem d_Book_readNumber_15 : decode b_Book_readNumber 15 = .ok (.invokevirtual 145, 3) := by decide +kernel
theorem d_Book_readNumber_18 : decode b_Book_readNumber 18 = .ok (.bipush 48, 2) := by decide +kernel
theorem d_Book_readNumber_20 : decode b_Book_readNumber 20 = .ok (.if_icmp .ne (22), 3) := by decide +kernel
theorem d_Book_readNumber_23 : decode b_Book_readNumber 23 = .ok (.aload_n 0, 1) := by decide +kernel
theorem d_Book_readNumber_24 : decode b_Book_readNumber 24 = .ok (.aload_n 0, 1) := by decide +kernel
theorem d_Book_readNumber_25 : decode b_Book_readNumber 25 = .ok (.getfield 142, 3) := by decide +kernel
theorem d_Book_readNumber_28 : decode b_Book_readNumber 28 = .ok (.iconst 1, 1) := by decide +kernel
theorem d_Book_readNumber_29 : decode b_Book_readNumber 29 = .ok (.iadd, 1) := by decide +kernel
theorem d_Book_readNumber_30 : decode b_Book_readNumber 30 = .ok (.invokevirtual 145, 3) := by decide +kernel
theorem d_Book_readNumber_33 : decode b_Book_readNumber 33 = .ok (.bipush 120, 2) := by decide +kernel
theorem d_Book_readNumber_35 : decode b_Book_readNumber 35 = .ok (.if_icmp .ne (7), 3) := by decide +kernel
theorem d_Book_readNumber_38 : decode b_Book_readNumber 38 = .ok (.iconst 1, 1) := by decide +kernel
theorem d_Book_readNumber_39 : decode b_Book_readNumber 39 = .ok (.goto (4), 3) := by decide +kernel
theorem d_Book_readNumber_42 : decode b_Book_readNumber 42 = .ok (.iconst 0, 1) := by decide +kernel
theorem d_Book_readNumber_43 : decode b_Book_readNumber 43 = .ok (.istore_n 1, 1) := by decide +kernel
theorem d_Book_readNumber_44 : decode b_Book_readNumber 44 = .ok (.iconst 0, 1) := by decide +kernel
theorem d_Book_readNumber_45 : decode b_Book_readNumber 45 = .ok (.istore_n 2, 1) := by decide +kernel
theorem d_Book_readNumber_46 : decode b_Book_readNumber 46 = .ok (.iload_n 1, 1) := by decide +kernel
theorem d_Book_readNumber_47 : decode b_Book_readNumber 47 = .ok (.ifCond .eq (13), 3) := by decide +kernel
theorem d_Book_readNumber_50 : decode b_Book_readNumber 50 = .ok (.aload_n 0, 1) := by decide +kernel
theorem d_Book_readNumber_51 : decode b_Book_readNumber 51 = .ok (.dup, 1) := by decide +kernel
theorem d_Book_readNumber_52 : decode b_Book_readNumber 52 = .ok (.getfield 142, 3) := by decide +kernel
theorem d_Book_readNumber_55 : decode b_Book_readNumber 55 = .ok (.iconst 2, 1) := by decide +kernel
theorem d_Book_readNumber_56 : decode b_Book_readNumber 56 = .ok (.iadd, 1) := by decide +kernel
theorem d_Book_readNumber_57 : decode b_Book_readNumber 57 = .ok (.putfield 142, 3) := by decide +kernel
theorem d_Book_readNumber_60 : decode b_Book_readNumber 60 = .ok (.aload_n 0, 1) := by decide +kernel
theorem d_Book_readNumber_61 : decode b_Book_readNumber 61 = .ok (.aload_n 0, 1) := by decide +kernel
theorem d_Book_readNumber_62 : decode b_Book_readNumber 62 = .ok (.getfield 142, 3) := by decide +kernel
theorem d_Book_readNumber_65 : decode b_Book_readNumber 65 = .ok (.invokevirtual 145, 3) := by decide +kernel
theorem d_Book_readNumber_68 : decode b_Book_readNumber 68 = .ok (.istore_n 3, 1) := by decide +kernel
theorem d_Book_readNumber_69 : decode b_Book_readNumber 69 = .ok (.iload_n 1, 1) := by decide +kernel
theorem d_Book_readNumber_70 : decode b_Book_readNumber 70 = .ok (.ifCond .eq (10), 3) := by decide +kernel
theorem d_Book_readNumber_73 : decode b_Book_readNumber 73 = .ok (.iload_n 3, 1) := by decide +kernel
theorem d_Book_readNumber_74 : decode b_Book_readNumber 74 = .ok (.invokestatic 158, 3) := by decide +kernel
theorem d_Book_readNumber_77 : decode b_Book_readNumber 77 = .ok (.goto (18), 3) := by decide +kernel
theorem d_Book_readNumber_80 : decode b_Book_readNumber 80 = .ok (.iload_n 3, 1) := by decide +kernel
theorem d_Book_readNumber_81 : decode b_Book_readNumber 81 = .ok (.invokestatic 138, 3) := by decide +kernel
theorem d_Book_readNumber_84 : decode b_Book_readNumber 84 = .ok (.ifCond .eq (10), 3) := by decide +kernel
theorem d_Book_readNumber_87 : decode b_Book_readNumber 87 = .ok (.iload_n 3, 1) := by decide +kernel
theorem d_Book_readNumber_88 : decode b_Book_readNumber 88 = .ok (.bipush 48, 2) := by decide +kernel
theorem d_Book_readNumber_90 : decode b_Book_readNumber 90 = .ok (.isub, 1) := by decide +kernel
theorem d_Book_readNumber_91 : decode b_Book_readNumber 91 = .ok (.goto (4), 3) := by decide +kernel
theorem d_Book_readNumber_94 : decode b_Book_readNumber 94 = .ok (.iconst (-1), 1) := by decide +kernel
theorem d_Book_readNumber_95 : decode b_Book_readNumber 95 = .ok (.istore 4, 2) := by decide +kernel
theorem d_Book_readNumber_97 : decode b_Book_readNumber 97 = .ok (.iload 4, 2) := by decide +kernel
theorem d_Book_readNumber_99 : decode b_Book_readNumber 99 = .ok (.ifCond .lt (80), 3) := by decide +kernel
theorem d_Book_readNumber_102 : decode b_Book_readNumber 102 = .ok (.iload_n 1, 1) := by decide +kernel
theorem d_Book_readNumber_103 : decode b_Book_readNumber 103 = .ok (.ifCond .eq (9), 3) := by decide +kernel
theorem d_Book_readNumber_106 : decode b_Book_readNumber 106 = .ok (.iload_n 2, 1) := by decide +kernel
theorem d_Book_readNumber_107 : decode b_Book_readNumber 107 = .ok (.bipush 16, 2) := by decide +kernel
theorem d_Book_readNumber_109 : decode b_Book_readNumber 109 = .ok (.if_icmp .eq (70), 3) := by decide +kernel
theorem d_Book_readNumber_112 : decode b_Book_readNumber 112 = .ok (.aload_n 0, 1) := by decide +kernel
theorem d_Book_readNumber_113 : decode b_Book_readNumber 113 = .ok (.getfield 154, 3) := by decide +kernel
theorem d_Book_readNumber_116 : decode b_Book_readNumber 116 = .ok (.iload_n 1, 1) := by decide +kernel
theorem d_Book_readNumber_117 : decode b_Book_readNumber 117 = .ok (.ifCond .eq (8), 3) := by decide +kernel
theorem d_Book_readNumber_120 : decode b_Book_readNumber 120 = .ok (.bipush 16, 2) := by decide +kernel
theorem d_Book_readNumber_122 : decode b_Book_readNumber 122 = .ok (.goto (5), 3) := by decide +kernel
theorem d_Book_readNumber_125 : decode b_Book_readNumber 125 = .ok (.bipush 10, 2) := by decide +kernel
theorem d_Book_readNumber_127 : decode b_Book_readNumber 127 = .ok (.iload 4, 2) := by decide +kernel
theorem d_Book_readNumber_129 : decode b_Book_readNumber 129 = .ok (.invokestatic 161, 3) := by decide +kernel
theorem d_Book_readNumber_132 : decode b_Book_readNumber 132 = .ok (.ifCond .ne (6), 3) := by decide +kernel
theorem d_Book_readNumber_135 : decode b_Book_readNumber 135 = .ok (.goto (44), 3) := by decide +kernel
theorem d_Book_readNumber_138 : decode b_Book_readNumber 138 = .ok (.aload_n 0, 1) := by decide +kernel
theorem d_Book_readNumber_139 : decode b_Book_readNumber 139 = .ok (.aload_n 0, 1) := by decide +kernel
theorem d_Book_readNumber_140 : decode b_Book_readNumber 140 = .ok (.getfield 154, 3) := by decide +kernel
theorem d_Book_readNumber_143 : decode b_Book_readNumber 143 = .ok (.iload_n 1, 1) := by decide +kernel
theorem d_Book_readNumber_144 : decode b_Book_readNumber 144 = .ok (.ifCond .eq (8), 3) := by decide +kernel
theorem d_Book_readNumber_147 : decode b_Book_readNumber 147 = .ok (.bipush 16, 2) := by decide +kernel
theorem d_Book_readNumber_149 : decode b_Book_readNumber 149 = .ok (.goto (5), 3) := by decide +kernel
theorem d_Book_readNumber_152 : decode b_Book_readNumber 152 = .ok (.bipush 10, 2) := by decide +kernel
theorem d_Book_readNumber_154 : decode b_Book_readNumber 154 = .ok (.i2l, 1) := by decide +kernel
theorem d_Book_readNumber_155 : decode b_Book_readNumber 155 = .ok (.lmul, 1) := by decide +kernel
theorem d_Book_readNumber_156 : decode b_Book_readNumber 156 = .ok (.iload 4, 2) := by decide +kernel
theorem d_Book_readNumber_158 : decode b_Book_readNumber 158 = .ok (.i2l, 1) := by decide +kernel
theorem d_Book_readNumber_159 : decode b_Book_readNumber 159 = .ok (.ladd, 1) := by decide +kernel
theorem d_Book_readNumber_160 : decode b_Book_readNumber 160 = .ok (.putfield 154, 3) := by decide +kernel
theorem d_Book_readNumber_163 : decode b_Book_readNumber 163 = .ok (.iinc 2 (1), 3) := by decide +kernel
theorem d_Book_readNumber_166 : decode b_Book_readNumber 166 = .ok (.aload_n 0, 1) := by decide +kernel
theorem d_Book_readNumber_167 : decode b_Book_readNumber 167 = .ok (.dup, 1) := by decide +kernel
theorem d_Book_readNumber_168 : decode b_Book_readNumber 168 = .ok (.getfield 142, 3) := by decide +kernel
theorem d_Book_readNumber_171 : decode b_Book_readNumber 171 = .ok (.iconst 1, 1) := by decide +kernel
theorem d_Book_readNumber_172 : decode b_Book_readNumber 172 = .ok (.iadd, 1) := by decide +kernel
theorem d_Book_readNumber_173 : decode b_Book_readNumber 173 = .ok (.putfield 142, 3) := by decide +kernel
theorem d_Book_readNumber_176 : decode b_Book_readNumber 176 = .ok (.goto (-116), 3) := by decide +kernel
theorem d_Book_readNumber_179 : decode b_Book_readNumber 179 = .ok (.iload_n 2, 1) := by decide +kernel
theorem d_Book_readNumber_180 : decode b_Book_readNumber 180 = .ok (.ifCond .eq (31), 3) := by decide +kernel
theorem d_Book_readNumber_183 : decode b_Book_readNumber 183 = .ok (.aload_n 0, 1) := by decide +kernel
theorem d_Book_readNumber_184 : decode b_Book_readNumber 184 = .ok (.aload_n 0, 1) := by decide +kernel
theorem d_Book_readNumber_185 : decode b_Book_readNumber 185 = .ok (.getfield 142, 3) := by decide +kernel
theorem d_Book_readNumber_188 : decode b_Book_readNumber 188 = .ok (.invokevirtual 145, 3) := by decide +kernel
theorem d_Book_readNumber_191 : decode b_Book_readNumber 191 = .ok (.invokestatic 138, 3) := by decide +kernel
theorem d_Book_readNumber_194 : decode b_Book_readNumber 194 = .ok (.ifCond .ne (17), 3) := by decide +kernel
theorem d_Book_readNumber_197 : decode b_Book_readNumber 197 = .ok (.aload_n 0, 1) := by decide +kernel
theorem d_Book_readNumber_198 : decode b_Book_readNumber 198 = .ok (.aload_n 0, 1) := by decide +kernel
theorem d_Book_readNumber_199 : decode b_Book_readNumber 199 = .ok (.getfield 142, 3) := by decide +kernel
theorem d_Book_readNumber_202 : decode b_Book_readNumber 202 = .ok (.invokevirtual 145, 3) := by decide +kernel
theorem d_Book_readNumber_205 : decode b_Book_readNumber 205 = .ok (.invokestatic 165, 3) := by decide +kernel
theorem d_Book_readNumber_208 : decode b_Book_readNumber 208 = .ok (.ifCond .eq (11), 3) := by decide +kernel
theorem d_Book_readNumber_211 : decode b_Book_readNumber 211 = .ok (.aload_n 0, 1) := by decide +kernel
theorem d_Book_readNumber_212 : decode b_Book_readNumber 212 = .ok (.aload_n 0, 1) := by decide +kernel
theorem d_Book_readNumber_213 : decode b_Book_readNumber 213 = .ok (.getfield 142, 3) := by decide +kernel
theorem d_Book_readNumber_216 : decode b_Book_readNumber 216 = .ok (.putfield 168, 3) := by decide +kernel
theorem d_Book_readNumber_219 : decode b_Book_readNumber 219 = .ok (.return_, 1) := by decide +kernel
set_option maxHeartbeats 4000000 in
set_option maxRecDepth 100000 in
theorem c_Book_readNumber_x (l : Launch) {dA : FieldType → ClassId} {D : va_G} {al : Nat → Nat} {ext : mv_Sh} {sk sv : Nat → Nat} (hi : mv_inj (mg dA D al ext)) (σ : mv_H) (len a0 : Nat) (hA : Ta 74 len σ σ a0) : mv_C l y_Book_readNumber (Cond.code y_Book_readNumber b_Book_readNumber 5 (Option.none : Option Jvm.ClassFile.FieldType) :: ma) ({ frames := 2, cells := 0, slots := 0, locals := 40 }) (mg dA D al ext) (mK sk sv) [.ref (al 74)] σ (mv_Rv (fun σ1 => ∃ a1, Ta 74 len σ σ1 a1 ∧ mv_i σ1 74 4 = 2 ∧ mv_i σ1 74 5 = mv_i σ 74 5 ∧ a0 ≤ a1 ∧ (0 ≤ (mv_i σ1 74 7).toInt ∨ (mv_i σ1 74 7 = mv_i σ 74 7 ∧ a0 < a1)))) := by
  refine mv_C.ofV (cc := b_Book_readNumber) (nL := 5) (ret := (Option.none : Option Jvm.ClassFile.FieldType)) (by decide +kernel) rfl hi (Nat.le_of_ble_eq_true rfl) ?_
  intro p e s m below meth c B hNs hr hnm hno
  have hR := hA.2.1
  have lp : ∀ (nn : Nat) (τ : mv_H) (a9 : Nat) (n9 : Int32) (w9 : Int32) (hA : Ta 74 len σ τ a9) (hk : mv_i τ 74 4 = 2) (hs : mv_i τ 74 5 = mv_i σ 74 5) (hb : mv_i τ 74 7 = mv_i σ 74 7) (ha : a0 ≤ a9) (hn0 : 0 ≤ n9.toInt) (hn1 : n9.toInt + a0 ≤ a9), len - a9 < nn → mv_V p l e ({ frames := 2, cells := 0, slots := 0, locals := 40 }) s m ([.ref (al 74)] : List Value).toArray below meth c (mg dA D al ext) 5 0 0 (mv_Q (mg dA D al ext) below s 0 0 (mv_Rv (fun σ1 => ∃ a1, Ta 74 len σ σ1 a1 ∧ mv_i σ1 74 4 = 2 ∧ mv_i σ1 74 5 = mv_i σ 74 5 ∧ a0 ≤ a1 ∧ (0 ≤ (mv_i σ1 74 7).toInt ∨ (mv_i σ1 74 7 = mv_i σ 74 7 ∧ a0 < a1))))) τ 60 [(0, .ref (al 74)), (1, .int w9), (2, .int n9)] [] := by
    intro nn
    induction nn with
    | zero => intro τ a9 n9 w9 hA hk hs hb ha hn0 hn1 hm; exact absurd hm (Nat.not_lt_zero _)
    | succ nn ih =>
      intro τ a9 n9 w9 hA hk hs hb ha hn0 hn1 hm
      have j97 : ∀ (d9 : Int32) (c9 : Int32) (hd : 0 ≤ d9.toInt → a9 < len), mv_V p l e ({ frames := 2, cells := 0, slots := 0, locals := 40 }) s m ([.ref (al 74)] : List Value).toArray below meth c (mg dA D al ext) 5 0 0 (mv_Q (mg dA D al ext) below s 0 0 (mv_Rv (fun σ1 => ∃ a1, Ta 74 len σ σ1 a1 ∧ mv_i σ1 74 4 = 2 ∧ mv_i σ1 74 5 = mv_i σ 74 5 ∧ a0 ≤ a1 ∧ (0 ≤ (mv_i σ1 74 7).toInt ∨ (mv_i σ1 74 7 = mv_i σ 74 7 ∧ a0 < a1))))) τ 97 [(4, .int d9), (3, .int c9), (0, .ref (al 74)), (1, .int w9), (2, .int n9)] [] := by
        intro d9 c9 hd
        refine mv_iload (pc := 97) B d_Book_readNumber_97 0 rfl ?_
        refine mv_if_lt (pc := 99) (tgt := 179) B d_Book_readNumber_99 rfl (fun h99 => ?_) (fun h99 => ?_)
        · skip
          refine mv_iload_n (pc := 179) B d_Book_readNumber_179 rfl 4 rfl ?_
          refine mv_if_eq (pc := 180) (tgt := 211) B d_Book_readNumber_180 rfl (fun h180 => ?_) (fun h180 => ?_)
          · skip
            refine mv_aload_n (pc := 211) B d_Book_readNumber_211 rfl 2 rfl ?_
            refine mv_aload_n (pc := 212) B d_Book_readNumber_212 rfl 2 rfl ?_
            refine mv_getI (pc := 213) (ci := 12) (C := R_Book) (T := F_Book) (N := 65) B 3 rfl rfl (by decide) i_Book (B.2.2.2.1 _ k_1846) rfl d_Book_readNumber_213 ?_
            refine mv_putI (pc := 216) (ci := 12) (C := R_Book) (T := F_Book) (N := 65) B 7 rfl rfl (by decide) i_Book t_Book_ok n_Book (B.2.2.2.1 _ k_1850) rfl rfl rfl rfl d_Book_readNumber_216 ?_
            exact mv_vret (pc := 219) B hr d_Book_readNumber_219 (Nat.le_refl _) (Nat.le_refl _) ⟨rfl, a9, by first | exact hA | exact hA.si ⟨by decide, by decide⟩, hk, hs, ha, by first | exact Or.inr ⟨hb, by have z : ¬ n9.toInt = 0 := fun z => h180 (Int32.toInt_inj.mp z); omega⟩ | exact Or.inl (by show 0 ≤ (mv_i τ 74 3).toInt; rw [hA.2.2.2.1]; omega)⟩
          · skip
            refine mv_aload_n (pc := 183) B d_Book_readNumber_183 rfl 2 rfl ?_
            refine mv_aload_n (pc := 184) B d_Book_readNumber_184 rfl 2 rfl ?_
            refine mv_getI (pc := 185) (ci := 12) (C := R_Book) (T := F_Book) (N := 65) B 3 rfl rfl (by decide) i_Book (B.2.2.2.1 _ k_1846) rfl d_Book_readNumber_185 ?_
            refine mv_callVi (pc := 188) (n := 1) (ci := 12) (C := R_Book) B (mK_ok sk sv) hNs rfl rfl (c_Book_look_x l hi _ _ len hA.2.1 hA.2.2.1 hA.2.2.2.2.2 (by rw [hA.2.2.2.1]; omega)) rfl (ma_goodc kc_Book_look) (B.2.2.2.1 _ k_2122) (B.2.2.2.1 _ k_2124) (B.2.2.2.1 _ ks_82) (B.2.2.2.1 _ k_13) ⟨by decide +kernel, by decide +kernel, by decide +kernel⟩ rfl d_Book_readNumber_188 rfl (Nat.le_of_ble_eq_true rfl) ⟨by decide, by decide⟩ ⟨by decide, by decide⟩ ⟨by decide, by decide⟩ (mv_noH hno _) (fun v188 σ188 h188 => ?_)
            obtain ⟨e188, w188, z188⟩ := h188
            have e188 := e188.symm
            subst e188
            refine mv_callSi (pc := 191) (n := 1) B (mK_ok sk sv) hNs (c_Book_digit l hi _ _) rfl (ma_goodc kc_Book_digit) (B.2.2.2.1 _ k_2129) (B.2.2.2.1 _ k_2130) (B.2.2.2.1 _ k_13) ⟨by decide +kernel, by decide +kernel, by decide +kernel⟩ rfl d_Book_readNumber_191 rfl (Nat.le_of_ble_eq_true rfl) ⟨by decide, by decide⟩ ⟨by decide, by decide⟩ ⟨by decide, by decide⟩ (mv_noH hno _) (fun v191 σ191 h191 => ?_)
            obtain ⟨e191, z191⟩ := h191
            have e191 := e191.symm
            subst e191
            refine mv_if_ne (pc := 194) (tgt := 211) B d_Book_readNumber_194 rfl (fun h194 => ?_) (fun h194 => ?_)
            · skip
              refine mv_aload_n (pc := 211) B d_Book_readNumber_211 rfl 2 rfl ?_
              refine mv_aload_n (pc := 212) B d_Book_readNumber_212 rfl 2 rfl ?_
              refine mv_getI (pc := 213) (ci := 12) (C := R_Book) (T := F_Book) (N := 65) B 3 rfl rfl (by decide) i_Book (B.2.2.2.1 _ k_1846) rfl d_Book_readNumber_213 ?_
              refine mv_putI (pc := 216) (ci := 12) (C := R_Book) (T := F_Book) (N := 65) B 7 rfl rfl (by decide) i_Book t_Book_ok n_Book (B.2.2.2.1 _ k_1850) rfl rfl rfl rfl d_Book_readNumber_216 ?_
              exact mv_vret (pc := 219) B hr d_Book_readNumber_219 (Nat.le_refl _) (Nat.le_refl _) ⟨rfl, a9, by first | exact hA | exact hA.si ⟨by decide, by decide⟩, hk, hs, ha, by first | exact Or.inr ⟨hb, by have z : ¬ n9.toInt = 0 := fun z => h180 (Int32.toInt_inj.mp z); omega⟩ | exact Or.inl (by show 0 ≤ (mv_i τ 74 3).toInt; rw [hA.2.2.2.1]; omega)⟩
            · skip
              refine mv_aload_n (pc := 197) B d_Book_readNumber_197 rfl 2 rfl ?_
              refine mv_aload_n (pc := 198) B d_Book_readNumber_198 rfl 2 rfl ?_
              refine mv_getI (pc := 199) (ci := 12) (C := R_Book) (T := F_Book) (N := 65) B 3 rfl rfl (by decide) i_Book (B.2.2.2.1 _ k_1846) rfl d_Book_readNumber_199 ?_
              refine mv_callVi (pc := 202) (n := 1) (ci := 12) (C := R_Book) B (mK_ok sk sv) hNs rfl rfl (c_Book_look_x l hi _ _ len hA.2.1 hA.2.2.1 hA.2.2.2.2.2 (by rw [hA.2.2.2.1]; omega)) rfl (ma_goodc kc_Book_look) (B.2.2.2.1 _ k_2122) (B.2.2.2.1 _ k_2124) (B.2.2.2.1 _ ks_82) (B.2.2.2.1 _ k_13) ⟨by decide +kernel, by decide +kernel, by decide +kernel⟩ rfl d_Book_readNumber_202 rfl (Nat.le_of_ble_eq_true rfl) ⟨by decide, by decide⟩ ⟨by decide, by decide⟩ ⟨by decide, by decide⟩ (mv_noH hno _) (fun v202 σ202 h202 => ?_)
              obtain ⟨e202, w202, z202⟩ := h202
              have e202 := e202.symm
              subst e202
              refine mv_callSi (pc := 205) (n := 1) B (mK_ok sk sv) hNs (c_Book_letter l hi _ _) rfl (ma_goodc kc_Book_letter) (B.2.2.2.1 _ k_2126) (B.2.2.2.1 _ k_2127) (B.2.2.2.1 _ k_13) ⟨by decide +kernel, by decide +kernel, by decide +kernel⟩ rfl d_Book_readNumber_205 rfl (Nat.le_of_ble_eq_true rfl) ⟨by decide, by decide⟩ ⟨by decide, by decide⟩ ⟨by decide, by decide⟩ (mv_noH hno _) (fun v205 σ205 h205 => ?_)
              obtain ⟨e205, w205, z205⟩ := h205
              have e205 := e205.symm
              subst e205
              refine mv_if_eq (pc := 208) (tgt := 219) B d_Book_readNumber_208 rfl (fun h208 => ?_) (fun h208 => ?_)
              · skip
                exact mv_vret (pc := 219) B hr d_Book_readNumber_219 (Nat.le_refl _) (Nat.le_refl _) ⟨rfl, a9, by first | exact hA | exact hA.si ⟨by decide, by decide⟩, hk, hs, ha, by first | exact Or.inr ⟨hb, by have z : ¬ n9.toInt = 0 := fun z => h180 (Int32.toInt_inj.mp z); omega⟩ | exact Or.inl (by show 0 ≤ (mv_i τ 74 3).toInt; rw [hA.2.2.2.1]; omega)⟩
              · skip
                refine mv_aload_n (pc := 211) B d_Book_readNumber_211 rfl 2 rfl ?_
                refine mv_aload_n (pc := 212) B d_Book_readNumber_212 rfl 2 rfl ?_
                refine mv_getI (pc := 213) (ci := 12) (C := R_Book) (T := F_Book) (N := 65) B 3 rfl rfl (by decide) i_Book (B.2.2.2.1 _ k_1846) rfl d_Book_readNumber_213 ?_
                refine mv_putI (pc := 216) (ci := 12) (C := R_Book) (T := F_Book) (N := 65) B 7 rfl rfl (by decide) i_Book t_Book_ok n_Book (B.2.2.2.1 _ k_1850) rfl rfl rfl rfl d_Book_readNumber_216 ?_
                exact mv_vret (pc := 219) B hr d_Book_readNumber_219 (Nat.le_refl _) (Nat.le_refl _) ⟨rfl, a9, by first | exact hA | exact hA.si ⟨by decide, by decide⟩, hk, hs, ha, by first | exact Or.inr ⟨hb, by have z : ¬ n9.toInt = 0 := fun z => h180 (Int32.toInt_inj.mp z); omega⟩ | exact Or.inl (by show 0 ≤ (mv_i τ 74 3).toInt; rw [hA.2.2.2.1]; omega)⟩
        · skip
          have hlt : a9 < len := hd (Int.not_lt.mp (fun z => h99 (Int32.lt_iff_toInt_lt.mpr z)))
          refine mv_iload_n (pc := 102) B d_Book_readNumber_102 rfl 3 rfl ?_
          refine mv_if_eq (pc := 103) (tgt := 112) B d_Book_readNumber_103 rfl (fun h103 => ?_) (fun h103 => ?_)
          · skip
            refine mv_aload_n (pc := 112) B d_Book_readNumber_112 rfl 2 rfl ?_
            refine mv_getL (pc := 113) (ci := 12) (C := R_Book) (T := F_Book) (N := 65) B 9 rfl rfl (by decide) i_Book (B.2.2.2.1 _ k_1852) rfl d_Book_readNumber_113 ?_
            refine mv_iload_n (pc := 116) B d_Book_readNumber_116 rfl 3 rfl ?_
            refine mv_if_eq (pc := 117) (tgt := 125) B d_Book_readNumber_117 rfl (fun h117 => ?_) (fun h117 => ?_)
            · skip
              refine mv_bipush (pc := 125) (v := 10) B d_Book_readNumber_125 (by decide) ?_
              refine mv_iload (pc := 127) B d_Book_readNumber_127 0 rfl ?_
              refine mv_callSi (pc := 129) (n := 3) B (mK_ok sk sv) hNs (c_Book_fits_0 l hi _ _ _ _) rfl (ma_goodc kc_Book_fits_0) (B.2.2.2.1 _ k_2139) (B.2.2.2.1 _ k_2140) (B.2.2.2.1 _ k_13) ⟨by decide +kernel, by decide +kernel, by decide +kernel⟩ rfl d_Book_readNumber_129 rfl (Nat.le_of_ble_eq_true rfl) ⟨by decide, by decide⟩ ⟨by decide, by decide⟩ ⟨by decide, by decide⟩ (mv_noH hno _) (fun v129 σ129 h129 => ?_)
              obtain ⟨e129, z129⟩ := h129
              have e129 := e129.symm
              subst e129
              refine mv_if_ne (pc := 132) (tgt := 138) B d_Book_readNumber_132 rfl (fun h132 => ?_) (fun h132 => ?_)
              · skip
                refine mv_aload_n (pc := 138) B d_Book_readNumber_138 rfl 2 rfl ?_
                refine mv_aload_n (pc := 139) B d_Book_readNumber_139 rfl 2 rfl ?_
                refine mv_getL (pc := 140) (ci := 12) (C := R_Book) (T := F_Book) (N := 65) B 9 rfl rfl (by decide) i_Book (B.2.2.2.1 _ k_1852) rfl d_Book_readNumber_140 ?_
                refine mv_iload_n (pc := 143) B d_Book_readNumber_143 rfl 3 rfl ?_
                refine mv_if_eq (pc := 144) (tgt := 152) B d_Book_readNumber_144 rfl (fun h144 => ?_) (fun h144 => ?_)
                · skip
                  refine mv_bipush (pc := 152) (v := 10) B d_Book_readNumber_152 (by decide) ?_
                  refine mv_i2l (pc := 154) B d_Book_readNumber_154 ?_
                  refine mv_lmul (pc := 155) B d_Book_readNumber_155 ?_
                  refine mv_iload (pc := 156) B d_Book_readNumber_156 0 rfl ?_
                  refine mv_i2l (pc := 158) B d_Book_readNumber_158 ?_
                  refine mv_ladd (pc := 159) B d_Book_readNumber_159 ?_
                  refine mv_putL (pc := 160) (ci := 12) (C := R_Book) (T := F_Book) (N := 65) B 9 rfl rfl (by decide) i_Book t_Book_ok n_Book (B.2.2.2.1 _ k_1852) rfl rfl d_Book_readNumber_160 ?_
                  refine mv_iinc (pc := 163) (j := 4) (v := 1) B d_Book_readNumber_163 rfl (by decide) (by decide) rfl ?_
                  refine mv_aload_n (pc := 166) B d_Book_readNumber_166 rfl 3 rfl ?_
                  refine mv_dup (pc := 167) B d_Book_readNumber_167 rfl ?_
                  refine mv_getI (pc := 168) (ci := 12) (C := R_Book) (T := F_Book) (N := 65) B 3 rfl rfl (by decide) i_Book (B.2.2.2.1 _ k_1846) rfl d_Book_readNumber_168 ?_
                  refine mv_iconst (pc := 171) (v := 1) B d_Book_readNumber_171 (by decide) ?_
                  refine mv_iadd (pc := 172) B d_Book_readNumber_172 ?_
                  refine mv_putI (pc := 173) (ci := 12) (C := R_Book) (T := F_Book) (N := 65) B 3 rfl rfl (by decide) i_Book t_Book_ok n_Book (B.2.2.2.1 _ k_1846) rfl rfl rfl rfl d_Book_readNumber_173 ?_
                  refine mv_gen (fun S176 eS176 => ?_)
                  have hA : Ta 74 len σ S176 (a9 + 1) := by rw [eS176]; exact hA.sl.inc hlt
                  have hk : mv_i S176 74 4 = 2 := by rw [eS176]; exact hk
                  have hs : mv_i S176 74 5 = mv_i σ 74 5 := by rw [eS176]; exact hs
                  have hb : mv_i S176 74 7 = mv_i σ 74 7 := by rw [eS176]; exact hb
                  have w9n : (n9 + 1).toInt = n9.toInt + 1 := i32_inc (by have := hA.2.2.2.2; omega)
                  clear eS176
                  refine mv_goto (pc := 176) (tgt := 60) B d_Book_readNumber_176 rfl ?_
                  refine mv_lpick [3, 4, 0] rfl ?_
                  exact ih _ _ _ _ hA hk hs hb (by omega) (by omega) (by omega) (by omega)
                · skip
                  refine mv_bipush (pc := 147) (v := 16) B d_Book_readNumber_147 (by decide) ?_
                  refine mv_goto (pc := 149) (tgt := 154) B d_Book_readNumber_149 rfl ?_
                  refine mv_i2l (pc := 154) B d_Book_readNumber_154 ?_
                  refine mv_lmul (pc := 155) B d_Book_readNumber_155 ?_
                  refine mv_iload (pc := 156) B d_Book_readNumber_156 0 rfl ?_
                  refine mv_i2l (pc := 158) B d_Book_readNumber_158 ?_
                  refine mv_ladd (pc := 159) B d_Book_readNumber_159 ?_
                  refine mv_putL (pc := 160) (ci := 12) (C := R_Book) (T := F_Book) (N := 65) B 9 rfl rfl (by decide) i_Book t_Book_ok n_Book (B.2.2.2.1 _ k_1852) rfl rfl d_Book_readNumber_160 ?_
                  refine mv_iinc (pc := 163) (j := 4) (v := 1) B d_Book_readNumber_163 rfl (by decide) (by decide) rfl ?_
                  refine mv_aload_n (pc := 166) B d_Book_readNumber_166 rfl 3 rfl ?_
                  refine mv_dup (pc := 167) B d_Book_readNumber_167 rfl ?_
                  refine mv_getI (pc := 168) (ci := 12) (C := R_Book) (T := F_Book) (N := 65) B 3 rfl rfl (by decide) i_Book (B.2.2.2.1 _ k_1846) rfl d_Book_readNumber_168 ?_
                  refine mv_iconst (pc := 171) (v := 1) B d_Book_readNumber_171 (by decide) ?_
                  refine mv_iadd (pc := 172) B d_Book_readNumber_172 ?_
                  refine mv_putI (pc := 173) (ci := 12) (C := R_Book) (T := F_Book) (N := 65) B 3 rfl rfl (by decide) i_Book t_Book_ok n_Book (B.2.2.2.1 _ k_1846) rfl rfl rfl rfl d_Book_readNumber_173 ?_
                  refine mv_gen (fun S176 eS176 => ?_)
                  have hA : Ta 74 len σ S176 (a9 + 1) := by rw [eS176]; exact hA.sl.inc hlt
                  have hk : mv_i S176 74 4 = 2 := by rw [eS176]; exact hk
                  have hs : mv_i S176 74 5 = mv_i σ 74 5 := by rw [eS176]; exact hs
                  have hb : mv_i S176 74 7 = mv_i σ 74 7 := by rw [eS176]; exact hb
                  have w9n : (n9 + 1).toInt = n9.toInt + 1 := i32_inc (by have := hA.2.2.2.2; omega)
                  clear eS176
                  refine mv_goto (pc := 176) (tgt := 60) B d_Book_readNumber_176 rfl ?_
                  refine mv_lpick [3, 4, 0] rfl ?_
                  exact ih _ _ _ _ hA hk hs hb (by omega) (by omega) (by omega) (by omega)
              · skip
                refine mv_goto (pc := 135) (tgt := 179) B d_Book_readNumber_135 rfl ?_
                refine mv_iload_n (pc := 179) B d_Book_readNumber_179 rfl 4 rfl ?_
                refine mv_if_eq (pc := 180) (tgt := 211) B d_Book_readNumber_180 rfl (fun h180 => ?_) (fun h180 => ?_)
                · skip
                  refine mv_aload_n (pc := 211) B d_Book_readNumber_211 rfl 2 rfl ?_
                  refine mv_aload_n (pc := 212) B d_Book_readNumber_212 rfl 2 rfl ?_
                  refine mv_getI (pc := 213) (ci := 12) (C := R_Book) (T := F_Book) (N := 65) B 3 rfl rfl (by decide) i_Book (B.2.2.2.1 _ k_1846) rfl d_Book_readNumber_213 ?_
                  refine mv_putI (pc := 216) (ci := 12) (C := R_Book) (T := F_Book) (N := 65) B 7 rfl rfl (by decide) i_Book t_Book_ok n_Book (B.2.2.2.1 _ k_1850) rfl rfl rfl rfl d_Book_readNumber_216 ?_
                  exact mv_vret (pc := 219) B hr d_Book_readNumber_219 (Nat.le_refl _) (Nat.le_refl _) ⟨rfl, a9, by first | exact hA | exact hA.si ⟨by decide, by decide⟩, hk, hs, ha, by first | exact Or.inr ⟨hb, by have z : ¬ n9.toInt = 0 := fun z => h180 (Int32.toInt_inj.mp z); omega⟩ | exact Or.inl (by show 0 ≤ (mv_i τ 74 3).toInt; rw [hA.2.2.2.1]; omega)⟩
                · skip
                  refine mv_aload_n (pc := 183) B d_Book_readNumber_183 rfl 2 rfl ?_
                  refine mv_aload_n (pc := 184) B d_Book_readNumber_184 rfl 2 rfl ?_
                  refine mv_getI (pc := 185) (ci := 12) (C := R_Book) (T := F_Book) (N := 65) B 3 rfl rfl (by decide) i_Book (B.2.2.2.1 _ k_1846) rfl d_Book_readNumber_185 ?_
                  refine mv_callVi (pc := 188) (n := 1) (ci := 12) (C := R_Book) B (mK_ok sk sv) hNs rfl rfl (c_Book_look_x l hi _ _ len hA.2.1 hA.2.2.1 hA.2.2.2.2.2 (by rw [hA.2.2.2.1]; omega)) rfl (ma_goodc kc_Book_look) (B.2.2.2.1 _ k_2122) (B.2.2.2.1 _ k_2124) (B.2.2.2.1 _ ks_82) (B.2.2.2.1 _ k_13) ⟨by decide +kernel, by decide +kernel, by decide +kernel⟩ rfl d_Book_readNumber_188 rfl (Nat.le_of_ble_eq_true rfl) ⟨by decide, by decide⟩ ⟨by decide, by decide⟩ ⟨by decide, by decide⟩ (mv_noH hno _) (fun v188 σ188 h188 => ?_)
                  obtain ⟨e188, w188, z188⟩ := h188
                  have e188 := e188.symm
                  subst e188
                  refine mv_callSi (pc := 191) (n := 1) B (mK_ok sk sv) hNs (c_Book_digit l hi _ _) rfl (ma_goodc kc_Book_digit) (B.2.2.2.1 _ k_2129) (B.2.2.2.1 _ k_2130) (B.2.2.2.1 _ k_13) ⟨by decide +kernel, by decide +kernel, by decide +kernel⟩ rfl d_Book_readNumber_191 rfl (Nat.le_of_ble_eq_true rfl) ⟨by decide, by decide⟩ ⟨by decide, by decide⟩ ⟨by decide, by decide⟩ (mv_noH hno _) (fun v191 σ191 h191 => ?_)
                  obtain ⟨e191, z191⟩ := h191
                  have e191 := e191.symm
                  subst e191
                  refine mv_if_ne (pc := 194) (tgt := 211) B d_Book_readNumber_194 rfl (fun h194 => ?_) (fun h194 => ?_)
                  · skip
                    refine mv_aload_n (pc := 211) B d_Book_readNumber_211 rfl 2 rfl ?_
                    refine mv_aload_n (pc := 212) B d_Book_readNumber_212 rfl 2 rfl ?_
                    refine mv_getI (pc := 213) (ci := 12) (C := R_Book) (T := F_Book) (N := 65) B 3 rfl rfl (by decide) i_Book (B.2.2.2.1 _ k_1846) rfl d_Book_readNumber_213 ?_
                    refine mv_putI (pc := 216) (ci := 12) (C := R_Book) (T := F_Book) (N := 65) B 7 rfl rfl (by decide) i_Book t_Book_ok n_Book (B.2.2.2.1 _ k_1850) rfl rfl rfl rfl d_Book_readNumber_216 ?_
                    exact mv_vret (pc := 219) B hr d_Book_readNumber_219 (Nat.le_refl _) (Nat.le_refl _) ⟨rfl, a9, by first | exact hA | exact hA.si ⟨by decide, by decide⟩, hk, hs, ha, by first | exact Or.inr ⟨hb, by have z : ¬ n9.toInt = 0 := fun z => h180 (Int32.toInt_inj.mp z); omega⟩ | exact Or.inl (by show 0 ≤ (mv_i τ 74 3).toInt; rw [hA.2.2.2.1]; omega)⟩
                  · skip
                    refine mv_aload_n (pc := 197) B d_Book_readNumber_197 rfl 2 rfl ?_
                    refine mv_aload_n (pc := 198) B d_Book_readNumber_198 rfl 2 rfl ?_
                    refine mv_getI (pc := 199) (ci := 12) (C := R_Book) (T := F_Book) (N := 65) B 3 rfl rfl (by decide) i_Book (B.2.2.2.1 _ k_1846) rfl d_Book_readNumber_199 ?_
                    refine mv_callVi (pc := 202) (n := 1) (ci := 12) (C := R_Book) B (mK_ok sk sv) hNs rfl rfl (c_Book_look_x l hi _ _ len hA.2.1 hA.2.2.1 hA.2.2.2.2.2 (by rw [hA.2.2.2.1]; omega)) rfl (ma_goodc kc_Book_look) (B.2.2.2.1 _ k_2122) (B.2.2.2.1 _ k_2124) (B.2.2.2.1 _ ks_82) (B.2.2.2.1 _ k_13) ⟨by decide +kernel, by decide +kernel, by decide +kernel⟩ rfl d_Book_readNumber_202 rfl (Nat.le_of_ble_eq_true rfl) ⟨by decide, by decide⟩ ⟨by decide, by decide⟩ ⟨by decide, by decide⟩ (mv_noH hno _) (fun v202 σ202 h202 => ?_)
                    obtain ⟨e202, w202, z202⟩ := h202
                    have e202 := e202.symm
                    subst e202
                    refine mv_callSi (pc := 205) (n := 1) B (mK_ok sk sv) hNs (c_Book_letter l hi _ _) rfl (ma_goodc kc_Book_letter) (B.2.2.2.1 _ k_2126) (B.2.2.2.1 _ k_2127) (B.2.2.2.1 _ k_13) ⟨by decide +kernel, by decide +kernel, by decide +kernel⟩ rfl d_Book_readNumber_205 rfl (Nat.le_of_ble_eq_true rfl) ⟨by decide, by decide⟩ ⟨by decide, by decide⟩ ⟨by decide, by decide⟩ (mv_noH hno _) (fun v205 σ205 h205 => ?_)
                    obtain ⟨e205, w205, z205⟩ := h205
                    have e205 := e205.symm
                    subst e205
                    refine mv_if_eq (pc := 208) (tgt := 219) B d_Book_readNumber_208 rfl (fun h208 => ?_) (fun h208 => ?_)
                    · skip
                      exact mv_vret (pc := 219) B hr d_Book_readNumber_219 (Nat.le_refl _) (Nat.le_refl _) ⟨rfl, a9, by first | exact hA | exact hA.si ⟨by decide, by decide⟩, hk, hs, ha, by first | exact Or.inr ⟨hb, by have z : ¬ n9.toInt = 0 := fun z => h180 (Int32.toInt_inj.mp z); omega⟩ | exact Or.inl (by show 0 ≤ (mv_i τ 74 3).toInt; rw [hA.2.2.2.1]; omega)⟩
                    · skip
                      refine mv_aload_n (pc := 211) B d_Book_readNumber_211 rfl 2 rfl ?_
                      refine mv_aload_n (pc := 212) B d_Book_readNumber_212 rfl 2 rfl ?_
                      refine mv_getI (pc := 213) (ci := 12) (C := R_Book) (T := F_Book) (N := 65) B 3 rfl rfl (by decide) i_Book (B.2.2.2.1 _ k_1846) rfl d_Book_readNumber_213 ?_
                      refine mv_putI (pc := 216) (ci := 12) (C := R_Book) (T := F_Book) (N := 65) B 7 rfl rfl (by decide) i_Book t_Book_ok n_Book (B.2.2.2.1 _ k_1850) rfl rfl rfl rfl d_Book_readNumber_216 ?_
                      exact mv_vret (pc := 219) B hr d_Book_readNumber_219 (Nat.le_refl _) (Nat.le_refl _) ⟨rfl, a9, by first | exact hA | exact hA.si ⟨by decide, by decide⟩, hk, hs, ha, by first | exact Or.inr ⟨hb, by have z : ¬ n9.toInt = 0 := fun z => h180 (Int32.toInt_inj.mp z); omega⟩ | exact Or.inl (by show 0 ≤ (mv_i τ 74 3).toInt; rw [hA.2.2.2.1]; omega)⟩
            · skip
              refine mv_bipush (pc := 120) (v := 16) B d_Book_readNumber_120 (by decide) ?_
              refine mv_goto (pc := 122) (tgt := 127) B d_Book_readNumber_122 rfl ?_
              refine mv_iload (pc := 127) B d_Book_readNumber_127 0 rfl ?_
              refine mv_callSi (pc := 129) (n := 3) B (mK_ok sk sv) hNs (c_Book_fits_0 l hi _ _ _ _) rfl (ma_goodc kc_Book_fits_0) (B.2.2.2.1 _ k_2139) (B.2.2.2.1 _ k_2140) (B.2.2.2.1 _ k_13) ⟨by decide +kernel, by decide +kernel, by decide +kernel⟩ rfl d_Book_readNumber_129 rfl (Nat.le_of_ble_eq_true rfl) ⟨by decide, by decide⟩ ⟨by decide, by decide⟩ ⟨by decide, by decide⟩ (mv_noH hno _) (fun v129 σ129 h129 => ?_)
              obtain ⟨e129, z129⟩ := h129
              have e129 := e129.symm
              subst e129
              refine mv_if_ne (pc := 132) (tgt := 138) B d_Book_readNumber_132 rfl (fun h132 => ?_) (fun h132 => ?_)
              · skip
                refine mv_aload_n (pc := 138) B d_Book_readNumber_138 rfl 2 rfl ?_
                refine mv_aload_n (pc := 139) B d_Book_readNumber_139 rfl 2 rfl ?_
                refine mv_getL (pc := 140) (ci := 12) (C := R_Book) (T := F_Book) (N := 65) B 9 rfl rfl (by decide) i_Book (B.2.2.2.1 _ k_1852) rfl d_Book_readNumber_140 ?_
                refine mv_iload_n (pc := 143) B d_Book_readNumber_143 rfl 3 rfl ?_
                refine mv_if_eq (pc := 144) (tgt := 152) B d_Book_readNumber_144 rfl (fun h144 => ?_) (fun h144 => ?_)
                · skip
                  refine mv_bipush (pc := 152) (v := 10) B d_Book_readNumber_152 (by decide) ?_
                  refine mv_i2l (pc := 154) B d_Book_readNumber_154 ?_
                  refine mv_lmul (pc := 155) B d_Book_readNumber_155 ?_
                  refine mv_iload (pc := 156) B d_Book_readNumber_156 0 rfl ?_
                  refine mv_i2l (pc := 158) B d_Book_readNumber_158 ?_
                  refine mv_ladd (pc := 159) B d_Book_readNumber_159 ?_
                  refine mv_putL (pc := 160) (ci := 12) (C := R_Book) (T := F_Book) (N := 65) B 9 rfl rfl (by decide) i_Book t_Book_ok n_Book (B.2.2.2.1 _ k_1852) rfl rfl d_Book_readNumber_160 ?_
                  refine mv_iinc (pc := 163) (j := 4) (v := 1) B d_Book_readNumber_163 rfl (by decide) (by decide) rfl ?_
                  refine mv_aload_n (pc := 166) B d_Book_readNumber_166 rfl 3 rfl ?_
                  refine mv_dup (pc := 167) B d_Book_readNumber_167 rfl ?_
                  refine mv_getI (pc := 168) (ci := 12) (C := R_Book) (T := F_Book) (N := 65) B 3 rfl rfl (by decide) i_Book (B.2.2.2.1 _ k_1846) rfl d_Book_readNumber_168 ?_
                  refine mv_iconst (pc := 171) (v := 1) B d_Book_readNumber_171 (by decide) ?_
                  refine mv_iadd (pc := 172) B d_Book_readNumber_172 ?_
                  refine mv_putI (pc := 173) (ci := 12) (C := R_Book) (T := F_Book) (N := 65) B 3 rfl rfl (by decide) i_Book t_Book_ok n_Book (B.2.2.2.1 _ k_1846) rfl rfl rfl rfl d_Book_readNumber_173 ?_
                  refine mv_gen (fun S176 eS176 => ?_)
                  have hA : Ta 74 len σ S176 (a9 + 1) := by rw [eS176]; exact hA.sl.inc hlt
                  have hk : mv_i S176 74 4 = 2 := by rw [eS176]; exact hk
                  have hs : mv_i S176 74 5 = mv_i σ 74 5 := by rw [eS176]; exact hs
                  have hb : mv_i S176 74 7 = mv_i σ 74 7 := by rw [eS176]; exact hb
                  have w9n : (n9 + 1).toInt = n9.toInt + 1 := i32_inc (by have := hA.2.2.2.2; omega)
                  clear eS176
                  refine mv_goto (pc := 176) (tgt := 60) B d_Book_readNumber_176 rfl ?_
                  refine mv_lpick [3, 4, 0] rfl ?_
                  exact ih _ _ _ _ hA hk hs hb (by omega) (by omega) (by omega) (by omega)
                · skip
                  refine mv_bipush (pc := 147) (v := 16) B d_Book_readNumber_147 (by decide) ?_
                  refine mv_goto (pc := 149) (tgt := 154) B d_Book_readNumber_149 rfl ?_
                  refine mv_i2l (pc := 154) B d_Book_readNumber_154 ?_
                  refine mv_lmul (pc := 155) B d_Book_readNumber_155 ?_
                  refine mv_iload (pc := 156) B d_Book_readNumber_156 0 rfl ?_
                  refine mv_i2l (pc := 158) B d_Book_readNumber_158 ?_
                  refine mv_ladd (pc := 159) B d_Book_readNumber_159 ?_
                  refine mv_putL (pc := 160) (ci := 12) (C := R_Book) (T := F_Book) (N := 65) B 9 rfl rfl (by decide) i_Book t_Book_ok n_Book (B.2.2.2.1 _ k_1852) rfl rfl d_Book_readNumber_160 ?_
                  refine mv_iinc (pc := 163) (j := 4) (v := 1) B d_Book_readNumber_163 rfl (by decide) (by decide) rfl ?_
                  refine mv_aload_n (pc := 166) B d_Book_readNumber_166 rfl 3 rfl ?_
                  refine mv_dup (pc := 167) B d_Book_readNumber_167 rfl ?_
                  refine mv_getI (pc := 168) (ci := 12) (C := R_Book) (T := F_Book) (N := 65) B 3 rfl rfl (by decide) i_Book (B.2.2.2.1 _ k_1846) rfl d_Book_readNumber_168 ?_
                  refine mv_iconst (pc := 171) (v := 1) B d_Book_readNumber_171 (by decide) ?_
                  refine mv_iadd (pc := 172) B d_Book_readNumber_172 ?_
                  refine mv_putI (pc := 173) (ci := 12) (C := R_Book) (T := F_Book) (N := 65) B 3 rfl rfl (by decide) i_Book t_Book_ok n_Book (B.2.2.2.1 _ k_1846) rfl rfl rfl rfl d_Book_readNumber_173 ?_
                  refine mv_gen (fun S176 eS176 => ?_)
                  have hA : Ta 74 len σ S176 (a9 + 1) := by rw [eS176]; exact hA.sl.inc hlt
                  have hk : mv_i S176 74 4 = 2 := by rw [eS176]; exact hk
                  have hs : mv_i S176 74 5 = mv_i σ 74 5 := by rw [eS176]; exact hs
                  have hb : mv_i S176 74 7 = mv_i σ 74 7 := by rw [eS176]; exact hb
                  have w9n : (n9 + 1).toInt = n9.toInt + 1 := i32_inc (by have := hA.2.2.2.2; omega)
                  clear eS176
                  refine mv_goto (pc := 176) (tgt := 60) B d_Book_readNumber_176 rfl ?_
                  refine mv_lpick [3, 4, 0] rfl ?_
                  exact ih _ _ _ _ hA hk hs hb (by omega) (by omega) (by omega) (by omega)
              · skip
                refine mv_goto (pc := 135) (tgt := 179) B d_Book_readNumber_135 rfl ?_
                refine mv_iload_n (pc := 179) B d_Book_readNumber_179 rfl 4 rfl ?_
                refine mv_if_eq (pc := 180) (tgt := 211) B d_Book_readNumber_180 rfl (fun h180 => ?_) (fun h180 => ?_)
                · skip
                  refine mv_aload_n (pc := 211) B d_Book_readNumber_211 rfl 2 rfl ?_
                  refine mv_aload_n (pc := 212) B d_Book_readNumber_212 rfl 2 rfl ?_
                  refine mv_getI (pc := 213) (ci := 12) (C := R_Book) (T := F_Book) (N := 65) B 3 rfl rfl (by decide) i_Book (B.2.2.2.1 _ k_1846) rfl d_Book_readNumber_213 ?_
                  refine mv_putI (pc := 216) (ci := 12) (C := R_Book) (T := F_Book) (N := 65) B 7 rfl rfl (by decide) i_Book t_Book_ok n_Book (B.2.2.2.1 _ k_1850) rfl rfl rfl rfl d_Book_readNumber_216 ?_
                  exact mv_vret (pc := 219) B hr d_Book_readNumber_219 (Nat.le_refl _) (Nat.le_refl _) ⟨rfl, a9, by first | exact hA | exact hA.si ⟨by decide, by decide⟩, hk, hs, ha, by first | exact Or.inr ⟨hb, by have z : ¬ n9.toInt = 0 := fun z => h180 (Int32.toInt_inj.mp z); omega⟩ | exact Or.inl (by show 0 ≤ (mv_i τ 74 3).toInt; rw [hA.2.2.2.1]; omega)⟩
                · skip
                  refine mv_aload_n (pc := 183) B d_Book_readNumber_183 rfl 2 rfl ?_
                  refine mv_aload_n (pc := 184) B d_Book_readNumber_184 rfl 2 rfl ?_
                  refine mv_getI (pc := 185) (ci := 12) (C := R_Book) (T := F_Book) (N := 65) B 3 rfl rfl (by decide) i_Book (B.2.2.2.1 _ k_1846) rfl d_Book_readNumber_185 ?_
                  refine mv_callVi (pc := 188) (n := 1) (ci := 12) (C := R_Book) B (mK_ok sk sv) hNs rfl rfl (c_Book_look_x l hi _ _ len hA.2.1 hA.2.2.1 hA.2.2.2.2.2 (by rw [hA.2.2.2.1]; omega)) rfl (ma_goodc kc_Book_look) (B.2.2.2.1 _ k_2122) (B.2.2.2.1 _ k_2124) (B.2.2.2.1 _ ks_82) (B.2.2.2.1 _ k_13) ⟨by decide +kernel, by decide +kernel, by decide +kernel⟩ rfl d_Book_readNumber_188 rfl (Nat.le_of_ble_eq_true rfl) ⟨by decide, by decide⟩ ⟨by decide, by decide⟩ ⟨by decide, by decide⟩ (mv_noH hno _) (fun v188 σ188 h188 => ?_)
                  obtain ⟨e188, w188, z188⟩ := h188
                  have e188 := e188.symm
                  subst e188
                  refine mv_callSi (pc := 191) (n := 1) B (mK_ok sk sv) hNs (c_Book_digit l hi _ _) rfl (ma_goodc kc_Book_digit) (B.2.2.2.1 _ k_2129) (B.2.2.2.1 _ k_2130) (B.2.2.2.1 _ k_13) ⟨by decide +kernel, by decide +kernel, by decide +kernel⟩ rfl d_Book_readNumber_191 rfl (Nat.le_of_ble_eq_true rfl) ⟨by decide, by decide⟩ ⟨by decide, by decide⟩ ⟨by decide, by decide⟩ (mv_noH hno _) (fun v191 σ191 h191 => ?_)
                  obtain ⟨e191, z191⟩ := h191
                  have e191 := e191.symm
                  subst e191
                  refine mv_if_ne (pc := 194) (tgt := 211) B d_Book_readNumber_194 rfl (fun h194 => ?_) (fun h194 => ?_)
                  · skip
                    refine mv_aload_n (pc := 211) B d_Book_readNumber_211 rfl 2 rfl ?_
                    refine mv_aload_n (pc := 212) B d_Book_readNumber_212 rfl 2 rfl ?_
                    refine mv_getI (pc := 213) (ci := 12) (C := R_Book) (T := F_Book) (N := 65) B 3 rfl rfl (by decide) i_Book (B.2.2.2.1 _ k_1846) rfl d_Book_readNumber_213 ?_
                    refine mv_putI (pc := 216) (ci := 12) (C := R_Book) (T := F_Book) (N := 65) B 7 rfl rfl (by decide) i_Book t_Book_ok n_Book (B.2.2.2.1 _ k_1850) rfl rfl rfl rfl d_Book_readNumber_216 ?_
                    exact mv_vret (pc := 219) B hr d_Book_readNumber_219 (Nat.le_refl _) (Nat.le_refl _) ⟨rfl, a9, by first | exact hA | exact hA.si ⟨by decide, by decide⟩, hk, hs, ha, by first | exact Or.inr ⟨hb, by have z : ¬ n9.toInt = 0 := fun z => h180 (Int32.toInt_inj.mp z); omega⟩ | exact Or.inl (by show 0 ≤ (mv_i τ 74 3).toInt; rw [hA.2.2.2.1]; omega)⟩
                  · skip
                    refine mv_aload_n (pc := 197) B d_Book_readNumber_197 rfl 2 rfl ?_
                    refine mv_aload_n (pc := 198) B d_Book_readNumber_198 rfl 2 rfl ?_
                    refine mv_getI (pc := 199) (ci := 12) (C := R_Book) (T := F_Book) (N := 65) B 3 rfl rfl (by decide) i_Book (B.2.2.2.1 _ k_1846) rfl d_Book_readNumber_199 ?_
                    refine mv_callVi (pc := 202) (n := 1) (ci := 12) (C := R_Book) B (mK_ok sk sv) hNs rfl rfl (c_Book_look_x l hi _ _ len hA.2.1 hA.2.2.1 hA.2.2.2.2.2 (by rw [hA.2.2.2.1]; omega)) rfl (ma_goodc kc_Book_look) (B.2.2.2.1 _ k_2122) (B.2.2.2.1 _ k_2124) (B.2.2.2.1 _ ks_82) (B.2.2.2.1 _ k_13) ⟨by decide +kernel, by decide +kernel, by decide +kernel⟩ rfl d_Book_readNumber_202 rfl (Nat.le_of_ble_eq_true rfl) ⟨by decide, by decide⟩ ⟨by decide, by decide⟩ ⟨by decide, by decide⟩ (mv_noH hno _) (fun v202 σ202 h202 => ?_)
                    obtain ⟨e202, w202, z202⟩ := h202
                    have e202 := e202.symm
                    subst e202
                    refine mv_callSi (pc := 205) (n := 1) B (mK_ok sk sv) hNs (c_Book_letter l hi _ _) rfl (ma_goodc kc_Book_letter) (B.2.2.2.1 _ k_2126) (B.2.2.2.1 _ k_2127) (B.2.2.2.1 _ k_13) ⟨by decide +kernel, by decide +kernel, by decide +kernel⟩ rfl d_Book_readNumber_205 rfl (Nat.le_of_ble_eq_true rfl) ⟨by decide, by decide⟩ ⟨by decide, by decide⟩ ⟨by decide, by decide⟩ (mv_noH hno _) (fun v205 σ205 h205 => ?_)
                    obtain ⟨e205, w205, z205⟩ := h205
                    have e205 := e205.symm
                    subst e205
                    refine mv_if_eq (pc := 208) (tgt := 219) B d_Book_readNumber_208 rfl (fun h208 => ?_) (fun h208 => ?_)
                    · skip
                      exact mv_vret (pc := 219) B hr d_Book_readNumber_219 (Nat.le_refl _) (Nat.le_refl _) ⟨rfl, a9, by first | exact hA | exact hA.si ⟨by decide, by decide⟩, hk, hs, ha, by first | exact Or.inr ⟨hb, by have z : ¬ n9.toInt = 0 := fun z => h180 (Int32.toInt_inj.mp z); omega⟩ | exact Or.inl (by show 0 ≤ (mv_i τ 74 3).toInt; rw [hA.2.2.2.1]; omega)⟩
                    · skip
                      refine mv_aload_n (pc := 211) B d_Book_readNumber_211 rfl 2 rfl ?_
                      refine mv_aload_n (pc := 212) B d_Book_readNumber_212 rfl 2 rfl ?_
                      refine mv_getI (pc := 213) (ci := 12) (C := R_Book) (T := F_Book) (N := 65) B 3 rfl rfl (by decide) i_Book (B.2.2.2.1 _ k_1846) rfl d_Book_readNumber_213 ?_
                      refine mv_putI (pc := 216) (ci := 12) (C := R_Book) (T := F_Book) (N := 65) B 7 rfl rfl (by decide) i_Book t_Book_ok n_Book (B.2.2.2.1 _ k_1850) rfl rfl rfl rfl d_Book_readNumber_216 ?_
                      exact mv_vret (pc := 219) B hr d_Book_readNumber_219 (Nat.le_refl _) (Nat.le_refl _) ⟨rfl, a9, by first | exact hA | exact hA.si ⟨by decide, by decide⟩, hk, hs, ha, by first | exact Or.inr ⟨hb, by have z : ¬ n9.toInt = 0 := fun z => h180 (Int32.toInt_inj.mp z); omega⟩ | exact Or.inl (by show 0 ≤ (mv_i τ 74 3).toInt; rw [hA.2.2.2.1]; omega)⟩
          · skip
            refine mv_iload_n (pc := 106) B d_Book_readNumber_106 rfl 4 rfl ?_
            refine mv_bipush (pc := 107) (v := 16) B d_Book_readNumber_107 (by decide) ?_
            refine mv_icmp_eq (pc := 109) (tgt := 179) B d_Book_readNumber_109 rfl (fun h109 => ?_) (fun h109 => ?_)
            · skip
              refine mv_iload_n (pc := 179) B d_Book_readNumber_179 rfl 4 rfl ?_
              refine mv_if_eq (pc := 180) (tgt := 211) B d_Book_readNumber_180 rfl (fun h180 => ?_) (fun h180 => ?_)
              · skip
                refine mv_aload_n (pc := 211) B d_Book_readNumber_211 rfl 2 rfl ?_
                refine mv_aload_n (pc := 212) B d_Book_readNumber_212 rfl 2 rfl ?_
                refine mv_getI (pc := 213) (ci := 12) (C := R_Book) (T := F_Book) (N := 65) B 3 rfl rfl (by decide) i_Book (B.2.2.2.1 _ k_1846) rfl d_Book_readNumber_213 ?_
                refine mv_putI (pc := 216) (ci := 12) (C := R_Book) (T := F_Book) (N := 65) B 7 rfl rfl (by decide) i_Book t_Book_ok n_Book (B.2.2.2.1 _ k_1850) rfl rfl rfl rfl d_Book_readNumber_216 ?_
                exact mv_vret (pc := 219) B hr d_Book_readNumber_219 (Nat.le_refl _) (Nat.le_refl _) ⟨rfl, a9, by first | exact hA | exact hA.si ⟨by decide, by decide⟩, hk, hs, ha, by first | exact Or.inr ⟨hb, by have z : ¬ n9.toInt = 0 := fun z => h180 (Int32.toInt_inj.mp z); omega⟩ | exact Or.inl (by show 0 ≤ (mv_i τ 74 3).toInt; rw [hA.2.2.2.1]; omega)⟩
              · skip
                refine mv_aload_n (pc := 183) B d_Book_readNumber_183 rfl 2 rfl ?_
                refine mv_aload_n (pc := 184) B d_Book_readNumber_184 rfl 2 rfl ?_
                refine mv_getI (pc := 185) (ci := 12) (C := R_Book) (T := F_Book) (N := 65) B 3 rfl rfl (by decide) i_Book (B.2.2.2.1 _ k_1846) rfl d_Book_readNumber_185 ?_
                refine mv_callVi (pc := 188) (n := 1) (ci := 12) (C := R_Book) B (mK_ok sk sv) hNs rfl rfl (c_Book_look_x l hi _ _ len hA.2.1 hA.2.2.1 hA.2.2.2.2.2 (by rw [hA.2.2.2.1]; omega)) rfl (ma_goodc kc_Book_look) (B.2.2.2.1 _ k_2122) (B.2.2.2.1 _ k_2124) (B.2.2.2.1 _ ks_82) (B.2.2.2.1 _ k_13) ⟨by decide +kernel, by decide +kernel, by decide +kernel⟩ rfl d_Book_readNumber_188 rfl (Nat.le_of_ble_eq_true rfl) ⟨by decide, by decide⟩ ⟨by decide, by decide⟩ ⟨by decide, by decide⟩ (mv_noH hno _) (fun v188 σ188 h188 => ?_)
                obtain ⟨e188, w188, z188⟩ := h188
                have e188 := e188.symm
                subst e188
                refine mv_callSi (pc := 191) (n := 1) B (mK_ok sk sv) hNs (c_Book_digit l hi _ _) rfl (ma_goodc kc_Book_digit) (B.2.2.2.1 _ k_2129) (B.2.2.2.1 _ k_2130) (B.2.2.2.1 _ k_13) ⟨by decide +kernel, by decide +kernel, by decide +kernel⟩ rfl d_Book_readNumber_191 rfl (Nat.le_of_ble_eq_true rfl) ⟨by decide, by decide⟩ ⟨by decide, by decide⟩ ⟨by decide, by decide⟩ (mv_noH hno _) (fun v191 σ191 h191 => ?_)
                obtain ⟨e191, z191⟩ := h191
                have e191 := e191.symm
                subst e191
                refine mv_if_ne (pc := 194) (tgt := 211) B d_Book_readNumber_194 rfl (fun h194 => ?_) (fun h194 => ?_)
                · skip
                  refine mv_aload_n (pc := 211) B d_Book_readNumber_211 rfl 2 rfl ?_
                  refine mv_aload_n (pc := 212) B d_Book_readNumber_212 rfl 2 rfl ?_
                  refine mv_getI (pc := 213) (ci := 12) (C := R_Book) (T := F_Book) (N := 65) B 3 rfl rfl (by decide) i_Book (B.2.2.2.1 _ k_1846) rfl d_Book_readNumber_213 ?_
                  refine mv_putI (pc := 216) (ci := 12) (C := R_Book) (T := F_Book) (N := 65) B 7 rfl rfl (by decide) i_Book t_Book_ok n_Book (B.2.2.2.1 _ k_1850) rfl rfl rfl rfl d_Book_readNumber_216 ?_
                  exact mv_vret (pc := 219) B hr d_Book_readNumber_219 (Nat.le_refl _) (Nat.le_refl _) ⟨rfl, a9, by first | exact hA | exact hA.si ⟨by decide, by decide⟩, hk, hs, ha, by first | exact Or.inr ⟨hb, by have z : ¬ n9.toInt = 0 := fun z => h180 (Int32.toInt_inj.mp z); omega⟩ | exact Or.inl (by show 0 ≤ (mv_i τ 74 3).toInt; rw [hA.2.2.2.1]; omega)⟩
                · skip
                  refine mv_aload_n (pc := 197) B d_Book_readNumber_197 rfl 2 rfl ?_
                  refine mv_aload_n (pc := 198) B d_Book_readNumber_198 rfl 2 rfl ?_
                  refine mv_getI (pc := 199) (ci := 12) (C := R_Book) (T := F_Book) (N := 65) B 3 rfl rfl (by decide) i_Book (B.2.2.2.1 _ k_1846) rfl d_Book_readNumber_199 ?_
                  refine mv_callVi (pc := 202) (n := 1) (ci := 12) (C := R_Book) B (mK_ok sk sv) hNs rfl rfl (c_Book_look_x l hi _ _ len hA.2.1 hA.2.2.1 hA.2.2.2.2.2 (by rw [hA.2.2.2.1]; omega)) rfl (ma_goodc kc_Book_look) (B.2.2.2.1 _ k_2122) (B.2.2.2.1 _ k_2124) (B.2.2.2.1 _ ks_82) (B.2.2.2.1 _ k_13) ⟨by decide +kernel, by decide +kernel, by decide +kernel⟩ rfl d_Book_readNumber_202 rfl (Nat.le_of_ble_eq_true rfl) ⟨by decide, by decide⟩ ⟨by decide, by decide⟩ ⟨by decide, by decide⟩ (mv_noH hno _) (fun v202 σ202 h202 => ?_)
                  obtain ⟨e202, w202, z202⟩ := h202
                  have e202 := e202.symm
                  subst e202
                  refine mv_callSi (pc := 205) (n := 1) B (mK_ok sk sv) hNs (c_Book_letter l hi _ _) rfl (ma_goodc kc_Book_letter) (B.2.2.2.1 _ k_2126) (B.2.2.2.1 _ k_2127) (B.2.2.2.1 _ k_13) ⟨by decide +kernel, by decide +kernel, by decide +kernel⟩ rfl d_Book_readNumber_205 rfl (Nat.le_of_ble_eq_true rfl) ⟨by decide, by decide⟩ ⟨by decide, by decide⟩ ⟨by decide, by decide⟩ (mv_noH hno _) (fun v205 σ205 h205 => ?_)
                  obtain ⟨e205, w205, z205⟩ := h205
                  have e205 := e205.symm
                  subst e205
                  refine mv_if_eq (pc := 208) (tgt := 219) B d_Book_readNumber_208 rfl (fun h208 => ?_) (fun h208 => ?_)
                  · skip
                    exact mv_vret (pc := 219) B hr d_Book_readNumber_219 (Nat.le_refl _) (Nat.le_refl _) ⟨rfl, a9, by first | exact hA | exact hA.si ⟨by decide, by decide⟩, hk, hs, ha, by first | exact Or.inr ⟨hb, by have z : ¬ n9.toInt = 0 := fun z => h180 (Int32.toInt_inj.mp z); omega⟩ | exact Or.inl (by show 0 ≤ (mv_i τ 74 3).toInt; rw [hA.2.2.2.1]; omega)⟩
                  · skip
                    refine mv_aload_n (pc := 211) B d_Book_readNumber_211 rfl 2 rfl ?_
                    refine mv_aload_n (pc := 212) B d_Book_readNumber_212 rfl 2 rfl ?_
                    refine mv_getI (pc := 213) (ci := 12) (C := R_Book) (T := F_Book) (N := 65) B 3 rfl rfl (by decide) i_Book (B.2.2.2.1 _ k_1846) rfl d_Book_readNumber_213 ?_
                    refine mv_putI (pc := 216) (ci := 12) (C := R_Book) (T := F_Book) (N := 65) B 7 rfl rfl (by decide) i_Book t_Book_ok n_Book (B.2.2.2.1 _ k_1850) rfl rfl rfl rfl d_Book_readNumber_216 ?_
                    exact mv_vret (pc := 219) B hr d_Book_readNumber_219 (Nat.le_refl _) (Nat.le_refl _) ⟨rfl, a9, by first | exact hA | exact hA.si ⟨by decide, by decide⟩, hk, hs, ha, by first | exact Or.inr ⟨hb, by have z : ¬ n9.toInt = 0 := fun z => h180 (Int32.toInt_inj.mp z); omega⟩ | exact Or.inl (by show 0 ≤ (mv_i τ 74 3).toInt; rw [hA.2.2.2.1]; omega)⟩
            · skip
              refine mv_aload_n (pc := 112) B d_Book_readNumber_112 rfl 2 rfl ?_
              refine mv_getL (pc := 113) (ci := 12) (C := R_Book) (T := F_Book) (N := 65) B 9 rfl rfl (by decide) i_Book (B.2.2.2.1 _ k_1852) rfl d_Book_readNumber_113 ?_
              refine mv_iload_n (pc := 116) B d_Book_readNumber_116 rfl 3 rfl ?_
              refine mv_if_eq (pc := 117) (tgt := 125) B d_Book_readNumber_117 rfl (fun h117 => ?_) (fun h117 => ?_)
              · skip
                refine mv_bipush (pc := 125) (v := 10) B d_Book_readNumber_125 (by decide) ?_
                refine mv_iload (pc := 127) B d_Book_readNumber_127 0 rfl ?_
                refine mv_callSi (pc := 129) (n := 3) B (mK_ok sk sv) hNs (c_Book_fits_0 l hi _ _ _ _) rfl (ma_goodc kc_Book_fits_0) (B.2.2.2.1 _ k_2139) (B.2.2.2.1 _ k_2140) (B.2.2.2.1 _ k_13) ⟨by decide +kernel, by decide +kernel, by decide +kernel⟩ rfl d_Book_readNumber_129 rfl (Nat.le_of_ble_eq_true rfl) ⟨by decide, by decide⟩ ⟨by decide, by decide⟩ ⟨by decide, by decide⟩ (mv_noH hno _) (fun v129 σ129 h129 => ?_)
                obtain ⟨e129, z129⟩ := h129
                have e129 := e129.symm
                subst e129
                refine mv_if_ne (pc := 132) (tgt := 138) B d_Book_readNumber_132 rfl (fun h132 => ?_) (fun h132 => ?_)
                · skip
                  refine mv_aload_n (pc := 138) B d_Book_readNumber_138 rfl 2 rfl ?_
                  refine mv_aload_n (pc := 139) B d_Book_readNumber_139 rfl 2 rfl ?_
                  refine mv_getL (pc := 140) (ci := 12) (C := R_Book) (T := F_Book) (N := 65) B 9 rfl rfl (by decide) i_Book (B.2.2.2.1 _ k_1852) rfl d_Book_readNumber_140 ?_
                  refine mv_iload_n (pc := 143) B d_Book_readNumber_143 rfl 3 rfl ?_
                  refine mv_if_eq (pc := 144) (tgt := 152) B d_Book_readNumber_144 rfl (fun h144 => ?_) (fun h144 => ?_)
                  · skip
                    refine mv_bipush (pc := 152) (v := 10) B d_Book_readNumber_152 (by decide) ?_
                    refine mv_i2l (pc := 154) B d_Book_readNumber_154 ?_
                    refine mv_lmul (pc := 155) B d_Book_readNumber_155 ?_
                    refine mv_iload (pc := 156) B d_Book_readNumber_156 0 rfl ?_
                    refine mv_i2l (pc := 158) B d_Book_readNumber_158 ?_
                    refine mv_ladd (pc := 159) B d_Book_readNumber_159 ?_
                    refine mv_putL (pc := 160) (ci := 12) (C := R_Book) (T := F_Book) (N := 65) B 9 rfl rfl (by decide) i_Book t_Book_ok n_Book (B.2.2.2.1 _ k_1852) rfl rfl d_Book_readNumber_160 ?_
                    refine mv_iinc (pc := 163) (j := 4) (v := 1) B d_Book_readNumber_163 rfl (by decide) (by decide) rfl ?_
                    refine mv_aload_n (pc := 166) B d_Book_readNumber_166 rfl 3 rfl ?_
                    refine mv_dup (pc := 167) B d_Book_readNumber_167 rfl ?_
                    refine mv_getI (pc := 168) (ci := 12) (C := R_Book) (T := F_Book) (N := 65) B 3 rfl rfl (by decide) i_Book (B.2.2.2.1 _ k_1846) rfl d_Book_readNumber_168 ?_
                    refine mv_iconst (pc := 171) (v := 1) B d_Book_readNumber_171 (by decide) ?_
                    refine mv_iadd (pc := 172) B d_Book_readNumber_172 ?_
                    refine mv_putI (pc := 173) (ci := 12) (C := R_Book) (T := F_Book) (N := 65) B 3 rfl rfl (by decide) i_Book t_Book_ok n_Book (B.2.2.2.1 _ k_1846) rfl rfl rfl rfl d_Book_readNumber_173 ?_
                    refine mv_gen (fun S176 eS176 => ?_)
                    have hA : Ta 74 len σ S176 (a9 + 1) := by rw [eS176]; exact hA.sl.inc hlt
                    have hk : mv_i S176 74 4 = 2 := by rw [eS176]; exact hk
                    have hs : mv_i S176 74 5 = mv_i σ 74 5 := by rw [eS176]; exact hs
                    have hb : mv_i S176 74 7 = mv_i σ 74 7 := by rw [eS176]; exact hb
                    have w9n : (n9 + 1).toInt = n9.toInt + 1 := i32_inc (by have := hA.2.2.2.2; omega)
                    clear eS176
                    refine mv_goto (pc := 176) (tgt := 60) B d_Book_readNumber_176 rfl ?_
                    refine mv_lpick [3, 4, 0] rfl ?_
                    exact ih _ _ _ _ hA hk hs hb (by omega) (by omega) (by omega) (by omega)
                  · skip
                    refine mv_bipush (pc := 147) (v := 16) B d_Book_readNumber_147 (by decide) ?_
                    refine mv_goto (pc := 149) (tgt := 154) B d_Book_readNumber_149 rfl ?_
                    refine mv_i2l (pc := 154) B d_Book_readNumber_154 ?_
                    refine mv_lmul (pc := 155) B d_Book_readNumber_155 ?_
                    refine mv_iload (pc := 156) B d_Book_readNumber_156 0 rfl ?_
                    refine mv_i2l (pc := 158) B d_Book_readNumber_158 ?_
                    refine mv_ladd (pc := 159) B d_Book_readNumber_159 ?_
                    refine mv_putL (pc := 160) (ci := 12) (C := R_Book) (T := F_Book) (N := 65) B 9 rfl rfl (by decide) i_Book t_Book_ok n_Book (B.2.2.2.1 _ k_1852) rfl rfl d_Book_readNumber_160 ?_
                    refine mv_iinc (pc := 163) (j := 4) (v := 1) B d_Book_readNumber_163 rfl (by decide) (by decide) rfl ?_
                    refine mv_aload_n (pc := 166) B d_Book_readNumber_166 rfl 3 rfl ?_
                    refine mv_dup (pc := 167) B d_Book_readNumber_167 rfl ?_
                    refine mv_getI (pc := 168) (ci := 12) (C := R_Book) (T := F_Book) (N := 65) B 3 rfl rfl (by decide) i_Book (B.2.2.2.1 _ k_1846) rfl d_Book_readNumber_168 ?_
                    refine mv_iconst (pc := 171) (v := 1) B d_Book_readNumber_171 (by decide) ?_
                    refine mv_iadd (pc := 172) B d_Book_readNumber_172 ?_
                    refine mv_putI (pc := 173) (ci := 12) (C := R_Book) (T := F_Book) (N := 65) B 3 rfl rfl (by decide) i_Book t_Book_ok n_Book (B.2.2.2.1 _ k_1846) rfl rfl rfl rfl d_Book_readNumber_173 ?_
                    refine mv_gen (fun S176 eS176 => ?_)
                    have hA : Ta 74 len σ S176 (a9 + 1) := by rw [eS176]; exact hA.sl.inc hlt
                    have hk : mv_i S176 74 4 = 2 := by rw [eS176]; exact hk
                    have hs : mv_i S176 74 5 = mv_i σ 74 5 := by rw [eS176]; exact hs
                    have hb : mv_i S176 74 7 = mv_i σ 74 7 := by rw [eS176]; exact hb
                    have w9n : (n9 + 1).toInt = n9.toInt + 1 := i32_inc (by have := hA.2.2.2.2; omega)
                    clear eS176
                    refine mv_goto (pc := 176) (tgt := 60) B d_Book_readNumber_176 rfl ?_
                    refine mv_lpick [3, 4, 0] rfl ?_
                    exact ih _ _ _ _ hA hk hs hb (by omega) (by omega) (by omega) (by omega)
                · skip
                  refine mv_goto (pc := 135) (tgt := 179) B d_Book_readNumber_135 rfl ?_
                  refine mv_iload_n (pc := 179) B d_Book_readNumber_179 rfl 4 rfl ?_
                  refine mv_if_eq (pc := 180) (tgt := 211) B d_Book_readNumber_180 rfl (fun h180 => ?_) (fun h180 => ?_)
                  · skip
                    refine mv_aload_n (pc := 211) B d_Book_readNumber_211 rfl 2 rfl ?_
                    refine mv_aload_n (pc := 212) B d_Book_readNumber_212 rfl 2 rfl ?_
                    refine mv_getI (pc := 213) (ci := 12) (C := R_Book) (T := F_Book) (N := 65) B 3 rfl rfl (by decide) i_Book (B.2.2.2.1 _ k_1846) rfl d_Book_readNumber_213 ?_
                    refine mv_putI (pc := 216) (ci := 12) (C := R_Book) (T := F_Book) (N := 65) B 7 rfl rfl (by decide) i_Book t_Book_ok n_Book (B.2.2.2.1 _ k_1850) rfl rfl rfl rfl d_Book_readNumber_216 ?_
                    exact mv_vret (pc := 219) B hr d_Book_readNumber_219 (Nat.le_refl _) (Nat.le_refl _) ⟨rfl, a9, by first | exact hA | exact hA.si ⟨by decide, by decide⟩, hk, hs, ha, by first | exact Or.inr ⟨hb, by have z : ¬ n9.toInt = 0 := fun z => h180 (Int32.toInt_inj.mp z); omega⟩ | exact Or.inl (by show 0 ≤ (mv_i τ 74 3).toInt; rw [hA.2.2.2.1]; omega)⟩
                  · skip
                    refine mv_aload_n (pc := 183) B d_Book_readNumber_183 rfl 2 rfl ?_
                    refine mv_aload_n (pc := 184) B d_Book_readNumber_184 rfl 2 rfl ?_
                    refine mv_getI (pc := 185) (ci := 12) (C := R_Book) (T := F_Book) (N := 65) B 3 rfl rfl (by decide) i_Book (B.2.2.2.1 _ k_1846) rfl d_Book_readNumber_185 ?_
                    refine mv_callVi (pc := 188) (n := 1) (ci := 12) (C := R_Book) B (mK_ok sk sv) hNs rfl rfl (c_Book_look_x l hi _ _ len hA.2.1 hA.2.2.1 hA.2.2.2.2.2 (by rw [hA.2.2.2.1]; omega)) rfl (ma_goodc kc_Book_look) (B.2.2.2.1 _ k_2122) (B.2.2.2.1 _ k_2124) (B.2.2.2.1 _ ks_82) (B.2.2.2.1 _ k_13) ⟨by decide +kernel, by decide +kernel, by decide +kernel⟩ rfl d_Book_readNumber_188 rfl (Nat.le_of_ble_eq_true rfl) ⟨by decide, by decide⟩ ⟨by decide, by decide⟩ ⟨by decide, by decide⟩ (mv_noH hno _) (fun v188 σ188 h188 => ?_)
                    obtain ⟨e188, w188, z188⟩ := h188
                    have e188 := e188.symm
                    subst e188
                    refine mv_callSi (pc := 191) (n := 1) B (mK_ok sk sv) hNs (c_Book_digit l hi _ _) rfl (ma_goodc kc_Book_digit) (B.2.2.2.1 _ k_2129) (B.2.2.2.1 _ k_2130) (B.2.2.2.1 _ k_13) ⟨by decide +kernel, by decide +kernel, by decide +kernel⟩ rfl d_Book_readNumber_191 rfl (Nat.le_of_ble_eq_true rfl) ⟨by decide, by decide⟩ ⟨by decide, by decide⟩ ⟨by decide, by decide⟩ (mv_noH hno _) (fun v191 σ191 h191 => ?_)
                    obtain ⟨e191, z191⟩ := h191
                    have e191 := e191.symm
                    subst e191
                    refine mv_if_ne (pc := 194) (tgt := 211) B d_Book_readNumber_194 rfl (fun h194 => ?_) (fun h194 => ?_)
                    · skip
                      refine mv_aload_n (pc := 211) B d_Book_readNumber_211 rfl 2 rfl ?_
                      refine mv_aload_n (pc := 212) B d_Book_readNumber_212 rfl 2 rfl ?_
                      refine mv_getI (pc := 213) (ci := 12) (C := R_Book) (T := F_Book) (N := 65) B 3 rfl rfl (by decide) i_Book (B.2.2.2.1 _ k_1846) rfl d_Book_readNumber_213 ?_
                      refine mv_putI (pc := 216) (ci := 12) (C := R_Book) (T := F_Book) (N := 65) B 7 rfl rfl (by decide) i_Book t_Book_ok n_Book (B.2.2.2.1 _ k_1850) rfl rfl rfl rfl d_Book_readNumber_216 ?_
                      exact mv_vret (pc := 219) B hr d_Book_readNumber_219 (Nat.le_refl _) (Nat.le_refl _) ⟨rfl, a9, by first | exact hA | exact hA.si ⟨by decide, by decide⟩, hk, hs, ha, by first | exact Or.inr ⟨hb, by have z : ¬ n9.toInt = 0 := fun z => h180 (Int32.toInt_inj.mp z); omega⟩ | exact Or.inl (by show 0 ≤ (mv_i τ 74 3).toInt; rw [hA.2.2.2.1]; omega)⟩
                    · skip
                      refine mv_aload_n (pc := 197) B d_Book_readNumber_197 rfl 2 rfl ?_
                      refine mv_aload_n (pc := 198) B d_Book_readNumber_198 rfl 2 rfl ?_
                      refine mv_getI (pc := 199) (ci := 12) (C := R_Book) (T := F_Book) (N := 65) B 3 rfl rfl (by decide) i_Book (B.2.2.2.1 _ k_1846) rfl d_Book_readNumber_199 ?_
                      refine mv_callVi (pc := 202) (n := 1) (ci := 12) (C := R_Book) B (mK_ok sk sv) hNs rfl rfl (c_Book_look_x l hi _ _ len hA.2.1 hA.2.2.1 hA.2.2.2.2.2 (by rw [hA.2.2.2.1]; omega)) rfl (ma_goodc kc_Book_look) (B.2.2.2.1 _ k_2122) (B.2.2.2.1 _ k_2124) (B.2.2.2.1 _ ks_82) (B.2.2.2.1 _ k_13) ⟨by decide +kernel, by decide +kernel, by decide +kernel⟩ rfl d_Book_readNumber_202 rfl (Nat.le_of_ble_eq_true rfl) ⟨by decide, by decide⟩ ⟨by decide, by decide⟩ ⟨by decide, by decide⟩ (mv_noH hno _) (fun v202 σ202 h202 => ?_)
                      obtain ⟨e202, w202, z202⟩ := h202
                      have e202 := e202.symm
                      subst e202
                      refine mv_callSi (pc := 205) (n := 1) B (mK_ok sk sv) hNs (c_Book_letter l hi _ _) rfl (ma_goodc kc_Book_letter) (B.2.2.2.1 _ k_2126) (B.2.2.2.1 _ k_2127) (B.2.2.2.1 _ k_13) ⟨by decide +kernel, by decide +kernel, by decide +kernel⟩ rfl d_Book_readNumber_205 rfl (Nat.le_of_ble_eq_true rfl) ⟨by decide, by decide⟩ ⟨by decide, by decide⟩ ⟨by decide, by decide⟩ (mv_noH hno _) (fun v205 σ205 h205 => ?_)
                      obtain ⟨e205, w205, z205⟩ := h205
                      have e205 := e205.symm
                      subst e205
                      refine mv_if_eq (pc := 208) (tgt := 219) B d_Book_readNumber_208 rfl (fun h208 => ?_) (fun h208 => ?_)
                      · skip
                        exact mv_vret (pc := 219) B hr d_Book_readNumber_219 (Nat.le_refl _) (Nat.le_refl _) ⟨rfl, a9, by first | exact hA | exact hA.si ⟨by decide, by decide⟩, hk, hs, ha, by first | exact Or.inr ⟨hb, by have z : ¬ n9.toInt = 0 := fun z => h180 (Int32.toInt_inj.mp z); omega⟩ | exact Or.inl (by show 0 ≤ (mv_i τ 74 3).toInt; rw [hA.2.2.2.1]; omega)⟩
                      · skip
                        refine mv_aload_n (pc := 211) B d_Book_readNumber_211 rfl 2 rfl ?_
                        refine mv_aload_n (pc := 212) B d_Book_readNumber_212 rfl 2 rfl ?_
                        refine mv_getI (pc := 213) (ci := 12) (C := R_Book) (T := F_Book) (N := 65) B 3 rfl rfl (by decide) i_Book (B.2.2.2.1 _ k_1846) rfl d_Book_readNumber_213 ?_
                        refine mv_putI (pc := 216) (ci := 12) (C := R_Book) (T := F_Book) (N := 65) B 7 rfl rfl (by decide) i_Book t_Book_ok n_Book (B.2.2.2.1 _ k_1850) rfl rfl rfl rfl d_Book_readNumber_216 ?_
                        exact mv_vret (pc := 219) B hr d_Book_readNumber_219 (Nat.le_refl _) (Nat.le_refl _) ⟨rfl, a9, by first | exact hA | exact hA.si ⟨by decide, by decide⟩, hk, hs, ha, by first | exact Or.inr ⟨hb, by have z : ¬ n9.toInt = 0 := fun z => h180 (Int32.toInt_inj.mp z); omega⟩ | exact Or.inl (by show 0 ≤ (mv_i τ 74 3).toInt; rw [hA.2.2.2.1]; omega)⟩
              · skip
                refine mv_bipush (pc := 120) (v := 16) B d_Book_readNumber_120 (by decide) ?_
                refine mv_goto (pc := 122) (tgt := 127) B d_Book_readNumber_122 rfl ?_
                refine mv_iload (pc := 127) B d_Book_readNumber_127 0 rfl ?_
                refine mv_callSi (pc := 129) (n := 3) B (mK_ok sk sv) hNs (c_Book_fits_0 l hi _ _ _ _) rfl (ma_goodc kc_Book_fits_0) (B.2.2.2.1 _ k_2139) (B.2.2.2.1 _ k_2140) (B.2.2.2.1 _ k_13) ⟨by decide +kernel, by decide +kernel, by decide +kernel⟩ rfl d_Book_readNumber_129 rfl (Nat.le_of_ble_eq_true rfl) ⟨by decide, by decide⟩ ⟨by decide, by decide⟩ ⟨by decide, by decide⟩ (mv_noH hno _) (fun v129 σ129 h129 => ?_)
                obtain ⟨e129, z129⟩ := h129
                have e129 := e129.symm
                subst e129
                refine mv_if_ne (pc := 132) (tgt := 138) B d_Book_readNumber_132 rfl (fun h132 => ?_) (fun h132 => ?_)
                · skip
                  refine mv_aload_n (pc := 138) B d_Book_readNumber_138 rfl 2 rfl ?_
                  refine mv_aload_n (pc := 139) B d_Book_readNumber_139 rfl 2 rfl ?_
                  refine mv_getL (pc := 140) (ci := 12) (C := R_Book) (T := F_Book) (N := 65) B 9 rfl rfl (by decide) i_Book (B.2.2.2.1 _ k_1852) rfl d_Book_readNumber_140 ?_
                  refine mv_iload_n (pc := 143) B d_Book_readNumber_143 rfl 3 rfl ?_
                  refine mv_if_eq (pc := 144) (tgt := 152) B d_Book_readNumber_144 rfl (fun h144 => ?_) (fun h144 => ?_)
                  · skip
                    refine mv_bipush (pc := 152) (v := 10) B d_Book_readNumber_152 (by decide) ?_
                    refine mv_i2l (pc := 154) B d_Book_readNumber_154 ?_
                    refine mv_lmul (pc := 155) B d_Book_readNumber_155 ?_
                    refine mv_iload (pc := 156) B d_Book_readNumber_156 0 rfl ?_
                    refine mv_i2l (pc := 158) B d_Book_readNumber_158 ?_
                    refine mv_ladd (pc := 159) B d_Book_readNumber_159 ?_
                    refine mv_putL (pc := 160) (ci := 12) (C := R_Book) (T := F_Book) (N := 65) B 9 rfl rfl (by decide) i_Book t_Book_ok n_Book (B.2.2.2.1 _ k_1852) rfl rfl d_Book_readNumber_160 ?_
                    refine mv_iinc (pc := 163) (j := 4) (v := 1) B d_Book_readNumber_163 rfl (by decide) (by decide) rfl ?_
                    refine mv_aload_n (pc := 166) B d_Book_readNumber_166 rfl 3 rfl ?_
                    refine mv_dup (pc := 167) B d_Book_readNumber_167 rfl ?_
                    refine mv_getI (pc := 168) (ci := 12) (C := R_Book) (T := F_Book) (N := 65) B 3 rfl rfl (by decide) i_Book (B.2.2.2.1 _ k_1846) rfl d_Book_readNumber_168 ?_
                    refine mv_iconst (pc := 171) (v := 1) B d_Book_readNumber_171 (by decide) ?_
                    refine mv_iadd (pc := 172) B d_Book_readNumber_172 ?_
                    refine mv_putI (pc := 173) (ci := 12) (C := R_Book) (T := F_Book) (N := 65) B 3 rfl rfl (by decide) i_Book t_Book_ok n_Book (B.2.2.2.1 _ k_1846) rfl rfl rfl rfl d_Book_readNumber_173 ?_
                    refine mv_gen (fun S176 eS176 => ?_)
                    have hA : Ta 74 len σ S176 (a9 + 1) := by rw [eS176]; exact hA.sl.inc hlt
                    have hk : mv_i S176 74 4 = 2 := by rw [eS176]; exact hk
                    have hs : mv_i S176 74 5 = mv_i σ 74 5 := by rw [eS176]; exact hs
                    have hb : mv_i S176 74 7 = mv_i σ 74 7 := by rw [eS176]; exact hb
                    have w9n : (n9 + 1).toInt = n9.toInt + 1 := i32_inc (by have := hA.2.2.2.2; omega)
                    clear eS176
                    refine mv_goto (pc := 176) (tgt := 60) B d_Book_readNumber_176 rfl ?_
                    refine mv_lpick [3, 4, 0] rfl ?_
                    exact ih _ _ _ _ hA hk hs hb (by omega) (by omega) (by omega) (by omega)
                  · skip
                    refine mv_bipush (pc := 147) (v := 16) B d_Book_readNumber_147 (by decide) ?_
                    refine mv_goto (pc := 149) (tgt := 154) B d_Book_readNumber_149 rfl ?_
                    refine mv_i2l (pc := 154) B d_Book_readNumber_154 ?_
                    refine mv_lmul (pc := 155) B d_Book_readNumber_155 ?_
                    refine mv_iload (pc := 156) B d_Book_readNumber_156 0 rfl ?_
                    refine mv_i2l (pc := 158) B d_Book_readNumber_158 ?_
                    refine mv_ladd (pc := 159) B d_Book_readNumber_159 ?_
                    refine mv_putL (pc := 160) (ci := 12) (C := R_Book) (T := F_Book) (N := 65) B 9 rfl rfl (by decide) i_Book t_Book_ok n_Book (B.2.2.2.1 _ k_1852) rfl rfl d_Book_readNumber_160 ?_
                    refine mv_iinc (pc := 163) (j := 4) (v := 1) B d_Book_readNumber_163 rfl (by decide) (by decide) rfl ?_
                    refine mv_aload_n (pc := 166) B d_Book_readNumber_166 rfl 3 rfl ?_
                    refine mv_dup (pc := 167) B d_Book_readNumber_167 rfl ?_
                    refine mv_getI (pc := 168) (ci := 12) (C := R_Book) (T := F_Book) (N := 65) B 3 rfl rfl (by decide) i_Book (B.2.2.2.1 _ k_1846) rfl d_Book_readNumber_168 ?_
                    refine mv_iconst (pc := 171) (v := 1) B d_Book_readNumber_171 (by decide) ?_
                    refine mv_iadd (pc := 172) B d_Book_readNumber_172 ?_
                    refine mv_putI (pc := 173) (ci := 12) (C := R_Book) (T := F_Book) (N := 65) B 3 rfl rfl (by decide) i_Book t_Book_ok n_Book (B.2.2.2.1 _ k_1846) rfl rfl rfl rfl d_Book_readNumber_173 ?_
                    refine mv_gen (fun S176 eS176 => ?_)
                    have hA : Ta 74 len σ S176 (a9 + 1) := by rw [eS176]; exact hA.sl.inc hlt
                    have hk : mv_i S176 74 4 = 2 := by rw [eS176]; exact hk
                    have hs : mv_i S176 74 5 = mv_i σ 74 5 := by rw [eS176]; exact hs
                    have hb : mv_i S176 74 7 = mv_i σ 74 7 := by rw [eS176]; exact hb
                    have w9n : (n9 + 1).toInt = n9.toInt + 1 := i32_inc (by have := hA.2.2.2.2; omega)
                    clear eS176
                    refine mv_goto (pc := 176) (tgt := 60) B d_Book_readNumber_176 rfl ?_
                    refine mv_lpick [3, 4, 0] rfl ?_
                    exact ih _ _ _ _ hA hk hs hb (by omega) (by omega) (by omega) (by omega)
                · skip
                  refine mv_goto (pc := 135) (tgt := 179) B d_Book_readNumber_135 rfl ?_
                  refine mv_iload_n (pc := 179) B d_Book_readNumber_179 rfl 4 rfl ?_
                  refine mv_if_eq (pc := 180) (tgt := 211) B d_Book_readNumber_180 rfl (fun h180 => ?_) (fun h180 => ?_)
                  · skip
                    refine mv_aload_n (pc := 211) B d_Book_readNumber_211 rfl 2 rfl ?_
                    refine mv_aload_n (pc := 212) B d_Book_readNumber_212 rfl 2 rfl ?_
                    refine mv_getI (pc := 213) (ci := 12) (C := R_Book) (T := F_Book) (N := 65) B 3 rfl rfl (by decide) i_Book (B.2.2.2.1 _ k_1846) rfl d_Book_readNumber_213 ?_
                    refine mv_putI (pc := 216) (ci := 12) (C := R_Book) (T := F_Book) (N := 65) B 7 rfl rfl (by decide) i_Book t_Book_ok n_Book (B.2.2.2.1 _ k_1850) rfl rfl rfl rfl d_Book_readNumber_216 ?_
                    exact mv_vret (pc := 219) B hr d_Book_readNumber_219 (Nat.le_refl _) (Nat.le_refl _) ⟨rfl, a9, by first | exact hA | exact hA.si ⟨by decide, by decide⟩, hk, hs, ha, by first | exact Or.inr ⟨hb, by have z : ¬ n9.toInt = 0 := fun z => h180 (Int32.toInt_inj.mp z); omega⟩ | exact Or.inl (by show 0 ≤ (mv_i τ 74 3).toInt; rw [hA.2.2.2.1]; omega)⟩
                  · skip
                    refine mv_aload_n (pc := 183) B d_Book_readNumber_183 rfl 2 rfl ?_
                    refine mv_aload_n (pc := 184) B d_Book_readNumber_184 rfl 2 rfl ?_
                    refine mv_getI (pc := 185) (ci := 12) (C := R_Book) (T := F_Book) (N := 65) B 3 rfl rfl (by decide) i_Book (B.2.2.2.1 _ k_1846) rfl d_Book_readNumber_185 ?_
                    refine mv_callVi (pc := 188) (n := 1) (ci := 12) (C := R_Book) B (mK_ok sk sv) hNs rfl rfl (c_Book_look_x l hi _ _ len hA.2.1 hA.2.2.1 hA.2.2.2.2.2 (by rw [hA.2.2.2.1]; omega)) rfl (ma_goodc kc_Book_look) (B.2.2.2.1 _ k_2122) (B.2.2.2.1 _ k_2124) (B.2.2.2.1 _ ks_82) (B.2.2.2.1 _ k_13) ⟨by decide +kernel, by decide +kernel, by decide +kernel⟩ rfl d_Book_readNumber_188 rfl (Nat.le_of_ble_eq_true rfl) ⟨by decide, by decide⟩ ⟨by decide, by decide⟩ ⟨by decide, by decide⟩ (mv_noH hno _) (fun v188 σ188 h188 => ?_)
                    obtain ⟨e188, w188, z188⟩ := h188
                    have e188 := e188.symm
                    subst e188
                    refine mv_callSi (pc := 191) (n := 1) B (mK_ok sk sv) hNs (c_Book_digit l hi _ _) rfl (ma_goodc kc_Book_digit) (B.2.2.2.1 _ k_2129) (B.2.2.2.1 _ k_2130) (B.2.2.2.1 _ k_13) ⟨by decide +kernel, by decide +kernel, by decide +kernel⟩ rfl d_Book_readNumber_191 rfl (Nat.le_of_ble_eq_true rfl) ⟨by decide, by decide⟩ ⟨by decide, by decide⟩ ⟨by decide, by decide⟩ (mv_noH hno _) (fun v191 σ191 h191 => ?_)
                    obtain ⟨e191, z191⟩ := h191
                    have e191 := e191.symm
                    subst e191
                    refine mv_if_ne (pc := 194) (tgt := 211) B d_Book_readNumber_194 rfl (fun h194 => ?_) (fun h194 => ?_)
                    · skip
                      refine mv_aload_n (pc := 211) B d_Book_readNumber_211 rfl 2 rfl ?_
                      refine mv_aload_n (pc := 212) B d_Book_readNumber_212 rfl 2 rfl ?_
                      refine mv_getI (pc := 213) (ci := 12) (C := R_Book) (T := F_Book) (N := 65) B 3 rfl rfl (by decide) i_Book (B.2.2.2.1 _ k_1846) rfl d_Book_readNumber_213 ?_
                      refine mv_putI (pc := 216) (ci := 12) (C := R_Book) (T := F_Book) (N := 65) B 7 rfl rfl (by decide) i_Book t_Book_ok n_Book (B.2.2.2.1 _ k_1850) rfl rfl rfl rfl d_Book_readNumber_216 ?_
                      exact mv_vret (pc := 219) B hr d_Book_readNumber_219 (Nat.le_refl _) (Nat.le_refl _) ⟨rfl, a9, by first | exact hA | exact hA.si ⟨by decide, by decide⟩, hk, hs, ha, by first | exact Or.inr ⟨hb, by have z : ¬ n9.toInt = 0 := fun z => h180 (Int32.toInt_inj.mp z); omega⟩ | exact Or.inl (by show 0 ≤ (mv_i τ 74 3).toInt; rw [hA.2.2.2.1]; omega)⟩
                    · skip
                      refine mv_aload_n (pc := 197) B d_Book_readNumber_197 rfl 2 rfl ?_
                      refine mv_aload_n (pc := 198) B d_Book_readNumber_198 rfl 2 rfl ?_
                      refine mv_getI (pc := 199) (ci := 12) (C := R_Book) (T := F_Book) (N := 65) B 3 rfl rfl (by decide) i_Book (B.2.2.2.1 _ k_1846) rfl d_Book_readNumber_199 ?_
                      refine mv_callVi (pc := 202) (n := 1) (ci := 12) (C := R_Book) B (mK_ok sk sv) hNs rfl rfl (c_Book_look_x l hi _ _ len hA.2.1 hA.2.2.1 hA.2.2.2.2.2 (by rw [hA.2.2.2.1]; omega)) rfl (ma_goodc kc_Book_look) (B.2.2.2.1 _ k_2122) (B.2.2.2.1 _ k_2124) (B.2.2.2.1 _ ks_82) (B.2.2.2.1 _ k_13) ⟨by decide +kernel, by decide +kernel, by decide +kernel⟩ rfl d_Book_readNumber_202 rfl (Nat.le_of_ble_eq_true rfl) ⟨by decide, by decide⟩ ⟨by decide, by decide⟩ ⟨by decide, by decide⟩ (mv_noH hno _) (fun v202 σ202 h202 => ?_)
                      obtain ⟨e202, w202, z202⟩ := h202
                      have e202 := e202.symm
                      subst e202
                      refine mv_callSi (pc := 205) (n := 1) B (mK_ok sk sv) hNs (c_Book_letter l hi _ _) rfl (ma_goodc kc_Book_letter) (B.2.2.2.1 _ k_2126) (B.2.2.2.1 _ k_2127) (B.2.2.2.1 _ k_13) ⟨by decide +kernel, by decide +kernel, by decide +kernel⟩ rfl d_Book_readNumber_205 rfl (Nat.le_of_ble_eq_true rfl) ⟨by decide, by decide⟩ ⟨by decide, by decide⟩ ⟨by decide, by decide⟩ (mv_noH hno _) (fun v205 σ205 h205 => ?_)
                      obtain ⟨e205, w205, z205⟩ := h205
                      have e205 := e205.symm
                      subst e205
                      refine mv_if_eq (pc := 208) (tgt := 219) B d_Book_readNumber_208 rfl (fun h208 => ?_) (fun h208 => ?_)
                      · skip
                        exact mv_vret (pc := 219) B hr d_Book_readNumber_219 (Nat.le_refl _) (Nat.le_refl _) ⟨rfl, a9, by first | exact hA | exact hA.si ⟨by decide, by decide⟩, hk, hs, ha, by first | exact Or.inr ⟨hb, by have z : ¬ n9.toInt = 0 := fun z => h180 (Int32.toInt_inj.mp z); omega⟩ | exact Or.inl (by show 0 ≤ (mv_i τ 74 3).toInt; rw [hA.2.2.2.1]; omega)⟩
                      · skip
                        refine mv_aload_n (pc := 211) B d_Book_readNumber_211 rfl 2 rfl ?_
                        refine mv_aload_n (pc := 212) B d_Book_readNumber_212 rfl 2 rfl ?_
                        refine mv_getI (pc := 213) (ci := 12) (C := R_Book) (T := F_Book) (N := 65) B 3 rfl rfl (by decide) i_Book (B.2.2.2.1 _ k_1846) rfl d_Book_readNumber_213 ?_
                        refine mv_putI (pc := 216) (ci := 12) (C := R_Book) (T := F_Book) (N := 65) B 7 rfl rfl (by decide) i_Book t_Book_ok n_Book (B.2.2.2.1 _ k_1850) rfl rfl rfl rfl d_Book_readNumber_216 ?_
                        exact mv_vret (pc := 219) B hr d_Book_readNumber_219 (Nat.le_refl _) (Nat.le_refl _) ⟨rfl, a9, by first | exact hA | exact hA.si ⟨by decide, by decide⟩, hk, hs, ha, by first | exact Or.inr ⟨hb, by have z : ¬ n9.toInt = 0 := fun z => h180 (Int32.toInt_inj.mp z); omega⟩ | exact Or.inl (by show 0 ≤ (mv_i τ 74 3).toInt; rw [hA.2.2.2.1]; omega)⟩
      refine mv_aload_n (pc := 60) B d_Book_readNumber_60 rfl 0 rfl ?_
      refine mv_aload_n (pc := 61) B d_Book_readNumber_61 rfl 0 rfl ?_
      refine mv_getI (pc := 62) (ci := 12) (C := R_Book) (T := F_Book) (N := 65) B 3 rfl rfl (by decide) i_Book (B.2.2.2.1 _ k_1846) rfl d_Book_readNumber_62 ?_
      refine mv_callVi (pc := 65) (n := 1) (ci := 12) (C := R_Book) B (mK_ok sk sv) hNs rfl rfl (c_Book_look_x l hi _ _ len hA.2.1 hA.2.2.1 hA.2.2.2.2.2 (by rw [hA.2.2.2.1]; omega)) rfl (ma_goodc kc_Book_look) (B.2.2.2.1 _ k_2122) (B.2.2.2.1 _ k_2124) (B.2.2.2.1 _ ks_82) (B.2.2.2.1 _ k_13) ⟨by decide +kernel, by decide +kernel, by decide +kernel⟩ rfl d_Book_readNumber_65 rfl (Nat.le_of_ble_eq_true rfl) ⟨by decide, by decide⟩ ⟨by decide, by decide⟩ ⟨by decide, by decide⟩ (mv_noH hno _) (fun v65 σ65 h65 => ?_)
      obtain ⟨e65, w65, z65⟩ := h65
      have e65 := e65.symm
      subst e65
      refine mv_istore_n (pc := 68) B d_Book_readNumber_68 rfl (by decide) rfl ?_
      refine mv_iload_n (pc := 69) B d_Book_readNumber_69 rfl 2 rfl ?_
      refine mv_if_eq (pc := 70) (tgt := 80) B d_Book_readNumber_70 rfl (fun h70 => ?_) (fun h70 => ?_)
      · skip
        refine mv_iload_n (pc := 80) B d_Book_readNumber_80 rfl 0 rfl ?_
        refine mv_callSi (pc := 81) (n := 1) B (mK_ok sk sv) hNs (c_Book_digit l hi _ _) rfl (ma_goodc kc_Book_digit) (B.2.2.2.1 _ k_2129) (B.2.2.2.1 _ k_2130) (B.2.2.2.1 _ k_13) ⟨by decide +kernel, by decide +kernel, by decide +kernel⟩ rfl d_Book_readNumber_81 rfl (Nat.le_of_ble_eq_true rfl) ⟨by decide, by decide⟩ ⟨by decide, by decide⟩ ⟨by decide, by decide⟩ (mv_noH hno _) (fun v81 σ81 h81 => ?_)
        obtain ⟨e81, z81⟩ := h81
        have e81 := e81.symm
        subst e81
        refine mv_if_eq (pc := 84) (tgt := 94) B d_Book_readNumber_84 rfl (fun h84 => ?_) (fun h84 => ?_)
        · skip
          refine mv_iconst (pc := 94) (v := -1) B d_Book_readNumber_94 (by decide) ?_
          refine mv_istore (pc := 95) B d_Book_readNumber_95 (by decide) rfl ?_
          refine mv_lpick [0, 1, 2, 3, 4] rfl ?_
          refine j97 _ _ (fun hz => ?_)
          have za := hA.2.2.2.1
          have zv : v65 = -1 → v65.toInt = -1 := fun z => by rw [z]; decide
          first
            | exact absurd hz (by decide)
            | (rcases z74 with zz | zz
               · rw [zz] at hz; exact absurd hz (by decide)
               · rcases z65 with ⟨z, -⟩ | ⟨-, -, z⟩
                 · have := zv z; omega
                 · omega)
            | (have zz := (z81.resolve_left h84).2.1
               rcases z65 with ⟨z, -⟩ | ⟨-, -, z⟩
               · have := zv z; omega
               · omega)
        · skip
          refine mv_iload_n (pc := 87) B d_Book_readNumber_87 rfl 0 rfl ?_
          refine mv_bipush (pc := 88) (v := 48) B d_Book_readNumber_88 (by decide) ?_
          refine mv_isub (pc := 90) B d_Book_readNumber_90 ?_
          refine mv_goto (pc := 91) (tgt := 95) B d_Book_readNumber_91 rfl ?_
          refine mv_istore (pc := 95) B d_Book_readNumber_95 (by decide) rfl ?_
          refine mv_lpick [0, 1, 2, 3, 4] rfl ?_
          refine j97 _ _ (fun hz => ?_)
          have za := hA.2.2.2.1
          have zv : v65 = -1 → v65.toInt = -1 := fun z => by rw [z]; decide
          first
            | exact absurd hz (by decide)
            | (rcases z74 with zz | zz
               · rw [zz] at hz; exact absurd hz (by decide)
               · rcases z65 with ⟨z, -⟩ | ⟨-, -, z⟩
                 · have := zv z; omega
                 · omega)
            | (have zz := (z81.resolve_left h84).2.1
               rcases z65 with ⟨z, -⟩ | ⟨-, -, z⟩
               · have := zv z; omega
               · omega)
      · skip
        refine mv_iload_n (pc := 73) B d_Book_readNumber_73 rfl 0 rfl ?_
        refine mv_callSi (pc := 74) (n := 1) B (mK_ok sk sv) hNs (c_Book_hex l hi _ _) rfl (ma_goodc kc_Book_hex) (B.2.2.2.1 _ k_2136) (B.2.2.2.1 _ k_2137) (B.2.2.2.1 _ k_13) ⟨by decide +kernel, by decide +kernel, by decide +kernel⟩ rfl d_Book_readNumber_74 rfl (Nat.le_of_ble_eq_true rfl) ⟨by decide, by decide⟩ ⟨by decide, by decide⟩ ⟨by decide, by decide⟩ (mv_noH hno _) (fun v74 σ74 h74 => ?_)
        obtain ⟨e74, z74⟩ := h74
        have e74 := e74.symm
        subst e74
        refine mv_goto (pc := 77) (tgt := 95) B d_Book_readNumber_77 rfl ?_
        refine mv_istore (pc := 95) B d_Book_readNumber_95 (by decide) rfl ?_
        refine mv_lpick [0, 1, 2, 3, 4] rfl ?_
        refine j97 _ _ (fun hz => ?_)
        have za := hA.2.2.2.1
        have zv : v65 = -1 → v65.toInt = -1 := fun z => by rw [z]; decide
        first
          | exact absurd hz (by decide)
          | (rcases z74 with zz | zz
             · rw [zz] at hz; exact absurd hz (by decide)
             · rcases z65 with ⟨z, -⟩ | ⟨-, -, z⟩
               · have := zv z; omega
               · omega)
          | (have zz := (z81.resolve_left h84).2.1
             rcases z65 with ⟨z, -⟩ | ⟨-, -, z⟩
             · have := zv z; omega
             · omega)
  refine mv_aload_n (pc := 0) B d_Book_readNumber_0 rfl 0 rfl ?_
  refine mv_iconst (pc := 1) (v := 2) B d_Book_readNumber_1 (by decide) ?_
  refine mv_putI (pc := 2) (ci := 12) (C := R_Book) (T := F_Book) (N := 65) B 4 rfl rfl (by decide) i_Book t_Book_ok n_Book (B.2.2.2.1 _ k_1847) rfl rfl rfl rfl d_Book_readNumber_2 ?_
  refine mv_aload_n (pc := 5) B d_Book_readNumber_5 rfl 0 rfl ?_
  refine mv_lconst (pc := 6) (v := 0) B d_Book_readNumber_6 (by decide) ?_
  refine mv_putL (pc := 7) (ci := 12) (C := R_Book) (T := F_Book) (N := 65) B 9 rfl rfl (by decide) i_Book t_Book_ok n_Book (B.2.2.2.1 _ k_1852) rfl rfl d_Book_readNumber_7 ?_
  refine mv_gen (fun S10 eS10 => ?_)
  have hA : Ta 74 len σ S10 a0 := by rw [eS10]; exact (hA.si (k := 4) ⟨by decide, by decide⟩).sl
  have hk : mv_i S10 74 4 = 2 := by rw [eS10]; exact rfl
  have hs : mv_i S10 74 5 = mv_i σ 74 5 := by rw [eS10]; exact rfl
  have hb : mv_i S10 74 7 = mv_i σ 74 7 := by rw [eS10]; exact rfl
  clear eS10
  refine mv_aload_n (pc := 10) B d_Book_readNumber_10 rfl 0 rfl ?_
  refine mv_aload_n (pc := 11) B d_Book_readNumber_11 rfl 0 rfl ?_
  refine mv_getI (pc := 12) (ci := 12) (C := R_Book) (T := F_Book) (N := 65) B 3 rfl rfl (by decide) i_Book (B.2.2.2.1 _ k_1846) rfl d_Book_readNumber_12 ?_
  refine mv_callVi (pc := 15) (n := 1) (ci := 12) (C := R_Book) B (mK_ok sk sv) hNs rfl rfl (c_Book_look_x l hi _ _ len hA.2.1 hA.2.2.1 hA.2.2.2.2.2 (by rw [hA.2.2.2.1]; omega)) rfl (ma_goodc kc_Book_look) (B.2.2.2.1 _ k_2122) (B.2.2.2.1 _ k_2124) (B.2.2.2.1 _ ks_82) (B.2.2.2.1 _ k_13) ⟨by decide +kernel, by decide +kernel, by decide +kernel⟩ rfl d_Book_readNumber_15 rfl (Nat.le_of_ble_eq_true rfl) ⟨by decide, by decide⟩ ⟨by decide, by decide⟩ ⟨by decide, by decide⟩ (mv_noH hno _) (fun v15 σ15 h15 => ?_)
  obtain ⟨e15, w15, z15⟩ := h15
  have e15 := e15.symm
  subst e15
  refine mv_bipush (pc := 18) (v := 48) B d_Book_readNumber_18 (by decide) ?_
  refine mv_icmp_ne (pc := 20) (tgt := 42) B d_Book_readNumber_20 rfl (fun h20 => ?_) (fun h20 => ?_)
  · skip
    refine mv_iconst (pc := 42) (v := 0) B d_Book_readNumber_42 (by decide) ?_
    refine mv_istore_n (pc := 43) B d_Book_readNumber_43 rfl (by decide) rfl ?_
    refine mv_iconst (pc := 44) (v := 0) B d_Book_readNumber_44 (by decide) ?_
    refine mv_istore_n (pc := 45) B d_Book_readNumber_45 rfl (by decide) rfl ?_
    refine mv_iload_n (pc := 46) B d_Book_readNumber_46 rfl 1 rfl ?_
    refine mv_if_eq (pc := 47) (tgt := 60) B d_Book_readNumber_47 rfl (fun h47 => ?_) (fun h47 => ?_)
    · skip
      refine mv_lpick [2, 1, 0] rfl ?_
      exact lp _ _ a0 _ _ hA hk hs hb (by omega) (by decide) (by show (0 : Int) + a0 ≤ _; omega) (Nat.lt_succ_self _)
    · skip
      exact absurd rfl h47
  · skip
    refine mv_aload_n (pc := 23) B d_Book_readNumber_23 rfl 0 rfl ?_
    refine mv_aload_n (pc := 24) B d_Book_readNumber_24 rfl 0 rfl ?_
    refine mv_getI (pc := 25) (ci := 12) (C := R_Book) (T := F_Book) (N := 65) B 3 rfl rfl (by decide) i_Book (B.2.2.2.1 _ k_1846) rfl d_Book_readNumber_25 ?_
    refine mv_iconst (pc := 28) (v := 1) B d_Book_readNumber_28 (by decide) ?_
    refine mv_iadd (pc := 29) B d_Book_readNumber_29 ?_
    refine mv_callVi (pc := 30) (n := 1) (ci := 12) (C := R_Book) B (mK_ok sk sv) hNs rfl rfl (c_Book_look_x l hi _ _ len hA.2.1 hA.2.2.1 hA.2.2.2.2.2 (by rw [i32_p1 hA.2.2.2.1 (by have := hA.2.2.2.2; omega)]; omega)) rfl (ma_goodc kc_Book_look) (B.2.2.2.1 _ k_2122) (B.2.2.2.1 _ k_2124) (B.2.2.2.1 _ ks_82) (B.2.2.2.1 _ k_13) ⟨by decide +kernel, by decide +kernel, by decide +kernel⟩ rfl d_Book_readNumber_30 rfl (Nat.le_of_ble_eq_true rfl) ⟨by decide, by decide⟩ ⟨by decide, by decide⟩ ⟨by decide, by decide⟩ (mv_noH hno _) (fun v30 σ30 h30 => ?_)
    obtain ⟨e30, w30, z30⟩ := h30
    have e30 := e30.symm
    subst e30
    refine mv_bipush (pc := 33) (v := 120) B d_Book_readNumber_33 (by decide) ?_
    refine mv_icmp_ne (pc := 35) (tgt := 42) B d_Book_readNumber_35 rfl (fun h35 => ?_) (fun h35 => ?_)
    · skip
      refine mv_iconst (pc := 42) (v := 0) B d_Book_readNumber_42 (by decide) ?_
      refine mv_istore_n (pc := 43) B d_Book_readNumber_43 rfl (by decide) rfl ?_
      refine mv_iconst (pc := 44) (v := 0) B d_Book_readNumber_44 (by decide) ?_
      refine mv_istore_n (pc := 45) B d_Book_readNumber_45 rfl (by decide) rfl ?_
      refine mv_iload_n (pc := 46) B d_Book_readNumber_46 rfl 1 rfl ?_
      refine mv_if_eq (pc := 47) (tgt := 60) B d_Book_readNumber_47 rfl (fun h47 => ?_) (fun h47 => ?_)
      · skip
        refine mv_lpick [2, 1, 0] rfl ?_
        exact lp _ _ a0 _ _ hA hk hs hb (by omega) (by decide) (by show (0 : Int) + a0 ≤ _; omega) (Nat.lt_succ_self _)
      · skip
        exact absurd rfl h47
    · skip
      refine mv_iconst (pc := 38) (v := 1) B d_Book_readNumber_38 (by decide) ?_
      refine mv_goto (pc := 39) (tgt := 43) B d_Book_readNumber_39 rfl ?_
      refine mv_istore_n (pc := 43) B d_Book_readNumber_43 rfl (by decide) rfl ?_
      refine mv_iconst (pc := 44) (v := 0) B d_Book_readNumber_44 (by decide) ?_
      refine mv_istore_n (pc := 45) B d_Book_readNumber_45 rfl (by decide) rfl ?_
      refine mv_iload_n (pc := 46) B d_Book_readNumber_46 rfl 1 rfl ?_
      refine mv_if_eq (pc := 47) (tgt := 60) B d_Book_readNumber_47 rfl (fun h47 => ?_) (fun h47 => ?_)
      · skip
        exact absurd h47 (by decide)
      · skip
        refine mv_aload_n (pc := 50) B d_Book_readNumber_50 rfl 2 rfl ?_
        refine mv_dup (pc := 51) B d_Book_readNumber_51 rfl ?_
        refine mv_getI (pc := 52) (ci := 12) (C := R_Book) (T := F_Book) (N := 65) B 3 rfl rfl (by decide) i_Book (B.2.2.2.1 _ k_1846) rfl d_Book_readNumber_52 ?_
        refine mv_iconst (pc := 55) (v := 2) B d_Book_readNumber_55 (by decide) ?_
        refine mv_iadd (pc := 56) B d_Book_readNumber_56 ?_
        refine mv_putI (pc := 57) (ci := 12) (C := R_Book) (T := F_Book) (N := 65) B 3 rfl rfl (by decide) i_Book t_Book_ok n_Book (B.2.2.2.1 _ k_1846) rfl rfl rfl rfl d_Book_readNumber_57 ?_
        refine mv_lpick [2, 1, 0] rfl ?_
        refine mv_gen (fun S60 eS60 => ?_)
        have za := hA.2.2.2.1
        have zb := i32_p1 za (by have := hA.2.2.2.2; omega)
        have zv : v30.toInt = 120 := by rw [h35]; decide
        have hlt : a0 + 2 ≤ len := by
          rcases z30 with ⟨z, -⟩ | ⟨-, -, z⟩
          · rw [z] at zv; exact absurd zv (by decide)
          · omega
        have hA : Ta 74 len σ S60 (a0 + 2) := by rw [eS60]; exact hA.add (i32_p2 za (by have := hA.2.2.2.2; omega)) hlt
        have hk : mv_i S60 74 4 = 2 := by rw [eS60]; exact hk
        have hs : mv_i S60 74 5 = mv_i σ 74 5 := by rw [eS60]; exact hs
        have hb : mv_i S60 74 7 = mv_i σ 74 7 := by rw [eS60]; exact hb
        clear eS60
        exact lp _ _ (a0 + 2) _ _ hA hk hs hb (by omega) (by decide) (by show (0 : Int) + a0 ≤ _; omega) (Nat.lt_succ_self _)
set_option maxHeartbeats 4000000 in
set_option maxRecDepth 100000 in
theorem c_Book_readNumber_y (l : Launch) {dA : FieldType → ClassId} {D : va_G} {al : Nat → Nat} {ext : mv_Sh} {sk sv : Nat → Nat} (hi : mv_inj (mg dA D al ext)) (σ : mv_H) (len a0 : Nat) (hA : Ta 108 len σ σ a0) : mv_C l y_Book_readNumber (Cond.code y_Book_readNumber b_Book_readNumber 5 (Option.none : Option Jvm.ClassFile.FieldType) :: ma) ({ frames := 2, cells := 0, slots := 0, locals := 40 }) (mg dA D al ext) (mK sk sv) [.ref (al 108)] σ (mv_Rv (fun σ1 => ∃ a1, Ta 108 len σ σ1 a1 ∧ mv_i σ1 108 4 = 2 ∧ mv_i σ1 108 5 = mv_i σ 108 5 ∧ a0 ≤ a1 ∧ (0 ≤ (mv_i σ1 108 7).toInt ∨ (mv_i σ1 108 7 = mv_i σ 108 7 ∧ a0 < a1)))) := by
  refine mv_C.ofV (cc := b_Book_readNumber) (nL := 5) (ret := (Option.none : Option Jvm.ClassFile.FieldType)) (by decide +kernel) rfl hi (Nat.le_of_ble_eq_true rfl) ?_
  intro p e s m below meth c B hNs hr hnm hno
  have hR := hA.2.1
  have lp : ∀ (nn : Nat) (τ : mv_H) (a9 : Nat) (n9 : Int32) (w9 : Int32) (hA : Ta 108 len σ τ a9) (hk : mv_i τ 108 4 = 2) (hs : mv_i τ 108 5 = mv_i σ 108 5) (hb : mv_i τ 108 7 = mv_i σ 108 7) (ha : a0 ≤ a9) (hn0 : 0 ≤ n9.toInt) (hn1 : n9.toInt + a0 ≤ a9), len - a9 < nn → mv_V p l e ({ frames := 2, cells := 0, slots := 0, locals := 40 }) s m ([.ref (al 108)] : List Value).toArray below meth c (mg dA D al ext) 5 0 0 (mv_Q (mg dA D al ext) below s 0 0 (mv_Rv (fun σ1 => ∃ a1, Ta 108 len σ σ1 a1 ∧ mv_i σ1 108 4 = 2 ∧ mv_i σ1 108 5 = mv_i σ 108 5 ∧ a0 ≤ a1 ∧ (0 ≤ (mv_i σ1 108 7).toInt ∨ (mv_i σ1 108 7 = mv_i σ 108 7 ∧ a0 < a1))))) τ 60 [(0, .ref (al 108)), (1, .int w9), (2, .int n9)] [] := by
    intro nn
    induction nn with
    | zero => intro τ a9 n9 w9 hA hk hs hb ha hn0 hn1 hm; exact absurd hm (Nat.not_lt_zero _)
    | succ nn ih =>
      intro τ a9 n9 w9 hA hk hs hb ha hn0 hn1 hm
      have j97 : ∀ (d9 : Int32) (c9 : Int32) (hd : 0 ≤ d9.toInt → a9 < len), mv_V p l e ({ frames := 2, cells := 0, slots := 0, locals := 40 }) s m ([.ref (al 108)] : List Value).toArray below meth c (mg dA D al ext) 5 0 0 (mv_Q (mg dA D al ext) below s 0 0 (mv_Rv (fun σ1 => ∃ a1, Ta 108 len σ σ1 a1 ∧ mv_i σ1 108 4 = 2 ∧ mv_i σ1 108 5 = mv_i σ 108 5 ∧ a0 ≤ a1 ∧ (0 ≤ (mv_i σ1 108 7).toInt ∨ (mv_i σ1 108 7 = mv_i σ 108 7 ∧ a0 < a1))))) τ 97 [(4, .int d9), (3, .int c9), (0, .ref (al 108)), (1, .int w9), (2, .int n9)] [] := by
        intro d9 c9 hd
        refine mv_iload (pc := 97) B d_Book_readNumber_97 0 rfl ?_
        refine mv_if_lt (pc := 99) (tgt := 179) B d_Book_readNumber_99 rfl (fun h99 => ?_) (fun h99 => ?_)
        · skip
          refine mv_iload_n (pc := 179) B d_Book_readNumber_179 rfl 4 rfl ?_
          refine mv_if_eq (pc := 180) (tgt := 211) B d_Book_readNumber_180 rfl (fun h180 => ?_) (fun h180 => ?_)
          · skip
            refine mv_aload_n (pc := 211) B d_Book_readNumber_211 rfl 2 rfl ?_
            refine mv_aload_n (pc := 212) B d_Book_readNumber_212 rfl 2 rfl ?_
            refine mv_getI (pc := 213) (ci := 12) (C := R_Book) (T := F_Book) (N := 65) B 3 rfl rfl (by decide) i_Book (B.2.2.2.1 _ k_1846) rfl d_Book_readNumber_213 ?_
            refine mv_putI (pc := 216) (ci := 12) (C := R_Book) (T := F_Book) (N := 65) B 7 rfl rfl (by decide) i_Book t_Book_ok n_Book (B.2.2.2.1 _ k_1850) rfl rfl rfl rfl d_Book_readNumber_216 ?_
            exact mv_vret (pc := 219) B hr d_Book_readNumber_219 (Nat.le_refl _) (Nat.le_refl _) ⟨rfl, a9, by first | exact hA | exact hA.si ⟨by decide, by decide⟩, hk, hs, ha, by first | exact Or.inr ⟨hb, by have z : ¬ n9.toInt = 0 := fun z => h180 (Int32.toInt_inj.mp z); omega⟩ | exact Or.inl (by show 0 ≤ (mv_i τ 108 3).toInt; rw [hA.2.2.2.1]; omega)⟩
          · skip
            refine mv_aload_n (pc := 183) B d_Book_readNumber_183 rfl 2 rfl ?_
            refine mv_aload_n (pc := 184) B d_Book_readNumber_184 rfl 2 rfl ?_
            refine mv_getI (pc := 185) (ci := 12) (C := R_Book) (T := F_Book) (N := 65) B 3 rfl rfl (by decide) i_Book (B.2.2.2.1 _ k_1846) rfl d_Book_readNumber_185 ?_
            refine mv_callVi (pc := 188) (n := 1) (ci := 12) (C := R_Book) B (mK_ok sk sv) hNs rfl rfl (c_Book_look_y l hi _ _ len hA.2.1 hA.2.2.1 hA.2.2.2.2.2 (by rw [hA.2.2.2.1]; omega)) rfl (ma_goodc kc_Book_look) (B.2.2.2.1 _ k_2122) (B.2.2.2.1 _ k_2124) (B.2.2.2.1 _ ks_82) (B.2.2.2.1 _ k_13) ⟨by decide +kernel, by decide +kernel, by decide +kernel⟩ rfl d_Book_readNumber_188 rfl (Nat.le_of_ble_eq_true rfl) ⟨by decide, by decide⟩ ⟨by decide, by decide⟩ ⟨by decide, by decide⟩ (mv_noH hno _) (fun v188 σ188 h188 => ?_)
            obtain ⟨e188, w188, z188⟩ := h188
            have e188 := e188.symm
            subst e188
            refine mv_callSi (pc := 191) (n := 1) B (mK_ok sk sv) hNs (c_Book_digit l hi _ _) rfl (ma_goodc kc_Book_digit) (B.2.2.2.1 _ k_2129) (B.2.2.2.1 _ k_2130) (B.2.2.2.1 _ k_13) ⟨by decide +kernel, by decide +kernel, by decide +kernel⟩ rfl d_Book_readNumber_191 rfl (Nat.le_of_ble_eq_true rfl) ⟨by decide, by decide⟩ ⟨by decide, by decide⟩ ⟨by decide, by decide⟩ (mv_noH hno _) (fun v191 σ191 h191 => ?_)
            obtain ⟨e191, z191⟩ := h191
            have e191 := e191.symm
            subst e191
            refine mv_if_ne (pc := 194) (tgt := 211) B d_Book_readNumber_194 rfl (fun h194 => ?_) (fun h194 => ?_)
            · skip
              refine mv_aload_n (pc := 211) B d_Book_readNumber_211 rfl 2 rfl ?_
              refine mv_aload_n (pc := 212) B d_Book_readNumber_212 rfl 2 rfl ?_
              refine mv_getI (pc := 213) (ci := 12) (C := R_Book) (T := F_Book) (N := 65) B 3 rfl rfl (by decide) i_Book (B.2.2.2.1 _ k_1846) rfl d_Book_readNumber_213 ?_
              refine mv_putI (pc := 216) (ci := 12) (C := R_Book) (T := F_Book) (N := 65) B 7 rfl rfl (by decide) i_Book t_Book_ok n_Book (B.2.2.2.1 _ k_1850) rfl rfl rfl rfl d_Book_readNumber_216 ?_
              exact mv_vret (pc := 219) B hr d_Book_readNumber_219 (Nat.le_refl _) (Nat.le_refl _) ⟨rfl, a9, by first | exact hA | exact hA.si ⟨by decide, by decide⟩, hk, hs, ha, by first | exact Or.inr ⟨hb, by have z : ¬ n9.toInt = 0 := fun z => h180 (Int32.toInt_inj.mp z); omega⟩ | exact Or.inl (by show 0 ≤ (mv_i τ 108 3).toInt; rw [hA.2.2.2.1]; omega)⟩
            · skip
              refine mv_aload_n (pc := 197) B d_Book_readNumber_197 rfl 2 rfl ?_
              refine mv_aload_n (pc := 198) B d_Book_readNumber_198 rfl 2 rfl ?_
              refine mv_getI (pc := 199) (ci := 12) (C := R_Book) (T := F_Book) (N := 65) B 3 rfl rfl (by decide) i_Book (B.2.2.2.1 _ k_1846) rfl d_Book_readNumber_199 ?_
              refine mv_callVi (pc := 202) (n := 1) (ci := 12) (C := R_Book) B (mK_ok sk sv) hNs rfl rfl (c_Book_look_y l hi _ _ len hA.2.1 hA.2.2.1 hA.2.2.2.2.2 (by rw [hA.2.2.2.1]; omega)) rfl (ma_goodc kc_Book_look) (B.2.2.2.1 _ k_2122) (B.2.2.2.1 _ k_2124) (B.2.2.2.1 _ ks_82) (B.2.2.2.1 _ k_13) ⟨by decide +kernel, by decide +kernel, by decide +kernel⟩ rfl d_Book_readNumber_202 rfl (Nat.le_of_ble_eq_true rfl) ⟨by decide, by decide⟩ ⟨by decide, by decide⟩ ⟨by decide, by decide⟩ (mv_noH hno _) (fun v202 σ202 h202 => ?_)
              obtain ⟨e202, w202, z202⟩ := h202
              have e202 := e202.symm
              subst e202
              refine mv_callSi (pc := 205) (n := 1) B (mK_ok sk sv) hNs (c_Book_letter l hi _ _) rfl (ma_goodc kc_Book_letter) (B.2.2.2.1 _ k_2126) (B.2.2.2.1 _ k_2127) (B.2.2.2.1 _ k_13) ⟨by decide +kernel, by decide +kernel, by decide +kernel⟩ rfl d_Book_readNumber_205 rfl (Nat.le_of_ble_eq_true rfl) ⟨by decide, by decide⟩ ⟨by decide, by decide⟩ ⟨by decide, by decide⟩ (mv_noH hno _) (fun v205 σ205 h205 => ?_)
              obtain ⟨e205, w205, z205⟩ := h205
              have e205 := e205.symm
              subst e205
              refine mv_if_eq (pc := 208) (tgt := 219) B d_Book_readNumber_208 rfl (fun h208 => ?_) (fun h208 => ?_)
              · skip
                exact mv_vret (pc := 219) B hr d_Book_readNumber_219 (Nat.le_refl _) (Nat.le_refl _) ⟨rfl, a9, by first | exact hA | exact hA.si ⟨by decide, by decide⟩, hk, hs, ha, by first | exact Or.inr ⟨hb, by have z : ¬ n9.toInt = 0 := fun z => h180 (Int32.toInt_inj.mp z); omega⟩ | exact Or.inl (by show 0 ≤ (mv_i τ 108 3).toInt; rw [hA.2.2.2.1]; omega)⟩
              · skip
                refine mv_aload_n (pc := 211) B d_Book_readNumber_211 rfl 2 rfl ?_
                refine mv_aload_n (pc := 212) B d_Book_readNumber_212 rfl 2 rfl ?_
                refine mv_getI (pc := 213) (ci := 12) (C := R_Book) (T := F_Book) (N := 65) B 3 rfl rfl (by decide) i_Book (B.2.2.2.1 _ k_1846) rfl d_Book_readNumber_213 ?_
                refine mv_putI (pc := 216) (ci := 12) (C := R_Book) (T := F_Book) (N := 65) B 7 rfl rfl (by decide) i_Book t_Book_ok n_Book (B.2.2.2.1 _ k_1850) rfl rfl rfl rfl d_Book_readNumber_216 ?_
                exact mv_vret (pc := 219) B hr d_Book_readNumber_219 (Nat.le_refl _) (Nat.le_refl _) ⟨rfl, a9, by first | exact hA | exact hA.si ⟨by decide, by decide⟩, hk, hs, ha, by first | exact Or.inr ⟨hb, by have z : ¬ n9.toInt = 0 := fun z => h180 (Int32.toInt_inj.mp z); omega⟩ | exact Or.inl (by show 0 ≤ (mv_i τ 108 3).toInt; rw [hA.2.2.2.1]; omega)⟩
        · skip
          have hlt : a9 < len := hd (Int.not_lt.mp (fun z => h99 (Int32.lt_iff_toInt_lt.mpr z)))
          refine mv_iload_n (pc := 102) B d_Book_readNumber_102 rfl 3 rfl ?_
          refine mv_if_eq (pc := 103) (tgt := 112) B d_Book_readNumber_103 rfl (fun h103 => ?_) (fun h103 => ?_)
          · skip
            refine mv_aload_n (pc := 112) B d_Book_readNumber_112 rfl 2 rfl ?_
            refine mv_getL (pc := 113) (ci := 12) (C := R_Book) (T := F_Book) (N := 65) B 9 rfl rfl (by decide) i_Book (B.2.2.2.1 _ k_1852) rfl d_Book_readNumber_113 ?_
            refine mv_iload_n (pc := 116) B d_Book_readNumber_116 rfl 3 rfl ?_
            refine mv_if_eq (pc := 117) (tgt := 125) B d_Book_readNumber_117 rfl (fun h117 => ?_) (fun h117 => ?_)
            · skip
              refine mv_bipush (pc := 125) (v := 10) B d_Book_readNumber_125 (by decide) ?_
              refine mv_iload (pc := 127) B d_Book_readNumber_127 0 rfl ?_
              refine mv_callSi (pc := 129) (n := 3) B (mK_ok sk sv) hNs (c_Book_fits_0 l hi _ _ _ _) rfl (ma_goodc kc_Book_fits_0) (B.2.2.2.1 _ k_2139) (B.2.2.2.1 _ k_2140) (B.2.2.2.1 _ k_13) ⟨by decide +kernel, by decide +kernel, by decide +kernel⟩ rfl d_Book_readNumber_129 rfl (Nat.le_of_ble_eq_true rfl) ⟨by decide, by decide⟩ ⟨by decide, by decide⟩ ⟨by decide, by decide⟩ (mv_noH hno _) (fun v129 σ129 h129 => ?_)
              obtain ⟨e129, z129⟩ := h129
              have e129 := e129.symm
              subst e129
              refine mv_if_ne (pc := 132) (tgt := 138) B d_Book_readNumber_132 rfl (fun h132 => ?_) (fun h132 => ?_)
              · skip
                refine mv_aload_n (pc := 138) B d_Book_readNumber_138 rfl 2 rfl ?_
                refine mv_aload_n (pc := 139) B d_Book_readNumber_139 rfl 2 rfl ?_
                refine mv_getL (pc := 140) (ci := 12) (C := R_Book) (T := F_Book) (N := 65) B 9 rfl rfl (by decide) i_Book (B.2.2.2.1 _ k_1852) rfl d_Book_readNumber_140 ?_
                refine mv_iload_n (pc := 143) B d_Book_readNumber_143 rfl 3 rfl ?_
                refine mv_if_eq (pc := 144) (tgt := 152) B d_Book_readNumber_144 rfl (fun h144 => ?_) (fun h144 => ?_)
                · skip
                  refine mv_bipush (pc := 152) (v := 10) B d_Book_readNumber_152 (by decide) ?_
                  refine mv_i2l (pc := 154) B d_Book_readNumber_154 ?_
                  refine mv_lmul (pc := 155) B d_Book_readNumber_155 ?_
                  refine mv_iload (pc := 156) B d_Book_readNumber_156 0 rfl ?_
                  refine mv_i2l (pc := 158) B d_Book_readNumber_158 ?_
                  refine mv_ladd (pc := 159) B d_Book_readNumber_159 ?_
                  refine mv_putL (pc := 160) (ci := 12) (C := R_Book) (T := F_Book) (N := 65) B 9 rfl rfl (by decide) i_Book t_Book_ok n_Book (B.2.2.2.1 _ k_1852) rfl rfl d_Book_readNumber_160 ?_
                  refine mv_iinc (pc := 163) (j := 4) (v := 1) B d_Book_readNumber_163 rfl (by decide) (by decide) rfl ?_
                  refine mv_aload_n (pc := 166) B d_Book_readNumber_166 rfl 3 rfl ?_
                  refine mv_dup (pc := 167) B d_Book_readNumber_167 rfl ?_
                  refine mv_getI (pc := 168) (ci := 12) (C := R_Book) (T := F_Book) (N := 65) B 3 rfl rfl (by decide) i_Book (B.2.2.2.1 _ k_1846) rfl d_Book_readNumber_168 ?_
                  refine mv_iconst (pc := 171) (v := 1) B d_Book_readNumber_171 (by decide) ?_
                  refine mv_iadd (pc := 172) B d_Book_readNumber_172 ?_
                  refine mv_putI (pc := 173) (ci := 12) (C := R_Book) (T := F_Book) (N := 65) B 3 rfl rfl (by decide) i_Book t_Book_ok n_Book (B.2.2.2.1 _ k_1846) rfl rfl rfl rfl d_Book_readNumber_173 ?_
                  refine mv_gen (fun S176 eS176 => ?_)
                  have hA : Ta 108 len σ S176 (a9 + 1) := by rw [eS176]; exact hA.sl.inc hlt
                  have hk : mv_i S176 108 4 = 2 := by rw [eS176]; exact hk
                  have hs : mv_i S176 108 5 = mv_i σ 108 5 := by rw [eS176]; exact hs
                  have hb : mv_i S176 108 7 = mv_i σ 108 7 := by rw [eS176]; exact hb
                  have w9n : (n9 + 1).toInt = n9.toInt + 1 := i32_inc (by have := hA.2.2.2.2; omega)
                  clear eS176
                  refine mv_goto (pc := 176) (tgt := 60) B d_Book_readNumber_176 rfl ?_
                  refine mv_lpick [3, 4, 0] rfl ?_
                  exact ih _ _ _ _ hA hk hs hb (by omega) (by omega) (by omega) (by omega)
                · skip
                  refine mv_bipush (pc := 147) (v := 16) B d_Book_readNumber_147 (by decide) ?_
                  refine mv_goto (pc := 149) (tgt := 154) B d_Book_readNumber_149 rfl ?_
                  refine mv_i2l (pc := 154) B d_Book_readNumber_154 ?_
                  refine mv_lmul (pc := 155) B d_Book_readNumber_155 ?_
                  refine mv_iload (pc := 156) B d_Book_readNumber_156 0 rfl ?_
                  refine mv_i2l (pc := 158) B d_Book_readNumber_158 ?_
                  refine mv_ladd (pc := 159) B d_Book_readNumber_159 ?_
                  refine mv_putL (pc := 160) (ci := 12) (C := R_Book) (T := F_Book) (N := 65) B 9 rfl rfl (by decide) i_Book t_Book_ok n_Book (B.2.2.2.1 _ k_1852) rfl rfl d_Book_readNumber_160 ?_
                  refine mv_iinc (pc := 163) (j := 4) (v := 1) B d_Book_readNumber_163 rfl (by decide) (by decide) rfl ?_
                  refine mv_aload_n (pc := 166) B d_Book_readNumber_166 rfl 3 rfl ?_
                  refine mv_dup (pc := 167) B d_Book_readNumber_167 rfl ?_
                  refine mv_getI (pc := 168) (ci := 12) (C := R_Book) (T := F_Book) (N := 65) B 3 rfl rfl (by decide) i_Book (B.2.2.2.1 _ k_1846) rfl d_Book_readNumber_168 ?_
                  refine mv_iconst (pc := 171) (v := 1) B d_Book_readNumber_171 (by decide) ?_
                  refine mv_iadd (pc := 172) B d_Book_readNumber_172 ?_
                  refine mv_putI (pc := 173) (ci := 12) (C := R_Book) (T := F_Book) (N := 65) B 3 rfl rfl (by decide) i_Book t_Book_ok n_Book (B.2.2.2.1 _ k_1846) rfl rfl rfl rfl d_Book_readNumber_173 ?_
                  refine mv_gen (fun S176 eS176 => ?_)
                  have hA : Ta 108 len σ S176 (a9 + 1) := by rw [eS176]; exact hA.sl.inc hlt
                  have hk : mv_i S176 108 4 = 2 := by rw [eS176]; exact hk
                  have hs : mv_i S176 108 5 = mv_i σ 108 5 := by rw [eS176]; exact hs
                  have hb : mv_i S176 108 7 = mv_i σ 108 7 := by rw [eS176]; exact hb
                  have w9n : (n9 + 1).toInt = n9.toInt + 1 := i32_inc (by have := hA.2.2.2.2; omega)
                  clear eS176
                  refine mv_goto (pc := 176) (tgt := 60) B d_Book_readNumber_176 rfl ?_
                  refine mv_lpick [3, 4, 0] rfl ?_
                  exact ih _ _ _ _ hA hk hs hb (by omega) (by omega) (by omega) (by omega)
              · skip
                refine mv_goto (pc := 135) (tgt := 179) B d_Book_readNumber_135 rfl ?_
                refine mv_iload_n (pc := 179) B d_Book_readNumber_179 rfl 4 rfl ?_
                refine mv_if_eq (pc := 180) (tgt := 211) B d_Book_readNumber_180 rfl (fun h180 => ?_) (fun h180 => ?_)
                · skip
                  refine mv_aload_n (pc := 211) B d_Book_readNumber_211 rfl 2 rfl ?_
                  refine mv_aload_n (pc := 212) B d_Book_readNumber_212 rfl 2 rfl ?_
                  refine mv_getI (pc := 213) (ci := 12) (C := R_Book) (T := F_Book) (N := 65) B 3 rfl rfl (by decide) i_Book (B.2.2.2.1 _ k_1846) rfl d_Book_readNumber_213 ?_
                  refine mv_putI (pc := 216) (ci := 12) (C := R_Book) (T := F_Book) (N := 65) B 7 rfl rfl (by decide) i_Book t_Book_ok n_Book (B.2.2.2.1 _ k_1850) rfl rfl rfl rfl d_Book_readNumber_216 ?_
                  exact mv_vret (pc := 219) B hr d_Book_readNumber_219 (Nat.le_refl _) (Nat.le_refl _) ⟨rfl, a9, by first | exact hA | exact hA.si ⟨by decide, by decide⟩, hk, hs, ha, by first | exact Or.inr ⟨hb, by have z : ¬ n9.toInt = 0 := fun z => h180 (Int32.toInt_inj.mp z); omega⟩ | exact Or.inl (by show 0 ≤ (mv_i τ 108 3).toInt; rw [hA.2.2.2.1]; omega)⟩
                · skip
                  refine mv_aload_n (pc := 183) B d_Book_readNumber_183 rfl 2 rfl ?_
                  refine mv_aload_n (pc := 184) B d_Book_readNumber_184 rfl 2 rfl ?_
                  refine mv_getI (pc := 185) (ci := 12) (C := R_Book) (T := F_Book) (N := 65) B 3 rfl rfl (by decide) i_Book (B.2.2.2.1 _ k_1846) rfl d_Book_readNumber_185 ?_
                  refine mv_callVi (pc := 188) (n := 1) (ci := 12) (C := R_Book) B (mK_ok sk sv) hNs rfl rfl (c_Book_look_y l hi _ _ len hA.2.1 hA.2.2.1 hA.2.2.2.2.2 (by rw [hA.2.2.2.1]; omega)) rfl (ma_goodc kc_Book_look) (B.2.2.2.1 _ k_2122) (B.2.2.2.1 _ k_2124) (B.2.2.2.1 _ ks_82) (B.2.2.2.1 _ k_13) ⟨by decide +kernel, by decide +kernel, by decide +kernel⟩ rfl d_Book_readNumber_188 rfl (Nat.le_of_ble_eq_true rfl) ⟨by decide, by decide⟩ ⟨by decide, by decide⟩ ⟨by decide, by decide⟩ (mv_noH hno _) (fun v188 σ188 h188 => ?_)
                  obtain ⟨e188, w188, z188⟩ := h188
                  have e188 := e188.symm
                  subst e188
                  refine mv_callSi (pc := 191) (n := 1) B (mK_ok sk sv) hNs (c_Book_digit l hi _ _) rfl (ma_goodc kc_Book_digit) (B.2.2.2.1 _ k_2129) (B.2.2.2.1 _ k_2130) (B.2.2.2.1 _ k_13) ⟨by decide +kernel, by decide +kernel, by decide +kernel⟩ rfl d_Book_readNumber_191 rfl (Nat.le_of_ble_eq_true rfl) ⟨by decide, by decide⟩ ⟨by decide, by decide⟩ ⟨by decide, by decide⟩ (mv_noH hno _) (fun v191 σ191 h191 => ?_)
                  obtain ⟨e191, z191⟩ := h191
                  have e191 := e191.symm
                  subst e191
                  refine mv_if_ne (pc := 194) (tgt := 211) B d_Book_readNumber_194 rfl (fun h194 => ?_) (fun h194 => ?_)
                  · skip
                    refine mv_aload_n (pc := 211) B d_Book_readNumber_211 rfl 2 rfl ?_
                    refine mv_aload_n (pc := 212) B d_Book_readNumber_212 rfl 2 rfl ?_
                    refine mv_getI (pc := 213) (ci := 12) (C := R_Book) (T := F_Book) (N := 65) B 3 rfl rfl (by decide) i_Book (B.2.2.2.1 _ k_1846) rfl d_Book_readNumber_213 ?_
                    refine mv_putI (pc := 216) (ci := 12) (C := R_Book) (T := F_Book) (N := 65) B 7 rfl rfl (by decide) i_Book t_Book_ok n_Book (B.2.2.2.1 _ k_1850) rfl rfl rfl rfl d_Book_readNumber_216 ?_
                    exact mv_vret (pc := 219) B hr d_Book_readNumber_219 (Nat.le_refl _) (Nat.le_refl _) ⟨rfl, a9, by first | exact hA | exact hA.si ⟨by decide, by decide⟩, hk, hs, ha, by first | exact Or.inr ⟨hb, by have z : ¬ n9.toInt = 0 := fun z => h180 (Int32.toInt_inj.mp z); omega⟩ | exact Or.inl (by show 0 ≤ (mv_i τ 108 3).toInt; rw [hA.2.2.2.1]; omega)⟩
                  · skip
                    refine mv_aload_n (pc := 197) B d_Book_readNumber_197 rfl 2 rfl ?_
                    refine mv_aload_n (pc := 198) B d_Book_readNumber_198 rfl 2 rfl ?_
                    refine mv_getI (pc := 199) (ci := 12) (C := R_Book) (T := F_Book) (N := 65) B 3 rfl rfl (by decide) i_Book (B.2.2.2.1 _ k_1846) rfl d_Book_readNumber_199 ?_
                    refine mv_callVi (pc := 202) (n := 1) (ci := 12) (C := R_Book) B (mK_ok sk sv) hNs rfl rfl (c_Book_look_y l hi _ _ len hA.2.1 hA.2.2.1 hA.2.2.2.2.2 (by rw [hA.2.2.2.1]; omega)) rfl (ma_goodc kc_Book_look) (B.2.2.2.1 _ k_2122) (B.2.2.2.1 _ k_2124) (B.2.2.2.1 _ ks_82) (B.2.2.2.1 _ k_13) ⟨by decide +kernel, by decide +kernel, by decide +kernel⟩ rfl d_Book_readNumber_202 rfl (Nat.le_of_ble_eq_true rfl) ⟨by decide, by decide⟩ ⟨by decide, by decide⟩ ⟨by decide, by decide⟩ (mv_noH hno _) (fun v202 σ202 h202 => ?_)
                    obtain ⟨e202, w202, z202⟩ := h202
                    have e202 := e202.symm
                    subst e202
                    refine mv_callSi (pc := 205) (n := 1) B (mK_ok sk sv) hNs (c_Book_letter l hi _ _) rfl (ma_goodc kc_Book_letter) (B.2.2.2.1 _ k_2126) (B.2.2.2.1 _ k_2127) (B.2.2.2.1 _ k_13) ⟨by decide +kernel, by decide +kernel, by decide +kernel⟩ rfl d_Book_readNumber_205 rfl (Nat.le_of_ble_eq_true rfl) ⟨by decide, by decide⟩ ⟨by decide, by decide⟩ ⟨by decide, by decide⟩ (mv_noH hno _) (fun v205 σ205 h205 => ?_)
                    obtain ⟨e205, w205, z205⟩ := h205
                    have e205 := e205.symm
                    subst e205
                    refine mv_if_eq (pc := 208) (tgt := 219) B d_Book_readNumber_208 rfl (fun h208 => ?_) (fun h208 => ?_)
                    · skip
                      exact mv_vret (pc := 219) B hr d_Book_readNumber_219 (Nat.le_refl _) (Nat.le_refl _) ⟨rfl, a9, by first | exact hA | exact hA.si ⟨by decide, by decide⟩, hk, hs, ha, by first | exact Or.inr ⟨hb, by have z : ¬ n9.toInt = 0 := fun z => h180 (Int32.toInt_inj.mp z); omega⟩ | exact Or.inl (by show 0 ≤ (mv_i τ 108 3).toInt; rw [hA.2.2.2.1]; omega)⟩
                    · skip
                      refine mv_aload_n (pc := 211) B d_Book_readNumber_211 rfl 2 rfl ?_
                      refine mv_aload_n (pc := 212) B d_Book_readNumber_212 rfl 2 rfl ?_
                      refine mv_getI (pc := 213) (ci := 12) (C := R_Book) (T := F_Book) (N := 65) B 3 rfl rfl (by decide) i_Book (B.2.2.2.1 _ k_1846) rfl d_Book_readNumber_213 ?_
                      refine mv_putI (pc := 216) (ci := 12) (C := R_Book) (T := F_Book) (N := 65) B 7 rfl rfl (by decide) i_Book t_Book_ok n_Book (B.2.2.2.1 _ k_1850) rfl rfl rfl rfl d_Book_readNumber_216 ?_
                      exact mv_vret (pc := 219) B hr d_Book_readNumber_219 (Nat.le_refl _) (Nat.le_refl _) ⟨rfl, a9, by first | exact hA | exact hA.si ⟨by decide, by decide⟩, hk, hs, ha, by first | exact Or.inr ⟨hb, by have z : ¬ n9.toInt = 0 := fun z => h180 (Int32.toInt_inj.mp z); omega⟩ | exact Or.inl (by show 0 ≤ (mv_i τ 108 3).toInt; rw [hA.2.2.2.1]; omega)⟩
            · skip
              refine mv_bipush (pc := 120) (v := 16) B d_Book_readNumber_120 (by decide) ?_
              refine mv_goto (pc := 122) (tgt := 127) B d_Book_readNumber_122 rfl ?_
              refine mv_iload (pc := 127) B d_Book_readNumber_127 0 rfl ?_
              refine mv_callSi (pc := 129) (n := 3) B (mK_ok sk sv) hNs (c_Book_fits_0 l hi _ _ _ _) rfl (ma_goodc kc_Book_fits_0) (B.2.2.2.1 _ k_2139) (B.2.2.2.1 _ k_2140) (B.2.2.2.1 _ k_13) ⟨by decide +kernel, by decide +kernel, by decide +kernel⟩ rfl d_Book_readNumber_129 rfl (Nat.le_of_ble_eq_true rfl) ⟨by decide, by decide⟩ ⟨by decide, by decide⟩ ⟨by decide, by decide⟩ (mv_noH hno _) (fun v129 σ129 h129 => ?_)
              obtain ⟨e129, z129⟩ := h129
              have e129 := e129.symm
              subst e129
              refine mv_if_ne (pc := 132) (tgt := 138) B d_Book_readNumber_132 rfl (fun h132 => ?_) (fun h132 => ?_)
              · skip
                refine mv_aload_n (pc := 138) B d_Book_readNumber_138 rfl 2 rfl ?_
                refine mv_aload_n (pc := 139) B d_Book_readNumber_139 rfl 2 rfl ?_
                refine mv_getL (pc := 140) (ci := 12) (C := R_Book) (T := F_Book) (N := 65) B 9 rfl rfl (by decide) i_Book (B.2.2.2.1 _ k_1852) rfl d_Book_readNumber_140 ?_
                refine mv_iload_n (pc := 143) B d_Book_readNumber_143 rfl 3 rfl ?_
                refine mv_if_eq (pc := 144) (tgt := 152) B d_Book_readNumber_144 rfl (fun h144 => ?_) (fun h144 => ?_)
                · skip
                  refine mv_bipush (pc := 152) (v := 10) B d_Book_readNumber_152 (by decide) ?_
                  refine mv_i2l (pc := 154) B d_Book_readNumber_154 ?_
                  refine mv_lmul (pc := 155) B d_Book_readNumber_155 ?_
                  refine mv_iload (pc := 156) B d_Book_readNumber_156 0 rfl ?_
                  refine mv_i2l (pc := 158) B d_Book_readNumber_158 ?_
                  refine mv_ladd (pc := 159) B d_Book_readNumber_159 ?_
                  refine mv_putL (pc := 160) (ci := 12) (C := R_Book) (T := F_Book) (N := 65) B 9 rfl rfl (by decide) i_Book t_Book_ok n_Book (B.2.2.2.1 _ k_1852) rfl rfl d_Book_readNumber_160 ?_
                  refine mv_iinc (pc := 163) (j := 4) (v := 1) B d_Book_readNumber_163 rfl (by decide) (by decide) rfl ?_
                  refine mv_aload_n (pc := 166) B d_Book_readNumber_166 rfl 3 rfl ?_
                  refine mv_dup (pc := 167) B d_Book_readNumber_167 rfl ?_
                  refine mv_getI (pc := 168) (ci := 12) (C := R_Book) (T := F_Book) (N := 65) B 3 rfl rfl (by decide) i_Book (B.2.2.2.1 _ k_1846) rfl d_Book_readNumber_168 ?_
                  refine mv_iconst (pc := 171) (v := 1) B d_Book_readNumber_171 (by decide) ?_
                  refine mv_iadd (pc := 172) B d_Book_readNumber_172 ?_
                  refine mv_putI (pc := 173) (ci := 12) (C := R_Book) (T := F_Book) (N := 65) B 3 rfl rfl (by decide) i_Book t_Book_ok n_Book (B.2.2.2.1 _ k_1846) rfl rfl rfl rfl d_Book_readNumber_173 ?_
                  refine mv_gen (fun S176 eS176 => ?_)
                  have hA : Ta 108 len σ S176 (a9 + 1) := by rw [eS176]; exact hA.sl.inc hlt
                  have hk : mv_i S176 108 4 = 2 := by rw [eS176]; exact hk
                  have hs : mv_i S176 108 5 = mv_i σ 108 5 := by rw [eS176]; exact hs
                  have hb : mv_i S176 108 7 = mv_i σ 108 7 := by rw [eS176]; exact hb
                  have w9n : (n9 + 1).toInt = n9.toInt + 1 := i32_inc (by have := hA.2.2.2.2; omega)
                  clear eS176
                  refine mv_goto (pc := 176) (tgt := 60) B d_Book_readNumber_176 rfl ?_
                  refine mv_lpick [3, 4, 0] rfl ?_
                  exact ih _ _ _ _ hA hk hs hb (by omega) (by omega) (by omega) (by omega)
                · skip
                  refine mv_bipush (pc := 147) (v := 16) B d_Book_readNumber_147 (by decide) ?_
                  refine mv_goto (pc := 149) (tgt := 154) B d_Book_readNumber_149 rfl ?_
                  refine mv_i2l (pc := 154) B d_Book_readNumber_154 ?_
                  refine mv_lmul (pc := 155) B d_Book_readNumber_155 ?_
                  refine mv_iload (pc := 156) B d_Book_readNumber_156 0 rfl ?_
                  refine mv_i2l (pc := 158) B d_Book_readNumber_158 ?_
                  refine mv_ladd (pc := 159) B d_Book_readNumber_159 ?_
                  refine mv_putL (pc := 160) (ci := 12) (C := R_Book) (T := F_Book) (N := 65) B 9 rfl rfl (by decide) i_Book t_Book_ok n_Book (B.2.2.2.1 _ k_1852) rfl rfl d_Book_readNumber_160 ?_
                  refine mv_iinc (pc := 163) (j := 4) (v := 1) B d_Book_readNumber_163 rfl (by decide) (by decide) rfl ?_
                  refine mv_aload_n (pc := 166) B d_Book_readNumber_166 rfl 3 rfl ?_
                  refine mv_dup (pc := 167) B d_Book_readNumber_167 rfl ?_
                  refine mv_getI (pc := 168) (ci := 12) (C := R_Book) (T := F_Book) (N := 65) B 3 rfl rfl (by decide) i_Book (B.2.2.2.1 _ k_1846) rfl d_Book_readNumber_168 ?_
                  refine mv_iconst (pc := 171) (v := 1) B d_Book_readNumber_171 (by decide) ?_
                  refine mv_iadd (pc := 172) B d_Book_readNumber_172 ?_
                  refine mv_putI (pc := 173) (ci := 12) (C := R_Book) (T := F_Book) (N := 65) B 3 rfl rfl (by decide) i_Book t_Book_ok n_Book (B.2.2.2.1 _ k_1846) rfl rfl rfl rfl d_Book_readNumber_173 ?_
                  refine mv_gen (fun S176 eS176 => ?_)
                  have hA : Ta 108 len σ S176 (a9 + 1) := by rw [eS176]; exact hA.sl.inc hlt
                  have hk : mv_i S176 108 4 = 2 := by rw [eS176]; exact hk
                  have hs : mv_i S176 108 5 = mv_i σ 108 5 := by rw [eS176]; exact hs
                  have hb : mv_i S176 108 7 = mv_i σ 108 7 := by rw [eS176]; exact hb
                  have w9n : (n9 + 1).toInt = n9.toInt + 1 := i32_inc (by have := hA.2.2.2.2; omega)
                  clear eS176
                  refine mv_goto (pc := 176) (tgt := 60) B d_Book_readNumber_176 rfl ?_
                  refine mv_lpick [3, 4, 0] rfl ?_
                  exact ih _ _ _ _ hA hk hs hb (by omega) (by omega) (by omega) (by omega)
              · skip
                refine mv_goto (pc := 135) (tgt := 179) B d_Book_readNumber_135 rfl ?_
                refine mv_iload_n (pc := 179) B d_Book_readNumber_179 rfl 4 rfl ?_
                refine mv_if_eq (pc := 180) (tgt := 211) B d_Book_readNumber_180 rfl (fun h180 => ?_) (fun h180 => ?_)
                · skip
                  refine mv_aload_n (pc := 211) B d_Book_readNumber_211 rfl 2 rfl ?_
                  refine mv_aload_n (pc := 212) B d_Book_readNumber_212 rfl 2 rfl ?_
                  refine mv_getI (pc := 213) (ci := 12) (C := R_Book) (T := F_Book) (N := 65) B 3 rfl rfl (by decide) i_Book (B.2.2.2.1 _ k_1846) rfl d_Book_readNumber_213 ?_
                  refine mv_putI (pc := 216) (ci := 12) (C := R_Book) (T := F_Book) (N := 65) B 7 rfl rfl (by decide) i_Book t_Book_ok n_Book (B.2.2.2.1 _ k_1850) rfl rfl rfl rfl d_Book_readNumber_216 ?_
                  exact mv_vret (pc := 219) B hr d_Book_readNumber_219 (Nat.le_refl _) (Nat.le_refl _) ⟨rfl, a9, by first | exact hA | exact hA.si ⟨by decide, by decide⟩, hk, hs, ha, by first | exact Or.inr ⟨hb, by have z : ¬ n9.toInt = 0 := fun z => h180 (Int32.toInt_inj.mp z); omega⟩ | exact Or.inl (by show 0 ≤ (mv_i τ 108 3).toInt; rw [hA.2.2.2.1]; omega)⟩
                · skip
                  refine mv_aload_n (pc := 183) B d_Book_readNumber_183 rfl 2 rfl ?_
                  refine mv_aload_n (pc := 184) B d_Book_readNumber_184 rfl 2 rfl ?_
                  refine mv_getI (pc := 185) (ci := 12) (C := R_Book) (T := F_Book) (N := 65) B 3 rfl rfl (by decide) i_Book (B.2.2.2.1 _ k_1846) rfl d_Book_readNumber_185 ?_
                  refine mv_callVi (pc := 188) (n := 1) (ci := 12) (C := R_Book) B (mK_ok sk sv) hNs rfl rfl (c_Book_look_y l hi _ _ len hA.2.1 hA.2.2.1 hA.2.2.2.2.2 (by rw [hA.2.2.2.1]; omega)) rfl (ma_goodc kc_Book_look) (B.2.2.2.1 _ k_2122) (B.2.2.2.1 _ k_2124) (B.2.2.2.1 _ ks_82) (B.2.2.2.1 _ k_13) ⟨by decide +kernel, by decide +kernel, by decide +kernel⟩ rfl d_Book_readNumber_188 rfl (Nat.le_of_ble_eq_true rfl) ⟨by decide, by decide⟩ ⟨by decide, by decide⟩ ⟨by decide, by decide⟩ (mv_noH hno _) (fun v188 σ188 h188 => ?_)
                  obtain ⟨e188, w188, z188⟩ := h188
                  have e188 := e188.symm
                  subst e188
                  refine mv_callSi (pc := 191) (n := 1) B (mK_ok sk sv) hNs (c_Book_digit l hi _ _) rfl (ma_goodc kc_Book_digit) (B.2.2.2.1 _ k_2129) (B.2.2.2.1 _ k_2130) (B.2.2.2.1 _ k_13) ⟨by decide +kernel, by decide +kernel, by decide +kernel⟩ rfl d_Book_readNumber_191 rfl (Nat.le_of_ble_eq_true rfl) ⟨by decide, by decide⟩ ⟨by decide, by decide⟩ ⟨by decide, by decide⟩ (mv_noH hno _) (fun v191 σ191 h191 => ?_)
                  obtain ⟨e191, z191⟩ := h191
                  have e191 := e191.symm
                  subst e191
                  refine mv_if_ne (pc := 194) (tgt := 211) B d_Book_readNumber_194 rfl (fun h194 => ?_) (fun h194 => ?_)
                  · skip
                    refine mv_aload_n (pc := 211) B d_Book_readNumber_211 rfl 2 rfl ?_
                    refine mv_aload_n (pc := 212) B d_Book_readNumber_212 rfl 2 rfl ?_
                    refine mv_getI (pc := 213) (ci := 12) (C := R_Book) (T := F_Book) (N := 65) B 3 rfl rfl (by decide) i_Book (B.2.2.2.1 _ k_1846) rfl d_Book_readNumber_213 ?_
                    refine mv_putI (pc := 216) (ci := 12) (C := R_Book) (T := F_Book) (N := 65) B 7 rfl rfl (by decide) i_Book t_Book_ok n_Book (B.2.2.2.1 _ k_1850) rfl rfl rfl rfl d_Book_readNumber_216 ?_
                    exact mv_vret (pc := 219) B hr d_Book_readNumber_219 (Nat.le_refl _) (Nat.le_refl _) ⟨rfl, a9, by first | exact hA | exact hA.si ⟨by decide, by decide⟩, hk, hs, ha, by first | exact Or.inr ⟨hb, by have z : ¬ n9.toInt = 0 := fun z => h180 (Int32.toInt_inj.mp z); omega⟩ | exact Or.inl (by show 0 ≤ (mv_i τ 108 3).toInt; rw [hA.2.2.2.1]; omega)⟩
                  · skip
                    refine mv_aload_n (pc := 197) B d_Book_readNumber_197 rfl 2 rfl ?_
                    refine mv_aload_n (pc := 198) B d_Book_readNumber_198 rfl 2 rfl ?_
                    refine mv_getI (pc := 199) (ci := 12) (C := R_Book) (T := F_Book) (N := 65) B 3 rfl rfl (by decide) i_Book (B.2.2.2.1 _ k_1846) rfl d_Book_readNumber_199 ?_
                    refine mv_callVi (pc := 202) (n := 1) (ci := 12) (C := R_Book) B (mK_ok sk sv) hNs rfl rfl (c_Book_look_y l hi _ _ len hA.2.1 hA.2.2.1 hA.2.2.2.2.2 (by rw [hA.2.2.2.1]; omega)) rfl (ma_goodc kc_Book_look) (B.2.2.2.1 _ k_2122) (B.2.2.2.1 _ k_2124) (B.2.2.2.1 _ ks_82) (B.2.2.2.1 _ k_13) ⟨by decide +kernel, by decide +kernel, by decide +kernel⟩ rfl d_Book_readNumber_202 rfl (Nat.le_of_ble_eq_true rfl) ⟨by decide, by decide⟩ ⟨by decide, by decide⟩ ⟨by decide, by decide⟩ (mv_noH hno _) (fun v202 σ202 h202 => ?_)
                    obtain ⟨e202, w202, z202⟩ := h202
                    have e202 := e202.symm
                    subst e202
                    refine mv_callSi (pc := 205) (n := 1) B (mK_ok sk sv) hNs (c_Book_letter l hi _ _) rfl (ma_goodc kc_Book_letter) (B.2.2.2.1 _ k_2126) (B.2.2.2.1 _ k_2127) (B.2.2.2.1 _ k_13) ⟨by decide +kernel, by decide +kernel, by decide +kernel⟩ rfl d_Book_readNumber_205 rfl (Nat.le_of_ble_eq_true rfl) ⟨by decide, by decide⟩ ⟨by decide, by decide⟩ ⟨by decide, by decide⟩ (mv_noH hno _) (fun v205 σ205 h205 => ?_)
                    obtain ⟨e205, w205, z205⟩ := h205
                    have e205 := e205.symm
                    subst e205
                    refine mv_if_eq (pc := 208) (tgt := 219) B d_Book_readNumber_208 rfl (fun h208 => ?_) (fun h208 => ?_)
                    · skip
                      exact mv_vret (pc := 219) B hr d_Book_readNumber_219 (Nat.le_refl _) (Nat.le_refl _) ⟨rfl, a9, by first | exact hA | exact hA.si ⟨by decide, by decide⟩, hk, hs, ha, by first | exact Or.inr ⟨hb, by have z : ¬ n9.toInt = 0 := fun z => h180 (Int32.toInt_inj.mp z); omega⟩ | exact Or.inl (by show 0 ≤ (mv_i τ 108 3).toInt; rw [hA.2.2.2.1]; omega)⟩
                    · skip
                      refine mv_aload_n (pc := 211) B d_Book_readNumber_211 rfl 2 rfl ?_
                      refine mv_aload_n (pc := 212) B d_Book_readNumber_212 rfl 2 rfl ?_
                      refine mv_getI (pc := 213) (ci := 12) (C := R_Book) (T := F_Book) (N := 65) B 3 rfl rfl (by decide) i_Book (B.2.2.2.1 _ k_1846) rfl d_Book_readNumber_213 ?_
                      refine mv_putI (pc := 216) (ci := 12) (C := R_Book) (T := F_Book) (N := 65) B 7 rfl rfl (by decide) i_Book t_Book_ok n_Book (B.2.2.2.1 _ k_1850) rfl rfl rfl rfl d_Book_readNumber_216 ?_
                      exact mv_vret (pc := 219) B hr d_Book_readNumber_219 (Nat.le_refl _) (Nat.le_refl _) ⟨rfl, a9, by first | exact hA | exact hA.si ⟨by decide, by decide⟩, hk, hs, ha, by first | exact Or.inr ⟨hb, by have z : ¬ n9.toInt = 0 := fun z => h180 (Int32.toInt_inj.mp z); omega⟩ | exact Or.inl (by show 0 ≤ (mv_i τ 108 3).toInt; rw [hA.2.2.2.1]; omega)⟩
          · skip
            refine mv_iload_n (pc := 106) B d_Book_readNumber_106 rfl 4 rfl ?_
            refine mv_bipush (pc := 107) (v := 16) B d_Book_readNumber_107 (by decide) ?_
            refine mv_icmp_eq (pc := 109) (tgt := 179) B d_Book_readNumber_109 rfl (fun h109 => ?_) (fun h109 => ?_)
            · skip
              refine mv_iload_n (pc := 179) B d_Book_readNumber_179 rfl 4 rfl ?_
              refine mv_if_eq (pc := 180) (tgt := 211) B d_Book_readNumber_180 rfl (fun h180 => ?_) (fun h180 => ?_)
              · skip
                refine mv_aload_n (pc := 211) B d_Book_readNumber_211 rfl 2 rfl ?_
                refine mv_aload_n (pc := 212) B d_Book_readNumber_212 rfl 2 rfl ?_
                refine mv_getI (pc := 213) (ci := 12) (C := R_Book) (T := F_Book) (N := 65) B 3 rfl rfl (by decide) i_Book (B.2.2.2.1 _ k_1846) rfl d_Book_readNumber_213 ?_
                refine mv_putI (pc := 216) (ci := 12) (C := R_Book) (T := F_Book) (N := 65) B 7 rfl rfl (by decide) i_Book t_Book_ok n_Book (B.2.2.2.1 _ k_1850) rfl rfl rfl rfl d_Book_readNumber_216 ?_
                exact mv_vret (pc := 219) B hr d_Book_readNumber_219 (Nat.le_refl _) (Nat.le_refl _) ⟨rfl, a9, by first | exact hA | exact hA.si ⟨by decide, by decide⟩, hk, hs, ha, by first | exact Or.inr ⟨hb, by have z : ¬ n9.toInt = 0 := fun z => h180 (Int32.toInt_inj.mp z); omega⟩ | exact Or.inl (by show 0 ≤ (mv_i τ 108 3).toInt; rw [hA.2.2.2.1]; omega)⟩
              · skip
                refine mv_aload_n (pc := 183) B d_Book_readNumber_183 rfl 2 rfl ?_
                refine mv_aload_n (pc := 184) B d_Book_readNumber_184 rfl 2 rfl ?_
                refine mv_getI (pc := 185) (ci := 12) (C := R_Book) (T := F_Book) (N := 65) B 3 rfl rfl (by decide) i_Book (B.2.2.2.1 _ k_1846) rfl d_Book_readNumber_185 ?_
                refine mv_callVi (pc := 188) (n := 1) (ci := 12) (C := R_Book) B (mK_ok sk sv) hNs rfl rfl (c_Book_look_y l hi _ _ len hA.2.1 hA.2.2.1 hA.2.2.2.2.2 (by rw [hA.2.2.2.1]; omega)) rfl (ma_goodc kc_Book_look) (B.2.2.2.1 _ k_2122) (B.2.2.2.1 _ k_2124) (B.2.2.2.1 _ ks_82) (B.2.2.2.1 _ k_13) ⟨by decide +kernel, by decide +kernel, by decide +kernel⟩ rfl d_Book_readNumber_188 rfl (Nat.le_of_ble_eq_true rfl) ⟨by decide, by decide⟩ ⟨by decide, by decide⟩ ⟨by decide, by decide⟩ (mv_noH hno _) (fun v188 σ188 h188 => ?_)
                obtain ⟨e188, w188, z188⟩ := h188
                have e188 := e188.symm
                subst e188
                refine mv_callSi (pc := 191) (n := 1) B (mK_ok sk sv) hNs (c_Book_digit l hi _ _) rfl (ma_goodc kc_Book_digit) (B.2.2.2.1 _ k_2129) (B.2.2.2.1 _ k_2130) (B.2.2.2.1 _ k_13) ⟨by decide +kernel, by decide +kernel, by decide +kernel⟩ rfl d_Book_readNumber_191 rfl (Nat.le_of_ble_eq_true rfl) ⟨by decide, by decide⟩ ⟨by decide, by decide⟩ ⟨by decide, by decide⟩ (mv_noH hno _) (fun v191 σ191 h191 => ?_)
                obtain ⟨e191, z191⟩ := h191
                have e191 := e191.symm
                subst e191
                refine mv_if_ne (pc := 194) (tgt := 211) B d_Book_readNumber_194 rfl (fun h194 => ?_) (fun h194 => ?_)
                · skip
                  refine mv_aload_n (pc := 211) B d_Book_readNumber_211 rfl 2 rfl ?_
                  refine mv_aload_n (pc := 212) B d_Book_readNumber_212 rfl 2 rfl ?_
                  refine mv_getI (pc := 213) (ci := 12) (C := R_Book) (T := F_Book) (N := 65) B 3 rfl rfl (by decide) i_Book (B.2.2.2.1 _ k_1846) rfl d_Book_readNumber_213 ?_
                  refine mv_putI (pc := 216) (ci := 12) (C := R_Book) (T := F_Book) (N := 65) B 7 rfl rfl (by decide) i_Book t_Book_ok n_Book (B.2.2.2.1 _ k_1850) rfl rfl rfl rfl d_Book_readNumber_216 ?_
                  exact mv_vret (pc := 219) B hr d_Book_readNumber_219 (Nat.le_refl _) (Nat.le_refl _) ⟨rfl, a9, by first | exact hA | exact hA.si ⟨by decide, by decide⟩, hk, hs, ha, by first | exact Or.inr ⟨hb, by have z : ¬ n9.toInt = 0 := fun z => h180 (Int32.toInt_inj.mp z); omega⟩ | exact Or.inl (by show 0 ≤ (mv_i τ 108 3).toInt; rw [hA.2.2.2.1]; omega)⟩
                · skip
                  refine mv_aload_n (pc := 197) B d_Book_readNumber_197 rfl 2 rfl ?_
                  refine mv_aload_n (pc := 198) B d_Book_readNumber_198 rfl 2 rfl ?_
                  refine mv_getI (pc := 199) (ci := 12) (C := R_Book) (T := F_Book) (N := 65) B 3 rfl rfl (by decide) i_Book (B.2.2.2.1 _ k_1846) rfl d_Book_readNumber_199 ?_
                  refine mv_callVi (pc := 202) (n := 1) (ci := 12) (C := R_Book) B (mK_ok sk sv) hNs rfl rfl (c_Book_look_y l hi _ _ len hA.2.1 hA.2.2.1 hA.2.2.2.2.2 (by rw [hA.2.2.2.1]; omega)) rfl (ma_goodc kc_Book_look) (B.2.2.2.1 _ k_2122) (B.2.2.2.1 _ k_2124) (B.2.2.2.1 _ ks_82) (B.2.2.2.1 _ k_13) ⟨by decide +kernel, by decide +kernel, by decide +kernel⟩ rfl d_Book_readNumber_202 rfl (Nat.le_of_ble_eq_true rfl) ⟨by decide, by decide⟩ ⟨by decide, by decide⟩ ⟨by decide, by decide⟩ (mv_noH hno _) (fun v202 σ202 h202 => ?_)
                  obtain ⟨e202, w202, z202⟩ := h202
                  have e202 := e202.symm
                  subst e202
                  refine mv_callSi (pc := 205) (n := 1) B (mK_ok sk sv) hNs (c_Book_letter l hi _ _) rfl (ma_goodc kc_Book_letter) (B.2.2.2.1 _ k_2126) (B.2.2.2.1 _ k_2127) (B.2.2.2.1 _ k_13) ⟨by decide +kernel, by decide +kernel, by decide +kernel⟩ rfl d_Book_readNumber_205 rfl (Nat.le_of_ble_eq_true rfl) ⟨by decide, by decide⟩ ⟨by decide, by decide⟩ ⟨by decide, by decide⟩ (mv_noH hno _) (fun v205 σ205 h205 => ?_)
                  obtain ⟨e205, w205, z205⟩ := h205
                  have e205 := e205.symm
                  subst e205
                  refine mv_if_eq (pc := 208) (tgt := 219) B d_Book_readNumber_208 rfl (fun h208 => ?_) (fun h208 => ?_)
                  · skip
                    exact mv_vret (pc := 219) B hr d_Book_readNumber_219 (Nat.le_refl _) (Nat.le_refl _) ⟨rfl, a9, by first | exact hA | exact hA.si ⟨by decide, by decide⟩, hk, hs, ha, by first | exact Or.inr ⟨hb, by have z : ¬ n9.toInt = 0 := fun z => h180 (Int32.toInt_inj.mp z); omega⟩ | exact Or.inl (by show 0 ≤ (mv_i τ 108 3).toInt; rw [hA.2.2.2.1]; omega)⟩
                  · skip
                    refine mv_aload_n (pc := 211) B d_Book_readNumber_211 rfl 2 rfl ?_
                    refine mv_aload_n (pc := 212) B d_Book_readNumber_212 rfl 2 rfl ?_
                    refine mv_getI (pc := 213) (ci := 12) (C := R_Book) (T := F_Book) (N := 65) B 3 rfl rfl (by decide) i_Book (B.2.2.2.1 _ k_1846) rfl d_Book_readNumber_213 ?_
                    refine mv_putI (pc := 216) (ci := 12) (C := R_Book) (T := F_Book) (N := 65) B 7 rfl rfl (by decide) i_Book t_Book_ok n_Book (B.2.2.2.1 _ k_1850) rfl rfl rfl rfl d_Book_readNumber_216 ?_
                    exact mv_vret (pc := 219) B hr d_Book_readNumber_219 (Nat.le_refl _) (Nat.le_refl _) ⟨rfl, a9, by first | exact hA | exact hA.si ⟨by decide, by decide⟩, hk, hs, ha, by first | exact Or.inr ⟨hb, by have z : ¬ n9.toInt = 0 := fun z => h180 (Int32.toInt_inj.mp z); omega⟩ | exact Or.inl (by show 0 ≤ (mv_i τ 108 3).toInt; rw [hA.2.2.2.1]; omega)⟩
            · skip
              refine mv_aload_n (pc := 112) B d_Book_readNumber_112 rfl 2 rfl ?_
              refine mv_getL (pc := 113) (ci := 12) (C := R_Book) (T := F_Book) (N := 65) B 9 rfl rfl (by decide) i_Book (B.2.2.2.1 _ k_1852) rfl d_Book_readNumber_113 ?_
              refine mv_iload_n (pc := 116) B d_Book_readNumber_116 rfl 3 rfl ?_
              refine mv_if_eq (pc := 117) (tgt := 125) B d_Book_readNumber_117 rfl (fun h117 => ?_) (fun h117 => ?_)
              · skip
                refine mv_bipush (pc := 125) (v := 10) B d_Book_readNumber_125 (by decide) ?_
                refine mv_iload (pc := 127) B d_Book_readNumber_127 0 rfl ?_
                refine mv_callSi (pc := 129) (n := 3) B (mK_ok sk sv) hNs (c_Book_fits_0 l hi _ _ _ _) rfl (ma_goodc kc_Book_fits_0) (B.2.2.2.1 _ k_2139) (B.2.2.2.1 _ k_2140) (B.2.2.2.1 _ k_13) ⟨by decide +kernel, by decide +kernel, by decide +kernel⟩ rfl d_Book_readNumber_129 rfl (Nat.le_of_ble_eq_true rfl) ⟨by decide, by decide⟩ ⟨by decide, by decide⟩ ⟨by decide, by decide⟩ (mv_noH hno _) (fun v129 σ129 h129 => ?_)
                obtain ⟨e129, z129⟩ := h129
                have e129 := e129.symm
                subst e129
                refine mv_if_ne (pc := 132) (tgt := 138) B d_Book_readNumber_132 rfl (fun h132 => ?_) (fun h132 => ?_)
                · skip
                  refine mv_aload_n (pc := 138) B d_Book_readNumber_138 rfl 2 rfl ?_
                  refine mv_aload_n (pc := 139) B d_Book_readNumber_139 rfl 2 rfl ?_
                  refine mv_getL (pc := 140) (ci := 12) (C := R_Book) (T := F_Book) (N := 65) B 9 rfl rfl (by decide) i_Book (B.2.2.2.1 _ k_1852) rfl d_Book_readNumber_140 ?_
                  refine mv_iload_n (pc := 143) B d_Book_readNumber_143 rfl 3 rfl ?_
                  refine mv_if_eq (pc := 144) (tgt := 152) B d_Book_readNumber_144 rfl (fun h144 => ?_) (fun h144 => ?_)
                  · skip
                    refine mv_bipush (pc := 152) (v := 10) B d_Book_readNumber_152 (by decide) ?_
                    refine mv_i2l (pc := 154) B d_Book_readNumber_154 ?_
                    refine mv_lmul (pc := 155) B d_Book_readNumber_155 ?_
                    refine mv_iload (pc := 156) B d_Book_readNumber_156 0 rfl ?_
                    refine mv_i2l (pc := 158) B d_Book_readNumber_158 ?_
                    refine mv_ladd (pc := 159) B d_Book_readNumber_159 ?_
                    refine mv_putL (pc := 160) (ci := 12) (C := R_Book) (T := F_Book) (N := 65) B 9 rfl rfl (by decide) i_Book t_Book_ok n_Book (B.2.2.2.1 _ k_1852) rfl rfl d_Book_readNumber_160 ?_
                    refine mv_iinc (pc := 163) (j := 4) (v := 1) B d_Book_readNumber_163 rfl (by decide) (by decide) rfl ?_
                    refine mv_aload_n (pc := 166) B d_Book_readNumber_166 rfl 3 rfl ?_
                    refine mv_dup (pc := 167) B d_Book_readNumber_167 rfl ?_
                    refine mv_getI (pc := 168) (ci := 12) (C := R_Book) (T := F_Book) (N := 65) B 3 rfl rfl (by decide) i_Book (B.2.2.2.1 _ k_1846) rfl d_Book_readNumber_168 ?_
                    refine mv_iconst (pc := 171) (v := 1) B d_Book_readNumber_171 (by decide) ?_
                    refine mv_iadd (pc := 172) B d_Book_readNumber_172 ?_
                    refine mv_putI (pc := 173) (ci := 12) (C := R_Book) (T := F_Book) (N := 65) B 3 rfl rfl (by decide) i_Book t_Book_ok n_Book (B.2.2.2.1 _ k_1846) rfl rfl rfl rfl d_Book_readNumber_173 ?_
                    refine mv_gen (fun S176 eS176 => ?_)
                    have hA : Ta 108 len σ S176 (a9 + 1) := by rw [eS176]; exact hA.sl.inc hlt
                    have hk : mv_i S176 108 4 = 2 := by rw [eS176]; exact hk
                    have hs : mv_i S176 108 5 = mv_i σ 108 5 := by rw [eS176]; exact hs
                    have hb : mv_i S176 108 7 = mv_i σ 108 7 := by rw [eS176]; exact hb
                    have w9n : (n9 + 1).toInt = n9.toInt + 1 := i32_inc (by have := hA.2.2.2.2; omega)
                    clear eS176
                    refine mv_goto (pc := 176) (tgt := 60) B d_Book_readNumber_176 rfl ?_
                    refine mv_lpick [3, 4, 0] rfl ?_
                    exact ih _ _ _ _ hA hk hs hb (by omega) (by omega) (by omega) (by omega)
                  · skip
                    refine mv_bipush (pc := 147) (v := 16) B d_Book_readNumber_147 (by decide) ?_
                    refine mv_goto (pc := 149) (tgt := 154) B d_Book_readNumber_149 rfl ?_
                    refine mv_i2l (pc := 154) B d_Book_readNumber_154 ?_
                    refine mv_lmul (pc := 155) B d_Book_readNumber_155 ?_
                    refine mv_iload (pc := 156) B d_Book_readNumber_156 0 rfl ?_
                    refine mv_i2l (pc := 158) B d_Book_readNumber_158 ?_
                    refine mv_ladd (pc := 159) B d_Book_readNumber_159 ?_
                    refine mv_putL (pc := 160) (ci := 12) (C := R_Book) (T := F_Book) (N := 65) B 9 rfl rfl (by decide) i_Book t_Book_ok n_Book (B.2.2.2.1 _ k_1852) rfl rfl d_Book_readNumber_160 ?_
                    refine mv_iinc (pc := 163) (j := 4) (v := 1) B d_Book_readNumber_163 rfl (by decide) (by decide) rfl ?_
                    refine mv_aload_n (pc := 166) B d_Book_readNumber_166 rfl 3 rfl ?_
                    refine mv_dup (pc := 167) B d_Book_readNumber_167 rfl ?_
                    refine mv_getI (pc := 168) (ci := 12) (C := R_Book) (T := F_Book) (N := 65) B 3 rfl rfl (by decide) i_Book (B.2.2.2.1 _ k_1846) rfl d_Book_readNumber_168 ?_
                    refine mv_iconst (pc := 171) (v := 1) B d_Book_readNumber_171 (by decide) ?_
                    refine mv_iadd (pc := 172) B d_Book_readNumber_172 ?_
                    refine mv_putI (pc := 173) (ci := 12) (C := R_Book) (T := F_Book) (N := 65) B 3 rfl rfl (by decide) i_Book t_Book_ok n_Book (B.2.2.2.1 _ k_1846) rfl rfl rfl rfl d_Book_readNumber_173 ?_
                    refine mv_gen (fun S176 eS176 => ?_)
                    have hA : Ta 108 len σ S176 (a9 + 1) := by rw [eS176]; exact hA.sl.inc hlt
                    have hk : mv_i S176 108 4 = 2 := by rw [eS176]; exact hk
                    have hs : mv_i S176 108 5 = mv_i σ 108 5 := by rw [eS176]; exact hs
                    have hb : mv_i S176 108 7 = mv_i σ 108 7 := by rw [eS176]; exact hb
                    have w9n : (n9 + 1).toInt = n9.toInt + 1 := i32_inc (by have := hA.2.2.2.2; omega)
                    clear eS176
                    refine mv_goto (pc := 176) (tgt := 60) B d_Book_readNumber_176 rfl ?_
                    refine mv_lpick [3, 4, 0] rfl ?_
                    exact ih _ _ _ _ hA hk hs hb (by omega) (by omega) (by omega) (by omega)
                · skip
                  refine mv_goto (pc := 135) (tgt := 179) B d_Book_readNumber_135 rfl ?_
                  refine mv_iload_n (pc := 179) B d_Book_readNumber_179 rfl 4 rfl ?_
                  refine mv_if_eq (pc := 180) (tgt := 211) B d_Book_readNumber_180 rfl (fun h180 => ?_) (fun h180 => ?_)
                  · skip
                    refine mv_aload_n (pc := 211) B d_Book_readNumber_211 rfl 2 rfl ?_
                    refine mv_aload_n (pc := 212) B d_Book_readNumber_212 rfl 2 rfl ?_
                    refine mv_getI (pc := 213) (ci := 12) (C := R_Book) (T := F_Book) (N := 65) B 3 rfl rfl (by decide) i_Book (B.2.2.2.1 _ k_1846) rfl d_Book_readNumber_213 ?_
                    refine mv_putI (pc := 216) (ci := 12) (C := R_Book) (T := F_Book) (N := 65) B 7 rfl rfl (by decide) i_Book t_Book_ok n_Book (B.2.2.2.1 _ k_1850) rfl rfl rfl rfl d_Book_readNumber_216 ?_
                    exact mv_vret (pc := 219) B hr d_Book_readNumber_219 (Nat.le_refl _) (Nat.le_refl _) ⟨rfl, a9, by first | exact hA | exact hA.si ⟨by decide, by decide⟩, hk, hs, ha, by first | exact Or.inr ⟨hb, by have z : ¬ n9.toInt = 0 := fun z => h180 (Int32.toInt_inj.mp z); omega⟩ | exact Or.inl (by show 0 ≤ (mv_i τ 108 3).toInt; rw [hA.2.2.2.1]; omega)⟩
                  · skip
                    refine mv_aload_n (pc := 183) B d_Book_readNumber_183 rfl 2 rfl ?_
                    refine mv_aload_n (pc := 184) B d_Book_readNumber_184 rfl 2 rfl ?_
                    refine mv_getI (pc := 185) (ci := 12) (C := R_Book) (T := F_Book) (N := 65) B 3 rfl rfl (by decide) i_Book (B.2.2.2.1 _ k_1846) rfl d_Book_readNumber_185 ?_
                    refine mv_callVi (pc := 188) (n := 1) (ci := 12) (C := R_Book) B (mK_ok sk sv) hNs rfl rfl (c_Book_look_y l hi _ _ len hA.2.1 hA.2.2.1 hA.2.2.2.2.2 (by rw [hA.2.2.2.1]; omega)) rfl (ma_goodc kc_Book_look) (B.2.2.2.1 _ k_2122) (B.2.2.2.1 _ k_2124) (B.2.2.2.1 _ ks_82) (B.2.2.2.1 _ k_13) ⟨by decide +kernel, by decide +kernel, by decide +kernel⟩ rfl d_Book_readNumber_188 rfl (Nat.le_of_ble_eq_true rfl) ⟨by decide, by decide⟩ ⟨by decide, by decide⟩ ⟨by decide, by decide⟩ (mv_noH hno _) (fun v188 σ188 h188 => ?_)
                    obtain ⟨e188, w188, z188⟩ := h188
                    have e188 := e188.symm
                    subst e188
                    refine mv_callSi (pc := 191) (n := 1) B (mK_ok sk sv) hNs (c_Book_digit l hi _ _) rfl (ma_goodc kc_Book_digit) (B.2.2.2.1 _ k_2129) (B.2.2.2.1 _ k_2130) (B.2.2.2.1 _ k_13) ⟨by decide +kernel, by decide +kernel, by decide +kernel⟩ rfl d_Book_readNumber_191 rfl (Nat.le_of_ble_eq_true rfl) ⟨by decide, by decide⟩ ⟨by decide, by decide⟩ ⟨by decide, by decide⟩ (mv_noH hno _) (fun v191 σ191 h191 => ?_)
                    obtain ⟨e191, z191⟩ := h191
                    have e191 := e191.symm
                    subst e191
                    refine mv_if_ne (pc := 194) (tgt := 211) B d_Book_readNumber_194 rfl (fun h194 => ?_) (fun h194 => ?_)
                    · skip
                      refine mv_aload_n (pc := 211) B d_Book_readNumber_211 rfl 2 rfl ?_
                      refine mv_aload_n (pc := 212) B d_Book_readNumber_212 rfl 2 rfl ?_
                      refine mv_getI (pc := 213) (ci := 12) (C := R_Book) (T := F_Book) (N := 65) B 3 rfl rfl (by decide) i_Book (B.2.2.2.1 _ k_1846) rfl d_Book_readNumber_213 ?_
                      refine mv_putI (pc := 216) (ci := 12) (C := R_Book) (T := F_Book) (N := 65) B 7 rfl rfl (by decide) i_Book t_Book_ok n_Book (B.2.2.2.1 _ k_1850) rfl rfl rfl rfl d_Book_readNumber_216 ?_
                      exact mv_vret (pc := 219) B hr d_Book_readNumber_219 (Nat.le_refl _) (Nat.le_refl _) ⟨rfl, a9, by first | exact hA | exact hA.si ⟨by decide, by decide⟩, hk, hs, ha, by first | exact Or.inr ⟨hb, by have z : ¬ n9.toInt = 0 := fun z => h180 (Int32.toInt_inj.mp z); omega⟩ | exact Or.inl (by show 0 ≤ (mv_i τ 108 3).toInt; rw [hA.2.2.2.1]; omega)⟩
                    · skip
                      refine mv_aload_n (pc := 197) B d_Book_readNumber_197 rfl 2 rfl ?_
                      refine mv_aload_n (pc := 198) B d_Book_readNumber_198 rfl 2 rfl ?_
                      refine mv_getI (pc := 199) (ci := 12) (C := R_Book) (T := F_Book) (N := 65) B 3 rfl rfl (by decide) i_Book (B.2.2.2.1 _ k_1846) rfl d_Book_readNumber_199 ?_
                      refine mv_callVi (pc := 202) (n := 1) (ci := 12) (C := R_Book) B (mK_ok sk sv) hNs rfl rfl (c_Book_look_y l hi _ _ len hA.2.1 hA.2.2.1 hA.2.2.2.2.2 (by rw [hA.2.2.2.1]; omega)) rfl (ma_goodc kc_Book_look) (B.2.2.2.1 _ k_2122) (B.2.2.2.1 _ k_2124) (B.2.2.2.1 _ ks_82) (B.2.2.2.1 _ k_13) ⟨by decide +kernel, by decide +kernel, by decide +kernel⟩ rfl d_Book_readNumber_202 rfl (Nat.le_of_ble_eq_true rfl) ⟨by decide, by decide⟩ ⟨by decide, by decide⟩ ⟨by decide, by decide⟩ (mv_noH hno _) (fun v202 σ202 h202 => ?_)
                      obtain ⟨e202, w202, z202⟩ := h202
                      have e202 := e202.symm
                      subst e202
                      refine mv_callSi (pc := 205) (n := 1) B (mK_ok sk sv) hNs (c_Book_letter l hi _ _) rfl (ma_goodc kc_Book_letter) (B.2.2.2.1 _ k_2126) (B.2.2.2.1 _ k_2127) (B.2.2.2.1 _ k_13) ⟨by decide +kernel, by decide +kernel, by decide +kernel⟩ rfl d_Book_readNumber_205 rfl (Nat.le_of_ble_eq_true rfl) ⟨by decide, by decide⟩ ⟨by decide, by decide⟩ ⟨by decide, by decide⟩ (mv_noH hno _) (fun v205 σ205 h205 => ?_)
                      obtain ⟨e205, w205, z205⟩ := h205
                      have e205 := e205.symm
                      subst e205
                      refine mv_if_eq (pc := 208) (tgt := 219) B d_Book_readNumber_208 rfl (fun h208 => ?_) (fun h208 => ?_)
                      · skip
                        exact mv_vret (pc := 219) B hr d_Book_readNumber_219 (Nat.le_refl _) (Nat.le_refl _) ⟨rfl, a9, by first | exact hA | exact hA.si ⟨by decide, by decide⟩, hk, hs, ha, by first | exact Or.inr ⟨hb, by have z : ¬ n9.toInt = 0 := fun z => h180 (Int32.toInt_inj.mp z); omega⟩ | exact Or.inl (by show 0 ≤ (mv_i τ 108 3).toInt; rw [hA.2.2.2.1]; omega)⟩
                      · skip
                        refine mv_aload_n (pc := 211) B d_Book_readNumber_211 rfl 2 rfl ?_
                        refine mv_aload_n (pc := 212) B d_Book_readNumber_212 rfl 2 rfl ?_
                        refine mv_getI (pc := 213) (ci := 12) (C := R_Book) (T := F_Book) (N := 65) B 3 rfl rfl (by decide) i_Book (B.2.2.2.1 _ k_1846) rfl d_Book_readNumber_213 ?_
                        refine mv_putI (pc := 216) (ci := 12) (C := R_Book) (T := F_Book) (N := 65) B 7 rfl rfl (by decide) i_Book t_Book_ok n_Book (B.2.2.2.1 _ k_1850) rfl rfl rfl rfl d_Book_readNumber_216 ?_
                        exact mv_vret (pc := 219) B hr d_Book_readNumber_219 (Nat.le_refl _) (Nat.le_refl _) ⟨rfl, a9, by first | exact hA | exact hA.si ⟨by decide, by decide⟩, hk, hs, ha, by first | exact Or.inr ⟨hb, by have z : ¬ n9.toInt = 0 := fun z => h180 (Int32.toInt_inj.mp z); omega⟩ | exact Or.inl (by show 0 ≤ (mv_i τ 108 3).toInt; rw [hA.2.2.2.1]; omega)⟩
              · skip
                refine mv_bipush (pc := 120) (v := 16) B d_Book_readNumber_120 (by decide) ?_
                refine mv_goto (pc := 122) (tgt := 127) B d_Book_readNumber_122 rfl ?_
                refine mv_iload (pc := 127) B d_Book_readNumber_127 0 rfl ?_
                refine mv_callSi (pc := 129) (n := 3) B (mK_ok sk sv) hNs (c_Book_fits_0 l hi _ _ _ _) rfl (ma_goodc kc_Book_fits_0) (B.2.2.2.1 _ k_2139) (B.2.2.2.1 _ k_2140) (B.2.2.2.1 _ k_13) ⟨by decide +kernel, by decide +kernel, by decide +kernel⟩ rfl d_Book_readNumber_129 rfl (Nat.le_of_ble_eq_true rfl) ⟨by decide, by decide⟩ ⟨by decide, by decide⟩ ⟨by decide, by decide⟩ (mv_noH hno _) (fun v129 σ129 h129 => ?_)
                obtain ⟨e129, z129⟩ := h129
                have e129 := e129.symm
                subst e129
                refine mv_if_ne (pc := 132) (tgt := 138) B d_Book_readNumber_132 rfl (fun h132 => ?_) (fun h132 => ?_)
                · skip
                  refine mv_aload_n (pc := 138) B d_Book_readNumber_138 rfl 2 rfl ?_
                  refine mv_aload_n (pc := 139) B d_Book_readNumber_139 rfl 2 rfl ?_
                  refine mv_getL (pc := 140) (ci := 12) (C := R_Book) (T := F_Book) (N := 65) B 9 rfl rfl (by decide) i_Book (B.2.2.2.1 _ k_1852) rfl d_Book_readNumber_140 ?_
                  refine mv_iload_n (pc := 143) B d_Book_readNumber_143 rfl 3 rfl ?_
                  refine mv_if_eq (pc := 144) (tgt := 152) B d_Book_readNumber_144 rfl (fun h144 => ?_) (fun h144 => ?_)
                  · skip
                    refine mv_bipush (pc := 152) (v := 10) B d_Book_readNumber_152 (by decide) ?_
                    refine mv_i2l (pc := 154) B d_Book_readNumber_154 ?_
                    refine mv_lmul (pc := 155) B d_Book_readNumber_155 ?_
                    refine mv_iload (pc := 156) B d_Book_readNumber_156 0 rfl ?_
                    refine mv_i2l (pc := 158) B d_Book_readNumber_158 ?_
                    refine mv_ladd (pc := 159) B d_Book_readNumber_159 ?_
                    refine mv_putL (pc := 160) (ci := 12) (C := R_Book) (T := F_Book) (N := 65) B 9 rfl rfl (by decide) i_Book t_Book_ok n_Book (B.2.2.2.1 _ k_1852) rfl rfl d_Book_readNumber_160 ?_
                    refine mv_iinc (pc := 163) (j := 4) (v := 1) B d_Book_readNumber_163 rfl (by decide) (by decide) rfl ?_
                    refine mv_aload_n (pc := 166) B d_Book_readNumber_166 rfl 3 rfl ?_
                    refine mv_dup (pc := 167) B d_Book_readNumber_167 rfl ?_
                    refine mv_getI (pc := 168) (ci := 12) (C := R_Book) (T := F_Book) (N := 65) B 3 rfl rfl (by decide) i_Book (B.2.2.2.1 _ k_1846) rfl d_Book_readNumber_168 ?_
                    refine mv_iconst (pc := 171) (v := 1) B d_Book_readNumber_171 (by decide) ?_
                    refine mv_iadd (pc := 172) B d_Book_readNumber_172 ?_
                    refine mv_putI (pc := 173) (ci := 12) (C := R_Book) (T := F_Book) (N := 65) B 3 rfl rfl (by decide) i_Book t_Book_ok n_Book (B.2.2.2.1 _ k_1846) rfl rfl rfl rfl d_Book_readNumber_173 ?_
                    refine mv_gen (fun S176 eS176 => ?_)
                    have hA : Ta 108 len σ S176 (a9 + 1) := by rw [eS176]; exact hA.sl.inc hlt
                    have hk : mv_i S176 108 4 = 2 := by rw [eS176]; exact hk
                    have hs : mv_i S176 108 5 = mv_i σ 108 5 := by rw [eS176]; exact hs
                    have hb : mv_i S176 108 7 = mv_i σ 108 7 := by rw [eS176]; exact hb
                    have w9n : (n9 + 1).toInt = n9.toInt + 1 := i32_inc (by have := hA.2.2.2.2; omega)
                    clear eS176
                    refine mv_goto (pc := 176) (tgt := 60) B d_Book_readNumber_176 rfl ?_
                    refine mv_lpick [3, 4, 0] rfl ?_
                    exact ih _ _ _ _ hA hk hs hb (by omega) (by omega) (by omega) (by omega)
                  · skip
                    refine mv_bipush (pc := 147) (v := 16) B d_Book_readNumber_147 (by decide) ?_
                    refine mv_goto (pc := 149) (tgt := 154) B d_Book_readNumber_149 rfl ?_
                    refine mv_i2l (pc := 154) B d_Book_readNumber_154 ?_
                    refine mv_lmul (pc := 155) B d_Book_readNumber_155 ?_
                    refine mv_iload (pc := 156) B d_Book_readNumber_156 0 rfl ?_
                    refine mv_i2l (pc := 158) B d_Book_readNumber_158 ?_
                    refine mv_ladd (pc := 159) B d_Book_readNumber_159 ?_
                    refine mv_putL (pc := 160) (ci := 12) (C := R_Book) (T := F_Book) (N := 65) B 9 rfl rfl (by decide) i_Book t_Book_ok n_Book (B.2.2.2.1 _ k_1852) rfl rfl d_Book_readNumber_160 ?_
                    refine mv_iinc (pc := 163) (j := 4) (v := 1) B d_Book_readNumber_163 rfl (by decide) (by decide) rfl ?_
                    refine mv_aload_n (pc := 166) B d_Book_readNumber_166 rfl 3 rfl ?_
                    refine mv_dup (pc := 167) B d_Book_readNumber_167 rfl ?_
                    refine mv_getI (pc := 168) (ci := 12) (C := R_Book) (T := F_Book) (N := 65) B 3 rfl rfl (by decide) i_Book (B.2.2.2.1 _ k_1846) rfl d_Book_readNumber_168 ?_
                    refine mv_iconst (pc := 171) (v := 1) B d_Book_readNumber_171 (by decide) ?_
                    refine mv_iadd (pc := 172) B d_Book_readNumber_172 ?_
                    refine mv_putI (pc := 173) (ci := 12) (C := R_Book) (T := F_Book) (N := 65) B 3 rfl rfl (by decide) i_Book t_Book_ok n_Book (B.2.2.2.1 _ k_1846) rfl rfl rfl rfl d_Book_readNumber_173 ?_
                    refine mv_gen (fun S176 eS176 => ?_)
                    have hA : Ta 108 len σ S176 (a9 + 1) := by rw [eS176]; exact hA.sl.inc hlt
                    have hk : mv_i S176 108 4 = 2 := by rw [eS176]; exact hk
                    have hs : mv_i S176 108 5 = mv_i σ 108 5 := by rw [eS176]; exact hs
                    have hb : mv_i S176 108 7 = mv_i σ 108 7 := by rw [eS176]; exact hb
                    have w9n : (n9 + 1).toInt = n9.toInt + 1 := i32_inc (by have := hA.2.2.2.2; omega)
                    clear eS176
                    refine mv_goto (pc := 176) (tgt := 60) B d_Book_readNumber_176 rfl ?_
                    refine mv_lpick [3, 4, 0] rfl ?_
                    exact ih _ _ _ _ hA hk hs hb (by omega) (by omega) (by omega) (by omega)
                · skip
                  refine mv_goto (pc := 135) (tgt := 179) B d_Book_readNumber_135 rfl ?_
                  refine mv_iload_n (pc := 179) B d_Book_readNumber_179 rfl 4 rfl ?_
                  refine mv_if_eq (pc := 180) (tgt := 211) B d_Book_readNumber_180 rfl (fun h180 => ?_) (fun h180 => ?_)
                  · skip
                    refine mv_aload_n (pc := 211) B d_Book_readNumber_211 rfl 2 rfl ?_
                    refine mv_aload_n (pc := 212) B d_Book_readNumber_212 rfl 2 rfl ?_
                    refine mv_getI (pc := 213) (ci := 12) (C := R_Book) (T := F_Book) (N := 65) B 3 rfl rfl (by decide) i_Book (B.2.2.2.1 _ k_1846) rfl d_Book_readNumber_213 ?_
                    refine mv_putI (pc := 216) (ci := 12) (C := R_Book) (T := F_Book) (N := 65) B 7 rfl rfl (by decide) i_Book t_Book_ok n_Book (B.2.2.2.1 _ k_1850) rfl rfl rfl rfl d_Book_readNumber_216 ?_
                    exact mv_vret (pc := 219) B hr d_Book_readNumber_219 (Nat.le_refl _) (Nat.le_refl _) ⟨rfl, a9, by first | exact hA | exact hA.si ⟨by decide, by decide⟩, hk, hs, ha, by first | exact Or.inr ⟨hb, by have z : ¬ n9.toInt = 0 := fun z => h180 (Int32.toInt_inj.mp z); omega⟩ | exact Or.inl (by show 0 ≤ (mv_i τ 108 3).toInt; rw [hA.2.2.2.1]; omega)⟩
                  · skip
                    refine mv_aload_n (pc := 183) B d_Book_readNumber_183 rfl 2 rfl ?_
                    refine mv_aload_n (pc := 184) B d_Book_readNumber_184 rfl 2 rfl ?_
                    refine mv_getI (pc := 185) (ci := 12) (C := R_Book) (T := F_Book) (N := 65) B 3 rfl rfl (by decide) i_Book (B.2.2.2.1 _ k_1846) rfl d_Book_readNumber_185 ?_
                    refine mv_callVi (pc := 188) (n := 1) (ci := 12) (C := R_Book) B (mK_ok sk sv) hNs rfl rfl (c_Book_look_y l hi _ _ len hA.2.1 hA.2.2.1 hA.2.2.2.2.2 (by rw [hA.2.2.2.1]; omega)) rfl (ma_goodc kc_Book_look) (B.2.2.2.1 _ k_2122) (B.2.2.2.1 _ k_2124) (B.2.2.2.1 _ ks_82) (B.2.2.2.1 _ k_13) ⟨by decide +kernel, by decide +kernel, by decide +kernel⟩ rfl d_Book_readNumber_188 rfl (Nat.le_of_ble_eq_true rfl) ⟨by decide, by decide⟩ ⟨by decide, by decide⟩ ⟨by decide, by decide⟩ (mv_noH hno _) (fun v188 σ188 h188 => ?_)
                    obtain ⟨e188, w188, z188⟩ := h188
                    have e188 := e188.symm
                    subst e188
                    refine mv_callSi (pc := 191) (n := 1) B (mK_ok sk sv) hNs (c_Book_digit l hi _ _) rfl (ma_goodc kc_Book_digit) (B.2.2.2.1 _ k_2129) (B.2.2.2.1 _ k_2130) (B.2.2.2.1 _ k_13) ⟨by decide +kernel, by decide +kernel, by decide +kernel⟩ rfl d_Book_readNumber_191 rfl (Nat.le_of_ble_eq_true rfl) ⟨by decide, by decide⟩ ⟨by decide, by decide⟩ ⟨by decide, by decide⟩ (mv_noH hno _) (fun v191 σ191 h191 => ?_)
                    obtain ⟨e191, z191⟩ := h191
                    have e191 := e191.symm
                    subst e191
                    refine mv_if_ne (pc := 194) (tgt := 211) B d_Book_readNumber_194 rfl (fun h194 => ?_) (fun h194 => ?_)
                    · skip
                      refine mv_aload_n (pc := 211) B d_Book_readNumber_211 rfl 2 rfl ?_
                      refine mv_aload_n (pc := 212) B d_Book_readNumber_212 rfl 2 rfl ?_
                      refine mv_getI (pc := 213) (ci := 12) (C := R_Book) (T := F_Book) (N := 65) B 3 rfl rfl (by decide) i_Book (B.2.2.2.1 _ k_1846) rfl d_Book_readNumber_213 ?_
                      refine mv_putI (pc := 216) (ci := 12) (C := R_Book) (T := F_Book) (N := 65) B 7 rfl rfl (by decide) i_Book t_Book_ok n_Book (B.2.2.2.1 _ k_1850) rfl rfl rfl rfl d_Book_readNumber_216 ?_
                      exact mv_vret (pc := 219) B hr d_Book_readNumber_219 (Nat.le_refl _) (Nat.le_refl _) ⟨rfl, a9, by first | exact hA | exact hA.si ⟨by decide, by decide⟩, hk, hs, ha, by first | exact Or.inr ⟨hb, by have z : ¬ n9.toInt = 0 := fun z => h180 (Int32.toInt_inj.mp z); omega⟩ | exact Or.inl (by show 0 ≤ (mv_i τ 108 3).toInt; rw [hA.2.2.2.1]; omega)⟩
                    · skip
                      refine mv_aload_n (pc := 197) B d_Book_readNumber_197 rfl 2 rfl ?_
                      refine mv_aload_n (pc := 198) B d_Book_readNumber_198 rfl 2 rfl ?_
                      refine mv_getI (pc := 199) (ci := 12) (C := R_Book) (T := F_Book) (N := 65) B 3 rfl rfl (by decide) i_Book (B.2.2.2.1 _ k_1846) rfl d_Book_readNumber_199 ?_
                      refine mv_callVi (pc := 202) (n := 1) (ci := 12) (C := R_Book) B (mK_ok sk sv) hNs rfl rfl (c_Book_look_y l hi _ _ len hA.2.1 hA.2.2.1 hA.2.2.2.2.2 (by rw [hA.2.2.2.1]; omega)) rfl (ma_goodc kc_Book_look) (B.2.2.2.1 _ k_2122) (B.2.2.2.1 _ k_2124) (B.2.2.2.1 _ ks_82) (B.2.2.2.1 _ k_13) ⟨by decide +kernel, by decide +kernel, by decide +kernel⟩ rfl d_Book_readNumber_202 rfl (Nat.le_of_ble_eq_true rfl) ⟨by decide, by decide⟩ ⟨by decide, by decide⟩ ⟨by decide, by decide⟩ (mv_noH hno _) (fun v202 σ202 h202 => ?_)
                      obtain ⟨e202, w202, z202⟩ := h202
                      have e202 := e202.symm
                      subst e202
                      refine mv_callSi (pc := 205) (n := 1) B (mK_ok sk sv) hNs (c_Book_letter l hi _ _) rfl (ma_goodc kc_Book_letter) (B.2.2.2.1 _ k_2126) (B.2.2.2.1 _ k_2127) (B.2.2.2.1 _ k_13) ⟨by decide +kernel, by decide +kernel, by decide +kernel⟩ rfl d_Book_readNumber_205 rfl (Nat.le_of_ble_eq_true rfl) ⟨by decide, by decide⟩ ⟨by decide, by decide⟩ ⟨by decide, by decide⟩ (mv_noH hno _) (fun v205 σ205 h205 => ?_)
                      obtain ⟨e205, w205, z205⟩ := h205
                      have e205 := e205.symm
                      subst e205
                      refine mv_if_eq (pc := 208) (tgt := 219) B d_Book_readNumber_208 rfl (fun h208 => ?_) (fun h208 => ?_)
                      · skip
                        exact mv_vret (pc := 219) B hr d_Book_readNumber_219 (Nat.le_refl _) (Nat.le_refl _) ⟨rfl, a9, by first | exact hA | exact hA.si ⟨by decide, by decide⟩, hk, hs, ha, by first | exact Or.inr ⟨hb, by have z : ¬ n9.toInt = 0 := fun z => h180 (Int32.toInt_inj.mp z); omega⟩ | exact Or.inl (by show 0 ≤ (mv_i τ 108 3).toInt; rw [hA.2.2.2.1]; omega)⟩
                      · skip
                        refine mv_aload_n (pc := 211) B d_Book_readNumber_211 rfl 2 rfl ?_
                        refine mv_aload_n (pc := 212) B d_Book_readNumber_212 rfl 2 rfl ?_
                        refine mv_getI (pc := 213) (ci := 12) (C := R_Book) (T := F_Book) (N := 65) B 3 rfl rfl (by decide) i_Book (B.2.2.2.1 _ k_1846) rfl d_Book_readNumber_213 ?_
                        refine mv_putI (pc := 216) (ci := 12) (C := R_Book) (T := F_Book) (N := 65) B 7 rfl rfl (by decide) i_Book t_Book_ok n_Book (B.2.2.2.1 _ k_1850) rfl rfl rfl rfl d_Book_readNumber_216 ?_
                        exact mv_vret (pc := 219) B hr d_Book_readNumber_219 (Nat.le_refl _) (Nat.le_refl _) ⟨rfl, a9, by first | exact hA | exact hA.si ⟨by decide, by decide⟩, hk, hs, ha, by first | exact Or.inr ⟨hb, by have z : ¬ n9.toInt = 0 := fun z => h180 (Int32.toInt_inj.mp z); omega⟩ | exact Or.inl (by show 0 ≤ (mv_i τ 108 3).toInt; rw [hA.2.2.2.1]; omega)⟩
      refine mv_aload_n (pc := 60) B d_Book_readNumber_60 rfl 0 rfl ?_
      refine mv_aload_n (pc := 61) B d_Book_readNumber_61 rfl 0 rfl ?_
      refine mv_getI (pc := 62) (ci := 12) (C := R_Book) (T := F_Book) (N := 65) B 3 rfl rfl (by decide) i_Book (B.2.2.2.1 _ k_1846) rfl d_Book_readNumber_62 ?_
      refine mv_callVi (pc := 65) (n := 1) (ci := 12) (C := R_Book) B (mK_ok sk sv) hNs rfl rfl (c_Book_look_y l hi _ _ len hA.2.1 hA.2.2.1 hA.2.2.2.2.2 (by rw [hA.2.2.2.1]; omega)) rfl (ma_goodc kc_Book_look) (B.2.2.2.1 _ k_2122) (B.2.2.2.1 _ k_2124) (B.2.2.2.1 _ ks_82) (B.2.2.2.1 _ k_13) ⟨by decide +kernel, by decide +kernel, by decide +kernel⟩ rfl d_Book_readNumber_65 rfl (Nat.le_of_ble_eq_true rfl) ⟨by decide, by decide⟩ ⟨by decide, by decide⟩ ⟨by decide, by decide⟩ (mv_noH hno _) (fun v65 σ65 h65 => ?_)
      obtain ⟨e65, w65, z65⟩ := h65
      have e65 := e65.symm
      subst e65
      refine mv_istore_n (pc := 68) B d_Book_readNumber_68 rfl (by decide) rfl ?_
      refine mv_iload_n (pc := 69) B d_Book_readNumber_69 rfl 2 rfl ?_
      refine mv_if_eq (pc := 70) (tgt := 80) B d_Book_readNumber_70 rfl (fun h70 => ?_) (fun h70 => ?_)
      · skip
        refine mv_iload_n (pc := 80) B d_Book_readNumber_80 rfl 0 rfl ?_
        refine mv_callSi (pc := 81) (n := 1) B (mK_ok sk sv) hNs (c_Book_digit l hi _ _) rfl (ma_goodc kc_Book_digit) (B.2.2.2.1 _ k_2129) (B.2.2.2.1 _ k_2130) (B.2.2.2.1 _ k_13) ⟨by decide +kernel, by decide +kernel, by decide +kernel⟩ rfl d_Book_readNumber_81 rfl (Nat.le_of_ble_eq_true rfl) ⟨by decide, by decide⟩ ⟨by decide, by decide⟩ ⟨by decide, by decide⟩ (mv_noH hno _) (fun v81 σ81 h81 => ?_)
        obtain ⟨e81, z81⟩ := h81
        have e81 := e81.symm
        subst e81
        refine mv_if_eq (pc := 84) (tgt := 94) B d_Book_readNumber_84 rfl (fun h84 => ?_) (fun h84 => ?_)
        · skip
          refine mv_iconst (pc := 94) (v := -1) B d_Book_readNumber_94 (by decide) ?_
          refine mv_istore (pc := 95) B d_Book_readNumber_95 (by decide) rfl ?_
          refine mv_lpick [0, 1, 2, 3, 4] rfl ?_
          refine j97 _ _ (fun hz => ?_)
          have za := hA.2.2.2.1
          have zv : v65 = -1 → v65.toInt = -1 := fun z => by rw [z]; decide
          first
            | exact absurd hz (by decide)
            | (rcases z74 with zz | zz
               · rw [zz] at hz; exact absurd hz (by decide)
               · rcases z65 with ⟨z, -⟩ | ⟨-, -, z⟩
                 · have := zv z; omega
                 · omega)
            | (have zz := (z81.resolve_left h84).2.1
               rcases z65 with ⟨z, -⟩ | ⟨-, -, z⟩
               · have := zv z; omega
               · omega)
        · skip
          refine mv_iload_n (pc := 87) B d_Book_readNumber_87 rfl 0 rfl ?_
          refine mv_bipush (pc := 88) (v := 48) B d_Book_readNumber_88 (by decide) ?_
          refine mv_isub (pc := 90) B d_Book_readNumber_90 ?_
          refine mv_goto (pc := 91) (tgt := 95) B d_Book_readNumber_91 rfl ?_
          refine mv_istore (pc := 95) B d_Book_readNumber_95 (by decide) rfl ?_
          refine mv_lpick [0, 1, 2, 3, 4] rfl ?_
          refine j97 _ _ (fun hz => ?_)
          have za := hA.2.2.2.1
          have zv : v65 = -1 → v65.toInt = -1 := fun z => by rw [z]; decide
          first
            | exact absurd hz (by decide)
            | (rcases z74 with zz | zz
               · rw [zz] at hz; exact absurd hz (by decide)
               · rcases z65 with ⟨z, -⟩ | ⟨-, -, z⟩
                 · have := zv z; omega
                 · omega)
            | (have zz := (z81.resolve_left h84).2.1
               rcases z65 with ⟨z, -⟩ | ⟨-, -, z⟩
               · have := zv z; omega
               · omega)
      · skip
        refine mv_iload_n (pc := 73) B d_Book_readNumber_73 rfl 0 rfl ?_
        refine mv_callSi (pc := 74) (n := 1) B (mK_ok sk sv) hNs (c_Book_hex l hi _ _) rfl (ma_goodc kc_Book_hex) (B.2.2.2.1 _ k_2136) (B.2.2.2.1 _ k_2137) (B.2.2.2.1 _ k_13) ⟨by decide +kernel, by decide +kernel, by decide +kernel⟩ rfl d_Book_readNumber_74 rfl (Nat.le_of_ble_eq_true rfl) ⟨by decide, by decide⟩ ⟨by decide, by decide⟩ ⟨by decide, by decide⟩ (mv_noH hno _) (fun v74 σ74 h74 => ?_)
        obtain ⟨e74, z74⟩ := h74
        have e74 := e74.symm
        subst e74
        refine mv_goto (pc := 77) (tgt := 95) B d_Book_readNumber_77 rfl ?_
        refine mv_istore (pc := 95) B d_Book_readNumber_95 (by decide) rfl ?_
        refine mv_lpick [0, 1, 2, 3, 4] rfl ?_
        refine j97 _ _ (fun hz => ?_)
        have za := hA.2.2.2.1
        have zv : v65 = -1 → v65.toInt = -1 := fun z => by rw [z]; decide
        first
          | exact absurd hz (by decide)
          | (rcases z74 with zz | zz
             · rw [zz] at hz; exact absurd hz (by decide)
             · rcases z65 with ⟨z, -⟩ | ⟨-, -, z⟩
               · have := zv z; omega
               · omega)
          | (have zz := (z81.resolve_left h84).2.1
             rcases z65 with ⟨z, -⟩ | ⟨-, -, z⟩
             · have := zv z; omega
             · omega)
  refine mv_aload_n (pc := 0) B d_Book_readNumber_0 rfl 0 rfl ?_
  refine mv_iconst (pc := 1) (v := 2) B d_Book_readNumber_1 (by decide) ?_
  refine mv_putI (pc := 2) (ci := 12) (C := R_Book) (T := F_Book) (N := 65) B 4 rfl rfl (by decide) i_Book t_Book_ok n_Book (B.2.2.2.1 _ k_1847) rfl rfl rfl rfl d_Book_readNumber_2 ?_
  refine mv_aload_n (pc := 5) B d_Book_readNumber_5 rfl 0 rfl ?_
  refine mv_lconst (pc := 6) (v := 0) B d_Book_readNumber_6 (by decide) ?_
  refine mv_putL (pc := 7) (ci := 12) (C := R_Book) (T := F_Book) (N := 65) B 9 rfl rfl (by decide) i_Book t_Book_ok n_Book (B.2.2.2.1 _ k_1852) rfl rfl d_Book_readNumber_7 ?_
  refine mv_gen (fun S10 eS10 => ?_)
  have hA : Ta 108 len σ S10 a0 := by rw [eS10]; exact (hA.si (k := 4) ⟨by decide, by decide⟩).sl
  have hk : mv_i S10 108 4 = 2 := by rw [eS10]; exact rfl
  have hs : mv_i S10 108 5 = mv_i σ 108 5 := by rw [eS10]; exact rfl
  have hb : mv_i S10 108 7 = mv_i σ 108 7 := by rw [eS10]; exact rfl
  clear eS10
  refine mv_aload_n (pc := 10) B d_Book_readNumber_10 rfl 0 rfl ?_
  refine mv_aload_n (pc := 11) B d_Book_readNumber_11 rfl 0 rfl ?_
  refine mv_getI (pc := 12) (ci := 12) (C := R_Book) (T := F_Book) (N := 65) B 3 rfl rfl (by decide) i_Book (B.2.2.2.1 _ k_1846) rfl d_Book_readNumber_12 ?_
  refine mv_callVi (pc := 15) (n := 1) (ci := 12) (C := R_Book) B (mK_ok sk sv) hNs rfl rfl (c_Book_look_y l hi _ _ len hA.2.1 hA.2.2.1 hA.2.2.2.2.2 (by rw [hA.2.2.2.1]; omega)) rfl (ma_goodc kc_Book_look) (B.2.2.2.1 _ k_2122) (B.2.2.2.1 _ k_2124) (B.2.2.2.1 _ ks_82) (B.2.2.2.1 _ k_13) ⟨by decide +kernel, by decide +kernel, by decide +kernel⟩ rfl d_Book_readNumber_15 rfl (Nat.le_of_ble_eq_true rfl) ⟨by decide, by decide⟩ ⟨by decide, by decide⟩ ⟨by decide, by decide⟩ (mv_noH hno _) (fun v15 σ15 h15 => ?_)
  obtain ⟨e15, w15, z15⟩ := h15
  have e15 := e15.symm
  subst e15
  refine mv_bipush (pc := 18) (v := 48) B d_Book_readNumber_18 (by decide) ?_
  refine mv_icmp_ne (pc := 20) (tgt := 42) B d_Book_readNumber_20 rfl (fun h20 => ?_) (fun h20 => ?_)
  · skip
    refine mv_iconst (pc := 42) (v := 0) B d_Book_readNumber_42 (by decide) ?_
    refine mv_istore_n (pc := 43) B d_Book_readNumber_43 rfl (by decide) rfl ?_
    refine mv_iconst (pc := 44) (v := 0) B d_Book_readNumber_44 (by decide) ?_
    refine mv_istore_n (pc := 45) B d_Book_readNumber_45 rfl (by decide) rfl ?_
    refine mv_iload_n (pc := 46) B d_Book_readNumber_46 rfl 1 rfl ?_
    refine mv_if_eq (pc := 47) (tgt := 60) B d_Book_readNumber_47 rfl (fun h47 => ?_) (fun h47 => ?_)
    · skip
      refine mv_lpick [2, 1, 0] rfl ?_
      exact lp _ _ a0 _ _ hA hk hs hb (by omega) (by decide) (by show (0 : Int) + a0 ≤ _; omega) (Nat.lt_succ_self _)
    · skip
      exact absurd rfl h47
  · skip
    refine mv_aload_n (pc := 23) B d_Book_readNumber_23 rfl 0 rfl ?_
    refine mv_aload_n (pc := 24) B d_Book_readNumber_24 rfl 0 rfl ?_
    refine mv_getI (pc := 25) (ci := 12) (C := R_Book) (T := F_Book) (N := 65) B 3 rfl rfl (by decide) i_Book (B.2.2.2.1 _ k_1846) rfl d_Book_readNumber_25 ?_
    refine mv_iconst (pc := 28) (v := 1) B d_Book_readNumber_28 (by decide) ?_
    refine mv_iadd (pc := 29) B d_Book_readNumber_29 ?_
    refine mv_callVi (pc := 30) (n := 1) (ci := 12) (C := R_Book) B (mK_ok sk sv) hNs rfl rfl (c_Book_look_y l hi _ _ len hA.2.1 hA.2.2.1 hA.2.2.2.2.2 (by rw [i32_p1 hA.2.2.2.1 (by have := hA.2.2.2.2; omega)]; omega)) rfl (ma_goodc kc_Book_look) (B.2.2.2.1 _ k_2122) (B.2.2.2.1 _ k_2124) (B.2.2.2.1 _ ks_82) (B.2.2.2.1 _ k_13) ⟨by decide +kernel, by decide +kernel, by decide +kernel⟩ rfl d_Book_readNumber_30 rfl (Nat.le_of_ble_eq_true rfl) ⟨by decide, by decide⟩ ⟨by decide, by decide⟩ ⟨by decide, by decide⟩ (mv_noH hno _) (fun v30 σ30 h30 => ?_)
    obtain ⟨e30, w30, z30⟩ := h30
    have e30 := e30.symm
    subst e30
    refine mv_bipush (pc := 33) (v := 120) B d_Book_readNumber_33 (by decide) ?_
    refine mv_icmp_ne (pc := 35) (tgt := 42) B d_Book_readNumber_35 rfl (fun h35 => ?_) (fun h35 => ?_)
    · skip
      refine mv_iconst (pc := 42) (v := 0) B d_Book_readNumber_42 (by decide) ?_
      refine mv_istore_n (pc := 43) B d_Book_readNumber_43 rfl (by decide) rfl ?_
      refine mv_iconst (pc := 44) (v := 0) B d_Book_readNumber_44 (by decide) ?_
      refine mv_istore_n (pc := 45) B d_Book_readNumber_45 rfl (by decide) rfl ?_
      refine mv_iload_n (pc := 46) B d_Book_readNumber_46 rfl 1 rfl ?_
      refine mv_if_eq (pc := 47) (tgt := 60) B d_Book_readNumber_47 rfl (fun h47 => ?_) (fun h47 => ?_)
      · skip
        refine mv_lpick [2, 1, 0] rfl ?_
        exact lp _ _ a0 _ _ hA hk hs hb (by omega) (by decide) (by show (0 : Int) + a0 ≤ _; omega) (Nat.lt_succ_self _)
      · skip
        exact absurd rfl h47
    · skip
      refine mv_iconst (pc := 38) (v := 1) B d_Book_readNumber_38 (by decide) ?_
      refine mv_goto (pc := 39) (tgt := 43) B d_Book_readNumber_39 rfl ?_
      refine mv_istore_n (pc := 43) B d_Book_readNumber_43 rfl (by decide) rfl ?_
      refine mv_iconst (pc := 44) (v := 0) B d_Book_readNumber_44 (by decide) ?_
      refine mv_istore_n (pc := 45) B d_Book_readNumber_45 rfl (by decide) rfl ?_
      refine mv_iload_n (pc := 46) B d_Book_readNumber_46 rfl 1 rfl ?_
      refine mv_if_eq (pc := 47) (tgt := 60) B d_Book_readNumber_47 rfl (fun h47 => ?_) (fun h47 => ?_)
      · skip
        exact absurd h47 (by decide)
      · skip
        refine mv_aload_n (pc := 50) B d_Book_readNumber_50 rfl 2 rfl ?_
        refine mv_dup (pc := 51) B d_Book_readNumber_51 rfl ?_
        refine mv_getI (pc := 52) (ci := 12) (C := R_Book) (T := F_Book) (N := 65) B 3 rfl rfl (by decide) i_Book (B.2.2.2.1 _ k_1846) rfl d_Book_readNumber_52 ?_
        refine mv_iconst (pc := 55) (v := 2) B d_Book_readNumber_55 (by decide) ?_
        refine mv_iadd (pc := 56) B d_Book_readNumber_56 ?_
        refine mv_putI (pc := 57) (ci := 12) (C := R_Book) (T := F_Book) (N := 65) B 3 rfl rfl (by decide) i_Book t_Book_ok n_Book (B.2.2.2.1 _ k_1846) rfl rfl rfl rfl d_Book_readNumber_57 ?_
        refine mv_lpick [2, 1, 0] rfl ?_
        refine mv_gen (fun S60 eS60 => ?_)
        have za := hA.2.2.2.1
        have zb := i32_p1 za (by have := hA.2.2.2.2; omega)
        have zv : v30.toInt = 120 := by rw [h35]; decide
        have hlt : a0 + 2 ≤ len := by
          rcases z30 with ⟨z, -⟩ | ⟨-, -, z⟩
          · rw [z] at zv; exact absurd zv (by decide)
          · omega
        have hA : Ta 108 len σ S60 (a0 + 2) := by rw [eS60]; exact hA.add (i32_p2 za (by have := hA.2.2.2.2; omega)) hlt
        have hk : mv_i S60 108 4 = 2 := by rw [eS60]; exact hk
        have hs : mv_i S60 108 5 = mv_i σ 108 5 := by rw [eS60]; exact hs
        have hb : mv_i S60 108 7 = mv_i σ 108 7 := by rw [eS60]; exact hb
        clear eS60
        exact lp _ _ (a0 + 2) _ _ hA hk hs hb (by omega) (by decide) (by show (0 : Int) + a0 ≤ _; omega) (Nat.lt_succ_self _)
def y_Book_readCode : MethodName := ⟨"MachineLoomModel$Book", "readCode", "()V"⟩
abbrev b_Book_readCode : ByteArray := prog_15_method_10_code
theorem kc_Book_readCode : Cond.code y_Book_readCode b_Book_readCode 2 (Option.none : Option Jvm.ClassFile.FieldType) ∈ ma := ma_of (tb_9 _ (List.mem_of_getElem? (i := 226) rfl)) rfl
theorem d_Book_readCode_0 : decode b_Book_readCode 0 = .ok (.aload_n 0, 1) := by decide +kernel
theorem d_Book_readCode_1 : decode b_Book_readCode 1 = .ok (.iconst 3, 1) := by decide +kernel
theorem d_Book_readCode_2 : decode b_Book_readCode 2 = .ok (.putfield 151, 3) := by decide +kernel
theorem d_Book_readCode_5 : decode b_Book_readCode 5 = .ok (.aload_n 0, 1) := by decide +kernel
theorem d_Book_readCode_6 : decode b_Book_readCode 6 = .ok (.dup, 1) := by decide +kernel
theorem d_Book_readCode_7 : decode b_Book_readCode 7 = .ok (.getfield 142, 3) := by decide +kernel
theorem d_Book_readCode_10 : decode b_Book_readCode 10 = .ok (.iconst 1, 1) := by decide +kernel
theorem d_Book_readCode_11 : decode b_Book_readCode 11 = .ok (.iadd, 1) := by decide +kernel
theorem d_Book_readCode_12 : decode b_Book_readCode 12 = .ok (.putfield 142, 3) := by decide +kernel
theorem d_Book_readCode_15 : decode b_Book_readCode 15 = .ok (.aload_n 0, 1) := by decide +kernel
theorem d_Book_readCode_16 : decode b_Book_readCode 16 = .ok (.getfield 142, 3) := by decide +kernel
theorem d_Book_readCode_19 : decode b_Book_readCode 19 = .ok (.aload_n 0, 1) := by decide +kernel
theorem d_Book_readCode_20 : decode b_Book_readCode 20 = .ok (.getfield 132, 3) := by decide +kernel
theorem d_Book_readCode_23 : decode b_Book_readCode 23 = .ok (.if_icmp .ge (78), 3) := by decide +kernel
theorem d_Book_readCode_26 : decode b_Book_readCode 26 = .ok (.aload_n 0, 1) := by decide +kernel
theorem d_Book_readCode_27 : decode b_Book_readCode 27 = .ok (.aload_n 0, 1) := by decide +kernel
theorem d_Book_readCode_28 : decode b_Book_readCode 28 = .ok (.getfield 142, 3) := by decide +kernel
theorem d_Book_readCode_31 : decode b_Book_readCode 31 = .ok (.invokevirtual 145, 3) := by decide +kernel
theorem d_Book_readCode_34 : decode b_Book_readCode 34 = .ok (.bipush 34, 2) := by decide +kernel
theorem d_Book_readCode_36 : decode b_Book_readCode 36 = .ok (.if_icmp .eq (65), 3) := by decide +kernel
theorem d_Book_readCode_39 : decode b_Book_readCode 39 = .ok (.aload_n 0, 1) := by decide +kernel
theorem d_Book_readCode_40 : decode b_Book_readCode 40 = .ok (.aload_n 0, 1) := by decide +kernel
theorem d_Book_readCode_41 : decode b_Book_readCode 41 = .ok (.getfield 142, 3) := by decide +kernel
theorem d_Book_readCode_44 : decode b_Book_readCode 44 = .ok (.invokevirtual 145, 3) := by decide +kernel
theorem d_Book_readCode_47 : decode b_Book_readCode 47 = .ok (.istore_n 1, 1) := by decide +kernel
theorem d_Book_readCode_48 : decode b_Book_readCode 48 = .ok (.iload_n 1, 1) := by decide +kernel
theorem d_Book_readCode_49 : decode b_Book_readCode 49 = .ok (.bipush 48, 2) := by decide +kernel
theorem d_Book_readCode_51 : decode b_Book_readCode 51 = .ok (.if_icmp .eq (37), 3) := by decide +kernel
theorem d_Book_readCode_54 : decode b_Book_readCode 54 = .ok (.iload_n 1, 1) := by decide +kernel
theorem d_Book_readCode_55 : decode b_Book_readCode 55 = .ok (.bipush 49, 2) := by decide +kernel
theorem d_Book_readCode_57 : decode b_Book_readCode 57 = .ok (.if_icmp .eq (31), 3) := by decide +kernel
theorem d_Book_readCode_60 : decode b_Book_readCode 60 = .ok (.iload_n 1, 1) := by decide +kernel
theorem d_Book_readCode_61 : decode b_Book_readCode 61 = .ok (.bipush 46, 2) := by decide +kernel
theorem d_Book_readCode_63 : decode b_Book_readCode 63 = .ok (.if_icmp .eq (25), 3) := by decide +kernel
theorem d_Book_readCode_66 : decode b_Book_readCode 66 = .ok (.iload_n 1, 1) := by decide +kernel
theorem d_Book_readCode_67 : decode b_Book_readCode 67 = .ok (.invokestatic 165, 3) := by decide +kernel
theorem d_Book_readCode_70 : decode b_Book_readCode 70 = .ok (.ifCond .eq (9), 3) := by decide +kernel
theorem d_Book_readCode_73 : decode b_Book_readCode 73 = .ok (.iload_n 1, 1) := by decide +kernel
theorem d_Book_readCode_74 : decode b_Book_readCode 74 = .ok (.bipush 95, 2) := by decide +kernel
theorem d_Book_readCode_76 : decode b_Book_readCode 76 = .ok (.if_icmp .ne (12), 3) := by decide +kernel
theorem d_Book_readCode_79 : decode b_Book_readCode 79 = .ok (.aload_n 0, 1) := by decide +kernel
theorem d_Book_readCode_80 : decode b_Book_readCode 80 = .ok (.aload_n 0, 1) := by decide +kernel
theorem d_Book_readCode_81 : decode b_Book_readCode 81 = .ok (.getfield 142, 3) := by decide +kernel
theorem d_Book_readCode_84 : decode b_Book_readCode 84 = .ok (.putfield 168, 3) := by decide +kernel
theorem d_Book_readCode_87 : decode b_Book_readCode 87 = .ok (.return_, 1) := by decide +kernel
theorem d_Book_readCode_88 : decode b_Book_readCode 88 = .ok (.aload_n 0, 1) := by decide +kernel
theorem d_Book_readCode_89 : decode b_Book_readCode 89 = .ok (.dup, 1) := by decide +kernel
theorem d_Book_readCode_90 : decode b_Book_readCode 90 = .ok (.getfield 142, 3) := by decide +kernel
theorem d_Book_readCode_93 : decode b_Book_readCode 93 = .ok (.iconst 1, 1) := by decide +kernel
theorem d_Book_readCode_94 : decode b_Book_readCode 94 = .ok (.iadd, 1) := by decide +kernel
theorem d_Book_readCode_95 : decode b_Book_readCode 95 = .ok (.putfield 142, 3) := by decide +kernel
theorem d_Book_readCode_98 : decode b_Book_readCode 98 = .ok (.goto (-83), 3) := by decide +kernel
theorem d_Book_readCode_101 : decode b_Book_readCode 101 = .ok (.aload_n 0, 1) := by decide +kernel
theorem d_Book_readCode_102 : decode b_Book_readCode 102 = .ok (.getfield 142, 3) := by decide +kernel
theorem d_Book_readCode_105 : decode b_Book_readCode 105 = .ok (.aload_n 0, 1) := by decide +kernel
theorem d_Book_readCode_106 : decode b_Book_readCode 106 = .ok (.getfield 132, 3) := by decide +kernel
theorem d_Book_readCode_109 : decode b_Book_readCode 109 = .ok (.if_icmp .ne (14), 3) := by decide +kernel
theorem d_Book_readCode_112 : decode b_Book_readCode 112 = .ok (.aload_n 0, 1) := by decide +kernel
theorem d_Book_readCode_113 : decode b_Book_readCode 113 = .ok (.aload_n 0, 1) := by decide +kernel
theorem d_Book_readCode_114 : decode b_Book_readCode 114 = .ok (.getfield 132, 3) := by decide +kernel
theorem d_Book_readCode_117 : decode b_Book_readCode 117 = .ok (.putfield 168, 3) := by decide +kernel
theorem d_Book_readCode_120 : decode b_Book_readCode 120 = .ok (.goto (13), 3) := by decide +kernel
theorem d_Book_readCode_123 : decode b_Book_readCode 123 = .ok (.aload_n 0, 1) := by decide +kernel
theorem d_Book_readCode_124 : decode b_Book_readCode 124 = .ok (.dup, 1) := by decide +kernel
theorem d_Book_readCode_125 : decode b_Book_readCode 125 = .ok (.getfield 142, 3) := by decide +kernel
theorem d_Book_readCode_128 : decode b_Book_readCode 128 = .ok (.iconst 1, 1) := by decide +kernel
theorem d_Book_readCode_129 : decode b_Book_readCode 129 = .ok (.iadd, 1) := by decide +kernel
theorem d_Book_readCode_130 : decode b_Book_readCode 130 = .ok (.putfield 142, 3) := by decide +kernel
theorem d_Book_readCode_133 : decode b_Book_readCode 133 = .ok (.return_, 1) := by decide +kernel
set_option maxHeartbeats 4000000 in
set_option maxRecDepth 100000 in
theorem c_Book_readCode_x (l : Launch) {dA : FieldType → ClassId} {D : va_G} {al : Nat → Nat} {ext : mv_Sh} {sk sv : Nat → Nat} (hi : mv_inj (mg dA D al ext)) (σ : mv_H) (len a0 : Nat) (hA : Ta 74 len σ σ a0) (hlt : a0 < len) : mv_C l y_Book_readCode (Cond.code y_Book_readCode b_Book_readCode 2 (Option.none : Option Jvm.ClassFile.FieldType) :: ma) ({ frames := 1, cells := 0, slots := 0, locals := 21 }) (mg dA D al ext) (mK sk sv) [.ref (al 74)] σ (mv_Rv (fun σ1 => ∃ a1, Ta 74 len σ σ1 a1 ∧ mv_i σ1 74 4 = 3 ∧ mv_i σ1 74 5 = mv_i σ 74 5 ∧ a0 ≤ a1 ∧ (0 ≤ (mv_i σ1 74 7).toInt ∨ (mv_i σ1 74 7 = mv_i σ 74 7 ∧ a0 + 2 ≤ a1)))) := by
  refine mv_C.ofV (cc := b_Book_readCode) (nL := 2) (ret := (Option.none : Option Jvm.ClassFile.FieldType)) (by decide +kernel) rfl hi (Nat.le_of_ble_eq_true rfl) ?_
  intro p e s m below meth c B hNs hr hnm hno
  have hR := hA.2.1
  have lp : ∀ (nn : Nat) (τ : mv_H) (a9 : Nat) (hA : Ta 74 len σ τ a9) (hk : mv_i τ 74 4 = 3) (hs : mv_i τ 74 5 = mv_i σ 74 5) (hb : mv_i τ 74 7 = mv_i σ 74 7) (ha : a0 + 1 ≤ a9), len - a9 < nn → mv_V p l e ({ frames := 1, cells := 0, slots := 0, locals := 21 }) s m ([.ref (al 74)] : List Value).toArray below meth c (mg dA D al ext) 2 0 0 (mv_Q (mg dA D al ext) below s 0 0 (mv_Rv (fun σ1 => ∃ a1, Ta 74 len σ σ1 a1 ∧ mv_i σ1 74 4 = 3 ∧ mv_i σ1 74 5 = mv_i σ 74 5 ∧ a0 ≤ a1 ∧ (0 ≤ (mv_i σ1 74 7).toInt ∨ (mv_i σ1 74 7 = mv_i σ 74 7 ∧ a0 + 2 ≤ a1))))) τ 15 [(0, .ref (al 74))] [] := by
    intro nn
    induction nn with
    | zero => intro τ a9 hA hk hs hb ha hm; exact absurd hm (Nat.not_lt_zero _)
    | succ nn ih =>
      intro τ a9 hA hk hs hb ha hm
      refine mv_aload_n (pc := 15) B d_Book_readCode_15 rfl 0 rfl ?_
      refine mv_getI (pc := 16) (ci := 12) (C := R_Book) (T := F_Book) (N := 65) B 3 rfl rfl (by decide) i_Book (B.2.2.2.1 _ k_1846) rfl d_Book_readCode_16 ?_
      refine mv_aload_n (pc := 19) B d_Book_readCode_19 rfl 0 rfl ?_
      refine mv_getI (pc := 20) (ci := 12) (C := R_Book) (T := F_Book) (N := 65) B 2 rfl rfl (by decide) i_Book (B.2.2.2.1 _ k_1845) rfl d_Book_readCode_20 ?_
      refine mv_icmp_ge (pc := 23) (tgt := 101) B d_Book_readCode_23 rfl (fun h23 => ?_) (fun h23 => ?_)
      · skip
        refine mv_aload_n (pc := 101) B d_Book_readCode_101 rfl 0 rfl ?_
        refine mv_getI (pc := 102) (ci := 12) (C := R_Book) (T := F_Book) (N := 65) B 3 rfl rfl (by decide) i_Book (B.2.2.2.1 _ k_1846) rfl d_Book_readCode_102 ?_
        refine mv_aload_n (pc := 105) B d_Book_readCode_105 rfl 0 rfl ?_
        refine mv_getI (pc := 106) (ci := 12) (C := R_Book) (T := F_Book) (N := 65) B 2 rfl rfl (by decide) i_Book (B.2.2.2.1 _ k_1845) rfl d_Book_readCode_106 ?_
        refine mv_icmp_ne (pc := 109) (tgt := 123) B d_Book_readCode_109 rfl (fun h109 => ?_) (fun h109 => ?_)
        · skip
          have hlt : a9 < len := by have z : ¬ (mv_i τ 74 3).toInt = (mv_i τ 74 2).toInt := fun z => h109 (Int32.toInt_inj.mp z); have := hA.2.2.2; have := hA.2.2.1; omega
          refine mv_aload_n (pc := 123) B d_Book_readCode_123 rfl 0 rfl ?_
          refine mv_dup (pc := 124) B d_Book_readCode_124 rfl ?_
          refine mv_getI (pc := 125) (ci := 12) (C := R_Book) (T := F_Book) (N := 65) B 3 rfl rfl (by decide) i_Book (B.2.2.2.1 _ k_1846) rfl d_Book_readCode_125 ?_
          refine mv_iconst (pc := 128) (v := 1) B d_Book_readCode_128 (by decide) ?_
          refine mv_iadd (pc := 129) B d_Book_readCode_129 ?_
          refine mv_putI (pc := 130) (ci := 12) (C := R_Book) (T := F_Book) (N := 65) B 3 rfl rfl (by decide) i_Book t_Book_ok n_Book (B.2.2.2.1 _ k_1846) rfl rfl rfl rfl d_Book_readCode_130 ?_
          exact mv_vret (pc := 133) B hr d_Book_readCode_133 (Nat.le_refl _) (Nat.le_refl _) (by first | exact ⟨rfl, a9 + 1, hA.inc hlt, hk, hs, by omega, Or.inr ⟨hb, by omega⟩⟩ | exact ⟨rfl, a9, hA.si ⟨by decide, by decide⟩, hk, hs, by omega, Or.inl (by show 0 ≤ (mv_i τ 74 2).toInt; rw [hA.2.2.1]; omega)⟩)
        · skip
          refine mv_aload_n (pc := 112) B d_Book_readCode_112 rfl 0 rfl ?_
          refine mv_aload_n (pc := 113) B d_Book_readCode_113 rfl 0 rfl ?_
          refine mv_getI (pc := 114) (ci := 12) (C := R_Book) (T := F_Book) (N := 65) B 2 rfl rfl (by decide) i_Book (B.2.2.2.1 _ k_1845) rfl d_Book_readCode_114 ?_
          refine mv_putI (pc := 117) (ci := 12) (C := R_Book) (T := F_Book) (N := 65) B 7 rfl rfl (by decide) i_Book t_Book_ok n_Book (B.2.2.2.1 _ k_1850) rfl rfl rfl rfl d_Book_readCode_117 ?_
          refine mv_goto (pc := 120) (tgt := 133) B d_Book_readCode_120 rfl ?_
          exact mv_vret (pc := 133) B hr d_Book_readCode_133 (Nat.le_refl _) (Nat.le_refl _) (by first | exact ⟨rfl, a9 + 1, hA.inc hlt, hk, hs, by omega, Or.inr ⟨hb, by omega⟩⟩ | exact ⟨rfl, a9, hA.si ⟨by decide, by decide⟩, hk, hs, by omega, Or.inl (by show 0 ≤ (mv_i τ 74 2).toInt; rw [hA.2.2.1]; omega)⟩)
      · skip
        have hlt : a9 < len := by have z : ¬ (mv_i τ 74 2).toInt ≤ (mv_i τ 74 3).toInt := fun z => h23 (Int32.le_iff_toInt_le.mpr z); have := hA.2.2.2.1; have := hA.2.2.1; omega
        refine mv_aload_n (pc := 26) B d_Book_readCode_26 rfl 0 rfl ?_
        refine mv_aload_n (pc := 27) B d_Book_readCode_27 rfl 0 rfl ?_
        refine mv_getI (pc := 28) (ci := 12) (C := R_Book) (T := F_Book) (N := 65) B 3 rfl rfl (by decide) i_Book (B.2.2.2.1 _ k_1846) rfl d_Book_readCode_28 ?_
        refine mv_callVi (pc := 31) (n := 1) (ci := 12) (C := R_Book) B (mK_ok sk sv) hNs rfl rfl (c_Book_look_x l hi _ _ len hA.2.1 hA.2.2.1 hA.2.2.2.2.2 (by rw [hA.2.2.2.1]; omega)) rfl (ma_goodc kc_Book_look) (B.2.2.2.1 _ k_2122) (B.2.2.2.1 _ k_2124) (B.2.2.2.1 _ ks_82) (B.2.2.2.1 _ k_13) ⟨by decide +kernel, by decide +kernel, by decide +kernel⟩ rfl d_Book_readCode_31 rfl (Nat.le_of_ble_eq_true rfl) ⟨by decide, by decide⟩ ⟨by decide, by decide⟩ ⟨by decide, by decide⟩ (mv_noH hno _) (fun v31 σ31 h31 => ?_)
        obtain ⟨e31, w31, z31⟩ := h31
        have e31 := e31.symm
        subst e31
        refine mv_bipush (pc := 34) (v := 34) B d_Book_readCode_34 (by decide) ?_
        refine mv_icmp_eq (pc := 36) (tgt := 101) B d_Book_readCode_36 rfl (fun h36 => ?_) (fun h36 => ?_)
        · skip
          refine mv_aload_n (pc := 101) B d_Book_readCode_101 rfl 0 rfl ?_
          refine mv_getI (pc := 102) (ci := 12) (C := R_Book) (T := F_Book) (N := 65) B 3 rfl rfl (by decide) i_Book (B.2.2.2.1 _ k_1846) rfl d_Book_readCode_102 ?_
          refine mv_aload_n (pc := 105) B d_Book_readCode_105 rfl 0 rfl ?_
          refine mv_getI (pc := 106) (ci := 12) (C := R_Book) (T := F_Book) (N := 65) B 2 rfl rfl (by decide) i_Book (B.2.2.2.1 _ k_1845) rfl d_Book_readCode_106 ?_
          refine mv_icmp_ne (pc := 109) (tgt := 123) B d_Book_readCode_109 rfl (fun h109 => ?_) (fun h109 => ?_)
          · skip
            have hlt : a9 < len := by have z : ¬ (mv_i τ 74 3).toInt = (mv_i τ 74 2).toInt := fun z => h109 (Int32.toInt_inj.mp z); have := hA.2.2.2; have := hA.2.2.1; omega
            refine mv_aload_n (pc := 123) B d_Book_readCode_123 rfl 0 rfl ?_
            refine mv_dup (pc := 124) B d_Book_readCode_124 rfl ?_
            refine mv_getI (pc := 125) (ci := 12) (C := R_Book) (T := F_Book) (N := 65) B 3 rfl rfl (by decide) i_Book (B.2.2.2.1 _ k_1846) rfl d_Book_readCode_125 ?_
            refine mv_iconst (pc := 128) (v := 1) B d_Book_readCode_128 (by decide) ?_
            refine mv_iadd (pc := 129) B d_Book_readCode_129 ?_
            refine mv_putI (pc := 130) (ci := 12) (C := R_Book) (T := F_Book) (N := 65) B 3 rfl rfl (by decide) i_Book t_Book_ok n_Book (B.2.2.2.1 _ k_1846) rfl rfl rfl rfl d_Book_readCode_130 ?_
            exact mv_vret (pc := 133) B hr d_Book_readCode_133 (Nat.le_refl _) (Nat.le_refl _) (by first | exact ⟨rfl, a9 + 1, hA.inc hlt, hk, hs, by omega, Or.inr ⟨hb, by omega⟩⟩ | exact ⟨rfl, a9, hA.si ⟨by decide, by decide⟩, hk, hs, by omega, Or.inl (by show 0 ≤ (mv_i τ 74 2).toInt; rw [hA.2.2.1]; omega)⟩)
          · skip
            refine mv_aload_n (pc := 112) B d_Book_readCode_112 rfl 0 rfl ?_
            refine mv_aload_n (pc := 113) B d_Book_readCode_113 rfl 0 rfl ?_
            refine mv_getI (pc := 114) (ci := 12) (C := R_Book) (T := F_Book) (N := 65) B 2 rfl rfl (by decide) i_Book (B.2.2.2.1 _ k_1845) rfl d_Book_readCode_114 ?_
            refine mv_putI (pc := 117) (ci := 12) (C := R_Book) (T := F_Book) (N := 65) B 7 rfl rfl (by decide) i_Book t_Book_ok n_Book (B.2.2.2.1 _ k_1850) rfl rfl rfl rfl d_Book_readCode_117 ?_
            refine mv_goto (pc := 120) (tgt := 133) B d_Book_readCode_120 rfl ?_
            exact mv_vret (pc := 133) B hr d_Book_readCode_133 (Nat.le_refl _) (Nat.le_refl _) (by first | exact ⟨rfl, a9 + 1, hA.inc hlt, hk, hs, by omega, Or.inr ⟨hb, by omega⟩⟩ | exact ⟨rfl, a9, hA.si ⟨by decide, by decide⟩, hk, hs, by omega, Or.inl (by show 0 ≤ (mv_i τ 74 2).toInt; rw [hA.2.2.1]; omega)⟩)
        · skip
          refine mv_aload_n (pc := 39) B d_Book_readCode_39 rfl 0 rfl ?_
          refine mv_aload_n (pc := 40) B d_Book_readCode_40 rfl 0 rfl ?_
          refine mv_getI (pc := 41) (ci := 12) (C := R_Book) (T := F_Book) (N := 65) B 3 rfl rfl (by decide) i_Book (B.2.2.2.1 _ k_1846) rfl d_Book_readCode_41 ?_
          refine mv_callVi (pc := 44) (n := 1) (ci := 12) (C := R_Book) B (mK_ok sk sv) hNs rfl rfl (c_Book_look_x l hi _ _ len hA.2.1 hA.2.2.1 hA.2.2.2.2.2 (by rw [hA.2.2.2.1]; omega)) rfl (ma_goodc kc_Book_look) (B.2.2.2.1 _ k_2122) (B.2.2.2.1 _ k_2124) (B.2.2.2.1 _ ks_82) (B.2.2.2.1 _ k_13) ⟨by decide +kernel, by decide +kernel, by decide +kernel⟩ rfl d_Book_readCode_44 rfl (Nat.le_of_ble_eq_true rfl) ⟨by decide, by decide⟩ ⟨by decide, by decide⟩ ⟨by decide, by decide⟩ (mv_noH hno _) (fun v44 σ44 h44 => ?_)
          obtain ⟨e44, w44, z44⟩ := h44
          have e44 := e44.symm
          subst e44
          refine mv_istore_n (pc := 47) B d_Book_readCode_47 rfl (by decide) rfl ?_
          refine mv_iload_n (pc := 48) B d_Book_readCode_48 rfl 0 rfl ?_
          refine mv_bipush (pc := 49) (v := 48) B d_Book_readCode_49 (by decide) ?_
          refine mv_icmp_eq (pc := 51) (tgt := 88) B d_Book_readCode_51 rfl (fun h51 => ?_) (fun h51 => ?_)
          · skip
            refine mv_aload_n (pc := 88) B d_Book_readCode_88 rfl 1 rfl ?_
            refine mv_dup (pc := 89) B d_Book_readCode_89 rfl ?_
            refine mv_getI (pc := 90) (ci := 12) (C := R_Book) (T := F_Book) (N := 65) B 3 rfl rfl (by decide) i_Book (B.2.2.2.1 _ k_1846) rfl d_Book_readCode_90 ?_
            refine mv_iconst (pc := 93) (v := 1) B d_Book_readCode_93 (by decide) ?_
            refine mv_iadd (pc := 94) B d_Book_readCode_94 ?_
            refine mv_putI (pc := 95) (ci := 12) (C := R_Book) (T := F_Book) (N := 65) B 3 rfl rfl (by decide) i_Book t_Book_ok n_Book (B.2.2.2.1 _ k_1846) rfl rfl rfl rfl d_Book_readCode_95 ?_
            refine mv_gen (fun S98 eS98 => ?_)
            have hA : Ta 74 len σ S98 (a9 + 1) := by rw [eS98]; exact hA.inc hlt
            have hk : mv_i S98 74 4 = 3 := by rw [eS98]; first | exact hk | rfl
            have hs : mv_i S98 74 5 = mv_i σ 74 5 := by rw [eS98]; first | exact hs | rfl
            have hb : mv_i S98 74 7 = mv_i σ 74 7 := by rw [eS98]; first | exact hb | rfl
            clear eS98
            refine mv_goto (pc := 98) (tgt := 15) B d_Book_readCode_98 rfl ?_
            refine mv_lpick [1] rfl ?_
            exact ih _ _ hA hk hs hb (by omega) (by omega)
          · skip
            refine mv_iload_n (pc := 54) B d_Book_readCode_54 rfl 0 rfl ?_
            refine mv_bipush (pc := 55) (v := 49) B d_Book_readCode_55 (by decide) ?_
            refine mv_icmp_eq (pc := 57) (tgt := 88) B d_Book_readCode_57 rfl (fun h57 => ?_) (fun h57 => ?_)
            · skip
              refine mv_aload_n (pc := 88) B d_Book_readCode_88 rfl 1 rfl ?_
              refine mv_dup (pc := 89) B d_Book_readCode_89 rfl ?_
              refine mv_getI (pc := 90) (ci := 12) (C := R_Book) (T := F_Book) (N := 65) B 3 rfl rfl (by decide) i_Book (B.2.2.2.1 _ k_1846) rfl d_Book_readCode_90 ?_
              refine mv_iconst (pc := 93) (v := 1) B d_Book_readCode_93 (by decide) ?_
              refine mv_iadd (pc := 94) B d_Book_readCode_94 ?_
              refine mv_putI (pc := 95) (ci := 12) (C := R_Book) (T := F_Book) (N := 65) B 3 rfl rfl (by decide) i_Book t_Book_ok n_Book (B.2.2.2.1 _ k_1846) rfl rfl rfl rfl d_Book_readCode_95 ?_
              refine mv_gen (fun S98 eS98 => ?_)
              have hA : Ta 74 len σ S98 (a9 + 1) := by rw [eS98]; exact hA.inc hlt
              have hk : mv_i S98 74 4 = 3 := by rw [eS98]; first | exact hk | rfl
              have hs : mv_i S98 74 5 = mv_i σ 74 5 := by rw [eS98]; first | exact hs | rfl
              have hb : mv_i S98 74 7 = mv_i σ 74 7 := by rw [eS98]; first | exact hb | rfl
              clear eS98
              refine mv_goto (pc := 98) (tgt := 15) B d_Book_readCode_98 rfl ?_
              refine mv_lpick [1] rfl ?_
              exact ih _ _ hA hk hs hb (by omega) (by omega)
            · skip
              refine mv_iload_n (pc := 60) B d_Book_readCode_60 rfl 0 rfl ?_
              refine mv_bipush (pc := 61) (v := 46) B d_Book_readCode_61 (by decide) ?_
              refine mv_icmp_eq (pc := 63) (tgt := 88) B d_Book_readCode_63 rfl (fun h63 => ?_) (fun h63 => ?_)
              · skip
                refine mv_aload_n (pc := 88) B d_Book_readCode_88 rfl 1 rfl ?_
                refine mv_dup (pc := 89) B d_Book_readCode_89 rfl ?_
                refine mv_getI (pc := 90) (ci := 12) (C := R_Book) (T := F_Book) (N := 65) B 3 rfl rfl (by decide) i_Book (B.2.2.2.1 _ k_1846) rfl d_Book_readCode_90 ?_
                refine mv_iconst (pc := 93) (v := 1) B d_Book_readCode_93 (by decide) ?_
                refine mv_iadd (pc := 94) B d_Book_readCode_94 ?_
                refine mv_putI (pc := 95) (ci := 12) (C := R_Book) (T := F_Book) (N := 65) B 3 rfl rfl (by decide) i_Book t_Book_ok n_Book (B.2.2.2.1 _ k_1846) rfl rfl rfl rfl d_Book_readCode_95 ?_
                refine mv_gen (fun S98 eS98 => ?_)
                have hA : Ta 74 len σ S98 (a9 + 1) := by rw [eS98]; exact hA.inc hlt
                have hk : mv_i S98 74 4 = 3 := by rw [eS98]; first | exact hk | rfl
                have hs : mv_i S98 74 5 = mv_i σ 74 5 := by rw [eS98]; first | exact hs | rfl
                have hb : mv_i S98 74 7 = mv_i σ 74 7 := by rw [eS98]; first | exact hb | rfl
                clear eS98
                refine mv_goto (pc := 98) (tgt := 15) B d_Book_readCode_98 rfl ?_
                refine mv_lpick [1] rfl ?_
                exact ih _ _ hA hk hs hb (by omega) (by omega)
              · skip
                refine mv_iload_n (pc := 66) B d_Book_readCode_66 rfl 0 rfl ?_
                refine mv_callSi (pc := 67) (n := 1) B (mK_ok sk sv) hNs (c_Book_letter l hi _ _) rfl (ma_goodc kc_Book_letter) (B.2.2.2.1 _ k_2126) (B.2.2.2.1 _ k_2127) (B.2.2.2.1 _ k_13) ⟨by decide +kernel, by decide +kernel, by decide +kernel⟩ rfl d_Book_readCode_67 rfl (Nat.le_of_ble_eq_true rfl) ⟨by decide, by decide⟩ ⟨by decide, by decide⟩ ⟨by decide, by decide⟩ (mv_noH hno _) (fun v67 σ67 h67 => ?_)
                obtain ⟨e67, w67, z67⟩ := h67
                have e67 := e67.symm
                subst e67
                refine mv_if_eq (pc := 70) (tgt := 79) B d_Book_readCode_70 rfl (fun h70 => ?_) (fun h70 => ?_)
                · skip
                  refine mv_aload_n (pc := 79) B d_Book_readCode_79 rfl 1 rfl ?_
                  refine mv_aload_n (pc := 80) B d_Book_readCode_80 rfl 1 rfl ?_
                  refine mv_getI (pc := 81) (ci := 12) (C := R_Book) (T := F_Book) (N := 65) B 3 rfl rfl (by decide) i_Book (B.2.2.2.1 _ k_1846) rfl d_Book_readCode_81 ?_
                  refine mv_putI (pc := 84) (ci := 12) (C := R_Book) (T := F_Book) (N := 65) B 7 rfl rfl (by decide) i_Book t_Book_ok n_Book (B.2.2.2.1 _ k_1850) rfl rfl rfl rfl d_Book_readCode_84 ?_
                  exact mv_vret (pc := 87) B hr d_Book_readCode_87 (Nat.le_refl _) (Nat.le_refl _) ⟨rfl, a9, hA.si ⟨by decide, by decide⟩, hk, hs, by omega, Or.inl (by show 0 ≤ (mv_i τ 74 3).toInt; rw [hA.2.2.2.1]; omega)⟩
                · skip
                  refine mv_iload_n (pc := 73) B d_Book_readCode_73 rfl 0 rfl ?_
                  refine mv_bipush (pc := 74) (v := 95) B d_Book_readCode_74 (by decide) ?_
                  refine mv_icmp_ne (pc := 76) (tgt := 88) B d_Book_readCode_76 rfl (fun h76 => ?_) (fun h76 => ?_)
                  · skip
                    refine mv_aload_n (pc := 88) B d_Book_readCode_88 rfl 1 rfl ?_
                    refine mv_dup (pc := 89) B d_Book_readCode_89 rfl ?_
                    refine mv_getI (pc := 90) (ci := 12) (C := R_Book) (T := F_Book) (N := 65) B 3 rfl rfl (by decide) i_Book (B.2.2.2.1 _ k_1846) rfl d_Book_readCode_90 ?_
                    refine mv_iconst (pc := 93) (v := 1) B d_Book_readCode_93 (by decide) ?_
                    refine mv_iadd (pc := 94) B d_Book_readCode_94 ?_
                    refine mv_putI (pc := 95) (ci := 12) (C := R_Book) (T := F_Book) (N := 65) B 3 rfl rfl (by decide) i_Book t_Book_ok n_Book (B.2.2.2.1 _ k_1846) rfl rfl rfl rfl d_Book_readCode_95 ?_
                    refine mv_gen (fun S98 eS98 => ?_)
                    have hA : Ta 74 len σ S98 (a9 + 1) := by rw [eS98]; exact hA.inc hlt
                    have hk : mv_i S98 74 4 = 3 := by rw [eS98]; first | exact hk | rfl
                    have hs : mv_i S98 74 5 = mv_i σ 74 5 := by rw [eS98]; first | exact hs | rfl
                    have hb : mv_i S98 74 7 = mv_i σ 74 7 := by rw [eS98]; first | exact hb | rfl
                    clear eS98
                    refine mv_goto (pc := 98) (tgt := 15) B d_Book_readCode_98 rfl ?_
                    refine mv_lpick [1] rfl ?_
                    exact ih _ _ hA hk hs hb (by omega) (by omega)
                  · skip
                    refine mv_aload_n (pc := 79) B d_Book_readCode_79 rfl 1 rfl ?_
                    refine mv_aload_n (pc := 80) B d_Book_readCode_80 rfl 1 rfl ?_
                    refine mv_getI (pc := 81) (ci := 12) (C := R_Book) (T := F_Book) (N := 65) B 3 rfl rfl (by decide) i_Book (B.2.2.2.1 _ k_1846) rfl d_Book_readCode_81 ?_
                    refine mv_putI (pc := 84) (ci := 12) (C := R_Book) (T := F_Book) (N := 65) B 7 rfl rfl (by decide) i_Book t_Book_ok n_Book (B.2.2.2.1 _ k_1850) rfl rfl rfl rfl d_Book_readCode_84 ?_
                    exact mv_vret (pc := 87) B hr d_Book_readCode_87 (Nat.le_refl _) (Nat.le_refl _) ⟨rfl, a9, hA.si ⟨by decide, by decide⟩, hk, hs, by omega, Or.inl (by show 0 ≤ (mv_i τ 74 3).toInt; rw [hA.2.2.2.1]; omega)⟩
  refine mv_aload_n (pc := 0) B d_Book_readCode_0 rfl 0 rfl ?_
  refine mv_iconst (pc := 1) (v := 3) B d_Book_readCode_1 (by decide) ?_
  refine mv_putI (pc := 2) (ci := 12) (C := R_Book) (T := F_Book) (N := 65) B 4 rfl rfl (by decide) i_Book t_Book_ok n_Book (B.2.2.2.1 _ k_1847) rfl rfl rfl rfl d_Book_readCode_2 ?_
  refine mv_aload_n (pc := 5) B d_Book_readCode_5 rfl 0 rfl ?_
  refine mv_dup (pc := 6) B d_Book_readCode_6 rfl ?_
  refine mv_getI (pc := 7) (ci := 12) (C := R_Book) (T := F_Book) (N := 65) B 3 rfl rfl (by decide) i_Book (B.2.2.2.1 _ k_1846) rfl d_Book_readCode_7 ?_
  refine mv_iconst (pc := 10) (v := 1) B d_Book_readCode_10 (by decide) ?_
  refine mv_iadd (pc := 11) B d_Book_readCode_11 ?_
  refine mv_putI (pc := 12) (ci := 12) (C := R_Book) (T := F_Book) (N := 65) B 3 rfl rfl (by decide) i_Book t_Book_ok n_Book (B.2.2.2.1 _ k_1846) rfl rfl rfl rfl d_Book_readCode_12 ?_
  refine mv_lpick [0] rfl ?_
  refine mv_gen (fun S15 eS15 => ?_)
  have hA : Ta 74 len σ S15 (a0 + 1) := by rw [eS15]; exact (hA.si (k := 4) ⟨by decide, by decide⟩).inc hlt
  have hk : mv_i S15 74 4 = 3 := by rw [eS15]; first | exact hk | rfl
  have hs : mv_i S15 74 5 = mv_i σ 74 5 := by rw [eS15]; first | exact hs | rfl
  have hb : mv_i S15 74 7 = mv_i σ 74 7 := by rw [eS15]; first | exact hb | rfl
  clear eS15
  exact lp _ _ (a0 + 1) hA hk hs hb (Nat.le_refl _) (Nat.lt_succ_self _)
set_option maxHeartbeats 4000000 in
set_option maxRecDepth 100000 in
theorem c_Book_readCode_y (l : Launch) {dA : FieldType → ClassId} {D : va_G} {al : Nat → Nat} {ext : mv_Sh} {sk sv : Nat → Nat} (hi : mv_inj (mg dA D al ext)) (σ : mv_H) (len a0 : Nat) (hA : Ta 108 len σ σ a0) (hlt : a0 < len) : mv_C l y_Book_readCode (Cond.code y_Book_readCode b_Book_readCode 2 (Option.none : Option Jvm.ClassFile.FieldType) :: ma) ({ frames := 1, cells := 0, slots := 0, locals := 21 }) (mg dA D al ext) (mK sk sv) [.ref (al 108)] σ (mv_Rv (fun σ1 => ∃ a1, Ta 108 len σ σ1 a1 ∧ mv_i σ1 108 4 = 3 ∧ mv_i σ1 108 5 = mv_i σ 108 5 ∧ a0 ≤ a1 ∧ (0 ≤ (mv_i σ1 108 7).toInt ∨ (mv_i σ1 108 7 = mv_i σ 108 7 ∧ a0 + 2 ≤ a1)))) := by
  refine mv_C.ofV (cc := b_Book_readCode) (nL := 2) (ret := (Option.none : Option Jvm.ClassFile.FieldType)) (by decide +kernel) rfl hi (Nat.le_of_ble_eq_true rfl) ?_
  intro p e s m below meth c B hNs hr hnm hno
  have hR := hA.2.1
  have lp : ∀ (nn : Nat) (τ : mv_H) (a9 : Nat) (hA : Ta 108 len σ τ a9) (hk : mv_i τ 108 4 = 3) (hs : mv_i τ 108 5 = mv_i σ 108 5) (hb : mv_i τ 108 7 = mv_i σ 108 7) (ha : a0 + 1 ≤ a9), len - a9 < nn → mv_V p l e ({ frames := 1, cells := 0, slots := 0, locals := 21 }) s m ([.ref (al 108)] : List Value).toArray below meth c (mg dA D al ext) 2 0 0 (mv_Q (mg dA D al ext) below s 0 0 (mv_Rv (fun σ1 => ∃ a1, Ta 108 len σ σ1 a1 ∧ mv_i σ1 108 4 = 3 ∧ mv_i σ1 108 5 = mv_i σ 108 5 ∧ a0 ≤ a1 ∧ (0 ≤ (mv_i σ1 108 7).toInt ∨ (mv_i σ1 108 7 = mv_i σ 108 7 ∧ a0 + 2 ≤ a1))))) τ 15 [(0, .ref (al 108))] [] := by
    intro nn
    induction nn with
    | zero => intro τ a9 hA hk hs hb ha hm; exact absurd hm (Nat.not_lt_zero _)
    | succ nn ih =>
      intro τ a9 hA hk hs hb ha hm
      refine mv_aload_n (pc := 15) B d_Book_readCode_15 rfl 0 rfl ?_
      refine mv_getI (pc := 16) (ci := 12) (C := R_Book) (T := F_Book) (N := 65) B 3 rfl rfl (by decide) i_Book (B.2.2.2.1 _ k_1846) rfl d_Book_readCode_16 ?_
      refine mv_aload_n (pc := 19) B d_Book_readCode_19 rfl 0 rfl ?_
      refine mv_getI (pc := 20) (ci := 12) (C := R_Book) (T := F_Book) (N := 65) B 2 rfl rfl (by decide) i_Book (B.2.2.2.1 _ k_1845) rfl d_Book_readCode_20 ?_
      refine mv_icmp_ge (pc := 23) (tgt := 101) B d_Book_readCode_23 rfl (fun h23 => ?_) (fun h23 => ?_)
      · skip
        refine mv_aload_n (pc := 101) B d_Book_readCode_101 rfl 0 rfl ?_
        refine mv_getI (pc := 102) (ci := 12) (C := R_Book) (T := F_Book) (N := 65) B 3 rfl rfl (by decide) i_Book (B.2.2.2.1 _ k_1846) rfl d_Book_readCode_102 ?_
        refine mv_aload_n (pc := 105) B d_Book_readCode_105 rfl 0 rfl ?_
        refine mv_getI (pc := 106) (ci := 12) (C := R_Book) (T := F_Book) (N := 65) B 2 rfl rfl (by decide) i_Book (B.2.2.2.1 _ k_1845) rfl d_Book_readCode_106 ?_
        refine mv_icmp_ne (pc := 109) (tgt := 123) B d_Book_readCode_109 rfl (fun h109 => ?_) (fun h109 => ?_)
        · skip
          have hlt : a9 < len := by have z : ¬ (mv_i τ 108 3).toInt = (mv_i τ 108 2).toInt := fun z => h109 (Int32.toInt_inj.mp z); have := hA.2.2.2; have := hA.2.2.1; omega
          refine mv_aload_n (pc := 123) B d_Book_readCode_123 rfl 0 rfl ?_
          refine mv_dup (pc := 124) B d_Book_readCode_124 rfl ?_
          refine mv_getI (pc := 125) (ci := 12) (C := R_Book) (T := F_Book) (N := 65) B 3 rfl rfl (by decide) i_Book (B.2.2.2.1 _ k_1846) rfl d_Book_readCode_125 ?_
          refine mv_iconst (pc := 128) (v := 1) B d_Book_readCode_128 (by decide) ?_
          refine mv_iadd (pc := 129) B d_Book_readCode_129 ?_
          refine mv_putI (pc := 130) (ci := 12) (C := R_Book) (T := F_Book) (N := 65) B 3 rfl rfl (by decide) i_Book t_Book_ok n_Book (B.2.2.2.1 _ k_1846) rfl rfl rfl rfl d_Book_readCode_130 ?_
          exact mv_vret (pc := 133) B hr d_Book_readCode_133 (Nat.le_refl _) (Nat.le_refl _) (by first | exact ⟨rfl, a9 + 1, hA.inc hlt, hk, hs, by omega, Or.inr ⟨hb, by omega⟩⟩ | exact ⟨rfl, a9, hA.si ⟨by decide, by decide⟩, hk, hs, by omega, Or.inl (by show 0 ≤ (mv_i τ 108 2).toInt; rw [hA.2.2.1]; omega)⟩)
        · skip
          refine mv_aload_n (pc := 112) B d_Book_readCode_112 rfl 0 rfl ?_
          refine mv_aload_n (pc := 113) B d_Book_readCode_113 rfl 0 rfl ?_
          refine mv_getI (pc := 114) (ci := 12) (C := R_Book) (T := F_Book) (N := 65) B 2 rfl rfl (by decide) i_Book (B.2.2.2.1 _ k_1845) rfl d_Book_readCode_114 ?_
          refine mv_putI (pc := 117) (ci := 12) (C := R_Book) (T := F_Book) (N := 65) B 7 rfl rfl (by decide) i_Book t_Book_ok n_Book (B.2.2.2.1 _ k_1850) rfl rfl rfl rfl d_Book_readCode_117 ?_
          refine mv_goto (pc := 120) (tgt := 133) B d_Book_readCode_120 rfl ?_
          exact mv_vret (pc := 133) B hr d_Book_readCode_133 (Nat.le_refl _) (Nat.le_refl _) (by first | exact ⟨rfl, a9 + 1, hA.inc hlt, hk, hs, by omega, Or.inr ⟨hb, by omega⟩⟩ | exact ⟨rfl, a9, hA.si ⟨by decide, by decide⟩, hk, hs, by omega, Or.inl (by show 0 ≤ (mv_i τ 108 2).toInt; rw [hA.2.2.1]; omega)⟩)
      · skip
        have hlt : a9 < len := by have z : ¬ (mv_i τ 108 2).toInt ≤ (mv_i τ 108 3).toInt := fun z => h23 (Int32.le_iff_toInt_le.mpr z); have := hA.2.2.2.1; have := hA.2.2.1; omega
        refine mv_aload_n (pc := 26) B d_Book_readCode_26 rfl 0 rfl ?_
        refine mv_aload_n (pc := 27) B d_Book_readCode_27 rfl 0 rfl ?_
        refine mv_getI (pc := 28) (ci := 12) (C := R_Book) (T := F_Book) (N := 65) B 3 rfl rfl (by decide) i_Book (B.2.2.2.1 _ k_1846) rfl d_Book_readCode_28 ?_
        refine mv_callVi (pc := 31) (n := 1) (ci := 12) (C := R_Book) B (mK_ok sk sv) hNs rfl rfl (c_Book_look_y l hi _ _ len hA.2.1 hA.2.2.1 hA.2.2.2.2.2 (by rw [hA.2.2.2.1]; omega)) rfl (ma_goodc kc_Book_look) (B.2.2.2.1 _ k_2122) (B.2.2.2.1 _ k_2124) (B.2.2.2.1 _ ks_82) (B.2.2.2.1 _ k_13) ⟨by decide +kernel, by decide +kernel, by decide +kernel⟩ rfl d_Book_readCode_31 rfl (Nat.le_of_ble_eq_true rfl) ⟨by decide, by decide⟩ ⟨by decide, by decide⟩ ⟨by decide, by decide⟩ (mv_noH hno _) (fun v31 σ31 h31 => ?_)
        obtain ⟨e31, w31, z31⟩ := h31
        have e31 := e31.symm
        subst e31
        refine mv_bipush (pc := 34) (v := 34) B d_Book_readCode_34 (by decide) ?_
        refine mv_icmp_eq (pc := 36) (tgt := 101) B d_Book_readCode_36 rfl (fun h36 => ?_) (fun h36 => ?_)
        · skip
          refine mv_aload_n (pc := 101) B d_Book_readCode_101 rfl 0 rfl ?_
          refine mv_getI (pc := 102) (ci := 12) (C := R_Book) (T := F_Book) (N := 65) B 3 rfl rfl (by decide) i_Book (B.2.2.2.1 _ k_1846) rfl d_Book_readCode_102 ?_
          refine mv_aload_n (pc := 105) B d_Book_readCode_105 rfl 0 rfl ?_
          refine mv_getI (pc := 106) (ci := 12) (C := R_Book) (T := F_Book) (N := 65) B 2 rfl rfl (by decide) i_Book (B.2.2.2.1 _ k_1845) rfl d_Book_readCode_106 ?_
          refine mv_icmp_ne (pc := 109) (tgt := 123) B d_Book_readCode_109 rfl (fun h109 => ?_) (fun h109 => ?_)
          · skip
            have hlt : a9 < len := by have z : ¬ (mv_i τ 108 3).toInt = (mv_i τ 108 2).toInt := fun z => h109 (Int32.toInt_inj.mp z); have := hA.2.2.2; have := hA.2.2.1; omega
            refine mv_aload_n (pc := 123) B d_Book_readCode_123 rfl 0 rfl ?_
            refine mv_dup (pc := 124) B d_Book_readCode_124 rfl ?_
            refine mv_getI (pc := 125) (ci := 12) (C := R_Book) (T := F_Book) (N := 65) B 3 rfl rfl (by decide) i_Book (B.2.2.2.1 _ k_1846) rfl d_Book_readCode_125 ?_
            refine mv_iconst (pc := 128) (v := 1) B d_Book_readCode_128 (by decide) ?_
            refine mv_iadd (pc := 129) B d_Book_readCode_129 ?_
            refine mv_putI (pc := 130) (ci := 12) (C := R_Book) (T := F_Book) (N := 65) B 3 rfl rfl (by decide) i_Book t_Book_ok n_Book (B.2.2.2.1 _ k_1846) rfl rfl rfl rfl d_Book_readCode_130 ?_
            exact mv_vret (pc := 133) B hr d_Book_readCode_133 (Nat.le_refl _) (Nat.le_refl _) (by first | exact ⟨rfl, a9 + 1, hA.inc hlt, hk, hs, by omega, Or.inr ⟨hb, by omega⟩⟩ | exact ⟨rfl, a9, hA.si ⟨by decide, by decide⟩, hk, hs, by omega, Or.inl (by show 0 ≤ (mv_i τ 108 2).toInt; rw [hA.2.2.1]; omega)⟩)
          · skip
            refine mv_aload_n (pc := 112) B d_Book_readCode_112 rfl 0 rfl ?_
            refine mv_aload_n (pc := 113) B d_Book_readCode_113 rfl 0 rfl ?_
            refine mv_getI (pc := 114) (ci := 12) (C := R_Book) (T := F_Book) (N := 65) B 2 rfl rfl (by decide) i_Book (B.2.2.2.1 _ k_1845) rfl d_Book_readCode_114 ?_
            refine mv_putI (pc := 117) (ci := 12) (C := R_Book) (T := F_Book) (N := 65) B 7 rfl rfl (by decide) i_Book t_Book_ok n_Book (B.2.2.2.1 _ k_1850) rfl rfl rfl rfl d_Book_readCode_117 ?_
            refine mv_goto (pc := 120) (tgt := 133) B d_Book_readCode_120 rfl ?_
            exact mv_vret (pc := 133) B hr d_Book_readCode_133 (Nat.le_refl _) (Nat.le_refl _) (by first | exact ⟨rfl, a9 + 1, hA.inc hlt, hk, hs, by omega, Or.inr ⟨hb, by omega⟩⟩ | exact ⟨rfl, a9, hA.si ⟨by decide, by decide⟩, hk, hs, by omega, Or.inl (by show 0 ≤ (mv_i τ 108 2).toInt; rw [hA.2.2.1]; omega)⟩)
        · skip
          refine mv_aload_n (pc := 39) B d_Book_readCode_39 rfl 0 rfl ?_
          refine mv_aload_n (pc := 40) B d_Book_readCode_40 rfl 0 rfl ?_
          refine mv_getI (pc := 41) (ci := 12) (C := R_Book) (T := F_Book) (N := 65) B 3 rfl rfl (by decide) i_Book (B.2.2.2.1 _ k_1846) rfl d_Book_readCode_41 ?_
          refine mv_callVi (pc := 44) (n := 1) (ci := 12) (C := R_Book) B (mK_ok sk sv) hNs rfl rfl (c_Book_look_y l hi _ _ len hA.2.1 hA.2.2.1 hA.2.2.2.2.2 (by rw [hA.2.2.2.1]; omega)) rfl (ma_goodc kc_Book_look) (B.2.2.2.1 _ k_2122) (B.2.2.2.1 _ k_2124) (B.2.2.2.1 _ ks_82) (B.2.2.2.1 _ k_13) ⟨by decide +kernel, by decide +kernel, by decide +kernel⟩ rfl d_Book_readCode_44 rfl (Nat.le_of_ble_eq_true rfl) ⟨by decide, by decide⟩ ⟨by decide, by decide⟩ ⟨by decide, by decide⟩ (mv_noH hno _) (fun v44 σ44 h44 => ?_)
          obtain ⟨e44, w44, z44⟩ := h44
          have e44 := e44.symm
          subst e44
          refine mv_istore_n (pc := 47) B d_Book_readCode_47 rfl (by decide) rfl ?_
          refine mv_iload_n (pc := 48) B d_Book_readCode_48 rfl 0 rfl ?_
          refine mv_bipush (pc := 49) (v := 48) B d_Book_readCode_49 (by decide) ?_
          refine mv_icmp_eq (pc := 51) (tgt := 88) B d_Book_readCode_51 rfl (fun h51 => ?_) (fun h51 => ?_)
          · skip
            refine mv_aload_n (pc := 88) B d_Book_readCode_88 rfl 1 rfl ?_
            refine mv_dup (pc := 89) B d_Book_readCode_89 rfl ?_
            refine mv_getI (pc := 90) (ci := 12) (C := R_Book) (T := F_Book) (N := 65) B 3 rfl rfl (by decide) i_Book (B.2.2.2.1 _ k_1846) rfl d_Book_readCode_90 ?_
            refine mv_iconst (pc := 93) (v := 1) B d_Book_readCode_93 (by decide) ?_
            refine mv_iadd (pc := 94) B d_Book_readCode_94 ?_
            refine mv_putI (pc := 95) (ci := 12) (C := R_Book) (T := F_Book) (N := 65) B 3 rfl rfl (by decide) i_Book t_Book_ok n_Book (B.2.2.2.1 _ k_1846) rfl rfl rfl rfl d_Book_readCode_95 ?_
            refine mv_gen (fun S98 eS98 => ?_)
            have hA : Ta 108 len σ S98 (a9 + 1) := by rw [eS98]; exact hA.inc hlt
            have hk : mv_i S98 108 4 = 3 := by rw [eS98]; first | exact hk | rfl
            have hs : mv_i S98 108 5 = mv_i σ 108 5 := by rw [eS98]; first | exact hs | rfl
            have hb : mv_i S98 108 7 = mv_i σ 108 7 := by rw [eS98]; first | exact hb | rfl
            clear eS98
            refine mv_goto (pc := 98) (tgt := 15) B d_Book_readCode_98 rfl ?_
            refine mv_lpick [1] rfl ?_
            exact ih _ _ hA hk hs hb (by omega) (by omega)
          · skip
            refine mv_iload_n (pc := 54) B d_Book_readCode_54 rfl 0 rfl ?_
            refine mv_bipush (pc := 55) (v := 49) B d_Book_readCode_55 (by decide) ?_
            refine mv_icmp_eq (pc := 57) (tgt := 88) B d_Book_readCode_57 rfl (fun h57 => ?_) (fun h57 => ?_)
            · skip
              refine mv_aload_n (pc := 88) B d_Book_readCode_88 rfl 1 rfl ?_
              refine mv_dup (pc := 89) B d_Book_readCode_89 rfl ?_
              refine mv_getI (pc := 90) (ci := 12) (C := R_Book) (T := F_Book) (N := 65) B 3 rfl rfl (by decide) i_Book (B.2.2.2.1 _ k_1846) rfl d_Book_readCode_90 ?_
              refine mv_iconst (pc := 93) (v := 1) B d_Book_readCode_93 (by decide) ?_
              refine mv_iadd (pc := 94) B d_Book_readCode_94 ?_
              refine mv_putI (pc := 95) (ci := 12) (C := R_Book) (T := F_Book) (N := 65) B 3 rfl rfl (by decide) i_Book t_Book_ok n_Book (B.2.2.2.1 _ k_1846) rfl rfl rfl rfl d_Book_readCode_95 ?_
              refine mv_gen (fun S98 eS98 => ?_)
              have hA : Ta 108 len σ S98 (a9 + 1) := by rw [eS98]; exact hA.inc hlt
              have hk : mv_i S98 108 4 = 3 := by rw [eS98]; first | exact hk | rfl
              have hs : mv_i S98 108 5 = mv_i σ 108 5 := by rw [eS98]; first | exact hs | rfl
              have hb : mv_i S98 108 7 = mv_i σ 108 7 := by rw [eS98]; first | exact hb | rfl
              clear eS98
              refine mv_goto (pc := 98) (tgt := 15) B d_Book_readCode_98 rfl ?_
              refine mv_lpick [1] rfl ?_
              exact ih _ _ hA hk hs hb (by omega) (by omega)
            · skip
              refine mv_iload_n (pc := 60) B d_Book_readCode_60 rfl 0 rfl ?_
              refine mv_bipush (pc := 61) (v := 46) B d_Book_readCode_61 (by decide) ?_
              refine mv_icmp_eq (pc := 63) (tgt := 88) B d_Book_readCode_63 rfl (fun h63 => ?_) (fun h63 => ?_)
              · skip
                refine mv_aload_n (pc := 88) B d_Book_readCode_88 rfl 1 rfl ?_
                refine mv_dup (pc := 89) B d_Book_readCode_89 rfl ?_
                refine mv_getI (pc := 90) (ci := 12) (C := R_Book) (T := F_Book) (N := 65) B 3 rfl rfl (by decide) i_Book (B.2.2.2.1 _ k_1846) rfl d_Book_readCode_90 ?_
                refine mv_iconst (pc := 93) (v := 1) B d_Book_readCode_93 (by decide) ?_
                refine mv_iadd (pc := 94) B d_Book_readCode_94 ?_
                refine mv_putI (pc := 95) (ci := 12) (C := R_Book) (T := F_Book) (N := 65) B 3 rfl rfl (by decide) i_Book t_Book_ok n_Book (B.2.2.2.1 _ k_1846) rfl rfl rfl rfl d_Book_readCode_95 ?_
                refine mv_gen (fun S98 eS98 => ?_)
                have hA : Ta 108 len σ S98 (a9 + 1) := by rw [eS98]; exact hA.inc hlt
                have hk : mv_i S98 108 4 = 3 := by rw [eS98]; first | exact hk | rfl
                have hs : mv_i S98 108 5 = mv_i σ 108 5 := by rw [eS98]; first | exact hs | rfl
                have hb : mv_i S98 108 7 = mv_i σ 108 7 := by rw [eS98]; first | exact hb | rfl
                clear eS98
                refine mv_goto (pc := 98) (tgt := 15) B d_Book_readCode_98 rfl ?_
                refine mv_lpick [1] rfl ?_
                exact ih _ _ hA hk hs hb (by omega) (by omega)
              · skip
                refine mv_iload_n (pc := 66) B d_Book_readCode_66 rfl 0 rfl ?_
                refine mv_callSi (pc := 67) (n := 1) B (mK_ok sk sv) hNs (c_Book_letter l hi _ _) rfl (ma_goodc kc_Book_letter) (B.2.2.2.1 _ k_2126) (B.2.2.2.1 _ k_2127) (B.2.2.2.1 _ k_13) ⟨by decide +kernel, by decide +kernel, by decide +kernel⟩ rfl d_Book_readCode_67 rfl (Nat.le_of_ble_eq_true rfl) ⟨by decide, by decide⟩ ⟨by decide, by decide⟩ ⟨by decide, by decide⟩ (mv_noH hno _) (fun v67 σ67 h67 => ?_)
                obtain ⟨e67, w67, z67⟩ := h67
                have e67 := e67.symm
                subst e67
                refine mv_if_eq (pc := 70) (tgt := 79) B d_Book_readCode_70 rfl (fun h70 => ?_) (fun h70 => ?_)
                · skip
                  refine mv_aload_n (pc := 79) B d_Book_readCode_79 rfl 1 rfl ?_
                  refine mv_aload_n (pc := 80) B d_Book_readCode_80 rfl 1 rfl ?_
                  refine mv_getI (pc := 81) (ci := 12) (C := R_Book) (T := F_Book) (N := 65) B 3 rfl rfl (by decide) i_Book (B.2.2.2.1 _ k_1846) rfl d_Book_readCode_81 ?_
                  refine mv_putI (pc := 84) (ci := 12) (C := R_Book) (T := F_Book) (N := 65) B 7 rfl rfl (by decide) i_Book t_Book_ok n_Book (B.2.2.2.1 _ k_1850) rfl rfl rfl rfl d_Book_readCode_84 ?_
                  exact mv_vret (pc := 87) B hr d_Book_readCode_87 (Nat.le_refl _) (Nat.le_refl _) ⟨rfl, a9, hA.si ⟨by decide, by decide⟩, hk, hs, by omega, Or.inl (by show 0 ≤ (mv_i τ 108 3).toInt; rw [hA.2.2.2.1]; omega)⟩
                · skip
                  refine mv_iload_n (pc := 73) B d_Book_readCode_73 rfl 0 rfl ?_
                  refine mv_bipush (pc := 74) (v := 95) B d_Book_readCode_74 (by decide) ?_
                  refine mv_icmp_ne (pc := 76) (tgt := 88) B d_Book_readCode_76 rfl (fun h76 => ?_) (fun h76 => ?_)
                  · skip
                    refine mv_aload_n (pc := 88) B d_Book_readCode_88 rfl 1 rfl ?_
                    refine mv_dup (pc := 89) B d_Book_readCode_89 rfl ?_
                    refine mv_getI (pc := 90) (ci := 12) (C := R_Book) (T := F_Book) (N := 65) B 3 rfl rfl (by decide) i_Book (B.2.2.2.1 _ k_1846) rfl d_Book_readCode_90 ?_
                    refine mv_iconst (pc := 93) (v := 1) B d_Book_readCode_93 (by decide) ?_
                    refine mv_iadd (pc := 94) B d_Book_readCode_94 ?_
                    refine mv_putI (pc := 95) (ci := 12) (C := R_Book) (T := F_Book) (N := 65) B 3 rfl rfl (by decide) i_Book t_Book_ok n_Book (B.2.2.2.1 _ k_1846) rfl rfl rfl rfl d_Book_readCode_95 ?_
                    refine mv_gen (fun S98 eS98 => ?_)
                    have hA : Ta 108 len σ S98 (a9 + 1) := by rw [eS98]; exact hA.inc hlt
                    have hk : mv_i S98 108 4 = 3 := by rw [eS98]; first | exact hk | rfl
                    have hs : mv_i S98 108 5 = mv_i σ 108 5 := by rw [eS98]; first | exact hs | rfl
                    have hb : mv_i S98 108 7 = mv_i σ 108 7 := by rw [eS98]; first | exact hb | rfl
                    clear eS98
                    refine mv_goto (pc := 98) (tgt := 15) B d_Book_readCode_98 rfl ?_
                    refine mv_lpick [1] rfl ?_
                    exact ih _ _ hA hk hs hb (by omega) (by omega)
                  · skip
                    refine mv_aload_n (pc := 79) B d_Book_readCode_79 rfl 1 rfl ?_
                    refine mv_aload_n (pc := 80) B d_Book_readCode_80 rfl 1 rfl ?_
                    refine mv_getI (pc := 81) (ci := 12) (C := R_Book) (T := F_Book) (N := 65) B 3 rfl rfl (by decide) i_Book (B.2.2.2.1 _ k_1846) rfl d_Book_readCode_81 ?_
                    refine mv_putI (pc := 84) (ci := 12) (C := R_Book) (T := F_Book) (N := 65) B 7 rfl rfl (by decide) i_Book t_Book_ok n_Book (B.2.2.2.1 _ k_1850) rfl rfl rfl rfl d_Book_readCode_84 ?_
                    exact mv_vret (pc := 87) B hr d_Book_readCode_87 (Nat.le_refl _) (Nat.le_refl _) ⟨rfl, a9, hA.si ⟨by decide, by decide⟩, hk, hs, by omega, Or.inl (by show 0 ≤ (mv_i τ 108 3).toInt; rw [hA.2.2.2.1]; omega)⟩
  refine mv_aload_n (pc := 0) B d_Book_readCode_0 rfl 0 rfl ?_
  refine mv_iconst (pc := 1) (v := 3) B d_Book_readCode_1 (by decide) ?_
  refine mv_putI (pc := 2) (ci := 12) (C := R_Book) (T := F_Book) (N := 65) B 4 rfl rfl (by decide) i_Book t_Book_ok n_Book (B.2.2.2.1 _ k_1847) rfl rfl rfl rfl d_Book_readCode_2 ?_
  refine mv_aload_n (pc := 5) B d_Book_readCode_5 rfl 0 rfl ?_
  refine mv_dup (pc := 6) B d_Book_readCode_6 rfl ?_
  refine mv_getI (pc := 7) (ci := 12) (C := R_Book) (T := F_Book) (N := 65) B 3 rfl rfl (by decide) i_Book (B.2.2.2.1 _ k_1846) rfl d_Book_readCode_7 ?_
  refine mv_iconst (pc := 10) (v := 1) B d_Book_readCode_10 (by decide) ?_
  refine mv_iadd (pc := 11) B d_Book_readCode_11 ?_
  refine mv_putI (pc := 12) (ci := 12) (C := R_Book) (T := F_Book) (N := 65) B 3 rfl rfl (by decide) i_Book t_Book_ok n_Book (B.2.2.2.1 _ k_1846) rfl rfl rfl rfl d_Book_readCode_12 ?_
  refine mv_lpick [0] rfl ?_
  refine mv_gen (fun S15 eS15 => ?_)
  have hA : Ta 108 len σ S15 (a0 + 1) := by rw [eS15]; exact (hA.si (k := 4) ⟨by decide, by decide⟩).inc hlt
  have hk : mv_i S15 108 4 = 3 := by rw [eS15]; first | exact hk | rfl
  have hs : mv_i S15 108 5 = mv_i σ 108 5 := by rw [eS15]; first | exact hs | rfl
  have hb : mv_i S15 108 7 = mv_i σ 108 7 := by rw [eS15]; first | exact hb | rfl
  clear eS15
  exact lp _ _ (a0 + 1) hA hk hs hb (Nat.le_refl _) (Nat.lt_succ_self _)
def y_Book_next : MethodName := ⟨"MachineLoomModel$Book", "next", "()V"⟩
abbrev b_Book_next : ByteArray := prog_15_method_13_code
theorem kc_Book_next : Cond.code y_Book_next b_Book_next 2 (Option.none : Option Jvm.ClassFile.FieldType) ∈ ma := ma_of (tb_9 _ (List.mem_of_getElem? (i := 197) rfl)) rfl
theorem k_1849 : (Jvm.Cond.fieldLink "MachineLoomModel$Book" (190 : Nat) "MachineLoomModel$Book" "stop" "I") ∈ ma := ma_of (tb_8 _ (List.mem_of_getElem? (i := 169) rfl)) rfl
theorem k_2154 : (Jvm.Cond.methodLink "MachineLoomModel$Book" (193 : Nat) ({ cls := "MachineLoomModel$Book", name := "wrongAt", desc := "(I)LMachineLoomModel$Book$Wrong;" } : Jvm.MethodName)) ∈ ma := ma_of (tb_9 _ (List.mem_of_getElem? (i := 234) rfl)) rfl
theorem k_2156 : (Jvm.Cond.instanceMethod ({ cls := "MachineLoomModel$Book", name := "wrongAt", desc := "(I)LMachineLoomModel$Book$Wrong;" } : Jvm.MethodName)) ∈ ma := ma_of (tb_9 _ (List.mem_of_getElem? (i := 236) rfl)) rfl
theorem ks_86 : Cond.selects "MachineLoomModel$Book" ⟨"MachineLoomModel$Book", "wrongAt", "(I)LMachineLoomModel$Book$Wrong;"⟩ ⟨"MachineLoomModel$Book", "wrongAt", "(I)LMachineLoomModel$Book$Wrong;"⟩ ∈ ma := ma_sel 86 rfl rfl
theorem k_1848 : (Jvm.Cond.fieldLink "MachineLoomModel$Book" (174 : Nat) "MachineLoomModel$Book" "start" "I") ∈ ma := ma_of (tb_8 _ (List.mem_of_getElem? (i := 168) rfl)) rfl
theorem k_2118 : (Jvm.Cond.methodLink "MachineLoomModel$Book" (171 : Nat) ({ cls := "MachineLoomModel$Book", name := "skip", desc := "()V" } : Jvm.MethodName)) ∈ ma := ma_of (tb_9 _ (List.mem_of_getElem? (i := 198) rfl)) rfl
theorem k_2120 : (Jvm.Cond.instanceMethod ({ cls := "MachineLoomModel$Book", name := "skip", desc := "()V" } : Jvm.MethodName)) ∈ ma := ma_of (tb_9 _ (List.mem_of_getElem? (i := 200) rfl)) rfl
theorem ks_81 : Cond.selects "MachineLoomModel$Book" ⟨"MachineLoomModel$Book", "skip", "()V"⟩ ⟨"MachineLoomModel$Book", "skip", "()V"⟩ ∈ ma := ma_sel 81 rfl rfl
theorem k_2147 : (Jvm.Cond.methodLink "MachineLoomModel$Book" (183 : Nat) ({ cls := "MachineLoomModel$Book", name := "pair", desc := "(II)I" } : Jvm.MethodName)) ∈ ma := ma_of (tb_9 _ (List.mem_of_getElem? (i := 227) rfl)) rfl
theorem k_2149 : (Jvm.Cond.instanceMethod ({ cls := "MachineLoomModel$Book", name := "pair", desc := "(II)I" } : Jvm.MethodName)) ∈ ma := ma_of (tb_9 _ (List.mem_of_getElem? (i := 229) rfl)) rfl
theorem ks_85 : Cond.selects "MachineLoomModel$Book" ⟨"MachineLoomModel$Book", "pair", "(II)I"⟩ ⟨"MachineLoomModel$Book", "pair", "(II)I"⟩ ∈ ma := ma_sel 85 rfl rfl
theorem k_2151 : (Jvm.Cond.methodLink "MachineLoomModel$Book" (187 : Nat) ({ cls := "MachineLoomModel$Book", name := "sign", desc := "(I)Z" } : Jvm.MethodName)) ∈ ma := ma_of (tb_9 _ (List.mem_of_getElem? (i := 231) rfl)) rfl
theorem k_2152 : (Jvm.Cond.static ({ cls := "MachineLoomModel$Book", name := "sign", desc := "(I)Z" } : Jvm.MethodName)) ∈ ma := ma_of (tb_9 _ (List.mem_of_getElem? (i := 232) rfl)) rfl
theorem k_2143 : (Jvm.Cond.methodLink "MachineLoomModel$Book" (180 : Nat) ({ cls := "MachineLoomModel$Book", name := "readCode", desc := "()V" } : Jvm.MethodName)) ∈ ma := ma_of (tb_9 _ (List.mem_of_getElem? (i := 223) rfl)) rfl
theorem k_2145 : (Jvm.Cond.instanceMethod ({ cls := "MachineLoomModel$Book", name := "readCode", desc := "()V" } : Jvm.MethodName)) ∈ ma := ma_of (tb_9 _ (List.mem_of_getElem? (i := 225) rfl)) rfl
theorem ks_84 : Cond.selects "MachineLoomModel$Book" ⟨"MachineLoomModel$Book", "readCode", "()V"⟩ ⟨"MachineLoomModel$Book", "readCode", "()V"⟩ ∈ ma := ma_sel 84 rfl rfl
theorem k_2132 : (Jvm.Cond.methodLink "MachineLoomModel$Book" (177 : Nat) ({ cls := "MachineLoomModel$Book", name := "readNumber", desc := "()V" } : Jvm.MethodName)) ∈ ma := ma_of (tb_9 _ (List.mem_of_getElem? (i := 212) rfl)) rfl
theorem k_2134 : (Jvm.Cond.instanceMethod ({ cls := "MachineLoomModel$Book", name := "readNumber", desc := "()V" } : Jvm.MethodName)) ∈ ma := ma_of (tb_9 _ (List.mem_of_getElem? (i := 214) rfl)) rfl
theorem ks_83 : Cond.selects "MachineLoomModel$Book" ⟨"MachineLoomModel$Book", "readNumber", "()V"⟩ ⟨"MachineLoomModel$Book", "readNumber", "()V"⟩ ∈ ma := ma_sel 83 rfl rfl
theorem d_Book_next_0 : decode b_Book_next 0 = .ok (.aload_n 0, 1) := by decide +kernel
theorem d_Book_next_1 : decode b_Book_next 1 = .ok (.invokevirtual 171, 3) := by decide +kernel
theorem d_Book_next_4 : decode b_Book_next 4 = .ok (.aload_n 0, 1) := by decide +kernel
theorem d_Book_next_5 : decode b_Book_next 5 = .ok (.aload_n 0, 1) := by decide +kernel
theorem d_Book_next_6 : decode b_Book_next 6 = .ok (.getfield 142, 3) := by decide +kernel
theorem d_Book_next_9 : decode b_Book_next 9 = .ok (.putfield 174, 3) := by decide +kernel
theorem d_Book_next_12 : decode b_Book_next 12 = .ok (.aload_n 0, 1) := by decide +kernel
theorem d_Book_next_13 : decode b_Book_next 13 = .ok (.iconst (-1), 1) := by decide +kernel
theorem d_Book_next_14 : decode b_Book_next 14 = .ok (.putfield 168, 3) := by decide +kernel
theorem d_Book_next_17 : decode b_Book_next 17 = .ok (.aload_n 0, 1) := by decide +kernel
theorem d_Book_next_18 : decode b_Book_next 18 = .ok (.aload_n 0, 1) := by decide +kernel
theorem d_Book_next_19 : decode b_Book_next 19 = .ok (.getfield 142, 3) := by decide +kernel
theorem d_Book_next_22 : decode b_Book_next 22 = .ok (.invokevirtual 145, 3) := by decide +kernel
theorem d_Book_next_25 : decode b_Book_next 25 = .ok (.istore_n 1, 1) := by decide +kernel
theorem d_Book_next_26 : decode b_Book_next 26 = .ok (.iload_n 1, 1) := by decide +kernel
theorem d_Book_next_27 : decode b_Book_next 27 = .ok (.ifCond .ge (11), 3) := by decide +kernel
theorem d_Book_next_30 : decode b_Book_next 30 = .ok (.aload_n 0, 1) := by decide +kernel
theorem d_Book_next_31 : decode b_Book_next 31 = .ok (.iconst 0, 1) := by decide +kernel
theorem d_Book_next_32 : decode b_Book_next 32 = .ok (.putfield 151, 3) := by decide +kernel
theorem d_Book_next_35 : decode b_Book_next 35 = .ok (.goto (225), 3) := by decide +kernel
theorem d_Book_next_38 : decode b_Book_next 38 = .ok (.iload_n 1, 1) := by decide +kernel
theorem d_Book_next_39 : decode b_Book_next 39 = .ok (.invokestatic 165, 3) := by decide +kernel
theorem d_Book_next_42 : decode b_Book_next 42 = .ok (.ifCond .eq (77), 3) := by decide +kernel
theorem d_Book_next_45 : decode b_Book_next 45 = .ok (.aload_n 0, 1) := by decide +kernel
theorem d_Book_next_46 : decode b_Book_next 46 = .ok (.iconst 1, 1) := by decide +kernel
theorem d_Book_next_47 : decode b_Book_next 47 = .ok (.putfield 151, 3) := by decide +kernel
theorem d_Book_next_50 : decode b_Book_next 50 = .ok (.aload_n 0, 1) := by decide +kernel
theorem d_Book_next_51 : decode b_Book_next 51 = .ok (.aload_n 0, 1) := by decide +kernel
theorem d_Book_next_52 : decode b_Book_next 52 = .ok (.getfield 142, 3) := by decide +kernel
theorem d_Book_next_55 : decode b_Book_next 55 = .ok (.invokevirtual 145, 3) := by decide +kernel
theorem d_Book_next_58 : decode b_Book_next 58 = .ok (.invokestatic 165, 3) := by decide +kernel
theorem d_Book_next_61 : decode b_Book_next 61 = .ok (.ifCond .ne (17), 3) := by decide +kernel
theorem d_Book_next_64 : decode b_Book_next 64 = .ok (.aload_n 0, 1) := by decide +kernel
theorem d_Book_next_65 : decode b_Book_next 65 = .ok (.aload_n 0, 1) := by decide +kernel
theorem d_Book_next_66 : decode b_Book_next 66 = .ok (.getfield 142, 3) := by decide +kernel
theorem d_Book_next_69 : decode b_Book_next 69 = .ok (.invokevirtual 145, 3) := by decide +kernel
theorem d_Book_next_72 : decode b_Book_next 72 = .ok (.invokestatic 138, 3) := by decide +kernel
theorem d_Book_next_75 : decode b_Book_next 75 = .ok (.ifCond .eq (16), 3) := by decide +kernel
theorem d_Book_next_78 : decode b_Book_next 78 = .ok (.aload_n 0, 1) := by decide +kernel
theorem d_Book_next_79 : decode b_Book_next 79 = .ok (.dup, 1) := by decide +kernel
theorem d_Book_next_80 : decode b_Book_next 80 = .ok (.getfield 142, 3) := by decide +kernel
theorem d_Book_next_83 : decode b_Book_next 83 = .ok (.iconst 1, 1) := by decide +kernel
theorem d_Book_next_84 : decode b_Book_next 84 = .ok (.iadd, 1) := by decide +kernel
theorem d_Book_next_85 : decode b_Book_next 85 = .ok (.putfield 142, 3) := by decide +kernel
theorem d_Book_next_88 : decode b_Book_next 88 = .ok (.goto (-38), 3) := by decide +kernel
theorem d_Book_next_91 : decode b_Book_next 91 = .ok (.aload_n 0, 1) := by decide +kernel
theorem d_Book_next_92 : decode b_Book_next 92 = .ok (.getfield 142, 3) := by decide +kernel
theorem d_Book_next_95 : decode b_Book_next 95 = .ok (.aload_n 0, 1) := by decide +kernel
theorem d_Book_next_96 : decode b_Book_next 96 = .ok (.getfield 174, 3) := by decide +kernel
theorem d_Book_next_99 : decode b_Book_next 99 = .ok (.isub, 1) := by decide +kernel
theorem d_Book_next_100 : decode b_Book_next 100 = .ok (.bipush 32, 2) := by decide +kernel
theorem d_Book_next_102 : decode b_Book_next 102 = .ok (.if_icmp .le (158), 3) := by decide +kernel
theorem d_Book_next_105 : decode b_Book_next 105 = .ok (.aload_n 0, 1) := by decide +kernel
theorem d_Book_next_106 : decode b_Book_next 106 = .ok (.aload_n 0, 1) := by decide +kernel
theorem d_Book_next_107 : decode b_Book_next 107 = .ok (.getfield 174, 3) := by decide +kernel
theorem d_Book_next_110 : decode b_Book_next 110 = .ok (.bipush 32, 2) := by decide +kernel
theorem d_Book_next_112 : decode b_Book_next 112 = .ok (.iadd, 1) := by decide +kernel
theorem d_Book_next_113 : decode b_Book_next 113 = .ok (.putfield 168, 3) := by decide +kernel
theorem d_Book_next_116 : decode b_Book_next 116 = .ok (.goto (144), 3) := by decide +kernel
theorem d_Book_next_119 : decode b_Book_next 119 = .ok (.iload_n 1, 1) := by decide +kernel
theorem d_Book_next_120 : decode b_Book_next 120 = .ok (.invokestatic 138, 3) := by decide +kernel
theorem d_Book_next_123 : decode b_Book_next 123 = .ok (.ifCond .eq (10), 3) := by decide +kernel
theorem d_Book_next_126 : decode b_Book_next 126 = .ok (.aload_n 0, 1) := by decide +kernel
theorem d_Book_next_127 : decode b_Book_next 127 = .ok (.invokevirtual 177, 3) := by decide +kernel
theorem d_Book_next_130 : decode b_Book_next 130 = .ok (.goto (130), 3) := by decide +kernel
theorem d_Book_next_133 : decode b_Book_next 133 = .ok (.iload_n 1, 1) := by decide +kernel
theorem d_Book_next_134 : decode b_Book_next 134 = .ok (.bipush 34, 2) := by decide +kernel
theorem d_Book_next_136 : decode b_Book_next 136 = .ok (.if_icmp .ne (10), 3) := by decide +kernel
theorem d_Book_next_139 : decode b_Book_next 139 = .ok (.aload_n 0, 1) := by decide +kernel
theorem d_Book_next_140 : decode b_Book_next 140 = .ok (.invokevirtual 180, 3) := by decide +kernel
theorem d_Book_next_143 : decode b_Book_next 143 = .ok (.goto (117), 3) := by decide +kernel
theorem d_Book_next_146 : decode b_Book_next 146 = .ok (.aload_n 0, 1) := by decide +kernel
theorem d_Book_next_147 : decode b_Book_next 147 = .ok (.iload_n 1, 1) := by decide +kernel
theorem d_Book_next_148 : decode b_Book_next 148 = .ok (.aload_n 0, 1) := by decide +kernel
theorem d_Book_next_149 : decode b_Book_next 149 = .ok (.aload_n 0, 1) := by decide +kernel
theorem d_Book_next_150 : decode b_Book_next 150 = .ok (.getfield 142, 3) := by decide +kernel
theorem d_Book_next_153 : decode b_Book_next 153 = .ok (.iconst 1, 1) := by decide +kernel
theorem d_Book_next_154 : decode b_Book_next 154 = .ok (.iadd, 1) := by decide +kernel
theorem d_Book_next_155 : decode b_Book_next 155 = .ok (.invokevirtual 145, 3) := by decide +kernel
theorem d_Book_next_158 : decode b_Book_next 158 = .ok (.invokevirtual 183, 3) := by decide +kernel
theorem d_Book_next_161 : decode b_Book_next 161 = .ok (.ifCond .le (35), 3) := by decide +kernel
theorem d_Book_next_164 : decode b_Book_next 164 = .ok (.aload_n 0, 1) := by decide +kernel
theorem d_Book_next_165 : decode b_Book_next 165 = .ok (.aload_n 0, 1) := by decide +kernel
theorem d_Book_next_166 : decode b_Book_next 166 = .ok (.iload_n 1, 1) := by decide +kernel
theorem d_Book_next_167 : decode b_Book_next 167 = .ok (.aload_n 0, 1) := by decide +kernel
theorem d_Book_next_168 : decode b_Book_next 168 = .ok (.aload_n 0, 1) := by decide +kernel
theorem d_Book_next_169 : decode b_Book_next 169 = .ok (.getfield 142, 3) := by decide +kernel
theorem d_Book_next_172 : decode b_Book_next 172 = .ok (.iconst 1, 1) := by decide +kernel
theorem d_Book_next_173 : decode b_Book_next 173 = .ok (.iadd, 1) := by decide +kernel
theorem d_Book_next_174 : decode b_Book_next 174 = .ok (.invokevirtual 145, 3) := by decide +kernel
theorem d_Book_next_177 : decode b_Book_next 177 = .ok (.invokevirtual 183, 3) := by decide +kernel
theorem d_Book_next_180 : decode b_Book_next 180 = .ok (.putfield 151, 3) := by decide +kernel
theorem d_Book_next_183 : decode b_Book_next 183 = .ok (.aload_n 0, 1) := by decide +kernel
theorem d_Book_next_184 : decode b_Book_next 184 = .ok (.dup, 1) := by decide +kernel
theorem d_Book_next_185 : decode b_Book_next 185 = .ok (.getfield 142, 3) := by decide +kernel
theorem d_Book_next_188 : decode b_Book_next 188 = .ok (.iconst 2, 1) := by decide +kernel
theorem d_Book_next_189 : decode b_Book_next 189 = .ok (.iadd, 1) := by decide +kernel
theorem d_Book_next_190 : decode b_Book_next 190 = .ok (.putfield 142, 3) := by decide +kernel
theorem d_Book_next_193 : decode b_Book_next 193 = .ok (.goto (67), 3) := by decide +kernel
theorem d_Book_next_196 : decode b_Book_next 196 = .ok (.iload_n 1, 1) := by decide +kernel
theorem d_Book_next_197 : decode b_Book_next 197 = .ok (.bipush 62, 2) := by decide +kernel
theorem d_Book_next_199 : decode b_Book_next 199 = .ok (.if_icmp .ne (31), 3) := by decide +kernel
theorem d_Book_next_202 : decode b_Book_next 202 = .ok (.aload_n 0, 1) := by decide +kernel
theorem d_Book_next_203 : decode b_Book_next 203 = .ok (.sipush 260, 3) := by decide +kernel
theorem d_Book_next_206 : decode b_Book_next 206 = .ok (.putfield 151, 3) := by decide +kernel
theorem d_Book_next_209 : decode b_Book_next 209 = .ok (.aload_n 0, 1) := by decide +kernel
theorem d_Book_next_210 : decode b_Book_next 210 = .ok (.dup, 1) := by decide +kernel
theorem d_Book_next_211 : decode b_Book_next 211 = .ok (.getfield 142, 3) := by decide +kernel
theorem d_Book_next_214 : decode b_Book_next 214 = .ok (.iconst 1, 1) := by decide +kernel
theorem d_Book_next_215 : decode b_Book_next 215 = .ok (.iadd, 1) := by decide +kernel
theorem d_Book_next_216 : decode b_Book_next 216 = .ok (.putfield 142, 3) := by decide +kernel
theorem d_Book_next_219 : decode b_Book_next 219 = .ok (.aload_n 0, 1) := by decide +kernel
theorem d_Book_next_220 : decode b_Book_next 220 = .ok (.aload_n 0, 1) := by decide +kernel
theorem d_Book_next_221 : decode b_Book_next 221 = .ok (.getfield 142, 3) := by decide +kernel
theorem d_Book_next_224 : decode b_Book_next 224 = .ok (.putfield 168, 3) := by decide +kernel
theorem d_Book_next_227 : decode b_Book_next 227 = .ok (.goto (33), 3) := by decide +kernel
theorem d_Book_next_230 : decode b_Book_next 230 = .ok (.iload_n 1, 1) := by decide +kernel
theorem d_Book_next_231 : decode b_Book_next 231 = .ok (.invokestatic 187, 3) := by decide +kernel
theorem d_Book_next_234 : decode b_Book_next 234 = .ok (.ifCond .eq (21), 3) := by decide +kernel
theorem d_Book_next_237 : decode b_Book_next 237 = .ok (.aload_n 0, 1) := by decide +kernel
theorem d_Book_next_238 : decode b_Book_next 238 = .ok (.iload_n 1, 1) := by decide +kernel
theorem d_Book_next_239 : decode b_Book_next 239 = .ok (.putfield 151, 3) := by decide +kernel
theorem d_Book_next_242 : decode b_Book_next 242 = .ok (.aload_n 0, 1) := by decide +kernel
theorem d_Book_next_243 : decode b_Book_next 243 = .ok (.dup, 1) := by decide +kernel
theorem d_Book_next_244 : decode b_Book_next 244 = .ok (.getfield 142, 3) := by decide +kernel
theorem d_Book_next_247 : decode b_Book_next 247 = .ok (.iconst 1, 1) := by decide +kernel
theorem d_Book_next_248 : decode b_Book_next 248 = .ok (.iadd, 1) := by decide +kernel
theorem d_Book_next_249 : decode b_Book_next 249 = .ok (.putfield 142, 3) := by decide +kernel
theorem d_Book_next_252 : decode b_Book_next 252 = .ok (.goto (8), 3) := by decide +kernel
theorem d_Book_next_255 : decode b_Book_next 255 = .ok (.aload_n 0, 1) := by decide +kernel
theorem d_Book_next_256 : decode b_Book_next 256 = .ok (.iconst (-1), 1) := by decide +kernel
theorem d_Book_next_257 : decode b_Book_next 257 = .ok (.putfield 151, 3) := by decide +kernel
theorem d_Book_next_260 : decode b_Book_next 260 = .ok (.aload_n 0, 1) := by decide +kernel
theorem d_Book_next_261 : decode b_Book_next 261 = .ok (.aload_n 0, 1) := by decide +kernel
theorem d_Book_next_262 : decode b_Book_next 262 = .ok (.getfield 142, 3) := by decide +kernel
theorem d_Book_next_265 : decode b_Book_next 265 = .ok (.putfield 190, 3) := by decide +kernel
theorem d_Book_next_268 : decode b_Book_next 268 = .ok (.aload_n 0, 1) := by decide +kernel
theorem d_Book_next_269 : decode b_Book_next 269 = .ok (.getfield 168, 3) := by decide +kernel
theorem d_Book_next_272 : decode b_Book_next 272 = .ok (.ifCond .lt (12), 3) := by decide +kernel
theorem d_Book_next_275 : decode b_Book_next 275 = .ok (.aload_n 0, 1) := by decide +kernel
theorem d_Book_next_276 : decode b_Book_next 276 = .ok (.aload_n 0, 1) := by decide +kernel
theorem d_Book_next_277 : decode b_Book_next 277 = .ok (.getfield 168, 3) := by decide +kernel
theorem d_Book_next_280 : decode b_Book_next 280 = .ok (.invokevirtual 193, 3) := by decide +kernel
theorem d_Book_next_283 : decode b_Book_next 283 = .ok (.athrow, 1) := by decide +kernel
theorem d_Book_next_284 : decode b_Book_next 284 = .ok (.return_, 1) := by decide +kernel
set_option maxHeartbeats 4000000 in
set_option maxRecDepth 100000 in
theorem c_Book_next_x (l : Launch) {dA : FieldType → ClassId} {D : va_G} {al : Nat → Nat} {ext : mv_Sh} {sk sv : Nat → Nat} (hi : mv_inj (mg dA D al ext)) (σ : mv_H) (len a0 : Nat) (hA : Ta 74 len σ σ a0) : mv_C l y_Book_next (Cond.code y_Book_next b_Book_next 2 (Option.none : Option Jvm.ClassFile.FieldType) :: ma) ({ frames := 3, cells := 0, slots := 0, locals := 64 }) (mg dA D al ext) (mK sk sv) [.ref (al 74)] σ (mv_Uv (fun σ1 => ∃ a1 a2, Tq 74 len σ σ1 a1 a2 ∧ a0 ≤ a1) ("MachineLoomModel$Book$Wrong", al 107) (fun σ1 => TkB 74 σ σ1)) := by
  refine mv_C.ofV (cc := b_Book_next) (nL := 2) (ret := (Option.none : Option Jvm.ClassFile.FieldType)) (by decide +kernel) rfl hi (Nat.le_of_ble_eq_true rfl) ?_
  intro p e s m below meth c B hNs hr hnm hno
  have hR := hA.2.1
  have j260 : ∀ (τ : mv_H) (a1 : Nat) (a2 : Nat) (hA : Ta 74 len σ τ a2) (hst : (mv_i τ 74 5).toInt = a1) (ha1 : a0 ≤ a1) (ha2 : a1 ≤ a2) (hk : 0 ≤ (mv_i τ 74 7).toInt ∨ ((mv_i τ 74 4 = 0 ∨ mv_i τ 74 4 = -1 ∨ a1 < a2) ∧ (mv_i τ 74 4 = 3 → a1 + 2 ≤ a2))), mv_V p l e ({ frames := 3, cells := 0, slots := 0, locals := 64 }) s m ([.ref (al 74)] : List Value).toArray below meth c (mg dA D al ext) 2 0 0 (mv_Q (mg dA D al ext) below s 0 0 (mv_Uv (fun σ1 => ∃ a1 a2, Tq 74 len σ σ1 a1 a2 ∧ a0 ≤ a1) ("MachineLoomModel$Book$Wrong", al 107) (fun σ1 => TkB 74 σ σ1))) τ 260 [(0, .ref (al 74))] [] := by
    intro τ a1 a2 hA hst ha1 ha2 hk
    refine mv_aload_n (pc := 260) B d_Book_next_260 rfl 0 rfl ?_
    refine mv_aload_n (pc := 261) B d_Book_next_261 rfl 0 rfl ?_
    refine mv_getI (pc := 262) (ci := 12) (C := R_Book) (T := F_Book) (N := 65) B 3 rfl rfl (by decide) i_Book (B.2.2.2.1 _ k_1846) rfl d_Book_next_262 ?_
    refine mv_putI (pc := 265) (ci := 12) (C := R_Book) (T := F_Book) (N := 65) B 6 rfl rfl (by decide) i_Book t_Book_ok n_Book (B.2.2.2.1 _ k_1849) rfl rfl rfl rfl d_Book_next_265 ?_
    refine mv_gen (fun S268 eS268 => ?_)
    have hA : Ta 74 len σ S268 a2 := by rw [eS268]; exact hA.si ⟨by decide, by decide⟩
    have hst : (mv_i S268 74 5).toInt = a1 := by rw [eS268]; exact hst
    have hsp : mv_i S268 74 6 = mv_i S268 74 3 := by rw [eS268]; rfl
    have hk : 0 ≤ (mv_i S268 74 7).toInt ∨ ((mv_i S268 74 4 = 0 ∨ mv_i S268 74 4 = -1 ∨ a1 < a2) ∧ (mv_i S268 74 4 = 3 → a1 + 2 ≤ a2)) := by rw [eS268]; exact hk
    clear eS268
    refine mv_aload_n (pc := 268) B d_Book_next_268 rfl 0 rfl ?_
    refine mv_getI (pc := 269) (ci := 12) (C := R_Book) (T := F_Book) (N := 65) B 7 rfl rfl (by decide) i_Book (B.2.2.2.1 _ k_1850) rfl d_Book_next_269 ?_
    refine mv_if_lt (pc := 272) (tgt := 284) B d_Book_next_272 rfl (fun h272 => ?_) (fun h272 => ?_)
    · skip
      have hk := hk.resolve_left (fun z => by have z2 : (mv_i S268 74 7).toInt < 0 := Int32.lt_iff_toInt_lt.mp h272; omega)
      exact mv_vret (pc := 284) B hr d_Book_next_284 (Nat.le_refl _) (Nat.le_refl _) (Or.inl ⟨rfl, a1, a2, ⟨hA, hst, ha2, hsp, hk.1, hk.2⟩, ha1⟩)
    · skip
      refine mv_aload_n (pc := 275) B d_Book_next_275 rfl 0 rfl ?_
      refine mv_aload_n (pc := 276) B d_Book_next_276 rfl 0 rfl ?_
      refine mv_getI (pc := 277) (ci := 12) (C := R_Book) (T := F_Book) (N := 65) B 7 rfl rfl (by decide) i_Book (B.2.2.2.1 _ k_1850) rfl d_Book_next_277 ?_
      refine mv_callVr (pc := 280) (n := 1) (ci := 12) (C := R_Book) B (mK_ok sk sv) hNs rfl rfl (c_Book_wrongAt_x l hi _ _ hA.2.1) rfl (ma_goodc kc_Book_wrongAt) (B.2.2.2.1 _ k_2154) (B.2.2.2.1 _ k_2156) (B.2.2.2.1 _ ks_86) (B.2.2.2.1 _ k_13) ⟨by decide +kernel, by decide +kernel, by decide +kernel⟩ rfl d_Book_next_280 rfl (Nat.le_of_ble_eq_true rfl) ⟨by decide, by decide⟩ ⟨by decide, by decide⟩ ⟨by decide, by decide⟩ (mv_noH hno _) (fun σ280 h280 => ?_)
      obtain ⟨g280, -⟩ := h280
      exact mv_athrowO (pc := 283) (o := 107) B rfl rfl (mv_noH hno _) d_Book_next_283 (Nat.le_refl _) (Nat.le_refl _) (Or.inr ⟨rfl, hA.1.tr g280⟩)
  have lp : ∀ (nn : Nat) (τ : mv_H) (a9 : Nat) (a1 : Nat) (c9 : Int32) (hA : Ta 74 len σ τ a9) (hst : (mv_i τ 74 5).toInt = a1) (ha1 : a0 ≤ a1) (ha2 : a1 ≤ a9) (hk4 : mv_i τ 74 4 = 1) (hp : a9 = a1 → lt9 (lkv τ len (mv_i τ 74 3)) = 1), len - a9 < nn → mv_V p l e ({ frames := 3, cells := 0, slots := 0, locals := 64 }) s m ([.ref (al 74)] : List Value).toArray below meth c (mg dA D al ext) 2 0 0 (mv_Q (mg dA D al ext) below s 0 0 (mv_Uv (fun σ1 => ∃ a1 a2, Tq 74 len σ σ1 a1 a2 ∧ a0 ≤ a1) ("MachineLoomModel$Book$Wrong", al 107) (fun σ1 => TkB 74 σ σ1))) τ 50 [(0, .ref (al 74)), (1, .int c9)] [] := by
    intro nn
    induction nn with
    | zero => intro τ a9 a1 c9 hA hst ha1 ha2 hk4 hp hm; exact absurd hm (Nat.not_lt_zero _)
    | succ nn ih =>
      intro τ a9 a1 c9 hA hst ha1 ha2 hk4 hp hm
      refine mv_aload_n (pc := 50) B d_Book_next_50 rfl 0 rfl ?_
      refine mv_aload_n (pc := 51) B d_Book_next_51 rfl 0 rfl ?_
      refine mv_getI (pc := 52) (ci := 12) (C := R_Book) (T := F_Book) (N := 65) B 3 rfl rfl (by decide) i_Book (B.2.2.2.1 _ k_1846) rfl d_Book_next_52 ?_
      refine mv_callVi (pc := 55) (n := 1) (ci := 12) (C := R_Book) B (mK_ok sk sv) hNs rfl rfl (c_Book_look_x l hi _ _ len hA.2.1 hA.2.2.1 hA.2.2.2.2.2 (by rw [hA.2.2.2.1]; omega)) rfl (ma_goodc kc_Book_look) (B.2.2.2.1 _ k_2122) (B.2.2.2.1 _ k_2124) (B.2.2.2.1 _ ks_82) (B.2.2.2.1 _ k_13) ⟨by decide +kernel, by decide +kernel, by decide +kernel⟩ rfl d_Book_next_55 rfl (Nat.le_of_ble_eq_true rfl) ⟨by decide, by decide⟩ ⟨by decide, by decide⟩ ⟨by decide, by decide⟩ (mv_noH hno _) (fun v55 σ55 h55 => ?_)
      obtain ⟨e55, w55, z55⟩ := h55
      have e55 := e55.symm
      subst e55
      refine mv_callSi (pc := 58) (n := 1) B (mK_ok sk sv) hNs (c_Book_letter l hi _ _) rfl (ma_goodc kc_Book_letter) (B.2.2.2.1 _ k_2126) (B.2.2.2.1 _ k_2127) (B.2.2.2.1 _ k_13) ⟨by decide +kernel, by decide +kernel, by decide +kernel⟩ rfl d_Book_next_58 rfl (Nat.le_of_ble_eq_true rfl) ⟨by decide, by decide⟩ ⟨by decide, by decide⟩ ⟨by decide, by decide⟩ (mv_noH hno _) (fun v58 σ58 h58 => ?_)
      obtain ⟨e58, w58, z58⟩ := h58
      have e58 := e58.symm
      subst e58
      refine mv_if_ne (pc := 61) (tgt := 78) B d_Book_next_61 rfl (fun h61 => ?_) (fun h61 => ?_)
      · skip
        have hlt : a9 < len := by
          have za := hA.2.2.2.1
          have zv : v55 = -1 → v55.toInt = -1 := fun z => by rw [z]; decide
          have zz := (z58.resolve_left h61).2.1
          rcases z55 with ⟨z, -⟩ | ⟨-, -, z⟩
          · have := zv z; omega
          · omega
        refine mv_aload_n (pc := 78) B d_Book_next_78 rfl 0 rfl ?_
        refine mv_dup (pc := 79) B d_Book_next_79 rfl ?_
        refine mv_getI (pc := 80) (ci := 12) (C := R_Book) (T := F_Book) (N := 65) B 3 rfl rfl (by decide) i_Book (B.2.2.2.1 _ k_1846) rfl d_Book_next_80 ?_
        refine mv_iconst (pc := 83) (v := 1) B d_Book_next_83 (by decide) ?_
        refine mv_iadd (pc := 84) B d_Book_next_84 ?_
        refine mv_putI (pc := 85) (ci := 12) (C := R_Book) (T := F_Book) (N := 65) B 3 rfl rfl (by decide) i_Book t_Book_ok n_Book (B.2.2.2.1 _ k_1846) rfl rfl rfl rfl d_Book_next_85 ?_
        refine mv_gen (fun S88 eS88 => ?_)
        have hA : Ta 74 len σ S88 (a9 + 1) := by rw [eS88]; exact hA.inc hlt
        have hst : (mv_i S88 74 5).toInt = a1 := by rw [eS88]; exact hst
        have hk4 : mv_i S88 74 4 = 1 := by rw [eS88]; exact hk4
        clear eS88
        refine mv_goto (pc := 88) (tgt := 50) B d_Book_next_88 rfl ?_
        refine mv_lpick [0, 1] rfl ?_
        exact ih _ _ _ _ hA hst ha1 (by omega) hk4 (fun z => absurd z (by omega)) (by omega)
      · skip
        refine mv_aload_n (pc := 64) B d_Book_next_64 rfl 0 rfl ?_
        refine mv_aload_n (pc := 65) B d_Book_next_65 rfl 0 rfl ?_
        refine mv_getI (pc := 66) (ci := 12) (C := R_Book) (T := F_Book) (N := 65) B 3 rfl rfl (by decide) i_Book (B.2.2.2.1 _ k_1846) rfl d_Book_next_66 ?_
        refine mv_callVi (pc := 69) (n := 1) (ci := 12) (C := R_Book) B (mK_ok sk sv) hNs rfl rfl (c_Book_look_x l hi _ _ len hA.2.1 hA.2.2.1 hA.2.2.2.2.2 (by rw [hA.2.2.2.1]; omega)) rfl (ma_goodc kc_Book_look) (B.2.2.2.1 _ k_2122) (B.2.2.2.1 _ k_2124) (B.2.2.2.1 _ ks_82) (B.2.2.2.1 _ k_13) ⟨by decide +kernel, by decide +kernel, by decide +kernel⟩ rfl d_Book_next_69 rfl (Nat.le_of_ble_eq_true rfl) ⟨by decide, by decide⟩ ⟨by decide, by decide⟩ ⟨by decide, by decide⟩ (mv_noH hno _) (fun v69 σ69 h69 => ?_)
        obtain ⟨e69, w69, z69⟩ := h69
        have e69 := e69.symm
        subst e69
        refine mv_callSi (pc := 72) (n := 1) B (mK_ok sk sv) hNs (c_Book_digit l hi _ _) rfl (ma_goodc kc_Book_digit) (B.2.2.2.1 _ k_2129) (B.2.2.2.1 _ k_2130) (B.2.2.2.1 _ k_13) ⟨by decide +kernel, by decide +kernel, by decide +kernel⟩ rfl d_Book_next_72 rfl (Nat.le_of_ble_eq_true rfl) ⟨by decide, by decide⟩ ⟨by decide, by decide⟩ ⟨by decide, by decide⟩ (mv_noH hno _) (fun v72 σ72 h72 => ?_)
        obtain ⟨e72, z72⟩ := h72
        have e72 := e72.symm
        subst e72
        refine mv_if_eq (pc := 75) (tgt := 91) B d_Book_next_75 rfl (fun h75 => ?_) (fun h75 => ?_)
        · skip
          have hne : a1 < a9 := by
            have z : ¬ a9 = a1 := fun z => by have q := hp z; rw [← w55, ← w58, h61] at q; exact absurd q (by decide)
            omega
          refine mv_aload_n (pc := 91) B d_Book_next_91 rfl 0 rfl ?_
          refine mv_getI (pc := 92) (ci := 12) (C := R_Book) (T := F_Book) (N := 65) B 3 rfl rfl (by decide) i_Book (B.2.2.2.1 _ k_1846) rfl d_Book_next_92 ?_
          refine mv_aload_n (pc := 95) B d_Book_next_95 rfl 0 rfl ?_
          refine mv_getI (pc := 96) (ci := 12) (C := R_Book) (T := F_Book) (N := 65) B 5 rfl rfl (by decide) i_Book (B.2.2.2.1 _ k_1848) rfl d_Book_next_96 ?_
          refine mv_isub (pc := 99) B d_Book_next_99 ?_
          refine mv_bipush (pc := 100) (v := 32) B d_Book_next_100 (by decide) ?_
          refine mv_icmp_le (pc := 102) (tgt := 260) B d_Book_next_102 rfl (fun h102 => ?_) (fun h102 => ?_)
          · skip
            refine mv_lpick [0] rfl ?_
            exact j260 _ a1 a9 (by first | exact hA | exact hA.si ⟨by decide, by decide⟩) hst ha1 ha2 (Or.inr ⟨Or.inr (Or.inr hne), fun z => absurd (hk4.symm.trans z) (by decide)⟩)
          · skip
            refine mv_aload_n (pc := 105) B d_Book_next_105 rfl 0 rfl ?_
            refine mv_aload_n (pc := 106) B d_Book_next_106 rfl 0 rfl ?_
            refine mv_getI (pc := 107) (ci := 12) (C := R_Book) (T := F_Book) (N := 65) B 5 rfl rfl (by decide) i_Book (B.2.2.2.1 _ k_1848) rfl d_Book_next_107 ?_
            refine mv_bipush (pc := 110) (v := 32) B d_Book_next_110 (by decide) ?_
            refine mv_iadd (pc := 112) B d_Book_next_112 ?_
            refine mv_putI (pc := 113) (ci := 12) (C := R_Book) (T := F_Book) (N := 65) B 7 rfl rfl (by decide) i_Book t_Book_ok n_Book (B.2.2.2.1 _ k_1850) rfl rfl rfl rfl d_Book_next_113 ?_
            refine mv_goto (pc := 116) (tgt := 260) B d_Book_next_116 rfl ?_
            refine mv_lpick [0] rfl ?_
            exact j260 _ a1 a9 (by first | exact hA | exact hA.si ⟨by decide, by decide⟩) hst ha1 ha2 (Or.inr ⟨Or.inr (Or.inr hne), fun z => absurd (hk4.symm.trans z) (by decide)⟩)
        · skip
          have hlt : a9 < len := by
            have za := hA.2.2.2.1
            have zv : v69 = -1 → v69.toInt = -1 := fun z => by rw [z]; decide
            have zz := (z72.resolve_left h75).2.1
            rcases z69 with ⟨z, -⟩ | ⟨-, -, z⟩
            · have := zv z; omega
            · omega
          refine mv_aload_n (pc := 78) B d_Book_next_78 rfl 0 rfl ?_
          refine mv_dup (pc := 79) B d_Book_next_79 rfl ?_
          refine mv_getI (pc := 80) (ci := 12) (C := R_Book) (T := F_Book) (N := 65) B 3 rfl rfl (by decide) i_Book (B.2.2.2.1 _ k_1846) rfl d_Book_next_80 ?_
          refine mv_iconst (pc := 83) (v := 1) B d_Book_next_83 (by decide) ?_
          refine mv_iadd (pc := 84) B d_Book_next_84 ?_
          refine mv_putI (pc := 85) (ci := 12) (C := R_Book) (T := F_Book) (N := 65) B 3 rfl rfl (by decide) i_Book t_Book_ok n_Book (B.2.2.2.1 _ k_1846) rfl rfl rfl rfl d_Book_next_85 ?_
          refine mv_gen (fun S88 eS88 => ?_)
          have hA : Ta 74 len σ S88 (a9 + 1) := by rw [eS88]; exact hA.inc hlt
          have hst : (mv_i S88 74 5).toInt = a1 := by rw [eS88]; exact hst
          have hk4 : mv_i S88 74 4 = 1 := by rw [eS88]; exact hk4
          clear eS88
          refine mv_goto (pc := 88) (tgt := 50) B d_Book_next_88 rfl ?_
          refine mv_lpick [0, 1] rfl ?_
          exact ih _ _ _ _ hA hst ha1 (by omega) hk4 (fun z => absurd z (by omega)) (by omega)
  refine mv_aload_n (pc := 0) B d_Book_next_0 rfl 0 rfl ?_
  refine mv_callVv (pc := 1) (n := 0) (ci := 12) (C := R_Book) B (mK_ok sk sv) hNs rfl rfl (c_Book_skip_x l hi _ len a0 hA) rfl (ma_goodc kc_Book_skip) (B.2.2.2.1 _ k_2118) (B.2.2.2.1 _ k_2120) (B.2.2.2.1 _ ks_81) (B.2.2.2.1 _ k_13) ⟨by decide +kernel, by decide +kernel, by decide +kernel⟩ rfl d_Book_next_1 rfl (Nat.le_of_ble_eq_true rfl) ⟨by decide, by decide⟩ ⟨by decide, by decide⟩ ⟨by decide, by decide⟩ (mv_noH hno _) (fun σ1 h1 => ?_)
  obtain ⟨a1, hA, ha⟩ := h1
  have hA9 := hA
  refine mv_aload_n (pc := 4) B d_Book_next_4 rfl 0 rfl ?_
  refine mv_aload_n (pc := 5) B d_Book_next_5 rfl 0 rfl ?_
  refine mv_getI (pc := 6) (ci := 12) (C := R_Book) (T := F_Book) (N := 65) B 3 rfl rfl (by decide) i_Book (B.2.2.2.1 _ k_1846) rfl d_Book_next_6 ?_
  refine mv_putI (pc := 9) (ci := 12) (C := R_Book) (T := F_Book) (N := 65) B 5 rfl rfl (by decide) i_Book t_Book_ok n_Book (B.2.2.2.1 _ k_1848) rfl rfl rfl rfl d_Book_next_9 ?_
  refine mv_aload_n (pc := 12) B d_Book_next_12 rfl 0 rfl ?_
  refine mv_iconst (pc := 13) (v := -1) B d_Book_next_13 (by decide) ?_
  refine mv_putI (pc := 14) (ci := 12) (C := R_Book) (T := F_Book) (N := 65) B 7 rfl rfl (by decide) i_Book t_Book_ok n_Book (B.2.2.2.1 _ k_1850) rfl rfl rfl rfl d_Book_next_14 ?_
  refine mv_gen (fun S17 eS17 => ?_)
  have hA : Ta 74 len σ S17 a1 := by rw [eS17]; exact (hA.si (k := 5) ⟨by decide, by decide⟩).si (k := 7) ⟨by decide, by decide⟩
  have hst : (mv_i S17 74 5).toInt = a1 := by rw [eS17]; exact hA9.2.2.2.1
  have hbr : mv_i S17 74 7 = -1 := by rw [eS17]; rfl
  clear eS17
  refine mv_aload_n (pc := 17) B d_Book_next_17 rfl 0 rfl ?_
  refine mv_aload_n (pc := 18) B d_Book_next_18 rfl 0 rfl ?_
  refine mv_getI (pc := 19) (ci := 12) (C := R_Book) (T := F_Book) (N := 65) B 3 rfl rfl (by decide) i_Book (B.2.2.2.1 _ k_1846) rfl d_Book_next_19 ?_
  refine mv_callVi (pc := 22) (n := 1) (ci := 12) (C := R_Book) B (mK_ok sk sv) hNs rfl rfl (c_Book_look_x l hi _ _ len hA.2.1 hA.2.2.1 hA.2.2.2.2.2 (by rw [hA.2.2.2.1]; omega)) rfl (ma_goodc kc_Book_look) (B.2.2.2.1 _ k_2122) (B.2.2.2.1 _ k_2124) (B.2.2.2.1 _ ks_82) (B.2.2.2.1 _ k_13) ⟨by decide +kernel, by decide +kernel, by decide +kernel⟩ rfl d_Book_next_22 rfl (Nat.le_of_ble_eq_true rfl) ⟨by decide, by decide⟩ ⟨by decide, by decide⟩ ⟨by decide, by decide⟩ (mv_noH hno _) (fun v22 σ22 h22 => ?_)
  obtain ⟨e22, w22, z22⟩ := h22
  have e22 := e22.symm
  subst e22
  refine mv_istore_n (pc := 25) B d_Book_next_25 rfl (by decide) rfl ?_
  refine mv_iload_n (pc := 26) B d_Book_next_26 rfl 0 rfl ?_
  refine mv_if_ge (pc := 27) (tgt := 38) B d_Book_next_27 rfl (fun h27 => ?_) (fun h27 => ?_)
  · skip
    have zv : v22 = -1 → v22.toInt = -1 := fun z => by rw [z]; decide
    have z0 : ¬ v22.toInt < 0 := fun z => absurd (Int32.le_iff_toInt_le.mp h27) (by show ¬ (0 : Int) ≤ v22.toInt; omega)
    have za := hA.2.2.2.1
    have hlt : a1 < len := by
      rcases z22 with ⟨z, -⟩ | ⟨-, -, z⟩
      · have := zv z; omega
      · omega
    have hl5 := hA.2.2.2.2
    refine mv_iload_n (pc := 38) B d_Book_next_38 rfl 0 rfl ?_
    refine mv_callSi (pc := 39) (n := 1) B (mK_ok sk sv) hNs (c_Book_letter l hi _ _) rfl (ma_goodc kc_Book_letter) (B.2.2.2.1 _ k_2126) (B.2.2.2.1 _ k_2127) (B.2.2.2.1 _ k_13) ⟨by decide +kernel, by decide +kernel, by decide +kernel⟩ rfl d_Book_next_39 rfl (Nat.le_of_ble_eq_true rfl) ⟨by decide, by decide⟩ ⟨by decide, by decide⟩ ⟨by decide, by decide⟩ (mv_noH hno _) (fun v39 σ39 h39 => ?_)
    obtain ⟨e39, w39, z39⟩ := h39
    have e39 := e39.symm
    subst e39
    refine mv_if_eq (pc := 42) (tgt := 119) B d_Book_next_42 rfl (fun h42 => ?_) (fun h42 => ?_)
    · skip
      refine mv_iload_n (pc := 119) B d_Book_next_119 rfl 0 rfl ?_
      refine mv_callSi (pc := 120) (n := 1) B (mK_ok sk sv) hNs (c_Book_digit l hi _ _) rfl (ma_goodc kc_Book_digit) (B.2.2.2.1 _ k_2129) (B.2.2.2.1 _ k_2130) (B.2.2.2.1 _ k_13) ⟨by decide +kernel, by decide +kernel, by decide +kernel⟩ rfl d_Book_next_120 rfl (Nat.le_of_ble_eq_true rfl) ⟨by decide, by decide⟩ ⟨by decide, by decide⟩ ⟨by decide, by decide⟩ (mv_noH hno _) (fun v120 σ120 h120 => ?_)
      obtain ⟨e120, z120⟩ := h120
      have e120 := e120.symm
      subst e120
      refine mv_if_eq (pc := 123) (tgt := 133) B d_Book_next_123 rfl (fun h123 => ?_) (fun h123 => ?_)
      · skip
        refine mv_iload_n (pc := 133) B d_Book_next_133 rfl 0 rfl ?_
        refine mv_bipush (pc := 134) (v := 34) B d_Book_next_134 (by decide) ?_
        refine mv_icmp_ne (pc := 136) (tgt := 146) B d_Book_next_136 rfl (fun h136 => ?_) (fun h136 => ?_)
        · skip
          refine mv_aload_n (pc := 146) B d_Book_next_146 rfl 1 rfl ?_
          refine mv_iload_n (pc := 147) B d_Book_next_147 rfl 0 rfl ?_
          refine mv_aload_n (pc := 148) B d_Book_next_148 rfl 1 rfl ?_
          refine mv_aload_n (pc := 149) B d_Book_next_149 rfl 1 rfl ?_
          refine mv_getI (pc := 150) (ci := 12) (C := R_Book) (T := F_Book) (N := 65) B 3 rfl rfl (by decide) i_Book (B.2.2.2.1 _ k_1846) rfl d_Book_next_150 ?_
          refine mv_iconst (pc := 153) (v := 1) B d_Book_next_153 (by decide) ?_
          refine mv_iadd (pc := 154) B d_Book_next_154 ?_
          refine mv_callVi (pc := 155) (n := 1) (ci := 12) (C := R_Book) B (mK_ok sk sv) hNs rfl rfl (c_Book_look_x l hi _ _ len hA.2.1 hA.2.2.1 hA.2.2.2.2.2 (by rw [i32_p1 hA.2.2.2.1 (by have := hA.2.2.2.2; omega)]; omega)) rfl (ma_goodc kc_Book_look) (B.2.2.2.1 _ k_2122) (B.2.2.2.1 _ k_2124) (B.2.2.2.1 _ ks_82) (B.2.2.2.1 _ k_13) ⟨by decide +kernel, by decide +kernel, by decide +kernel⟩ rfl d_Book_next_155 rfl (Nat.le_of_ble_eq_true rfl) ⟨by decide, by decide⟩ ⟨by decide, by decide⟩ ⟨by decide, by decide⟩ (mv_noH hno _) (fun v155 σ155 h155 => ?_)
          obtain ⟨e155, w155, z155⟩ := h155
          have e155 := e155.symm
          subst e155
          refine mv_callVi (pc := 158) (n := 2) (ci := 12) (C := R_Book) B (mK_ok sk sv) hNs rfl rfl (c_Book_pair_x l hi _ _ _) rfl (ma_goodc kc_Book_pair) (B.2.2.2.1 _ k_2147) (B.2.2.2.1 _ k_2149) (B.2.2.2.1 _ ks_85) (B.2.2.2.1 _ k_13) ⟨by decide +kernel, by decide +kernel, by decide +kernel⟩ rfl d_Book_next_158 rfl (Nat.le_of_ble_eq_true rfl) ⟨by decide, by decide⟩ ⟨by decide, by decide⟩ ⟨by decide, by decide⟩ (mv_noH hno _) (fun v158 σ158 h158 => ?_)
          obtain ⟨e158, z158⟩ := h158
          have e158 := e158.symm
          subst e158
          refine mv_if_le (pc := 161) (tgt := 196) B d_Book_next_161 rfl (fun h161 => ?_) (fun h161 => ?_)
          · skip
            refine mv_iload_n (pc := 196) B d_Book_next_196 rfl 0 rfl ?_
            refine mv_bipush (pc := 197) (v := 62) B d_Book_next_197 (by decide) ?_
            refine mv_icmp_ne (pc := 199) (tgt := 230) B d_Book_next_199 rfl (fun h199 => ?_) (fun h199 => ?_)
            · skip
              refine mv_iload_n (pc := 230) B d_Book_next_230 rfl 0 rfl ?_
              refine mv_callSi (pc := 231) (n := 1) B (mK_ok sk sv) hNs (c_Book_sign l hi _ _) rfl (ma_goodc kc_Book_sign) (B.2.2.2.1 _ k_2151) (B.2.2.2.1 _ k_2152) (B.2.2.2.1 _ k_13) ⟨by decide +kernel, by decide +kernel, by decide +kernel⟩ rfl d_Book_next_231 rfl (Nat.le_of_ble_eq_true rfl) ⟨by decide, by decide⟩ ⟨by decide, by decide⟩ ⟨by decide, by decide⟩ (mv_noH hno _) (fun v231 σ231 h231 => ?_)
              obtain ⟨e231, z231⟩ := h231
              have e231 := e231.symm
              subst e231
              refine mv_if_eq (pc := 234) (tgt := 255) B d_Book_next_234 rfl (fun h234 => ?_) (fun h234 => ?_)
              · skip
                refine mv_aload_n (pc := 255) B d_Book_next_255 rfl 1 rfl ?_
                refine mv_iconst (pc := 256) (v := -1) B d_Book_next_256 (by decide) ?_
                refine mv_putI (pc := 257) (ci := 12) (C := R_Book) (T := F_Book) (N := 65) B 4 rfl rfl (by decide) i_Book t_Book_ok n_Book (B.2.2.2.1 _ k_1847) rfl rfl rfl rfl d_Book_next_257 ?_
                refine mv_lpick [1] rfl ?_
                exact j260 _ a1 a1 (hA.si (k := 4) ⟨by decide, by decide⟩) hst ha (by omega) (Or.inr ⟨Or.inr (Or.inl rfl), fun z => absurd z (by show ¬ (-1 : Int32) = 3; decide)⟩)
              · skip
                refine mv_aload_n (pc := 237) B d_Book_next_237 rfl 1 rfl ?_
                refine mv_iload_n (pc := 238) B d_Book_next_238 rfl 0 rfl ?_
                refine mv_putI (pc := 239) (ci := 12) (C := R_Book) (T := F_Book) (N := 65) B 4 rfl rfl (by decide) i_Book t_Book_ok n_Book (B.2.2.2.1 _ k_1847) rfl rfl rfl rfl d_Book_next_239 ?_
                refine mv_aload_n (pc := 242) B d_Book_next_242 rfl 1 rfl ?_
                refine mv_dup (pc := 243) B d_Book_next_243 rfl ?_
                refine mv_getI (pc := 244) (ci := 12) (C := R_Book) (T := F_Book) (N := 65) B 3 rfl rfl (by decide) i_Book (B.2.2.2.1 _ k_1846) rfl d_Book_next_244 ?_
                refine mv_iconst (pc := 247) (v := 1) B d_Book_next_247 (by decide) ?_
                refine mv_iadd (pc := 248) B d_Book_next_248 ?_
                refine mv_putI (pc := 249) (ci := 12) (C := R_Book) (T := F_Book) (N := 65) B 3 rfl rfl (by decide) i_Book t_Book_ok n_Book (B.2.2.2.1 _ k_1846) rfl rfl rfl rfl d_Book_next_249 ?_
                refine mv_goto (pc := 252) (tgt := 260) B d_Book_next_252 rfl ?_
                refine mv_lpick [1] rfl ?_
                exact j260 _ a1 (a1 + 1) ((hA.si (k := 4) ⟨by decide, by decide⟩).inc hlt) hst ha (by omega) (Or.inr ⟨Or.inr (Or.inr (by omega)), fun z => by have q := (z231.resolve_left h234).2.1; have z : v22 = 3 := z; rw [z] at q; exact absurd q (by decide)⟩)
            · skip
              refine mv_aload_n (pc := 202) B d_Book_next_202 rfl 1 rfl ?_
              refine mv_sipush (pc := 203) (v := 260) B d_Book_next_203 (by decide) ?_
              refine mv_putI (pc := 206) (ci := 12) (C := R_Book) (T := F_Book) (N := 65) B 4 rfl rfl (by decide) i_Book t_Book_ok n_Book (B.2.2.2.1 _ k_1847) rfl rfl rfl rfl d_Book_next_206 ?_
              refine mv_aload_n (pc := 209) B d_Book_next_209 rfl 1 rfl ?_
              refine mv_dup (pc := 210) B d_Book_next_210 rfl ?_
              refine mv_getI (pc := 211) (ci := 12) (C := R_Book) (T := F_Book) (N := 65) B 3 rfl rfl (by decide) i_Book (B.2.2.2.1 _ k_1846) rfl d_Book_next_211 ?_
              refine mv_iconst (pc := 214) (v := 1) B d_Book_next_214 (by decide) ?_
              refine mv_iadd (pc := 215) B d_Book_next_215 ?_
              refine mv_putI (pc := 216) (ci := 12) (C := R_Book) (T := F_Book) (N := 65) B 3 rfl rfl (by decide) i_Book t_Book_ok n_Book (B.2.2.2.1 _ k_1846) rfl rfl rfl rfl d_Book_next_216 ?_
              refine mv_aload_n (pc := 219) B d_Book_next_219 rfl 1 rfl ?_
              refine mv_aload_n (pc := 220) B d_Book_next_220 rfl 1 rfl ?_
              refine mv_getI (pc := 221) (ci := 12) (C := R_Book) (T := F_Book) (N := 65) B 3 rfl rfl (by decide) i_Book (B.2.2.2.1 _ k_1846) rfl d_Book_next_221 ?_
              refine mv_putI (pc := 224) (ci := 12) (C := R_Book) (T := F_Book) (N := 65) B 7 rfl rfl (by decide) i_Book t_Book_ok n_Book (B.2.2.2.1 _ k_1850) rfl rfl rfl rfl d_Book_next_224 ?_
              refine mv_goto (pc := 227) (tgt := 260) B d_Book_next_227 rfl ?_
              refine mv_lpick [1] rfl ?_
              exact j260 _ a1 (a1 + 1) (((hA.si (k := 4) ⟨by decide, by decide⟩).inc hlt).si (k := 7) ⟨by decide, by decide⟩) hst ha (by omega) (Or.inl (by show 0 ≤ (mv_i S17 74 3 + 1).toInt; rw [i32_p1 za (by omega)]; omega))
          · skip
            refine mv_aload_n (pc := 164) B d_Book_next_164 rfl 1 rfl ?_
            refine mv_aload_n (pc := 165) B d_Book_next_165 rfl 1 rfl ?_
            refine mv_iload_n (pc := 166) B d_Book_next_166 rfl 0 rfl ?_
            refine mv_aload_n (pc := 167) B d_Book_next_167 rfl 1 rfl ?_
            refine mv_aload_n (pc := 168) B d_Book_next_168 rfl 1 rfl ?_
            refine mv_getI (pc := 169) (ci := 12) (C := R_Book) (T := F_Book) (N := 65) B 3 rfl rfl (by decide) i_Book (B.2.2.2.1 _ k_1846) rfl d_Book_next_169 ?_
            refine mv_iconst (pc := 172) (v := 1) B d_Book_next_172 (by decide) ?_
            refine mv_iadd (pc := 173) B d_Book_next_173 ?_
            refine mv_callVi (pc := 174) (n := 1) (ci := 12) (C := R_Book) B (mK_ok sk sv) hNs rfl rfl (c_Book_look_x l hi _ _ len hA.2.1 hA.2.2.1 hA.2.2.2.2.2 (by rw [i32_p1 hA.2.2.2.1 (by have := hA.2.2.2.2; omega)]; omega)) rfl (ma_goodc kc_Book_look) (B.2.2.2.1 _ k_2122) (B.2.2.2.1 _ k_2124) (B.2.2.2.1 _ ks_82) (B.2.2.2.1 _ k_13) ⟨by decide +kernel, by decide +kernel, by decide +kernel⟩ rfl d_Book_next_174 rfl (Nat.le_of_ble_eq_true rfl) ⟨by decide, by decide⟩ ⟨by decide, by decide⟩ ⟨by decide, by decide⟩ (mv_noH hno _) (fun v174 σ174 h174 => ?_)
            obtain ⟨e174, w174, z174⟩ := h174
            have e174 := e174.symm
            subst e174
            refine mv_callVi (pc := 177) (n := 2) (ci := 12) (C := R_Book) B (mK_ok sk sv) hNs rfl rfl (c_Book_pair_x l hi _ _ _) rfl (ma_goodc kc_Book_pair) (B.2.2.2.1 _ k_2147) (B.2.2.2.1 _ k_2149) (B.2.2.2.1 _ ks_85) (B.2.2.2.1 _ k_13) ⟨by decide +kernel, by decide +kernel, by decide +kernel⟩ rfl d_Book_next_177 rfl (Nat.le_of_ble_eq_true rfl) ⟨by decide, by decide⟩ ⟨by decide, by decide⟩ ⟨by decide, by decide⟩ (mv_noH hno _) (fun v177 σ177 h177 => ?_)
            obtain ⟨e177, z177⟩ := h177
            have e177 := e177.symm
            subst e177
            refine mv_putI (pc := 180) (ci := 12) (C := R_Book) (T := F_Book) (N := 65) B 4 rfl rfl (by decide) i_Book t_Book_ok n_Book (B.2.2.2.1 _ k_1847) rfl rfl rfl rfl d_Book_next_180 ?_
            refine mv_aload_n (pc := 183) B d_Book_next_183 rfl 1 rfl ?_
            refine mv_dup (pc := 184) B d_Book_next_184 rfl ?_
            refine mv_getI (pc := 185) (ci := 12) (C := R_Book) (T := F_Book) (N := 65) B 3 rfl rfl (by decide) i_Book (B.2.2.2.1 _ k_1846) rfl d_Book_next_185 ?_
            refine mv_iconst (pc := 188) (v := 2) B d_Book_next_188 (by decide) ?_
            refine mv_iadd (pc := 189) B d_Book_next_189 ?_
            refine mv_putI (pc := 190) (ci := 12) (C := R_Book) (T := F_Book) (N := 65) B 3 rfl rfl (by decide) i_Book t_Book_ok n_Book (B.2.2.2.1 _ k_1846) rfl rfl rfl rfl d_Book_next_190 ?_
            refine mv_goto (pc := 193) (tgt := 260) B d_Book_next_193 rfl ?_
            refine mv_lpick [1] rfl ?_
            have zb := i32_p1 za (by omega)
            have hlt2 : a1 + 2 ≤ len := by
              have zw : v155 = -1 → v155.toInt = -1 := fun z => by rw [z]; decide
              have zz := (z158.resolve_left (fun z => by rw [z] at h161; exact absurd h161 (by decide))).2.2.2
              rcases z155 with ⟨z, -⟩ | ⟨-, -, z⟩
              · have := zw z; omega
              · omega
            exact j260 _ a1 (a1 + 2) ((hA.si (k := 4) ⟨by decide, by decide⟩).add (i32_p2 za (by omega)) hlt2) hst ha (by omega) (Or.inr ⟨Or.inr (Or.inr (by omega)), fun _ => Nat.le_refl _⟩)
        · skip
          refine mv_aload_n (pc := 139) B d_Book_next_139 rfl 1 rfl ?_
          refine mv_callVv (pc := 140) (n := 0) (ci := 12) (C := R_Book) B (mK_ok sk sv) hNs rfl rfl (c_Book_readCode_x l hi _ len a1 hA.re hlt) rfl (ma_goodc kc_Book_readCode) (B.2.2.2.1 _ k_2143) (B.2.2.2.1 _ k_2145) (B.2.2.2.1 _ ks_84) (B.2.2.2.1 _ k_13) ⟨by decide +kernel, by decide +kernel, by decide +kernel⟩ rfl d_Book_next_140 rfl (Nat.le_of_ble_eq_true rfl) ⟨by decide, by decide⟩ ⟨by decide, by decide⟩ ⟨by decide, by decide⟩ (mv_noH hno _) (fun σ140 h140 => ?_)
          obtain ⟨a2, h2, hk2, hs2, ha2, hb2⟩ := h140
          have hA := hA.tr h2
          have hst := (congrArg Int32.toInt hs2).trans hst
          refine mv_goto (pc := 143) (tgt := 260) B d_Book_next_143 rfl ?_
          refine mv_lpick [1] rfl ?_
          exact j260 _ a1 a2 hA hst ha (by omega) (hb2.elim Or.inl (fun z => Or.inr ⟨Or.inr (Or.inr (by omega)), fun q => z.2⟩))
      · skip
        refine mv_aload_n (pc := 126) B d_Book_next_126 rfl 1 rfl ?_
        refine mv_callVv (pc := 127) (n := 0) (ci := 12) (C := R_Book) B (mK_ok sk sv) hNs rfl rfl (c_Book_readNumber_x l hi _ len a1 hA.re) rfl (ma_goodc kc_Book_readNumber) (B.2.2.2.1 _ k_2132) (B.2.2.2.1 _ k_2134) (B.2.2.2.1 _ ks_83) (B.2.2.2.1 _ k_13) ⟨by decide +kernel, by decide +kernel, by decide +kernel⟩ rfl d_Book_next_127 rfl (Nat.le_of_ble_eq_true rfl) ⟨by decide, by decide⟩ ⟨by decide, by decide⟩ ⟨by decide, by decide⟩ (mv_noH hno _) (fun σ127 h127 => ?_)
        obtain ⟨a2, h2, hk2, hs2, ha2, hb2⟩ := h127
        have hA := hA.tr h2
        have hst := (congrArg Int32.toInt hs2).trans hst
        refine mv_goto (pc := 130) (tgt := 260) B d_Book_next_130 rfl ?_
        refine mv_lpick [1] rfl ?_
        exact j260 _ a1 a2 hA hst ha (by omega) (hb2.elim Or.inl (fun z => Or.inr ⟨Or.inr (Or.inr z.2), fun q => absurd (hk2.symm.trans q) (by decide)⟩))
    · skip
      refine mv_aload_n (pc := 45) B d_Book_next_45 rfl 1 rfl ?_
      refine mv_iconst (pc := 46) (v := 1) B d_Book_next_46 (by decide) ?_
      refine mv_putI (pc := 47) (ci := 12) (C := R_Book) (T := F_Book) (N := 65) B 4 rfl rfl (by decide) i_Book t_Book_ok n_Book (B.2.2.2.1 _ k_1847) rfl rfl rfl rfl d_Book_next_47 ?_
      refine mv_lpick [1, 0] rfl ?_
      refine mv_gen (fun S50 eS50 => ?_)
      have hA : Ta 74 len σ S50 a1 := by rw [eS50]; exact hA.si ⟨by decide, by decide⟩
      have hst : (mv_i S50 74 5).toInt = a1 := by rw [eS50]; exact hst
      have hk4 : mv_i S50 74 4 = 1 := by rw [eS50]; rfl
      have hp : lt9 (lkv S50 len (mv_i S50 74 3)) = 1 := by rw [eS50]; show lt9 (lkv S17 len (mv_i S17 74 3)) = 1; rw [← w22, ← w39]; exact (z39.resolve_left h42).1
      clear eS50
      exact lp _ _ a1 a1 _ hA hst ha (Nat.le_refl _) hk4 (fun _ => hp) (Nat.lt_succ_self _)
  · skip
    refine mv_aload_n (pc := 30) B d_Book_next_30 rfl 1 rfl ?_
    refine mv_iconst (pc := 31) (v := 0) B d_Book_next_31 (by decide) ?_
    refine mv_putI (pc := 32) (ci := 12) (C := R_Book) (T := F_Book) (N := 65) B 4 rfl rfl (by decide) i_Book t_Book_ok n_Book (B.2.2.2.1 _ k_1847) rfl rfl rfl rfl d_Book_next_32 ?_
    refine mv_goto (pc := 35) (tgt := 260) B d_Book_next_35 rfl ?_
    refine mv_lpick [1] rfl ?_
    exact j260 _ a1 a1 (hA.si (k := 4) ⟨by decide, by decide⟩) hst ha (by omega) (Or.inr ⟨Or.inl rfl, fun z => absurd z (by show ¬ (0 : Int32) = 3; decide)⟩)
set_option maxHeartbeats 4000000 in
set_option maxRecDepth 100000 in
theorem c_Book_next_y (l : Launch) {dA : FieldType → ClassId} {D : va_G} {al : Nat → Nat} {ext : mv_Sh} {sk sv : Nat → Nat} (hi : mv_inj (mg dA D al ext)) (σ : mv_H) (len a0 : Nat) (hA : Ta 108 len σ σ a0) : mv_C l y_Book_next (Cond.code y_Book_next b_Book_next 2 (Option.none : Option Jvm.ClassFile.FieldType) :: ma) ({ frames := 3, cells := 0, slots := 0, locals := 64 }) (mg dA D al ext) (mK sk sv) [.ref (al 108)] σ (mv_Uv (fun σ1 => ∃ a1 a2, Tq 108 len σ σ1 a1 a2 ∧ a0 ≤ a1) ("MachineLoomModel$Book$Wrong", al 141) (fun σ1 => TkB 108 σ σ1)) := by
  refine mv_C.ofV (cc := b_Book_next) (nL := 2) (ret := (Option.none : Option Jvm.ClassFile.FieldType)) (by decide +kernel) rfl hi (Nat.le_of_ble_eq_true rfl) ?_
  intro p e s m below meth c B hNs hr hnm hno
  have hR := hA.2.1
  have j260 : ∀ (τ : mv_H) (a1 : Nat) (a2 : Nat) (hA : Ta 108 len σ τ a2) (hst : (mv_i τ 108 5).toInt = a1) (ha1 : a0 ≤ a1) (ha2 : a1 ≤ a2) (hk : 0 ≤ (mv_i τ 108 7).toInt ∨ ((mv_i τ 108 4 = 0 ∨ mv_i τ 108 4 = -1 ∨ a1 < a2) ∧ (mv_i τ 108 4 = 3 → a1 + 2 ≤ a2))), mv_V p l e ({ frames := 3, cells := 0, slots := 0, locals := 64 }) s m ([.ref (al 108)] : List Value).toArray below meth c (mg dA D al ext) 2 0 0 (mv_Q (mg dA D al ext) below s 0 0 (mv_Uv (fun σ1 => ∃ a1 a2, Tq 108 len σ σ1 a1 a2 ∧ a0 ≤ a1) ("MachineLoomModel$Book$Wrong", al 141) (fun σ1 => TkB 108 σ σ1))) τ 260 [(0, .ref (al 108))] [] := by
    intro τ a1 a2 hA hst ha1 ha2 hk
    refine mv_aload_n (pc := 260) B d_Book_next_260 rfl 0 rfl ?_
    refine mv_aload_n (pc := 261) B d_Book_next_261 rfl 0 rfl ?_
    refine mv_getI (pc := 262) (ci := 12) (C := R_Book) (T := F_Book) (N := 65) B 3 rfl rfl (by decide) i_Book (B.2.2.2.1 _ k_1846) rfl d_Book_next_262 ?_
    refine mv_putI (pc := 265) (ci := 12) (C := R_Book) (T := F_Book) (N := 65) B 6 rfl rfl (by decide) i_Book t_Book_ok n_Book (B.2.2.2.1 _ k_1849) rfl rfl rfl rfl d_Book_next_265 ?_
    refine mv_gen (fun S268 eS268 => ?_)
    have hA : Ta 108 len σ S268 a2 := by rw [eS268]; exact hA.si ⟨by decide, by decide⟩
    have hst : (mv_i S268 108 5).toInt = a1 := by rw [eS268]; exact hst
    have hsp : mv_i S268 108 6 = mv_i S268 108 3 := by rw [eS268]; rfl
    have hk : 0 ≤ (mv_i S268 108 7).toInt ∨ ((mv_i S268 108 4 = 0 ∨ mv_i S268 108 4 = -1 ∨ a1 < a2) ∧ (mv_i S268 108 4 = 3 → a1 + 2 ≤ a2)) := by rw [eS268]; exact hk
    clear eS268
    refine mv_aload_n (pc := 268) B d_Book_next_268 rfl 0 rfl ?_
    refine mv_getI (pc := 269) (ci := 12) (C := R_Book) (T := F_Book) (N := 65) B 7 rfl rfl (by decide) i_Book (B.2.2.2.1 _ k_1850) rfl d_Book_next_269 ?_
    refine mv_if_lt (pc := 272) (tgt := 284) B d_Book_next_272 rfl (fun h272 => ?_) (fun h272 => ?_)
    · skip
      have hk := hk.resolve_left (fun z => by have z2 : (mv_i S268 108 7).toInt < 0 := Int32.lt_iff_toInt_lt.mp h272; omega)
      exact mv_vret (pc := 284) B hr d_Book_next_284 (Nat.le_refl _) (Nat.le_refl _) (Or.inl ⟨rfl, a1, a2, ⟨hA, hst, ha2, hsp, hk.1, hk.2⟩, ha1⟩)
    · skip
      refine mv_aload_n (pc := 275) B d_Book_next_275 rfl 0 rfl ?_
      refine mv_aload_n (pc := 276) B d_Book_next_276 rfl 0 rfl ?_
      refine mv_getI (pc := 277) (ci := 12) (C := R_Book) (T := F_Book) (N := 65) B 7 rfl rfl (by decide) i_Book (B.2.2.2.1 _ k_1850) rfl d_Book_next_277 ?_
      refine mv_callVr (pc := 280) (n := 1) (ci := 12) (C := R_Book) B (mK_ok sk sv) hNs rfl rfl (c_Book_wrongAt_y l hi _ _ hA.2.1) rfl (ma_goodc kc_Book_wrongAt) (B.2.2.2.1 _ k_2154) (B.2.2.2.1 _ k_2156) (B.2.2.2.1 _ ks_86) (B.2.2.2.1 _ k_13) ⟨by decide +kernel, by decide +kernel, by decide +kernel⟩ rfl d_Book_next_280 rfl (Nat.le_of_ble_eq_true rfl) ⟨by decide, by decide⟩ ⟨by decide, by decide⟩ ⟨by decide, by decide⟩ (mv_noH hno _) (fun σ280 h280 => ?_)
      obtain ⟨g280, -⟩ := h280
      exact mv_athrowO (pc := 283) (o := 141) B rfl rfl (mv_noH hno _) d_Book_next_283 (Nat.le_refl _) (Nat.le_refl _) (Or.inr ⟨rfl, hA.1.tr g280⟩)
  have lp : ∀ (nn : Nat) (τ : mv_H) (a9 : Nat) (a1 : Nat) (c9 : Int32) (hA : Ta 108 len σ τ a9) (hst : (mv_i τ 108 5).toInt = a1) (ha1 : a0 ≤ a1) (ha2 : a1 ≤ a9) (hk4 : mv_i τ 108 4 = 1) (hp : a9 = a1 → lt9 (lkv τ len (mv_i τ 108 3)) = 1), len - a9 < nn → mv_V p l e ({ frames := 3, cells := 0, slots := 0, locals := 64 }) s m ([.ref (al 108)] : List Value).toArray below meth c (mg dA D al ext) 2 0 0 (mv_Q (mg dA D al ext) below s 0 0 (mv_Uv (fun σ1 => ∃ a1 a2, Tq 108 len σ σ1 a1 a2 ∧ a0 ≤ a1) ("MachineLoomModel$Book$Wrong", al 141) (fun σ1 => TkB 108 σ σ1))) τ 50 [(0, .ref (al 108)), (1, .int c9)] [] := by
    intro nn
    induction nn with
    | zero => intro τ a9 a1 c9 hA hst ha1 ha2 hk4 hp hm; exact absurd hm (Nat.not_lt_zero _)
    | succ nn ih =>
      intro τ a9 a1 c9 hA hst ha1 ha2 hk4 hp hm
      refine mv_aload_n (pc := 50) B d_Book_next_50 rfl 0 rfl ?_
      refine mv_aload_n (pc := 51) B d_Book_next_51 rfl 0 rfl ?_
      refine mv_getI (pc := 52) (ci := 12) (C := R_Book) (T := F_Book) (N := 65) B 3 rfl rfl (by decide) i_Book (B.2.2.2.1 _ k_1846) rfl d_Book_next_52 ?_
      refine mv_callVi (pc := 55) (n := 1) (ci := 12) (C := R_Book) B (mK_ok sk sv) hNs rfl rfl (c_Book_look_y l hi _ _ len hA.2.1 hA.2.2.1 hA.2.2.2.2.2 (by rw [hA.2.2.2.1]; omega)) rfl (ma_goodc kc_Book_look) (B.2.2.2.1 _ k_2122) (B.2.2.2.1 _ k_2124) (B.2.2.2.1 _ ks_82) (B.2.2.2.1 _ k_13) ⟨by decide +kernel, by decide +kernel, by decide +kernel⟩ rfl d_Book_next_55 rfl (Nat.le_of_ble_eq_true rfl) ⟨by decide, by decide⟩ ⟨by decide, by decide⟩ ⟨by decide, by decide⟩ (mv_noH hno _) (fun v55 σ55 h55 => ?_)
      obtain ⟨e55, w55, z55⟩ := h55
      have e55 := e55.symm
      subst e55
      refine mv_callSi (pc := 58) (n := 1) B (mK_ok sk sv) hNs (c_Book_letter l hi _ _) rfl (ma_goodc kc_Book_letter) (B.2.2.2.1 _ k_2126) (B.2.2.2.1 _ k_2127) (B.2.2.2.1 _ k_13) ⟨by decide +kernel, by decide +kernel, by decide +kernel⟩ rfl d_Book_next_58 rfl (Nat.le_of_ble_eq_true rfl) ⟨by decide, by decide⟩ ⟨by decide, by decide⟩ ⟨by decide, by decide⟩ (mv_noH hno _) (fun v58 σ58 h58 => ?_)
      obtain ⟨e58, w58, z58⟩ := h58
      have e58 := e58.symm
      subst e58
      refine mv_if_ne (pc := 61) (tgt := 78) B d_Book_next_61 rfl (fun h61 => ?_) (fun h61 => ?_)
      · skip
        have hlt : a9 < len := by
          have za := hA.2.2.2.1
          have zv : v55 = -1 → v55.toInt = -1 := fun z => by rw [z]; decide
          have zz := (z58.resolve_left h61).2.1
          rcases z55 with ⟨z, -⟩ | ⟨-, -, z⟩
          · have := zv z; omega
          · omega
        refine mv_aload_n (pc := 78) B d_Book_next_78 rfl 0 rfl ?_
        refine mv_dup (pc := 79) B d_Book_next_79 rfl ?_
        refine mv_getI (pc := 80) (ci := 12) (C := R_Book) (T := F_Book) (N := 65) B 3 rfl rfl (by decide) i_Book (B.2.2.2.1 _ k_1846) rfl d_Book_next_80 ?_
        refine mv_iconst (pc := 83) (v := 1) B d_Book_next_83 (by decide) ?_
        refine mv_iadd (pc := 84) B d_Book_next_84 ?_
        refine mv_putI (pc := 85) (ci := 12) (C := R_Book) (T := F_Book) (N := 65) B 3 rfl rfl (by decide) i_Book t_Book_ok n_Book (B.2.2.2.1 _ k_1846) rfl rfl rfl rfl d_Book_next_85 ?_
        refine mv_gen (fun S88 eS88 => ?_)
        have hA : Ta 108 len σ S88 (a9 + 1) := by rw [eS88]; exact hA.inc hlt
        have hst : (mv_i S88 108 5).toInt = a1 := by rw [eS88]; exact hst
        have hk4 : mv_i S88 108 4 = 1 := by rw [eS88]; exact hk4
        clear eS88
        refine mv_goto (pc := 88) (tgt := 50) B d_Book_next_88 rfl ?_
        refine mv_lpick [0, 1] rfl ?_
        exact ih _ _ _ _ hA hst ha1 (by omega) hk4 (fun z => absurd z (by omega)) (by omega)
      · skip
        refine mv_aload_n (pc := 64) B d_Book_next_64 rfl 0 rfl ?_
        refine mv_aload_n (pc := 65) B d_Book_next_65 rfl 0 rfl ?_
        refine mv_getI (pc := 66) (ci := 12) (C := R_Book) (T := F_Book) (N := 65) B 3 rfl rfl (by decide) i_Book (B.2.2.2.1 _ k_1846) rfl d_Book_next_66 ?_
        refine mv_callVi (pc := 69) (n := 1) (ci := 12) (C := R_Book) B (mK_ok sk sv) hNs rfl rfl (c_Book_look_y l hi _ _ len hA.2.1 hA.2.2.1 hA.2.2.2.2.2 (by rw [hA.2.2.2.1]; omega)) rfl (ma_goodc kc_Book_look) (B.2.2.2.1 _ k_2122) (B.2.2.2.1 _ k_2124) (B.2.2.2.1 _ ks_82) (B.2.2.2.1 _ k_13) ⟨by decide +kernel, by decide +kernel, by decide +kernel⟩ rfl d_Book_next_69 rfl (Nat.le_of_ble_eq_true rfl) ⟨by decide, by decide⟩ ⟨by decide, by decide⟩ ⟨by decide, by decide⟩ (mv_noH hno _) (fun v69 σ69 h69 => ?_)
        obtain ⟨e69, w69, z69⟩ := h69
        have e69 := e69.symm
        subst e69
        refine mv_callSi (pc := 72) (n := 1) B (mK_ok sk sv) hNs (c_Book_digit l hi _ _) rfl (ma_goodc kc_Book_digit) (B.2.2.2.1 _ k_2129) (B.2.2.2.1 _ k_2130) (B.2.2.2.1 _ k_13) ⟨by decide +kernel, by decide +kernel, by decide +kernel⟩ rfl d_Book_next_72 rfl (Nat.le_of_ble_eq_true rfl) ⟨by decide, by decide⟩ ⟨by decide, by decide⟩ ⟨by decide, by decide⟩ (mv_noH hno _) (fun v72 σ72 h72 => ?_)
        obtain ⟨e72, z72⟩ := h72
        have e72 := e72.symm
        subst e72
        refine mv_if_eq (pc := 75) (tgt := 91) B d_Book_next_75 rfl (fun h75 => ?_) (fun h75 => ?_)
        · skip
          have hne : a1 < a9 := by
            have z : ¬ a9 = a1 := fun z => by have q := hp z; rw [← w55, ← w58, h61] at q; exact absurd q (by decide)
            omega
          refine mv_aload_n (pc := 91) B d_Book_next_91 rfl 0 rfl ?_
          refine mv_getI (pc := 92) (ci := 12) (C := R_Book) (T := F_Book) (N := 65) B 3 rfl rfl (by decide) i_Book (B.2.2.2.1 _ k_1846) rfl d_Book_next_92 ?_
          refine mv_aload_n (pc := 95) B d_Book_next_95 rfl 0 rfl ?_
          refine mv_getI (pc := 96) (ci := 12) (C := R_Book) (T := F_Book) (N := 65) B 5 rfl rfl (by decide) i_Book (B.2.2.2.1 _ k_1848) rfl d_Book_next_96 ?_
          refine mv_isub (pc := 99) B d_Book_next_99 ?_
          refine mv_bipush (pc := 100) (v := 32) B d_Book_next_100 (by decide) ?_
          refine mv_icmp_le (pc := 102) (tgt := 260) B d_Book_next_102 rfl (fun h102 => ?_) (fun h102 => ?_)
          · skip
            refine mv_lpick [0] rfl ?_
            exact j260 _ a1 a9 (by first | exact hA | exact hA.si ⟨by decide, by decide⟩) hst ha1 ha2 (Or.inr ⟨Or.inr (Or.inr hne), fun z => absurd (hk4.symm.trans z) (by decide)⟩)
          · skip
            refine mv_aload_n (pc := 105) B d_Book_next_105 rfl 0 rfl ?_
            refine mv_aload_n (pc := 106) B d_Book_next_106 rfl 0 rfl ?_
            refine mv_getI (pc := 107) (ci := 12) (C := R_Book) (T := F_Book) (N := 65) B 5 rfl rfl (by decide) i_Book (B.2.2.2.1 _ k_1848) rfl d_Book_next_107 ?_
            refine mv_bipush (pc := 110) (v := 32) B d_Book_next_110 (by decide) ?_
            refine mv_iadd (pc := 112) B d_Book_next_112 ?_
            refine mv_putI (pc := 113) (ci := 12) (C := R_Book) (T := F_Book) (N := 65) B 7 rfl rfl (by decide) i_Book t_Book_ok n_Book (B.2.2.2.1 _ k_1850) rfl rfl rfl rfl d_Book_next_113 ?_
            refine mv_goto (pc := 116) (tgt := 260) B d_Book_next_116 rfl ?_
            refine mv_lpick [0] rfl ?_
            exact j260 _ a1 a9 (by first | exact hA | exact hA.si ⟨by decide, by decide⟩) hst ha1 ha2 (Or.inr ⟨Or.inr (Or.inr hne), fun z => absurd (hk4.symm.trans z) (by decide)⟩)
        · skip
          have hlt : a9 < len := by
            have za := hA.2.2.2.1
            have zv : v69 = -1 → v69.toInt = -1 := fun z => by rw [z]; decide
            have zz := (z72.resolve_left h75).2.1
            rcases z69 with ⟨z, -⟩ | ⟨-, -, z⟩
            · have := zv z; omega
            · omega
          refine mv_aload_n (pc := 78) B d_Book_next_78 rfl 0 rfl ?_
          refine mv_dup (pc := 79) B d_Book_next_79 rfl ?_
          refine mv_getI (pc := 80) (ci := 12) (C := R_Book) (T := F_Book) (N := 65) B 3 rfl rfl (by decide) i_Book (B.2.2.2.1 _ k_1846) rfl d_Book_next_80 ?_
          refine mv_iconst (pc := 83) (v := 1) B d_Book_next_83 (by decide) ?_
          refine mv_iadd (pc := 84) B d_Book_next_84 ?_
          refine mv_putI (pc := 85) (ci := 12) (C := R_Book) (T := F_Book) (N := 65) B 3 rfl rfl (by decide) i_Book t_Book_ok n_Book (B.2.2.2.1 _ k_1846) rfl rfl rfl rfl d_Book_next_85 ?_
          refine mv_gen (fun S88 eS88 => ?_)
          have hA : Ta 108 len σ S88 (a9 + 1) := by rw [eS88]; exact hA.inc hlt
          have hst : (mv_i S88 108 5).toInt = a1 := by rw [eS88]; exact hst
          have hk4 : mv_i S88 108 4 = 1 := by rw [eS88]; exact hk4
          clear eS88
          refine mv_goto (pc := 88) (tgt := 50) B d_Book_next_88 rfl ?_
          refine mv_lpick [0, 1] rfl ?_
          exact ih _ _ _ _ hA hst ha1 (by omega) hk4 (fun z => absurd z (by omega)) (by omega)
  refine mv_aload_n (pc := 0) B d_Book_next_0 rfl 0 rfl ?_
  refine mv_callVv (pc := 1) (n := 0) (ci := 12) (C := R_Book) B (mK_ok sk sv) hNs rfl rfl (c_Book_skip_y l hi _ len a0 hA) rfl (ma_goodc kc_Book_skip) (B.2.2.2.1 _ k_2118) (B.2.2.2.1 _ k_2120) (B.2.2.2.1 _ ks_81) (B.2.2.2.1 _ k_13) ⟨by decide +kernel, by decide +kernel, by decide +kernel⟩ rfl d_Book_next_1 rfl (Nat.le_of_ble_eq_true rfl) ⟨by decide, by decide⟩ ⟨by decide, by decide⟩ ⟨by decide, by decide⟩ (mv_noH hno _) (fun σ1 h1 => ?_)
  obtain ⟨a1, hA, ha⟩ := h1
  have hA9 := hA
  refine mv_aload_n (pc := 4) B d_Book_next_4 rfl 0 rfl ?_
  refine mv_aload_n (pc := 5) B d_Book_next_5 rfl 0 rfl ?_
  refine mv_getI (pc := 6) (ci := 12) (C := R_Book) (T := F_Book) (N := 65) B 3 rfl rfl (by decide) i_Book (B.2.2.2.1 _ k_1846) rfl d_Book_next_6 ?_
  refine mv_putI (pc := 9) (ci := 12) (C := R_Book) (T := F_Book) (N := 65) B 5 rfl rfl (by decide) i_Book t_Book_ok n_Book (B.2.2.2.1 _ k_1848) rfl rfl rfl rfl d_Book_next_9 ?_
  refine mv_aload_n (pc := 12) B d_Book_next_12 rfl 0 rfl ?_
  refine mv_iconst (pc := 13) (v := -1) B d_Book_next_13 (by decide) ?_
  refine mv_putI (pc := 14) (ci := 12) (C := R_Book) (T := F_Book) (N := 65) B 7 rfl rfl (by decide) i_Book t_Book_ok n_Book (B.2.2.2.1 _ k_1850) rfl rfl rfl rfl d_Book_next_14 ?_
  refine mv_gen (fun S17 eS17 => ?_)
  have hA : Ta 108 len σ S17 a1 := by rw [eS17]; exact (hA.si (k := 5) ⟨by decide, by decide⟩).si (k := 7) ⟨by decide, by decide⟩
  have hst : (mv_i S17 108 5).toInt = a1 := by rw [eS17]; exact hA9.2.2.2.1
  have hbr : mv_i S17 108 7 = -1 := by rw [eS17]; rfl
  clear eS17
  refine mv_aload_n (pc := 17) B d_Book_next_17 rfl 0 rfl ?_
  refine mv_aload_n (pc := 18) B d_Book_next_18 rfl 0 rfl ?_
  refine mv_getI (pc := 19) (ci := 12) (C := R_Book) (T := F_Book) (N := 65) B 3 rfl rfl (by decide) i_Book (B.2.2.2.1 _ k_1846) rfl d_Book_next_19 ?_
  refine mv_callVi (pc := 22) (n := 1) (ci := 12) (C := R_Book) B (mK_ok sk sv) hNs rfl rfl (c_Book_look_y l hi _ _ len hA.2.1 hA.2.2.1 hA.2.2.2.2.2 (by rw [hA.2.2.2.1]; omega)) rfl (ma_goodc kc_Book_look) (B.2.2.2.1 _ k_2122) (B.2.2.2.1 _ k_2124) (B.2.2.2.1 _ ks_82) (B.2.2.2.1 _ k_13) ⟨by decide +kernel, by decide +kernel, by decide +kernel⟩ rfl d_Book_next_22 rfl (Nat.le_of_ble_eq_true rfl) ⟨by decide, by decide⟩ ⟨by decide, by decide⟩ ⟨by decide, by decide⟩ (mv_noH hno _) (fun v22 σ22 h22 => ?_)
  obtain ⟨e22, w22, z22⟩ := h22
  have e22 := e22.symm
  subst e22
  refine mv_istore_n (pc := 25) B d_Book_next_25 rfl (by decide) rfl ?_
  refine mv_iload_n (pc := 26) B d_Book_next_26 rfl 0 rfl ?_
  refine mv_if_ge (pc := 27) (tgt := 38) B d_Book_next_27 rfl (fun h27 => ?_) (fun h27 => ?_)
  · skip
    have zv : v22 = -1 → v22.toInt = -1 := fun z => by rw [z]; decide
    have z0 : ¬ v22.toInt < 0 := fun z => absurd (Int32.le_iff_toInt_le.mp h27) (by show ¬ (0 : Int) ≤ v22.toInt; omega)
    have za := hA.2.2.2.1
    have hlt : a1 < len := by
      rcases z22 with ⟨z, -⟩ | ⟨-, -, z⟩
      · have := zv z; omega
      · omega
    have hl5 := hA.2.2.2.2
    refine mv_iload_n (pc := 38) B d_Book_next_38 rfl 0 rfl ?_
    refine mv_callSi (pc := 39) (n := 1) B (mK_ok sk sv) hNs (c_Book_letter l hi _ _) rfl (ma_goodc kc_Book_letter) (B.2.2.2.1 _ k_2126) (B.2.2.2.1 _ k_2127) (B.2.2.2.1 _ k_13) ⟨by decide +kernel, by decide +kernel, by decide +kernel⟩ rfl d_Book_next_39 rfl (Nat.le_of_ble_eq_true rfl) ⟨by decide, by decide⟩ ⟨by decide, by decide⟩ ⟨by decide, by decide⟩ (mv_noH hno _) (fun v39 σ39 h39 => ?_)
    obtain ⟨e39, w39, z39⟩ := h39
    have e39 := e39.symm
    subst e39
    refine mv_if_eq (pc := 42) (tgt := 119) B d_Book_next_42 rfl (fun h42 => ?_) (fun h42 => ?_)
    · skip
      refine mv_iload_n (pc := 119) B d_Book_next_119 rfl 0 rfl ?_
      refine mv_callSi (pc := 120) (n := 1) B (mK_ok sk sv) hNs (c_Book_digit l hi _ _) rfl (ma_goodc kc_Book_digit) (B.2.2.2.1 _ k_2129) (B.2.2.2.1 _ k_2130) (B.2.2.2.1 _ k_13) ⟨by decide +kernel, by decide +kernel, by decide +kernel⟩ rfl d_Book_next_120 rfl (Nat.le_of_ble_eq_true rfl) ⟨by decide, by decide⟩ ⟨by decide, by decide⟩ ⟨by decide, by decide⟩ (mv_noH hno _) (fun v120 σ120 h120 => ?_)
      obtain ⟨e120, z120⟩ := h120
      have e120 := e120.symm
      subst e120
      refine mv_if_eq (pc := 123) (tgt := 133) B d_Book_next_123 rfl (fun h123 => ?_) (fun h123 => ?_)
      · skip
        refine mv_iload_n (pc := 133) B d_Book_next_133 rfl 0 rfl ?_
        refine mv_bipush (pc := 134) (v := 34) B d_Book_next_134 (by decide) ?_
        refine mv_icmp_ne (pc := 136) (tgt := 146) B d_Book_next_136 rfl (fun h136 => ?_) (fun h136 => ?_)
        · skip
          refine mv_aload_n (pc := 146) B d_Book_next_146 rfl 1 rfl ?_
          refine mv_iload_n (pc := 147) B d_Book_next_147 rfl 0 rfl ?_
          refine mv_aload_n (pc := 148) B d_Book_next_148 rfl 1 rfl ?_
          refine mv_aload_n (pc := 149) B d_Book_next_149 rfl 1 rfl ?_
          refine mv_getI (pc := 150) (ci := 12) (C := R_Book) (T := F_Book) (N := 65) B 3 rfl rfl (by decide) i_Book (B.2.2.2.1 _ k_1846) rfl d_Book_next_150 ?_
          refine mv_iconst (pc := 153) (v := 1) B d_Book_next_153 (by decide) ?_
          refine mv_iadd (pc := 154) B d_Book_next_154 ?_
          refine mv_callVi (pc := 155) (n := 1) (ci := 12) (C := R_Book) B (mK_ok sk sv) hNs rfl rfl (c_Book_look_y l hi _ _ len hA.2.1 hA.2.2.1 hA.2.2.2.2.2 (by rw [i32_p1 hA.2.2.2.1 (by have := hA.2.2.2.2; omega)]; omega)) rfl (ma_goodc kc_Book_look) (B.2.2.2.1 _ k_2122) (B.2.2.2.1 _ k_2124) (B.2.2.2.1 _ ks_82) (B.2.2.2.1 _ k_13) ⟨by decide +kernel, by decide +kernel, by decide +kernel⟩ rfl d_Book_next_155 rfl (Nat.le_of_ble_eq_true rfl) ⟨by decide, by decide⟩ ⟨by decide, by decide⟩ ⟨by decide, by decide⟩ (mv_noH hno _) (fun v155 σ155 h155 => ?_)
          obtain ⟨e155, w155, z155⟩ := h155
          have e155 := e155.symm
          subst e155
          refine mv_callVi (pc := 158) (n := 2) (ci := 12) (C := R_Book) B (mK_ok sk sv) hNs rfl rfl (c_Book_pair_y l hi _ _ _) rfl (ma_goodc kc_Book_pair) (B.2.2.2.1 _ k_2147) (B.2.2.2.1 _ k_2149) (B.2.2.2.1 _ ks_85) (B.2.2.2.1 _ k_13) ⟨by decide +kernel, by decide +kernel, by decide +kernel⟩ rfl d_Book_next_158 rfl (Nat.le_of_ble_eq_true rfl) ⟨by decide, by decide⟩ ⟨by decide, by decide⟩ ⟨by decide, by decide⟩ (mv_noH hno _) (fun v158 σ158 h158 => ?_)
          obtain ⟨e158, z158⟩ := h158
          have e158 := e158.symm
          subst e158
          refine mv_if_le (pc := 161) (tgt := 196) B d_Book_next_161 rfl (fun h161 => ?_) (fun h161 => ?_)
          · skip
            refine mv_iload_n (pc := 196) B d_Book_next_196 rfl 0 rfl ?_
            refine mv_bipush (pc := 197) (v := 62) B d_Book_next_197 (by decide) ?_
            refine mv_icmp_ne (pc := 199) (tgt := 230) B d_Book_next_199 rfl (fun h199 => ?_) (fun h199 => ?_)
            · skip
              refine mv_iload_n (pc := 230) B d_Book_next_230 rfl 0 rfl ?_
              refine mv_callSi (pc := 231) (n := 1) B (mK_ok sk sv) hNs (c_Book_sign l hi _ _) rfl (ma_goodc kc_Book_sign) (B.2.2.2.1 _ k_2151) (B.2.2.2.1 _ k_2152) (B.2.2.2.1 _ k_13) ⟨by decide +kernel, by decide +kernel, by decide +kernel⟩ rfl d_Book_next_231 rfl (Nat.le_of_ble_eq_true rfl) ⟨by decide, by decide⟩ ⟨by decide, by decide⟩ ⟨by decide, by decide⟩ (mv_noH hno _) (fun v231 σ231 h231 => ?_)
              obtain ⟨e231, z231⟩ := h231
              have e231 := e231.symm
              subst e231
              refine mv_if_eq (pc := 234) (tgt := 255) B d_Book_next_234 rfl (fun h234 => ?_) (fun h234 => ?_)
              · skip
                refine mv_aload_n (pc := 255) B d_Book_next_255 rfl 1 rfl ?_
                refine mv_iconst (pc := 256) (v := -1) B d_Book_next_256 (by decide) ?_
                refine mv_putI (pc := 257) (ci := 12) (C := R_Book) (T := F_Book) (N := 65) B 4 rfl rfl (by decide) i_Book t_Book_ok n_Book (B.2.2.2.1 _ k_1847) rfl rfl rfl rfl d_Book_next_257 ?_
                refine mv_lpick [1] rfl ?_
                exact j260 _ a1 a1 (hA.si (k := 4) ⟨by decide, by decide⟩) hst ha (by omega) (Or.inr ⟨Or.inr (Or.inl rfl), fun z => absurd z (by show ¬ (-1 : Int32) = 3; decide)⟩)
              · skip
                refine mv_aload_n (pc := 237) B d_Book_next_237 rfl 1 rfl ?_
                refine mv_iload_n (pc := 238) B d_Book_next_238 rfl 0 rfl ?_
                refine mv_putI (pc := 239) (ci := 12) (C := R_Book) (T := F_Book) (N := 65) B 4 rfl rfl (by decide) i_Book t_Book_ok n_Book (B.2.2.2.1 _ k_1847) rfl rfl rfl rfl d_Book_next_239 ?_
                refine mv_aload_n (pc := 242) B d_Book_next_242 rfl 1 rfl ?_
                refine mv_dup (pc := 243) B d_Book_next_243 rfl ?_
                refine mv_getI (pc := 244) (ci := 12) (C := R_Book) (T := F_Book) (N := 65) B 3 rfl rfl (by decide) i_Book (B.2.2.2.1 _ k_1846) rfl d_Book_next_244 ?_
                refine mv_iconst (pc := 247) (v := 1) B d_Book_next_247 (by decide) ?_
                refine mv_iadd (pc := 248) B d_Book_next_248 ?_
                refine mv_putI (pc := 249) (ci := 12) (C := R_Book) (T := F_Book) (N := 65) B 3 rfl rfl (by decide) i_Book t_Book_ok n_Book (B.2.2.2.1 _ k_1846) rfl rfl rfl rfl d_Book_next_249 ?_
                refine mv_goto (pc := 252) (tgt := 260) B d_Book_next_252 rfl ?_
                refine mv_lpick [1] rfl ?_
                exact j260 _ a1 (a1 + 1) ((hA.si (k := 4) ⟨by decide, by decide⟩).inc hlt) hst ha (by omega) (Or.inr ⟨Or.inr (Or.inr (by omega)), fun z => by have q := (z231.resolve_left h234).2.1; have z : v22 = 3 := z; rw [z] at q; exact absurd q (by decide)⟩)
            · skip
              refine mv_aload_n (pc := 202) B d_Book_next_202 rfl 1 rfl ?_
              refine mv_sipush (pc := 203) (v := 260) B d_Book_next_203 (by decide) ?_
              refine mv_putI (pc := 206) (ci := 12) (C := R_Book) (T := F_Book) (N := 65) B 4 rfl rfl (by decide) i_Book t_Book_ok n_Book (B.2.2.2.1 _ k_1847) rfl rfl rfl rfl d_Book_next_206 ?_
              refine mv_aload_n (pc := 209) B d_Book_next_209 rfl 1 rfl ?_
              refine mv_dup (pc := 210) B d_Book_next_210 rfl ?_
              refine mv_getI (pc := 211) (ci := 12) (C := R_Book) (T := F_Book) (N := 65) B 3 rfl rfl (by decide) i_Book (B.2.2.2.1 _ k_1846) rfl d_Book_next_211 ?_
              refine mv_iconst (pc := 214) (v := 1) B d_Book_next_214 (by decide) ?_
              refine mv_iadd (pc := 215) B d_Book_next_215 ?_
              refine mv_putI (pc := 216) (ci := 12) (C := R_Book) (T := F_Book) (N := 65) B 3 rfl rfl (by decide) i_Book t_Book_ok n_Book (B.2.2.2.1 _ k_1846) rfl rfl rfl rfl d_Book_next_216 ?_
              refine mv_aload_n (pc := 219) B d_Book_next_219 rfl 1 rfl ?_
              refine mv_aload_n (pc := 220) B d_Book_next_220 rfl 1 rfl ?_
              refine mv_getI (pc := 221) (ci := 12) (C := R_Book) (T := F_Book) (N := 65) B 3 rfl rfl (by decide) i_Book (B.2.2.2.1 _ k_1846) rfl d_Book_next_221 ?_
              refine mv_putI (pc := 224) (ci := 12) (C := R_Book) (T := F_Book) (N := 65) B 7 rfl rfl (by decide) i_Book t_Book_ok n_Book (B.2.2.2.1 _ k_1850) rfl rfl rfl rfl d_Book_next_224 ?_
              refine mv_goto (pc := 227) (tgt := 260) B d_Book_next_227 rfl ?_
              refine mv_lpick [1] rfl ?_
              exact j260 _ a1 (a1 + 1) (((hA.si (k := 4) ⟨by decide, by decide⟩).inc hlt).si (k := 7) ⟨by decide, by decide⟩) hst ha (by omega) (Or.inl (by show 0 ≤ (mv_i S17 108 3 + 1).toInt; rw [i32_p1 za (by omega)]; omega))
          · skip
            refine mv_aload_n (pc := 164) B d_Book_next_164 rfl 1 rfl ?_
            refine mv_aload_n (pc := 165) B d_Book_next_165 rfl 1 rfl ?_
            refine mv_iload_n (pc := 166) B d_Book_next_166 rfl 0 rfl ?_
            refine mv_aload_n (pc := 167) B d_Book_next_167 rfl 1 rfl ?_
            refine mv_aload_n (pc := 168) B d_Book_next_168 rfl 1 rfl ?_
            refine mv_getI (pc := 169) (ci := 12) (C := R_Book) (T := F_Book) (N := 65) B 3 rfl rfl (by decide) i_Book (B.2.2.2.1 _ k_1846) rfl d_Book_next_169 ?_
            refine mv_iconst (pc := 172) (v := 1) B d_Book_next_172 (by decide) ?_
            refine mv_iadd (pc := 173) B d_Book_next_173 ?_
            refine mv_callVi (pc := 174) (n := 1) (ci := 12) (C := R_Book) B (mK_ok sk sv) hNs rfl rfl (c_Book_look_y l hi _ _ len hA.2.1 hA.2.2.1 hA.2.2.2.2.2 (by rw [i32_p1 hA.2.2.2.1 (by have := hA.2.2.2.2; omega)]; omega)) rfl (ma_goodc kc_Book_look) (B.2.2.2.1 _ k_2122) (B.2.2.2.1 _ k_2124) (B.2.2.2.1 _ ks_82) (B.2.2.2.1 _ k_13) ⟨by decide +kernel, by decide +kernel, by decide +kernel⟩ rfl d_Book_next_174 rfl (Nat.le_of_ble_eq_true rfl) ⟨by decide, by decide⟩ ⟨by decide, by decide⟩ ⟨by decide, by decide⟩ (mv_noH hno _) (fun v174 σ174 h174 => ?_)
            obtain ⟨e174, w174, z174⟩ := h174
            have e174 := e174.symm
            subst e174
            refine mv_callVi (pc := 177) (n := 2) (ci := 12) (C := R_Book) B (mK_ok sk sv) hNs rfl rfl (c_Book_pair_y l hi _ _ _) rfl (ma_goodc kc_Book_pair) (B.2.2.2.1 _ k_2147) (B.2.2.2.1 _ k_2149) (B.2.2.2.1 _ ks_85) (B.2.2.2.1 _ k_13) ⟨by decide +kernel, by decide +kernel, by decide +kernel⟩ rfl d_Book_next_177 rfl (Nat.le_of_ble_eq_true rfl) ⟨by decide, by decide⟩ ⟨by decide, by decide⟩ ⟨by decide, by decide⟩ (mv_noH hno _) (fun v177 σ177 h177 => ?_)
            obtain ⟨e177, z177⟩ := h177
            have e177 := e177.symm
            subst e177
            refine mv_putI (pc := 180) (ci := 12) (C := R_Book) (T := F_Book) (N := 65) B 4 rfl rfl (by decide) i_Book t_Book_ok n_Book (B.2.2.2.1 _ k_1847) rfl rfl rfl rfl d_Book_next_180 ?_
            refine mv_aload_n (pc := 183) B d_Book_next_183 rfl 1 rfl ?_
            refine mv_dup (pc := 184) B d_Book_next_184 rfl ?_
            refine mv_getI (pc := 185) (ci := 12) (C := R_Book) (T := F_Book) (N := 65) B 3 rfl rfl (by decide) i_Book (B.2.2.2.1 _ k_1846) rfl d_Book_next_185 ?_
            refine mv_iconst (pc := 188) (v := 2) B d_Book_next_188 (by decide) ?_
            refine mv_iadd (pc := 189) B d_Book_next_189 ?_
            refine mv_putI (pc := 190) (ci := 12) (C := R_Book) (T := F_Book) (N := 65) B 3 rfl rfl (by decide) i_Book t_Book_ok n_Book (B.2.2.2.1 _ k_1846) rfl rfl rfl rfl d_Book_next_190 ?_
            refine mv_goto (pc := 193) (tgt := 260) B d_Book_next_193 rfl ?_
            refine mv_lpick [1] rfl ?_
            have zb := i32_p1 za (by omega)
            have hlt2 : a1 + 2 ≤ len := by
              have zw : v155 = -1 → v155.toInt = -1 := fun z => by rw [z]; decide
              have zz := (z158.resolve_left (fun z => by rw [z] at h161; exact absurd h161 (by decide))).2.2.2
              rcases z155 with ⟨z, -⟩ | ⟨-, -, z⟩
              · have := zw z; omega
              · omega
            exact j260 _ a1 (a1 + 2) ((hA.si (k := 4) ⟨by decide, by decide⟩).add (i32_p2 za (by omega)) hlt2) hst ha (by omega) (Or.inr ⟨Or.inr (Or.inr (by omega)), fun _ => Nat.le_refl _⟩)
        · skip
          refine mv_aload_n (pc := 139) B d_Book_next_139 rfl 1 rfl ?_
          refine mv_callVv (pc := 140) (n := 0) (ci := 12) (C := R_Book) B (mK_ok sk sv) hNs rfl rfl (c_Book_readCode_y l hi _ len a1 hA.re hlt) rfl (ma_goodc kc_Book_readCode) (B.2.2.2.1 _ k_2143) (B.2.2.2.1 _ k_2145) (B.2.2.2.1 _ ks_84) (B.2.2.2.1 _ k_13) ⟨by decide +kernel, by decide +kernel, by decide +kernel⟩ rfl d_Book_next_140 rfl (Nat.le_of_ble_eq_true rfl) ⟨by decide, by decide⟩ ⟨by decide, by decide⟩ ⟨by decide, by decide⟩ (mv_noH hno _) (fun σ140 h140 => ?_)
          obtain ⟨a2, h2, hk2, hs2, ha2, hb2⟩ := h140
          have hA := hA.tr h2
          have hst := (congrArg Int32.toInt hs2).trans hst
          refine mv_goto (pc := 143) (tgt := 260) B d_Book_next_143 rfl ?_
          refine mv_lpick [1] rfl ?_
          exact j260 _ a1 a2 hA hst ha (by omega) (hb2.elim Or.inl (fun z => Or.inr ⟨Or.inr (Or.inr (by omega)), fun q => z.2⟩))
      · skip
        refine mv_aload_n (pc := 126) B d_Book_next_126 rfl 1 rfl ?_
        refine mv_callVv (pc := 127) (n := 0) (ci := 12) (C := R_Book) B (mK_ok sk sv) hNs rfl rfl (c_Book_readNumber_y l hi _ len a1 hA.re) rfl (ma_goodc kc_Book_readNumber) (B.2.2.2.1 _ k_2132) (B.2.2.2.1 _ k_2134) (B.2.2.2.1 _ ks_83) (B.2.2.2.1 _ k_13) ⟨by decide +kernel, by decide +kernel, by decide +kernel⟩ rfl d_Book_next_127 rfl (Nat.le_of_ble_eq_true rfl) ⟨by decide, by decide⟩ ⟨by decide, by decide⟩ ⟨by decide, by decide⟩ (mv_noH hno _) (fun σ127 h127 => ?_)
        obtain ⟨a2, h2, hk2, hs2, ha2, hb2⟩ := h127
        have hA := hA.tr h2
        have hst := (congrArg Int32.toInt hs2).trans hst
        refine mv_goto (pc := 130) (tgt := 260) B d_Book_next_130 rfl ?_
        refine mv_lpick [1] rfl ?_
        exact j260 _ a1 a2 hA hst ha (by omega) (hb2.elim Or.inl (fun z => Or.inr ⟨Or.inr (Or.inr z.2), fun q => absurd (hk2.symm.trans q) (by decide)⟩))
    · skip
      refine mv_aload_n (pc := 45) B d_Book_next_45 rfl 1 rfl ?_
      refine mv_iconst (pc := 46) (v := 1) B d_Book_next_46 (by decide) ?_
      refine mv_putI (pc := 47) (ci := 12) (C := R_Book) (T := F_Book) (N := 65) B 4 rfl rfl (by decide) i_Book t_Book_ok n_Book (B.2.2.2.1 _ k_1847) rfl rfl rfl rfl d_Book_next_47 ?_
      refine mv_lpick [1, 0] rfl ?_
      refine mv_gen (fun S50 eS50 => ?_)
      have hA : Ta 108 len σ S50 a1 := by rw [eS50]; exact hA.si ⟨by decide, by decide⟩
      have hst : (mv_i S50 108 5).toInt = a1 := by rw [eS50]; exact hst
      have hk4 : mv_i S50 108 4 = 1 := by rw [eS50]; rfl
      have hp : lt9 (lkv S50 len (mv_i S50 108 3)) = 1 := by rw [eS50]; show lt9 (lkv S17 len (mv_i S17 108 3)) = 1; rw [← w22, ← w39]; exact (z39.resolve_left h42).1
      clear eS50
      exact lp _ _ a1 a1 _ hA hst ha (Nat.le_refl _) hk4 (fun _ => hp) (Nat.lt_succ_self _)
  · skip
    refine mv_aload_n (pc := 30) B d_Book_next_30 rfl 1 rfl ?_
    refine mv_iconst (pc := 31) (v := 0) B d_Book_next_31 (by decide) ?_
    refine mv_putI (pc := 32) (ci := 12) (C := R_Book) (T := F_Book) (N := 65) B 4 rfl rfl (by decide) i_Book t_Book_ok n_Book (B.2.2.2.1 _ k_1847) rfl rfl rfl rfl d_Book_next_32 ?_
    refine mv_goto (pc := 35) (tgt := 260) B d_Book_next_35 rfl ?_
    refine mv_lpick [1] rfl ?_
    exact j260 _ a1 a1 (hA.si (k := 4) ⟨by decide, by decide⟩) hst ha (by omega) (Or.inr ⟨Or.inl rfl, fun z => absurd z (by show ¬ (0 : Int32) = 3; decide)⟩)
def y_Book_pass : MethodName := ⟨"MachineLoomModel$Book", "pass", "()V"⟩
abbrev b_Book_pass : ByteArray := prog_15_method_14_code
theorem kc_Book_pass : Cond.code y_Book_pass b_Book_pass 1 (Option.none : Option Jvm.ClassFile.FieldType) ∈ ma := ma_of (tb_10 _ (List.mem_of_getElem? (i := 16) rfl)) rfl
theorem k_1851 : (Jvm.Cond.fieldLink "MachineLoomModel$Book" (197 : Nat) "MachineLoomModel$Book" "depth" "I") ∈ ma := ma_of (tb_8 _ (List.mem_of_getElem? (i := 171) rfl)) rfl
theorem k_2114 : (Jvm.Cond.methodLink "MachineLoomModel$Book" (200 : Nat) ({ cls := "MachineLoomModel$Book", name := "next", desc := "()V" } : Jvm.MethodName)) ∈ ma := ma_of (tb_9 _ (List.mem_of_getElem? (i := 194) rfl)) rfl
theorem k_2116 : (Jvm.Cond.instanceMethod ({ cls := "MachineLoomModel$Book", name := "next", desc := "()V" } : Jvm.MethodName)) ∈ ma := ma_of (tb_9 _ (List.mem_of_getElem? (i := 196) rfl)) rfl
theorem ks_80 : Cond.selects "MachineLoomModel$Book" ⟨"MachineLoomModel$Book", "next", "()V"⟩ ⟨"MachineLoomModel$Book", "next", "()V"⟩ ∈ ma := ma_sel 80 rfl rfl
theorem d_Book_pass_0 : decode b_Book_pass 0 = .ok (.aload_n 0, 1) := by decide +kernel
theorem d_Book_pass_1 : decode b_Book_pass 1 = .ok (.getfield 197, 3) := by decide +kernel
theorem d_Book_pass_4 : decode b_Book_pass 4 = .ok (.bipush 60, 2) := by decide +kernel
theorem d_Book_pass_6 : decode b_Book_pass 6 = .ok (.if_icmp .le (12), 3) := by decide +kernel
theorem d_Book_pass_9 : decode b_Book_pass 9 = .ok (.aload_n 0, 1) := by decide +kernel
theorem d_Book_pass_10 : decode b_Book_pass 10 = .ok (.aload_n 0, 1) := by decide +kernel
theorem d_Book_pass_11 : decode b_Book_pass 11 = .ok (.getfield 174, 3) := by decide +kernel
theorem d_Book_pass_14 : decode b_Book_pass 14 = .ok (.invokevirtual 193, 3) := by decide +kernel
theorem d_Book_pass_17 : decode b_Book_pass 17 = .ok (.athrow, 1) := by decide +kernel
theorem d_Book_pass_18 : decode b_Book_pass 18 = .ok (.aload_n 0, 1) := by decide +kernel
theorem d_Book_pass_19 : decode b_Book_pass 19 = .ok (.invokevirtual 200, 3) := by decide +kernel
theorem d_Book_pass_22 : decode b_Book_pass 22 = .ok (.return_, 1) := by decide +kernel
set_option maxHeartbeats 4000000 in
set_option maxRecDepth 100000 in
theorem c_Book_pass_x (l : Launch) {dA : FieldType → ClassId} {D : va_G} {al : Nat → Nat} {ext : mv_Sh} {sk sv : Nat → Nat} (hi : mv_inj (mg dA D al ext)) (σ : mv_H) (len a1 a2 : Nat) (hQ : Tq 74 len σ σ a1 a2) : mv_C l y_Book_pass (Cond.code y_Book_pass b_Book_pass 1 (Option.none : Option Jvm.ClassFile.FieldType) :: ma) ({ frames := 4, cells := 0, slots := 0, locals := 85 }) (mg dA D al ext) (mK sk sv) [.ref (al 74)] σ (mv_Uv (fun σ1 => (mv_i σ 74 8).toInt ≤ 60 ∧ ∃ b1 b2, Tq 74 len σ σ1 b1 b2 ∧ a2 ≤ b1) ("MachineLoomModel$Book$Wrong", al 107) (fun σ1 => TkB 74 σ σ1)) := by
  refine mv_C.ofV (cc := b_Book_pass) (nL := 1) (ret := (Option.none : Option Jvm.ClassFile.FieldType)) (by decide +kernel) rfl hi (Nat.le_of_ble_eq_true rfl) ?_
  intro p e s m below meth c B hNs hr hnm hno
  refine mv_aload_n (pc := 0) B d_Book_pass_0 rfl 0 rfl ?_
  refine mv_getI (pc := 1) (ci := 12) (C := R_Book) (T := F_Book) (N := 65) B 8 rfl rfl (by decide) i_Book (B.2.2.2.1 _ k_1851) rfl d_Book_pass_1 ?_
  refine mv_bipush (pc := 4) (v := 60) B d_Book_pass_4 (by decide) ?_
  refine mv_icmp_le (pc := 6) (tgt := 18) B d_Book_pass_6 rfl (fun h6 => ?_) (fun h6 => ?_)
  · skip
    refine mv_aload_n (pc := 18) B d_Book_pass_18 rfl 0 rfl ?_
    refine mv_callVUv (pc := 19) (n := 0) (ci := 12) (C := R_Book) B (mK_ok sk sv) hNs rfl rfl (c_Book_next_x l hi _ len a2 hQ.1) rfl (ma_goodc kc_Book_next) (B.2.2.2.1 _ k_2114) (B.2.2.2.1 _ k_2116) (B.2.2.2.1 _ ks_80) (B.2.2.2.1 _ k_13) ⟨by decide +kernel, by decide +kernel, by decide +kernel⟩ rfl d_Book_pass_19 rfl (Nat.le_of_ble_eq_true rfl) ⟨by decide, by decide⟩ ⟨by decide, by decide⟩ ⟨by decide, by decide⟩ (mv_noH hno _) (fun τ9 g9 => Or.inr ⟨rfl, g9⟩) (fun σ19 h19 => ?_)
    exact mv_vret (pc := 22) B hr d_Book_pass_22 (Nat.le_refl _) (Nat.le_refl _) (Or.inl ⟨rfl, Int32.le_iff_toInt_le.mp h6, h19⟩)
  · skip
    refine mv_aload_n (pc := 9) B d_Book_pass_9 rfl 0 rfl ?_
    refine mv_aload_n (pc := 10) B d_Book_pass_10 rfl 0 rfl ?_
    refine mv_getI (pc := 11) (ci := 12) (C := R_Book) (T := F_Book) (N := 65) B 5 rfl rfl (by decide) i_Book (B.2.2.2.1 _ k_1848) rfl d_Book_pass_11 ?_
    refine mv_callVr (pc := 14) (n := 1) (ci := 12) (C := R_Book) B (mK_ok sk sv) hNs rfl rfl (c_Book_wrongAt_x l hi _ _ hQ.1.2.1) rfl (ma_goodc kc_Book_wrongAt) (B.2.2.2.1 _ k_2154) (B.2.2.2.1 _ k_2156) (B.2.2.2.1 _ ks_86) (B.2.2.2.1 _ k_13) ⟨by decide +kernel, by decide +kernel, by decide +kernel⟩ rfl d_Book_pass_14 rfl (Nat.le_of_ble_eq_true rfl) ⟨by decide, by decide⟩ ⟨by decide, by decide⟩ ⟨by decide, by decide⟩ (mv_noH hno _) (fun σ14 h14 => ?_)
    obtain ⟨g14, -⟩ := h14
    exact mv_athrowO (pc := 17) (o := 107) B rfl rfl (mv_noH hno _) d_Book_pass_17 (Nat.le_refl _) (Nat.le_refl _) (Or.inr ⟨rfl, g14⟩)
set_option maxHeartbeats 4000000 in
set_option maxRecDepth 100000 in
theorem c_Book_pass_y (l : Launch) {dA : FieldType → ClassId} {D : va_G} {al : Nat → Nat} {ext : mv_Sh} {sk sv : Nat → Nat} (hi : mv_inj (mg dA D al ext)) (σ : mv_H) (len a1 a2 : Nat) (hQ : Tq 108 len σ σ a1 a2) : mv_C l y_Book_pass (Cond.code y_Book_pass b_Book_pass 1 (Option.none : Option Jvm.ClassFile.FieldType) :: ma) ({ frames := 4, cells := 0, slots := 0, locals := 85 }) (mg dA D al ext) (mK sk sv) [.ref (al 108)] σ (mv_Uv (fun σ1 => (mv_i σ 108 8).toInt ≤ 60 ∧ ∃ b1 b2, Tq 108 len σ σ1 b1 b2 ∧ a2 ≤ b1) ("MachineLoomModel$Book$Wrong", al 141) (fun σ1 => TkB 108 σ σ1)) := by
  refine mv_C.ofV (cc := b_Book_pass) (nL := 1) (ret := (Option.none : Option Jvm.ClassFile.FieldType)) (by decide +kernel) rfl hi (Nat.le_of_ble_eq_true rfl) ?_
  intro p e s m below meth c B hNs hr hnm hno
  refine mv_aload_n (pc := 0) B d_Book_pass_0 rfl 0 rfl ?_
  refine mv_getI (pc := 1) (ci := 12) (C := R_Book) (T := F_Book) (N := 65) B 8 rfl rfl (by decide) i_Book (B.2.2.2.1 _ k_1851) rfl d_Book_pass_1 ?_
  refine mv_bipush (pc := 4) (v := 60) B d_Book_pass_4 (by decide) ?_
  refine mv_icmp_le (pc := 6) (tgt := 18) B d_Book_pass_6 rfl (fun h6 => ?_) (fun h6 => ?_)
  · skip
    refine mv_aload_n (pc := 18) B d_Book_pass_18 rfl 0 rfl ?_
    refine mv_callVUv (pc := 19) (n := 0) (ci := 12) (C := R_Book) B (mK_ok sk sv) hNs rfl rfl (c_Book_next_y l hi _ len a2 hQ.1) rfl (ma_goodc kc_Book_next) (B.2.2.2.1 _ k_2114) (B.2.2.2.1 _ k_2116) (B.2.2.2.1 _ ks_80) (B.2.2.2.1 _ k_13) ⟨by decide +kernel, by decide +kernel, by decide +kernel⟩ rfl d_Book_pass_19 rfl (Nat.le_of_ble_eq_true rfl) ⟨by decide, by decide⟩ ⟨by decide, by decide⟩ ⟨by decide, by decide⟩ (mv_noH hno _) (fun τ9 g9 => Or.inr ⟨rfl, g9⟩) (fun σ19 h19 => ?_)
    exact mv_vret (pc := 22) B hr d_Book_pass_22 (Nat.le_refl _) (Nat.le_refl _) (Or.inl ⟨rfl, Int32.le_iff_toInt_le.mp h6, h19⟩)
  · skip
    refine mv_aload_n (pc := 9) B d_Book_pass_9 rfl 0 rfl ?_
    refine mv_aload_n (pc := 10) B d_Book_pass_10 rfl 0 rfl ?_
    refine mv_getI (pc := 11) (ci := 12) (C := R_Book) (T := F_Book) (N := 65) B 5 rfl rfl (by decide) i_Book (B.2.2.2.1 _ k_1848) rfl d_Book_pass_11 ?_
    refine mv_callVr (pc := 14) (n := 1) (ci := 12) (C := R_Book) B (mK_ok sk sv) hNs rfl rfl (c_Book_wrongAt_y l hi _ _ hQ.1.2.1) rfl (ma_goodc kc_Book_wrongAt) (B.2.2.2.1 _ k_2154) (B.2.2.2.1 _ k_2156) (B.2.2.2.1 _ ks_86) (B.2.2.2.1 _ k_13) ⟨by decide +kernel, by decide +kernel, by decide +kernel⟩ rfl d_Book_pass_14 rfl (Nat.le_of_ble_eq_true rfl) ⟨by decide, by decide⟩ ⟨by decide, by decide⟩ ⟨by decide, by decide⟩ (mv_noH hno _) (fun σ14 h14 => ?_)
    obtain ⟨g14, -⟩ := h14
    exact mv_athrowO (pc := 17) (o := 141) B rfl rfl (mv_noH hno _) d_Book_pass_17 (Nat.le_refl _) (Nat.le_refl _) (Or.inr ⟨rfl, g14⟩)
def y_Book_need : MethodName := ⟨"MachineLoomModel$Book", "need", "(I)V"⟩
abbrev b_Book_need : ByteArray := prog_15_method_15_code
theorem kc_Book_need : Cond.code y_Book_need b_Book_need 2 (Option.none : Option Jvm.ClassFile.FieldType) ∈ ma := ma_of (tb_10 _ (List.mem_of_getElem? (i := 20) rfl)) rfl
theorem k_2173 : (Jvm.Cond.methodLink "MachineLoomModel$Book" (203 : Nat) ({ cls := "MachineLoomModel$Book", name := "pass", desc := "()V" } : Jvm.MethodName)) ∈ ma := ma_of (tb_10 _ (List.mem_of_getElem? (i := 13) rfl)) rfl
theorem k_2175 : (Jvm.Cond.instanceMethod ({ cls := "MachineLoomModel$Book", name := "pass", desc := "()V" } : Jvm.MethodName)) ∈ ma := ma_of (tb_10 _ (List.mem_of_getElem? (i := 15) rfl)) rfl
theorem ks_90 : Cond.selects "MachineLoomModel$Book" ⟨"MachineLoomModel$Book", "pass", "()V"⟩ ⟨"MachineLoomModel$Book", "pass", "()V"⟩ ∈ ma := ma_sel 90 rfl rfl
theorem d_Book_need_0 : decode b_Book_need 0 = .ok (.aload_n 0, 1) := by decide +kernel
theorem d_Book_need_1 : decode b_Book_need 1 = .ok (.getfield 151, 3) := by decide +kernel
theorem d_Book_need_4 : decode b_Book_need 4 = .ok (.iload_n 1, 1) := by decide +kernel
theorem d_Book_need_5 : decode b_Book_need 5 = .ok (.if_icmp .eq (12), 3) := by decide +kernel
theorem d_Book_need_8 : decode b_Book_need 8 = .ok (.aload_n 0, 1) := by decide +kernel
theorem d_Book_need_9 : decode b_Book_need 9 = .ok (.aload_n 0, 1) := by decide +kernel
theorem d_Book_need_10 : decode b_Book_need 10 = .ok (.getfield 174, 3) := by decide +kernel
theorem d_Book_need_13 : decode b_Book_need 13 = .ok (.invokevirtual 193, 3) := by decide +kernel
theorem d_Book_need_16 : decode b_Book_need 16 = .ok (.athrow, 1) := by decide +kernel
theorem d_Book_need_17 : decode b_Book_need 17 = .ok (.aload_n 0, 1) := by decide +kernel
theorem d_Book_need_18 : decode b_Book_need 18 = .ok (.invokevirtual 203, 3) := by decide +kernel
theorem d_Book_need_21 : decode b_Book_need 21 = .ok (.return_, 1) := by decide +kernel
set_option maxHeartbeats 4000000 in
set_option maxRecDepth 100000 in
theorem c_Book_need_x (l : Launch) {dA : FieldType → ClassId} {D : va_G} {al : Nat → Nat} {ext : mv_Sh} {sk sv : Nat → Nat} (hi : mv_inj (mg dA D al ext)) (σ : mv_H) (k9 : Int32) (len a1 a2 : Nat) (hQ : Tq 74 len σ σ a1 a2) : mv_C l y_Book_need (Cond.code y_Book_need b_Book_need 2 (Option.none : Option Jvm.ClassFile.FieldType) :: ma) ({ frames := 5, cells := 0, slots := 0, locals := 105 }) (mg dA D al ext) (mK sk sv) [.ref (al 74), .int k9] σ (mv_Uv (fun σ1 => mv_i σ 74 4 = k9 ∧ (mv_i σ 74 8).toInt ≤ 60 ∧ ∃ b1 b2, Tq 74 len σ σ1 b1 b2 ∧ a2 ≤ b1) ("MachineLoomModel$Book$Wrong", al 107) (fun σ1 => TkB 74 σ σ1)) := by
  refine mv_C.ofV (cc := b_Book_need) (nL := 2) (ret := (Option.none : Option Jvm.ClassFile.FieldType)) (by decide +kernel) rfl hi (Nat.le_of_ble_eq_true rfl) ?_
  intro p e s m below meth c B hNs hr hnm hno
  refine mv_aload_n (pc := 0) B d_Book_need_0 rfl 0 rfl ?_
  refine mv_getI (pc := 1) (ci := 12) (C := R_Book) (T := F_Book) (N := 65) B 4 rfl rfl (by decide) i_Book (B.2.2.2.1 _ k_1847) rfl d_Book_need_1 ?_
  refine mv_iload_n (pc := 4) B d_Book_need_4 rfl 1 rfl ?_
  refine mv_icmp_eq (pc := 5) (tgt := 17) B d_Book_need_5 rfl (fun h5 => ?_) (fun h5 => ?_)
  · skip
    refine mv_aload_n (pc := 17) B d_Book_need_17 rfl 0 rfl ?_
    refine mv_callVUv (pc := 18) (n := 0) (ci := 12) (C := R_Book) B (mK_ok sk sv) hNs rfl rfl (c_Book_pass_x l hi _ len a1 a2 hQ) rfl (ma_goodc kc_Book_pass) (B.2.2.2.1 _ k_2173) (B.2.2.2.1 _ k_2175) (B.2.2.2.1 _ ks_90) (B.2.2.2.1 _ k_13) ⟨by decide +kernel, by decide +kernel, by decide +kernel⟩ rfl d_Book_need_18 rfl (Nat.le_of_ble_eq_true rfl) ⟨by decide, by decide⟩ ⟨by decide, by decide⟩ ⟨by decide, by decide⟩ (mv_noH hno _) (fun τ9 g9 => Or.inr ⟨rfl, g9⟩) (fun σ18 h18 => ?_)
    exact mv_vret (pc := 21) B hr d_Book_need_21 (Nat.le_refl _) (Nat.le_refl _) (Or.inl ⟨rfl, h5, h18⟩)
  · skip
    refine mv_aload_n (pc := 8) B d_Book_need_8 rfl 0 rfl ?_
    refine mv_aload_n (pc := 9) B d_Book_need_9 rfl 0 rfl ?_
    refine mv_getI (pc := 10) (ci := 12) (C := R_Book) (T := F_Book) (N := 65) B 5 rfl rfl (by decide) i_Book (B.2.2.2.1 _ k_1848) rfl d_Book_need_10 ?_
    refine mv_callVr (pc := 13) (n := 1) (ci := 12) (C := R_Book) B (mK_ok sk sv) hNs rfl rfl (c_Book_wrongAt_x l hi _ _ hQ.1.2.1) rfl (ma_goodc kc_Book_wrongAt) (B.2.2.2.1 _ k_2154) (B.2.2.2.1 _ k_2156) (B.2.2.2.1 _ ks_86) (B.2.2.2.1 _ k_13) ⟨by decide +kernel, by decide +kernel, by decide +kernel⟩ rfl d_Book_need_13 rfl (Nat.le_of_ble_eq_true rfl) ⟨by decide, by decide⟩ ⟨by decide, by decide⟩ ⟨by decide, by decide⟩ (mv_noH hno _) (fun σ13 h13 => ?_)
    obtain ⟨g13, -⟩ := h13
    exact mv_athrowO (pc := 16) (o := 107) B rfl rfl (mv_noH hno _) d_Book_need_16 (Nat.le_refl _) (Nat.le_refl _) (Or.inr ⟨rfl, g13⟩)
set_option maxHeartbeats 4000000 in
set_option maxRecDepth 100000 in
theorem c_Book_need_y (l : Launch) {dA : FieldType → ClassId} {D : va_G} {al : Nat → Nat} {ext : mv_Sh} {sk sv : Nat → Nat} (hi : mv_inj (mg dA D al ext)) (σ : mv_H) (k9 : Int32) (len a1 a2 : Nat) (hQ : Tq 108 len σ σ a1 a2) : mv_C l y_Book_need (Cond.code y_Book_need b_Book_need 2 (Option.none : Option Jvm.ClassFile.FieldType) :: ma) ({ frames := 5, cells := 0, slots := 0, locals := 105 }) (mg dA D al ext) (mK sk sv) [.ref (al 108), .int k9] σ (mv_Uv (fun σ1 => mv_i σ 108 4 = k9 ∧ (mv_i σ 108 8).toInt ≤ 60 ∧ ∃ b1 b2, Tq 108 len σ σ1 b1 b2 ∧ a2 ≤ b1) ("MachineLoomModel$Book$Wrong", al 141) (fun σ1 => TkB 108 σ σ1)) := by
  refine mv_C.ofV (cc := b_Book_need) (nL := 2) (ret := (Option.none : Option Jvm.ClassFile.FieldType)) (by decide +kernel) rfl hi (Nat.le_of_ble_eq_true rfl) ?_
  intro p e s m below meth c B hNs hr hnm hno
  refine mv_aload_n (pc := 0) B d_Book_need_0 rfl 0 rfl ?_
  refine mv_getI (pc := 1) (ci := 12) (C := R_Book) (T := F_Book) (N := 65) B 4 rfl rfl (by decide) i_Book (B.2.2.2.1 _ k_1847) rfl d_Book_need_1 ?_
  refine mv_iload_n (pc := 4) B d_Book_need_4 rfl 1 rfl ?_
  refine mv_icmp_eq (pc := 5) (tgt := 17) B d_Book_need_5 rfl (fun h5 => ?_) (fun h5 => ?_)
  · skip
    refine mv_aload_n (pc := 17) B d_Book_need_17 rfl 0 rfl ?_
    refine mv_callVUv (pc := 18) (n := 0) (ci := 12) (C := R_Book) B (mK_ok sk sv) hNs rfl rfl (c_Book_pass_y l hi _ len a1 a2 hQ) rfl (ma_goodc kc_Book_pass) (B.2.2.2.1 _ k_2173) (B.2.2.2.1 _ k_2175) (B.2.2.2.1 _ ks_90) (B.2.2.2.1 _ k_13) ⟨by decide +kernel, by decide +kernel, by decide +kernel⟩ rfl d_Book_need_18 rfl (Nat.le_of_ble_eq_true rfl) ⟨by decide, by decide⟩ ⟨by decide, by decide⟩ ⟨by decide, by decide⟩ (mv_noH hno _) (fun τ9 g9 => Or.inr ⟨rfl, g9⟩) (fun σ18 h18 => ?_)
    exact mv_vret (pc := 21) B hr d_Book_need_21 (Nat.le_refl _) (Nat.le_refl _) (Or.inl ⟨rfl, h5, h18⟩)
  · skip
    refine mv_aload_n (pc := 8) B d_Book_need_8 rfl 0 rfl ?_
    refine mv_aload_n (pc := 9) B d_Book_need_9 rfl 0 rfl ?_
    refine mv_getI (pc := 10) (ci := 12) (C := R_Book) (T := F_Book) (N := 65) B 5 rfl rfl (by decide) i_Book (B.2.2.2.1 _ k_1848) rfl d_Book_need_10 ?_
    refine mv_callVr (pc := 13) (n := 1) (ci := 12) (C := R_Book) B (mK_ok sk sv) hNs rfl rfl (c_Book_wrongAt_y l hi _ _ hQ.1.2.1) rfl (ma_goodc kc_Book_wrongAt) (B.2.2.2.1 _ k_2154) (B.2.2.2.1 _ k_2156) (B.2.2.2.1 _ ks_86) (B.2.2.2.1 _ k_13) ⟨by decide +kernel, by decide +kernel, by decide +kernel⟩ rfl d_Book_need_13 rfl (Nat.le_of_ble_eq_true rfl) ⟨by decide, by decide⟩ ⟨by decide, by decide⟩ ⟨by decide, by decide⟩ (mv_noH hno _) (fun σ13 h13 => ?_)
    obtain ⟨g13, -⟩ := h13
    exact mv_athrowO (pc := 16) (o := 141) B rfl rfl (mv_noH hno _) d_Book_need_16 (Nat.le_refl _) (Nat.le_refl _) (Or.inr ⟨rfl, g13⟩)
