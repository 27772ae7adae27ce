/-! the reference's Book: an op, the text -/
/-- a text begins -/
def RS (B : Nat) (S : mv_H) : Prop := mv_i S B 8 = 0 ∧ mv_i S B 17 = 0 ∧ mv_i S B 48 = 0 ∧ mv_i S B 29 = 0 ∧ mv_i S B 51 = 0 ∧ mv_i S B 19 = 0 ∧ mv_i S B 18 = -1
theorem RS.tf {B : Nat} {S T : mv_H} (h : RS B S) (f : TF B S T) : RS B T := by
  obtain ⟨h1, h2, h3, h4, h5, h6, h7⟩ := h
  exact ⟨(f.1 _ _ (by omega)).trans h1, (f.1 _ _ (by omega)).trans h2, (f.1 _ _ (by omega)).trans h3, (f.1 _ _ (by omega)).trans h4, (f.1 _ _ (by omega)).trans h5, (f.1 _ _ (by omega)).trans h6, (f.1 _ _ (by omega)).trans h7⟩
theorem ZT.start {B len b1 b2 : Nat} {σ S : mv_H} (hQ : Tq B len S S b1 b2) (h : RS B S) (hB : BF B σ S) (hL : (mv_i S B 38).toInt ≤ 0 → 8 ≤ (mv_i S B 20).toInt ∧ (mv_i S B 20).toInt ≤ 64) : ZT B len σ S 0 0 0 0 0 b1 b2 := by
  obtain ⟨h1, h2, h3, h4, h5, h6, h7⟩ := h
  have e : ∀ x : Int32, x = 0 → x.toInt = 0 := fun x z => by rw [z]; rfl
  have e2 := e _ h2
  have e6 := e _ h6
  refine ⟨hQ, by rw [e _ h1]; rfl, Nat.zero_le _, Nat.zero_le _, Nat.zero_le _, ⟨⟨by omega, by omega, fun t ht => by omega⟩, by rw [e2]; rfl, by rw [e _ h3]; rfl, by rw [e _ h4]; rfl, by rw [e _ h5]; rfl, fun i hi => absurd hi (Nat.not_lt_zero _), by omega, Or.inl h7, fun q => ⟨⟨(fun _ => 0, fun _ => 0), RG.nil, fun i hi => absurd hi (Nat.not_lt_zero _)⟩, hL q, fun i hi => absurd hi (Nat.not_lt_zero _), by rw [e6]; rfl, fun t ht => absurd ht (Nat.not_lt_zero _)⟩⟩, hB⟩
def TO (B len : Nat) (σ : mv_H) (τ : mv_H) : Prop := ∃ th n k cb c1 c2, ZT B len σ τ th n k cb 0 c1 c2

def y_Book_operation : MethodName := ⟨"MachineLoomModel$Book", "operation", "()V"⟩
abbrev b_Book_operation : ByteArray := prog_15_method_46_code
theorem kc_Book_operation : Cond.code y_Book_operation b_Book_operation 9 (Option.none : Option Jvm.ClassFile.FieldType) ∈ ma := ma_of (tb_10 _ (List.mem_of_getElem? (i := 71) rfl)) rfl
theorem k_1871 : (Jvm.Cond.fieldLink "MachineLoomModel$Book" (58 : Nat) "MachineLoomModel$Book" "opBody" "[I") ∈ ma := ma_of (tb_8 _ (List.mem_of_getElem? (i := 191) rfl)) rfl
theorem k_1868 : (Jvm.Cond.fieldLink "MachineLoomModel$Book" (49 : Nat) "MachineLoomModel$Book" "opFrom" "[I") ∈ ma := ma_of (tb_8 _ (List.mem_of_getElem? (i := 188) rfl)) rfl
theorem k_1869 : (Jvm.Cond.fieldLink "MachineLoomModel$Book" (52 : Nat) "MachineLoomModel$Book" "opTo" "[I") ∈ ma := ma_of (tb_8 _ (List.mem_of_getElem? (i := 189) rfl)) rfl
theorem k_1900 : (Jvm.Cond.fieldLink "MachineLoomModel$Book" (379 : Nat) "MachineLoomModel$Book" "codesBase" "I") ∈ ma := ma_of (tb_8 _ (List.mem_of_getElem? (i := 220) rfl)) rfl
theorem k_1865 : (Jvm.Cond.fieldLink "MachineLoomModel$Book" (43 : Nat) "MachineLoomModel$Book" "length" "I") ∈ ma := ma_of (tb_8 _ (List.mem_of_getElem? (i := 185) rfl)) rfl
theorem k_1872 : (Jvm.Cond.fieldLink "MachineLoomModel$Book" (61 : Nat) "MachineLoomModel$Book" "codeLength" "[I") ∈ ma := ma_of (tb_8 _ (List.mem_of_getElem? (i := 192) rfl)) rfl
theorem d_Book_operation_0 : decode b_Book_operation 0 = .ok (.aload_n 0, 1) := by decide +kernel
theorem d_Book_operation_1 : decode b_Book_operation 1 = .ok (.invokevirtual 203, 3) := by decide +kernel
theorem d_Book_operation_4 : decode b_Book_operation 4 = .ok (.aload_n 0, 1) := by decide +kernel
theorem d_Book_operation_5 : decode b_Book_operation 5 = .ok (.invokevirtual 356, 3) := by decide +kernel
theorem d_Book_operation_8 : decode b_Book_operation 8 = .ok (.aload_n 0, 1) := by decide +kernel
theorem d_Book_operation_9 : decode b_Book_operation 9 = .ok (.getfield 350, 3) := by decide +kernel
theorem d_Book_operation_12 : decode b_Book_operation 12 = .ok (.istore_n 1, 1) := by decide +kernel
theorem d_Book_operation_13 : decode b_Book_operation 13 = .ok (.aload_n 0, 1) := by decide +kernel
theorem d_Book_operation_14 : decode b_Book_operation 14 = .ok (.getfield 353, 3) := by decide +kernel
theorem d_Book_operation_17 : decode b_Book_operation 17 = .ok (.istore_n 2, 1) := by decide +kernel
theorem d_Book_operation_18 : decode b_Book_operation 18 = .ok (.aload_n 0, 1) := by decide +kernel
theorem d_Book_operation_19 : decode b_Book_operation 19 = .ok (.getfield 174, 3) := by decide +kernel
theorem d_Book_operation_22 : decode b_Book_operation 22 = .ok (.istore_n 3, 1) := by decide +kernel
theorem d_Book_operation_23 : decode b_Book_operation 23 = .ok (.aload_n 0, 1) := by decide +kernel
theorem d_Book_operation_24 : decode b_Book_operation 24 = .ok (.getfield 174, 3) := by decide +kernel
theorem d_Book_operation_27 : decode b_Book_operation 27 = .ok (.iconst 1, 1) := by decide +kernel
theorem d_Book_operation_28 : decode b_Book_operation 28 = .ok (.iadd, 1) := by decide +kernel
theorem d_Book_operation_29 : decode b_Book_operation 29 = .ok (.istore 4, 2) := by decide +kernel
theorem d_Book_operation_31 : decode b_Book_operation 31 = .ok (.iconst 0, 1) := by decide +kernel
theorem d_Book_operation_32 : decode b_Book_operation 32 = .ok (.istore 5, 2) := by decide +kernel
theorem d_Book_operation_34 : decode b_Book_operation 34 = .ok (.iconst 0, 1) := by decide +kernel
theorem d_Book_operation_35 : decode b_Book_operation 35 = .ok (.istore 6, 2) := by decide +kernel
theorem d_Book_operation_37 : decode b_Book_operation 37 = .ok (.iload 6, 2) := by decide +kernel
theorem d_Book_operation_39 : decode b_Book_operation 39 = .ok (.aload_n 0, 1) := by decide +kernel
theorem d_Book_operation_40 : decode b_Book_operation 40 = .ok (.getfield 238, 3) := by decide +kernel
theorem d_Book_operation_43 : decode b_Book_operation 43 = .ok (.if_icmp .ge (34), 3) := by decide +kernel
theorem d_Book_operation_46 : decode b_Book_operation 46 = .ok (.iload 5, 2) := by decide +kernel
theorem d_Book_operation_48 : decode b_Book_operation 48 = .ok (.aload_n 0, 1) := by decide +kernel
theorem d_Book_operation_49 : decode b_Book_operation 49 = .ok (.aload_n 0, 1) := by decide +kernel
theorem d_Book_operation_50 : decode b_Book_operation 50 = .ok (.getfield 49, 3) := by decide +kernel
theorem d_Book_operation_53 : decode b_Book_operation 53 = .ok (.iload 6, 2) := by decide +kernel
theorem d_Book_operation_55 : decode b_Book_operation 55 = .ok (.iaload, 1) := by decide +kernel
theorem d_Book_operation_56 : decode b_Book_operation 56 = .ok (.aload_n 0, 1) := by decide +kernel
theorem d_Book_operation_57 : decode b_Book_operation 57 = .ok (.getfield 52, 3) := by decide +kernel
theorem d_Book_operation_60 : decode b_Book_operation 60 = .ok (.iload 6, 2) := by decide +kernel
theorem d_Book_operation_62 : decode b_Book_operation 62 = .ok (.iaload, 1) := by decide +kernel
theorem d_Book_operation_63 : decode b_Book_operation 63 = .ok (.iload_n 1, 1) := by decide +kernel
theorem d_Book_operation_64 : decode b_Book_operation 64 = .ok (.iload_n 2, 1) := by decide +kernel
theorem d_Book_operation_65 : decode b_Book_operation 65 = .ok (.invokevirtual 234, 3) := by decide +kernel
theorem d_Book_operation_68 : decode b_Book_operation 68 = .ok (.ior, 1) := by decide +kernel
theorem d_Book_operation_69 : decode b_Book_operation 69 = .ok (.istore 5, 2) := by decide +kernel
theorem d_Book_operation_71 : decode b_Book_operation 71 = .ok (.iinc 6 (1), 3) := by decide +kernel
theorem d_Book_operation_74 : decode b_Book_operation 74 = .ok (.goto (-37), 3) := by decide +kernel
theorem d_Book_operation_77 : decode b_Book_operation 77 = .ok (.iload 5, 2) := by decide +kernel
theorem d_Book_operation_79 : decode b_Book_operation 79 = .ok (.ifCond .eq (12), 3) := by decide +kernel
theorem d_Book_operation_82 : decode b_Book_operation 82 = .ok (.aload_n 0, 1) := by decide +kernel
theorem d_Book_operation_83 : decode b_Book_operation 83 = .ok (.iconst 2, 1) := by decide +kernel
theorem d_Book_operation_84 : decode b_Book_operation 84 = .ok (.iload_n 1, 1) := by decide +kernel
theorem d_Book_operation_85 : decode b_Book_operation 85 = .ok (.invokevirtual 267, 3) := by decide +kernel
theorem d_Book_operation_88 : decode b_Book_operation 88 = .ok (.goto (20), 3) := by decide +kernel
theorem d_Book_operation_91 : decode b_Book_operation 91 = .ok (.aload_n 0, 1) := by decide +kernel
theorem d_Book_operation_92 : decode b_Book_operation 92 = .ok (.getfield 238, 3) := by decide +kernel
theorem d_Book_operation_95 : decode b_Book_operation 95 = .ok (.sipush 512, 3) := by decide +kernel
theorem d_Book_operation_98 : decode b_Book_operation 98 = .ok (.if_icmp .lt (10), 3) := by decide +kernel
theorem d_Book_operation_101 : decode b_Book_operation 101 = .ok (.aload_n 0, 1) := by decide +kernel
theorem d_Book_operation_102 : decode b_Book_operation 102 = .ok (.bipush 6, 2) := by decide +kernel
theorem d_Book_operation_104 : decode b_Book_operation 104 = .ok (.iload_n 1, 1) := by decide +kernel
theorem d_Book_operation_105 : decode b_Book_operation 105 = .ok (.invokevirtual 267, 3) := by decide +kernel
theorem d_Book_operation_108 : decode b_Book_operation 108 = .ok (.aload_n 0, 1) := by decide +kernel
theorem d_Book_operation_109 : decode b_Book_operation 109 = .ok (.getfield 190, 3) := by decide +kernel
theorem d_Book_operation_112 : decode b_Book_operation 112 = .ok (.iconst 1, 1) := by decide +kernel
theorem d_Book_operation_113 : decode b_Book_operation 113 = .ok (.isub, 1) := by decide +kernel
theorem d_Book_operation_114 : decode b_Book_operation 114 = .ok (.istore 6, 2) := by decide +kernel
theorem d_Book_operation_116 : decode b_Book_operation 116 = .ok (.aload_n 0, 1) := by decide +kernel
theorem d_Book_operation_117 : decode b_Book_operation 117 = .ok (.iconst 3, 1) := by decide +kernel
theorem d_Book_operation_118 : decode b_Book_operation 118 = .ok (.invokevirtual 259, 3) := by decide +kernel
theorem d_Book_operation_121 : decode b_Book_operation 121 = .ok (.aload_n 0, 1) := by decide +kernel
theorem d_Book_operation_122 : decode b_Book_operation 122 = .ok (.getfield 238, 3) := by decide +kernel
theorem d_Book_operation_125 : decode b_Book_operation 125 = .ok (.istore 7, 2) := by decide +kernel
theorem d_Book_operation_127 : decode b_Book_operation 127 = .ok (.aload_n 0, 1) := by decide +kernel
theorem d_Book_operation_128 : decode b_Book_operation 128 = .ok (.getfield 55, 3) := by decide +kernel
theorem d_Book_operation_131 : decode b_Book_operation 131 = .ok (.iload 7, 2) := by decide +kernel
theorem d_Book_operation_133 : decode b_Book_operation 133 = .ok (.aload_n 0, 1) := by decide +kernel
theorem d_Book_operation_134 : decode b_Book_operation 134 = .ok (.getfield 379, 3) := by decide +kernel
theorem d_Book_operation_137 : decode b_Book_operation 137 = .ok (.iastore, 1) := by decide +kernel
theorem d_Book_operation_138 : decode b_Book_operation 138 = .ok (.aload_n 0, 1) := by decide +kernel
theorem d_Book_operation_139 : decode b_Book_operation 139 = .ok (.getfield 61, 3) := by decide +kernel
theorem d_Book_operation_142 : decode b_Book_operation 142 = .ok (.iload 7, 2) := by decide +kernel
theorem d_Book_operation_144 : decode b_Book_operation 144 = .ok (.iload 6, 2) := by decide +kernel
theorem d_Book_operation_146 : decode b_Book_operation 146 = .ok (.iload 4, 2) := by decide +kernel
theorem d_Book_operation_148 : decode b_Book_operation 148 = .ok (.isub, 1) := by decide +kernel
theorem d_Book_operation_149 : decode b_Book_operation 149 = .ok (.iastore, 1) := by decide +kernel
theorem d_Book_operation_150 : decode b_Book_operation 150 = .ok (.iload 4, 2) := by decide +kernel
theorem d_Book_operation_152 : decode b_Book_operation 152 = .ok (.istore 8, 2) := by decide +kernel
theorem d_Book_operation_154 : decode b_Book_operation 154 = .ok (.iload 8, 2) := by decide +kernel
theorem d_Book_operation_156 : decode b_Book_operation 156 = .ok (.iload 6, 2) := by decide +kernel
theorem d_Book_operation_158 : decode b_Book_operation 158 = .ok (.if_icmp .ge (31), 3) := by decide +kernel
theorem d_Book_operation_161 : decode b_Book_operation 161 = .ok (.aload_n 0, 1) := by decide +kernel
theorem d_Book_operation_162 : decode b_Book_operation 162 = .ok (.getfield 65, 3) := by decide +kernel
theorem d_Book_operation_165 : decode b_Book_operation 165 = .ok (.aload_n 0, 1) := by decide +kernel
theorem d_Book_operation_166 : decode b_Book_operation 166 = .ok (.getfield 379, 3) := by decide +kernel
theorem d_Book_operation_169 : decode b_Book_operation 169 = .ok (.iload 8, 2) := by decide +kernel
theorem d_Book_operation_171 : decode b_Book_operation 171 = .ok (.iadd, 1) := by decide +kernel
theorem d_Book_operation_172 : decode b_Book_operation 172 = .ok (.iload 4, 2) := by decide +kernel
theorem d_Book_operation_174 : decode b_Book_operation 174 = .ok (.isub, 1) := by decide +kernel
theorem d_Book_operation_175 : decode b_Book_operation 175 = .ok (.aload_n 0, 1) := by decide +kernel
theorem d_Book_operation_176 : decode b_Book_operation 176 = .ok (.getfield 135, 3) := by decide +kernel
theorem d_Book_operation_179 : decode b_Book_operation 179 = .ok (.iload 8, 2) := by decide +kernel
theorem d_Book_operation_181 : decode b_Book_operation 181 = .ok (.baload, 1) := by decide +kernel
theorem d_Book_operation_182 : decode b_Book_operation 182 = .ok (.bastore, 1) := by decide +kernel
theorem d_Book_operation_183 : decode b_Book_operation 183 = .ok (.iinc 8 (1), 3) := by decide +kernel
theorem d_Book_operation_186 : decode b_Book_operation 186 = .ok (.goto (-32), 3) := by decide +kernel
theorem d_Book_operation_189 : decode b_Book_operation 189 = .ok (.aload_n 0, 1) := by decide +kernel
theorem d_Book_operation_190 : decode b_Book_operation 190 = .ok (.aload_n 0, 1) := by decide +kernel
theorem d_Book_operation_191 : decode b_Book_operation 191 = .ok (.getfield 379, 3) := by decide +kernel
theorem d_Book_operation_194 : decode b_Book_operation 194 = .ok (.iload 6, 2) := by decide +kernel
theorem d_Book_operation_196 : decode b_Book_operation 196 = .ok (.iadd, 1) := by decide +kernel
theorem d_Book_operation_197 : decode b_Book_operation 197 = .ok (.iload 4, 2) := by decide +kernel
theorem d_Book_operation_199 : decode b_Book_operation 199 = .ok (.isub, 1) := by decide +kernel
theorem d_Book_operation_200 : decode b_Book_operation 200 = .ok (.putfield 241, 3) := by decide +kernel
theorem d_Book_operation_203 : decode b_Book_operation 203 = .ok (.iload 6, 2) := by decide +kernel
theorem d_Book_operation_205 : decode b_Book_operation 205 = .ok (.iload 4, 2) := by decide +kernel
theorem d_Book_operation_207 : decode b_Book_operation 207 = .ok (.isub, 1) := by decide +kernel
theorem d_Book_operation_208 : decode b_Book_operation 208 = .ok (.aload_n 0, 1) := by decide +kernel
theorem d_Book_operation_209 : decode b_Book_operation 209 = .ok (.getfield 43, 3) := by decide +kernel
theorem d_Book_operation_212 : decode b_Book_operation 212 = .ok (.if_icmp .eq (9), 3) := by decide +kernel
theorem d_Book_operation_215 : decode b_Book_operation 215 = .ok (.aload_n 0, 1) := by decide +kernel
theorem d_Book_operation_216 : decode b_Book_operation 216 = .ok (.iconst 5, 1) := by decide +kernel
theorem d_Book_operation_217 : decode b_Book_operation 217 = .ok (.iload_n 3, 1) := by decide +kernel
theorem d_Book_operation_218 : decode b_Book_operation 218 = .ok (.invokevirtual 267, 3) := by decide +kernel
theorem d_Book_operation_221 : decode b_Book_operation 221 = .ok (.aload_n 0, 1) := by decide +kernel
theorem d_Book_operation_222 : decode b_Book_operation 222 = .ok (.iconst 0, 1) := by decide +kernel
theorem d_Book_operation_223 : decode b_Book_operation 223 = .ok (.putfield 244, 3) := by decide +kernel
theorem d_Book_operation_226 : decode b_Book_operation 226 = .ok (.aload_n 0, 1) := by decide +kernel
theorem d_Book_operation_227 : decode b_Book_operation 227 = .ok (.iconst 0, 1) := by decide +kernel
theorem d_Book_operation_228 : decode b_Book_operation 228 = .ok (.putfield 382, 3) := by decide +kernel
theorem d_Book_operation_231 : decode b_Book_operation 231 = .ok (.aload_n 0, 1) := by decide +kernel
theorem d_Book_operation_232 : decode b_Book_operation 232 = .ok (.getfield 58, 3) := by decide +kernel
theorem d_Book_operation_235 : decode b_Book_operation 235 = .ok (.iload 7, 2) := by decide +kernel
theorem d_Book_operation_237 : decode b_Book_operation 237 = .ok (.aload_n 0, 1) := by decide +kernel
theorem d_Book_operation_238 : decode b_Book_operation 238 = .ok (.invokevirtual 385, 3) := by decide +kernel
theorem d_Book_operation_241 : decode b_Book_operation 241 = .ok (.iastore, 1) := by decide +kernel
theorem d_Book_operation_242 : decode b_Book_operation 242 = .ok (.aload_n 0, 1) := by decide +kernel
theorem d_Book_operation_243 : decode b_Book_operation 243 = .ok (.getfield 49, 3) := by decide +kernel
theorem d_Book_operation_246 : decode b_Book_operation 246 = .ok (.iload 7, 2) := by decide +kernel
theorem d_Book_operation_248 : decode b_Book_operation 248 = .ok (.iload_n 1, 1) := by decide +kernel
theorem d_Book_operation_249 : decode b_Book_operation 249 = .ok (.iastore, 1) := by decide +kernel
theorem d_Book_operation_250 : decode b_Book_operation 250 = .ok (.aload_n 0, 1) := by decide +kernel
theorem d_Book_operation_251 : decode b_Book_operation 251 = .ok (.getfield 52, 3) := by decide +kernel
theorem d_Book_operation_254 : decode b_Book_operation 254 = .ok (.iload 7, 2) := by decide +kernel
theorem d_Book_operation_256 : decode b_Book_operation 256 = .ok (.iload_n 2, 1) := by decide +kernel
theorem d_Book_operation_257 : decode b_Book_operation 257 = .ok (.iastore, 1) := by decide +kernel
theorem d_Book_operation_258 : decode b_Book_operation 258 = .ok (.iload 5, 2) := by decide +kernel
theorem d_Book_operation_260 : decode b_Book_operation 260 = .ok (.ifCond .eq (4), 3) := by decide +kernel
theorem d_Book_operation_263 : decode b_Book_operation 263 = .ok (.return_, 1) := by decide +kernel
theorem d_Book_operation_264 : decode b_Book_operation 264 = .ok (.aload_n 0, 1) := by decide +kernel
theorem d_Book_operation_265 : decode b_Book_operation 265 = .ok (.aload_n 0, 1) := by decide +kernel
theorem d_Book_operation_266 : decode b_Book_operation 266 = .ok (.getfield 241, 3) := by decide +kernel
theorem d_Book_operation_269 : decode b_Book_operation 269 = .ok (.putfield 379, 3) := by decide +kernel
theorem d_Book_operation_272 : decode b_Book_operation 272 = .ok (.aload_n 0, 1) := by decide +kernel
theorem d_Book_operation_273 : decode b_Book_operation 273 = .ok (.dup, 1) := by decide +kernel
theorem d_Book_operation_274 : decode b_Book_operation 274 = .ok (.getfield 238, 3) := by decide +kernel
theorem d_Book_operation_277 : decode b_Book_operation 277 = .ok (.iconst 1, 1) := by decide +kernel
theorem d_Book_operation_278 : decode b_Book_operation 278 = .ok (.iadd, 1) := by decide +kernel
theorem d_Book_operation_279 : decode b_Book_operation 279 = .ok (.putfield 238, 3) := by decide +kernel
theorem d_Book_operation_282 : decode b_Book_operation 282 = .ok (.return_, 1) := by decide +kernel
set_option maxHeartbeats 4000000 in
set_option maxRecDepth 100000 in
theorem c_Book_operation_x (l : Launch) {dA : FieldType → ClassId} {D : va_G} {al : Nat → Nat} {ext : mv_Sh} {sk sv : Nat → Nat} (hi : mv_inj (mg dA D al ext)) (σ : mv_H) (len th n k cb b1 b2 : Nat) (hP : ZT 74 len σ σ th n k cb 0 b1 b2) (hk : mv_i σ 74 4 = 1) : mv_C l y_Book_operation (Cond.code y_Book_operation b_Book_operation 9 (Option.none : Option Jvm.ClassFile.FieldType) :: ma) ({ frames := 879, cells := 0, slots := 0, locals := 31424 }) (mg dA D al ext) (mK sk sv) [.ref (al 74)] σ (mv_Uv (ZO 74 len b1 σ) ("MachineLoomModel$Book$Wrong", al 107) (BF 74 σ)) := by
  refine mv_C.ofV (cc := b_Book_operation) (nL := 9) (ret := (Option.none : Option Jvm.ClassFile.FieldType)) (by decide +kernel) rfl hi (Nat.le_of_ble_eq_true rfl) ?_
  intro p e s m below meth c B hNs hr hnm hno
  have hS := hP
  have hL := hS.le
  have h3k : 3 * k ≤ b1 := hL.2.1
  refine mv_aload_n (pc := 0) B d_Book_operation_0 rfl 0 rfl ?_
  refine mv_callVUv (pc := 1) (n := 0) (ci := 12) (C := R_Book) B (mK_ok sk sv) hNs rfl rfl (c_Book_pass_x l hi _ len _ _ hS.1) rfl (ma_goodc kc_Book_pass) (B.2.2.2.1 _ k_2173) (B.2.2.2.1 _ k_2175) (B.2.2.2.1 _ ks_90) (B.2.2.2.1 _ k_13) ⟨by decide +kernel, by decide +kernel, by decide +kernel⟩ rfl d_Book_operation_1 rfl (Nat.le_of_ble_eq_true rfl) ⟨by decide, by decide⟩ ⟨by decide, by decide⟩ ⟨by decide, by decide⟩ (mv_noH hno _) (fun τ9 g9 => Or.inr ⟨rfl, hS.2.2.2.2.2.2.tr g9.bf⟩) (fun σ1 h1 => ?_)
  have w1 := hS.w (by rw [hk]; decide)
  obtain ⟨d1, t1, u1, q1, g1⟩ := h1
  have hS := hS.pass q1 g1
  clear hL
  have hL := hS.le
  refine mv_aload_n (pc := 4) B d_Book_operation_4 rfl 0 rfl ?_
  refine mv_callVUv (pc := 5) (n := 0) (ci := 12) (C := R_Book) B (mK_ok sk sv) hNs rfl rfl (c_Book_name_x l hi _ len _ _ hS.1) rfl (ma_goodc kc_Book_name) (B.2.2.2.1 _ k_2194) (B.2.2.2.1 _ k_2196) (B.2.2.2.1 _ ks_94) (B.2.2.2.1 _ k_13) ⟨by decide +kernel, by decide +kernel, by decide +kernel⟩ rfl d_Book_operation_5 rfl (Nat.le_of_ble_eq_true rfl) ⟨by decide, by decide⟩ ⟨by decide, by decide⟩ ⟨by decide, by decide⟩ (mv_noH hno _) (fun τ9 g9 => Or.inr ⟨rfl, hS.2.2.2.2.2.2.tr g9⟩) (fun σ5 h5 => ?_)
  obtain ⟨k5, d5, ⟨t5, u5, q5, g5⟩, y5⟩ := h5
  have w5 := hS.w (by rw [k5]; decide)
  have hsp := name_sp (c1 := 0) (c2 := 0) y5 hS.1.sp
  have hS := hS.name q5 g5 y5
  clear hL
  have hL := hS.le
  have hs5 := hS.1.2.1
  refine mv_aload_n (pc := 8) B d_Book_operation_8 rfl 0 rfl ?_
  refine mv_getI (pc := 9) (ci := 12) (C := R_Book) (T := F_Book) (N := 65) B 49 rfl rfl (by decide) i_Book (B.2.2.2.1 _ k_1898) rfl d_Book_operation_9 ?_
  refine mv_istore_n (pc := 12) B d_Book_operation_12 rfl (by decide) rfl ?_
  refine mv_aload_n (pc := 13) B d_Book_operation_13 rfl 1 rfl ?_
  refine mv_getI (pc := 14) (ci := 12) (C := R_Book) (T := F_Book) (N := 65) B 50 rfl rfl (by decide) i_Book (B.2.2.2.1 _ k_1899) rfl d_Book_operation_14 ?_
  refine mv_istore_n (pc := 17) B d_Book_operation_17 rfl (by decide) rfl ?_
  refine mv_aload_n (pc := 18) B d_Book_operation_18 rfl 2 rfl ?_
  refine mv_getI (pc := 19) (ci := 12) (C := R_Book) (T := F_Book) (N := 65) B 5 rfl rfl (by decide) i_Book (B.2.2.2.1 _ k_1848) rfl d_Book_operation_19 ?_
  refine mv_istore_n (pc := 22) B d_Book_operation_22 rfl (by decide) rfl ?_
  refine mv_aload_n (pc := 23) B d_Book_operation_23 rfl 3 rfl ?_
  refine mv_getI (pc := 24) (ci := 12) (C := R_Book) (T := F_Book) (N := 65) B 5 rfl rfl (by decide) i_Book (B.2.2.2.1 _ k_1848) rfl d_Book_operation_24 ?_
  refine mv_iconst (pc := 27) (v := 1) B d_Book_operation_27 (by decide) ?_
  refine mv_iadd (pc := 28) B d_Book_operation_28 ?_
  refine mv_topi (fun y28 ey28 => ?_)
  have fy28 := i32_addE ey28 (by (try simp only [Int32.reduceToInt]); omega) (by (try simp only [Int32.reduceToInt]); omega)
  try simp only [Int32.reduceToInt] at fy28
  refine mv_istore (pc := 29) B d_Book_operation_29 (by decide) rfl ?_
  have j108 : ∀ (τ : mv_H) (k9 : Int32) (p9 : Int32) (hT : FT 74 σ5 τ) (hk9 : ¬ k9 = 0 → ¬ (mv_i τ 74 38).toInt ≤ 0), mv_V p l e ({ frames := 879, cells := 0, slots := 0, locals := 31424 }) s m ([.ref (al 74)] : List Value).toArray below meth c (mg dA D al ext) 9 0 0 (mv_Q (mg dA D al ext) below s 0 0 (mv_Uv (ZO 74 len b1 σ) ("MachineLoomModel$Book$Wrong", al 107) (BF 74 σ))) τ 108 [(0, .ref (al 74)), (1, .int (mv_i σ5 74 49)), (2, .int (mv_i σ5 74 50)), (3, .int p9), (4, .int y28), (5, .int k9)] [] := by
    intro τ k9 p9 hT hk9
    have hS := hS.ft hT
    clear hL
    have hL := hS.le
    have hst := hS.1.stop
    have hcb5 : cb ≤ t5 := hL.2.2.1
    refine mv_aload_n (pc := 108) B d_Book_operation_108 rfl 0 rfl ?_
    refine mv_getI (pc := 109) (ci := 12) (C := R_Book) (T := F_Book) (N := 65) B 6 rfl rfl (by decide) i_Book (B.2.2.2.1 _ k_1849) rfl d_Book_operation_109 ?_
    refine mv_iconst (pc := 112) (v := 1) B d_Book_operation_112 (by decide) ?_
    refine mv_isub (pc := 113) B d_Book_operation_113 ?_
    refine mv_topi (fun y113 ey113 => ?_)
    have fy113 := i32_subE ey113 (by (try simp only [Int32.reduceToInt]); omega) (by (try simp only [Int32.reduceToInt]); omega)
    try simp only [Int32.reduceToInt] at fy113
    refine mv_istore (pc := 114) B d_Book_operation_114 (by decide) rfl ?_
    refine mv_aload_n (pc := 116) B d_Book_operation_116 rfl 1 rfl ?_
    refine mv_iconst (pc := 117) (v := 3) B d_Book_operation_117 (by decide) ?_
    refine mv_callVUv (pc := 118) (n := 1) (ci := 12) (C := R_Book) B (mK_ok sk sv) hNs rfl rfl (c_Book_need_x l hi _ _ len _ _ hS.1) rfl (ma_goodc kc_Book_need) (B.2.2.2.1 _ k_2177) (B.2.2.2.1 _ k_2179) (B.2.2.2.1 _ ks_91) (B.2.2.2.1 _ k_13) ⟨by decide +kernel, by decide +kernel, by decide +kernel⟩ rfl d_Book_operation_118 rfl (Nat.le_of_ble_eq_true rfl) ⟨by decide, by decide⟩ ⟨by decide, by decide⟩ ⟨by decide, by decide⟩ (mv_noH hno _) (fun τ9 g9 => Or.inr ⟨rfl, hS.2.2.2.2.2.2.tr g9.bf⟩) (fun σ118 h118 => ?_)
    obtain ⟨k118, d118, t118, u118, q118, g118⟩ := h118
    have w118 := hS.w (by rw [k118]; decide)
    have hw2 := hS.1.2.2.2.2.2 k118
    have hS := hS.pass q118 g118
    clear hL
    have hL := hS.le
    have hbn : (mv_i σ118 74 38).toInt ≤ 0 → (mv_i τ 74 38).toInt ≤ 0 := fun z => by rw [q118.bn] at z; exact z
    have hK : (mv_i σ118 74 29).toNatClampNeg = k := by have := i32_cl (x := (mv_i σ118 74 29)) (by omega); omega
    have hk29 : (mv_i σ118 74 29).toInt = k := by omega
    refine mv_aload_n (pc := 121) B d_Book_operation_121 rfl 1 rfl ?_
    refine mv_getI (pc := 122) (ci := 12) (C := R_Book) (T := F_Book) (N := 65) B 29 rfl rfl (by decide) i_Book (B.2.2.2.1 _ k_1874) rfl d_Book_operation_122 ?_
    refine mv_istore (pc := 125) B d_Book_operation_125 (by decide) rfl ?_
    refine mv_aload_n (pc := 127) B d_Book_operation_127 rfl 2 rfl ?_
    refine mv_getR (pc := 128) (ci := 12) (C := R_Book) (T := F_Book) (N := 65) B 25 rfl rfl (by decide) i_Book (B.2.2.2.1 _ k_1870) rfl (hS.R.1 _ 25 _ rfl) d_Book_operation_128 ?_
    refine mv_iload (pc := 131) B d_Book_operation_131 0 rfl ?_
    refine mv_aload_n (pc := 133) B d_Book_operation_133 rfl 2 rfl ?_
    refine mv_getI (pc := 134) (ci := 12) (C := R_Book) (T := F_Book) (N := 65) B 51 rfl rfl (by decide) i_Book (B.2.2.2.1 _ k_1900) rfl d_Book_operation_134 ?_
    refine mv_iast (pc := 137) B rfl (i32_in (x := (mv_i σ118 74 29)) (by omega) (by omega)) d_Book_operation_137 ?_
    refine mv_aload_n (pc := 138) B d_Book_operation_138 rfl 2 rfl ?_
    refine mv_getR (pc := 139) (ci := 12) (C := R_Book) (T := F_Book) (N := 65) B 27 rfl rfl (by decide) i_Book (B.2.2.2.1 _ k_1872) rfl (hS.R.1 _ 27 _ rfl) d_Book_operation_139 ?_
    refine mv_iload (pc := 142) B d_Book_operation_142 0 rfl ?_
    refine mv_iload (pc := 144) B d_Book_operation_144 1 rfl ?_
    refine mv_iload (pc := 146) B d_Book_operation_146 6 rfl ?_
    refine mv_isub (pc := 148) B d_Book_operation_148 ?_
    refine mv_topi (fun y148 ey148 => ?_)
    have fy148 := i32_subE ey148 (by (try simp only [Int32.reduceToInt]); omega) (by (try simp only [Int32.reduceToInt]); omega)
    try simp only [Int32.reduceToInt] at fy148
    refine mv_iast (pc := 149) B rfl (i32_in (x := (mv_i σ118 74 29)) (by omega) (by omega)) d_Book_operation_149 ?_
    refine mv_gen (fun S150 eS150 => ?_)
    have hS := (hS.a (o := 84) (j := (mv_i σ118 74 29).toNatClampNeg) (v := mv_i σ118 74 51) (by omega)).a (o := 86) (j := (mv_i σ118 74 29).toNatClampNeg) (v := y148) (by omega)
    rw [← eS150] at hS
    have hca : (mv_a S150 84 k).toInt = cb := by
      rw [eS150]
      show Int32.toInt (mv_u (mv_u (mv_a σ118) 84 (mv_i σ118 74 29).toNatClampNeg (mv_i σ118 74 51)) 86 (mv_i σ118 74 29).toNatClampNeg y148 84 k) = cb
      rw [mv_u_ne _ _ (by omega), hK, mv_u_same]
      omega
    have hbn : (mv_i S150 74 38).toInt ≤ 0 → (mv_i τ 74 38).toInt ≤ 0 := by rw [eS150]; exact hbn
    clear eS150
    have j189 : ∀ (S : mv_H) (hS : ZT 74 len σ S th n k cb 0 t118 u118) (hca : (mv_a S 84 k).toInt = cb) (hbn : (mv_i S 74 38).toInt ≤ 0 → (mv_i τ 74 38).toInt ≤ 0), mv_V p l e ({ frames := 879, cells := 0, slots := 0, locals := 31424 }) s m ([.ref (al 74)] : List Value).toArray below meth c (mg dA D al ext) 9 0 0 (mv_Q (mg dA D al ext) below s 0 0 (mv_Uv (ZO 74 len b1 σ) ("MachineLoomModel$Book$Wrong", al 107) (BF 74 σ))) S 189 [(0, .ref (al 74)), (1, .int (mv_i σ5 74 49)), (2, .int (mv_i σ5 74 50)), (3, .int p9), (4, .int y28), (5, .int k9), (6, .int y113), (7, .int (mv_i σ118 74 29))] [] := by
      intro S hS hca hbn
      clear hL
      have hL := hS.le
      have h51s := hL.2.2.2.2.2.2.2.2.2.2
      refine mv_aload_n (pc := 189) B d_Book_operation_189 rfl 0 rfl ?_
      refine mv_aload_n (pc := 190) B d_Book_operation_190 rfl 0 rfl ?_
      refine mv_getI (pc := 191) (ci := 12) (C := R_Book) (T := F_Book) (N := 65) B 51 rfl rfl (by decide) i_Book (B.2.2.2.1 _ k_1900) rfl d_Book_operation_191 ?_
      refine mv_iload (pc := 194) B d_Book_operation_194 6 rfl ?_
      refine mv_iadd (pc := 196) B d_Book_operation_196 ?_
      refine mv_topi (fun y196 ey196 => ?_)
      have fy196 := i32_addE ey196 (by (try simp only [Int32.reduceToInt]); omega) (by (try simp only [Int32.reduceToInt]); omega)
      try simp only [Int32.reduceToInt] at fy196
      refine mv_iload (pc := 197) B d_Book_operation_197 4 rfl ?_
      refine mv_isub (pc := 199) B d_Book_operation_199 ?_
      refine mv_topi (fun y199 ey199 => ?_)
      have fy199 := i32_subE ey199 (by (try simp only [Int32.reduceToInt]); omega) (by (try simp only [Int32.reduceToInt]); omega)
      try simp only [Int32.reduceToInt] at fy199
      refine mv_putI (pc := 200) (ci := 12) (C := R_Book) (T := F_Book) (N := 65) B 30 rfl rfl (by decide) i_Book t_Book_ok n_Book (B.2.2.2.1 _ k_1876) rfl rfl rfl rfl d_Book_operation_200 ?_
      refine mv_gen (fun S203 eS203 => ?_)
      have hS := hS.i (j := 30) (v := y199) (Or.inr (Or.inl rfl))
      rw [← eS203] at hS
      have h30 : (mv_i S203 74 30).toInt = y199.toInt := by rw [eS203]; rfl
      have hca : (mv_a S203 84 k).toInt = cb := by rw [eS203]; exact hca
      have hbn : (mv_i S203 74 38).toInt ≤ 0 → (mv_i τ 74 38).toInt ≤ 0 := by rw [eS203]; exact hbn
      clear eS203
      refine mv_iload (pc := 203) B d_Book_operation_203 6 rfl ?_
      refine mv_iload (pc := 205) B d_Book_operation_205 4 rfl ?_
      refine mv_isub (pc := 207) B d_Book_operation_207 ?_
      refine mv_topi (fun y207 ey207 => ?_)
      have fy207 := i32_subE ey207 (by (try simp only [Int32.reduceToInt]); omega) (by (try simp only [Int32.reduceToInt]); omega)
      try simp only [Int32.reduceToInt] at fy207
      have j221 : ∀ (τ2 : mv_H) (hT2 : FT 74 S203 τ2) (hln : (mv_i τ2 74 38).toInt ≤ 0 → y207.toInt = (mv_i τ2 74 20).toInt), mv_V p l e ({ frames := 879, cells := 0, slots := 0, locals := 31424 }) s m ([.ref (al 74)] : List Value).toArray below meth c (mg dA D al ext) 9 0 0 (mv_Q (mg dA D al ext) below s 0 0 (mv_Uv (ZO 74 len b1 σ) ("MachineLoomModel$Book$Wrong", al 107) (BF 74 σ))) τ2 221 [(0, .ref (al 74)), (1, .int (mv_i σ5 74 49)), (2, .int (mv_i σ5 74 50)), (5, .int k9), (7, .int (mv_i σ118 74 29))] [] := by
        intro τ2 hT2 hln
        refine mv_aload_n (pc := 221) B d_Book_operation_221 rfl 0 rfl ?_
        refine mv_iconst (pc := 222) (v := 0) B d_Book_operation_222 (by decide) ?_
        refine mv_putI (pc := 223) (ci := 12) (C := R_Book) (T := F_Book) (N := 65) B 35 rfl rfl (by decide) i_Book t_Book_ok n_Book (B.2.2.2.1 _ k_1881) rfl rfl rfl rfl d_Book_operation_223 ?_
        refine mv_aload_n (pc := 226) B d_Book_operation_226 rfl 0 rfl ?_
        refine mv_iconst (pc := 227) (v := 0) B d_Book_operation_227 (by decide) ?_
        refine mv_putI (pc := 228) (ci := 12) (C := R_Book) (T := F_Book) (N := 65) B 36 rfl rfl (by decide) i_Book t_Book_ok n_Book (B.2.2.2.1 _ k_1882) rfl rfl rfl rfl d_Book_operation_228 ?_
        refine mv_gen (fun S231 eS231 => ?_)
        have hS := ((hS.ft hT2).i (j := 35) (v := 0) (Or.inr (Or.inr (Or.inl rfl)))).i (j := 36) (v := 0) (Or.inr (Or.inr (Or.inr rfl)))
        rw [← eS231] at hS
        have h35 : mv_i S231 74 35 = 0 := by rw [eS231]; rfl
        have h36 : mv_i S231 74 36 = 0 := by rw [eS231]; rfl
        have h30 : (mv_i S231 74 30).toInt = y199.toInt := by rw [eS231]; exact (congrArg Int32.toInt (hT2.2.1 30 (by omega))).trans h30
        have hca : (mv_a S231 84 k).toInt = cb := by rw [eS231]; exact (congrArg Int32.toInt (hT2.1.2.2.2.1 _ _ id)).trans hca
        have h20 : (mv_i S231 74 38).toInt ≤ 0 → y207.toInt = (mv_i S231 74 20).toInt := by rw [eS231]; exact hln
        have hbn : (mv_i S231 74 38).toInt ≤ 0 → (mv_i τ 74 38).toInt ≤ 0 := by rw [eS231]; exact fun z => hbn (hT2.2.2 z)
        clear hL
        have hL := hS.le
        clear eS231
        refine mv_aload_n (pc := 231) B d_Book_operation_231 rfl 0 rfl ?_
        refine mv_getR (pc := 232) (ci := 12) (C := R_Book) (T := F_Book) (N := 65) B 26 rfl rfl (by decide) i_Book (B.2.2.2.1 _ k_1871) rfl (hS.R.1 _ 26 _ rfl) d_Book_operation_232 ?_
        refine mv_iload (pc := 235) B d_Book_operation_235 4 rfl ?_
        refine mv_aload_n (pc := 237) B d_Book_operation_237 rfl 0 rfl ?_
        refine mv_callVUi (pc := 238) (n := 0) (ci := 12) (C := R_Book) B (mK_ok sk sv) hNs rfl rfl (c_Book_block0_x l hi _ len th 0 0 n _ _ (hS.ss hca (by omega) h35 h36)) rfl (ma_goodc kc_Book_block) (B.2.2.2.1 _ k_2232) (B.2.2.2.1 _ k_2234) (B.2.2.2.1 _ ks_101) (B.2.2.2.1 _ k_13) ⟨by decide +kernel, by decide +kernel, by decide +kernel⟩ rfl d_Book_operation_238 rfl (Nat.le_of_ble_eq_true rfl) ⟨by decide, by decide⟩ ⟨by decide, by decide⟩ ⟨by decide, by decide⟩ (mv_noH hno _) (fun τ9 g9 => Or.inr ⟨rfl, hS.2.2.2.2.2.2.tr g9⟩) (fun v238 σ238 h238 => ?_)
        obtain ⟨e238, n238, t238, u238, s238, i238, x238⟩ := h238
        have hR238 : Br 74 (mv_r σ238) := s238.1.1.1.1.2.1
        have o238 := s238.2.2.2.2.2.1
        refine mv_iast (pc := 241) B rfl (i32_in (x := (mv_i σ118 74 29)) (by omega) (by omega)) d_Book_operation_241 ?_
        refine mv_aload_n (pc := 242) B d_Book_operation_242 rfl 0 rfl ?_
        refine mv_getR (pc := 243) (ci := 12) (C := R_Book) (T := F_Book) (N := 65) B 23 rfl rfl (by decide) i_Book (B.2.2.2.1 _ k_1868) rfl (hR238.1 _ 23 _ rfl) d_Book_operation_243 ?_
        refine mv_iload (pc := 246) B d_Book_operation_246 4 rfl ?_
        refine mv_iload_n (pc := 248) B d_Book_operation_248 rfl 1 rfl ?_
        refine mv_iast (pc := 249) B rfl (i32_in (x := (mv_i σ118 74 29)) (by omega) (by omega)) d_Book_operation_249 ?_
        refine mv_aload_n (pc := 250) B d_Book_operation_250 rfl 0 rfl ?_
        refine mv_getR (pc := 251) (ci := 12) (C := R_Book) (T := F_Book) (N := 65) B 24 rfl rfl (by decide) i_Book (B.2.2.2.1 _ k_1869) rfl (hR238.1 _ 24 _ rfl) d_Book_operation_251 ?_
        refine mv_iload (pc := 254) B d_Book_operation_254 4 rfl ?_
        refine mv_iload_n (pc := 256) B d_Book_operation_256 rfl 2 rfl ?_
        refine mv_iast (pc := 257) B rfl (i32_in (x := (mv_i σ118 74 29)) (by omega) (by omega)) d_Book_operation_257 ?_
        refine mv_gen (fun S258 eS258 => ?_)
        have e258 : S258 = op9 74 σ238 k v238 (mv_i σ5 74 49) (mv_i σ5 74 50) := by rw [eS258, hK]; rfl
        clear eS258
        refine mv_iload (pc := 258) B d_Book_operation_258 3 rfl ?_
        refine mv_if_eq (pc := 260) (tgt := 264) B d_Book_operation_260 rfl (fun h260 => ?_) (fun h260 => ?_)
        · skip
          refine mv_aload_n (pc := 264) B d_Book_operation_264 rfl 0 rfl ?_
          refine mv_aload_n (pc := 265) B d_Book_operation_265 rfl 0 rfl ?_
          refine mv_getI (pc := 266) (ci := 12) (C := R_Book) (T := F_Book) (N := 65) B 30 rfl rfl (by decide) i_Book (B.2.2.2.1 _ k_1876) rfl d_Book_operation_266 ?_
          refine mv_putI (pc := 269) (ci := 12) (C := R_Book) (T := F_Book) (N := 65) B 51 rfl rfl (by decide) i_Book t_Book_ok n_Book (B.2.2.2.1 _ k_1900) rfl rfl rfl rfl d_Book_operation_269 ?_
          refine mv_aload_n (pc := 272) B d_Book_operation_272 rfl 0 rfl ?_
          refine mv_dup (pc := 273) B d_Book_operation_273 rfl ?_
          refine mv_getI (pc := 274) (ci := 12) (C := R_Book) (T := F_Book) (N := 65) B 29 rfl rfl (by decide) i_Book (B.2.2.2.1 _ k_1874) rfl d_Book_operation_274 ?_
          refine mv_iconst (pc := 277) (v := 1) B d_Book_operation_277 (by decide) ?_
          refine mv_iadd (pc := 278) B d_Book_operation_278 ?_
          refine mv_putI (pc := 279) (ci := 12) (C := R_Book) (T := F_Book) (N := 65) B 29 rfl rfl (by decide) i_Book t_Book_ok n_Book (B.2.2.2.1 _ k_1874) rfl rfl rfl rfl d_Book_operation_279 ?_
          exact mv_vret (pc := 282) B hr d_Book_operation_282 (Nat.le_refl _) (Nat.le_refl _) (Or.inl ⟨rfl, by rw [e258]; exact ⟨_, _, _, _, _, _, hS.op (ce := (y199.toInt).toNat) s238 x238 hsp (by omega) (by omega) (by omega) (by omega) hca (fun z => by have := h20 z; omega), by omega⟩⟩)
        · skip
          exact mv_vret (pc := 263) B hr d_Book_operation_263 (Nat.le_refl _) (Nat.le_refl _) (Or.inl ⟨rfl, by rw [e258]; exact ⟨_, _, _, _, _, _, hS.known s238 (fun z => hk9 h260 (hbn z)), by omega⟩⟩)
      refine mv_aload_n (pc := 208) B d_Book_operation_208 rfl 0 rfl ?_
      refine mv_getI (pc := 209) (ci := 12) (C := R_Book) (T := F_Book) (N := 65) B 20 rfl rfl (by decide) i_Book (B.2.2.2.1 _ k_1865) rfl d_Book_operation_209 ?_
      refine mv_icmp_eq (pc := 212) (tgt := 221) B d_Book_operation_212 rfl (fun h212 => ?_) (fun h212 => ?_)
      · skip
        refine mv_lpick [0, 1, 2, 5, 7] rfl ?_
        exact j221 _ (by first | exact FT.rf | exact FT.rf.of h218) (by first | exact fun _ => congrArg Int32.toInt h212 | exact fun z => absurd z h218.2.1)
      · skip
        refine mv_aload_n (pc := 215) B d_Book_operation_215 rfl 0 rfl ?_
        refine mv_iconst (pc := 216) (v := 5) B d_Book_operation_216 (by decide) ?_
        refine mv_iload_n (pc := 217) B d_Book_operation_217 rfl 3 rfl ?_
        refine mv_callVv (pc := 218) (n := 2) (ci := 12) (C := R_Book) B (mK_ok sk sv) hNs rfl rfl (c_Book_fault_x l hi _ _ _ (by decide)) rfl (ma_goodc kc_Book_fault) (B.2.2.2.1 _ k_2185) (B.2.2.2.1 _ k_2187) (B.2.2.2.1 _ ks_92) (B.2.2.2.1 _ k_13) ⟨by decide +kernel, by decide +kernel, by decide +kernel⟩ rfl d_Book_operation_218 rfl (Nat.le_of_ble_eq_true rfl) ⟨by decide, by decide⟩ ⟨by decide, by decide⟩ ⟨by decide, by decide⟩ (mv_noH hno _) (fun σ218 h218 => ?_)
        refine mv_lpick [0, 1, 2, 5, 7] rfl ?_
        exact j221 _ (by first | exact FT.rf | exact FT.rf.of h218) (by first | exact fun _ => congrArg Int32.toInt h212 | exact fun z => absurd z h218.2.1)
    have lp8 : ∀ (nn : Nat) (S : mv_H) (i9 : Int32) (hS : ZT 74 len σ S th n k cb 0 t118 u118) (hca : (mv_a S 84 k).toInt = cb) (hbn : (mv_i S 74 38).toInt ≤ 0 → (mv_i τ 74 38).toInt ≤ 0) (hi9 : y28.toInt ≤ i9.toInt), (20000 - i9.toInt).toNat < nn → mv_V p l e ({ frames := 879, cells := 0, slots := 0, locals := 31424 }) s m ([.ref (al 74)] : List Value).toArray below meth c (mg dA D al ext) 9 0 0 (mv_Q (mg dA D al ext) below s 0 0 (mv_Uv (ZO 74 len b1 σ) ("MachineLoomModel$Book$Wrong", al 107) (BF 74 σ))) S 154 [(8, .int i9), (0, .ref (al 74)), (1, .int (mv_i σ5 74 49)), (2, .int (mv_i σ5 74 50)), (3, .int p9), (4, .int y28), (5, .int k9), (6, .int y113), (7, .int (mv_i σ118 74 29))] [] := by
      intro nn
      induction nn with
      | zero => intro S i9 hS hca hbn hi9 hm; exact absurd hm (Nat.not_lt_zero _)
      | succ nn ih =>
        intro S i9 hS hca hbn hi9 hm
        clear hL
        have hL := hS.le
        refine mv_iload (pc := 154) B d_Book_operation_154 0 rfl ?_
        refine mv_iload (pc := 156) B d_Book_operation_156 7 rfl ?_
        refine mv_icmp_ge (pc := 158) (tgt := 189) B d_Book_operation_158 rfl (fun h158 => ?_) (fun h158 => ?_)
        · skip
          refine mv_lpick [1, 2, 3, 4, 5, 6, 7, 8] rfl ?_
          exact j189 _ hS hca hbn
        · skip
          rw [Int32.le_iff_toInt_le] at h158
          refine mv_aload_n (pc := 161) B d_Book_operation_161 rfl 1 rfl ?_
          refine mv_getR (pc := 162) (ci := 12) (C := R_Book) (T := F_Book) (N := 65) B 28 rfl rfl (by decide) i_Book (B.2.2.2.1 _ k_1873) rfl (hS.R.1 _ 28 _ rfl) d_Book_operation_162 ?_
          refine mv_aload_n (pc := 165) B d_Book_operation_165 rfl 1 rfl ?_
          refine mv_getI (pc := 166) (ci := 12) (C := R_Book) (T := F_Book) (N := 65) B 51 rfl rfl (by decide) i_Book (B.2.2.2.1 _ k_1900) rfl d_Book_operation_166 ?_
          refine mv_iload (pc := 169) B d_Book_operation_169 0 rfl ?_
          refine mv_iadd (pc := 171) B d_Book_operation_171 ?_
          refine mv_topi (fun y171 ey171 => ?_)
          have fy171 := i32_addE ey171 (by (try simp only [Int32.reduceToInt]); omega) (by (try simp only [Int32.reduceToInt]); omega)
          try simp only [Int32.reduceToInt] at fy171
          refine mv_iload (pc := 172) B d_Book_operation_172 5 rfl ?_
          refine mv_isub (pc := 174) B d_Book_operation_174 ?_
          refine mv_topi (fun y174 ey174 => ?_)
          have fy174 := i32_subE ey174 (by (try simp only [Int32.reduceToInt]); omega) (by (try simp only [Int32.reduceToInt]); omega)
          try simp only [Int32.reduceToInt] at fy174
          refine mv_aload_n (pc := 175) B d_Book_operation_175 rfl 1 rfl ?_
          refine mv_getR (pc := 176) (ci := 12) (C := R_Book) (T := F_Book) (N := 65) B 1 rfl rfl (by decide) i_Book (B.2.2.2.1 _ k_1844) rfl hS.R.2 d_Book_operation_176 ?_
          refine mv_iload (pc := 179) B d_Book_operation_179 0 rfl ?_
          refine mv_bald (pc := 181) B rfl (i32_in (show 0 ≤ i9.toInt by omega) (show i9.toInt < 32768 by omega)) d_Book_operation_181 ?_
          refine mv_bast (pc := 182) B rfl (i32_in (show 0 ≤ y174.toInt by omega) (show y174.toInt < 32768 by omega)) d_Book_operation_182 ?_
          refine mv_gen (fun S183 eS183 => ?_)
          have hS := hS.a (o := 87) (j := y174.toNatClampNeg) (v := vp_nar .byte (mv_a S 71 i9.toNatClampNeg)) (by omega)
          rw [← eS183] at hS
          have hca : (mv_a S183 84 k).toInt = cb := by rw [eS183]; exact (congrArg Int32.toInt (mv_u_ne _ _ (by omega))).trans hca
          have hbn : (mv_i S183 74 38).toInt ≤ 0 → (mv_i τ 74 38).toInt ≤ 0 := by rw [eS183]; exact hbn
          have w2 : (i9 + 1).toInt = i9.toInt + 1 := i32_inc (by omega)
          clear eS183
          refine mv_iinc (pc := 183) (j := 0) (v := 1) B d_Book_operation_183 rfl (by decide) (by decide) rfl ?_
          refine mv_goto (pc := 186) (tgt := 154) B d_Book_operation_186 rfl ?_
          refine mv_lpick [0, 1, 2, 3, 4, 5, 6, 7, 8] rfl ?_
          exact ih _ _ hS hca hbn (by omega) (by omega)
    refine mv_iload (pc := 150) B d_Book_operation_150 6 rfl ?_
    refine mv_istore (pc := 152) B d_Book_operation_152 (by decide) rfl ?_
    refine mv_lpick [0, 3, 4, 5, 6, 7, 8, 2, 1] rfl ?_
    exact lp8 _ _ _ hS hca hbn (Int.le_refl _) (Nat.lt_succ_self _)
  have j77 : ∀ (k9 : Int32) (p9 : Int32) , mv_V p l e ({ frames := 879, cells := 0, slots := 0, locals := 31424 }) s m ([.ref (al 74)] : List Value).toArray below meth c (mg dA D al ext) 9 0 0 (mv_Q (mg dA D al ext) below s 0 0 (mv_Uv (ZO 74 len b1 σ) ("MachineLoomModel$Book$Wrong", al 107) (BF 74 σ))) σ5 77 [(0, .ref (al 74)), (1, .int (mv_i σ5 74 49)), (2, .int (mv_i σ5 74 50)), (3, .int p9), (4, .int y28), (5, .int k9)] [] := by
    intro k9 p9
    refine mv_iload (pc := 77) B d_Book_operation_77 5 rfl ?_
    refine mv_if_eq (pc := 79) (tgt := 91) B d_Book_operation_79 rfl (fun h79 => ?_) (fun h79 => ?_)
    · skip
      refine mv_aload_n (pc := 91) B d_Book_operation_91 rfl 0 rfl ?_
      refine mv_getI (pc := 92) (ci := 12) (C := R_Book) (T := F_Book) (N := 65) B 29 rfl rfl (by decide) i_Book (B.2.2.2.1 _ k_1874) rfl d_Book_operation_92 ?_
      refine mv_sipush (pc := 95) (v := 512) B d_Book_operation_95 (by decide) ?_
      refine mv_icmp_lt (pc := 98) (tgt := 108) B d_Book_operation_98 rfl (fun h98 => ?_) (fun h98 => ?_)
      · skip
        refine mv_lpick [0, 1, 2, 3, 4, 5] rfl ?_
        exact j108 _ _ _ (by first | exact FT.rf | exact FT.rf.of h85 | exact FT.rf.of h105) (by first | exact fun _ => h85.2.1 | exact fun z => absurd h79 z)
      · skip
        refine mv_aload_n (pc := 101) B d_Book_operation_101 rfl 0 rfl ?_
        refine mv_bipush (pc := 102) (v := 6) B d_Book_operation_102 (by decide) ?_
        refine mv_iload_n (pc := 104) B d_Book_operation_104 rfl 1 rfl ?_
        refine mv_callVv (pc := 105) (n := 2) (ci := 12) (C := R_Book) B (mK_ok sk sv) hNs rfl rfl (c_Book_fault_x l hi _ _ _ (by decide)) rfl (ma_goodc kc_Book_fault) (B.2.2.2.1 _ k_2185) (B.2.2.2.1 _ k_2187) (B.2.2.2.1 _ ks_92) (B.2.2.2.1 _ k_13) ⟨by decide +kernel, by decide +kernel, by decide +kernel⟩ rfl d_Book_operation_105 rfl (Nat.le_of_ble_eq_true rfl) ⟨by decide, by decide⟩ ⟨by decide, by decide⟩ ⟨by decide, by decide⟩ (mv_noH hno _) (fun σ105 h105 => ?_)
        refine mv_lpick [0, 1, 2, 3, 4, 5] rfl ?_
        exact j108 _ _ _ (by first | exact FT.rf | exact FT.rf.of h85 | exact FT.rf.of h105) (by first | exact fun _ => h85.2.1 | exact fun z => absurd h79 z)
    · skip
      refine mv_aload_n (pc := 82) B d_Book_operation_82 rfl 0 rfl ?_
      refine mv_iconst (pc := 83) (v := 2) B d_Book_operation_83 (by decide) ?_
      refine mv_iload_n (pc := 84) B d_Book_operation_84 rfl 1 rfl ?_
      refine mv_callVv (pc := 85) (n := 2) (ci := 12) (C := R_Book) B (mK_ok sk sv) hNs rfl rfl (c_Book_fault_x l hi _ _ _ (by decide)) rfl (ma_goodc kc_Book_fault) (B.2.2.2.1 _ k_2185) (B.2.2.2.1 _ k_2187) (B.2.2.2.1 _ ks_92) (B.2.2.2.1 _ k_13) ⟨by decide +kernel, by decide +kernel, by decide +kernel⟩ rfl d_Book_operation_85 rfl (Nat.le_of_ble_eq_true rfl) ⟨by decide, by decide⟩ ⟨by decide, by decide⟩ ⟨by decide, by decide⟩ (mv_noH hno _) (fun σ85 h85 => ?_)
      refine mv_goto (pc := 88) (tgt := 108) B d_Book_operation_88 rfl ?_
      refine mv_lpick [0, 1, 2, 3, 4, 5] rfl ?_
      exact j108 _ _ _ (by first | exact FT.rf | exact FT.rf.of h85 | exact FT.rf.of h105) (by first | exact fun _ => h85.2.1 | exact fun z => absurd h79 z)
  have lp6 : ∀ (nn : Nat) (k9 : Int32) (i9 : Int32) (p9 : Int32) (q0 : 0 ≤ i9.toInt), (20000 - i9.toInt).toNat < nn → mv_V p l e ({ frames := 879, cells := 0, slots := 0, locals := 31424 }) s m ([.ref (al 74)] : List Value).toArray below meth c (mg dA D al ext) 9 0 0 (mv_Q (mg dA D al ext) below s 0 0 (mv_Uv (ZO 74 len b1 σ) ("MachineLoomModel$Book$Wrong", al 107) (BF 74 σ))) σ5 37 [(6, .int i9), (5, .int k9), (0, .ref (al 74)), (1, .int (mv_i σ5 74 49)), (2, .int (mv_i σ5 74 50)), (3, .int p9), (4, .int y28)] [] := by
    intro nn
    induction nn with
    | zero => intro k9 i9 p9 q0 hm; exact absurd hm (Nat.not_lt_zero _)
    | succ nn ih =>
      intro k9 i9 p9 q0 hm
      refine mv_iload (pc := 37) B d_Book_operation_37 0 rfl ?_
      refine mv_aload_n (pc := 39) B d_Book_operation_39 rfl 2 rfl ?_
      refine mv_getI (pc := 40) (ci := 12) (C := R_Book) (T := F_Book) (N := 65) B 29 rfl rfl (by decide) i_Book (B.2.2.2.1 _ k_1874) rfl d_Book_operation_40 ?_
      refine mv_icmp_ge (pc := 43) (tgt := 77) B d_Book_operation_43 rfl (fun h43 => ?_) (fun h43 => ?_)
      · skip
        refine mv_lpick [2, 3, 4, 5, 6, 1] rfl ?_
        exact j77 _ _
      · skip
        rw [Int32.le_iff_toInt_le] at h43
        have w2 : (i9 + 1).toInt = i9.toInt + 1 := i32_inc (by omega)
        refine mv_iload (pc := 46) B d_Book_operation_46 1 rfl ?_
        refine mv_aload_n (pc := 48) B d_Book_operation_48 rfl 2 rfl ?_
        refine mv_aload_n (pc := 49) B d_Book_operation_49 rfl 2 rfl ?_
        refine mv_getR (pc := 50) (ci := 12) (C := R_Book) (T := F_Book) (N := 65) B 23 rfl rfl (by decide) i_Book (B.2.2.2.1 _ k_1868) rfl (hS.R.1 _ 23 _ rfl) d_Book_operation_50 ?_
        refine mv_iload (pc := 53) B d_Book_operation_53 0 rfl ?_
        refine mv_iald (pc := 55) B rfl (i32_in q0 (show i9.toInt < 4100 by omega)) d_Book_operation_55 ?_
        refine mv_aload_n (pc := 56) B d_Book_operation_56 rfl 2 rfl ?_
        refine mv_getR (pc := 57) (ci := 12) (C := R_Book) (T := F_Book) (N := 65) B 24 rfl rfl (by decide) i_Book (B.2.2.2.1 _ k_1869) rfl (hS.R.1 _ 24 _ rfl) d_Book_operation_57 ?_
        refine mv_iload (pc := 60) B d_Book_operation_60 0 rfl ?_
        refine mv_iald (pc := 62) B rfl (i32_in q0 (show i9.toInt < 4100 by omega)) d_Book_operation_62 ?_
        refine mv_iload_n (pc := 63) B d_Book_operation_63 rfl 3 rfl ?_
        refine mv_iload_n (pc := 64) B d_Book_operation_64 rfl 4 rfl ?_
        refine mv_callVi (pc := 65) (n := 4) (ci := 12) (C := R_Book) B (mK_ok sk sv) hNs rfl rfl (c_Book_same_x l hi _ _ _ _ _ len hS.R hS.1.1.2.2.2.2.2 (hS.C.2.2.2.2.2.1 i9.toNatClampNeg (by have := i32_cl q0; omega)) hsp) rfl (ma_goodc kc_Book_same) (B.2.2.2.1 _ k_2216) (B.2.2.2.1 _ k_2218) (B.2.2.2.1 _ ks_98) (B.2.2.2.1 _ k_13) ⟨by decide +kernel, by decide +kernel, by decide +kernel⟩ rfl d_Book_operation_65 rfl (Nat.le_of_ble_eq_true rfl) ⟨by decide, by decide⟩ ⟨by decide, by decide⟩ ⟨by decide, by decide⟩ (mv_noH hno _) (fun v65 σ65 h65 => ?_)
        have e65 := h65.symm
        subst e65
        refine mv_ior (pc := 68) B d_Book_operation_68 ?_
        refine mv_istore (pc := 69) B d_Book_operation_69 (by decide) rfl ?_
        refine mv_iinc (pc := 71) (j := 1) (v := 1) B d_Book_operation_71 rfl (by decide) (by decide) rfl ?_
        refine mv_goto (pc := 74) (tgt := 37) B d_Book_operation_74 rfl ?_
        refine mv_lpick [0, 1, 2, 3, 4, 5, 6] rfl ?_
        exact ih _ _ _ (by omega) (by omega)
  refine mv_iconst (pc := 31) (v := 0) B d_Book_operation_31 (by decide) ?_
  refine mv_istore (pc := 32) B d_Book_operation_32 (by decide) rfl ?_
  refine mv_iconst (pc := 34) (v := 0) B d_Book_operation_34 (by decide) ?_
  refine mv_istore (pc := 35) B d_Book_operation_35 (by decide) rfl ?_
  refine mv_lpick [0, 1, 6, 5, 4, 3, 2] rfl ?_
  exact lp6 _ _ _ _ (by decide) (Nat.lt_succ_self _)
set_option maxHeartbeats 4000000 in
set_option maxRecDepth 100000 in
theorem c_Book_operation_y (l : Launch) {dA : FieldType → ClassId} {D : va_G} {al : Nat → Nat} {ext : mv_Sh} {sk sv : Nat → Nat} (hi : mv_inj (mg dA D al ext)) (σ : mv_H) (len th n k cb b1 b2 : Nat) (hP : ZT 108 len σ σ th n k cb 0 b1 b2) (hk : mv_i σ 108 4 = 1) : mv_C l y_Book_operation (Cond.code y_Book_operation b_Book_operation 9 (Option.none : Option Jvm.ClassFile.FieldType) :: ma) ({ frames := 879, cells := 0, slots := 0, locals := 31424 }) (mg dA D al ext) (mK sk sv) [.ref (al 108)] σ (mv_Uv (ZO 108 len b1 σ) ("MachineLoomModel$Book$Wrong", al 141) (BF 108 σ)) := by
  refine mv_C.ofV (cc := b_Book_operation) (nL := 9) (ret := (Option.none : Option Jvm.ClassFile.FieldType)) (by decide +kernel) rfl hi (Nat.le_of_ble_eq_true rfl) ?_
  intro p e s m below meth c B hNs hr hnm hno
  have hS := hP
  have hL := hS.le
  have h3k : 3 * k ≤ b1 := hL.2.1
  refine mv_aload_n (pc := 0) B d_Book_operation_0 rfl 0 rfl ?_
  refine mv_callVUv (pc := 1) (n := 0) (ci := 12) (C := R_Book) B (mK_ok sk sv) hNs rfl rfl (c_Book_pass_y l hi _ len _ _ hS.1) rfl (ma_goodc kc_Book_pass) (B.2.2.2.1 _ k_2173) (B.2.2.2.1 _ k_2175) (B.2.2.2.1 _ ks_90) (B.2.2.2.1 _ k_13) ⟨by decide +kernel, by decide +kernel, by decide +kernel⟩ rfl d_Book_operation_1 rfl (Nat.le_of_ble_eq_true rfl) ⟨by decide, by decide⟩ ⟨by decide, by decide⟩ ⟨by decide, by decide⟩ (mv_noH hno _) (fun τ9 g9 => Or.inr ⟨rfl, hS.2.2.2.2.2.2.tr g9.bf⟩) (fun σ1 h1 => ?_)
  have w1 := hS.w (by rw [hk]; decide)
  obtain ⟨d1, t1, u1, q1, g1⟩ := h1
  have hS := hS.pass q1 g1
  clear hL
  have hL := hS.le
  refine mv_aload_n (pc := 4) B d_Book_operation_4 rfl 0 rfl ?_
  refine mv_callVUv (pc := 5) (n := 0) (ci := 12) (C := R_Book) B (mK_ok sk sv) hNs rfl rfl (c_Book_name_y l hi _ len _ _ hS.1) rfl (ma_goodc kc_Book_name) (B.2.2.2.1 _ k_2194) (B.2.2.2.1 _ k_2196) (B.2.2.2.1 _ ks_94) (B.2.2.2.1 _ k_13) ⟨by decide +kernel, by decide +kernel, by decide +kernel⟩ rfl d_Book_operation_5 rfl (Nat.le_of_ble_eq_true rfl) ⟨by decide, by decide⟩ ⟨by decide, by decide⟩ ⟨by decide, by decide⟩ (mv_noH hno _) (fun τ9 g9 => Or.inr ⟨rfl, hS.2.2.2.2.2.2.tr g9⟩) (fun σ5 h5 => ?_)
  obtain ⟨k5, d5, ⟨t5, u5, q5, g5⟩, y5⟩ := h5
  have w5 := hS.w (by rw [k5]; decide)
  have hsp := name_sp (c1 := 0) (c2 := 0) y5 hS.1.sp
  have hS := hS.name q5 g5 y5
  clear hL
  have hL := hS.le
  have hs5 := hS.1.2.1
  refine mv_aload_n (pc := 8) B d_Book_operation_8 rfl 0 rfl ?_
  refine mv_getI (pc := 9) (ci := 12) (C := R_Book) (T := F_Book) (N := 65) B 49 rfl rfl (by decide) i_Book (B.2.2.2.1 _ k_1898) rfl d_Book_operation_9 ?_
  refine mv_istore_n (pc := 12) B d_Book_operation_12 rfl (by decide) rfl ?_
  refine mv_aload_n (pc := 13) B d_Book_operation_13 rfl 1 rfl ?_
  refine mv_getI (pc := 14) (ci := 12) (C := R_Book) (T := F_Book) (N := 65) B 50 rfl rfl (by decide) i_Book (B.2.2.2.1 _ k_1899) rfl d_Book_operation_14 ?_
  refine mv_istore_n (pc := 17) B d_Book_operation_17 rfl (by decide) rfl ?_
  refine mv_aload_n (pc := 18) B d_Book_operation_18 rfl 2 rfl ?_
  refine mv_getI (pc := 19) (ci := 12) (C := R_Book) (T := F_Book) (N := 65) B 5 rfl rfl (by decide) i_Book (B.2.2.2.1 _ k_1848) rfl d_Book_operation_19 ?_
  refine mv_istore_n (pc := 22) B d_Book_operation_22 rfl (by decide) rfl ?_
  refine mv_aload_n (pc := 23) B d_Book_operation_23 rfl 3 rfl ?_
  refine mv_getI (pc := 24) (ci := 12) (C := R_Book) (T := F_Book) (N := 65) B 5 rfl rfl (by decide) i_Book (B.2.2.2.1 _ k_1848) rfl d_Book_operation_24 ?_
  refine mv_iconst (pc := 27) (v := 1) B d_Book_operation_27 (by decide) ?_
  refine mv_iadd (pc := 28) B d_Book_operation_28 ?_
  refine mv_topi (fun y28 ey28 => ?_)
  have fy28 := i32_addE ey28 (by (try simp only [Int32.reduceToInt]); omega) (by (try simp only [Int32.reduceToInt]); omega)
  try simp only [Int32.reduceToInt] at fy28
  refine mv_istore (pc := 29) B d_Book_operation_29 (by decide) rfl ?_
  have j108 : ∀ (τ : mv_H) (k9 : Int32) (p9 : Int32) (hT : FT 108 σ5 τ) (hk9 : ¬ k9 = 0 → ¬ (mv_i τ 108 38).toInt ≤ 0), mv_V p l e ({ frames := 879, cells := 0, slots := 0, locals := 31424 }) s m ([.ref (al 108)] : List Value).toArray below meth c (mg dA D al ext) 9 0 0 (mv_Q (mg dA D al ext) below s 0 0 (mv_Uv (ZO 108 len b1 σ) ("MachineLoomModel$Book$Wrong", al 141) (BF 108 σ))) τ 108 [(0, .ref (al 108)), (1, .int (mv_i σ5 108 49)), (2, .int (mv_i σ5 108 50)), (3, .int p9), (4, .int y28), (5, .int k9)] [] := by
    intro τ k9 p9 hT hk9
    have hS := hS.ft hT
    clear hL
    have hL := hS.le
    have hst := hS.1.stop
    have hcb5 : cb ≤ t5 := hL.2.2.1
    refine mv_aload_n (pc := 108) B d_Book_operation_108 rfl 0 rfl ?_
    refine mv_getI (pc := 109) (ci := 12) (C := R_Book) (T := F_Book) (N := 65) B 6 rfl rfl (by decide) i_Book (B.2.2.2.1 _ k_1849) rfl d_Book_operation_109 ?_
    refine mv_iconst (pc := 112) (v := 1) B d_Book_operation_112 (by decide) ?_
    refine mv_isub (pc := 113) B d_Book_operation_113 ?_
    refine mv_topi (fun y113 ey113 => ?_)
    have fy113 := i32_subE ey113 (by (try simp only [Int32.reduceToInt]); omega) (by (try simp only [Int32.reduceToInt]); omega)
    try simp only [Int32.reduceToInt] at fy113
    refine mv_istore (pc := 114) B d_Book_operation_114 (by decide) rfl ?_
    refine mv_aload_n (pc := 116) B d_Book_operation_116 rfl 1 rfl ?_
    refine mv_iconst (pc := 117) (v := 3) B d_Book_operation_117 (by decide) ?_
    refine mv_callVUv (pc := 118) (n := 1) (ci := 12) (C := R_Book) B (mK_ok sk sv) hNs rfl rfl (c_Book_need_y l hi _ _ len _ _ hS.1) rfl (ma_goodc kc_Book_need) (B.2.2.2.1 _ k_2177) (B.2.2.2.1 _ k_2179) (B.2.2.2.1 _ ks_91) (B.2.2.2.1 _ k_13) ⟨by decide +kernel, by decide +kernel, by decide +kernel⟩ rfl d_Book_operation_118 rfl (Nat.le_of_ble_eq_true rfl) ⟨by decide, by decide⟩ ⟨by decide, by decide⟩ ⟨by decide, by decide⟩ (mv_noH hno _) (fun τ9 g9 => Or.inr ⟨rfl, hS.2.2.2.2.2.2.tr g9.bf⟩) (fun σ118 h118 => ?_)
    obtain ⟨k118, d118, t118, u118, q118, g118⟩ := h118
    have w118 := hS.w (by rw [k118]; decide)
    have hw2 := hS.1.2.2.2.2.2 k118
    have hS := hS.pass q118 g118
    clear hL
    have hL := hS.le
    have hbn : (mv_i σ118 108 38).toInt ≤ 0 → (mv_i τ 108 38).toInt ≤ 0 := fun z => by rw [q118.bn] at z; exact z
    have hK : (mv_i σ118 108 29).toNatClampNeg = k := by have := i32_cl (x := (mv_i σ118 108 29)) (by omega); omega
    have hk29 : (mv_i σ118 108 29).toInt = k := by omega
    refine mv_aload_n (pc := 121) B d_Book_operation_121 rfl 1 rfl ?_
    refine mv_getI (pc := 122) (ci := 12) (C := R_Book) (T := F_Book) (N := 65) B 29 rfl rfl (by decide) i_Book (B.2.2.2.1 _ k_1874) rfl d_Book_operation_122 ?_
    refine mv_istore (pc := 125) B d_Book_operation_125 (by decide) rfl ?_
    refine mv_aload_n (pc := 127) B d_Book_operation_127 rfl 2 rfl ?_
    refine mv_getR (pc := 128) (ci := 12) (C := R_Book) (T := F_Book) (N := 65) B 25 rfl rfl (by decide) i_Book (B.2.2.2.1 _ k_1870) rfl (hS.R.1 _ 25 _ rfl) d_Book_operation_128 ?_
    refine mv_iload (pc := 131) B d_Book_operation_131 0 rfl ?_
    refine mv_aload_n (pc := 133) B d_Book_operation_133 rfl 2 rfl ?_
    refine mv_getI (pc := 134) (ci := 12) (C := R_Book) (T := F_Book) (N := 65) B 51 rfl rfl (by decide) i_Book (B.2.2.2.1 _ k_1900) rfl d_Book_operation_134 ?_
    refine mv_iast (pc := 137) B rfl (i32_in (x := (mv_i σ118 108 29)) (by omega) (by omega)) d_Book_operation_137 ?_
    refine mv_aload_n (pc := 138) B d_Book_operation_138 rfl 2 rfl ?_
    refine mv_getR (pc := 139) (ci := 12) (C := R_Book) (T := F_Book) (N := 65) B 27 rfl rfl (by decide) i_Book (B.2.2.2.1 _ k_1872) rfl (hS.R.1 _ 27 _ rfl) d_Book_operation_139 ?_
    refine mv_iload (pc := 142) B d_Book_operation_142 0 rfl ?_
    refine mv_iload (pc := 144) B d_Book_operation_144 1 rfl ?_
    refine mv_iload (pc := 146) B d_Book_operation_146 6 rfl ?_
    refine mv_isub (pc := 148) B d_Book_operation_148 ?_
    refine mv_topi (fun y148 ey148 => ?_)
    have fy148 := i32_subE ey148 (by (try simp only [Int32.reduceToInt]); omega) (by (try simp only [Int32.reduceToInt]); omega)
    try simp only [Int32.reduceToInt] at fy148
    refine mv_iast (pc := 149) B rfl (i32_in (x := (mv_i σ118 108 29)) (by omega) (by omega)) d_Book_operation_149 ?_
    refine mv_gen (fun S150 eS150 => ?_)
    have hS := (hS.a (o := 118) (j := (mv_i σ118 108 29).toNatClampNeg) (v := mv_i σ118 108 51) (by omega)).a (o := 120) (j := (mv_i σ118 108 29).toNatClampNeg) (v := y148) (by omega)
    rw [← eS150] at hS
    have hca : (mv_a S150 118 k).toInt = cb := by
      rw [eS150]
      show Int32.toInt (mv_u (mv_u (mv_a σ118) 118 (mv_i σ118 108 29).toNatClampNeg (mv_i σ118 108 51)) 120 (mv_i σ118 108 29).toNatClampNeg y148 118 k) = cb
      rw [mv_u_ne _ _ (by omega), hK, mv_u_same]
      omega
    have hbn : (mv_i S150 108 38).toInt ≤ 0 → (mv_i τ 108 38).toInt ≤ 0 := by rw [eS150]; exact hbn
    clear eS150
    have j189 : ∀ (S : mv_H) (hS : ZT 108 len σ S th n k cb 0 t118 u118) (hca : (mv_a S 118 k).toInt = cb) (hbn : (mv_i S 108 38).toInt ≤ 0 → (mv_i τ 108 38).toInt ≤ 0), mv_V p l e ({ frames := 879, cells := 0, slots := 0, locals := 31424 }) s m ([.ref (al 108)] : List Value).toArray below meth c (mg dA D al ext) 9 0 0 (mv_Q (mg dA D al ext) below s 0 0 (mv_Uv (ZO 108 len b1 σ) ("MachineLoomModel$Book$Wrong", al 141) (BF 108 σ))) S 189 [(0, .ref (al 108)), (1, .int (mv_i σ5 108 49)), (2, .int (mv_i σ5 108 50)), (3, .int p9), (4, .int y28), (5, .int k9), (6, .int y113), (7, .int (mv_i σ118 108 29))] [] := by
      intro S hS hca hbn
      clear hL
      have hL := hS.le
      have h51s := hL.2.2.2.2.2.2.2.2.2.2
      refine mv_aload_n (pc := 189) B d_Book_operation_189 rfl 0 rfl ?_
      refine mv_aload_n (pc := 190) B d_Book_operation_190 rfl 0 rfl ?_
      refine mv_getI (pc := 191) (ci := 12) (C := R_Book) (T := F_Book) (N := 65) B 51 rfl rfl (by decide) i_Book (B.2.2.2.1 _ k_1900) rfl d_Book_operation_191 ?_
      refine mv_iload (pc := 194) B d_Book_operation_194 6 rfl ?_
      refine mv_iadd (pc := 196) B d_Book_operation_196 ?_
      refine mv_topi (fun y196 ey196 => ?_)
      have fy196 := i32_addE ey196 (by (try simp only [Int32.reduceToInt]); omega) (by (try simp only [Int32.reduceToInt]); omega)
      try simp only [Int32.reduceToInt] at fy196
      refine mv_iload (pc := 197) B d_Book_operation_197 4 rfl ?_
      refine mv_isub (pc := 199) B d_Book_operation_199 ?_
      refine mv_topi (fun y199 ey199 => ?_)
      have fy199 := i32_subE ey199 (by (try simp only [Int32.reduceToInt]); omega) (by (try simp only [Int32.reduceToInt]); omega)
      try simp only [Int32.reduceToInt] at fy199
      refine mv_putI (pc := 200) (ci := 12) (C := R_Book) (T := F_Book) (N := 65) B 30 rfl rfl (by decide) i_Book t_Book_ok n_Book (B.2.2.2.1 _ k_1876) rfl rfl rfl rfl d_Book_operation_200 ?_
      refine mv_gen (fun S203 eS203 => ?_)
      have hS := hS.i (j := 30) (v := y199) (Or.inr (Or.inl rfl))
      rw [← eS203] at hS
      have h30 : (mv_i S203 108 30).toInt = y199.toInt := by rw [eS203]; rfl
      have hca : (mv_a S203 118 k).toInt = cb := by rw [eS203]; exact hca
      have hbn : (mv_i S203 108 38).toInt ≤ 0 → (mv_i τ 108 38).toInt ≤ 0 := by rw [eS203]; exact hbn
      clear eS203
      refine mv_iload (pc := 203) B d_Book_operation_203 6 rfl ?_
      refine mv_iload (pc := 205) B d_Book_operation_205 4 rfl ?_
      refine mv_isub (pc := 207) B d_Book_operation_207 ?_
      refine mv_topi (fun y207 ey207 => ?_)
      have fy207 := i32_subE ey207 (by (try simp only [Int32.reduceToInt]); omega) (by (try simp only [Int32.reduceToInt]); omega)
      try simp only [Int32.reduceToInt] at fy207
      have j221 : ∀ (τ2 : mv_H) (hT2 : FT 108 S203 τ2) (hln : (mv_i τ2 108 38).toInt ≤ 0 → y207.toInt = (mv_i τ2 108 20).toInt), mv_V p l e ({ frames := 879, cells := 0, slots := 0, locals := 31424 }) s m ([.ref (al 108)] : List Value).toArray below meth c (mg dA D al ext) 9 0 0 (mv_Q (mg dA D al ext) below s 0 0 (mv_Uv (ZO 108 len b1 σ) ("MachineLoomModel$Book$Wrong", al 141) (BF 108 σ))) τ2 221 [(0, .ref (al 108)), (1, .int (mv_i σ5 108 49)), (2, .int (mv_i σ5 108 50)), (5, .int k9), (7, .int (mv_i σ118 108 29))] [] := by
        intro τ2 hT2 hln
        refine mv_aload_n (pc := 221) B d_Book_operation_221 rfl 0 rfl ?_
        refine mv_iconst (pc := 222) (v := 0) B d_Book_operation_222 (by decide) ?_
        refine mv_putI (pc := 223) (ci := 12) (C := R_Book) (T := F_Book) (N := 65) B 35 rfl rfl (by decide) i_Book t_Book_ok n_Book (B.2.2.2.1 _ k_1881) rfl rfl rfl rfl d_Book_operation_223 ?_
        refine mv_aload_n (pc := 226) B d_Book_operation_226 rfl 0 rfl ?_
        refine mv_iconst (pc := 227) (v := 0) B d_Book_operation_227 (by decide) ?_
        refine mv_putI (pc := 228) (ci := 12) (C := R_Book) (T := F_Book) (N := 65) B 36 rfl rfl (by decide) i_Book t_Book_ok n_Book (B.2.2.2.1 _ k_1882) rfl rfl rfl rfl d_Book_operation_228 ?_
        refine mv_gen (fun S231 eS231 => ?_)
        have hS := ((hS.ft hT2).i (j := 35) (v := 0) (Or.inr (Or.inr (Or.inl rfl)))).i (j := 36) (v := 0) (Or.inr (Or.inr (Or.inr rfl)))
        rw [← eS231] at hS
        have h35 : mv_i S231 108 35 = 0 := by rw [eS231]; rfl
        have h36 : mv_i S231 108 36 = 0 := by rw [eS231]; rfl
        have h30 : (mv_i S231 108 30).toInt = y199.toInt := by rw [eS231]; exact (congrArg Int32.toInt (hT2.2.1 30 (by omega))).trans h30
        have hca : (mv_a S231 118 k).toInt = cb := by rw [eS231]; exact (congrArg Int32.toInt (hT2.1.2.2.2.1 _ _ id)).trans hca
        have h20 : (mv_i S231 108 38).toInt ≤ 0 → y207.toInt = (mv_i S231 108 20).toInt := by rw [eS231]; exact hln
        have hbn : (mv_i S231 108 38).toInt ≤ 0 → (mv_i τ 108 38).toInt ≤ 0 := by rw [eS231]; exact fun z => hbn (hT2.2.2 z)
        clear hL
        have hL := hS.le
        clear eS231
        refine mv_aload_n (pc := 231) B d_Book_operation_231 rfl 0 rfl ?_
        refine mv_getR (pc := 232) (ci := 12) (C := R_Book) (T := F_Book) (N := 65) B 26 rfl rfl (by decide) i_Book (B.2.2.2.1 _ k_1871) rfl (hS.R.1 _ 26 _ rfl) d_Book_operation_232 ?_
        refine mv_iload (pc := 235) B d_Book_operation_235 4 rfl ?_
        refine mv_aload_n (pc := 237) B d_Book_operation_237 rfl 0 rfl ?_
        refine mv_callVUi (pc := 238) (n := 0) (ci := 12) (C := R_Book) B (mK_ok sk sv) hNs rfl rfl (c_Book_block0_y l hi _ len th 0 0 n _ _ (hS.ss hca (by omega) h35 h36)) rfl (ma_goodc kc_Book_block) (B.2.2.2.1 _ k_2232) (B.2.2.2.1 _ k_2234) (B.2.2.2.1 _ ks_101) (B.2.2.2.1 _ k_13) ⟨by decide +kernel, by decide +kernel, by decide +kernel⟩ rfl d_Book_operation_238 rfl (Nat.le_of_ble_eq_true rfl) ⟨by decide, by decide⟩ ⟨by decide, by decide⟩ ⟨by decide, by decide⟩ (mv_noH hno _) (fun τ9 g9 => Or.inr ⟨rfl, hS.2.2.2.2.2.2.tr g9⟩) (fun v238 σ238 h238 => ?_)
        obtain ⟨e238, n238, t238, u238, s238, i238, x238⟩ := h238
        have hR238 : Br 108 (mv_r σ238) := s238.1.1.1.1.2.1
        have o238 := s238.2.2.2.2.2.1
        refine mv_iast (pc := 241) B rfl (i32_in (x := (mv_i σ118 108 29)) (by omega) (by omega)) d_Book_operation_241 ?_
        refine mv_aload_n (pc := 242) B d_Book_operation_242 rfl 0 rfl ?_
        refine mv_getR (pc := 243) (ci := 12) (C := R_Book) (T := F_Book) (N := 65) B 23 rfl rfl (by decide) i_Book (B.2.2.2.1 _ k_1868) rfl (hR238.1 _ 23 _ rfl) d_Book_operation_243 ?_
        refine mv_iload (pc := 246) B d_Book_operation_246 4 rfl ?_
        refine mv_iload_n (pc := 248) B d_Book_operation_248 rfl 1 rfl ?_
        refine mv_iast (pc := 249) B rfl (i32_in (x := (mv_i σ118 108 29)) (by omega) (by omega)) d_Book_operation_249 ?_
        refine mv_aload_n (pc := 250) B d_Book_operation_250 rfl 0 rfl ?_
        refine mv_getR (pc := 251) (ci := 12) (C := R_Book) (T := F_Book) (N := 65) B 24 rfl rfl (by decide) i_Book (B.2.2.2.1 _ k_1869) rfl (hR238.1 _ 24 _ rfl) d_Book_operation_251 ?_
        refine mv_iload (pc := 254) B d_Book_operation_254 4 rfl ?_
        refine mv_iload_n (pc := 256) B d_Book_operation_256 rfl 2 rfl ?_
        refine mv_iast (pc := 257) B rfl (i32_in (x := (mv_i σ118 108 29)) (by omega) (by omega)) d_Book_operation_257 ?_
        refine mv_gen (fun S258 eS258 => ?_)
        have e258 : S258 = op9 108 σ238 k v238 (mv_i σ5 108 49) (mv_i σ5 108 50) := by rw [eS258, hK]; rfl
        clear eS258
        refine mv_iload (pc := 258) B d_Book_operation_258 3 rfl ?_
        refine mv_if_eq (pc := 260) (tgt := 264) B d_Book_operation_260 rfl (fun h260 => ?_) (fun h260 => ?_)
        · skip
          refine mv_aload_n (pc := 264) B d_Book_operation_264 rfl 0 rfl ?_
          refine mv_aload_n (pc := 265) B d_Book_operation_265 rfl 0 rfl ?_
          refine mv_getI (pc := 266) (ci := 12) (C := R_Book) (T := F_Book) (N := 65) B 30 rfl rfl (by decide) i_Book (B.2.2.2.1 _ k_1876) rfl d_Book_operation_266 ?_
          refine mv_putI (pc := 269) (ci := 12) (C := R_Book) (T := F_Book) (N := 65) B 51 rfl rfl (by decide) i_Book t_Book_ok n_Book (B.2.2.2.1 _ k_1900) rfl rfl rfl rfl d_Book_operation_269 ?_
          refine mv_aload_n (pc := 272) B d_Book_operation_272 rfl 0 rfl ?_
          refine mv_dup (pc := 273) B d_Book_operation_273 rfl ?_
          refine mv_getI (pc := 274) (ci := 12) (C := R_Book) (T := F_Book) (N := 65) B 29 rfl rfl (by decide) i_Book (B.2.2.2.1 _ k_1874) rfl d_Book_operation_274 ?_
          refine mv_iconst (pc := 277) (v := 1) B d_Book_operation_277 (by decide) ?_
          refine mv_iadd (pc := 278) B d_Book_operation_278 ?_
          refine mv_putI (pc := 279) (ci := 12) (C := R_Book) (T := F_Book) (N := 65) B 29 rfl rfl (by decide) i_Book t_Book_ok n_Book (B.2.2.2.1 _ k_1874) rfl rfl rfl rfl d_Book_operation_279 ?_
          exact mv_vret (pc := 282) B hr d_Book_operation_282 (Nat.le_refl _) (Nat.le_refl _) (Or.inl ⟨rfl, by rw [e258]; exact ⟨_, _, _, _, _, _, hS.op (ce := (y199.toInt).toNat) s238 x238 hsp (by omega) (by omega) (by omega) (by omega) hca (fun z => by have := h20 z; omega), by omega⟩⟩)
        · skip
          exact mv_vret (pc := 263) B hr d_Book_operation_263 (Nat.le_refl _) (Nat.le_refl _) (Or.inl ⟨rfl, by rw [e258]; exact ⟨_, _, _, _, _, _, hS.known s238 (fun z => hk9 h260 (hbn z)), by omega⟩⟩)
      refine mv_aload_n (pc := 208) B d_Book_operation_208 rfl 0 rfl ?_
      refine mv_getI (pc := 209) (ci := 12) (C := R_Book) (T := F_Book) (N := 65) B 20 rfl rfl (by decide) i_Book (B.2.2.2.1 _ k_1865) rfl d_Book_operation_209 ?_
      refine mv_icmp_eq (pc := 212) (tgt := 221) B d_Book_operation_212 rfl (fun h212 => ?_) (fun h212 => ?_)
      · skip
        refine mv_lpick [0, 1, 2, 5, 7] rfl ?_
        exact j221 _ (by first | exact FT.rf | exact FT.rf.of h218) (by first | exact fun _ => congrArg Int32.toInt h212 | exact fun z => absurd z h218.2.1)
      · skip
        refine mv_aload_n (pc := 215) B d_Book_operation_215 rfl 0 rfl ?_
        refine mv_iconst (pc := 216) (v := 5) B d_Book_operation_216 (by decide) ?_
        refine mv_iload_n (pc := 217) B d_Book_operation_217 rfl 3 rfl ?_
        refine mv_callVv (pc := 218) (n := 2) (ci := 12) (C := R_Book) B (mK_ok sk sv) hNs rfl rfl (c_Book_fault_y l hi _ _ _ (by decide)) rfl (ma_goodc kc_Book_fault) (B.2.2.2.1 _ k_2185) (B.2.2.2.1 _ k_2187) (B.2.2.2.1 _ ks_92) (B.2.2.2.1 _ k_13) ⟨by decide +kernel, by decide +kernel, by decide +kernel⟩ rfl d_Book_operation_218 rfl (Nat.le_of_ble_eq_true rfl) ⟨by decide, by decide⟩ ⟨by decide, by decide⟩ ⟨by decide, by decide⟩ (mv_noH hno _) (fun σ218 h218 => ?_)
        refine mv_lpick [0, 1, 2, 5, 7] rfl ?_
        exact j221 _ (by first | exact FT.rf | exact FT.rf.of h218) (by first | exact fun _ => congrArg Int32.toInt h212 | exact fun z => absurd z h218.2.1)
    have lp8 : ∀ (nn : Nat) (S : mv_H) (i9 : Int32) (hS : ZT 108 len σ S th n k cb 0 t118 u118) (hca : (mv_a S 118 k).toInt = cb) (hbn : (mv_i S 108 38).toInt ≤ 0 → (mv_i τ 108 38).toInt ≤ 0) (hi9 : y28.toInt ≤ i9.toInt), (20000 - i9.toInt).toNat < nn → mv_V p l e ({ frames := 879, cells := 0, slots := 0, locals := 31424 }) s m ([.ref (al 108)] : List Value).toArray below meth c (mg dA D al ext) 9 0 0 (mv_Q (mg dA D al ext) below s 0 0 (mv_Uv (ZO 108 len b1 σ) ("MachineLoomModel$Book$Wrong", al 141) (BF 108 σ))) S 154 [(8, .int i9), (0, .ref (al 108)), (1, .int (mv_i σ5 108 49)), (2, .int (mv_i σ5 108 50)), (3, .int p9), (4, .int y28), (5, .int k9), (6, .int y113), (7, .int (mv_i σ118 108 29))] [] := by
      intro nn
      induction nn with
      | zero => intro S i9 hS hca hbn hi9 hm; exact absurd hm (Nat.not_lt_zero _)
      | succ nn ih =>
        intro S i9 hS hca hbn hi9 hm
        clear hL
        have hL := hS.le
        refine mv_iload (pc := 154) B d_Book_operation_154 0 rfl ?_
        refine mv_iload (pc := 156) B d_Book_operation_156 7 rfl ?_
        refine mv_icmp_ge (pc := 158) (tgt := 189) B d_Book_operation_158 rfl (fun h158 => ?_) (fun h158 => ?_)
        · skip
          refine mv_lpick [1, 2, 3, 4, 5, 6, 7, 8] rfl ?_
          exact j189 _ hS hca hbn
        · skip
          rw [Int32.le_iff_toInt_le] at h158
          refine mv_aload_n (pc := 161) B d_Book_operation_161 rfl 1 rfl ?_
          refine mv_getR (pc := 162) (ci := 12) (C := R_Book) (T := F_Book) (N := 65) B 28 rfl rfl (by decide) i_Book (B.2.2.2.1 _ k_1873) rfl (hS.R.1 _ 28 _ rfl) d_Book_operation_162 ?_
          refine mv_aload_n (pc := 165) B d_Book_operation_165 rfl 1 rfl ?_
          refine mv_getI (pc := 166) (ci := 12) (C := R_Book) (T := F_Book) (N := 65) B 51 rfl rfl (by decide) i_Book (B.2.2.2.1 _ k_1900) rfl d_Book_operation_166 ?_
          refine mv_iload (pc := 169) B d_Book_operation_169 0 rfl ?_
          refine mv_iadd (pc := 171) B d_Book_operation_171 ?_
          refine mv_topi (fun y171 ey171 => ?_)
          have fy171 := i32_addE ey171 (by (try simp only [Int32.reduceToInt]); omega) (by (try simp only [Int32.reduceToInt]); omega)
          try simp only [Int32.reduceToInt] at fy171
          refine mv_iload (pc := 172) B d_Book_operation_172 5 rfl ?_
          refine mv_isub (pc := 174) B d_Book_operation_174 ?_
          refine mv_topi (fun y174 ey174 => ?_)
          have fy174 := i32_subE ey174 (by (try simp only [Int32.reduceToInt]); omega) (by (try simp only [Int32.reduceToInt]); omega)
          try simp only [Int32.reduceToInt] at fy174
          refine mv_aload_n (pc := 175) B d_Book_operation_175 rfl 1 rfl ?_
          refine mv_getR (pc := 176) (ci := 12) (C := R_Book) (T := F_Book) (N := 65) B 1 rfl rfl (by decide) i_Book (B.2.2.2.1 _ k_1844) rfl hS.R.2 d_Book_operation_176 ?_
          refine mv_iload (pc := 179) B d_Book_operation_179 0 rfl ?_
          refine mv_bald (pc := 181) B rfl (i32_in (show 0 ≤ i9.toInt by omega) (show i9.toInt < 32768 by omega)) d_Book_operation_181 ?_
          refine mv_bast (pc := 182) B rfl (i32_in (show 0 ≤ y174.toInt by omega) (show y174.toInt < 32768 by omega)) d_Book_operation_182 ?_
          refine mv_gen (fun S183 eS183 => ?_)
          have hS := hS.a (o := 121) (j := y174.toNatClampNeg) (v := vp_nar .byte (mv_a S 71 i9.toNatClampNeg)) (by omega)
          rw [← eS183] at hS
          have hca : (mv_a S183 118 k).toInt = cb := by rw [eS183]; exact (congrArg Int32.toInt (mv_u_ne _ _ (by omega))).trans hca
          have hbn : (mv_i S183 108 38).toInt ≤ 0 → (mv_i τ 108 38).toInt ≤ 0 := by rw [eS183]; exact hbn
          have w2 : (i9 + 1).toInt = i9.toInt + 1 := i32_inc (by omega)
          clear eS183
          refine mv_iinc (pc := 183) (j := 0) (v := 1) B d_Book_operation_183 rfl (by decide) (by decide) rfl ?_
          refine mv_goto (pc := 186) (tgt := 154) B d_Book_operation_186 rfl ?_
          refine mv_lpick [0, 1, 2, 3, 4, 5, 6, 7, 8] rfl ?_
          exact ih _ _ hS hca hbn (by omega) (by omega)
    refine mv_iload (pc := 150) B d_Book_operation_150 6 rfl ?_
    refine mv_istore (pc := 152) B d_Book_operation_152 (by decide) rfl ?_
    refine mv_lpick [0, 3, 4, 5, 6, 7, 8, 2, 1] rfl ?_
    exact lp8 _ _ _ hS hca hbn (Int.le_refl _) (Nat.lt_succ_self _)
  have j77 : ∀ (k9 : Int32) (p9 : Int32) , mv_V p l e ({ frames := 879, cells := 0, slots := 0, locals := 31424 }) s m ([.ref (al 108)] : List Value).toArray below meth c (mg dA D al ext) 9 0 0 (mv_Q (mg dA D al ext) below s 0 0 (mv_Uv (ZO 108 len b1 σ) ("MachineLoomModel$Book$Wrong", al 141) (BF 108 σ))) σ5 77 [(0, .ref (al 108)), (1, .int (mv_i σ5 108 49)), (2, .int (mv_i σ5 108 50)), (3, .int p9), (4, .int y28), (5, .int k9)] [] := by
    intro k9 p9
    refine mv_iload (pc := 77) B d_Book_operation_77 5 rfl ?_
    refine mv_if_eq (pc := 79) (tgt := 91) B d_Book_operation_79 rfl (fun h79 => ?_) (fun h79 => ?_)
    · skip
      refine mv_aload_n (pc := 91) B d_Book_operation_91 rfl 0 rfl ?_
      refine mv_getI (pc := 92) (ci := 12) (C := R_Book) (T := F_Book) (N := 65) B 29 rfl rfl (by decide) i_Book (B.2.2.2.1 _ k_1874) rfl d_Book_operation_92 ?_
      refine mv_sipush (pc := 95) (v := 512) B d_Book_operation_95 (by decide) ?_
      refine mv_icmp_lt (pc := 98) (tgt := 108) B d_Book_operation_98 rfl (fun h98 => ?_) (fun h98 => ?_)
      · skip
        refine mv_lpick [0, 1, 2, 3, 4, 5] rfl ?_
        exact j108 _ _ _ (by first | exact FT.rf | exact FT.rf.of h85 | exact FT.rf.of h105) (by first | exact fun _ => h85.2.1 | exact fun z => absurd h79 z)
      · skip
        refine mv_aload_n (pc := 101) B d_Book_operation_101 rfl 0 rfl ?_
        refine mv_bipush (pc := 102) (v := 6) B d_Book_operation_102 (by decide) ?_
        refine mv_iload_n (pc := 104) B d_Book_operation_104 rfl 1 rfl ?_
        refine mv_callVv (pc := 105) (n := 2) (ci := 12) (C := R_Book) B (mK_ok sk sv) hNs rfl rfl (c_Book_fault_y l hi _ _ _ (by decide)) rfl (ma_goodc kc_Book_fault) (B.2.2.2.1 _ k_2185) (B.2.2.2.1 _ k_2187) (B.2.2.2.1 _ ks_92) (B.2.2.2.1 _ k_13) ⟨by decide +kernel, by decide +kernel, by decide +kernel⟩ rfl d_Book_operation_105 rfl (Nat.le_of_ble_eq_true rfl) ⟨by decide, by decide⟩ ⟨by decide, by decide⟩ ⟨by decide, by decide⟩ (mv_noH hno _) (fun σ105 h105 => ?_)
        refine mv_lpick [0, 1, 2, 3, 4, 5] rfl ?_
        exact j108 _ _ _ (by first | exact FT.rf | exact FT.rf.of h85 | exact FT.rf.of h105) (by first | exact fun _ => h85.2.1 | exact fun z => absurd h79 z)
    · skip
      refine mv_aload_n (pc := 82) B d_Book_operation_82 rfl 0 rfl ?_
      refine mv_iconst (pc := 83) (v := 2) B d_Book_operation_83 (by decide) ?_
      refine mv_iload_n (pc := 84) B d_Book_operation_84 rfl 1 rfl ?_
      refine mv_callVv (pc := 85) (n := 2) (ci := 12) (C := R_Book) B (mK_ok sk sv) hNs rfl rfl (c_Book_fault_y l hi _ _ _ (by decide)) rfl (ma_goodc kc_Book_fault) (B.2.2.2.1 _ k_2185) (B.2.2.2.1 _ k_2187) (B.2.2.2.1 _ ks_92) (B.2.2.2.1 _ k_13) ⟨by decide +kernel, by decide +kernel, by decide +kernel⟩ rfl d_Book_operation_85 rfl (Nat.le_of_ble_eq_true rfl) ⟨by decide, by decide⟩ ⟨by decide, by decide⟩ ⟨by decide, by decide⟩ (mv_noH hno _) (fun σ85 h85 => ?_)
      refine mv_goto (pc := 88) (tgt := 108) B d_Book_operation_88 rfl ?_
      refine mv_lpick [0, 1, 2, 3, 4, 5] rfl ?_
      exact j108 _ _ _ (by first | exact FT.rf | exact FT.rf.of h85 | exact FT.rf.of h105) (by first | exact fun _ => h85.2.1 | exact fun z => absurd h79 z)
  have lp6 : ∀ (nn : Nat) (k9 : Int32) (i9 : Int32) (p9 : Int32) (q0 : 0 ≤ i9.toInt), (20000 - i9.toInt).toNat < nn → mv_V p l e ({ frames := 879, cells := 0, slots := 0, locals := 31424 }) s m ([.ref (al 108)] : List Value).toArray below meth c (mg dA D al ext) 9 0 0 (mv_Q (mg dA D al ext) below s 0 0 (mv_Uv (ZO 108 len b1 σ) ("MachineLoomModel$Book$Wrong", al 141) (BF 108 σ))) σ5 37 [(6, .int i9), (5, .int k9), (0, .ref (al 108)), (1, .int (mv_i σ5 108 49)), (2, .int (mv_i σ5 108 50)), (3, .int p9), (4, .int y28)] [] := by
    intro nn
    induction nn with
    | zero => intro k9 i9 p9 q0 hm; exact absurd hm (Nat.not_lt_zero _)
    | succ nn ih =>
      intro k9 i9 p9 q0 hm
      refine mv_iload (pc := 37) B d_Book_operation_37 0 rfl ?_
      refine mv_aload_n (pc := 39) B d_Book_operation_39 rfl 2 rfl ?_
      refine mv_getI (pc := 40) (ci := 12) (C := R_Book) (T := F_Book) (N := 65) B 29 rfl rfl (by decide) i_Book (B.2.2.2.1 _ k_1874) rfl d_Book_operation_40 ?_
      refine mv_icmp_ge (pc := 43) (tgt := 77) B d_Book_operation_43 rfl (fun h43 => ?_) (fun h43 => ?_)
      · skip
        refine mv_lpick [2, 3, 4, 5, 6, 1] rfl ?_
        exact j77 _ _
      · skip
        rw [Int32.le_iff_toInt_le] at h43
        have w2 : (i9 + 1).toInt = i9.toInt + 1 := i32_inc (by omega)
        refine mv_iload (pc := 46) B d_Book_operation_46 1 rfl ?_
        refine mv_aload_n (pc := 48) B d_Book_operation_48 rfl 2 rfl ?_
        refine mv_aload_n (pc := 49) B d_Book_operation_49 rfl 2 rfl ?_
        refine mv_getR (pc := 50) (ci := 12) (C := R_Book) (T := F_Book) (N := 65) B 23 rfl rfl (by decide) i_Book (B.2.2.2.1 _ k_1868) rfl (hS.R.1 _ 23 _ rfl) d_Book_operation_50 ?_
        refine mv_iload (pc := 53) B d_Book_operation_53 0 rfl ?_
        refine mv_iald (pc := 55) B rfl (i32_in q0 (show i9.toInt < 4100 by omega)) d_Book_operation_55 ?_
        refine mv_aload_n (pc := 56) B d_Book_operation_56 rfl 2 rfl ?_
        refine mv_getR (pc := 57) (ci := 12) (C := R_Book) (T := F_Book) (N := 65) B 24 rfl rfl (by decide) i_Book (B.2.2.2.1 _ k_1869) rfl (hS.R.1 _ 24 _ rfl) d_Book_operation_57 ?_
        refine mv_iload (pc := 60) B d_Book_operation_60 0 rfl ?_
        refine mv_iald (pc := 62) B rfl (i32_in q0 (show i9.toInt < 4100 by omega)) d_Book_operation_62 ?_
        refine mv_iload_n (pc := 63) B d_Book_operation_63 rfl 3 rfl ?_
        refine mv_iload_n (pc := 64) B d_Book_operation_64 rfl 4 rfl ?_
        refine mv_callVi (pc := 65) (n := 4) (ci := 12) (C := R_Book) B (mK_ok sk sv) hNs rfl rfl (c_Book_same_y l hi _ _ _ _ _ len hS.R hS.1.1.2.2.2.2.2 (hS.C.2.2.2.2.2.1 i9.toNatClampNeg (by have := i32_cl q0; omega)) hsp) rfl (ma_goodc kc_Book_same) (B.2.2.2.1 _ k_2216) (B.2.2.2.1 _ k_2218) (B.2.2.2.1 _ ks_98) (B.2.2.2.1 _ k_13) ⟨by decide +kernel, by decide +kernel, by decide +kernel⟩ rfl d_Book_operation_65 rfl (Nat.le_of_ble_eq_true rfl) ⟨by decide, by decide⟩ ⟨by decide, by decide⟩ ⟨by decide, by decide⟩ (mv_noH hno _) (fun v65 σ65 h65 => ?_)
        have e65 := h65.symm
        subst e65
        refine mv_ior (pc := 68) B d_Book_operation_68 ?_
        refine mv_istore (pc := 69) B d_Book_operation_69 (by decide) rfl ?_
        refine mv_iinc (pc := 71) (j := 1) (v := 1) B d_Book_operation_71 rfl (by decide) (by decide) rfl ?_
        refine mv_goto (pc := 74) (tgt := 37) B d_Book_operation_74 rfl ?_
        refine mv_lpick [0, 1, 2, 3, 4, 5, 6] rfl ?_
        exact ih _ _ _ (by omega) (by omega)
  refine mv_iconst (pc := 31) (v := 0) B d_Book_operation_31 (by decide) ?_
  refine mv_istore (pc := 32) B d_Book_operation_32 (by decide) rfl ?_
  refine mv_iconst (pc := 34) (v := 0) B d_Book_operation_34 (by decide) ?_
  refine mv_istore (pc := 35) B d_Book_operation_35 (by decide) rfl ?_
  refine mv_lpick [0, 1, 6, 5, 4, 3, 2] rfl ?_
  exact lp6 _ _ _ _ (by decide) (Nat.lt_succ_self _)
def y_Book_text_1 : MethodName := ⟨"MachineLoomModel$Book", "text", "()V"⟩
abbrev b_Book_text_1 : ByteArray := prog_15_method_51_code
theorem kc_Book_text_1 : Cond.code y_Book_text_1 b_Book_text_1 4 (Option.none : Option Jvm.ClassFile.FieldType) ∈ ma := ma_of (tb_9 _ (List.mem_of_getElem? (i := 193) rfl)) rfl
theorem k_2228 : (Jvm.Cond.methodLink "MachineLoomModel$Book" (428 : Nat) ({ cls := "MachineLoomModel$Book", name := "operation", desc := "()V" } : Jvm.MethodName)) ∈ ma := ma_of (tb_10 _ (List.mem_of_getElem? (i := 68) rfl)) rfl
theorem k_2230 : (Jvm.Cond.instanceMethod ({ cls := "MachineLoomModel$Book", name := "operation", desc := "()V" } : Jvm.MethodName)) ∈ ma := ma_of (tb_10 _ (List.mem_of_getElem? (i := 70) rfl)) rfl
theorem ks_100 : Cond.selects "MachineLoomModel$Book" ⟨"MachineLoomModel$Book", "operation", "()V"⟩ ⟨"MachineLoomModel$Book", "operation", "()V"⟩ ∈ ma := ma_sel 100 rfl rfl
theorem k_2222 : (Jvm.Cond.methodLink "MachineLoomModel$Book" (424 : Nat) ({ cls := "MachineLoomModel$Book", name := "fetch", desc := "()V" } : Jvm.MethodName)) ∈ ma := ma_of (tb_10 _ (List.mem_of_getElem? (i := 62) rfl)) rfl
theorem k_2224 : (Jvm.Cond.instanceMethod ({ cls := "MachineLoomModel$Book", name := "fetch", desc := "()V" } : Jvm.MethodName)) ∈ ma := ma_of (tb_10 _ (List.mem_of_getElem? (i := 64) rfl)) rfl
theorem ks_99 : Cond.selects "MachineLoomModel$Book" ⟨"MachineLoomModel$Book", "fetch", "()V"⟩ ⟨"MachineLoomModel$Book", "fetch", "()V"⟩ ∈ ma := ma_sel 99 rfl rfl
theorem k_2190 : (Jvm.Cond.methodLink "MachineLoomModel$Book" (416 : Nat) ({ cls := "MachineLoomModel$Book", name := "newThing", desc := "(Z)V" } : Jvm.MethodName)) ∈ ma := ma_of (tb_10 _ (List.mem_of_getElem? (i := 30) rfl)) rfl
theorem k_2192 : (Jvm.Cond.instanceMethod ({ cls := "MachineLoomModel$Book", name := "newThing", desc := "(Z)V" } : Jvm.MethodName)) ∈ ma := ma_of (tb_10 _ (List.mem_of_getElem? (i := 32) rfl)) rfl
theorem ks_93 : Cond.selects "MachineLoomModel$Book" ⟨"MachineLoomModel$Book", "newThing", "(Z)V"⟩ ⟨"MachineLoomModel$Book", "newThing", "(Z)V"⟩ ∈ ma := ma_sel 93 rfl rfl
theorem k_2181 : (Jvm.Cond.constantLong "MachineLoomModel$Book" (408 : Nat) (8 : Int64)) ∈ ma := ma_of (tb_10 _ (List.mem_of_getElem? (i := 21) rfl)) rfl
theorem k_2182 : (Jvm.Cond.constantLong "MachineLoomModel$Book" (410 : Nat) (16 : Int64)) ∈ ma := ma_of (tb_10 _ (List.mem_of_getElem? (i := 22) rfl)) rfl
theorem k_2183 : (Jvm.Cond.constantLong "MachineLoomModel$Book" (412 : Nat) (32 : Int64)) ∈ ma := ma_of (tb_10 _ (List.mem_of_getElem? (i := 23) rfl)) rfl
theorem d_Book_text_1_0 : decode b_Book_text_1 0 = .ok (.aload_n 0, 1) := by decide +kernel
theorem d_Book_text_1_1 : decode b_Book_text_1 1 = .ok (.iconst 0, 1) := by decide +kernel
theorem d_Book_text_1_2 : decode b_Book_text_1 2 = .ok (.putfield 142, 3) := by decide +kernel
theorem d_Book_text_1_5 : decode b_Book_text_1 5 = .ok (.aload_n 0, 1) := by decide +kernel
theorem d_Book_text_1_6 : decode b_Book_text_1 6 = .ok (.iconst 0, 1) := by decide +kernel
theorem d_Book_text_1_7 : decode b_Book_text_1 7 = .ok (.putfield 197, 3) := by decide +kernel
theorem d_Book_text_1_10 : decode b_Book_text_1 10 = .ok (.aload_n 0, 1) := by decide +kernel
theorem d_Book_text_1_11 : decode b_Book_text_1 11 = .ok (.invokevirtual 200, 3) := by decide +kernel
theorem d_Book_text_1_14 : decode b_Book_text_1 14 = .ok (.aload_n 0, 1) := by decide +kernel
theorem d_Book_text_1_15 : decode b_Book_text_1 15 = .ok (.ldc_w 406, 3) := by decide +kernel
theorem d_Book_text_1_18 : decode b_Book_text_1 18 = .ok (.invokevirtual 372, 3) := by decide +kernel
theorem d_Book_text_1_21 : decode b_Book_text_1 21 = .ok (.aload_n 0, 1) := by decide +kernel
theorem d_Book_text_1_22 : decode b_Book_text_1 22 = .ok (.getfield 154, 3) := by decide +kernel
theorem d_Book_text_1_25 : decode b_Book_text_1 25 = .ok (.lstore_n 1, 1) := by decide +kernel
theorem d_Book_text_1_26 : decode b_Book_text_1 26 = .ok (.aload_n 0, 1) := by decide +kernel
theorem d_Book_text_1_27 : decode b_Book_text_1 27 = .ok (.getfield 174, 3) := by decide +kernel
theorem d_Book_text_1_30 : decode b_Book_text_1 30 = .ok (.istore_n 3, 1) := by decide +kernel
theorem d_Book_text_1_31 : decode b_Book_text_1 31 = .ok (.aload_n 0, 1) := by decide +kernel
theorem d_Book_text_1_32 : decode b_Book_text_1 32 = .ok (.iconst 2, 1) := by decide +kernel
theorem d_Book_text_1_33 : decode b_Book_text_1 33 = .ok (.invokevirtual 259, 3) := by decide +kernel
theorem d_Book_text_1_36 : decode b_Book_text_1 36 = .ok (.aload_n 0, 1) := by decide +kernel
theorem d_Book_text_1_37 : decode b_Book_text_1 37 = .ok (.bipush 59, 2) := by decide +kernel
theorem d_Book_text_1_39 : decode b_Book_text_1 39 = .ok (.invokevirtual 259, 3) := by decide +kernel
theorem d_Book_text_1_42 : decode b_Book_text_1 42 = .ok (.aload_n 0, 1) := by decide +kernel
theorem d_Book_text_1_43 : decode b_Book_text_1 43 = .ok (.lload_n 1, 1) := by decide +kernel
theorem d_Book_text_1_44 : decode b_Book_text_1 44 = .ok (.ldc2_w 408, 3) := by decide +kernel
theorem d_Book_text_1_47 : decode b_Book_text_1 47 = .ok (.lcmp, 1) := by decide +kernel
theorem d_Book_text_1_48 : decode b_Book_text_1 48 = .ok (.ifCond .eq (27), 3) := by decide +kernel
theorem d_Book_text_1_51 : decode b_Book_text_1 51 = .ok (.lload_n 1, 1) := by decide +kernel
theorem d_Book_text_1_52 : decode b_Book_text_1 52 = .ok (.ldc2_w 410, 3) := by decide +kernel
theorem d_Book_text_1_55 : decode b_Book_text_1 55 = .ok (.lcmp, 1) := by decide +kernel
theorem d_Book_text_1_56 : decode b_Book_text_1 56 = .ok (.ifCond .eq (19), 3) := by decide +kernel
theorem d_Book_text_1_59 : decode b_Book_text_1 59 = .ok (.lload_n 1, 1) := by decide +kernel
theorem d_Book_text_1_60 : decode b_Book_text_1 60 = .ok (.ldc2_w 412, 3) := by decide +kernel
theorem d_Book_text_1_63 : decode b_Book_text_1 63 = .ok (.lcmp, 1) := by decide +kernel
theorem d_Book_text_1_64 : decode b_Book_text_1 64 = .ok (.ifCond .eq (11), 3) := by decide +kernel
theorem d_Book_text_1_67 : decode b_Book_text_1 67 = .ok (.lload_n 1, 1) := by decide +kernel
theorem d_Book_text_1_68 : decode b_Book_text_1 68 = .ok (.ldc2_w 306, 3) := by decide +kernel
theorem d_Book_text_1_71 : decode b_Book_text_1 71 = .ok (.lcmp, 1) := by decide +kernel
theorem d_Book_text_1_72 : decode b_Book_text_1 72 = .ok (.ifCond .ne (8), 3) := by decide +kernel
theorem d_Book_text_1_75 : decode b_Book_text_1 75 = .ok (.lload_n 1, 1) := by decide +kernel
theorem d_Book_text_1_76 : decode b_Book_text_1 76 = .ok (.l2i, 1) := by decide +kernel
theorem d_Book_text_1_77 : decode b_Book_text_1 77 = .ok (.goto (4), 3) := by decide +kernel
theorem d_Book_text_1_80 : decode b_Book_text_1 80 = .ok (.iconst 0, 1) := by decide +kernel
theorem d_Book_text_1_81 : decode b_Book_text_1 81 = .ok (.putfield 43, 3) := by decide +kernel
theorem d_Book_text_1_84 : decode b_Book_text_1 84 = .ok (.aload_n 0, 1) := by decide +kernel
theorem d_Book_text_1_85 : decode b_Book_text_1 85 = .ok (.getfield 43, 3) := by decide +kernel
theorem d_Book_text_1_88 : decode b_Book_text_1 88 = .ok (.ifCond .ne (9), 3) := by decide +kernel
theorem d_Book_text_1_91 : decode b_Book_text_1 91 = .ok (.aload_n 0, 1) := by decide +kernel
theorem d_Book_text_1_92 : decode b_Book_text_1 92 = .ok (.iconst 3, 1) := by decide +kernel
theorem d_Book_text_1_93 : decode b_Book_text_1 93 = .ok (.iload_n 3, 1) := by decide +kernel
theorem d_Book_text_1_94 : decode b_Book_text_1 94 = .ok (.invokevirtual 267, 3) := by decide +kernel
theorem d_Book_text_1_97 : decode b_Book_text_1 97 = .ok (.aload_n 0, 1) := by decide +kernel
theorem d_Book_text_1_98 : decode b_Book_text_1 98 = .ok (.getfield 151, 3) := by decide +kernel
theorem d_Book_text_1_101 : decode b_Book_text_1 101 = .ok (.ifCond .eq (82), 3) := by decide +kernel
theorem d_Book_text_1_104 : decode b_Book_text_1 104 = .ok (.aload_n 0, 1) := by decide +kernel
theorem d_Book_text_1_105 : decode b_Book_text_1 105 = .ok (.ldc_w 414, 3) := by decide +kernel
theorem d_Book_text_1_108 : decode b_Book_text_1 108 = .ok (.invokevirtual 219, 3) := by decide +kernel
theorem d_Book_text_1_111 : decode b_Book_text_1 111 = .ok (.ifCond .eq (11), 3) := by decide +kernel
theorem d_Book_text_1_114 : decode b_Book_text_1 114 = .ok (.aload_n 0, 1) := by decide +kernel
theorem d_Book_text_1_115 : decode b_Book_text_1 115 = .ok (.iconst 0, 1) := by decide +kernel
theorem d_Book_text_1_116 : decode b_Book_text_1 116 = .ok (.invokevirtual 416, 3) := by decide +kernel
theorem d_Book_text_1_119 : decode b_Book_text_1 119 = .ok (.goto (-22), 3) := by decide +kernel
theorem d_Book_text_1_122 : decode b_Book_text_1 122 = .ok (.aload_n 0, 1) := by decide +kernel
theorem d_Book_text_1_123 : decode b_Book_text_1 123 = .ok (.ldc_w 420, 3) := by decide +kernel
theorem d_Book_text_1_126 : decode b_Book_text_1 126 = .ok (.invokevirtual 219, 3) := by decide +kernel
theorem d_Book_text_1_129 : decode b_Book_text_1 129 = .ok (.ifCond .eq (11), 3) := by decide +kernel
theorem d_Book_text_1_132 : decode b_Book_text_1 132 = .ok (.aload_n 0, 1) := by decide +kernel
theorem d_Book_text_1_133 : decode b_Book_text_1 133 = .ok (.iconst 1, 1) := by decide +kernel
theorem d_Book_text_1_134 : decode b_Book_text_1 134 = .ok (.invokevirtual 416, 3) := by decide +kernel
theorem d_Book_text_1_137 : decode b_Book_text_1 137 = .ok (.goto (-40), 3) := by decide +kernel
theorem d_Book_text_1_140 : decode b_Book_text_1 140 = .ok (.aload_n 0, 1) := by decide +kernel
theorem d_Book_text_1_141 : decode b_Book_text_1 141 = .ok (.ldc_w 422, 3) := by decide +kernel
theorem d_Book_text_1_144 : decode b_Book_text_1 144 = .ok (.invokevirtual 219, 3) := by decide +kernel
theorem d_Book_text_1_147 : decode b_Book_text_1 147 = .ok (.ifCond .eq (10), 3) := by decide +kernel
theorem d_Book_text_1_150 : decode b_Book_text_1 150 = .ok (.aload_n 0, 1) := by decide +kernel
theorem d_Book_text_1_151 : decode b_Book_text_1 151 = .ok (.invokevirtual 424, 3) := by decide +kernel
theorem d_Book_text_1_154 : decode b_Book_text_1 154 = .ok (.goto (-57), 3) := by decide +kernel
theorem d_Book_text_1_157 : decode b_Book_text_1 157 = .ok (.aload_n 0, 1) := by decide +kernel
theorem d_Book_text_1_158 : decode b_Book_text_1 158 = .ok (.ldc_w 426, 3) := by decide +kernel
theorem d_Book_text_1_161 : decode b_Book_text_1 161 = .ok (.invokevirtual 219, 3) := by decide +kernel
theorem d_Book_text_1_164 : decode b_Book_text_1 164 = .ok (.ifCond .eq (10), 3) := by decide +kernel
theorem d_Book_text_1_167 : decode b_Book_text_1 167 = .ok (.aload_n 0, 1) := by decide +kernel
theorem d_Book_text_1_168 : decode b_Book_text_1 168 = .ok (.invokevirtual 428, 3) := by decide +kernel
theorem d_Book_text_1_171 : decode b_Book_text_1 171 = .ok (.goto (-74), 3) := by decide +kernel
theorem d_Book_text_1_174 : decode b_Book_text_1 174 = .ok (.aload_n 0, 1) := by decide +kernel
theorem d_Book_text_1_175 : decode b_Book_text_1 175 = .ok (.aload_n 0, 1) := by decide +kernel
theorem d_Book_text_1_176 : decode b_Book_text_1 176 = .ok (.getfield 174, 3) := by decide +kernel
theorem d_Book_text_1_179 : decode b_Book_text_1 179 = .ok (.invokevirtual 193, 3) := by decide +kernel
theorem d_Book_text_1_182 : decode b_Book_text_1 182 = .ok (.athrow, 1) := by decide +kernel
theorem d_Book_text_1_183 : decode b_Book_text_1 183 = .ok (.return_, 1) := by decide +kernel
set_option maxHeartbeats 4000000 in
set_option maxRecDepth 100000 in
theorem c_Book_text_1_x (l : Launch) {dA : FieldType → ClassId} {D : va_G} {al : Nat → Nat} {ext : mv_Sh} {sk sv : Nat → Nat} (hi : mv_inj (mg dA D al ext)) (σ : mv_H) (len : Nat) (hR : Br 74 (mv_r σ)) (hz : (mv_i σ 74 2).toInt = len) (hl : len ≤ 10240) (h17 : mv_i σ 74 17 = 0) (hn48 : mv_i σ 74 48 = 0) (hn29 : mv_i σ 74 29 = 0) (hn51 : mv_i σ 74 51 = 0) (hn19 : mv_i σ 74 19 = 0) (hn18 : mv_i σ 74 18 = -1) : mv_C l y_Book_text_1 (Cond.code y_Book_text_1 b_Book_text_1 4 (Option.none : Option Jvm.ClassFile.FieldType) :: ma) ({ frames := 880, cells := 0, slots := 0, locals := 31452 }) (mg dA D al ext) (mK sk sv) [.ref (al 74)] σ (mv_Uv (TO 74 len σ) ("MachineLoomModel$Book$Wrong", al 107) (BF 74 σ)) := by
  refine mv_C.ofV (cc := b_Book_text_1) (nL := 4) (ret := (Option.none : Option Jvm.ClassFile.FieldType)) (by decide +kernel) rfl hi (Nat.le_of_ble_eq_true rfl) ?_
  intro p e s m below meth c B hNs hr hnm hno
  have lp : ∀ (nn : Nat) (S : mv_H) (th : Nat) (n : Nat) (k : Nat) (cb : Nat) (b1 : Nat) (b2 : Nat) (hS : ZT 74 len σ S th n k cb 0 b1 b2), len + 1 - b1 < nn → mv_V p l e ({ frames := 880, cells := 0, slots := 0, locals := 31452 }) s m ([.ref (al 74)] : List Value).toArray below meth c (mg dA D al ext) 4 0 0 (mv_Q (mg dA D al ext) below s 0 0 (mv_Uv (TO 74 len σ) ("MachineLoomModel$Book$Wrong", al 107) (BF 74 σ))) S 97 [(0, .ref (al 74))] [] := by
    intro nn
    induction nn with
    | zero => intro S th n k cb b1 b2 hS hm; exact absurd hm (Nat.not_lt_zero _)
    | succ nn ih =>
      intro S th n k cb b1 b2 hS hm
      have hL97 := hS.le
      refine mv_aload_n (pc := 97) B d_Book_text_1_97 rfl 0 rfl ?_
      refine mv_getI (pc := 98) (ci := 12) (C := R_Book) (T := F_Book) (N := 65) B 4 rfl rfl (by decide) i_Book (B.2.2.2.1 _ k_1847) rfl d_Book_text_1_98 ?_
      refine mv_if_eq (pc := 101) (tgt := 183) B d_Book_text_1_101 rfl (fun h101 => ?_) (fun h101 => ?_)
      · skip
        exact mv_vret (pc := 183) B hr d_Book_text_1_183 (Nat.le_refl _) (Nat.le_refl _) (Or.inl ⟨rfl, _, _, _, _, _, _, hS⟩)
      · skip
        refine mv_aload_n (pc := 104) B d_Book_text_1_104 rfl 0 rfl ?_
        refine mv_ldcwS (pc := 105) B (hNs.2.1 140 (by decide)).1 d_Book_text_1_105 ?_
        refine mv_callVi (pc := 108) (n := 1) (ci := 12) (C := R_Book) B (mK_ok sk sv) hNs rfl rfl (c_Book_is_x l hi _ 140 (by decide) len _ _ hS.1) rfl (ma_goodc kc_Book_is) (B.2.2.2.1 _ k_2163) (B.2.2.2.1 _ k_2165) (B.2.2.2.1 _ ks_88) (B.2.2.2.1 _ k_13) ⟨by decide +kernel, by decide +kernel, by decide +kernel⟩ rfl d_Book_text_1_108 rfl (Nat.le_of_ble_eq_true rfl) ⟨by decide, by decide⟩ ⟨by decide, by decide⟩ ⟨by decide, by decide⟩ (mv_noH hno _) (fun v108 σ108 h108 => ?_)
        obtain ⟨e108, z108⟩ := h108
        have e108 := e108.symm
        subst e108
        refine mv_if_eq (pc := 111) (tgt := 122) B d_Book_text_1_111 rfl (fun h111 => ?_) (fun h111 => ?_)
        · skip
          refine mv_aload_n (pc := 122) B d_Book_text_1_122 rfl 0 rfl ?_
          refine mv_ldcwS (pc := 123) B (hNs.2.1 143 (by decide)).1 d_Book_text_1_123 ?_
          refine mv_callVi (pc := 126) (n := 1) (ci := 12) (C := R_Book) B (mK_ok sk sv) hNs rfl rfl (c_Book_is_x l hi _ 143 (by decide) len _ _ hS.1) rfl (ma_goodc kc_Book_is) (B.2.2.2.1 _ k_2163) (B.2.2.2.1 _ k_2165) (B.2.2.2.1 _ ks_88) (B.2.2.2.1 _ k_13) ⟨by decide +kernel, by decide +kernel, by decide +kernel⟩ rfl d_Book_text_1_126 rfl (Nat.le_of_ble_eq_true rfl) ⟨by decide, by decide⟩ ⟨by decide, by decide⟩ ⟨by decide, by decide⟩ (mv_noH hno _) (fun v126 σ126 h126 => ?_)
          obtain ⟨e126, z126⟩ := h126
          have e126 := e126.symm
          subst e126
          refine mv_if_eq (pc := 129) (tgt := 140) B d_Book_text_1_129 rfl (fun h129 => ?_) (fun h129 => ?_)
          · skip
            refine mv_aload_n (pc := 140) B d_Book_text_1_140 rfl 0 rfl ?_
            refine mv_ldcwS (pc := 141) B (hNs.2.1 144 (by decide)).1 d_Book_text_1_141 ?_
            refine mv_callVi (pc := 144) (n := 1) (ci := 12) (C := R_Book) B (mK_ok sk sv) hNs rfl rfl (c_Book_is_x l hi _ 144 (by decide) len _ _ hS.1) rfl (ma_goodc kc_Book_is) (B.2.2.2.1 _ k_2163) (B.2.2.2.1 _ k_2165) (B.2.2.2.1 _ ks_88) (B.2.2.2.1 _ k_13) ⟨by decide +kernel, by decide +kernel, by decide +kernel⟩ rfl d_Book_text_1_144 rfl (Nat.le_of_ble_eq_true rfl) ⟨by decide, by decide⟩ ⟨by decide, by decide⟩ ⟨by decide, by decide⟩ (mv_noH hno _) (fun v144 σ144 h144 => ?_)
            obtain ⟨e144, z144⟩ := h144
            have e144 := e144.symm
            subst e144
            refine mv_if_eq (pc := 147) (tgt := 157) B d_Book_text_1_147 rfl (fun h147 => ?_) (fun h147 => ?_)
            · skip
              refine mv_aload_n (pc := 157) B d_Book_text_1_157 rfl 0 rfl ?_
              refine mv_ldcwS (pc := 158) B (hNs.2.1 146 (by decide)).1 d_Book_text_1_158 ?_
              refine mv_callVi (pc := 161) (n := 1) (ci := 12) (C := R_Book) B (mK_ok sk sv) hNs rfl rfl (c_Book_is_x l hi _ 146 (by decide) len _ _ hS.1) rfl (ma_goodc kc_Book_is) (B.2.2.2.1 _ k_2163) (B.2.2.2.1 _ k_2165) (B.2.2.2.1 _ ks_88) (B.2.2.2.1 _ k_13) ⟨by decide +kernel, by decide +kernel, by decide +kernel⟩ rfl d_Book_text_1_161 rfl (Nat.le_of_ble_eq_true rfl) ⟨by decide, by decide⟩ ⟨by decide, by decide⟩ ⟨by decide, by decide⟩ (mv_noH hno _) (fun v161 σ161 h161 => ?_)
              obtain ⟨e161, z161⟩ := h161
              have e161 := e161.symm
              subst e161
              refine mv_if_eq (pc := 164) (tgt := 174) B d_Book_text_1_164 rfl (fun h164 => ?_) (fun h164 => ?_)
              · skip
                refine mv_aload_n (pc := 174) B d_Book_text_1_174 rfl 0 rfl ?_
                refine mv_aload_n (pc := 175) B d_Book_text_1_175 rfl 0 rfl ?_
                refine mv_getI (pc := 176) (ci := 12) (C := R_Book) (T := F_Book) (N := 65) B 5 rfl rfl (by decide) i_Book (B.2.2.2.1 _ k_1848) rfl d_Book_text_1_176 ?_
                refine mv_callVr (pc := 179) (n := 1) (ci := 12) (C := R_Book) B (mK_ok sk sv) hNs rfl rfl (c_Book_wrongAt_x l hi _ _ hS.R) rfl (ma_goodc kc_Book_wrongAt) (B.2.2.2.1 _ k_2154) (B.2.2.2.1 _ k_2156) (B.2.2.2.1 _ ks_86) (B.2.2.2.1 _ k_13) ⟨by decide +kernel, by decide +kernel, by decide +kernel⟩ rfl d_Book_text_1_179 rfl (Nat.le_of_ble_eq_true rfl) ⟨by decide, by decide⟩ ⟨by decide, by decide⟩ ⟨by decide, by decide⟩ (mv_noH hno _) (fun σ179 h179 => ?_)
                obtain ⟨g179, -⟩ := h179
                exact mv_athrowO (pc := 182) (o := 107) B rfl rfl (mv_noH hno _) d_Book_text_1_182 (Nat.le_refl _) (Nat.le_refl _) (Or.inr ⟨rfl, hS.2.2.2.2.2.2.tr g179.bf⟩)
              · skip
                refine mv_aload_n (pc := 167) B d_Book_text_1_167 rfl 0 rfl ?_
                refine mv_callVUv (pc := 168) (n := 0) (ci := 12) (C := R_Book) B (mK_ok sk sv) hNs rfl rfl (c_Book_operation_x l hi _ len _ _ _ _ _ _ hS.re (z161.resolve_left h164).2) rfl (ma_goodc kc_Book_operation) (B.2.2.2.1 _ k_2228) (B.2.2.2.1 _ k_2230) (B.2.2.2.1 _ ks_100) (B.2.2.2.1 _ k_13) ⟨by decide +kernel, by decide +kernel, by decide +kernel⟩ rfl d_Book_text_1_168 rfl (Nat.le_of_ble_eq_true rfl) ⟨by decide, by decide⟩ ⟨by decide, by decide⟩ ⟨by decide, by decide⟩ (mv_noH hno _) (fun τ9 g9 => Or.inr ⟨rfl, hS.2.2.2.2.2.2.tr g9⟩) (fun σ168 h168 => ?_)
                obtain ⟨th168, n168, k168, cb168, c168, e168, zt168, lt168⟩ := h168
                have hS := hS.tr zt168
                have hL168 := hS.le
                refine mv_goto (pc := 171) (tgt := 97) B d_Book_text_1_171 rfl ?_
                refine mv_lpick [0] rfl ?_
                exact ih _ _ _ _ _ _ _ hS (by omega)
            · skip
              refine mv_aload_n (pc := 150) B d_Book_text_1_150 rfl 0 rfl ?_
              refine mv_callVUv (pc := 151) (n := 0) (ci := 12) (C := R_Book) B (mK_ok sk sv) hNs rfl rfl (c_Book_fetch_x l hi _ len _ _ _ _ _ _ hS.re (z144.resolve_left h147).2) rfl (ma_goodc kc_Book_fetch) (B.2.2.2.1 _ k_2222) (B.2.2.2.1 _ k_2224) (B.2.2.2.1 _ ks_99) (B.2.2.2.1 _ k_13) ⟨by decide +kernel, by decide +kernel, by decide +kernel⟩ rfl d_Book_text_1_151 rfl (Nat.le_of_ble_eq_true rfl) ⟨by decide, by decide⟩ ⟨by decide, by decide⟩ ⟨by decide, by decide⟩ (mv_noH hno _) (fun τ9 g9 => Or.inr ⟨rfl, hS.2.2.2.2.2.2.tr g9⟩) (fun σ151 h151 => ?_)
              obtain ⟨th151, n151, k151, cb151, c151, e151, zt151, lt151⟩ := h151
              have hS := hS.tr zt151
              have hL151 := hS.le
              refine mv_goto (pc := 154) (tgt := 97) B d_Book_text_1_154 rfl ?_
              refine mv_lpick [0] rfl ?_
              exact ih _ _ _ _ _ _ _ hS (by omega)
          · skip
            refine mv_aload_n (pc := 132) B d_Book_text_1_132 rfl 0 rfl ?_
            refine mv_iconst (pc := 133) (v := 1) B d_Book_text_1_133 (by decide) ?_
            refine mv_callVUv (pc := 134) (n := 1) (ci := 12) (C := R_Book) B (mK_ok sk sv) hNs rfl rfl (c_Book_newThing_x l hi _ len _ _ _ _ _ _ hS.re 1 (z126.resolve_left h129).2) rfl (ma_goodc kc_Book_newThing) (B.2.2.2.1 _ k_2190) (B.2.2.2.1 _ k_2192) (B.2.2.2.1 _ ks_93) (B.2.2.2.1 _ k_13) ⟨by decide +kernel, by decide +kernel, by decide +kernel⟩ rfl d_Book_text_1_134 rfl (Nat.le_of_ble_eq_true rfl) ⟨by decide, by decide⟩ ⟨by decide, by decide⟩ ⟨by decide, by decide⟩ (mv_noH hno _) (fun τ9 g9 => Or.inr ⟨rfl, hS.2.2.2.2.2.2.tr g9⟩) (fun σ134 h134 => ?_)
            obtain ⟨th134, n134, k134, cb134, c134, e134, zt134, lt134⟩ := h134
            have hS := hS.tr zt134
            have hL134 := hS.le
            refine mv_goto (pc := 137) (tgt := 97) B d_Book_text_1_137 rfl ?_
            refine mv_lpick [0] rfl ?_
            exact ih _ _ _ _ _ _ _ hS (by omega)
        · skip
          refine mv_aload_n (pc := 114) B d_Book_text_1_114 rfl 0 rfl ?_
          refine mv_iconst (pc := 115) (v := 0) B d_Book_text_1_115 (by decide) ?_
          refine mv_callVUv (pc := 116) (n := 1) (ci := 12) (C := R_Book) B (mK_ok sk sv) hNs rfl rfl (c_Book_newThing_x l hi _ len _ _ _ _ _ _ hS.re 0 (z108.resolve_left h111).2) rfl (ma_goodc kc_Book_newThing) (B.2.2.2.1 _ k_2190) (B.2.2.2.1 _ k_2192) (B.2.2.2.1 _ ks_93) (B.2.2.2.1 _ k_13) ⟨by decide +kernel, by decide +kernel, by decide +kernel⟩ rfl d_Book_text_1_116 rfl (Nat.le_of_ble_eq_true rfl) ⟨by decide, by decide⟩ ⟨by decide, by decide⟩ ⟨by decide, by decide⟩ (mv_noH hno _) (fun τ9 g9 => Or.inr ⟨rfl, hS.2.2.2.2.2.2.tr g9⟩) (fun σ116 h116 => ?_)
          obtain ⟨th116, n116, k116, cb116, c116, e116, zt116, lt116⟩ := h116
          have hS := hS.tr zt116
          have hL116 := hS.le
          refine mv_goto (pc := 119) (tgt := 97) B d_Book_text_1_119 rfl ?_
          refine mv_lpick [0] rfl ?_
          exact ih _ _ _ _ _ _ _ hS (by omega)
  refine mv_aload_n (pc := 0) B d_Book_text_1_0 rfl 0 rfl ?_
  refine mv_iconst (pc := 1) (v := 0) B d_Book_text_1_1 (by decide) ?_
  refine mv_putI (pc := 2) (ci := 12) (C := R_Book) (T := F_Book) (N := 65) B 3 rfl rfl (by decide) i_Book t_Book_ok n_Book (B.2.2.2.1 _ k_1846) rfl rfl rfl rfl d_Book_text_1_2 ?_
  refine mv_aload_n (pc := 5) B d_Book_text_1_5 rfl 0 rfl ?_
  refine mv_iconst (pc := 6) (v := 0) B d_Book_text_1_6 (by decide) ?_
  refine mv_putI (pc := 7) (ci := 12) (C := R_Book) (T := F_Book) (N := 65) B 8 rfl rfl (by decide) i_Book t_Book_ok n_Book (B.2.2.2.1 _ k_1851) rfl rfl rfl rfl d_Book_text_1_7 ?_
  refine mv_gen (fun S10 eS10 => ?_)
  have hA : Ta 74 len S10 S10 0 := ⟨TkB.rf, by rw [eS10]; exact hR, by rw [eS10]; exact hz, by rw [eS10]; rfl, Nat.zero_le _, hl⟩
  have hb0 : BF 74 σ S10 := by rw [eS10]; exact (BF.rf.si ⟨by omega, by omega⟩).si ⟨by omega, by omega⟩
  have hrs : RS 74 S10 := by rw [eS10]; exact ⟨rfl, h17, hn48, hn29, hn51, hn19, hn18⟩
  clear eS10
  refine mv_aload_n (pc := 10) B d_Book_text_1_10 rfl 0 rfl ?_
  refine mv_callVUv (pc := 11) (n := 0) (ci := 12) (C := R_Book) B (mK_ok sk sv) hNs rfl rfl (c_Book_next_x l hi _ len 0 hA) rfl (ma_goodc kc_Book_next) (B.2.2.2.1 _ k_2114) (B.2.2.2.1 _ k_2116) (B.2.2.2.1 _ ks_80) (B.2.2.2.1 _ k_13) ⟨by decide +kernel, by decide +kernel, by decide +kernel⟩ rfl d_Book_text_1_11 rfl (Nat.le_of_ble_eq_true rfl) ⟨by decide, by decide⟩ ⟨by decide, by decide⟩ ⟨by decide, by decide⟩ (mv_noH hno _) (fun τ9 g9 => Or.inr ⟨rfl, hb0.tr g9.bf⟩) (fun σ11 h11 => ?_)
  obtain ⟨t11, u11, q11, -⟩ := h11
  have hb0 := hb0.tr q11.1.1.bf
  have hrs := hrs.tf q11.1.1.tf
  have hQ := q11.re
  refine mv_aload_n (pc := 14) B d_Book_text_1_14 rfl 0 rfl ?_
  refine mv_ldcwS (pc := 15) B (hNs.2.1 139 (by decide)).1 d_Book_text_1_15 ?_
  refine mv_callVUv (pc := 18) (n := 1) (ci := 12) (C := R_Book) B (mK_ok sk sv) hNs rfl rfl (c_Book_needWord_x l hi _ 139 (by decide) len _ _ hQ) rfl (ma_goodc kc_Book_needWord) (B.2.2.2.1 _ k_2159) (B.2.2.2.1 _ k_2161) (B.2.2.2.1 _ ks_87) (B.2.2.2.1 _ k_13) ⟨by decide +kernel, by decide +kernel, by decide +kernel⟩ rfl d_Book_text_1_18 rfl (Nat.le_of_ble_eq_true rfl) ⟨by decide, by decide⟩ ⟨by decide, by decide⟩ ⟨by decide, by decide⟩ (mv_noH hno _) (fun τ9 g9 => Or.inr ⟨rfl, hb0.tr g9.bf⟩) (fun σ18 h18 => ?_)
  obtain ⟨-, -, t18, u18, q18, -⟩ := h18
  have hb0 := hb0.tr q18.1.1.bf
  have hrs := hrs.tf q18.1.1.tf
  have hQ := q18.re
  refine mv_aload_n (pc := 21) B d_Book_text_1_21 rfl 0 rfl ?_
  refine mv_getL (pc := 22) (ci := 12) (C := R_Book) (T := F_Book) (N := 65) B 9 rfl rfl (by decide) i_Book (B.2.2.2.1 _ k_1852) rfl d_Book_text_1_22 ?_
  refine mv_lstore_n (pc := 25) B d_Book_text_1_25 rfl (by decide) rfl ?_
  refine mv_aload_n (pc := 26) B d_Book_text_1_26 rfl 1 rfl ?_
  refine mv_getI (pc := 27) (ci := 12) (C := R_Book) (T := F_Book) (N := 65) B 5 rfl rfl (by decide) i_Book (B.2.2.2.1 _ k_1848) rfl d_Book_text_1_27 ?_
  refine mv_istore_n (pc := 30) B d_Book_text_1_30 rfl (by decide) rfl ?_
  refine mv_aload_n (pc := 31) B d_Book_text_1_31 rfl 2 rfl ?_
  refine mv_iconst (pc := 32) (v := 2) B d_Book_text_1_32 (by decide) ?_
  refine mv_callVUv (pc := 33) (n := 1) (ci := 12) (C := R_Book) B (mK_ok sk sv) hNs rfl rfl (c_Book_need_x l hi _ _ len _ _ hQ) rfl (ma_goodc kc_Book_need) (B.2.2.2.1 _ k_2177) (B.2.2.2.1 _ k_2179) (B.2.2.2.1 _ ks_91) (B.2.2.2.1 _ k_13) ⟨by decide +kernel, by decide +kernel, by decide +kernel⟩ rfl d_Book_text_1_33 rfl (Nat.le_of_ble_eq_true rfl) ⟨by decide, by decide⟩ ⟨by decide, by decide⟩ ⟨by decide, by decide⟩ (mv_noH hno _) (fun τ9 g9 => Or.inr ⟨rfl, hb0.tr g9.bf⟩) (fun σ33 h33 => ?_)
  obtain ⟨-, -, t33, u33, q33, -⟩ := h33
  have hb0 := hb0.tr q33.1.1.bf
  have hrs := hrs.tf q33.1.1.tf
  have hQ := q33.re
  refine mv_aload_n (pc := 36) B d_Book_text_1_36 rfl 2 rfl ?_
  refine mv_bipush (pc := 37) (v := 59) B d_Book_text_1_37 (by decide) ?_
  refine mv_callVUv (pc := 39) (n := 1) (ci := 12) (C := R_Book) B (mK_ok sk sv) hNs rfl rfl (c_Book_need_x l hi _ _ len _ _ hQ) rfl (ma_goodc kc_Book_need) (B.2.2.2.1 _ k_2177) (B.2.2.2.1 _ k_2179) (B.2.2.2.1 _ ks_91) (B.2.2.2.1 _ k_13) ⟨by decide +kernel, by decide +kernel, by decide +kernel⟩ rfl d_Book_text_1_39 rfl (Nat.le_of_ble_eq_true rfl) ⟨by decide, by decide⟩ ⟨by decide, by decide⟩ ⟨by decide, by decide⟩ (mv_noH hno _) (fun τ9 g9 => Or.inr ⟨rfl, hb0.tr g9.bf⟩) (fun σ39 h39 => ?_)
  obtain ⟨-, -, t39, u39, q39, -⟩ := h39
  have hb0 := hb0.tr q39.1.1.bf
  have hrs := hrs.tf q39.1.1.tf
  have hQ := q39.re
  have j81 : ∀ (v9 : Int32) (p9 : Int32) (hv9 : v9.toInt = 0 ∨ (8 ≤ v9.toInt ∧ v9.toInt ≤ 64)), mv_V p l e ({ frames := 880, cells := 0, slots := 0, locals := 31452 }) s m ([.ref (al 74)] : List Value).toArray below meth c (mg dA D al ext) 4 0 0 (mv_Q (mg dA D al ext) below s 0 0 (mv_Uv (TO 74 len σ) ("MachineLoomModel$Book$Wrong", al 107) (BF 74 σ))) σ39 81 [(0, .ref (al 74)), (3, .int p9)] [.int v9, .ref (al 74)] := by
    intro v9 p9 hv9
    refine mv_putI (pc := 81) (ci := 12) (C := R_Book) (T := F_Book) (N := 65) B 20 rfl rfl (by decide) i_Book t_Book_ok n_Book (B.2.2.2.1 _ k_1865) rfl rfl rfl rfl d_Book_text_1_81 ?_
    refine mv_gen (fun S84 eS84 => ?_)
    have hrs : RS 74 S84 := by rw [eS84]; exact hrs
    have hb0 : BF 74 σ S84 := by rw [eS84]; exact hb0.si ⟨by omega, by omega⟩
    have hQ : Tq 74 len S84 S84 t39 u39 := hQ.keep (fun k h1 h2 => by rw [eS84]; exact mv_si_o _ _ (by omega)) (by rw [eS84]; rfl)
    have h20 : mv_i S84 74 20 = v9 := by rw [eS84]; rfl
    clear eS84
    refine mv_aload_n (pc := 84) B d_Book_text_1_84 rfl 0 rfl ?_
    refine mv_getI (pc := 85) (ci := 12) (C := R_Book) (T := F_Book) (N := 65) B 20 rfl rfl (by decide) i_Book (B.2.2.2.1 _ k_1865) rfl d_Book_text_1_85 ?_
    refine mv_if_ne (pc := 88) (tgt := 97) B d_Book_text_1_88 rfl (fun h88 => ?_) (fun h88 => ?_)
    · skip
      refine mv_lpick [0] rfl ?_
      first | exact lp _ _ _ _ _ _ _ _ (ZT.start hQ hrs hb0 (fun _ => by rw [h20]; exact hv9.resolve_left (fun z => h88 (by rw [h20]; exact Int32.toInt_inj.mp z)))) (Nat.lt_succ_self _) | exact lp _ _ _ _ _ _ _ _ (ZT.start (hQ.keep (fun k h1 h2 => h94.2.2 k (by omega)) h94.1.2.2.1) (hrs.tf h94.1) (hb0.tr h94.1.bf) (fun z => absurd z h94.2.1)) (Nat.lt_succ_self _)
    · skip
      refine mv_aload_n (pc := 91) B d_Book_text_1_91 rfl 0 rfl ?_
      refine mv_iconst (pc := 92) (v := 3) B d_Book_text_1_92 (by decide) ?_
      refine mv_iload_n (pc := 93) B d_Book_text_1_93 rfl 1 rfl ?_
      refine mv_callVv (pc := 94) (n := 2) (ci := 12) (C := R_Book) B (mK_ok sk sv) hNs rfl rfl (c_Book_fault_x l hi _ _ _ (by decide)) rfl (ma_goodc kc_Book_fault) (B.2.2.2.1 _ k_2185) (B.2.2.2.1 _ k_2187) (B.2.2.2.1 _ ks_92) (B.2.2.2.1 _ k_13) ⟨by decide +kernel, by decide +kernel, by decide +kernel⟩ rfl d_Book_text_1_94 rfl (Nat.le_of_ble_eq_true rfl) ⟨by decide, by decide⟩ ⟨by decide, by decide⟩ ⟨by decide, by decide⟩ (mv_noH hno _) (fun σ94 h94 => ?_)
      refine mv_lpick [0] rfl ?_
      first | exact lp _ _ _ _ _ _ _ _ (ZT.start hQ hrs hb0 (fun _ => by rw [h20]; exact hv9.resolve_left (fun z => h88 (by rw [h20]; exact Int32.toInt_inj.mp z)))) (Nat.lt_succ_self _) | exact lp _ _ _ _ _ _ _ _ (ZT.start (hQ.keep (fun k h1 h2 => h94.2.2 k (by omega)) h94.1.2.2.1) (hrs.tf h94.1) (hb0.tr h94.1.bf) (fun z => absurd z h94.2.1)) (Nat.lt_succ_self _)
  refine mv_aload_n (pc := 42) B d_Book_text_1_42 rfl 2 rfl ?_
  refine mv_lload_n (pc := 43) B d_Book_text_1_43 rfl 1 rfl ?_
  refine mv_ldc2 (pc := 44) (v := 8) B (B.2.2.2.1 _ k_2181) d_Book_text_1_44 ?_
  refine mv_lcmp (pc := 47) B d_Book_text_1_47 ?_
  refine mv_if_eq (pc := 48) (tgt := 75) B d_Book_text_1_48 rfl (fun h48 => ?_) (fun h48 => ?_)
  · skip
    refine mv_lload_n (pc := 75) B d_Book_text_1_75 rfl 1 rfl ?_
    refine mv_l2i (pc := 76) B d_Book_text_1_76 ?_
    refine mv_goto (pc := 77) (tgt := 81) B d_Book_text_1_77 rfl ?_
    refine mv_lpick [2, 0] rfl ?_
    exact j81 _ _ (by first | exact Or.inl rfl | exact Or.inr (by rw [(lg_cmp_eq _ _).mp h48]; decide) | exact Or.inr (by rw [(lg_cmp_eq _ _).mp h56]; decide) | exact Or.inr (by rw [(lg_cmp_eq _ _).mp h64]; decide) | exact Or.inr (by rw [(lg_cmp_eq _ _).mp h72]; decide))
  · skip
    refine mv_lload_n (pc := 51) B d_Book_text_1_51 rfl 1 rfl ?_
    refine mv_ldc2 (pc := 52) (v := 16) B (B.2.2.2.1 _ k_2182) d_Book_text_1_52 ?_
    refine mv_lcmp (pc := 55) B d_Book_text_1_55 ?_
    refine mv_if_eq (pc := 56) (tgt := 75) B d_Book_text_1_56 rfl (fun h56 => ?_) (fun h56 => ?_)
    · skip
      refine mv_lload_n (pc := 75) B d_Book_text_1_75 rfl 1 rfl ?_
      refine mv_l2i (pc := 76) B d_Book_text_1_76 ?_
      refine mv_goto (pc := 77) (tgt := 81) B d_Book_text_1_77 rfl ?_
      refine mv_lpick [2, 0] rfl ?_
      exact j81 _ _ (by first | exact Or.inl rfl | exact Or.inr (by rw [(lg_cmp_eq _ _).mp h48]; decide) | exact Or.inr (by rw [(lg_cmp_eq _ _).mp h56]; decide) | exact Or.inr (by rw [(lg_cmp_eq _ _).mp h64]; decide) | exact Or.inr (by rw [(lg_cmp_eq _ _).mp h72]; decide))
    · skip
      refine mv_lload_n (pc := 59) B d_Book_text_1_59 rfl 1 rfl ?_
      refine mv_ldc2 (pc := 60) (v := 32) B (B.2.2.2.1 _ k_2183) d_Book_text_1_60 ?_
      refine mv_lcmp (pc := 63) B d_Book_text_1_63 ?_
      refine mv_if_eq (pc := 64) (tgt := 75) B d_Book_text_1_64 rfl (fun h64 => ?_) (fun h64 => ?_)
      · skip
        refine mv_lload_n (pc := 75) B d_Book_text_1_75 rfl 1 rfl ?_
        refine mv_l2i (pc := 76) B d_Book_text_1_76 ?_
        refine mv_goto (pc := 77) (tgt := 81) B d_Book_text_1_77 rfl ?_
        refine mv_lpick [2, 0] rfl ?_
        exact j81 _ _ (by first | exact Or.inl rfl | exact Or.inr (by rw [(lg_cmp_eq _ _).mp h48]; decide) | exact Or.inr (by rw [(lg_cmp_eq _ _).mp h56]; decide) | exact Or.inr (by rw [(lg_cmp_eq _ _).mp h64]; decide) | exact Or.inr (by rw [(lg_cmp_eq _ _).mp h72]; decide))
      · skip
        refine mv_lload_n (pc := 67) B d_Book_text_1_67 rfl 1 rfl ?_
        refine mv_ldc2 (pc := 68) (v := 64) B (B.2.2.2.1 _ k_2184) d_Book_text_1_68 ?_
        refine mv_lcmp (pc := 71) B d_Book_text_1_71 ?_
        refine mv_if_ne (pc := 72) (tgt := 80) B d_Book_text_1_72 rfl (fun h72 => ?_) (fun h72 => ?_)
        · skip
          refine mv_iconst (pc := 80) (v := 0) B d_Book_text_1_80 (by decide) ?_
          refine mv_lpick [2, 0] rfl ?_
          exact j81 _ _ (by first | exact Or.inl rfl | exact Or.inr (by rw [(lg_cmp_eq _ _).mp h48]; decide) | exact Or.inr (by rw [(lg_cmp_eq _ _).mp h56]; decide) | exact Or.inr (by rw [(lg_cmp_eq _ _).mp h64]; decide) | exact Or.inr (by rw [(lg_cmp_eq _ _).mp h72]; decide))
        · skip
          refine mv_lload_n (pc := 75) B d_Book_text_1_75 rfl 1 rfl ?_
          refine mv_l2i (pc := 76) B d_Book_text_1_76 ?_
          refine mv_goto (pc := 77) (tgt := 81) B d_Book_text_1_77 rfl ?_
          refine mv_lpick [2, 0] rfl ?_
          exact j81 _ _ (by first | exact Or.inl rfl | exact Or.inr (by rw [(lg_cmp_eq _ _).mp h48]; decide) | exact Or.inr (by rw [(lg_cmp_eq _ _).mp h56]; decide) | exact Or.inr (by rw [(lg_cmp_eq _ _).mp h64]; decide) | exact Or.inr (by rw [(lg_cmp_eq _ _).mp h72]; decide))
set_option maxHeartbeats 4000000 in
set_option maxRecDepth 100000 in
theorem c_Book_text_1_y (l : Launch) {dA : FieldType → ClassId} {D : va_G} {al : Nat → Nat} {ext : mv_Sh} {sk sv : Nat → Nat} (hi : mv_inj (mg dA D al ext)) (σ : mv_H) (len : Nat) (hR : Br 108 (mv_r σ)) (hz : (mv_i σ 108 2).toInt = len) (hl : len ≤ 10240) (h17 : mv_i σ 108 17 = 0) (hn48 : mv_i σ 108 48 = 0) (hn29 : mv_i σ 108 29 = 0) (hn51 : mv_i σ 108 51 = 0) (hn19 : mv_i σ 108 19 = 0) (hn18 : mv_i σ 108 18 = -1) : mv_C l y_Book_text_1 (Cond.code y_Book_text_1 b_Book_text_1 4 (Option.none : Option Jvm.ClassFile.FieldType) :: ma) ({ frames := 880, cells := 0, slots := 0, locals := 31452 }) (mg dA D al ext) (mK sk sv) [.ref (al 108)] σ (mv_Uv (TO 108 len σ) ("MachineLoomModel$Book$Wrong", al 141) (BF 108 σ)) := by
  refine mv_C.ofV (cc := b_Book_text_1) (nL := 4) (ret := (Option.none : Option Jvm.ClassFile.FieldType)) (by decide +kernel) rfl hi (Nat.le_of_ble_eq_true rfl) ?_
  intro p e s m below meth c B hNs hr hnm hno
  have lp : ∀ (nn : Nat) (S : mv_H) (th : Nat) (n : Nat) (k : Nat) (cb : Nat) (b1 : Nat) (b2 : Nat) (hS : ZT 108 len σ S th n k cb 0 b1 b2), len + 1 - b1 < nn → mv_V p l e ({ frames := 880, cells := 0, slots := 0, locals := 31452 }) s m ([.ref (al 108)] : List Value).toArray below meth c (mg dA D al ext) 4 0 0 (mv_Q (mg dA D al ext) below s 0 0 (mv_Uv (TO 108 len σ) ("MachineLoomModel$Book$Wrong", al 141) (BF 108 σ))) S 97 [(0, .ref (al 108))] [] := by
    intro nn
    induction nn with
    | zero => intro S th n k cb b1 b2 hS hm; exact absurd hm (Nat.not_lt_zero _)
    | succ nn ih =>
      intro S th n k cb b1 b2 hS hm
      have hL97 := hS.le
      refine mv_aload_n (pc := 97) B d_Book_text_1_97 rfl 0 rfl ?_
      refine mv_getI (pc := 98) (ci := 12) (C := R_Book) (T := F_Book) (N := 65) B 4 rfl rfl (by decide) i_Book (B.2.2.2.1 _ k_1847) rfl d_Book_text_1_98 ?_
      refine mv_if_eq (pc := 101) (tgt := 183) B d_Book_text_1_101 rfl (fun h101 => ?_) (fun h101 => ?_)
      · skip
        exact mv_vret (pc := 183) B hr d_Book_text_1_183 (Nat.le_refl _) (Nat.le_refl _) (Or.inl ⟨rfl, _, _, _, _, _, _, hS⟩)
      · skip
        refine mv_aload_n (pc := 104) B d_Book_text_1_104 rfl 0 rfl ?_
        refine mv_ldcwS (pc := 105) B (hNs.2.1 140 (by decide)).1 d_Book_text_1_105 ?_
        refine mv_callVi (pc := 108) (n := 1) (ci := 12) (C := R_Book) B (mK_ok sk sv) hNs rfl rfl (c_Book_is_y l hi _ 140 (by decide) len _ _ hS.1) rfl (ma_goodc kc_Book_is) (B.2.2.2.1 _ k_2163) (B.2.2.2.1 _ k_2165) (B.2.2.2.1 _ ks_88) (B.2.2.2.1 _ k_13) ⟨by decide +kernel, by decide +kernel, by decide +kernel⟩ rfl d_Book_text_1_108 rfl (Nat.le_of_ble_eq_true rfl) ⟨by decide, by decide⟩ ⟨by decide, by decide⟩ ⟨by decide, by decide⟩ (mv_noH hno _) (fun v108 σ108 h108 => ?_)
        obtain ⟨e108, z108⟩ := h108
        have e108 := e108.symm
        subst e108
        refine mv_if_eq (pc := 111) (tgt := 122) B d_Book_text_1_111 rfl (fun h111 => ?_) (fun h111 => ?_)
        · skip
          refine mv_aload_n (pc := 122) B d_Book_text_1_122 rfl 0 rfl ?_
          refine mv_ldcwS (pc := 123) B (hNs.2.1 143 (by decide)).1 d_Book_text_1_123 ?_
          refine mv_callVi (pc := 126) (n := 1) (ci := 12) (C := R_Book) B (mK_ok sk sv) hNs rfl rfl (c_Book_is_y l hi _ 143 (by decide) len _ _ hS.1) rfl (ma_goodc kc_Book_is) (B.2.2.2.1 _ k_2163) (B.2.2.2.1 _ k_2165) (B.2.2.2.1 _ ks_88) (B.2.2.2.1 _ k_13) ⟨by decide +kernel, by decide +kernel, by decide +kernel⟩ rfl d_Book_text_1_126 rfl (Nat.le_of_ble_eq_true rfl) ⟨by decide, by decide⟩ ⟨by decide, by decide⟩ ⟨by decide, by decide⟩ (mv_noH hno _) (fun v126 σ126 h126 => ?_)
          obtain ⟨e126, z126⟩ := h126
          have e126 := e126.symm
          subst e126
          refine mv_if_eq (pc := 129) (tgt := 140) B d_Book_text_1_129 rfl (fun h129 => ?_) (fun h129 => ?_)
          · skip
            refine mv_aload_n (pc := 140) B d_Book_text_1_140 rfl 0 rfl ?_
            refine mv_ldcwS (pc := 141) B (hNs.2.1 144 (by decide)).1 d_Book_text_1_141 ?_
            refine mv_callVi (pc := 144) (n := 1) (ci := 12) (C := R_Book) B (mK_ok sk sv) hNs rfl rfl (c_Book_is_y l hi _ 144 (by decide) len _ _ hS.1) rfl (ma_goodc kc_Book_is) (B.2.2.2.1 _ k_2163) (B.2.2.2.1 _ k_2165) (B.2.2.2.1 _ ks_88) (B.2.2.2.1 _ k_13) ⟨by decide +kernel, by decide +kernel, by decide +kernel⟩ rfl d_Book_text_1_144 rfl (Nat.le_of_ble_eq_true rfl) ⟨by decide, by decide⟩ ⟨by decide, by decide⟩ ⟨by decide, by decide⟩ (mv_noH hno _) (fun v144 σ144 h144 => ?_)
            obtain ⟨e144, z144⟩ := h144
            have e144 := e144.symm
            subst e144
            refine mv_if_eq (pc := 147) (tgt := 157) B d_Book_text_1_147 rfl (fun h147 => ?_) (fun h147 => ?_)
            · skip
              refine mv_aload_n (pc := 157) B d_Book_text_1_157 rfl 0 rfl ?_
              refine mv_ldcwS (pc := 158) B (hNs.2.1 146 (by decide)).1 d_Book_text_1_158 ?_
              refine mv_callVi (pc := 161) (n := 1) (ci := 12) (C := R_Book) B (mK_ok sk sv) hNs rfl rfl (c_Book_is_y l hi _ 146 (by decide) len _ _ hS.1) rfl (ma_goodc kc_Book_is) (B.2.2.2.1 _ k_2163) (B.2.2.2.1 _ k_2165) (B.2.2.2.1 _ ks_88) (B.2.2.2.1 _ k_13) ⟨by decide +kernel, by decide +kernel, by decide +kernel⟩ rfl d_Book_text_1_161 rfl (Nat.le_of_ble_eq_true rfl) ⟨by decide, by decide⟩ ⟨by decide, by decide⟩ ⟨by decide, by decide⟩ (mv_noH hno _) (fun v161 σ161 h161 => ?_)
              obtain ⟨e161, z161⟩ := h161
              have e161 := e161.symm
              subst e161
              refine mv_if_eq (pc := 164) (tgt := 174) B d_Book_text_1_164 rfl (fun h164 => ?_) (fun h164 => ?_)
              · skip
                refine mv_aload_n (pc := 174) B d_Book_text_1_174 rfl 0 rfl ?_
                refine mv_aload_n (pc := 175) B d_Book_text_1_175 rfl 0 rfl ?_
                refine mv_getI (pc := 176) (ci := 12) (C := R_Book) (T := F_Book) (N := 65) B 5 rfl rfl (by decide) i_Book (B.2.2.2.1 _ k_1848) rfl d_Book_text_1_176 ?_
                refine mv_callVr (pc := 179) (n := 1) (ci := 12) (C := R_Book) B (mK_ok sk sv) hNs rfl rfl (c_Book_wrongAt_y l hi _ _ hS.R) rfl (ma_goodc kc_Book_wrongAt) (B.2.2.2.1 _ k_2154) (B.2.2.2.1 _ k_2156) (B.2.2.2.1 _ ks_86) (B.2.2.2.1 _ k_13) ⟨by decide +kernel, by decide +kernel, by decide +kernel⟩ rfl d_Book_text_1_179 rfl (Nat.le_of_ble_eq_true rfl) ⟨by decide, by decide⟩ ⟨by decide, by decide⟩ ⟨by decide, by decide⟩ (mv_noH hno _) (fun σ179 h179 => ?_)
                obtain ⟨g179, -⟩ := h179
                exact mv_athrowO (pc := 182) (o := 141) B rfl rfl (mv_noH hno _) d_Book_text_1_182 (Nat.le_refl _) (Nat.le_refl _) (Or.inr ⟨rfl, hS.2.2.2.2.2.2.tr g179.bf⟩)
              · skip
                refine mv_aload_n (pc := 167) B d_Book_text_1_167 rfl 0 rfl ?_
                refine mv_callVUv (pc := 168) (n := 0) (ci := 12) (C := R_Book) B (mK_ok sk sv) hNs rfl rfl (c_Book_operation_y l hi _ len _ _ _ _ _ _ hS.re (z161.resolve_left h164).2) rfl (ma_goodc kc_Book_operation) (B.2.2.2.1 _ k_2228) (B.2.2.2.1 _ k_2230) (B.2.2.2.1 _ ks_100) (B.2.2.2.1 _ k_13) ⟨by decide +kernel, by decide +kernel, by decide +kernel⟩ rfl d_Book_text_1_168 rfl (Nat.le_of_ble_eq_true rfl) ⟨by decide, by decide⟩ ⟨by decide, by decide⟩ ⟨by decide, by decide⟩ (mv_noH hno _) (fun τ9 g9 => Or.inr ⟨rfl, hS.2.2.2.2.2.2.tr g9⟩) (fun σ168 h168 => ?_)
                obtain ⟨th168, n168, k168, cb168, c168, e168, zt168, lt168⟩ := h168
                have hS := hS.tr zt168
                have hL168 := hS.le
                refine mv_goto (pc := 171) (tgt := 97) B d_Book_text_1_171 rfl ?_
                refine mv_lpick [0] rfl ?_
                exact ih _ _ _ _ _ _ _ hS (by omega)
            · skip
              refine mv_aload_n (pc := 150) B d_Book_text_1_150 rfl 0 rfl ?_
              refine mv_callVUv (pc := 151) (n := 0) (ci := 12) (C := R_Book) B (mK_ok sk sv) hNs rfl rfl (c_Book_fetch_y l hi _ len _ _ _ _ _ _ hS.re (z144.resolve_left h147).2) rfl (ma_goodc kc_Book_fetch) (B.2.2.2.1 _ k_2222) (B.2.2.2.1 _ k_2224) (B.2.2.2.1 _ ks_99) (B.2.2.2.1 _ k_13) ⟨by decide +kernel, by decide +kernel, by decide +kernel⟩ rfl d_Book_text_1_151 rfl (Nat.le_of_ble_eq_true rfl) ⟨by decide, by decide⟩ ⟨by decide, by decide⟩ ⟨by decide, by decide⟩ (mv_noH hno _) (fun τ9 g9 => Or.inr ⟨rfl, hS.2.2.2.2.2.2.tr g9⟩) (fun σ151 h151 => ?_)
              obtain ⟨th151, n151, k151, cb151, c151, e151, zt151, lt151⟩ := h151
              have hS := hS.tr zt151
              have hL151 := hS.le
              refine mv_goto (pc := 154) (tgt := 97) B d_Book_text_1_154 rfl ?_
              refine mv_lpick [0] rfl ?_
              exact ih _ _ _ _ _ _ _ hS (by omega)
          · skip
            refine mv_aload_n (pc := 132) B d_Book_text_1_132 rfl 0 rfl ?_
            refine mv_iconst (pc := 133) (v := 1) B d_Book_text_1_133 (by decide) ?_
            refine mv_callVUv (pc := 134) (n := 1) (ci := 12) (C := R_Book) B (mK_ok sk sv) hNs rfl rfl (c_Book_newThing_y l hi _ len _ _ _ _ _ _ hS.re 1 (z126.resolve_left h129).2) rfl (ma_goodc kc_Book_newThing) (B.2.2.2.1 _ k_2190) (B.2.2.2.1 _ k_2192) (B.2.2.2.1 _ ks_93) (B.2.2.2.1 _ k_13) ⟨by decide +kernel, by decide +kernel, by decide +kernel⟩ rfl d_Book_text_1_134 rfl (Nat.le_of_ble_eq_true rfl) ⟨by decide, by decide⟩ ⟨by decide, by decide⟩ ⟨by decide, by decide⟩ (mv_noH hno _) (fun τ9 g9 => Or.inr ⟨rfl, hS.2.2.2.2.2.2.tr g9⟩) (fun σ134 h134 => ?_)
            obtain ⟨th134, n134, k134, cb134, c134, e134, zt134, lt134⟩ := h134
            have hS := hS.tr zt134
            have hL134 := hS.le
            refine mv_goto (pc := 137) (tgt := 97) B d_Book_text_1_137 rfl ?_
            refine mv_lpick [0] rfl ?_
            exact ih _ _ _ _ _ _ _ hS (by omega)
        · skip
          refine mv_aload_n (pc := 114) B d_Book_text_1_114 rfl 0 rfl ?_
          refine mv_iconst (pc := 115) (v := 0) B d_Book_text_1_115 (by decide) ?_
          refine mv_callVUv (pc := 116) (n := 1) (ci := 12) (C := R_Book) B (mK_ok sk sv) hNs rfl rfl (c_Book_newThing_y l hi _ len _ _ _ _ _ _ hS.re 0 (z108.resolve_left h111).2) rfl (ma_goodc kc_Book_newThing) (B.2.2.2.1 _ k_2190) (B.2.2.2.1 _ k_2192) (B.2.2.2.1 _ ks_93) (B.2.2.2.1 _ k_13) ⟨by decide +kernel, by decide +kernel, by decide +kernel⟩ rfl d_Book_text_1_116 rfl (Nat.le_of_ble_eq_true rfl) ⟨by decide, by decide⟩ ⟨by decide, by decide⟩ ⟨by decide, by decide⟩ (mv_noH hno _) (fun τ9 g9 => Or.inr ⟨rfl, hS.2.2.2.2.2.2.tr g9⟩) (fun σ116 h116 => ?_)
          obtain ⟨th116, n116, k116, cb116, c116, e116, zt116, lt116⟩ := h116
          have hS := hS.tr zt116
          have hL116 := hS.le
          refine mv_goto (pc := 119) (tgt := 97) B d_Book_text_1_119 rfl ?_
          refine mv_lpick [0] rfl ?_
          exact ih _ _ _ _ _ _ _ hS (by omega)
  refine mv_aload_n (pc := 0) B d_Book_text_1_0 rfl 0 rfl ?_
  refine mv_iconst (pc := 1) (v := 0) B d_Book_text_1_1 (by decide) ?_
  refine mv_putI (pc := 2) (ci := 12) (C := R_Book) (T := F_Book) (N := 65) B 3 rfl rfl (by decide) i_Book t_Book_ok n_Book (B.2.2.2.1 _ k_1846) rfl rfl rfl rfl d_Book_text_1_2 ?_
  refine mv_aload_n (pc := 5) B d_Book_text_1_5 rfl 0 rfl ?_
  refine mv_iconst (pc := 6) (v := 0) B d_Book_text_1_6 (by decide) ?_
  refine mv_putI (pc := 7) (ci := 12) (C := R_Book) (T := F_Book) (N := 65) B 8 rfl rfl (by decide) i_Book t_Book_ok n_Book (B.2.2.2.1 _ k_1851) rfl rfl rfl rfl d_Book_text_1_7 ?_
  refine mv_gen (fun S10 eS10 => ?_)
  have hA : Ta 108 len S10 S10 0 := ⟨TkB.rf, by rw [eS10]; exact hR, by rw [eS10]; exact hz, by rw [eS10]; rfl, Nat.zero_le _, hl⟩
  have hb0 : BF 108 σ S10 := by rw [eS10]; exact (BF.rf.si ⟨by omega, by omega⟩).si ⟨by omega, by omega⟩
  have hrs : RS 108 S10 := by rw [eS10]; exact ⟨rfl, h17, hn48, hn29, hn51, hn19, hn18⟩
  clear eS10
  refine mv_aload_n (pc := 10) B d_Book_text_1_10 rfl 0 rfl ?_
  refine mv_callVUv (pc := 11) (n := 0) (ci := 12) (C := R_Book) B (mK_ok sk sv) hNs rfl rfl (c_Book_next_y l hi _ len 0 hA) rfl (ma_goodc kc_Book_next) (B.2.2.2.1 _ k_2114) (B.2.2.2.1 _ k_2116) (B.2.2.2.1 _ ks_80) (B.2.2.2.1 _ k_13) ⟨by decide +kernel, by decide +kernel, by decide +kernel⟩ rfl d_Book_text_1_11 rfl (Nat.le_of_ble_eq_true rfl) ⟨by decide, by decide⟩ ⟨by decide, by decide⟩ ⟨by decide, by decide⟩ (mv_noH hno _) (fun τ9 g9 => Or.inr ⟨rfl, hb0.tr g9.bf⟩) (fun σ11 h11 => ?_)
  obtain ⟨t11, u11, q11, -⟩ := h11
  have hb0 := hb0.tr q11.1.1.bf
  have hrs := hrs.tf q11.1.1.tf
  have hQ := q11.re
  refine mv_aload_n (pc := 14) B d_Book_text_1_14 rfl 0 rfl ?_
  refine mv_ldcwS (pc := 15) B (hNs.2.1 139 (by decide)).1 d_Book_text_1_15 ?_
  refine mv_callVUv (pc := 18) (n := 1) (ci := 12) (C := R_Book) B (mK_ok sk sv) hNs rfl rfl (c_Book_needWord_y l hi _ 139 (by decide) len _ _ hQ) rfl (ma_goodc kc_Book_needWord) (B.2.2.2.1 _ k_2159) (B.2.2.2.1 _ k_2161) (B.2.2.2.1 _ ks_87) (B.2.2.2.1 _ k_13) ⟨by decide +kernel, by decide +kernel, by decide +kernel⟩ rfl d_Book_text_1_18 rfl (Nat.le_of_ble_eq_true rfl) ⟨by decide, by decide⟩ ⟨by decide, by decide⟩ ⟨by decide, by decide⟩ (mv_noH hno _) (fun τ9 g9 => Or.inr ⟨rfl, hb0.tr g9.bf⟩) (fun σ18 h18 => ?_)
  obtain ⟨-, -, t18, u18, q18, -⟩ := h18
  have hb0 := hb0.tr q18.1.1.bf
  have hrs := hrs.tf q18.1.1.tf
  have hQ := q18.re
  refine mv_aload_n (pc := 21) B d_Book_text_1_21 rfl 0 rfl ?_
  refine mv_getL (pc := 22) (ci := 12) (C := R_Book) (T := F_Book) (N := 65) B 9 rfl rfl (by decide) i_Book (B.2.2.2.1 _ k_1852) rfl d_Book_text_1_22 ?_
  refine mv_lstore_n (pc := 25) B d_Book_text_1_25 rfl (by decide) rfl ?_
  refine mv_aload_n (pc := 26) B d_Book_text_1_26 rfl 1 rfl ?_
  refine mv_getI (pc := 27) (ci := 12) (C := R_Book) (T := F_Book) (N := 65) B 5 rfl rfl (by decide) i_Book (B.2.2.2.1 _ k_1848) rfl d_Book_text_1_27 ?_
  refine mv_istore_n (pc := 30) B d_Book_text_1_30 rfl (by decide) rfl ?_
  refine mv_aload_n (pc := 31) B d_Book_text_1_31 rfl 2 rfl ?_
  refine mv_iconst (pc := 32) (v := 2) B d_Book_text_1_32 (by decide) ?_
  refine mv_callVUv (pc := 33) (n := 1) (ci := 12) (C := R_Book) B (mK_ok sk sv) hNs rfl rfl (c_Book_need_y l hi _ _ len _ _ hQ) rfl (ma_goodc kc_Book_need) (B.2.2.2.1 _ k_2177) (B.2.2.2.1 _ k_2179) (B.2.2.2.1 _ ks_91) (B.2.2.2.1 _ k_13) ⟨by decide +kernel, by decide +kernel, by decide +kernel⟩ rfl d_Book_text_1_33 rfl (Nat.le_of_ble_eq_true rfl) ⟨by decide, by decide⟩ ⟨by decide, by decide⟩ ⟨by decide, by decide⟩ (mv_noH hno _) (fun τ9 g9 => Or.inr ⟨rfl, hb0.tr g9.bf⟩) (fun σ33 h33 => ?_)
  obtain ⟨-, -, t33, u33, q33, -⟩ := h33
  have hb0 := hb0.tr q33.1.1.bf
  have hrs := hrs.tf q33.1.1.tf
  have hQ := q33.re
  refine mv_aload_n (pc := 36) B d_Book_text_1_36 rfl 2 rfl ?_
  refine mv_bipush (pc := 37) (v := 59) B d_Book_text_1_37 (by decide) ?_
  refine mv_callVUv (pc := 39) (n := 1) (ci := 12) (C := R_Book) B (mK_ok sk sv) hNs rfl rfl (c_Book_need_y l hi _ _ len _ _ hQ) rfl (ma_goodc kc_Book_need) (B.2.2.2.1 _ k_2177) (B.2.2.2.1 _ k_2179) (B.2.2.2.1 _ ks_91) (B.2.2.2.1 _ k_13) ⟨by decide +kernel, by decide +kernel, by decide +kernel⟩ rfl d_Book_text_1_39 rfl (Nat.le_of_ble_eq_true rfl) ⟨by decide, by decide⟩ ⟨by decide, by decide⟩ ⟨by decide, by decide⟩ (mv_noH hno _) (fun τ9 g9 => Or.inr ⟨rfl, hb0.tr g9.bf⟩) (fun σ39 h39 => ?_)
  obtain ⟨-, -, t39, u39, q39, -⟩ := h39
  have hb0 := hb0.tr q39.1.1.bf
  have hrs := hrs.tf q39.1.1.tf
  have hQ := q39.re
  have j81 : ∀ (v9 : Int32) (p9 : Int32) (hv9 : v9.toInt = 0 ∨ (8 ≤ v9.toInt ∧ v9.toInt ≤ 64)), mv_V p l e ({ frames := 880, cells := 0, slots := 0, locals := 31452 }) s m ([.ref (al 108)] : List Value).toArray below meth c (mg dA D al ext) 4 0 0 (mv_Q (mg dA D al ext) below s 0 0 (mv_Uv (TO 108 len σ) ("MachineLoomModel$Book$Wrong", al 141) (BF 108 σ))) σ39 81 [(0, .ref (al 108)), (3, .int p9)] [.int v9, .ref (al 108)] := by
    intro v9 p9 hv9
    refine mv_putI (pc := 81) (ci := 12) (C := R_Book) (T := F_Book) (N := 65) B 20 rfl rfl (by decide) i_Book t_Book_ok n_Book (B.2.2.2.1 _ k_1865) rfl rfl rfl rfl d_Book_text_1_81 ?_
    refine mv_gen (fun S84 eS84 => ?_)
    have hrs : RS 108 S84 := by rw [eS84]; exact hrs
    have hb0 : BF 108 σ S84 := by rw [eS84]; exact hb0.si ⟨by omega, by omega⟩
    have hQ : Tq 108 len S84 S84 t39 u39 := hQ.keep (fun k h1 h2 => by rw [eS84]; exact mv_si_o _ _ (by omega)) (by rw [eS84]; rfl)
    have h20 : mv_i S84 108 20 = v9 := by rw [eS84]; rfl
    clear eS84
    refine mv_aload_n (pc := 84) B d_Book_text_1_84 rfl 0 rfl ?_
    refine mv_getI (pc := 85) (ci := 12) (C := R_Book) (T := F_Book) (N := 65) B 20 rfl rfl (by decide) i_Book (B.2.2.2.1 _ k_1865) rfl d_Book_text_1_85 ?_
    refine mv_if_ne (pc := 88) (tgt := 97) B d_Book_text_1_88 rfl (fun h88 => ?_) (fun h88 => ?_)
    · skip
      refine mv_lpick [0] rfl ?_
      first | exact lp _ _ _ _ _ _ _ _ (ZT.start hQ hrs hb0 (fun _ => by rw [h20]; exact hv9.resolve_left (fun z => h88 (by rw [h20]; exact Int32.toInt_inj.mp z)))) (Nat.lt_succ_self _) | exact lp _ _ _ _ _ _ _ _ (ZT.start (hQ.keep (fun k h1 h2 => h94.2.2 k (by omega)) h94.1.2.2.1) (hrs.tf h94.1) (hb0.tr h94.1.bf) (fun z => absurd z h94.2.1)) (Nat.lt_succ_self _)
    · skip
      refine mv_aload_n (pc := 91) B d_Book_text_1_91 rfl 0 rfl ?_
      refine mv_iconst (pc := 92) (v := 3) B d_Book_text_1_92 (by decide) ?_
      refine mv_iload_n (pc := 93) B d_Book_text_1_93 rfl 1 rfl ?_
      refine mv_callVv (pc := 94) (n := 2) (ci := 12) (C := R_Book) B (mK_ok sk sv) hNs rfl rfl (c_Book_fault_y l hi _ _ _ (by decide)) rfl (ma_goodc kc_Book_fault) (B.2.2.2.1 _ k_2185) (B.2.2.2.1 _ k_2187) (B.2.2.2.1 _ ks_92) (B.2.2.2.1 _ k_13) ⟨by decide +kernel, by decide +kernel, by decide +kernel⟩ rfl d_Book_text_1_94 rfl (Nat.le_of_ble_eq_true rfl) ⟨by decide, by decide⟩ ⟨by decide, by decide⟩ ⟨by decide, by decide⟩ (mv_noH hno _) (fun σ94 h94 => ?_)
      refine mv_lpick [0] rfl ?_
      first | exact lp _ _ _ _ _ _ _ _ (ZT.start hQ hrs hb0 (fun _ => by rw [h20]; exact hv9.resolve_left (fun z => h88 (by rw [h20]; exact Int32.toInt_inj.mp z)))) (Nat.lt_succ_self _) | exact lp _ _ _ _ _ _ _ _ (ZT.start (hQ.keep (fun k h1 h2 => h94.2.2 k (by omega)) h94.1.2.2.1) (hrs.tf h94.1) (hb0.tr h94.1.bf) (fun z => absurd z h94.2.1)) (Nat.lt_succ_self _)
  refine mv_aload_n (pc := 42) B d_Book_text_1_42 rfl 2 rfl ?_
  refine mv_lload_n (pc := 43) B d_Book_text_1_43 rfl 1 rfl ?_
  refine mv_ldc2 (pc := 44) (v := 8) B (B.2.2.2.1 _ k_2181) d_Book_text_1_44 ?_
  refine mv_lcmp (pc := 47) B d_Book_text_1_47 ?_
  refine mv_if_eq (pc := 48) (tgt := 75) B d_Book_text_1_48 rfl (fun h48 => ?_) (fun h48 => ?_)
  · skip
    refine mv_lload_n (pc := 75) B d_Book_text_1_75 rfl 1 rfl ?_
    refine mv_l2i (pc := 76) B d_Book_text_1_76 ?_
    refine mv_goto (pc := 77) (tgt := 81) B d_Book_text_1_77 rfl ?_
    refine mv_lpick [2, 0] rfl ?_
    exact j81 _ _ (by first | exact Or.inl rfl | exact Or.inr (by rw [(lg_cmp_eq _ _).mp h48]; decide) | exact Or.inr (by rw [(lg_cmp_eq _ _).mp h56]; decide) | exact Or.inr (by rw [(lg_cmp_eq _ _).mp h64]; decide) | exact Or.inr (by rw [(lg_cmp_eq _ _).mp h72]; decide))
  · skip
    refine mv_lload_n (pc := 51) B d_Book_text_1_51 rfl 1 rfl ?_
    refine mv_ldc2 (pc := 52) (v := 16) B (B.2.2.2.1 _ k_2182) d_Book_text_1_52 ?_
    refine mv_lcmp (pc := 55) B d_Book_text_1_55 ?_
    refine mv_if_eq (pc := 56) (tgt := 75) B d_Book_text_1_56 rfl (fun h56 => ?_) (fun h56 => ?_)
    · skip
      refine mv_lload_n (pc := 75) B d_Book_text_1_75 rfl 1 rfl ?_
      refine mv_l2i (pc := 76) B d_Book_text_1_76 ?_
      refine mv_goto (pc := 77) (tgt := 81) B d_Book_text_1_77 rfl ?_
      refine mv_lpick [2, 0] rfl ?_
      exact j81 _ _ (by first | exact Or.inl rfl | exact Or.inr (by rw [(lg_cmp_eq _ _).mp h48]; decide) | exact Or.inr (by rw [(lg_cmp_eq _ _).mp h56]; decide) | exact Or.inr (by rw [(lg_cmp_eq _ _).mp h64]; decide) | exact Or.inr (by rw [(lg_cmp_eq _ _).mp h72]; decide))
    · skip
      refine mv_lload_n (pc := 59) B d_Book_text_1_59 rfl 1 rfl ?_
      refine mv_ldc2 (pc := 60) (v := 32) B (B.2.2.2.1 _ k_2183) d_Book_text_1_60 ?_
      refine mv_lcmp (pc := 63) B d_Book_text_1_63 ?_
      refine mv_if_eq (pc := 64) (tgt := 75) B d_Book_text_1_64 rfl (fun h64 => ?_) (fun h64 => ?_)
      · skip
        refine mv_lload_n (pc := 75) B d_Book_text_1_75 rfl 1 rfl ?_
        refine mv_l2i (pc := 76) B d_Book_text_1_76 ?_
        refine mv_goto (pc := 77) (tgt := 81) B d_Book_text_1_77 rfl ?_
        refine mv_lpick [2, 0] rfl ?_
        exact j81 _ _ (by first | exact Or.inl rfl | exact Or.inr (by rw [(lg_cmp_eq _ _).mp h48]; decide) | exact Or.inr (by rw [(lg_cmp_eq _ _).mp h56]; decide) | exact Or.inr (by rw [(lg_cmp_eq _ _).mp h64]; decide) | exact Or.inr (by rw [(lg_cmp_eq _ _).mp h72]; decide))
      · skip
        refine mv_lload_n (pc := 67) B d_Book_text_1_67 rfl 1 rfl ?_
        refine mv_ldc2 (pc := 68) (v := 64) B (B.2.2.2.1 _ k_2184) d_Book_text_1_68 ?_
        refine mv_lcmp (pc := 71) B d_Book_text_1_71 ?_
        refine mv_if_ne (pc := 72) (tgt := 80) B d_Book_text_1_72 rfl (fun h72 => ?_) (fun h72 => ?_)
        · skip
          refine mv_iconst (pc := 80) (v := 0) B d_Book_text_1_80 (by decide) ?_
          refine mv_lpick [2, 0] rfl ?_
          exact j81 _ _ (by first | exact Or.inl rfl | exact Or.inr (by rw [(lg_cmp_eq _ _).mp h48]; decide) | exact Or.inr (by rw [(lg_cmp_eq _ _).mp h56]; decide) | exact Or.inr (by rw [(lg_cmp_eq _ _).mp h64]; decide) | exact Or.inr (by rw [(lg_cmp_eq _ _).mp h72]; decide))
        · skip
          refine mv_lload_n (pc := 75) B d_Book_text_1_75 rfl 1 rfl ?_
          refine mv_l2i (pc := 76) B d_Book_text_1_76 ?_
          refine mv_goto (pc := 77) (tgt := 81) B d_Book_text_1_77 rfl ?_
          refine mv_lpick [2, 0] rfl ?_
          exact j81 _ _ (by first | exact Or.inl rfl | exact Or.inr (by rw [(lg_cmp_eq _ _).mp h48]; decide) | exact Or.inr (by rw [(lg_cmp_eq _ _).mp h56]; decide) | exact Or.inr (by rw [(lg_cmp_eq _ _).mp h64]; decide) | exact Or.inr (by rw [(lg_cmp_eq _ _).mp h72]; decide))
