/-! Tree: part, grow, leafOf -/
section MVGEN
variable {p : Program} {l : Launch} {e : Env} {R : Room} {s : State} {m : MethodId} {args : Array Value} {below : List Frame} {meth : Method} {c : Code} {G : mv_G} {ws : List Cond} {own : String} {cc : ByteArray} {nL : Nat} {cells slots : Nat} {Q : State → Prop} {σ : mv_H} {pc : Nat} {L : List (Nat × Value)} {st : List Value}
/-- a name for the heap -/
theorem mv_gen (k : ∀ υ : mv_H, υ = σ → mv_V p l e R s m args below meth c G nL cells slots Q υ pc L st) : mv_V p l e R s m args below meth c G nL cells slots Q σ pc L st := k σ rfl
end MVGEN
abbrev TrF (P : Nat) : mv_H → mv_H → Prop := Fr (fun o k => o = P + 11 ∧ k = 4) (fun o => P + 12 ≤ o ∧ o ≤ P + 15) (fun _ => False)
def tr_part (P : Nat) (σ σ1 : mv_H) (k n lo hi b : Nat) : Prop := ∃ (mm : Int32) (m : Nat), mm.toInt = m ∧ Pt (mv_a σ (P + 12)) (mv_a σ1 (P + 12)) (tB P σ b) lo hi m hi ∧ TrF P σ σ1 ∧ (mv_i σ1 (P + 11) 4).toInt = n + 2 ∧ (∀ j, mv_a σ1 (P + 13) j = if j = n + 1 then -1 else if j = n then -1 else if j = k then Int32.ofNat b else mv_a σ (P + 13) j) ∧ (∀ j, mv_a σ1 (P + 14) j = if j = n + 1 then mm else if j = n then mv_a σ (P + 14) k else if j = k then mv_i σ (P + 11) 4 else mv_a σ (P + 14) j) ∧ (∀ j, mv_a σ1 (P + 15) j = if j = n + 1 then mv_a σ (P + 15) k else if j = n then mm else if j = k then mv_i σ (P + 11) 4 + 1 else mv_a σ (P + 15) j)
theorem tr_leaf_i (P : Nat) (σ : mv_H) (a b : Int32) : mv_i (tr_leaf P σ a b) (P + 11) 4 = mv_i σ (P + 11) 4 + 1 := mv_u_same (mv_i σ) (P + 11) 4 _
theorem tr_leaf_F (P : Nat) (σ : mv_H) (a b : Int32) : TrF P σ (tr_leaf P σ a b) := (((Fr.rf.sa (by omega)).sa (by omega)).sa (by omega)).si ⟨rfl, rfl⟩
theorem tr_leaf_12 (P : Nat) (σ : mv_H) (a b : Int32) : mv_a (tr_leaf P σ a b) (P + 12) = mv_a σ (P + 12) := by
  show mv_u (mv_u (mv_u (mv_a σ) (P + 13) _ _) (P + 14) _ _) (P + 15) _ _ (P + 12) = _
  rw [mv_u_o _ _ (by omega), mv_u_o _ _ (by omega), mv_u_o _ _ (by omega)]
theorem tr_leaf_13 (P : Nat) (σ : mv_H) (a b : Int32) (j : Nat) : mv_a (tr_leaf P σ a b) (P + 13) j = if j = (mv_i σ (P + 11) 4).toNatClampNeg then -1 else mv_a σ (P + 13) j := by
  show mv_u (mv_u (mv_u (mv_a σ) (P + 13) _ _) (P + 14) _ _) (P + 15) _ _ (P + 13) j = _
  rw [mv_u_o _ _ (by omega), mv_u_o _ _ (by omega), u_row]
theorem tr_leaf_14 (P : Nat) (σ : mv_H) (a b : Int32) (j : Nat) : mv_a (tr_leaf P σ a b) (P + 14) j = if j = (mv_i σ (P + 11) 4).toNatClampNeg then a else mv_a σ (P + 14) j := by
  show mv_u (mv_u (mv_u (mv_a σ) (P + 13) _ _) (P + 14) _ _) (P + 15) _ _ (P + 14) j = _
  rw [mv_u_o _ _ (by omega), u_row, mv_u_o _ _ (by omega)]
theorem tr_leaf_15 (P : Nat) (σ : mv_H) (a b : Int32) (j : Nat) : mv_a (tr_leaf P σ a b) (P + 15) j = if j = (mv_i σ (P + 11) 4).toNatClampNeg then b else mv_a σ (P + 15) j := by
  show mv_u (mv_u (mv_u (mv_a σ) (P + 13) _ _) (P + 14) _ _) (P + 15) _ _ (P + 15) j = _
  rw [u_row, mv_u_o _ _ (by omega), mv_u_o _ _ (by omega)]
theorem tr_part_of {P : Nat} {σ S : mv_H} {k n lo hi b u : Nat} {mm : Int32} (hm : mm.toInt = u) (hp : Pt (mv_a σ (P + 12)) (mv_a S (P + 12)) (tB P σ b) lo hi u hi) (hF : TrF P σ S) (hi4 : mv_i S (P + 11) 4 = mv_i σ (P + 11) 4) (hn : (mv_i σ (P + 11) 4).toInt = n) (hn2 : n < 100000)
    (h13 : ∀ j, mv_a S (P + 13) j = if j = k then Int32.ofNat b else mv_a σ (P + 13) j) (h14 : ∀ j, mv_a S (P + 14) j = if j = k then mv_i σ (P + 11) 4 else mv_a σ (P + 14) j) (h15 : ∀ j, mv_a S (P + 15) j = if j = k then mv_i σ (P + 11) 4 + 1 else mv_a σ (P + 15) j) :
    tr_part P σ (tr_leaf P (tr_leaf P S (mv_a σ (P + 14) k) mm) mm (mv_a σ (P + 15) k)) k n lo hi b := by
  have e1 : (mv_i σ (P + 11) 4 + 1).toInt = n + 1 := by rw [i32_inc (by omega)]; omega
  have z0 : (mv_i σ (P + 11) 4).toNatClampNeg = n := by have := i32_cl (x := mv_i σ (P + 11) 4) (by omega); omega
  have z1 : (mv_i σ (P + 11) 4 + 1).toNatClampNeg = n + 1 := by have := i32_cl (x := mv_i σ (P + 11) 4 + 1) (by omega); omega
  refine ⟨mm, u, hm, by rw [tr_leaf_12, tr_leaf_12]; exact hp, hF.tr ((tr_leaf_F _ _ _ _).tr (tr_leaf_F _ _ _ _)), ?_, fun j => ?_, fun j => ?_, fun j => ?_⟩
  · rw [tr_leaf_i, tr_leaf_i, hi4, i32_inc (by omega)]; omega
  · rw [tr_leaf_13, tr_leaf_13, tr_leaf_i, hi4, z0, z1, h13]
  · rw [tr_leaf_14, tr_leaf_14, tr_leaf_i, hi4, z0, z1, h14]
  · rw [tr_leaf_15, tr_leaf_15, tr_leaf_i, hi4, z0, z1, h15]
theorem Gr.room2 {V : Nat → Int64} {f bt lw hg : Nat → Int32} {ops k n : Nat} {la ha dq : Nat → Nat} {ub : Nat → List Nat} (h : Gr V f bt lw hg ops k n la ha dq ub) (hk : k < n) (h2 : la k + 2 ≤ ha k) : n + 2 ≤ 2 * ops := by
  have h3 := (h.2.1 k (Nat.le_refl _) hk).2.2.2.2.1
  obtain ⟨-, -, -, -, -, h6, h7, h8⟩ := h
  rcases h8 with ⟨e1, e2⟩ | ⟨e1, e2⟩
  · omega
  · have := psum_ge (g := fun j => 2 * (ha j - la j) - 1) (n - (k + 1)) (k + 1) (fun j q1 q2 => by have := e1 j (by omega) (by omega); show 1 ≤ 2 * (ha j - la j) - 1; omega)
    rw [show n - k = (n - (k + 1)) + 1 by omega] at e2
    have e4 : psum (fun j => 2 * (ha j - la j) - 1) k (n - (k + 1) + 1) = (2 * (ha k - la k) - 1) + psum (fun j => 2 * (ha j - la j) - 1) (k + 1) (n - (k + 1)) := rfl
    omega
theorem Gr.init {V : Nat → Int64} {f bt lw hg : Nat → Int32} {ops : Nat} (h1 : ∀ i, i < ops → (f i).toInt = i) (h2 : bt 0 = -1) (h3 : (lw 0).toInt = 0) (h4 : (hg 0).toInt = ops) : Gr V f bt lw hg ops 0 1 (fun _ => 0) (fun _ => ops) (fun _ => 0) (fun _ => []) := by
  refine ⟨fun i q => by rw [h1 i q]; omega, fun j q1 q2 => ?_, fun j j' q1 q2 q3 => by omega, fun j q1 q2 => by omega, fun j q => by simp, Nat.zero_le _, Nat.le_refl _, ?_⟩
  · have e : j = 0 := by omega
    subst e
    exact ⟨h2, h3, h4, Nat.zero_le _, Nat.le_refl _, List.nodup_nil, rfl, fun b q => absurd q List.not_mem_nil⟩
  · by_cases e : ops = 0
    · exact Or.inl ⟨e, rfl⟩
    · refine Or.inr ⟨fun j q1 q2 => Nat.pos_of_ne_zero e, ?_⟩
      show 0 + (2 * (ops - 0) - 1 + 0) ≤ 2 * ops - 1
      omega
/-- the tree decodes: its nodes lie at most 64 deep, and each leaf has ops -/
def TreeOK (P M : Nat) (σ : mv_H) : Prop := ∃ (ops n : Nat) (dq : Nat → Nat), (mv_i σ P 10).toInt = ops ∧ ops ≤ M ∧ (1 ≤ n ∧ ∃ S, SmT (mv_b σ (P + 5)) (mv_b σ (P + 6)) (mv_a σ (P + 12)) (mv_a σ (P + 13)) (mv_a σ (P + 14)) (mv_a σ (P + 15)) ops n S) ∧ n ≤ 2 * M + 1 ∧ (∀ i, i < ops → 0 ≤ (mv_a σ (P + 12) i).toInt ∧ (mv_a σ (P + 12) i).toInt < ops) ∧ ∀ j, j < n → dq j ≤ 64 ∧ Tn (mv_a σ (P + 13)) (mv_a σ (P + 14)) (mv_a σ (P + 15)) ops n dq j
/-- a tree that was never grown -/
def TreeZ (P : Nat) (σ : mv_H) : Prop := mv_a σ (P + 13) 0 = 0 ∧ mv_a σ (P + 14) 0 = 0 ∧ mv_a σ (P + 15) 0 = 0
theorem Gr.done {P M ops n k : Nat} {σ : mv_H} {la ha dq : Nat → Nat} {ub : Nat → List Nat} (h : Gr (mv_b σ (P + 6)) (mv_a σ (P + 12)) (mv_a σ (P + 13)) (mv_a σ (P + 14)) (mv_a σ (P + 15)) ops k n la ha dq ub) (hk : n ≤ k) (ho : (mv_i σ P 10).toInt = ops) (hM : ops ≤ M) (hs : ∃ S, SmT (mv_b σ (P + 5)) (mv_b σ (P + 6)) (mv_a σ (P + 12)) (mv_a σ (P + 13)) (mv_a σ (P + 14)) (mv_a σ (P + 15)) ops n S) : TreeOK P M σ :=
  ⟨ops, n, dq, ho, hM, ⟨h.2.2.2.2.2.2.1, hs⟩, by have := h.room.1; omega, h.1, fun j q => ⟨h.2.2.2.2.1 j q, h.2.2.2.1 j (by omega) q⟩⟩
def y_Tree_part : MethodName := ⟨"MachineLoom$Tree", "part", "(LMachineLoom$Program;II)V"⟩
abbrev b_Tree_part : ByteArray := prog_11_method_5_code
theorem kc_Tree_part : Cond.code y_Tree_part b_Tree_part 9 (Option.none : Option Jvm.ClassFile.FieldType) ∈ ma := ma_of (tb_2 _ (List.mem_of_getElem? (i := 192) rfl)) rfl
theorem k_414 : (Jvm.Cond.methodLink "MachineLoom$Tree" (33 : Nat) ({ cls := "MachineLoom$Tree", name := "addLeaf", desc := "(II)V" } : Jvm.MethodName)) ∈ ma := ma_of (tb_2 _ (List.mem_of_getElem? (i := 174) rfl)) rfl
theorem k_9 : (Jvm.Cond.initialized "MachineLoom$Tree") ∈ ma := ma_of (tb_1 _ (List.mem_of_getElem? (i := 9) rfl)) rfl
theorem k_416 : (Jvm.Cond.instanceMethod ({ cls := "MachineLoom$Tree", name := "addLeaf", desc := "(II)V" } : Jvm.MethodName)) ∈ ma := ma_of (tb_2 _ (List.mem_of_getElem? (i := 176) rfl)) rfl
theorem ks_0 : Cond.selects "MachineLoom$Tree" ⟨"MachineLoom$Tree", "addLeaf", "(II)V"⟩ ⟨"MachineLoom$Tree", "addLeaf", "(II)V"⟩ ∈ ma := ma_sel 0 rfl rfl
theorem d_Tree_part_0 : decode b_Tree_part 0 = .ok (.aload_n 0, 1) := by decide +kernel
theorem d_Tree_part_1 : decode b_Tree_part 1 = .ok (.getfield 18, 3) := by decide +kernel
theorem d_Tree_part_4 : decode b_Tree_part 4 = .ok (.iload_n 2, 1) := by decide +kernel
theorem d_Tree_part_5 : decode b_Tree_part 5 = .ok (.iaload, 1) := by decide +kernel
theorem d_Tree_part_6 : decode b_Tree_part 6 = .ok (.istore 4, 2) := by decide +kernel
theorem d_Tree_part_8 : decode b_Tree_part 8 = .ok (.aload_n 0, 1) := by decide +kernel
theorem d_Tree_part_9 : decode b_Tree_part 9 = .ok (.getfield 21, 3) := by decide +kernel
theorem d_Tree_part_12 : decode b_Tree_part 12 = .ok (.iload_n 2, 1) := by decide +kernel
theorem d_Tree_part_13 : decode b_Tree_part 13 = .ok (.iaload, 1) := by decide +kernel
theorem d_Tree_part_14 : decode b_Tree_part 14 = .ok (.istore 5, 2) := by decide +kernel
theorem d_Tree_part_16 : decode b_Tree_part 16 = .ok (.iload 4, 2) := by decide +kernel
theorem d_Tree_part_18 : decode b_Tree_part 18 = .ok (.istore 6, 2) := by decide +kernel
theorem d_Tree_part_20 : decode b_Tree_part 20 = .ok (.iload 4, 2) := by decide +kernel
theorem d_Tree_part_22 : decode b_Tree_part 22 = .ok (.istore 7, 2) := by decide +kernel
theorem d_Tree_part_24 : decode b_Tree_part 24 = .ok (.iload 7, 2) := by decide +kernel
theorem d_Tree_part_26 : decode b_Tree_part 26 = .ok (.iload 5, 2) := by decide +kernel
theorem d_Tree_part_28 : decode b_Tree_part 28 = .ok (.if_icmp .ge (60), 3) := by decide +kernel
theorem d_Tree_part_31 : decode b_Tree_part 31 = .ok (.aload_n 0, 1) := by decide +kernel
theorem d_Tree_part_32 : decode b_Tree_part 32 = .ok (.getfield 9, 3) := by decide +kernel
theorem d_Tree_part_35 : decode b_Tree_part 35 = .ok (.iload 7, 2) := by decide +kernel
theorem d_Tree_part_37 : decode b_Tree_part 37 = .ok (.iaload, 1) := by decide +kernel
theorem d_Tree_part_38 : decode b_Tree_part 38 = .ok (.istore 8, 2) := by decide +kernel
theorem d_Tree_part_40 : decode b_Tree_part 40 = .ok (.aload_n 1, 1) := by decide +kernel
theorem d_Tree_part_41 : decode b_Tree_part 41 = .ok (.getfield 51, 3) := by decide +kernel
theorem d_Tree_part_44 : decode b_Tree_part 44 = .ok (.iload 8, 2) := by decide +kernel
theorem d_Tree_part_46 : decode b_Tree_part 46 = .ok (.laload, 1) := by decide +kernel
theorem d_Tree_part_47 : decode b_Tree_part 47 = .ok (.iload_n 3, 1) := by decide +kernel
theorem d_Tree_part_48 : decode b_Tree_part 48 = .ok (.lushr, 1) := by decide +kernel
theorem d_Tree_part_49 : decode b_Tree_part 49 = .ok (.lconst 1, 1) := by decide +kernel
theorem d_Tree_part_50 : decode b_Tree_part 50 = .ok (.land, 1) := by decide +kernel
theorem d_Tree_part_51 : decode b_Tree_part 51 = .ok (.lconst 0, 1) := by decide +kernel
theorem d_Tree_part_52 : decode b_Tree_part 52 = .ok (.lcmp, 1) := by decide +kernel
theorem d_Tree_part_53 : decode b_Tree_part 53 = .ok (.ifCond .ne (29), 3) := by decide +kernel
theorem d_Tree_part_56 : decode b_Tree_part 56 = .ok (.aload_n 0, 1) := by decide +kernel
theorem d_Tree_part_57 : decode b_Tree_part 57 = .ok (.getfield 9, 3) := by decide +kernel
theorem d_Tree_part_60 : decode b_Tree_part 60 = .ok (.iload 7, 2) := by decide +kernel
theorem d_Tree_part_62 : decode b_Tree_part 62 = .ok (.aload_n 0, 1) := by decide +kernel
theorem d_Tree_part_63 : decode b_Tree_part 63 = .ok (.getfield 9, 3) := by decide +kernel
theorem d_Tree_part_66 : decode b_Tree_part 66 = .ok (.iload 6, 2) := by decide +kernel
theorem d_Tree_part_68 : decode b_Tree_part 68 = .ok (.iaload, 1) := by decide +kernel
theorem d_Tree_part_69 : decode b_Tree_part 69 = .ok (.iastore, 1) := by decide +kernel
theorem d_Tree_part_70 : decode b_Tree_part 70 = .ok (.aload_n 0, 1) := by decide +kernel
theorem d_Tree_part_71 : decode b_Tree_part 71 = .ok (.getfield 9, 3) := by decide +kernel
theorem d_Tree_part_74 : decode b_Tree_part 74 = .ok (.iload 6, 2) := by decide +kernel
theorem d_Tree_part_76 : decode b_Tree_part 76 = .ok (.iload 8, 2) := by decide +kernel
theorem d_Tree_part_78 : decode b_Tree_part 78 = .ok (.iastore, 1) := by decide +kernel
theorem d_Tree_part_79 : decode b_Tree_part 79 = .ok (.iinc 6 (1), 3) := by decide +kernel
theorem d_Tree_part_82 : decode b_Tree_part 82 = .ok (.iinc 7 (1), 3) := by decide +kernel
theorem d_Tree_part_85 : decode b_Tree_part 85 = .ok (.goto (-61), 3) := by decide +kernel
theorem d_Tree_part_88 : decode b_Tree_part 88 = .ok (.aload_n 0, 1) := by decide +kernel
theorem d_Tree_part_89 : decode b_Tree_part 89 = .ok (.getfield 15, 3) := by decide +kernel
theorem d_Tree_part_92 : decode b_Tree_part 92 = .ok (.iload_n 2, 1) := by decide +kernel
theorem d_Tree_part_93 : decode b_Tree_part 93 = .ok (.iload_n 3, 1) := by decide +kernel
theorem d_Tree_part_94 : decode b_Tree_part 94 = .ok (.iastore, 1) := by decide +kernel
theorem d_Tree_part_95 : decode b_Tree_part 95 = .ok (.aload_n 0, 1) := by decide +kernel
theorem d_Tree_part_96 : decode b_Tree_part 96 = .ok (.getfield 18, 3) := by decide +kernel
theorem d_Tree_part_99 : decode b_Tree_part 99 = .ok (.iload_n 2, 1) := by decide +kernel
theorem d_Tree_part_100 : decode b_Tree_part 100 = .ok (.aload_n 0, 1) := by decide +kernel
theorem d_Tree_part_101 : decode b_Tree_part 101 = .ok (.getfield 30, 3) := by decide +kernel
theorem d_Tree_part_104 : decode b_Tree_part 104 = .ok (.iastore, 1) := by decide +kernel
theorem d_Tree_part_105 : decode b_Tree_part 105 = .ok (.aload_n 0, 1) := by decide +kernel
theorem d_Tree_part_106 : decode b_Tree_part 106 = .ok (.getfield 21, 3) := by decide +kernel
theorem d_Tree_part_109 : decode b_Tree_part 109 = .ok (.iload_n 2, 1) := by decide +kernel
theorem d_Tree_part_110 : decode b_Tree_part 110 = .ok (.aload_n 0, 1) := by decide +kernel
theorem d_Tree_part_111 : decode b_Tree_part 111 = .ok (.getfield 30, 3) := by decide +kernel
theorem d_Tree_part_114 : decode b_Tree_part 114 = .ok (.iconst 1, 1) := by decide +kernel
theorem d_Tree_part_115 : decode b_Tree_part 115 = .ok (.iadd, 1) := by decide +kernel
theorem d_Tree_part_116 : decode b_Tree_part 116 = .ok (.iastore, 1) := by decide +kernel
theorem d_Tree_part_117 : decode b_Tree_part 117 = .ok (.aload_n 0, 1) := by decide +kernel
theorem d_Tree_part_118 : decode b_Tree_part 118 = .ok (.iload 4, 2) := by decide +kernel
theorem d_Tree_part_120 : decode b_Tree_part 120 = .ok (.iload 6, 2) := by decide +kernel
theorem d_Tree_part_122 : decode b_Tree_part 122 = .ok (.invokevirtual 33, 3) := by decide +kernel
theorem d_Tree_part_125 : decode b_Tree_part 125 = .ok (.aload_n 0, 1) := by decide +kernel
theorem d_Tree_part_126 : decode b_Tree_part 126 = .ok (.iload 6, 2) := by decide +kernel
theorem d_Tree_part_128 : decode b_Tree_part 128 = .ok (.iload 5, 2) := by decide +kernel
theorem d_Tree_part_130 : decode b_Tree_part 130 = .ok (.invokevirtual 33, 3) := by decide +kernel
theorem d_Tree_part_133 : decode b_Tree_part 133 = .ok (.return_, 1) := by decide +kernel
set_option maxHeartbeats 4000000 in
set_option maxRecDepth 100000 in
theorem c_Tree_part_a (l : Launch) {dA : FieldType → ClassId} {D : va_G} {al : Nat → Nat} {ext : mv_Sh} {sk sv : Nat → Nat} (hi : mv_inj (mg dA D al ext)) (σ : mv_H) (k9 : Int32) (k n lo9 hi9 b : Nat) (hq : Ph 32 (mv_r σ)) (hk0 : 0 ≤ k9.toInt) (hk : k9.toInt = k) (hkn : k < n) (hn : (mv_i σ 43 4).toInt = n) (hnM : n + 2 ≤ 1025) (hlo : (mv_a σ 46 k9.toNatClampNeg).toInt = lo9) (hhi : (mv_a σ 47 k9.toNatClampNeg).toInt = hi9) (hlh : lo9 ≤ hi9) (hhM : hi9 ≤ 512) (hb64 : b < 64) (hor : ∀ i : Nat, lo9 ≤ i → i < hi9 → 0 ≤ (mv_a σ 44 i).toInt ∧ (mv_a σ 44 i).toInt < 512) : mv_C l y_Tree_part (Cond.code y_Tree_part b_Tree_part 9 (Option.none : Option Jvm.ClassFile.FieldType) :: ma) ({ frames := 1, cells := 0, slots := 0, locals := 22 }) (mg dA D al ext) (mK sk sv) [.ref (al 43), .ref (al 32), .int k9, .int (Int32.ofNat b)] σ (mv_Rv (fun σ1 => tr_part 32 σ σ1 k n lo9 hi9 b)) := by
  refine mv_C.ofV (cc := b_Tree_part) (nL := 9) (ret := (Option.none : Option Jvm.ClassFile.FieldType)) (by decide +kernel) rfl hi (Nat.le_of_ble_eq_true rfl) ?_
  intro p e s m below meth c B hNs hr hnm hno
  have lp : ∀ (nn : Nat) (τ : mv_H) (jj : Int32) (mm : Int32) (j : Nat) (u9 : Nat) (qj : jj.toInt = j) (qm : mm.toInt = u9) (qp : Pt (mv_a σ 44) (mv_a τ 44) (tB 32 σ b) lo9 hi9 u9 j) (qq : Ph 32 (mv_r τ)) (qf : Fr (fun _ _ => False) (fun o => o = 44) (fun _ => False) σ τ), hi9 - j < nn → mv_V p l e ({ frames := 1, cells := 0, slots := 0, locals := 22 }) s m ([.ref (al 43), .ref (al 32), .int k9, .int (Int32.ofNat b)] : List Value).toArray below meth c (mg dA D al ext) 9 0 0 (mv_Q (mg dA D al ext) below s 0 0 (mv_Rv (fun σ1 => tr_part 32 σ σ1 k n lo9 hi9 b))) τ 24 [(7, .int jj), (6, .int mm), (5, .int (mv_a σ 47 k9.toNatClampNeg)), (4, .int (mv_a σ 46 k9.toNatClampNeg)), (0, .ref (al 43)), (1, .ref (al 32)), (2, .int k9), (3, .int (Int32.ofNat b))] [] := by
    intro nn
    induction nn with
    | zero => intro τ jj mm j u9 qj qm qp qq qf hm; exact absurd hm (Nat.not_lt_zero _)
    | succ nn ih =>
      intro τ jj mm j u9 qj qm qp qq qf hm
      refine mv_iload (pc := 24) B d_Tree_part_24 0 rfl ?_
      refine mv_iload (pc := 26) B d_Tree_part_26 2 rfl ?_
      refine mv_icmp_ge (pc := 28) (tgt := 88) B d_Tree_part_28 rfl (fun h28 => ?_) (fun h28 => ?_)
      · skip
        rw [Int32.le_iff_toInt_le] at h28
        have hjh : j = hi9 := by have := qp.2.2.1; omega
        have nd : mv_i τ 43 4 = mv_i σ 43 4 := qf.1 _ _ (fun q => q)
        have zk := i32_cl (x := k9) (by omega)
        have zk2 : k9.toNatClampNeg = k := by omega
        have fr0 : TrF 32 σ τ := qf.up (fun _ _ h => h.elim) (fun o h => by subst h; exact ⟨by decide, by decide⟩) (fun _ h => h.elim)
        refine mv_aload_n (pc := 88) B d_Tree_part_88 rfl 4 rfl ?_
        refine mv_getR (pc := 89) (ci := 8) (C := R_Tree) (T := F_Tree) (N := 5) B 1 rfl rfl (by decide) i_Tree (B.2.2.2.1 _ k_293) rfl (qq _ 1 45 rfl) d_Tree_part_89 ?_
        refine mv_iload_n (pc := 92) B d_Tree_part_92 rfl 6 rfl ?_
        refine mv_iload_n (pc := 93) B d_Tree_part_93 rfl 7 rfl ?_
        refine mv_iast (pc := 94) B rfl (i32_in hk0 (by omega)) d_Tree_part_94 ?_
        refine mv_aload_n (pc := 95) B d_Tree_part_95 rfl 4 rfl ?_
        refine mv_getR (pc := 96) (ci := 8) (C := R_Tree) (T := F_Tree) (N := 5) B 2 rfl rfl (by decide) i_Tree (B.2.2.2.1 _ k_294) rfl (qq _ 2 46 rfl) d_Tree_part_96 ?_
        refine mv_iload_n (pc := 99) B d_Tree_part_99 rfl 6 rfl ?_
        refine mv_aload_n (pc := 100) B d_Tree_part_100 rfl 4 rfl ?_
        refine mv_getI (pc := 101) (ci := 8) (C := R_Tree) (T := F_Tree) (N := 5) B 4 rfl rfl (by decide) i_Tree (B.2.2.2.1 _ k_298) rfl d_Tree_part_101 ?_
        refine mv_iast (pc := 104) B rfl (i32_in hk0 (by omega)) d_Tree_part_104 ?_
        refine mv_aload_n (pc := 105) B d_Tree_part_105 rfl 4 rfl ?_
        refine mv_getR (pc := 106) (ci := 8) (C := R_Tree) (T := F_Tree) (N := 5) B 3 rfl rfl (by decide) i_Tree (B.2.2.2.1 _ k_296) rfl (qq _ 3 47 rfl) d_Tree_part_106 ?_
        refine mv_iload_n (pc := 109) B d_Tree_part_109 rfl 6 rfl ?_
        refine mv_aload_n (pc := 110) B d_Tree_part_110 rfl 4 rfl ?_
        refine mv_getI (pc := 111) (ci := 8) (C := R_Tree) (T := F_Tree) (N := 5) B 4 rfl rfl (by decide) i_Tree (B.2.2.2.1 _ k_298) rfl d_Tree_part_111 ?_
        refine mv_iconst (pc := 114) (v := 1) B d_Tree_part_114 (by decide) ?_
        refine mv_iadd (pc := 115) B d_Tree_part_115 ?_
        refine mv_iast (pc := 116) B rfl (i32_in hk0 (by omega)) d_Tree_part_116 ?_
        refine mv_gen (fun S eS => ?_)
        have s4 : mv_i S 43 4 = mv_i σ 43 4 := by rw [eS]; exact nd
        have sq : Ph 32 (mv_r S) := by rw [eS]; exact qq
        have s12 : mv_a S 44 = mv_a τ 44 := by rw [eS]; rfl
        have sF : TrF 32 σ S := by rw [eS]; exact ((fr0.sa (by decide)).sa (by decide)).sa (by decide)
        have s13 : ∀ j, mv_a S 45 j = if j = k then Int32.ofNat b else mv_a σ 45 j := fun j => by rw [eS]; show mv_u (mv_a τ) 45 k9.toNatClampNeg _ 45 j = _; rw [u_row, zk2, qf.2.1 45 (by decide)]
        have s14 : ∀ j, mv_a S 46 j = if j = k then mv_i σ 43 4 else mv_a σ 46 j := fun j => by rw [eS]; show mv_u (mv_a τ) 46 k9.toNatClampNeg (mv_i τ 43 4) 46 j = _; rw [u_row, zk2, qf.2.1 46 (by decide), nd]
        have s15 : ∀ j, mv_a S 47 j = if j = k then mv_i σ 43 4 + 1 else mv_a σ 47 j := fun j => by rw [eS]; show mv_u (mv_a τ) 47 k9.toNatClampNeg (mv_i τ 43 4 + 1) 47 j = _; rw [u_row, zk2, qf.2.1 47 (by decide), nd]
        have ss : (mv_i S 43 4 + 1).toInt = n + 1 := by rw [s4, i32_inc (by omega)]; omega
        clear eS
        refine mv_aload_n (pc := 117) B d_Tree_part_117 rfl 4 rfl ?_
        refine mv_iload (pc := 118) B d_Tree_part_118 3 rfl ?_
        refine mv_iload (pc := 120) B d_Tree_part_120 1 rfl ?_
        refine mv_callVv (pc := 122) (n := 2) (ci := 8) (C := R_Tree) B (mK_ok sk sv) hNs rfl rfl (c_Tree_addLeaf_a l hi _ _ _ sq (by rw [s4]; omega) (by rw [s4]; omega)) rfl (ma_goodc kc_Tree_addLeaf) (B.2.2.2.1 _ k_414) (B.2.2.2.1 _ k_416) (B.2.2.2.1 _ ks_0) (B.2.2.2.1 _ k_9) ⟨by decide +kernel, by decide +kernel, by decide +kernel⟩ rfl d_Tree_part_122 rfl (Nat.le_of_ble_eq_true rfl) ⟨by decide, by decide⟩ ⟨by decide, by decide⟩ ⟨by decide, by decide⟩ (mv_noH hno _) (fun σ122 h122 => ?_)
        subst h122
        refine mv_aload_n (pc := 125) B d_Tree_part_125 rfl 4 rfl ?_
        refine mv_iload (pc := 126) B d_Tree_part_126 1 rfl ?_
        refine mv_iload (pc := 128) B d_Tree_part_128 2 rfl ?_
        refine mv_callVv (pc := 130) (n := 2) (ci := 8) (C := R_Tree) B (mK_ok sk sv) hNs rfl rfl (c_Tree_addLeaf_a l hi _ _ _ sq (by show 0 ≤ (mv_i S 43 4 + 1).toInt; omega) (by show (mv_i S 43 4 + 1).toInt < 1025; omega)) rfl (ma_goodc kc_Tree_addLeaf) (B.2.2.2.1 _ k_414) (B.2.2.2.1 _ k_416) (B.2.2.2.1 _ ks_0) (B.2.2.2.1 _ k_9) ⟨by decide +kernel, by decide +kernel, by decide +kernel⟩ rfl d_Tree_part_130 rfl (Nat.le_of_ble_eq_true rfl) ⟨by decide, by decide⟩ ⟨by decide, by decide⟩ ⟨by decide, by decide⟩ (mv_noH hno _) (fun σ130 h130 => ?_)
        subst h130
        exact mv_vret (pc := 133) B hr d_Tree_part_133 (Nat.le_refl _) (Nat.le_refl _) ⟨rfl, by rw [zk2]; exact tr_part_of qm (by rw [s12, ← hjh]; exact hjh ▸ qp) sF s4 hn (by omega) s13 s14 s15⟩
      · skip
        rw [Int32.le_iff_toInt_le] at h28
        have ejj := i32_cl (x := jj) (by omega)
        have emm := i32_cl (x := mm) (by omega)
        have zj : jj.toNatClampNeg = j := by omega
        have zm : mm.toNatClampNeg = u9 := by omega
        have eo : mv_a τ 44 jj.toNatClampNeg = mv_a σ 44 j := by rw [zj]; exact qp.2.2.2.1 j (by omega)
        have ho := hor j (by have := qp.1; have := qp.2.1; omega) (by omega)
        have eb : mv_b τ 38 = mv_b σ 38 := qf.2.2.1 _ (fun q => q)
        have p1 := qp.1
        have p2 := qp.2.1
        refine mv_aload_n (pc := 31) B d_Tree_part_31 rfl 4 rfl ?_
        refine mv_getR (pc := 32) (ci := 8) (C := R_Tree) (T := F_Tree) (N := 5) B 0 rfl rfl (by decide) i_Tree (B.2.2.2.1 _ k_291) rfl (qq _ 0 44 rfl) d_Tree_part_32 ?_
        refine mv_iload (pc := 35) B d_Tree_part_35 0 rfl ?_
        refine mv_iald (pc := 37) B rfl (i32_in (by omega) (by omega)) d_Tree_part_37 ?_
        refine mv_istore (pc := 38) B d_Tree_part_38 (by decide) rfl ?_
        refine mv_aload_n (pc := 40) B d_Tree_part_40 rfl 6 rfl ?_
        refine mv_getR (pc := 41) (ci := 7) (C := R_Program) (T := F_Program) (N := 19) B 12 rfl rfl (by decide) i_Program (B.2.2.2.1 _ k_352) rfl (qq _ 12 38 rfl) d_Tree_part_41 ?_
        refine mv_iload (pc := 44) B d_Tree_part_44 0 rfl ?_
        refine mv_lald (pc := 46) B rfl (i32_in (by rw [eo]; exact ho.1) (by rw [eo]; exact ho.2)) d_Tree_part_46 ?_
        refine mv_iload_n (pc := 47) B d_Tree_part_47 rfl 8 rfl ?_
        refine mv_lushr (pc := 48) B d_Tree_part_48 ?_
        refine mv_lconst (pc := 49) (v := 1) B d_Tree_part_49 (by decide) ?_
        refine mv_land (pc := 50) B d_Tree_part_50 ?_
        refine mv_lconst (pc := 51) (v := 0) B d_Tree_part_51 (by decide) ?_
        refine mv_lcmp (pc := 52) B d_Tree_part_52 ?_
        refine mv_if_ne (pc := 53) (tgt := 82) B d_Tree_part_53 rfl (fun h53 => ?_) (fun h53 => ?_)
        · skip
          have hz : tB 32 σ b j = true := by
            have h1 : ¬ _ = false := fun q => h53 ((lg_cmp_eq _ _).mpr ((us_bit _ b hb64).mpr q))
            rw [eb, eo] at h1
            exact (Bool.not_eq_false _).mp h1
          have hT := qp.one (by omega) hz
          have w2 : (jj + 1).toInt = j + 1 := by rw [i32_inc (by omega)]; omega
          have go := ih τ (jj + 1) mm (j + 1) u9 w2 qm hT qq qf (by omega)
          refine mv_iinc (pc := 82) (j := 1) (v := 1) B d_Tree_part_82 rfl (by decide) (by decide) rfl ?_
          refine mv_goto (pc := 85) (tgt := 24) B d_Tree_part_85 rfl ?_
          refine mv_lpick [0, 2, 3, 4, 5, 6, 7, 8] rfl ?_
          exact go
        · skip
          have hz : tB 32 σ b j = false := by
            have h1 := (us_bit _ b hb64).mp ((lg_cmp_eq _ _).mp h53)
            rw [eb, eo] at h1
            exact h1
          have hT : Pt (mv_a σ 44) (mv_a (mv_sa (mv_sa τ 44 jj.toNatClampNeg (mv_a τ 44 mm.toNatClampNeg)) 44 mm.toNatClampNeg (mv_a τ 44 jj.toNatClampNeg)) 44) (tB 32 σ b) lo9 hi9 (u9 + 1) (j + 1) := qp.zero (by omega) hz (fun i => by
              show mv_u (mv_u (mv_a τ) 44 jj.toNatClampNeg _) 44 mm.toNatClampNeg _ 44 i = _
              rw [u_row, u_row, zj, zm])
          have w1 : (mm + 1).toInt = u9 + 1 := by rw [i32_inc (by omega)]; omega
          have w2 : (jj + 1).toInt = j + 1 := by rw [i32_inc (by omega)]; omega
          have go := ih (mv_sa (mv_sa τ 44 jj.toNatClampNeg (mv_a τ 44 mm.toNatClampNeg)) 44 mm.toNatClampNeg (mv_a τ 44 jj.toNatClampNeg)) (jj + 1) (mm + 1) (j + 1) (u9 + 1) w2 w1 hT qq ((qf.sa rfl).sa rfl) (by omega)
          refine mv_aload_n (pc := 56) B d_Tree_part_56 rfl 5 rfl ?_
          refine mv_getR (pc := 57) (ci := 8) (C := R_Tree) (T := F_Tree) (N := 5) B 0 rfl rfl (by decide) i_Tree (B.2.2.2.1 _ k_291) rfl (qq _ 0 44 rfl) d_Tree_part_57 ?_
          refine mv_iload (pc := 60) B d_Tree_part_60 1 rfl ?_
          refine mv_aload_n (pc := 62) B d_Tree_part_62 rfl 5 rfl ?_
          refine mv_getR (pc := 63) (ci := 8) (C := R_Tree) (T := F_Tree) (N := 5) B 0 rfl rfl (by decide) i_Tree (B.2.2.2.1 _ k_291) rfl (qq _ 0 44 rfl) d_Tree_part_63 ?_
          refine mv_iload (pc := 66) B d_Tree_part_66 2 rfl ?_
          refine mv_iald (pc := 68) B rfl (i32_in (by omega) (by omega)) d_Tree_part_68 ?_
          refine mv_iast (pc := 69) B rfl (i32_in (by omega) (by omega)) d_Tree_part_69 ?_
          refine mv_aload_n (pc := 70) B d_Tree_part_70 rfl 5 rfl ?_
          refine mv_getR (pc := 71) (ci := 8) (C := R_Tree) (T := F_Tree) (N := 5) B 0 rfl rfl (by decide) i_Tree (B.2.2.2.1 _ k_291) rfl (qq _ 0 44 rfl) d_Tree_part_71 ?_
          refine mv_iload (pc := 74) B d_Tree_part_74 2 rfl ?_
          refine mv_iload (pc := 76) B d_Tree_part_76 0 rfl ?_
          refine mv_iast (pc := 78) B rfl (i32_in (by omega) (by omega)) d_Tree_part_78 ?_
          refine mv_iinc (pc := 79) (j := 2) (v := 1) B d_Tree_part_79 rfl (by decide) (by decide) rfl ?_
          refine mv_iinc (pc := 82) (j := 2) (v := 1) B d_Tree_part_82 rfl (by decide) (by decide) rfl ?_
          refine mv_goto (pc := 85) (tgt := 24) B d_Tree_part_85 rfl ?_
          refine mv_lpick [0, 1, 3, 4, 5, 6, 7, 8] rfl ?_
          exact go
  refine mv_aload_n (pc := 0) B d_Tree_part_0 rfl 0 rfl ?_
  refine mv_getR (pc := 1) (ci := 8) (C := R_Tree) (T := F_Tree) (N := 5) B 2 rfl rfl (by decide) i_Tree (B.2.2.2.1 _ k_294) rfl (hq _ 2 46 rfl) d_Tree_part_1 ?_
  refine mv_iload_n (pc := 4) B d_Tree_part_4 rfl 2 rfl ?_
  refine mv_iald (pc := 5) B rfl (i32_in hk0 (by omega)) d_Tree_part_5 ?_
  refine mv_istore (pc := 6) B d_Tree_part_6 (by decide) rfl ?_
  refine mv_aload_n (pc := 8) B d_Tree_part_8 rfl 1 rfl ?_
  refine mv_getR (pc := 9) (ci := 8) (C := R_Tree) (T := F_Tree) (N := 5) B 3 rfl rfl (by decide) i_Tree (B.2.2.2.1 _ k_296) rfl (hq _ 3 47 rfl) d_Tree_part_9 ?_
  refine mv_iload_n (pc := 12) B d_Tree_part_12 rfl 3 rfl ?_
  refine mv_iald (pc := 13) B rfl (i32_in hk0 (by omega)) d_Tree_part_13 ?_
  refine mv_istore (pc := 14) B d_Tree_part_14 (by decide) rfl ?_
  refine mv_iload (pc := 16) B d_Tree_part_16 1 rfl ?_
  refine mv_istore (pc := 18) B d_Tree_part_18 (by decide) rfl ?_
  refine mv_iload (pc := 20) B d_Tree_part_20 2 rfl ?_
  refine mv_istore (pc := 22) B d_Tree_part_22 (by decide) rfl ?_
  refine mv_lpick [0, 1, 2, 3, 4, 5, 6, 7] rfl ?_
  exact lp _ _ _ _ lo9 lo9 hlo hlo (Pt.start _ _ hlh) hq Fr.rf (Nat.lt_succ_self _)
set_option maxHeartbeats 4000000 in
set_option maxRecDepth 100000 in
theorem c_Tree_part_b (l : Launch) {dA : FieldType → ClassId} {D : va_G} {al : Nat → Nat} {ext : mv_Sh} {sk sv : Nat → Nat} (hi : mv_inj (mg dA D al ext)) (σ : mv_H) (k9 : Int32) (k n lo9 hi9 b : Nat) (hq : Ph 48 (mv_r σ)) (hk0 : 0 ≤ k9.toInt) (hk : k9.toInt = k) (hkn : k < n) (hn : (mv_i σ 59 4).toInt = n) (hnM : n + 2 ≤ 1025) (hlo : (mv_a σ 62 k9.toNatClampNeg).toInt = lo9) (hhi : (mv_a σ 63 k9.toNatClampNeg).toInt = hi9) (hlh : lo9 ≤ hi9) (hhM : hi9 ≤ 512) (hb64 : b < 64) (hor : ∀ i : Nat, lo9 ≤ i → i < hi9 → 0 ≤ (mv_a σ 60 i).toInt ∧ (mv_a σ 60 i).toInt < 512) : mv_C l y_Tree_part (Cond.code y_Tree_part b_Tree_part 9 (Option.none : Option Jvm.ClassFile.FieldType) :: ma) ({ frames := 1, cells := 0, slots := 0, locals := 22 }) (mg dA D al ext) (mK sk sv) [.ref (al 59), .ref (al 48), .int k9, .int (Int32.ofNat b)] σ (mv_Rv (fun σ1 => tr_part 48 σ σ1 k n lo9 hi9 b)) := by
  refine mv_C.ofV (cc := b_Tree_part) (nL := 9) (ret := (Option.none : Option Jvm.ClassFile.FieldType)) (by decide +kernel) rfl hi (Nat.le_of_ble_eq_true rfl) ?_
  intro p e s m below meth c B hNs hr hnm hno
  have lp : ∀ (nn : Nat) (τ : mv_H) (jj : Int32) (mm : Int32) (j : Nat) (u9 : Nat) (qj : jj.toInt = j) (qm : mm.toInt = u9) (qp : Pt (mv_a σ 60) (mv_a τ 60) (tB 48 σ b) lo9 hi9 u9 j) (qq : Ph 48 (mv_r τ)) (qf : Fr (fun _ _ => False) (fun o => o = 60) (fun _ => False) σ τ), hi9 - j < nn → mv_V p l e ({ frames := 1, cells := 0, slots := 0, locals := 22 }) s m ([.ref (al 59), .ref (al 48), .int k9, .int (Int32.ofNat b)] : List Value).toArray below meth c (mg dA D al ext) 9 0 0 (mv_Q (mg dA D al ext) below s 0 0 (mv_Rv (fun σ1 => tr_part 48 σ σ1 k n lo9 hi9 b))) τ 24 [(7, .int jj), (6, .int mm), (5, .int (mv_a σ 63 k9.toNatClampNeg)), (4, .int (mv_a σ 62 k9.toNatClampNeg)), (0, .ref (al 59)), (1, .ref (al 48)), (2, .int k9), (3, .int (Int32.ofNat b))] [] := by
    intro nn
    induction nn with
    | zero => intro τ jj mm j u9 qj qm qp qq qf hm; exact absurd hm (Nat.not_lt_zero _)
    | succ nn ih =>
      intro τ jj mm j u9 qj qm qp qq qf hm
      refine mv_iload (pc := 24) B d_Tree_part_24 0 rfl ?_
      refine mv_iload (pc := 26) B d_Tree_part_26 2 rfl ?_
      refine mv_icmp_ge (pc := 28) (tgt := 88) B d_Tree_part_28 rfl (fun h28 => ?_) (fun h28 => ?_)
      · skip
        rw [Int32.le_iff_toInt_le] at h28
        have hjh : j = hi9 := by have := qp.2.2.1; omega
        have nd : mv_i τ 59 4 = mv_i σ 59 4 := qf.1 _ _ (fun q => q)
        have zk := i32_cl (x := k9) (by omega)
        have zk2 : k9.toNatClampNeg = k := by omega
        have fr0 : TrF 48 σ τ := qf.up (fun _ _ h => h.elim) (fun o h => by subst h; exact ⟨by decide, by decide⟩) (fun _ h => h.elim)
        refine mv_aload_n (pc := 88) B d_Tree_part_88 rfl 4 rfl ?_
        refine mv_getR (pc := 89) (ci := 8) (C := R_Tree) (T := F_Tree) (N := 5) B 1 rfl rfl (by decide) i_Tree (B.2.2.2.1 _ k_293) rfl (qq _ 1 61 rfl) d_Tree_part_89 ?_
        refine mv_iload_n (pc := 92) B d_Tree_part_92 rfl 6 rfl ?_
        refine mv_iload_n (pc := 93) B d_Tree_part_93 rfl 7 rfl ?_
        refine mv_iast (pc := 94) B rfl (i32_in hk0 (by omega)) d_Tree_part_94 ?_
        refine mv_aload_n (pc := 95) B d_Tree_part_95 rfl 4 rfl ?_
        refine mv_getR (pc := 96) (ci := 8) (C := R_Tree) (T := F_Tree) (N := 5) B 2 rfl rfl (by decide) i_Tree (B.2.2.2.1 _ k_294) rfl (qq _ 2 62 rfl) d_Tree_part_96 ?_
        refine mv_iload_n (pc := 99) B d_Tree_part_99 rfl 6 rfl ?_
        refine mv_aload_n (pc := 100) B d_Tree_part_100 rfl 4 rfl ?_
        refine mv_getI (pc := 101) (ci := 8) (C := R_Tree) (T := F_Tree) (N := 5) B 4 rfl rfl (by decide) i_Tree (B.2.2.2.1 _ k_298) rfl d_Tree_part_101 ?_
        refine mv_iast (pc := 104) B rfl (i32_in hk0 (by omega)) d_Tree_part_104 ?_
        refine mv_aload_n (pc := 105) B d_Tree_part_105 rfl 4 rfl ?_
        refine mv_getR (pc := 106) (ci := 8) (C := R_Tree) (T := F_Tree) (N := 5) B 3 rfl rfl (by decide) i_Tree (B.2.2.2.1 _ k_296) rfl (qq _ 3 63 rfl) d_Tree_part_106 ?_
        refine mv_iload_n (pc := 109) B d_Tree_part_109 rfl 6 rfl ?_
        refine mv_aload_n (pc := 110) B d_Tree_part_110 rfl 4 rfl ?_
        refine mv_getI (pc := 111) (ci := 8) (C := R_Tree) (T := F_Tree) (N := 5) B 4 rfl rfl (by decide) i_Tree (B.2.2.2.1 _ k_298) rfl d_Tree_part_111 ?_
        refine mv_iconst (pc := 114) (v := 1) B d_Tree_part_114 (by decide) ?_
        refine mv_iadd (pc := 115) B d_Tree_part_115 ?_
        refine mv_iast (pc := 116) B rfl (i32_in hk0 (by omega)) d_Tree_part_116 ?_
        refine mv_gen (fun S eS => ?_)
        have s4 : mv_i S 59 4 = mv_i σ 59 4 := by rw [eS]; exact nd
        have sq : Ph 48 (mv_r S) := by rw [eS]; exact qq
        have s12 : mv_a S 60 = mv_a τ 60 := by rw [eS]; rfl
        have sF : TrF 48 σ S := by rw [eS]; exact ((fr0.sa (by decide)).sa (by decide)).sa (by decide)
        have s13 : ∀ j, mv_a S 61 j = if j = k then Int32.ofNat b else mv_a σ 61 j := fun j => by rw [eS]; show mv_u (mv_a τ) 61 k9.toNatClampNeg _ 61 j = _; rw [u_row, zk2, qf.2.1 61 (by decide)]
        have s14 : ∀ j, mv_a S 62 j = if j = k then mv_i σ 59 4 else mv_a σ 62 j := fun j => by rw [eS]; show mv_u (mv_a τ) 62 k9.toNatClampNeg (mv_i τ 59 4) 62 j = _; rw [u_row, zk2, qf.2.1 62 (by decide), nd]
        have s15 : ∀ j, mv_a S 63 j = if j = k then mv_i σ 59 4 + 1 else mv_a σ 63 j := fun j => by rw [eS]; show mv_u (mv_a τ) 63 k9.toNatClampNeg (mv_i τ 59 4 + 1) 63 j = _; rw [u_row, zk2, qf.2.1 63 (by decide), nd]
        have ss : (mv_i S 59 4 + 1).toInt = n + 1 := by rw [s4, i32_inc (by omega)]; omega
        clear eS
        refine mv_aload_n (pc := 117) B d_Tree_part_117 rfl 4 rfl ?_
        refine mv_iload (pc := 118) B d_Tree_part_118 3 rfl ?_
        refine mv_iload (pc := 120) B d_Tree_part_120 1 rfl ?_
        refine mv_callVv (pc := 122) (n := 2) (ci := 8) (C := R_Tree) B (mK_ok sk sv) hNs rfl rfl (c_Tree_addLeaf_b l hi _ _ _ sq (by rw [s4]; omega) (by rw [s4]; omega)) rfl (ma_goodc kc_Tree_addLeaf) (B.2.2.2.1 _ k_414) (B.2.2.2.1 _ k_416) (B.2.2.2.1 _ ks_0) (B.2.2.2.1 _ k_9) ⟨by decide +kernel, by decide +kernel, by decide +kernel⟩ rfl d_Tree_part_122 rfl (Nat.le_of_ble_eq_true rfl) ⟨by decide, by decide⟩ ⟨by decide, by decide⟩ ⟨by decide, by decide⟩ (mv_noH hno _) (fun σ122 h122 => ?_)
        subst h122
        refine mv_aload_n (pc := 125) B d_Tree_part_125 rfl 4 rfl ?_
        refine mv_iload (pc := 126) B d_Tree_part_126 1 rfl ?_
        refine mv_iload (pc := 128) B d_Tree_part_128 2 rfl ?_
        refine mv_callVv (pc := 130) (n := 2) (ci := 8) (C := R_Tree) B (mK_ok sk sv) hNs rfl rfl (c_Tree_addLeaf_b l hi _ _ _ sq (by show 0 ≤ (mv_i S 59 4 + 1).toInt; omega) (by show (mv_i S 59 4 + 1).toInt < 1025; omega)) rfl (ma_goodc kc_Tree_addLeaf) (B.2.2.2.1 _ k_414) (B.2.2.2.1 _ k_416) (B.2.2.2.1 _ ks_0) (B.2.2.2.1 _ k_9) ⟨by decide +kernel, by decide +kernel, by decide +kernel⟩ rfl d_Tree_part_130 rfl (Nat.le_of_ble_eq_true rfl) ⟨by decide, by decide⟩ ⟨by decide, by decide⟩ ⟨by decide, by decide⟩ (mv_noH hno _) (fun σ130 h130 => ?_)
        subst h130
        exact mv_vret (pc := 133) B hr d_Tree_part_133 (Nat.le_refl _) (Nat.le_refl _) ⟨rfl, by rw [zk2]; exact tr_part_of qm (by rw [s12, ← hjh]; exact hjh ▸ qp) sF s4 hn (by omega) s13 s14 s15⟩
      · skip
        rw [Int32.le_iff_toInt_le] at h28
        have ejj := i32_cl (x := jj) (by omega)
        have emm := i32_cl (x := mm) (by omega)
        have zj : jj.toNatClampNeg = j := by omega
        have zm : mm.toNatClampNeg = u9 := by omega
        have eo : mv_a τ 60 jj.toNatClampNeg = mv_a σ 60 j := by rw [zj]; exact qp.2.2.2.1 j (by omega)
        have ho := hor j (by have := qp.1; have := qp.2.1; omega) (by omega)
        have eb : mv_b τ 54 = mv_b σ 54 := qf.2.2.1 _ (fun q => q)
        have p1 := qp.1
        have p2 := qp.2.1
        refine mv_aload_n (pc := 31) B d_Tree_part_31 rfl 4 rfl ?_
        refine mv_getR (pc := 32) (ci := 8) (C := R_Tree) (T := F_Tree) (N := 5) B 0 rfl rfl (by decide) i_Tree (B.2.2.2.1 _ k_291) rfl (qq _ 0 60 rfl) d_Tree_part_32 ?_
        refine mv_iload (pc := 35) B d_Tree_part_35 0 rfl ?_
        refine mv_iald (pc := 37) B rfl (i32_in (by omega) (by omega)) d_Tree_part_37 ?_
        refine mv_istore (pc := 38) B d_Tree_part_38 (by decide) rfl ?_
        refine mv_aload_n (pc := 40) B d_Tree_part_40 rfl 6 rfl ?_
        refine mv_getR (pc := 41) (ci := 7) (C := R_Program) (T := F_Program) (N := 19) B 12 rfl rfl (by decide) i_Program (B.2.2.2.1 _ k_352) rfl (qq _ 12 54 rfl) d_Tree_part_41 ?_
        refine mv_iload (pc := 44) B d_Tree_part_44 0 rfl ?_
        refine mv_lald (pc := 46) B rfl (i32_in (by rw [eo]; exact ho.1) (by rw [eo]; exact ho.2)) d_Tree_part_46 ?_
        refine mv_iload_n (pc := 47) B d_Tree_part_47 rfl 8 rfl ?_
        refine mv_lushr (pc := 48) B d_Tree_part_48 ?_
        refine mv_lconst (pc := 49) (v := 1) B d_Tree_part_49 (by decide) ?_
        refine mv_land (pc := 50) B d_Tree_part_50 ?_
        refine mv_lconst (pc := 51) (v := 0) B d_Tree_part_51 (by decide) ?_
        refine mv_lcmp (pc := 52) B d_Tree_part_52 ?_
        refine mv_if_ne (pc := 53) (tgt := 82) B d_Tree_part_53 rfl (fun h53 => ?_) (fun h53 => ?_)
        · skip
          have hz : tB 48 σ b j = true := by
            have h1 : ¬ _ = false := fun q => h53 ((lg_cmp_eq _ _).mpr ((us_bit _ b hb64).mpr q))
            rw [eb, eo] at h1
            exact (Bool.not_eq_false _).mp h1
          have hT := qp.one (by omega) hz
          have w2 : (jj + 1).toInt = j + 1 := by rw [i32_inc (by omega)]; omega
          have go := ih τ (jj + 1) mm (j + 1) u9 w2 qm hT qq qf (by omega)
          refine mv_iinc (pc := 82) (j := 1) (v := 1) B d_Tree_part_82 rfl (by decide) (by decide) rfl ?_
          refine mv_goto (pc := 85) (tgt := 24) B d_Tree_part_85 rfl ?_
          refine mv_lpick [0, 2, 3, 4, 5, 6, 7, 8] rfl ?_
          exact go
        · skip
          have hz : tB 48 σ b j = false := by
            have h1 := (us_bit _ b hb64).mp ((lg_cmp_eq _ _).mp h53)
            rw [eb, eo] at h1
            exact h1
          have hT : Pt (mv_a σ 60) (mv_a (mv_sa (mv_sa τ 60 jj.toNatClampNeg (mv_a τ 60 mm.toNatClampNeg)) 60 mm.toNatClampNeg (mv_a τ 60 jj.toNatClampNeg)) 60) (tB 48 σ b) lo9 hi9 (u9 + 1) (j + 1) := qp.zero (by omega) hz (fun i => by
              show mv_u (mv_u (mv_a τ) 60 jj.toNatClampNeg _) 60 mm.toNatClampNeg _ 60 i = _
              rw [u_row, u_row, zj, zm])
          have w1 : (mm + 1).toInt = u9 + 1 := by rw [i32_inc (by omega)]; omega
          have w2 : (jj + 1).toInt = j + 1 := by rw [i32_inc (by omega)]; omega
          have go := ih (mv_sa (mv_sa τ 60 jj.toNatClampNeg (mv_a τ 60 mm.toNatClampNeg)) 60 mm.toNatClampNeg (mv_a τ 60 jj.toNatClampNeg)) (jj + 1) (mm + 1) (j + 1) (u9 + 1) w2 w1 hT qq ((qf.sa rfl).sa rfl) (by omega)
          refine mv_aload_n (pc := 56) B d_Tree_part_56 rfl 5 rfl ?_
          refine mv_getR (pc := 57) (ci := 8) (C := R_Tree) (T := F_Tree) (N := 5) B 0 rfl rfl (by decide) i_Tree (B.2.2.2.1 _ k_291) rfl (qq _ 0 60 rfl) d_Tree_part_57 ?_
          refine mv_iload (pc := 60) B d_Tree_part_60 1 rfl ?_
          refine mv_aload_n (pc := 62) B d_Tree_part_62 rfl 5 rfl ?_
          refine mv_getR (pc := 63) (ci := 8) (C := R_Tree) (T := F_Tree) (N := 5) B 0 rfl rfl (by decide) i_Tree (B.2.2.2.1 _ k_291) rfl (qq _ 0 60 rfl) d_Tree_part_63 ?_
          refine mv_iload (pc := 66) B d_Tree_part_66 2 rfl ?_
          refine mv_iald (pc := 68) B rfl (i32_in (by omega) (by omega)) d_Tree_part_68 ?_
          refine mv_iast (pc := 69) B rfl (i32_in (by omega) (by omega)) d_Tree_part_69 ?_
          refine mv_aload_n (pc := 70) B d_Tree_part_70 rfl 5 rfl ?_
          refine mv_getR (pc := 71) (ci := 8) (C := R_Tree) (T := F_Tree) (N := 5) B 0 rfl rfl (by decide) i_Tree (B.2.2.2.1 _ k_291) rfl (qq _ 0 60 rfl) d_Tree_part_71 ?_
          refine mv_iload (pc := 74) B d_Tree_part_74 2 rfl ?_
          refine mv_iload (pc := 76) B d_Tree_part_76 0 rfl ?_
          refine mv_iast (pc := 78) B rfl (i32_in (by omega) (by omega)) d_Tree_part_78 ?_
          refine mv_iinc (pc := 79) (j := 2) (v := 1) B d_Tree_part_79 rfl (by decide) (by decide) rfl ?_
          refine mv_iinc (pc := 82) (j := 2) (v := 1) B d_Tree_part_82 rfl (by decide) (by decide) rfl ?_
          refine mv_goto (pc := 85) (tgt := 24) B d_Tree_part_85 rfl ?_
          refine mv_lpick [0, 1, 3, 4, 5, 6, 7, 8] rfl ?_
          exact go
  refine mv_aload_n (pc := 0) B d_Tree_part_0 rfl 0 rfl ?_
  refine mv_getR (pc := 1) (ci := 8) (C := R_Tree) (T := F_Tree) (N := 5) B 2 rfl rfl (by decide) i_Tree (B.2.2.2.1 _ k_294) rfl (hq _ 2 62 rfl) d_Tree_part_1 ?_
  refine mv_iload_n (pc := 4) B d_Tree_part_4 rfl 2 rfl ?_
  refine mv_iald (pc := 5) B rfl (i32_in hk0 (by omega)) d_Tree_part_5 ?_
  refine mv_istore (pc := 6) B d_Tree_part_6 (by decide) rfl ?_
  refine mv_aload_n (pc := 8) B d_Tree_part_8 rfl 1 rfl ?_
  refine mv_getR (pc := 9) (ci := 8) (C := R_Tree) (T := F_Tree) (N := 5) B 3 rfl rfl (by decide) i_Tree (B.2.2.2.1 _ k_296) rfl (hq _ 3 63 rfl) d_Tree_part_9 ?_
  refine mv_iload_n (pc := 12) B d_Tree_part_12 rfl 3 rfl ?_
  refine mv_iald (pc := 13) B rfl (i32_in hk0 (by omega)) d_Tree_part_13 ?_
  refine mv_istore (pc := 14) B d_Tree_part_14 (by decide) rfl ?_
  refine mv_iload (pc := 16) B d_Tree_part_16 1 rfl ?_
  refine mv_istore (pc := 18) B d_Tree_part_18 (by decide) rfl ?_
  refine mv_iload (pc := 20) B d_Tree_part_20 2 rfl ?_
  refine mv_istore (pc := 22) B d_Tree_part_22 (by decide) rfl ?_
  refine mv_lpick [0, 1, 2, 3, 4, 5, 6, 7] rfl ?_
  exact lp _ _ _ _ lo9 lo9 hlo hlo (Pt.start _ _ hlh) hq Fr.rf (Nat.lt_succ_self _)
set_option maxHeartbeats 4000000 in
set_option maxRecDepth 100000 in
theorem c_Tree_part_c (l : Launch) {dA : FieldType → ClassId} {D : va_G} {al : Nat → Nat} {sk sv : Nat → Nat} (hi : mv_inj (mg dA D al me)) (σ : mv_H) (k9 : Int32) (k n lo9 hi9 b : Nat) (hq : Ph 145 (mv_r σ)) (hk0 : 0 ≤ k9.toInt) (hk : k9.toInt = k) (hkn : k < n) (hn : (mv_i σ 156 4).toInt = n) (hnM : n + 2 ≤ 97) (hlo : (mv_a σ 159 k9.toNatClampNeg).toInt = lo9) (hhi : (mv_a σ 160 k9.toNatClampNeg).toInt = hi9) (hlh : lo9 ≤ hi9) (hhM : hi9 ≤ 48) (hb64 : b < 64) (hor : ∀ i : Nat, lo9 ≤ i → i < hi9 → 0 ≤ (mv_a σ 157 i).toInt ∧ (mv_a σ 157 i).toInt < 48) : mv_C l y_Tree_part (Cond.code y_Tree_part b_Tree_part 9 (Option.none : Option Jvm.ClassFile.FieldType) :: ma) ({ frames := 1, cells := 0, slots := 0, locals := 22 }) (mg dA D al me) (mK sk sv) [.ref (al 156), .ref (al 145), .int k9, .int (Int32.ofNat b)] σ (mv_Rv (fun σ1 => tr_part 145 σ σ1 k n lo9 hi9 b)) := by
  refine mv_C.ofV (cc := b_Tree_part) (nL := 9) (ret := (Option.none : Option Jvm.ClassFile.FieldType)) (by decide +kernel) rfl hi (Nat.le_of_ble_eq_true rfl) ?_
  intro p e s m below meth c B hNs hr hnm hno
  have lp : ∀ (nn : Nat) (τ : mv_H) (jj : Int32) (mm : Int32) (j : Nat) (u9 : Nat) (qj : jj.toInt = j) (qm : mm.toInt = u9) (qp : Pt (mv_a σ 157) (mv_a τ 157) (tB 145 σ b) lo9 hi9 u9 j) (qq : Ph 145 (mv_r τ)) (qf : Fr (fun _ _ => False) (fun o => o = 157) (fun _ => False) σ τ), hi9 - j < nn → mv_V p l e ({ frames := 1, cells := 0, slots := 0, locals := 22 }) s m ([.ref (al 156), .ref (al 145), .int k9, .int (Int32.ofNat b)] : List Value).toArray below meth c (mg dA D al me) 9 0 0 (mv_Q (mg dA D al me) below s 0 0 (mv_Rv (fun σ1 => tr_part 145 σ σ1 k n lo9 hi9 b))) τ 24 [(7, .int jj), (6, .int mm), (5, .int (mv_a σ 160 k9.toNatClampNeg)), (4, .int (mv_a σ 159 k9.toNatClampNeg)), (0, .ref (al 156)), (1, .ref (al 145)), (2, .int k9), (3, .int (Int32.ofNat b))] [] := by
    intro nn
    induction nn with
    | zero => intro τ jj mm j u9 qj qm qp qq qf hm; exact absurd hm (Nat.not_lt_zero _)
    | succ nn ih =>
      intro τ jj mm j u9 qj qm qp qq qf hm
      refine mv_iload (pc := 24) B d_Tree_part_24 0 rfl ?_
      refine mv_iload (pc := 26) B d_Tree_part_26 2 rfl ?_
      refine mv_icmp_ge (pc := 28) (tgt := 88) B d_Tree_part_28 rfl (fun h28 => ?_) (fun h28 => ?_)
      · skip
        rw [Int32.le_iff_toInt_le] at h28
        have hjh : j = hi9 := by have := qp.2.2.1; omega
        have nd : mv_i τ 156 4 = mv_i σ 156 4 := qf.1 _ _ (fun q => q)
        have zk := i32_cl (x := k9) (by omega)
        have zk2 : k9.toNatClampNeg = k := by omega
        have fr0 : TrF 145 σ τ := qf.up (fun _ _ h => h.elim) (fun o h => by subst h; exact ⟨by decide, by decide⟩) (fun _ h => h.elim)
        refine mv_aload_n (pc := 88) B d_Tree_part_88 rfl 4 rfl ?_
        refine mv_getR (pc := 89) (ci := 8) (C := R_Tree) (T := F_Tree) (N := 5) B 1 rfl rfl (by decide) i_Tree (B.2.2.2.1 _ k_293) rfl (qq _ 1 158 rfl) d_Tree_part_89 ?_
        refine mv_iload_n (pc := 92) B d_Tree_part_92 rfl 6 rfl ?_
        refine mv_iload_n (pc := 93) B d_Tree_part_93 rfl 7 rfl ?_
        refine mv_iast (pc := 94) B rfl (i32_in hk0 (by omega)) d_Tree_part_94 ?_
        refine mv_aload_n (pc := 95) B d_Tree_part_95 rfl 4 rfl ?_
        refine mv_getR (pc := 96) (ci := 8) (C := R_Tree) (T := F_Tree) (N := 5) B 2 rfl rfl (by decide) i_Tree (B.2.2.2.1 _ k_294) rfl (qq _ 2 159 rfl) d_Tree_part_96 ?_
        refine mv_iload_n (pc := 99) B d_Tree_part_99 rfl 6 rfl ?_
        refine mv_aload_n (pc := 100) B d_Tree_part_100 rfl 4 rfl ?_
        refine mv_getI (pc := 101) (ci := 8) (C := R_Tree) (T := F_Tree) (N := 5) B 4 rfl rfl (by decide) i_Tree (B.2.2.2.1 _ k_298) rfl d_Tree_part_101 ?_
        refine mv_iast (pc := 104) B rfl (i32_in hk0 (by omega)) d_Tree_part_104 ?_
        refine mv_aload_n (pc := 105) B d_Tree_part_105 rfl 4 rfl ?_
        refine mv_getR (pc := 106) (ci := 8) (C := R_Tree) (T := F_Tree) (N := 5) B 3 rfl rfl (by decide) i_Tree (B.2.2.2.1 _ k_296) rfl (qq _ 3 160 rfl) d_Tree_part_106 ?_
        refine mv_iload_n (pc := 109) B d_Tree_part_109 rfl 6 rfl ?_
        refine mv_aload_n (pc := 110) B d_Tree_part_110 rfl 4 rfl ?_
        refine mv_getI (pc := 111) (ci := 8) (C := R_Tree) (T := F_Tree) (N := 5) B 4 rfl rfl (by decide) i_Tree (B.2.2.2.1 _ k_298) rfl d_Tree_part_111 ?_
        refine mv_iconst (pc := 114) (v := 1) B d_Tree_part_114 (by decide) ?_
        refine mv_iadd (pc := 115) B d_Tree_part_115 ?_
        refine mv_iast (pc := 116) B rfl (i32_in hk0 (by omega)) d_Tree_part_116 ?_
        refine mv_gen (fun S eS => ?_)
        have s4 : mv_i S 156 4 = mv_i σ 156 4 := by rw [eS]; exact nd
        have sq : Ph 145 (mv_r S) := by rw [eS]; exact qq
        have s12 : mv_a S 157 = mv_a τ 157 := by rw [eS]; rfl
        have sF : TrF 145 σ S := by rw [eS]; exact ((fr0.sa (by decide)).sa (by decide)).sa (by decide)
        have s13 : ∀ j, mv_a S 158 j = if j = k then Int32.ofNat b else mv_a σ 158 j := fun j => by rw [eS]; show mv_u (mv_a τ) 158 k9.toNatClampNeg _ 158 j = _; rw [u_row, zk2, qf.2.1 158 (by decide)]
        have s14 : ∀ j, mv_a S 159 j = if j = k then mv_i σ 156 4 else mv_a σ 159 j := fun j => by rw [eS]; show mv_u (mv_a τ) 159 k9.toNatClampNeg (mv_i τ 156 4) 159 j = _; rw [u_row, zk2, qf.2.1 159 (by decide), nd]
        have s15 : ∀ j, mv_a S 160 j = if j = k then mv_i σ 156 4 + 1 else mv_a σ 160 j := fun j => by rw [eS]; show mv_u (mv_a τ) 160 k9.toNatClampNeg (mv_i τ 156 4 + 1) 160 j = _; rw [u_row, zk2, qf.2.1 160 (by decide), nd]
        have ss : (mv_i S 156 4 + 1).toInt = n + 1 := by rw [s4, i32_inc (by omega)]; omega
        clear eS
        refine mv_aload_n (pc := 117) B d_Tree_part_117 rfl 4 rfl ?_
        refine mv_iload (pc := 118) B d_Tree_part_118 3 rfl ?_
        refine mv_iload (pc := 120) B d_Tree_part_120 1 rfl ?_
        refine mv_callVv (pc := 122) (n := 2) (ci := 8) (C := R_Tree) B (mK_ok sk sv) hNs rfl rfl (c_Tree_addLeaf_c l hi _ _ _ sq (by rw [s4]; omega) (by rw [s4]; omega)) rfl (ma_goodc kc_Tree_addLeaf) (B.2.2.2.1 _ k_414) (B.2.2.2.1 _ k_416) (B.2.2.2.1 _ ks_0) (B.2.2.2.1 _ k_9) ⟨by decide +kernel, by decide +kernel, by decide +kernel⟩ rfl d_Tree_part_122 rfl (Nat.le_of_ble_eq_true rfl) ⟨by decide, by decide⟩ ⟨by decide, by decide⟩ ⟨by decide, by decide⟩ (mv_noH hno _) (fun σ122 h122 => ?_)
        subst h122
        refine mv_aload_n (pc := 125) B d_Tree_part_125 rfl 4 rfl ?_
        refine mv_iload (pc := 126) B d_Tree_part_126 1 rfl ?_
        refine mv_iload (pc := 128) B d_Tree_part_128 2 rfl ?_
        refine mv_callVv (pc := 130) (n := 2) (ci := 8) (C := R_Tree) B (mK_ok sk sv) hNs rfl rfl (c_Tree_addLeaf_c l hi _ _ _ sq (by show 0 ≤ (mv_i S 156 4 + 1).toInt; omega) (by show (mv_i S 156 4 + 1).toInt < 97; omega)) rfl (ma_goodc kc_Tree_addLeaf) (B.2.2.2.1 _ k_414) (B.2.2.2.1 _ k_416) (B.2.2.2.1 _ ks_0) (B.2.2.2.1 _ k_9) ⟨by decide +kernel, by decide +kernel, by decide +kernel⟩ rfl d_Tree_part_130 rfl (Nat.le_of_ble_eq_true rfl) ⟨by decide, by decide⟩ ⟨by decide, by decide⟩ ⟨by decide, by decide⟩ (mv_noH hno _) (fun σ130 h130 => ?_)
        subst h130
        exact mv_vret (pc := 133) B hr d_Tree_part_133 (Nat.le_refl _) (Nat.le_refl _) ⟨rfl, by rw [zk2]; exact tr_part_of qm (by rw [s12, ← hjh]; exact hjh ▸ qp) sF s4 hn (by omega) s13 s14 s15⟩
      · skip
        rw [Int32.le_iff_toInt_le] at h28
        have ejj := i32_cl (x := jj) (by omega)
        have emm := i32_cl (x := mm) (by omega)
        have zj : jj.toNatClampNeg = j := by omega
        have zm : mm.toNatClampNeg = u9 := by omega
        have eo : mv_a τ 157 jj.toNatClampNeg = mv_a σ 157 j := by rw [zj]; exact qp.2.2.2.1 j (by omega)
        have ho := hor j (by have := qp.1; have := qp.2.1; omega) (by omega)
        have eb : mv_b τ 151 = mv_b σ 151 := qf.2.2.1 _ (fun q => q)
        have p1 := qp.1
        have p2 := qp.2.1
        refine mv_aload_n (pc := 31) B d_Tree_part_31 rfl 4 rfl ?_
        refine mv_getR (pc := 32) (ci := 8) (C := R_Tree) (T := F_Tree) (N := 5) B 0 rfl rfl (by decide) i_Tree (B.2.2.2.1 _ k_291) rfl (qq _ 0 157 rfl) d_Tree_part_32 ?_
        refine mv_iload (pc := 35) B d_Tree_part_35 0 rfl ?_
        refine mv_iald (pc := 37) B rfl (i32_in (by omega) (by omega)) d_Tree_part_37 ?_
        refine mv_istore (pc := 38) B d_Tree_part_38 (by decide) rfl ?_
        refine mv_aload_n (pc := 40) B d_Tree_part_40 rfl 6 rfl ?_
        refine mv_getR (pc := 41) (ci := 7) (C := R_Program) (T := F_Program) (N := 19) B 12 rfl rfl (by decide) i_Program (B.2.2.2.1 _ k_352) rfl (qq _ 12 151 rfl) d_Tree_part_41 ?_
        refine mv_iload (pc := 44) B d_Tree_part_44 0 rfl ?_
        refine mv_lald (pc := 46) B rfl (i32_in (by rw [eo]; exact ho.1) (by rw [eo]; exact ho.2)) d_Tree_part_46 ?_
        refine mv_iload_n (pc := 47) B d_Tree_part_47 rfl 8 rfl ?_
        refine mv_lushr (pc := 48) B d_Tree_part_48 ?_
        refine mv_lconst (pc := 49) (v := 1) B d_Tree_part_49 (by decide) ?_
        refine mv_land (pc := 50) B d_Tree_part_50 ?_
        refine mv_lconst (pc := 51) (v := 0) B d_Tree_part_51 (by decide) ?_
        refine mv_lcmp (pc := 52) B d_Tree_part_52 ?_
        refine mv_if_ne (pc := 53) (tgt := 82) B d_Tree_part_53 rfl (fun h53 => ?_) (fun h53 => ?_)
        · skip
          have hz : tB 145 σ b j = true := by
            have h1 : ¬ _ = false := fun q => h53 ((lg_cmp_eq _ _).mpr ((us_bit _ b hb64).mpr q))
            rw [eb, eo] at h1
            exact (Bool.not_eq_false _).mp h1
          have hT := qp.one (by omega) hz
          have w2 : (jj + 1).toInt = j + 1 := by rw [i32_inc (by omega)]; omega
          have go := ih τ (jj + 1) mm (j + 1) u9 w2 qm hT qq qf (by omega)
          refine mv_iinc (pc := 82) (j := 1) (v := 1) B d_Tree_part_82 rfl (by decide) (by decide) rfl ?_
          refine mv_goto (pc := 85) (tgt := 24) B d_Tree_part_85 rfl ?_
          refine mv_lpick [0, 2, 3, 4, 5, 6, 7, 8] rfl ?_
          exact go
        · skip
          have hz : tB 145 σ b j = false := by
            have h1 := (us_bit _ b hb64).mp ((lg_cmp_eq _ _).mp h53)
            rw [eb, eo] at h1
            exact h1
          have hT : Pt (mv_a σ 157) (mv_a (mv_sa (mv_sa τ 157 jj.toNatClampNeg (mv_a τ 157 mm.toNatClampNeg)) 157 mm.toNatClampNeg (mv_a τ 157 jj.toNatClampNeg)) 157) (tB 145 σ b) lo9 hi9 (u9 + 1) (j + 1) := qp.zero (by omega) hz (fun i => by
              show mv_u (mv_u (mv_a τ) 157 jj.toNatClampNeg _) 157 mm.toNatClampNeg _ 157 i = _
              rw [u_row, u_row, zj, zm])
          have w1 : (mm + 1).toInt = u9 + 1 := by rw [i32_inc (by omega)]; omega
          have w2 : (jj + 1).toInt = j + 1 := by rw [i32_inc (by omega)]; omega
          have go := ih (mv_sa (mv_sa τ 157 jj.toNatClampNeg (mv_a τ 157 mm.toNatClampNeg)) 157 mm.toNatClampNeg (mv_a τ 157 jj.toNatClampNeg)) (jj + 1) (mm + 1) (j + 1) (u9 + 1) w2 w1 hT qq ((qf.sa rfl).sa rfl) (by omega)
          refine mv_aload_n (pc := 56) B d_Tree_part_56 rfl 5 rfl ?_
          refine mv_getR (pc := 57) (ci := 8) (C := R_Tree) (T := F_Tree) (N := 5) B 0 rfl rfl (by decide) i_Tree (B.2.2.2.1 _ k_291) rfl (qq _ 0 157 rfl) d_Tree_part_57 ?_
          refine mv_iload (pc := 60) B d_Tree_part_60 1 rfl ?_
          refine mv_aload_n (pc := 62) B d_Tree_part_62 rfl 5 rfl ?_
          refine mv_getR (pc := 63) (ci := 8) (C := R_Tree) (T := F_Tree) (N := 5) B 0 rfl rfl (by decide) i_Tree (B.2.2.2.1 _ k_291) rfl (qq _ 0 157 rfl) d_Tree_part_63 ?_
          refine mv_iload (pc := 66) B d_Tree_part_66 2 rfl ?_
          refine mv_iald (pc := 68) B rfl (i32_in (by omega) (by omega)) d_Tree_part_68 ?_
          refine mv_iast (pc := 69) B rfl (i32_in (by omega) (by omega)) d_Tree_part_69 ?_
          refine mv_aload_n (pc := 70) B d_Tree_part_70 rfl 5 rfl ?_
          refine mv_getR (pc := 71) (ci := 8) (C := R_Tree) (T := F_Tree) (N := 5) B 0 rfl rfl (by decide) i_Tree (B.2.2.2.1 _ k_291) rfl (qq _ 0 157 rfl) d_Tree_part_71 ?_
          refine mv_iload (pc := 74) B d_Tree_part_74 2 rfl ?_
          refine mv_iload (pc := 76) B d_Tree_part_76 0 rfl ?_
          refine mv_iast (pc := 78) B rfl (i32_in (by omega) (by omega)) d_Tree_part_78 ?_
          refine mv_iinc (pc := 79) (j := 2) (v := 1) B d_Tree_part_79 rfl (by decide) (by decide) rfl ?_
          refine mv_iinc (pc := 82) (j := 2) (v := 1) B d_Tree_part_82 rfl (by decide) (by decide) rfl ?_
          refine mv_goto (pc := 85) (tgt := 24) B d_Tree_part_85 rfl ?_
          refine mv_lpick [0, 1, 3, 4, 5, 6, 7, 8] rfl ?_
          exact go
  refine mv_aload_n (pc := 0) B d_Tree_part_0 rfl 0 rfl ?_
  refine mv_getR (pc := 1) (ci := 8) (C := R_Tree) (T := F_Tree) (N := 5) B 2 rfl rfl (by decide) i_Tree (B.2.2.2.1 _ k_294) rfl (hq _ 2 159 rfl) d_Tree_part_1 ?_
  refine mv_iload_n (pc := 4) B d_Tree_part_4 rfl 2 rfl ?_
  refine mv_iald (pc := 5) B rfl (i32_in hk0 (by omega)) d_Tree_part_5 ?_
  refine mv_istore (pc := 6) B d_Tree_part_6 (by decide) rfl ?_
  refine mv_aload_n (pc := 8) B d_Tree_part_8 rfl 1 rfl ?_
  refine mv_getR (pc := 9) (ci := 8) (C := R_Tree) (T := F_Tree) (N := 5) B 3 rfl rfl (by decide) i_Tree (B.2.2.2.1 _ k_296) rfl (hq _ 3 160 rfl) d_Tree_part_9 ?_
  refine mv_iload_n (pc := 12) B d_Tree_part_12 rfl 3 rfl ?_
  refine mv_iald (pc := 13) B rfl (i32_in hk0 (by omega)) d_Tree_part_13 ?_
  refine mv_istore (pc := 14) B d_Tree_part_14 (by decide) rfl ?_
  refine mv_iload (pc := 16) B d_Tree_part_16 1 rfl ?_
  refine mv_istore (pc := 18) B d_Tree_part_18 (by decide) rfl ?_
  refine mv_iload (pc := 20) B d_Tree_part_20 2 rfl ?_
  refine mv_istore (pc := 22) B d_Tree_part_22 (by decide) rfl ?_
  refine mv_lpick [0, 1, 2, 3, 4, 5, 6, 7] rfl ?_
  exact lp _ _ _ _ lo9 lo9 hlo hlo (Pt.start _ _ hlh) hq Fr.rf (Nat.lt_succ_self _)
