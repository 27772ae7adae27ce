/-! Weaver: openBlock, op -/
def wb (σ : mv_H) (k u x : Int32) : mv_H := mv_si (mv_si (mv_sa (mv_sa (mv_sa (mv_sa σ 28 (mv_i σ 2 15).toNatClampNeg k) 29 (mv_i σ 2 15).toNatClampNeg u) 30 (mv_i σ 2 15).toNatClampNeg x) 31 (mv_i σ 2 15).toNatClampNeg (mv_i σ 13 7)) 2 15 (mv_i σ 2 15 + 1)) 2 6 1
section WBS
variable {P : Nat} {σ τ : mv_H}
theorem WT.wb (h : WT P σ τ) (k u x : Int32) : WT P σ (wb τ k u x) := (((((h.sa (Or.inr (Or.inl ⟨by omega, by omega⟩))).sa (Or.inr (Or.inl ⟨by omega, by omega⟩))).sa (Or.inr (Or.inl ⟨by omega, by omega⟩))).sa (Or.inr (Or.inl ⟨by omega, by omega⟩))).si (Or.inl rfl)).si (Or.inl rfl)
theorem wb_i (σ : mv_H) (k u x : Int32) {o y : Nat} (h : ¬ (o = 2 ∧ (y = 6 ∨ y = 15))) : mv_i (wb σ k u x) o y = mv_i σ o y := (ri_ne (by omega)).trans (ri_ne (by omega))
theorem wb_15 (σ : mv_H) (k u x : Int32) : mv_i (wb σ k u x) 2 15 = mv_i σ 2 15 + 1 := rfl
theorem wb_6 (σ : mv_H) (k u x : Int32) : mv_i (wb σ k u x) 2 6 = 1 := rfl
theorem wb_28 (σ : mv_H) (k u x : Int32) (j : Nat) : mv_a (wb σ k u x) 28 j = if j = (mv_i σ 2 15).toNatClampNeg then k else mv_a σ 28 j := row1 σ 28 _ k j
theorem wb_29 (σ : mv_H) (k u x : Int32) (j : Nat) : mv_a (wb σ k u x) 29 j = if j = (mv_i σ 2 15).toNatClampNeg then u else mv_a σ 29 j := row1 (mv_sa σ 28 (mv_i σ 2 15).toNatClampNeg k) 29 _ u j
theorem wb_30 (σ : mv_H) (k u x : Int32) (j : Nat) : mv_a (wb σ k u x) 30 j = if j = (mv_i σ 2 15).toNatClampNeg then x else mv_a σ 30 j := row1 (mv_sa (mv_sa σ 28 (mv_i σ 2 15).toNatClampNeg k) 29 (mv_i σ 2 15).toNatClampNeg u) 30 _ x j
theorem wb_31 (σ : mv_H) (k u x : Int32) (j : Nat) : mv_a (wb σ k u x) 31 j = if j = (mv_i σ 2 15).toNatClampNeg then mv_i σ 13 7 else mv_a σ 31 j := row1 (mv_sa (mv_sa (mv_sa σ 28 (mv_i σ 2 15).toNatClampNeg k) 29 (mv_i σ 2 15).toNatClampNeg u) 30 (mv_i σ 2 15).toNatClampNeg x) 31 _ (mv_i σ 13 7) j
theorem wb_o (σ : mv_H) (k u x : Int32) {o : Nat} (h : o < 28 ∨ 31 < o) : mv_a (wb σ k u x) o = mv_a σ o := (((ra_ne (by omega)).trans (ra_ne (by omega))).trans (ra_ne (by omega))).trans (ra_ne (by omega))
/-- a block more -/
theorem WS.block {sz th s a ns no d : Nat} {bl : List Bk} {ex : List Nat} {k u x : Int32} (hP : PQ P) (h7 : (mv_i σ 3 7).toInt = a) (h9 : (mv_i σ 3 9).toInt < 0) (h8 : (mv_i σ 3 8).toInt = d) (hd : bl.length + 1 ≤ d) (hd2 : d ≤ 60) (ha : a < sz) (hs : s + 2 ≤ a) (hn : 2 * ns + 2 ≤ a) (hno : no ≤ nCd (mv_a σ 4) a)
    (hb : (mv_i σ 2 15).toInt = bl.length) (hB : BkR (mv_a σ 28) (mv_a σ 29) (mv_a σ 30) (mv_a σ 31) (mv_b σ (P + 10)) (mv_i σ 13 7).toInt bl) (hN : 0 ≤ (mv_i σ 13 7).toInt) (hk : (k = 206 ↔ bl = []) ∧ (bl = [] → u = -1 ∧ ex = [])) (hx : Lk (mv_b σ (P + 10)) x.toInt ex) (ho : ∀ y ∈ ex, ∀ b ∈ bl, ∀ y' ∈ b.2, y' < y) (hO : Bo (mv_a σ (P + 9)) s ((u, ex) :: bl))
    (h17 : (mv_i σ P 17).toInt = s) (hns : nSet (mv_a σ (P + 9)) s = ns) (hC : mv_i σ 21 0 = 0 → ∃ hg, CS th s (mv_a σ (P + 9)) (mv_b σ (P + 10)) (mv_a σ (P + 7)) no ((u, ex) :: bl) hg 0) : WS P (wb σ k u x) sz th s a ns no ((u, ex) :: bl) := by
  unfold PQ at hP
  have ec : (mv_i σ 2 15).toNatClampNeg = bl.length := by have := i32_cl (x := mv_i σ 2 15) (by omega); omega
  have hl : ((u, ex) :: bl).length = bl.length + 1 := rfl
  have eb : mv_b (wb σ k u x) = mv_b σ := rfl
  unfold WS
  rw [wb_i σ k u x (show ¬ (3 = 2 ∧ (7 = 6 ∨ 7 = 15)) by omega), wb_i σ k u x (show ¬ (3 = 2 ∧ (9 = 6 ∨ 9 = 15)) by omega), wb_i σ k u x (show ¬ (3 = 2 ∧ (8 = 6 ∨ 8 = 15)) by omega), wb_o σ k u x (show 4 < 28 ∨ 31 < 4 by omega), wb_15, wb_i σ k u x (show ¬ (13 = 2 ∧ (7 = 6 ∨ 7 = 15)) by omega), wb_o σ k u x (show P + 9 < 28 ∨ 31 < P + 9 by omega), wb_i σ k u x (show ¬ (P = 2 ∧ (17 = 6 ∨ 17 = 15)) by omega), wb_i σ k u x (show ¬ (21 = 2 ∧ (0 = 6 ∨ 0 = 15)) by omega), wb_o σ k u x (show P + 7 < 28 ∨ 31 < P + 7 by omega), eb]
  refine ⟨⟨h7, h9, by omega, by omega, ha, hs, hn, hno⟩, ⟨by rw [i32_inc (by omega)]; omega, ?_, hO⟩, h17, hns, hC⟩
  unfold BkR
  rw [wb_28, wb_29, wb_30, wb_31, ec, if_pos rfl, if_pos rfl, if_pos rfl, if_pos rfl]
  refine ⟨hk, rfl, hx, hN, Int.le_refl _, ho, BkR.con bl _ _ hB (Int.le_refl _) (fun i hi => ?_) (fun _ _ _ _ => rfl)⟩
  rw [wb_28, wb_29, wb_30, wb_31, ec, if_neg (by omega), if_neg (by omega), if_neg (by omega), if_neg (by omega)]
  exact ⟨rfl, rfl, rfl, rfl⟩
end WBS
def y_Weaver_openBlock : MethodName := ⟨"MachineLoom$Weaver", "openBlock", "(III)V"⟩
abbrev b_Weaver_openBlock : ByteArray := prog_12_method_14_code
theorem kc_Weaver_openBlock : Cond.code y_Weaver_openBlock b_Weaver_openBlock 4 (Option.none : Option Jvm.ClassFile.FieldType) ∈ ma := ma_of (tb_6 _ (List.mem_of_getElem? (i := 148) rfl)) rfl
theorem k_1349 : (Jvm.Cond.methodLink "MachineLoom$Weaver" (237 : Nat) ({ cls := "MachineLoom$Tokens", name := "open", desc := "(I)I" } : Jvm.MethodName)) ∈ ma := ma_of (tb_6 _ (List.mem_of_getElem? (i := 149) rfl)) rfl
theorem k_241 : (Jvm.Cond.fieldLink "MachineLoom$Weaver" (47 : Nat) "MachineLoom$Weaver" "blockKinds" "[I") ∈ ma := ma_of (tb_2 _ (List.mem_of_getElem? (i := 1) rfl)) rfl
theorem k_245 : (Jvm.Cond.fieldLink "MachineLoom$Weaver" (133 : Nat) "MachineLoom$Weaver" "blocks" "I") ∈ ma := ma_of (tb_2 _ (List.mem_of_getElem? (i := 5) rfl)) rfl
theorem k_242 : (Jvm.Cond.fieldLink "MachineLoom$Weaver" (51 : Nat) "MachineLoom$Weaver" "blockUnlesses" "[I") ∈ ma := ma_of (tb_2 _ (List.mem_of_getElem? (i := 2) rfl)) rfl
theorem k_243 : (Jvm.Cond.fieldLink "MachineLoom$Weaver" (54 : Nat) "MachineLoom$Weaver" "blockExits" "[I") ∈ ma := ma_of (tb_2 _ (List.mem_of_getElem? (i := 3) rfl)) rfl
theorem k_244 : (Jvm.Cond.fieldLink "MachineLoom$Weaver" (57 : Nat) "MachineLoom$Weaver" "blockScopes" "[I") ∈ ma := ma_of (tb_2 _ (List.mem_of_getElem? (i := 4) rfl)) rfl
theorem k_145 : (Jvm.Cond.fieldLink "MachineLoom$Weaver" (240 : Nat) "MachineLoom$Names" "inScope" "I") ∈ ma := ma_of (tb_1 _ (List.mem_of_getElem? (i := 145) rfl)) rfl
theorem d_Weaver_openBlock_0 : decode b_Weaver_openBlock 0 = .ok (.aload_n 0, 1) := by decide +kernel
theorem d_Weaver_openBlock_1 : decode b_Weaver_openBlock 1 = .ok (.getfield 12, 3) := by decide +kernel
theorem d_Weaver_openBlock_4 : decode b_Weaver_openBlock 4 = .ok (.bipush 123, 2) := by decide +kernel
theorem d_Weaver_openBlock_6 : decode b_Weaver_openBlock 6 = .ok (.invokevirtual 237, 3) := by decide +kernel
theorem d_Weaver_openBlock_9 : decode b_Weaver_openBlock 9 = .ok (.pop, 1) := by decide +kernel
theorem d_Weaver_openBlock_10 : decode b_Weaver_openBlock 10 = .ok (.aload_n 0, 1) := by decide +kernel
theorem d_Weaver_openBlock_11 : decode b_Weaver_openBlock 11 = .ok (.getfield 12, 3) := by decide +kernel
theorem d_Weaver_openBlock_14 : decode b_Weaver_openBlock 14 = .ok (.invokevirtual 79, 3) := by decide +kernel
theorem d_Weaver_openBlock_17 : decode b_Weaver_openBlock 17 = .ok (.ifCond .eq (64), 3) := by decide +kernel
theorem d_Weaver_openBlock_20 : decode b_Weaver_openBlock 20 = .ok (.aload_n 0, 1) := by decide +kernel
theorem d_Weaver_openBlock_21 : decode b_Weaver_openBlock 21 = .ok (.getfield 47, 3) := by decide +kernel
theorem d_Weaver_openBlock_24 : decode b_Weaver_openBlock 24 = .ok (.aload_n 0, 1) := by decide +kernel
theorem d_Weaver_openBlock_25 : decode b_Weaver_openBlock 25 = .ok (.getfield 133, 3) := by decide +kernel
theorem d_Weaver_openBlock_28 : decode b_Weaver_openBlock 28 = .ok (.iload_n 1, 1) := by decide +kernel
theorem d_Weaver_openBlock_29 : decode b_Weaver_openBlock 29 = .ok (.iastore, 1) := by decide +kernel
theorem d_Weaver_openBlock_30 : decode b_Weaver_openBlock 30 = .ok (.aload_n 0, 1) := by decide +kernel
theorem d_Weaver_openBlock_31 : decode b_Weaver_openBlock 31 = .ok (.getfield 51, 3) := by decide +kernel
theorem d_Weaver_openBlock_34 : decode b_Weaver_openBlock 34 = .ok (.aload_n 0, 1) := by decide +kernel
theorem d_Weaver_openBlock_35 : decode b_Weaver_openBlock 35 = .ok (.getfield 133, 3) := by decide +kernel
theorem d_Weaver_openBlock_38 : decode b_Weaver_openBlock 38 = .ok (.iload_n 2, 1) := by decide +kernel
theorem d_Weaver_openBlock_39 : decode b_Weaver_openBlock 39 = .ok (.iastore, 1) := by decide +kernel
theorem d_Weaver_openBlock_40 : decode b_Weaver_openBlock 40 = .ok (.aload_n 0, 1) := by decide +kernel
theorem d_Weaver_openBlock_41 : decode b_Weaver_openBlock 41 = .ok (.getfield 54, 3) := by decide +kernel
theorem d_Weaver_openBlock_44 : decode b_Weaver_openBlock 44 = .ok (.aload_n 0, 1) := by decide +kernel
theorem d_Weaver_openBlock_45 : decode b_Weaver_openBlock 45 = .ok (.getfield 133, 3) := by decide +kernel
theorem d_Weaver_openBlock_48 : decode b_Weaver_openBlock 48 = .ok (.iload_n 3, 1) := by decide +kernel
theorem d_Weaver_openBlock_49 : decode b_Weaver_openBlock 49 = .ok (.iastore, 1) := by decide +kernel
theorem d_Weaver_openBlock_50 : decode b_Weaver_openBlock 50 = .ok (.aload_n 0, 1) := by decide +kernel
theorem d_Weaver_openBlock_51 : decode b_Weaver_openBlock 51 = .ok (.getfield 57, 3) := by decide +kernel
theorem d_Weaver_openBlock_54 : decode b_Weaver_openBlock 54 = .ok (.aload_n 0, 1) := by decide +kernel
theorem d_Weaver_openBlock_55 : decode b_Weaver_openBlock 55 = .ok (.getfield 133, 3) := by decide +kernel
theorem d_Weaver_openBlock_58 : decode b_Weaver_openBlock 58 = .ok (.aload_n 0, 1) := by decide +kernel
theorem d_Weaver_openBlock_59 : decode b_Weaver_openBlock 59 = .ok (.getfield 27, 3) := by decide +kernel
theorem d_Weaver_openBlock_62 : decode b_Weaver_openBlock 62 = .ok (.getfield 240, 3) := by decide +kernel
theorem d_Weaver_openBlock_65 : decode b_Weaver_openBlock 65 = .ok (.iastore, 1) := by decide +kernel
theorem d_Weaver_openBlock_66 : decode b_Weaver_openBlock 66 = .ok (.aload_n 0, 1) := by decide +kernel
theorem d_Weaver_openBlock_67 : decode b_Weaver_openBlock 67 = .ok (.dup, 1) := by decide +kernel
theorem d_Weaver_openBlock_68 : decode b_Weaver_openBlock 68 = .ok (.getfield 133, 3) := by decide +kernel
theorem d_Weaver_openBlock_71 : decode b_Weaver_openBlock 71 = .ok (.iconst 1, 1) := by decide +kernel
theorem d_Weaver_openBlock_72 : decode b_Weaver_openBlock 72 = .ok (.iadd, 1) := by decide +kernel
theorem d_Weaver_openBlock_73 : decode b_Weaver_openBlock 73 = .ok (.putfield 133, 3) := by decide +kernel
theorem d_Weaver_openBlock_76 : decode b_Weaver_openBlock 76 = .ok (.aload_n 0, 1) := by decide +kernel
theorem d_Weaver_openBlock_77 : decode b_Weaver_openBlock 77 = .ok (.iconst 1, 1) := by decide +kernel
theorem d_Weaver_openBlock_78 : decode b_Weaver_openBlock 78 = .ok (.putfield 75, 3) := by decide +kernel
theorem d_Weaver_openBlock_81 : decode b_Weaver_openBlock 81 = .ok (.return_, 1) := by decide +kernel
set_option maxHeartbeats 4000000 in
set_option maxRecDepth 100000 in
theorem c_Weaver_openBlock (l : Launch) {dA : FieldType → ClassId} {D : va_G} {al : Nat → Nat} {ext : mv_Sh} {sk sv : Nat → Nat} (hi : mv_inj (mg dA D al ext)) (σ : mv_H) (k9 u9 x9 : Int32) {t len n z sz : Nat} (hsh : mh (mv_r σ)) (hE : TE σ t len n z sz) (h1q : 1 ≤ (mv_i σ 3 7).toInt) (h2q : (mv_i σ 3 7).toInt < sz) (hb0 : 0 ≤ (mv_i σ 2 15).toInt) (hb1 : (mv_i σ 2 15).toInt ≤ 60) : mv_C l y_Weaver_openBlock (Cond.code y_Weaver_openBlock b_Weaver_openBlock 4 (Option.none : Option Jvm.ClassFile.FieldType) :: ma) ({ frames := 3, cells := 0, slots := 0, locals := 63 }) (mg dA D al ext) (mK sk sv) [.ref (al 2), .int k9, .int u9, .int x9] σ (mv_Rv (fun σ1 => ∃ a6 w6 v6, TkR σ sz (¬ mv_i σ 3 8 = 60) 123 v6 a6 w6 ∧ ((0 ≤ w6.toInt ∧ σ1 = tk3 σ a6 (mv_i σ 3 8 + 1) w6) ∨ (w6.toInt < 0 ∧ σ1 = wb (tk3 σ a6 (mv_i σ 3 8 + 1) w6) k9 u9 x9)))) := by
  refine mv_C.ofV (cc := b_Weaver_openBlock) (nL := 4) (ret := (Option.none : Option Jvm.ClassFile.FieldType)) (by decide +kernel) rfl hi (Nat.le_of_ble_eq_true rfl) ?_
  intro p e s m below meth c B hNs hr hnm hno
  refine mv_aload_n (pc := 0) B d_Weaver_openBlock_0 rfl 0 rfl ?_
  refine mv_getR (pc := 1) (ci := 1) (C := R_Weaver) (T := F_Weaver) (N := 16) B 0 rfl rfl (by decide) i_Weaver (B.2.2.2.1 _ k_228) rfl (hsh _ 0 _ rfl) d_Weaver_openBlock_1 ?_
  refine mv_bipush (pc := 4) (v := 123) B d_Weaver_openBlock_4 (by decide) ?_
  refine mv_callVi (pc := 6) (n := 1) (ci := 2) (C := R_Tokens) B (mK_ok sk sv) hNs rfl rfl (c_Tokens_openN l hi _ _ hsh hE h1q h2q (by decide)) rfl (ma_goodc kc_Tokens_open) (B.2.2.2.1 _ k_1349) (B.2.2.2.1 _ k_1350) (B.2.2.2.1 _ k_1351) (B.2.2.2.1 _ k_3) ⟨by decide +kernel, by decide +kernel, by decide +kernel⟩ rfl d_Weaver_openBlock_6 rfl (Nat.le_of_ble_eq_true rfl) ⟨by decide, by decide⟩ ⟨by decide, by decide⟩ ⟨by decide, by decide⟩ (mv_noH hno _) (fun v6 σ6 h6 => ?_)
  obtain ⟨a6, w6, e6, r6⟩ := h6
  subst e6
  refine mv_gen (fun S9 eS9 => ?_)
  have hsh : mh (mv_r S9) := by rw [eS9]; exact hsh
  have hb0 : 0 ≤ (mv_i S9 2 15).toInt := by rw [eS9]; exact hb0
  have hb1 : (mv_i S9 2 15).toInt ≤ 60 := by rw [eS9]; exact hb1
  have h39 : mv_i S9 3 9 = w6 := by rw [eS9]; rfl
  have e9 := eS9
  clear eS9
  refine mv_pop (pc := 9) B d_Weaver_openBlock_9 rfl ?_
  refine mv_aload_n (pc := 10) B d_Weaver_openBlock_10 rfl 0 rfl ?_
  refine mv_getR (pc := 11) (ci := 1) (C := R_Weaver) (T := F_Weaver) (N := 16) B 0 rfl rfl (by decide) i_Weaver (B.2.2.2.1 _ k_228) rfl (hsh _ 0 _ rfl) d_Weaver_openBlock_11 ?_
  refine mv_callVi (pc := 14) (n := 0) (ci := 2) (C := R_Tokens) B (mK_ok sk sv) hNs rfl rfl (c_Tokens_right l hi _) rfl (ma_goodc kc_Tokens_right) (B.2.2.2.1 _ k_1291) (B.2.2.2.1 _ k_1292) (B.2.2.2.1 _ k_1293) (B.2.2.2.1 _ k_3) ⟨by decide +kernel, by decide +kernel, by decide +kernel⟩ rfl d_Weaver_openBlock_14 rfl (Nat.le_of_ble_eq_true rfl) ⟨by decide, by decide⟩ ⟨by decide, by decide⟩ ⟨by decide, by decide⟩ (mv_noH hno _) (fun v14 σ14 h14 => ?_)
  obtain ⟨e14, z14⟩ := h14
  have e14 := e14.symm
  subst e14
  refine mv_if_eq (pc := 17) (tgt := 81) B d_Weaver_openBlock_17 rfl (fun h17 => ?_) (fun h17 => ?_)
  · skip
    have hw : ¬ w6.toInt < 0 := fun q => by rw [h39, if_pos (lt0.mpr q)] at z14; rw [z14] at h17; exact absurd h17 (by decide)
    have hend : (0 ≤ w6.toInt ∧ S9 = tk3 σ a6 (mv_i σ 3 8 + 1) w6) ∨ (w6.toInt < 0 ∧ S9 = wb (tk3 σ a6 (mv_i σ 3 8 + 1) w6) k9 u9 x9) := Or.inl ⟨by omega, e9⟩
    exact mv_vret (pc := 81) B hr d_Weaver_openBlock_81 (Nat.le_refl _) (Nat.le_refl _) ⟨rfl, a6, w6, v6, r6, by first | exact hend | exact Or.inr ⟨hw, by rw [e9]; rfl⟩⟩
  · skip
    have hw : w6.toInt < 0 := Decidable.byContradiction fun q => h17 (by rw [z14, h39, if_neg (fun z => q (lt0.mp z))])
    refine mv_aload_n (pc := 20) B d_Weaver_openBlock_20 rfl 0 rfl ?_
    refine mv_getR (pc := 21) (ci := 1) (C := R_Weaver) (T := F_Weaver) (N := 16) B 11 rfl rfl (by decide) i_Weaver (B.2.2.2.1 _ k_241) rfl (hsh _ 11 _ rfl) d_Weaver_openBlock_21 ?_
    refine mv_aload_n (pc := 24) B d_Weaver_openBlock_24 rfl 0 rfl ?_
    refine mv_getI (pc := 25) (ci := 1) (C := R_Weaver) (T := F_Weaver) (N := 16) B 15 rfl rfl (by decide) i_Weaver (B.2.2.2.1 _ k_245) rfl d_Weaver_openBlock_25 ?_
    refine mv_iload_n (pc := 28) B d_Weaver_openBlock_28 rfl 1 rfl ?_
    refine mv_iast (pc := 29) B rfl (i32_in (show 0 ≤ (mv_i S9 2 15).toInt by omega) (show (mv_i S9 2 15).toInt < 61 by omega)) d_Weaver_openBlock_29 ?_
    refine mv_aload_n (pc := 30) B d_Weaver_openBlock_30 rfl 0 rfl ?_
    refine mv_getR (pc := 31) (ci := 1) (C := R_Weaver) (T := F_Weaver) (N := 16) B 12 rfl rfl (by decide) i_Weaver (B.2.2.2.1 _ k_242) rfl (hsh _ 12 _ rfl) d_Weaver_openBlock_31 ?_
    refine mv_aload_n (pc := 34) B d_Weaver_openBlock_34 rfl 0 rfl ?_
    refine mv_getI (pc := 35) (ci := 1) (C := R_Weaver) (T := F_Weaver) (N := 16) B 15 rfl rfl (by decide) i_Weaver (B.2.2.2.1 _ k_245) rfl d_Weaver_openBlock_35 ?_
    refine mv_iload_n (pc := 38) B d_Weaver_openBlock_38 rfl 2 rfl ?_
    refine mv_iast (pc := 39) B rfl (i32_in (show 0 ≤ (mv_i S9 2 15).toInt by omega) (show (mv_i S9 2 15).toInt < 61 by omega)) d_Weaver_openBlock_39 ?_
    refine mv_aload_n (pc := 40) B d_Weaver_openBlock_40 rfl 0 rfl ?_
    refine mv_getR (pc := 41) (ci := 1) (C := R_Weaver) (T := F_Weaver) (N := 16) B 13 rfl rfl (by decide) i_Weaver (B.2.2.2.1 _ k_243) rfl (hsh _ 13 _ rfl) d_Weaver_openBlock_41 ?_
    refine mv_aload_n (pc := 44) B d_Weaver_openBlock_44 rfl 0 rfl ?_
    refine mv_getI (pc := 45) (ci := 1) (C := R_Weaver) (T := F_Weaver) (N := 16) B 15 rfl rfl (by decide) i_Weaver (B.2.2.2.1 _ k_245) rfl d_Weaver_openBlock_45 ?_
    refine mv_iload_n (pc := 48) B d_Weaver_openBlock_48 rfl 3 rfl ?_
    refine mv_iast (pc := 49) B rfl (i32_in (show 0 ≤ (mv_i S9 2 15).toInt by omega) (show (mv_i S9 2 15).toInt < 61 by omega)) d_Weaver_openBlock_49 ?_
    refine mv_aload_n (pc := 50) B d_Weaver_openBlock_50 rfl 0 rfl ?_
    refine mv_getR (pc := 51) (ci := 1) (C := R_Weaver) (T := F_Weaver) (N := 16) B 14 rfl rfl (by decide) i_Weaver (B.2.2.2.1 _ k_244) rfl (hsh _ 14 _ rfl) d_Weaver_openBlock_51 ?_
    refine mv_aload_n (pc := 54) B d_Weaver_openBlock_54 rfl 0 rfl ?_
    refine mv_getI (pc := 55) (ci := 1) (C := R_Weaver) (T := F_Weaver) (N := 16) B 15 rfl rfl (by decide) i_Weaver (B.2.2.2.1 _ k_245) rfl d_Weaver_openBlock_55 ?_
    refine mv_aload_n (pc := 58) B d_Weaver_openBlock_58 rfl 0 rfl ?_
    refine mv_getR (pc := 59) (ci := 1) (C := R_Weaver) (T := F_Weaver) (N := 16) B 1 rfl rfl (by decide) i_Weaver (B.2.2.2.1 _ k_229) rfl (hsh _ 1 _ rfl) d_Weaver_openBlock_59 ?_
    refine mv_getI (pc := 62) (ci := 4) (C := R_Names) (T := F_Names) (N := 10) B 7 rfl rfl (by decide) i_Names (B.2.2.2.1 _ k_145) rfl d_Weaver_openBlock_62 ?_
    refine mv_iast (pc := 65) B rfl (i32_in (show 0 ≤ (mv_i S9 2 15).toInt by omega) (show (mv_i S9 2 15).toInt < 61 by omega)) d_Weaver_openBlock_65 ?_
    refine mv_aload_n (pc := 66) B d_Weaver_openBlock_66 rfl 0 rfl ?_
    refine mv_dup (pc := 67) B d_Weaver_openBlock_67 rfl ?_
    refine mv_getI (pc := 68) (ci := 1) (C := R_Weaver) (T := F_Weaver) (N := 16) B 15 rfl rfl (by decide) i_Weaver (B.2.2.2.1 _ k_245) rfl d_Weaver_openBlock_68 ?_
    refine mv_iconst (pc := 71) (v := 1) B d_Weaver_openBlock_71 (by decide) ?_
    refine mv_iadd (pc := 72) B d_Weaver_openBlock_72 ?_
    refine mv_putI (pc := 73) (ci := 1) (C := R_Weaver) (T := F_Weaver) (N := 16) B 15 rfl rfl (by decide) i_Weaver t_Weaver_ok n_Weaver (B.2.2.2.1 _ k_245) rfl rfl rfl rfl d_Weaver_openBlock_73 ?_
    refine mv_aload_n (pc := 76) B d_Weaver_openBlock_76 rfl 0 rfl ?_
    refine mv_iconst (pc := 77) (v := 1) B d_Weaver_openBlock_77 (by decide) ?_
    refine mv_putI (pc := 78) (ci := 1) (C := R_Weaver) (T := F_Weaver) (N := 16) B 6 rfl rfl (by decide) i_Weaver t_Weaver_ok n_Weaver (B.2.2.2.1 _ k_236) rfl rfl rfl rfl d_Weaver_openBlock_78 ?_
    exact mv_vret (pc := 81) B hr d_Weaver_openBlock_81 (Nat.le_refl _) (Nat.le_refl _) ⟨rfl, a6, w6, v6, r6, by first | exact hend | exact Or.inr ⟨hw, by rw [e9]; rfl⟩⟩
abbrev EnF : mv_H → mv_H → Prop := Fr (fun _ _ => False) (fun o => o = 17) (fun o => o = 18)
set_option maxHeartbeats 4000000 in
set_option maxRecDepth 100000 in
theorem c_Names_enterOpF (l : Launch) {dA : FieldType → ClassId} {D : va_G} {al : Nat → Nat} {ext : mv_Sh} {sk sv : Nat → Nat} (hi : mv_inj (mg dA D al ext)) (σ : mv_H) (t tn : Nat) (f d w : Int32) (hsh : mh (mv_r σ)) (hts : (mb ++ ext)[t]? = some (.inr (.byte, tn))) (ht2 : t = 1 ∨ t = 144) (htn : tn ≤ 32768) (g0 : 0 ≤ f.toInt) (g1 : f.toInt + d.toInt ≤ tn) (hby : ∀ i : Nat, f.toInt ≤ i → i < f.toInt + d.toInt → 46 ≤ (mv_a σ t i).toInt ∧ (mv_a σ t i).toInt ≤ 122) : mv_C l y_Names_enterOp (Cond.code y_Names_enterOp b_Names_enterOp 7 (Option.none : Option Jvm.ClassFile.FieldType) :: ma) ({ frames := 0, cells := 0, slots := 0, locals := 0 }) (mg dA D al ext) (mK sk sv) [.ref (al 13), .ref (al t), .int f, .int d, .int w] σ (mv_Rv (fun σ1 => EnF σ σ1)) := by
  refine mv_C.ofV (cc := b_Names_enterOp) (nL := 7) (ret := (Option.none : Option Jvm.ClassFile.FieldType)) (by decide +kernel) rfl hi (Nat.le_of_ble_eq_true rfl) ?_
  intro p e s m below meth c B hNs hr hnm hno
  have lp : ∀ (nn : Nat) (τ : mv_H) (j : Int32) (q0 : 0 ≤ j.toInt) (qt : mv_a τ t = mv_a σ t) (qh : mh (mv_r τ)) (qf : EnF σ τ), (d.toInt - j.toInt).toNat < nn → mv_V p l e ({ frames := 0, cells := 0, slots := 0, locals := 0 }) s m ([.ref (al 13), .ref (al t), .int f, .int d, .int w] : List Value).toArray below meth c (mg dA D al ext) 7 0 0 (mv_Q (mg dA D al ext) below s 0 0 (mv_Rv (fun σ1 => EnF σ σ1))) τ 3 [(5, .int j), (0, .ref (al 13)), (1, .ref (al t)), (2, .int f), (3, .int d), (4, .int w)] [] := by
    intro nn
    induction nn with
    | zero => intro τ j q0 qt qh qf hm; exact absurd hm (Nat.not_lt_zero _)
    | succ nn ih =>
      intro τ j q0 qt qh qf hm
      refine mv_iload (pc := 3) B d_Names_enterOp_3 0 rfl ?_
      refine mv_iload_n (pc := 5) B d_Names_enterOp_5 rfl 4 rfl ?_
      refine mv_icmp_ge (pc := 6) (tgt := 70) B d_Names_enterOp_6 rfl (fun h6 => ?_) (fun h6 => ?_)
      · skip
        exact mv_vret (pc := 70) B hr d_Names_enterOp_70 (Nat.le_refl _) (Nat.le_refl _) ⟨rfl, qf⟩
      · skip
        rw [Int32.le_iff_toInt_le] at h6
        have ej := i32_cl q0
        refine mv_aload_n (pc := 9) B d_Names_enterOp_9 rfl 2 rfl ?_
        refine mv_iload_n (pc := 10) B d_Names_enterOp_10 rfl 3 rfl ?_
        refine mv_iload (pc := 11) B d_Names_enterOp_11 0 rfl ?_
        refine mv_iadd (pc := 13) B d_Names_enterOp_13 ?_
        refine mv_topi (fun y13 ey13 => ?_)
        have fy13 := i32_addE ey13 (by (try simp only [Int32.reduceToInt]); omega) (by (try simp only [Int32.reduceToInt]); omega)
        try simp only [Int32.reduceToInt] at fy13
        refine mv_bald (pc := 14) B hts (i32_in (by omega) (by omega)) d_Names_enterOp_14 ?_
        have ey := i32_cl (x := y13) (by omega)
        have et9 : mv_a τ t y13.toNatClampNeg = mv_a σ t y13.toNatClampNeg := by rw [qt]
        have hb := hby y13.toNatClampNeg (by omega) (by omega)
        refine mv_istore (pc := 15) B d_Names_enterOp_15 (by decide) rfl ?_
        refine mv_iload (pc := 17) B d_Names_enterOp_17 0 rfl ?_
        refine mv_bipush (pc := 19) (v := 65) B d_Names_enterOp_19 (by decide) ?_
        refine mv_icmp_lt (pc := 21) (tgt := 64) B d_Names_enterOp_21 rfl (fun h21 => ?_) (fun h21 => ?_)
        · skip
          refine mv_iinc (pc := 64) (j := 1) (v := 1) B d_Names_enterOp_64 rfl (by decide) (by decide) rfl ?_
          refine mv_goto (pc := 67) (tgt := 3) B d_Names_enterOp_67 rfl ?_
          refine mv_lpick [0, 2, 3, 4, 5, 6] rfl ?_
          exact ih _ _ (by rw [i32_inc (by omega)]; omega) (by rcases ht2 with rfl | rfl <;> exact qt) qh (by first | exact qf | exact ((qf.sa rfl).sb rfl)) (by rw [i32_inc (by omega)]; omega)
        · skip
          rw [Int32.lt_iff_toInt_lt] at h21
          simp only [Int32.reduceToInt] at h21
          refine mv_aload_n (pc := 24) B d_Names_enterOp_24 rfl 2 rfl ?_
          refine mv_getR (pc := 25) (ci := 4) (C := R_Names) (T := F_Names) (N := 10) B 4 rfl rfl (by decide) i_Names (B.2.2.2.1 _ k_141) rfl (qh _ 4 _ rfl) d_Names_enterOp_25 ?_
          refine mv_iload (pc := 28) B d_Names_enterOp_28 0 rfl ?_
          refine mv_dup2_11 (pc := 30) B d_Names_enterOp_30 rfl rfl ?_
          refine mv_iald (pc := 31) B rfl (i32_in (by rw [et9]; omega) (by rw [et9]; omega)) d_Names_enterOp_31 ?_
          refine mv_iconst (pc := 32) (v := 1) B d_Names_enterOp_32 (by decide) ?_
          refine mv_iadd (pc := 33) B d_Names_enterOp_33 ?_
          refine mv_iast (pc := 34) B rfl (i32_in (by rw [et9]; omega) (by rw [et9]; omega)) d_Names_enterOp_34 ?_
          refine mv_aload_n (pc := 35) B d_Names_enterOp_35 rfl 2 rfl ?_
          refine mv_getR (pc := 36) (ci := 4) (C := R_Names) (T := F_Names) (N := 10) B 5 rfl rfl (by decide) i_Names (B.2.2.2.1 _ k_142) rfl (qh _ 5 _ rfl) d_Names_enterOp_36 ?_
          refine mv_iload (pc := 39) B d_Names_enterOp_39 0 rfl ?_
          refine mv_dup2_11 (pc := 41) B d_Names_enterOp_41 rfl rfl ?_
          refine mv_lald (pc := 42) B rfl (i32_in (by rw [et9]; omega) (by rw [et9]; omega)) d_Names_enterOp_42 ?_
          refine mv_iload_n (pc := 43) B d_Names_enterOp_43 rfl 5 rfl ?_
          refine mv_iload (pc := 44) B d_Names_enterOp_44 6 rfl ?_
          refine mv_icmp_ne (pc := 46) (tgt := 61) B d_Names_enterOp_46 rfl (fun h46 => ?_) (fun h46 => ?_)
          · skip
            refine mv_lconst (pc := 61) (v := 0) B d_Names_enterOp_61 (by decide) ?_
            refine mv_lor (pc := 62) B d_Names_enterOp_62 ?_
            refine mv_last (pc := 63) B rfl (i32_in (by rw [et9]; omega) (by rw [et9]; omega)) d_Names_enterOp_63 ?_
            refine mv_iinc (pc := 64) (j := 1) (v := 1) B d_Names_enterOp_64 rfl (by decide) (by decide) rfl ?_
            refine mv_goto (pc := 67) (tgt := 3) B d_Names_enterOp_67 rfl ?_
            refine mv_lpick [0, 2, 3, 4, 5, 6] rfl ?_
            exact ih _ _ (by rw [i32_inc (by omega)]; omega) (by rcases ht2 with rfl | rfl <;> exact qt) qh (by first | exact qf | exact ((qf.sa rfl).sb rfl)) (by rw [i32_inc (by omega)]; omega)
          · skip
            refine mv_lconst (pc := 49) (v := 1) B d_Names_enterOp_49 (by decide) ?_
            refine mv_iload (pc := 50) B d_Names_enterOp_50 6 rfl ?_
            refine mv_iconst (pc := 52) (v := 1) B d_Names_enterOp_52 (by decide) ?_
            refine mv_isub (pc := 53) B d_Names_enterOp_53 ?_
            refine mv_iload (pc := 54) B d_Names_enterOp_54 1 rfl ?_
            refine mv_isub (pc := 56) B d_Names_enterOp_56 ?_
            refine mv_lshl (pc := 57) B d_Names_enterOp_57 ?_
            refine mv_goto (pc := 58) (tgt := 62) B d_Names_enterOp_58 rfl ?_
            refine mv_lor (pc := 62) B d_Names_enterOp_62 ?_
            refine mv_last (pc := 63) B rfl (i32_in (by rw [et9]; omega) (by rw [et9]; omega)) d_Names_enterOp_63 ?_
            refine mv_iinc (pc := 64) (j := 1) (v := 1) B d_Names_enterOp_64 rfl (by decide) (by decide) rfl ?_
            refine mv_goto (pc := 67) (tgt := 3) B d_Names_enterOp_67 rfl ?_
            refine mv_lpick [0, 2, 3, 4, 5, 6] rfl ?_
            exact ih _ _ (by rw [i32_inc (by omega)]; omega) (by rcases ht2 with rfl | rfl <;> exact qt) qh (by first | exact qf | exact ((qf.sa rfl).sb rfl)) (by rw [i32_inc (by omega)]; omega)
  refine mv_iconst (pc := 0) (v := 0) B d_Names_enterOp_0 (by decide) ?_
  refine mv_istore (pc := 1) B d_Names_enterOp_1 (by decide) rfl ?_
  refine mv_lpick [0, 1, 2, 3, 4, 5] rfl ?_
  exact lp _ _ _ (by decide) rfl hsh Fr.rf (Nat.lt_succ_self _)
