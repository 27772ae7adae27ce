/-! the reference's build: what it leaves for the work -/
theorem csum_at {f : Nat → Int32} {l : List (Nat × Nat × Bool)} (h : ∀ t, t < l.length → f t = nI (l.getD t (0, 0, false)).2.1 ∧ (l.getD t (0, 0, false)).2.1 ≤ 65536) : ∀ t, t ≤ l.length → csum f t = (atL l t : Int) := by
  intro t
  induction t with
  | zero =>
    intro _
    have : atL l 0 = 0 := by cases l <;> rfl
    rw [this]; rfl
  | succ t ih =>
    intro ht
    obtain ⟨h1, h2⟩ := h t (by omega)
    have h3 := atL_n l t (by omega)
    show csum f t + (f t).toInt = _
    rw [ih (by omega), h1, nIi (by omega)]
    omega
/-- a book that has just been read -/
def RB0 (N : Nat) (r : SI × LZ × List DnS) (σ : mv_H) : Prop := XBk N r σ ∧ PLr N r σ ∧ BVr N r σ (fun _ _ => 0)
theorem RB0.of {B : Nat} {X : TX} {v : Int32} {σ : mv_H} {r : SI × LZ × List DnS} (Z : ZBw B X v σ) (hv : v = 1) (S : SRt B r.1 σ) (hr : tTx X = some r) : RB0 B r σ := by
  obtain ⟨z1, z2, z3⟩ := Z hv
  have I := IT_tx hr
  have l64 := I.2.2.1.2.2
  have b17 : (mv_i σ B 17).toInt = r.1.tl.length := by rw [S.2.1, nIi (by omega)]
  have s7 := S.2.2.2.2.2.2
  have ec : ∀ t, t ≤ r.1.tl.length → csum (mv_a σ (B + 4)) t = (atL r.1.tl t : Int) := csum_at (fun t ht => ⟨(s7 t ht).2.2.1, by have := I.c ht; omega⟩)
  have pl : PLr B r σ := fun t ht => by
    have e := (z1 t (by omega)).1
    rw [ec t (by omega)] at e
    exact nI_o2 e
  refine ⟨z3 r hr, pl, fun t i ht hi => ?_⟩
  have w4 := (s7 t ht).2.2.2
  have hc := I.c ht
  unfold bsV
  by_cases c : mv_a σ (B + 6) t = 0
  · rw [if_pos c]
    exact (z1 t (by omega)).2
  · have c2 : ¬ (r.1.tl.getD t (0, 0, false)).2.1 = 0 := fun q => c (w4.mpr q)
    unfold ncT at hi
    rw [if_neg c2] at hi
    rw [if_neg c, pl t ht, cln (by omega)]
    refine z2 r.1.tl.length _ b17 ?_
    rw [ec _ (Nat.le_refl _)]
    have h1 := atL_n r.1.tl t ht
    have h2 := atL_le r.1.tl (t + 1)
    omega
theorem RB0.fr {N : Nat} {r : SI × LZ × List DnS} {σ τ : mv_H} (h : RB0 N r σ) (ei : ∀ k, mv_i τ N k = mv_i σ N k) (ea : mv_a τ = mv_a σ) (eb : mv_b τ = mv_b σ) : RB0 N r τ := by
  obtain ⟨h1, h2, h3⟩ := h
  refine ⟨h1.fr (fun k _ => ei k) (fun o k _ _ _ => by rw [ea]) (fun k _ => by rw [eb]) (fun o k _ _ => by rw [ea]), fun t ht => by rw [ea]; exact h2 t ht, fun t i ht hi => ?_⟩
  have := h3 t i ht hi
  unfold bsV at this ⊢
  rw [ea, eb]
  exact this
/-- the reference's machine stays -/
def RKp (N : Nat) (σ τ : mv_H) : Prop := (∀ k, (k = 6 ∨ k = 12 ∨ k = 13 ∨ k = 14 ∨ k = 15) → mv_i τ 70 k = mv_i σ 70 k) ∧ (∀ o, (o = 72 ∨ o = 73 ∨ (N + 1 ≤ o ∧ o ≤ N + 28)) → mv_a τ o = mv_a σ o ∧ mv_b τ o = mv_b σ o) ∧ ∀ k, ¬ (k = 53 ∨ k = 61 ∨ k = 62 ∨ k = 63) → mv_i τ N k = mv_i σ N k
theorem RKp.rf {N : Nat} {σ : mv_H} : RKp N σ σ := ⟨fun _ _ => rfl, fun _ _ => ⟨rfl, rfl⟩, fun _ _ => rfl⟩
theorem RKp.tr {N : Nat} {σ τ υ : mv_H} (h : RKp N σ τ) (g : RKp N τ υ) : RKp N σ υ := ⟨fun k q => (g.1 k q).trans (h.1 k q), fun o q => ⟨(g.2.1 o q).1.trans (h.2.1 o q).1, (g.2.1 o q).2.trans (h.2.1 o q).2⟩, fun k q => (g.2.2 k q).trans (h.2.2 k q)⟩
theorem RKp.si {N k : Nat} {v : Int32} {σ τ : mv_H} (h : RKp N σ τ) (hk : ¬ (k = 6 ∨ k = 12 ∨ k = 13 ∨ k = 14 ∨ k = 15)) (hN : N = 74 ∨ N = 108) : RKp N σ (mv_si τ 70 k v) := h.tr ⟨fun j q => mv_si_o _ _ (by omega), fun _ _ => ⟨rfl, rfl⟩, fun j _ => mv_si_o _ _ (by omega)⟩
theorem RKp.bf {N S : Nat} {σ υ τ : mv_H} (h : RKp N σ υ) (f : BF S (mv_sr υ S 1 (some 71)) τ) (hN : (N = 74 ∧ S = 108) ∨ (N = 108 ∧ S = 74)) : RKp N σ τ :=
  h.tr ⟨fun k q => f.1 _ _ (by omega), fun o q => ⟨funext fun k => f.2.2.2.1 _ _ (by omega), f.2.2.2.2 _ (by omega)⟩, fun k q => f.1 _ _ (by omega)⟩
theorem RWb.rk {N : Nat} {r : SI × LZ × List DnS} {σ τ : mv_H} (W : RWb N r σ) (k : RKp N σ τ) : RWb N r τ := by
  obtain ⟨S, X, L, I, U⟩ := W
  have ka := fun o q => (k.2.1 o q).1
  have kb := fun o q => (k.2.1 o q).2
  exact ⟨S.k ⟨k.2.2, fun o a b => ka o (by omega)⟩, X.fr (fun j hj => k.2.2 j (by omega)) (fun o j _ _ _ => by rw [ka o (by omega)]) (fun j _ => by rw [kb (N + 24) (by omega)]) (fun o j ho _ => by rw [ka o (by omega)]), fun t ht => by rw [ka (N + 5) (by omega)]; exact L t ht, I, U⟩
theorem BVr.rk {N : Nat} {r : SI × LZ × List DnS} {R : Nat → Nat → Int64} {σ τ : mv_H} (V : BVr N r σ R) (k : RKp N σ τ) : BVr N r τ R := fun t i ht hi => by
  have := V t i ht hi
  unfold bsV at this ⊢
  rw [(k.2.1 (N + 6) (by omega)).1, (k.2.1 (N + 27) (by omega)).2, (k.2.1 (N + 28) (by omega)).2, (k.2.1 (N + 5) (by omega)).1]
  exact this
/-- what the reference's build leaves -/
def BZw (X : TX) (σ τ : mv_H) : Prop := (mv_i τ 70 2 = 0 → (∀ N, mv_r τ 70 9 = some N → ∀ r, tTx X = some r → RB0 N r τ) ∧ mv_i τ 70 12 = 0 ∧ mv_i τ 70 13 = 0 ∧ mv_i τ 70 14 = mv_i σ 70 14 ∧ mv_i τ 70 15 = mv_i σ 70 15) ∧ (mv_i τ 70 2 = 1 → ∀ N, mv_r σ 70 9 = some N → RKp N σ τ)
theorem sOK_t {X : TX} {s : SI} {r : SI × LZ × List DnS} (h : sOK X = some s) (hr : tTx X = some r) : s = r.1 := by
  unfold sOK at h
  rw [sTx_of hr] at h
  have h : (if aptL (r.1.ops.map Prod.snd) = true then some r.1 else none) = some s := h
  by_cases c : aptL (r.1.ops.map Prod.snd) = true
  · rw [if_pos c] at h; exact (Option.some.inj h).symm
  · rw [if_neg c] at h; cases h
set_option maxHeartbeats 4000000 in
set_option maxRecDepth 100000 in
theorem c_kz_Model_fresh (l : Launch) {dA : FieldType → ClassId} {D : va_G} {al : Nat → Nat} {ext : mv_Sh} {sk sv : Nat → Nat} (hi : mv_inj (mg dA D al ext)) (σ : mv_H)  : mv_C l y_Model_fresh (Cond.code y_Model_fresh b_Model_fresh 1 (Option.none : Option Jvm.ClassFile.FieldType) :: ma) ({ frames := 0, cells := 0, slots := 0, locals := 0 }) (mg dA D al ext) (mK sk sv) [.ref (al 70)] σ (mv_Rv (fun σ1 => (SM σ σ1 ∧ mv_i σ1 70 2 = mv_i σ 70 2) ∧ σ1 = mv_si (mv_si σ 70 12 0) 70 13 0)) := by
  refine mv_C.ofV (cc := b_Model_fresh) (nL := 1) (ret := (Option.none : Option Jvm.ClassFile.FieldType)) (by decide +kernel) rfl hi (Nat.le_of_ble_eq_true rfl) ?_
  intro p e s m below meth c B hNs hr hnm hno
  refine mv_aload_n (pc := 0) B d_Model_fresh_0 rfl 0 rfl ?_
  refine mv_iconst (pc := 1) (v := 0) B d_Model_fresh_1 (by decide) ?_
  refine mv_putI (pc := 2) (ci := 11) (C := R_Model) (T := F_Model) (N := 16) B 12 rfl rfl (by decide) i_Model t_Model_ok n_Model (B.2.2.2.1 _ k_2057) rfl rfl rfl rfl d_Model_fresh_2 ?_
  refine mv_aload_n (pc := 5) B d_Model_fresh_5 rfl 0 rfl ?_
  refine mv_iconst (pc := 6) (v := 0) B d_Model_fresh_6 (by decide) ?_
  refine mv_putI (pc := 7) (ci := 11) (C := R_Model) (T := F_Model) (N := 16) B 13 rfl rfl (by decide) i_Model t_Model_ok n_Model (B.2.2.2.1 _ k_2058) rfl rfl rfl rfl d_Model_fresh_7 ?_
  exact mv_vret (pc := 10) B hr d_Model_fresh_10 (Nat.le_refl _) (Nat.le_refl _) ⟨rfl, ⟨SM.si (SM.si Fx.rf (by decide)) (by decide), by rw [mv_si_o _ _ (by omega), mv_si_o _ _ (by omega)]⟩, rfl⟩
set_option maxHeartbeats 4000000 in
set_option maxRecDepth 100000 in
theorem c_kz_Model_build_x (l : Launch) {dA : FieldType → ClassId} {D : va_G} {al : Nat → Nat} {ext : mv_Sh} {sk sv : Nat → Nat} (hi : mv_inj (mg dA D al ext)) (σ : mv_H) (hM : MI 74 108 σ) (k9 : Nat) (hz : (mv_i σ 70 1).toInt = k9) (hk : k9 ≤ 10240) (hb7 : byt7 σ) : mv_C l y_Model_build (Cond.code y_Model_build b_Model_build 3 (Option.some Jvm.ClassFile.FieldType.int) :: ma) ({ frames := 1085, cells := 0, slots := 0, locals := 65179 }) (mg dA D al ext) (mK sk sv) [.ref (al 70)] σ (mv_Ri (fun v σ1 => (M7 σ σ1 ∧ mv_i σ1 70 1 = 0 ∧ (MI 74 108 σ1 ∨ MI 108 74 σ1) ∧ BM (txT (ck σ k9) k9) v σ1 ∧ (mv_i σ1 70 2 = 1 → BMF 74 σ σ1)) ∧ BZw (txT (ck σ k9) k9) σ σ1)) := by
  refine mv_C.ofV (cc := b_Model_build) (nL := 3) (ret := (Option.some Jvm.ClassFile.FieldType.int)) (by decide +kernel) rfl hi (Nat.le_of_ble_eq_true rfl) ?_
  intro p e s m below meth c B hNs hr hnm hno
  have hN : 74 = 74 ∨ 74 = 108 := by decide
  have hS : 108 = 74 ∨ 108 = 108 := by decide
  have hM9 := hM
  refine mv_aload_n (pc := 0) B d_Model_build_0 rfl 0 rfl ?_
  refine mv_iconst (pc := 1) (v := 0) B d_Model_build_1 (by decide) ?_
  refine mv_putI (pc := 2) (ci := 11) (C := R_Model) (T := F_Model) (N := 16) B 2 rfl rfl (by decide) i_Model t_Model_ok n_Model (B.2.2.2.1 _ k_2047) rfl rfl rfl rfl d_Model_build_2 ?_
  refine mv_aload_n (pc := 5) B d_Model_build_5 rfl 0 rfl ?_
  refine mv_getI (pc := 6) (ci := 11) (C := R_Model) (T := F_Model) (N := 16) B 1 rfl rfl (by decide) i_Model (B.2.2.2.1 _ k_2046) rfl d_Model_build_6 ?_
  refine mv_istore_n (pc := 9) B d_Model_build_9 rfl (by decide) rfl ?_
  refine mv_aload_n (pc := 10) B d_Model_build_10 rfl 1 rfl ?_
  refine mv_iconst (pc := 11) (v := 0) B d_Model_build_11 (by decide) ?_
  refine mv_putI (pc := 12) (ci := 11) (C := R_Model) (T := F_Model) (N := 16) B 1 rfl rfl (by decide) i_Model t_Model_ok n_Model (B.2.2.2.1 _ k_2046) rfl rfl rfl rfl d_Model_build_12 ?_
  refine mv_gen (fun S15 eS15 => ?_)
  have hF15 : FD σ S15 := by rw [eS15]; exact FD.si (FD.si Fx.rf (Or.inr rfl)) (Or.inl rfl)
  have hM := hM.fd hF15 hN
  have x15 : mv_i S15 70 1 = 0 := by rw [eS15, mv_si_s]
  have y15 : mv_i S15 70 2 = 0 := by rw [eS15, mv_si_o _ _ (by omega), mv_si_s]
  have a15 : mv_a S15 71 = mv_a σ 71 := by rw [eS15]; rfl
  have c15 : ck S15 k9 = ck σ k9 := by rw [eS15]; rfl
  have b15 : byt7 S15 := by rw [eS15]; exact hb7
  have k15 : BMF 74 σ S15 := ⟨by rw [eS15]; rfl, by rw [eS15, mv_si_o _ _ (by omega), mv_si_o _ _ (by omega)], fun k _ => by rw [eS15, mv_si_o _ _ (by omega), mv_si_o _ _ (by omega)], fun o _ _ => by rw [eS15]; rfl⟩
  have r15 : RKp 74 σ S15 := by rw [eS15]; exact (RKp.rf.si (by decide) hN).si (by decide) hN
  clear eS15
  refine mv_aload_n (pc := 15) B d_Model_build_15 rfl 1 rfl ?_
  refine mv_getR (pc := 16) (ci := 11) (C := R_Model) (T := F_Model) (N := 16) B 10 rfl rfl (by decide) i_Model (B.2.2.2.1 _ k_2055) rfl hM.2.2.1 d_Model_build_16 ?_
  refine mv_aload_n (pc := 19) B d_Model_build_19 rfl 1 rfl ?_
  refine mv_getR (pc := 20) (ci := 11) (C := R_Model) (T := F_Model) (N := 16) B 0 rfl rfl (by decide) i_Model (B.2.2.2.1 _ k_2045) rfl (hM.1 _ 0 _ rfl) d_Model_build_20 ?_
  refine mv_iload_n (pc := 23) B d_Model_build_23 rfl 0 rfl ?_
  refine mv_callVWi (pc := 24) (n := 2) (ci := 12) (C := R_Book) B (mK_ok sk sv) hNs rfl rfl (c_kz_Book_read_1_y l hi _ _ k9 (by rw [mv_si_o _ _ (by omega)]; exact hz) hk hM.1 b15) rfl (ma_goodc kc_Book_read_1) (B.2.2.2.1 _ k_2106) (B.2.2.2.1 _ k_2107) (B.2.2.2.1 _ k_2108) (B.2.2.2.1 _ k_13) ⟨by decide +kernel, by decide +kernel, by decide +kernel⟩ rfl d_Model_build_24 rfl (Nat.le_of_ble_eq_true rfl) ⟨by decide, by decide⟩ ⟨by decide, by decide⟩ ⟨by decide, by decide⟩ (mv_noH hno _) (fun v24 σ24 h24 => ?_)
  obtain ⟨f24, u24, x24, z24⟩ := h24
  rw [c15] at x24 z24
  have r24 : RKp 74 σ σ24 := r15.bf f24 (by decide)
  have hmm : MM σ σ24 := (hF15.mm.sr (o := 108) (k := 1) (x := some 71) (by omega)).tr (Fx.mm f24 (fun o k z => by omega) (fun o k z => by omega) (fun o k z => by omega) (fun o z => by omega))
  have z1 : mv_i σ24 70 1 = 0 := (f24.1 70 1 (by omega)).trans x15
  have y24 : mv_i σ24 70 2 = 0 := (f24.1 70 2 (by omega)).trans y15
  have a24 : mv_a σ24 71 = mv_a σ 71 := (funext fun k => f24.2.2.2.1 71 k (by omega)).trans a15
  have k24 : BMF 74 σ σ24 := k15.bf f24 (by decide)
  have hM : MI 74 108 σ24 := ⟨by rw [f24.2.2.1]; exact mh_sr hM.1 rfl, by rw [f24.2.2.1]; show mv_u (mv_r S15) 108 1 (some 71) 70 9 = _; rw [mv_u_ne _ _ (by omega)]; exact hM.2.1, by rw [f24.2.2.1]; show mv_u (mv_r S15) 108 1 (some 71) 70 10 = _; rw [mv_u_ne _ _ (by omega)]; exact hM.2.2.1, hM.2.2.2.fr (fun j hj => f24.1 _ _ (by omega)) (fun o j h1 h2 => f24.2.2.2.1 _ _ (by omega))⟩
  refine mv_if_ne (pc := 27) (tgt := 86) B d_Model_build_27 rfl (fun h27 => ?_) (fun h27 => ?_)
  · skip
    refine mv_aload_n (pc := 86) B d_Model_build_86 rfl 1 rfl ?_
    refine mv_getR (pc := 87) (ci := 11) (C := R_Model) (T := F_Model) (N := 16) B 9 rfl rfl (by decide) i_Model (B.2.2.2.1 _ k_2054) rfl hM.2.1 d_Model_build_87 ?_
    refine mv_astore_n (pc := 90) B d_Model_build_90 rfl (by decide) rfl ?_
    refine mv_aload_n (pc := 91) B d_Model_build_91 rfl 2 rfl ?_
    refine mv_aload_n (pc := 92) B d_Model_build_92 rfl 2 rfl ?_
    refine mv_getR (pc := 93) (ci := 11) (C := R_Model) (T := F_Model) (N := 16) B 10 rfl rfl (by decide) i_Model (B.2.2.2.1 _ k_2055) rfl hM.2.2.1 d_Model_build_93 ?_
    refine mv_putR (pc := 96) (ci := 11) (C := R_Model) (T := F_Model) (N := 16) B 9 rfl rfl (by decide) i_Model t_Model_ok n_Model (B.2.2.2.1 _ k_2054) rfl rfl d_Model_build_96 ?_
    refine mv_aload_n (pc := 99) B d_Model_build_99 rfl 2 rfl ?_
    refine mv_aload_n (pc := 100) B d_Model_build_100 rfl 0 rfl ?_
    refine mv_putR (pc := 101) (ci := 11) (C := R_Model) (T := F_Model) (N := 16) B 10 rfl rfl (by decide) i_Model t_Model_ok n_Model (B.2.2.2.1 _ k_2055) rfl rfl d_Model_build_101 ?_
    refine mv_aload_n (pc := 104) B d_Model_build_104 rfl 2 rfl ?_
    refine mv_iconst (pc := 105) (v := 0) B d_Model_build_105 (by decide) ?_
    refine mv_putI (pc := 106) (ci := 11) (C := R_Model) (T := F_Model) (N := 16) B 11 rfl rfl (by decide) i_Model t_Model_ok n_Model (B.2.2.2.1 _ k_2056) rfl rfl rfl rfl d_Model_build_106 ?_
    refine mv_gen (fun S107 eS107 => ?_)
    have hmm := bd_mm hmm eS107
    have z1 := bd_z z1 eS107
    have hM : MI 108 74 S107 := bd_sw hM (u24.resolve_left h27).2 eS107 hS
    have a107 : mv_a S107 71 = mv_a σ 71 := by rw [eS107]; exact a24
    have y107 : mv_i S107 70 2 = 0 := by rw [eS107, mv_si_o _ _ (by omega)]; exact y24
    obtain ⟨-, s9, hs9, h29⟩ := x24.resolve_right (fun z => h27 z.1)
    have i107 : SRt 108 s9 S107 := h29.fr (fun k _ => by rw [eS107]; exact mv_si_o _ _ (by omega)) (fun _ _ => by rw [eS107]; rfl) (fun _ _ => by rw [eS107]; rfl) (fun _ _ _ _ => by rw [eS107]; rfl)
    have e107 : mv_i S107 70 11 = 0 := by rw [eS107, mv_si_s]
    have v24 := (x24.resolve_right (fun z => h27 z.1)).1
    have b107 : ∀ r, tTx (txT (ck σ k9) k9) = some r → RB0 108 r S107 := fun r hr => (RB0.of z24 v24 (by rw [← sOK_t hs9 hr]; exact h29) hr).fr (fun k => by rw [eS107]; exact mv_si_o _ _ (by omega)) (by rw [eS107]; rfl) (by rw [eS107]; rfl)
    have i14 : mv_i S107 70 14 = mv_i σ 70 14 := by rw [eS107, mv_si_o _ _ (by omega)]; exact r24.1 14 (by omega)
    have i15 : mv_i S107 70 15 = mv_i σ 70 15 := by rw [eS107, mv_si_o _ _ (by omega)]; exact r24.1 15 (by omega)
    clear eS107
    refine mv_aload_n (pc := 109) B d_Model_build_109 rfl 2 rfl ?_
    refine mv_callVv (pc := 110) (n := 0) (ci := 11) (C := R_Model) B (mK_ok sk sv) hNs rfl rfl (c_kz_Model_fresh l hi _) rfl (ma_goodc kc_Model_fresh) (B.2.2.2.1 _ k_2341) (B.2.2.2.1 _ k_2343) (B.2.2.2.1 _ ks_123) (B.2.2.2.1 _ k_12) ⟨by decide +kernel, by decide +kernel, by decide +kernel⟩ rfl d_Model_build_110 rfl (Nat.le_of_ble_eq_true rfl) ⟨by decide, by decide⟩ ⟨by decide, by decide⟩ ⟨by decide, by decide⟩ (mv_noH hno _) (fun σ110 h110 => ?_)
    obtain ⟨⟨h110, y110⟩, x110⟩ := h110
    have hq : QF 108 S107 σ110 := h110.qf
    have hmm := hmm.tr (hq.mm hS)
    have z1 := (hq.sz hS).trans z1
    have hM := hM.qf hq hS
    refine mv_aload_n (pc := 113) B d_Model_build_113 rfl 2 rfl ?_
    refine mv_getR (pc := 114) (ci := 11) (C := R_Model) (T := F_Model) (N := 16) B 9 rfl rfl (by decide) i_Model (B.2.2.2.1 _ k_2054) rfl hM.2.1 d_Model_build_114 ?_
    refine mv_getI (pc := 117) (ci := 12) (C := R_Book) (T := F_Book) (N := 65) B 29 rfl rfl (by decide) i_Book (B.2.2.2.1 _ k_1875) rfl d_Model_build_117 ?_
    exact mv_iret (pc := 120) B hr rfl d_Model_build_120 (Nat.le_refl _) (Nat.le_refl _) ⟨_, rfl, ⟨⟨hmm, (funext fun k => hq.2.2.2.1 71 k (by omega)).trans a107⟩, z1, Or.inr hM, Or.inr ⟨y110.trans y107, s9, hs9, (hq.1 108 29 (by omega)).trans i107.2.2.2.1, (hq.sh hS).trans e107, 108, hS, hM.2.1, i107.fr (fun k _ => hq.1 _ _ (by omega)) (fun i _ => hq.2.2.2.1 _ _ (by omega)) (fun i _ => hq.2.2.2.1 _ _ (by omega)) (fun o k ho _ => hq.2.2.2.1 _ _ (by omega))⟩, fun z => absurd ((y110.trans y107).symm.trans z) (by decide)⟩, fun _ => ⟨fun N9 e9 r hr => by rw [hM.2.1] at e9; cases e9; rw [x110]; exact (b107 r hr).fr (fun k => (mv_si_o _ _ (by omega)).trans (mv_si_o _ _ (by omega))) rfl rfl, by rw [x110]; exact (mv_si_o _ _ (by omega)).trans (mv_si_s _ _ _ _), by rw [x110]; exact mv_si_s _ _ _ _, by rw [x110]; exact ((mv_si_o _ _ (by omega)).trans (mv_si_o _ _ (by omega))).trans i14, by rw [x110]; exact ((mv_si_o _ _ (by omega)).trans (mv_si_o _ _ (by omega))).trans i15⟩, fun z => absurd ((y110.trans y107).symm.trans z) (by decide)⟩
  · skip
    refine mv_aload_n (pc := 30) B d_Model_build_30 rfl 1 rfl ?_
    refine mv_aload_n (pc := 31) B d_Model_build_31 rfl 1 rfl ?_
    refine mv_getR (pc := 32) (ci := 11) (C := R_Model) (T := F_Model) (N := 16) B 10 rfl rfl (by decide) i_Model (B.2.2.2.1 _ k_2055) rfl hM.2.2.1 d_Model_build_32 ?_
    refine mv_getI (pc := 35) (ci := 12) (C := R_Book) (T := F_Book) (N := 65) B 38 rfl rfl (by decide) i_Book (B.2.2.2.1 _ k_1886) rfl d_Model_build_35 ?_
    refine mv_putI (pc := 38) (ci := 11) (C := R_Model) (T := F_Model) (N := 16) B 3 rfl rfl (by decide) i_Model t_Model_ok n_Model (B.2.2.2.1 _ k_2048) rfl rfl rfl rfl d_Model_build_38 ?_
    refine mv_aload_n (pc := 41) B d_Model_build_41 rfl 1 rfl ?_
    refine mv_aload_n (pc := 42) B d_Model_build_42 rfl 1 rfl ?_
    refine mv_getR (pc := 43) (ci := 11) (C := R_Model) (T := F_Model) (N := 16) B 10 rfl rfl (by decide) i_Model (B.2.2.2.1 _ k_2055) rfl hM.2.2.1 d_Model_build_43 ?_
    refine mv_getI (pc := 46) (ci := 12) (C := R_Book) (T := F_Book) (N := 65) B 37 rfl rfl (by decide) i_Book (B.2.2.2.1 _ k_1884) rfl d_Model_build_46 ?_
    refine mv_putI (pc := 49) (ci := 11) (C := R_Model) (T := F_Model) (N := 16) B 4 rfl rfl (by decide) i_Model t_Model_ok n_Model (B.2.2.2.1 _ k_2049) rfl rfl rfl rfl d_Model_build_49 ?_
    refine mv_aload_n (pc := 52) B d_Model_build_52 rfl 1 rfl ?_
    refine mv_aload_n (pc := 53) B d_Model_build_53 rfl 1 rfl ?_
    refine mv_getR (pc := 54) (ci := 11) (C := R_Model) (T := F_Model) (N := 16) B 10 rfl rfl (by decide) i_Model (B.2.2.2.1 _ k_2055) rfl hM.2.2.1 d_Model_build_54 ?_
    refine mv_getI (pc := 57) (ci := 12) (C := R_Book) (T := F_Book) (N := 65) B 38 rfl rfl (by decide) i_Book (B.2.2.2.1 _ k_1886) rfl d_Model_build_57 ?_
    refine mv_bipush (pc := 60) (v := 7) B d_Model_build_60 (by decide) ?_
    refine mv_icmp_ne (pc := 62) (tgt := 75) B d_Model_build_62 rfl (fun h62 => ?_) (fun h62 => ?_)
    · skip
      refine mv_iconst (pc := 75) (v := -1) B d_Model_build_75 (by decide) ?_
      refine mv_putI (pc := 76) (ci := 11) (C := R_Model) (T := F_Model) (N := 16) B 5 rfl rfl (by decide) i_Model t_Model_ok n_Model (B.2.2.2.1 _ k_2050) rfl rfl rfl rfl d_Model_build_76 ?_
      refine mv_aload_n (pc := 79) B d_Model_build_79 rfl 1 rfl ?_
      refine mv_iconst (pc := 80) (v := 1) B d_Model_build_80 (by decide) ?_
      refine mv_putI (pc := 81) (ci := 11) (C := R_Model) (T := F_Model) (N := 16) B 2 rfl rfl (by decide) i_Model t_Model_ok n_Model (B.2.2.2.1 _ k_2047) rfl rfl rfl rfl d_Model_build_81 ?_
      refine mv_iconst (pc := 84) (v := 0) B d_Model_build_84 (by decide) ?_
      exact mv_iret (pc := 85) B hr rfl d_Model_build_85 (Nat.le_refl _) (Nat.le_refl _) ⟨_, rfl, ⟨bd_bad2 hmm a24 (QF.si (QF.si (QF.si (QF.si (Fx.rf) (by decide)) (by decide)) (by decide)) (by decide)) hM z1 hN (by rw [mv_si_s]) (x24.resolve_left (fun z => by rw [h27] at z; exact absurd z.1 (by decide))).2 k24, fun z => absurd ((mv_si_s _ _ _ _).symm.trans z) (by decide), fun _ N9 e9 => by rw [hM9.2.1] at e9; cases e9; exact (((r24.si (by decide) hN).si (by decide) hN).si (by decide) hN).si (by decide) hN⟩⟩
    · skip
      refine mv_aload_n (pc := 65) B d_Model_build_65 rfl 1 rfl ?_
      refine mv_getR (pc := 66) (ci := 11) (C := R_Model) (T := F_Model) (N := 16) B 10 rfl rfl (by decide) i_Model (B.2.2.2.1 _ k_2055) rfl hM.2.2.1 d_Model_build_66 ?_
      refine mv_getI (pc := 69) (ci := 12) (C := R_Book) (T := F_Book) (N := 65) B 39 rfl rfl (by decide) i_Book (B.2.2.2.1 _ k_1887) rfl d_Model_build_69 ?_
      refine mv_goto (pc := 72) (tgt := 76) B d_Model_build_72 rfl ?_
      refine mv_putI (pc := 76) (ci := 11) (C := R_Model) (T := F_Model) (N := 16) B 5 rfl rfl (by decide) i_Model t_Model_ok n_Model (B.2.2.2.1 _ k_2050) rfl rfl rfl rfl d_Model_build_76 ?_
      refine mv_aload_n (pc := 79) B d_Model_build_79 rfl 1 rfl ?_
      refine mv_iconst (pc := 80) (v := 1) B d_Model_build_80 (by decide) ?_
      refine mv_putI (pc := 81) (ci := 11) (C := R_Model) (T := F_Model) (N := 16) B 2 rfl rfl (by decide) i_Model t_Model_ok n_Model (B.2.2.2.1 _ k_2047) rfl rfl rfl rfl d_Model_build_81 ?_
      refine mv_iconst (pc := 84) (v := 0) B d_Model_build_84 (by decide) ?_
      exact mv_iret (pc := 85) B hr rfl d_Model_build_85 (Nat.le_refl _) (Nat.le_refl _) ⟨_, rfl, ⟨bd_bad2 hmm a24 (QF.si (QF.si (QF.si (QF.si (Fx.rf) (by decide)) (by decide)) (by decide)) (by decide)) hM z1 hN (by rw [mv_si_s]) (x24.resolve_left (fun z => by rw [h27] at z; exact absurd z.1 (by decide))).2 k24, fun z => absurd ((mv_si_s _ _ _ _).symm.trans z) (by decide), fun _ N9 e9 => by rw [hM9.2.1] at e9; cases e9; exact (((r24.si (by decide) hN).si (by decide) hN).si (by decide) hN).si (by decide) hN⟩⟩
set_option maxHeartbeats 4000000 in
set_option maxRecDepth 100000 in
theorem c_kz_Model_build_y (l : Launch) {dA : FieldType → ClassId} {D : va_G} {al : Nat → Nat} {ext : mv_Sh} {sk sv : Nat → Nat} (hi : mv_inj (mg dA D al ext)) (σ : mv_H) (hM : MI 108 74 σ) (k9 : Nat) (hz : (mv_i σ 70 1).toInt = k9) (hk : k9 ≤ 10240) (hb7 : byt7 σ) : mv_C l y_Model_build (Cond.code y_Model_build b_Model_build 3 (Option.some Jvm.ClassFile.FieldType.int) :: ma) ({ frames := 1085, cells := 0, slots := 0, locals := 65179 }) (mg dA D al ext) (mK sk sv) [.ref (al 70)] σ (mv_Ri (fun v σ1 => (M7 σ σ1 ∧ mv_i σ1 70 1 = 0 ∧ (MI 108 74 σ1 ∨ MI 74 108 σ1) ∧ BM (txT (ck σ k9) k9) v σ1 ∧ (mv_i σ1 70 2 = 1 → BMF 108 σ σ1)) ∧ BZw (txT (ck σ k9) k9) σ σ1)) := by
  refine mv_C.ofV (cc := b_Model_build) (nL := 3) (ret := (Option.some Jvm.ClassFile.FieldType.int)) (by decide +kernel) rfl hi (Nat.le_of_ble_eq_true rfl) ?_
  intro p e s m below meth c B hNs hr hnm hno
  have hN : 108 = 74 ∨ 108 = 108 := by decide
  have hS : 74 = 74 ∨ 74 = 108 := by decide
  have hM9 := hM
  refine mv_aload_n (pc := 0) B d_Model_build_0 rfl 0 rfl ?_
  refine mv_iconst (pc := 1) (v := 0) B d_Model_build_1 (by decide) ?_
  refine mv_putI (pc := 2) (ci := 11) (C := R_Model) (T := F_Model) (N := 16) B 2 rfl rfl (by decide) i_Model t_Model_ok n_Model (B.2.2.2.1 _ k_2047) rfl rfl rfl rfl d_Model_build_2 ?_
  refine mv_aload_n (pc := 5) B d_Model_build_5 rfl 0 rfl ?_
  refine mv_getI (pc := 6) (ci := 11) (C := R_Model) (T := F_Model) (N := 16) B 1 rfl rfl (by decide) i_Model (B.2.2.2.1 _ k_2046) rfl d_Model_build_6 ?_
  refine mv_istore_n (pc := 9) B d_Model_build_9 rfl (by decide) rfl ?_
  refine mv_aload_n (pc := 10) B d_Model_build_10 rfl 1 rfl ?_
  refine mv_iconst (pc := 11) (v := 0) B d_Model_build_11 (by decide) ?_
  refine mv_putI (pc := 12) (ci := 11) (C := R_Model) (T := F_Model) (N := 16) B 1 rfl rfl (by decide) i_Model t_Model_ok n_Model (B.2.2.2.1 _ k_2046) rfl rfl rfl rfl d_Model_build_12 ?_
  refine mv_gen (fun S15 eS15 => ?_)
  have hF15 : FD σ S15 := by rw [eS15]; exact FD.si (FD.si Fx.rf (Or.inr rfl)) (Or.inl rfl)
  have hM := hM.fd hF15 hN
  have x15 : mv_i S15 70 1 = 0 := by rw [eS15, mv_si_s]
  have y15 : mv_i S15 70 2 = 0 := by rw [eS15, mv_si_o _ _ (by omega), mv_si_s]
  have a15 : mv_a S15 71 = mv_a σ 71 := by rw [eS15]; rfl
  have c15 : ck S15 k9 = ck σ k9 := by rw [eS15]; rfl
  have b15 : byt7 S15 := by rw [eS15]; exact hb7
  have k15 : BMF 108 σ S15 := ⟨by rw [eS15]; rfl, by rw [eS15, mv_si_o _ _ (by omega), mv_si_o _ _ (by omega)], fun k _ => by rw [eS15, mv_si_o _ _ (by omega), mv_si_o _ _ (by omega)], fun o _ _ => by rw [eS15]; rfl⟩
  have r15 : RKp 108 σ S15 := by rw [eS15]; exact (RKp.rf.si (by decide) hN).si (by decide) hN
  clear eS15
  refine mv_aload_n (pc := 15) B d_Model_build_15 rfl 1 rfl ?_
  refine mv_getR (pc := 16) (ci := 11) (C := R_Model) (T := F_Model) (N := 16) B 10 rfl rfl (by decide) i_Model (B.2.2.2.1 _ k_2055) rfl hM.2.2.1 d_Model_build_16 ?_
  refine mv_aload_n (pc := 19) B d_Model_build_19 rfl 1 rfl ?_
  refine mv_getR (pc := 20) (ci := 11) (C := R_Model) (T := F_Model) (N := 16) B 0 rfl rfl (by decide) i_Model (B.2.2.2.1 _ k_2045) rfl (hM.1 _ 0 _ rfl) d_Model_build_20 ?_
  refine mv_iload_n (pc := 23) B d_Model_build_23 rfl 0 rfl ?_
  refine mv_callVWi (pc := 24) (n := 2) (ci := 12) (C := R_Book) B (mK_ok sk sv) hNs rfl rfl (c_kz_Book_read_1_x l hi _ _ k9 (by rw [mv_si_o _ _ (by omega)]; exact hz) hk hM.1 b15) rfl (ma_goodc kc_Book_read_1) (B.2.2.2.1 _ k_2106) (B.2.2.2.1 _ k_2107) (B.2.2.2.1 _ k_2108) (B.2.2.2.1 _ k_13) ⟨by decide +kernel, by decide +kernel, by decide +kernel⟩ rfl d_Model_build_24 rfl (Nat.le_of_ble_eq_true rfl) ⟨by decide, by decide⟩ ⟨by decide, by decide⟩ ⟨by decide, by decide⟩ (mv_noH hno _) (fun v24 σ24 h24 => ?_)
  obtain ⟨f24, u24, x24, z24⟩ := h24
  rw [c15] at x24 z24
  have r24 : RKp 108 σ σ24 := r15.bf f24 (by decide)
  have hmm : MM σ σ24 := (hF15.mm.sr (o := 74) (k := 1) (x := some 71) (by omega)).tr (Fx.mm f24 (fun o k z => by omega) (fun o k z => by omega) (fun o k z => by omega) (fun o z => by omega))
  have z1 : mv_i σ24 70 1 = 0 := (f24.1 70 1 (by omega)).trans x15
  have y24 : mv_i σ24 70 2 = 0 := (f24.1 70 2 (by omega)).trans y15
  have a24 : mv_a σ24 71 = mv_a σ 71 := (funext fun k => f24.2.2.2.1 71 k (by omega)).trans a15
  have k24 : BMF 108 σ σ24 := k15.bf f24 (by decide)
  have hM : MI 108 74 σ24 := ⟨by rw [f24.2.2.1]; exact mh_sr hM.1 rfl, by rw [f24.2.2.1]; show mv_u (mv_r S15) 74 1 (some 71) 70 9 = _; rw [mv_u_ne _ _ (by omega)]; exact hM.2.1, by rw [f24.2.2.1]; show mv_u (mv_r S15) 74 1 (some 71) 70 10 = _; rw [mv_u_ne _ _ (by omega)]; exact hM.2.2.1, hM.2.2.2.fr (fun j hj => f24.1 _ _ (by omega)) (fun o j h1 h2 => f24.2.2.2.1 _ _ (by omega))⟩
  refine mv_if_ne (pc := 27) (tgt := 86) B d_Model_build_27 rfl (fun h27 => ?_) (fun h27 => ?_)
  · skip
    refine mv_aload_n (pc := 86) B d_Model_build_86 rfl 1 rfl ?_
    refine mv_getR (pc := 87) (ci := 11) (C := R_Model) (T := F_Model) (N := 16) B 9 rfl rfl (by decide) i_Model (B.2.2.2.1 _ k_2054) rfl hM.2.1 d_Model_build_87 ?_
    refine mv_astore_n (pc := 90) B d_Model_build_90 rfl (by decide) rfl ?_
    refine mv_aload_n (pc := 91) B d_Model_build_91 rfl 2 rfl ?_
    refine mv_aload_n (pc := 92) B d_Model_build_92 rfl 2 rfl ?_
    refine mv_getR (pc := 93) (ci := 11) (C := R_Model) (T := F_Model) (N := 16) B 10 rfl rfl (by decide) i_Model (B.2.2.2.1 _ k_2055) rfl hM.2.2.1 d_Model_build_93 ?_
    refine mv_putR (pc := 96) (ci := 11) (C := R_Model) (T := F_Model) (N := 16) B 9 rfl rfl (by decide) i_Model t_Model_ok n_Model (B.2.2.2.1 _ k_2054) rfl rfl d_Model_build_96 ?_
    refine mv_aload_n (pc := 99) B d_Model_build_99 rfl 2 rfl ?_
    refine mv_aload_n (pc := 100) B d_Model_build_100 rfl 0 rfl ?_
    refine mv_putR (pc := 101) (ci := 11) (C := R_Model) (T := F_Model) (N := 16) B 10 rfl rfl (by decide) i_Model t_Model_ok n_Model (B.2.2.2.1 _ k_2055) rfl rfl d_Model_build_101 ?_
    refine mv_aload_n (pc := 104) B d_Model_build_104 rfl 2 rfl ?_
    refine mv_iconst (pc := 105) (v := 0) B d_Model_build_105 (by decide) ?_
    refine mv_putI (pc := 106) (ci := 11) (C := R_Model) (T := F_Model) (N := 16) B 11 rfl rfl (by decide) i_Model t_Model_ok n_Model (B.2.2.2.1 _ k_2056) rfl rfl rfl rfl d_Model_build_106 ?_
    refine mv_gen (fun S107 eS107 => ?_)
    have hmm := bd_mm hmm eS107
    have z1 := bd_z z1 eS107
    have hM : MI 74 108 S107 := bd_sw hM (u24.resolve_left h27).2 eS107 hS
    have a107 : mv_a S107 71 = mv_a σ 71 := by rw [eS107]; exact a24
    have y107 : mv_i S107 70 2 = 0 := by rw [eS107, mv_si_o _ _ (by omega)]; exact y24
    obtain ⟨-, s9, hs9, h29⟩ := x24.resolve_right (fun z => h27 z.1)
    have i107 : SRt 74 s9 S107 := h29.fr (fun k _ => by rw [eS107]; exact mv_si_o _ _ (by omega)) (fun _ _ => by rw [eS107]; rfl) (fun _ _ => by rw [eS107]; rfl) (fun _ _ _ _ => by rw [eS107]; rfl)
    have e107 : mv_i S107 70 11 = 0 := by rw [eS107, mv_si_s]
    have v24 := (x24.resolve_right (fun z => h27 z.1)).1
    have b107 : ∀ r, tTx (txT (ck σ k9) k9) = some r → RB0 74 r S107 := fun r hr => (RB0.of z24 v24 (by rw [← sOK_t hs9 hr]; exact h29) hr).fr (fun k => by rw [eS107]; exact mv_si_o _ _ (by omega)) (by rw [eS107]; rfl) (by rw [eS107]; rfl)
    have i14 : mv_i S107 70 14 = mv_i σ 70 14 := by rw [eS107, mv_si_o _ _ (by omega)]; exact r24.1 14 (by omega)
    have i15 : mv_i S107 70 15 = mv_i σ 70 15 := by rw [eS107, mv_si_o _ _ (by omega)]; exact r24.1 15 (by omega)
    clear eS107
    refine mv_aload_n (pc := 109) B d_Model_build_109 rfl 2 rfl ?_
    refine mv_callVv (pc := 110) (n := 0) (ci := 11) (C := R_Model) B (mK_ok sk sv) hNs rfl rfl (c_kz_Model_fresh l hi _) rfl (ma_goodc kc_Model_fresh) (B.2.2.2.1 _ k_2341) (B.2.2.2.1 _ k_2343) (B.2.2.2.1 _ ks_123) (B.2.2.2.1 _ k_12) ⟨by decide +kernel, by decide +kernel, by decide +kernel⟩ rfl d_Model_build_110 rfl (Nat.le_of_ble_eq_true rfl) ⟨by decide, by decide⟩ ⟨by decide, by decide⟩ ⟨by decide, by decide⟩ (mv_noH hno _) (fun σ110 h110 => ?_)
    obtain ⟨⟨h110, y110⟩, x110⟩ := h110
    have hq : QF 74 S107 σ110 := h110.qf
    have hmm := hmm.tr (hq.mm hS)
    have z1 := (hq.sz hS).trans z1
    have hM := hM.qf hq hS
    refine mv_aload_n (pc := 113) B d_Model_build_113 rfl 2 rfl ?_
    refine mv_getR (pc := 114) (ci := 11) (C := R_Model) (T := F_Model) (N := 16) B 9 rfl rfl (by decide) i_Model (B.2.2.2.1 _ k_2054) rfl hM.2.1 d_Model_build_114 ?_
    refine mv_getI (pc := 117) (ci := 12) (C := R_Book) (T := F_Book) (N := 65) B 29 rfl rfl (by decide) i_Book (B.2.2.2.1 _ k_1875) rfl d_Model_build_117 ?_
    exact mv_iret (pc := 120) B hr rfl d_Model_build_120 (Nat.le_refl _) (Nat.le_refl _) ⟨_, rfl, ⟨⟨hmm, (funext fun k => hq.2.2.2.1 71 k (by omega)).trans a107⟩, z1, Or.inr hM, Or.inr ⟨y110.trans y107, s9, hs9, (hq.1 74 29 (by omega)).trans i107.2.2.2.1, (hq.sh hS).trans e107, 74, hS, hM.2.1, i107.fr (fun k _ => hq.1 _ _ (by omega)) (fun i _ => hq.2.2.2.1 _ _ (by omega)) (fun i _ => hq.2.2.2.1 _ _ (by omega)) (fun o k ho _ => hq.2.2.2.1 _ _ (by omega))⟩, fun z => absurd ((y110.trans y107).symm.trans z) (by decide)⟩, fun _ => ⟨fun N9 e9 r hr => by rw [hM.2.1] at e9; cases e9; rw [x110]; exact (b107 r hr).fr (fun k => (mv_si_o _ _ (by omega)).trans (mv_si_o _ _ (by omega))) rfl rfl, by rw [x110]; exact (mv_si_o _ _ (by omega)).trans (mv_si_s _ _ _ _), by rw [x110]; exact mv_si_s _ _ _ _, by rw [x110]; exact ((mv_si_o _ _ (by omega)).trans (mv_si_o _ _ (by omega))).trans i14, by rw [x110]; exact ((mv_si_o _ _ (by omega)).trans (mv_si_o _ _ (by omega))).trans i15⟩, fun z => absurd ((y110.trans y107).symm.trans z) (by decide)⟩
  · skip
    refine mv_aload_n (pc := 30) B d_Model_build_30 rfl 1 rfl ?_
    refine mv_aload_n (pc := 31) B d_Model_build_31 rfl 1 rfl ?_
    refine mv_getR (pc := 32) (ci := 11) (C := R_Model) (T := F_Model) (N := 16) B 10 rfl rfl (by decide) i_Model (B.2.2.2.1 _ k_2055) rfl hM.2.2.1 d_Model_build_32 ?_
    refine mv_getI (pc := 35) (ci := 12) (C := R_Book) (T := F_Book) (N := 65) B 38 rfl rfl (by decide) i_Book (B.2.2.2.1 _ k_1886) rfl d_Model_build_35 ?_
    refine mv_putI (pc := 38) (ci := 11) (C := R_Model) (T := F_Model) (N := 16) B 3 rfl rfl (by decide) i_Model t_Model_ok n_Model (B.2.2.2.1 _ k_2048) rfl rfl rfl rfl d_Model_build_38 ?_
    refine mv_aload_n (pc := 41) B d_Model_build_41 rfl 1 rfl ?_
    refine mv_aload_n (pc := 42) B d_Model_build_42 rfl 1 rfl ?_
    refine mv_getR (pc := 43) (ci := 11) (C := R_Model) (T := F_Model) (N := 16) B 10 rfl rfl (by decide) i_Model (B.2.2.2.1 _ k_2055) rfl hM.2.2.1 d_Model_build_43 ?_
    refine mv_getI (pc := 46) (ci := 12) (C := R_Book) (T := F_Book) (N := 65) B 37 rfl rfl (by decide) i_Book (B.2.2.2.1 _ k_1884) rfl d_Model_build_46 ?_
    refine mv_putI (pc := 49) (ci := 11) (C := R_Model) (T := F_Model) (N := 16) B 4 rfl rfl (by decide) i_Model t_Model_ok n_Model (B.2.2.2.1 _ k_2049) rfl rfl rfl rfl d_Model_build_49 ?_
    refine mv_aload_n (pc := 52) B d_Model_build_52 rfl 1 rfl ?_
    refine mv_aload_n (pc := 53) B d_Model_build_53 rfl 1 rfl ?_
    refine mv_getR (pc := 54) (ci := 11) (C := R_Model) (T := F_Model) (N := 16) B 10 rfl rfl (by decide) i_Model (B.2.2.2.1 _ k_2055) rfl hM.2.2.1 d_Model_build_54 ?_
    refine mv_getI (pc := 57) (ci := 12) (C := R_Book) (T := F_Book) (N := 65) B 38 rfl rfl (by decide) i_Book (B.2.2.2.1 _ k_1886) rfl d_Model_build_57 ?_
    refine mv_bipush (pc := 60) (v := 7) B d_Model_build_60 (by decide) ?_
    refine mv_icmp_ne (pc := 62) (tgt := 75) B d_Model_build_62 rfl (fun h62 => ?_) (fun h62 => ?_)
    · skip
      refine mv_iconst (pc := 75) (v := -1) B d_Model_build_75 (by decide) ?_
      refine mv_putI (pc := 76) (ci := 11) (C := R_Model) (T := F_Model) (N := 16) B 5 rfl rfl (by decide) i_Model t_Model_ok n_Model (B.2.2.2.1 _ k_2050) rfl rfl rfl rfl d_Model_build_76 ?_
      refine mv_aload_n (pc := 79) B d_Model_build_79 rfl 1 rfl ?_
      refine mv_iconst (pc := 80) (v := 1) B d_Model_build_80 (by decide) ?_
      refine mv_putI (pc := 81) (ci := 11) (C := R_Model) (T := F_Model) (N := 16) B 2 rfl rfl (by decide) i_Model t_Model_ok n_Model (B.2.2.2.1 _ k_2047) rfl rfl rfl rfl d_Model_build_81 ?_
      refine mv_iconst (pc := 84) (v := 0) B d_Model_build_84 (by decide) ?_
      exact mv_iret (pc := 85) B hr rfl d_Model_build_85 (Nat.le_refl _) (Nat.le_refl _) ⟨_, rfl, ⟨bd_bad2 hmm a24 (QF.si (QF.si (QF.si (QF.si (Fx.rf) (by decide)) (by decide)) (by decide)) (by decide)) hM z1 hN (by rw [mv_si_s]) (x24.resolve_left (fun z => by rw [h27] at z; exact absurd z.1 (by decide))).2 k24, fun z => absurd ((mv_si_s _ _ _ _).symm.trans z) (by decide), fun _ N9 e9 => by rw [hM9.2.1] at e9; cases e9; exact (((r24.si (by decide) hN).si (by decide) hN).si (by decide) hN).si (by decide) hN⟩⟩
    · skip
      refine mv_aload_n (pc := 65) B d_Model_build_65 rfl 1 rfl ?_
      refine mv_getR (pc := 66) (ci := 11) (C := R_Model) (T := F_Model) (N := 16) B 10 rfl rfl (by decide) i_Model (B.2.2.2.1 _ k_2055) rfl hM.2.2.1 d_Model_build_66 ?_
      refine mv_getI (pc := 69) (ci := 12) (C := R_Book) (T := F_Book) (N := 65) B 39 rfl rfl (by decide) i_Book (B.2.2.2.1 _ k_1887) rfl d_Model_build_69 ?_
      refine mv_goto (pc := 72) (tgt := 76) B d_Model_build_72 rfl ?_
      refine mv_putI (pc := 76) (ci := 11) (C := R_Model) (T := F_Model) (N := 16) B 5 rfl rfl (by decide) i_Model t_Model_ok n_Model (B.2.2.2.1 _ k_2050) rfl rfl rfl rfl d_Model_build_76 ?_
      refine mv_aload_n (pc := 79) B d_Model_build_79 rfl 1 rfl ?_
      refine mv_iconst (pc := 80) (v := 1) B d_Model_build_80 (by decide) ?_
      refine mv_putI (pc := 81) (ci := 11) (C := R_Model) (T := F_Model) (N := 16) B 2 rfl rfl (by decide) i_Model t_Model_ok n_Model (B.2.2.2.1 _ k_2047) rfl rfl rfl rfl d_Model_build_81 ?_
      refine mv_iconst (pc := 84) (v := 0) B d_Model_build_84 (by decide) ?_
      exact mv_iret (pc := 85) B hr rfl d_Model_build_85 (Nat.le_refl _) (Nat.le_refl _) ⟨_, rfl, ⟨bd_bad2 hmm a24 (QF.si (QF.si (QF.si (QF.si (Fx.rf) (by decide)) (by decide)) (by decide)) (by decide)) hM z1 hN (by rw [mv_si_s]) (x24.resolve_left (fun z => by rw [h27] at z; exact absurd z.1 (by decide))).2 k24, fun z => absurd ((mv_si_s _ _ _ _).symm.trans z) (by decide), fun _ N9 e9 => by rw [hM9.2.1] at e9; cases e9; exact (((r24.si (by decide) hN).si (by decide) hN).si (by decide) hN).si (by decide) hN⟩⟩
