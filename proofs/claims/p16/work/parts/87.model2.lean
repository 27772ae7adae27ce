/-! the reference's methods -/
/-- outside the reference's cells nothing changes -/
def MM (σ τ : mv_H) : Prop := ∀ o : Nat, (o < 70 ∨ 142 ≤ o) → (∀ k, mv_i τ o k = mv_i σ o k) ∧ (∀ k, mv_l τ o k = mv_l σ o k) ∧ (∀ k, mv_r τ o k = mv_r σ o k) ∧ (∀ j, mv_a τ o j = mv_a σ o j) ∧ mv_b τ o = mv_b σ o
theorem MM.rf {σ : mv_H} : MM σ σ := fun _ _ => ⟨fun _ => rfl, fun _ => rfl, fun _ => rfl, fun _ => rfl, rfl⟩
theorem MM.tr {σ τ υ : mv_H} (h : MM σ τ) (g : MM τ υ) : MM σ υ := fun o ho => by
  obtain ⟨a, b, c, d, f⟩ := h o ho
  obtain ⟨a', b', c', d', f'⟩ := g o ho
  exact ⟨fun k => (a' k).trans (a k), fun k => (b' k).trans (b k), fun k => (c' k).trans (c k), fun k => (d' k).trans (d k), f'.trans f⟩
theorem MM.sr {σ τ : mv_H} {o k : Nat} {x : Option Nat} (h : MM σ τ) (ho : 70 ≤ o ∧ o < 142) : MM σ (mv_sr τ o k x) := fun o' h' => by
  obtain ⟨a, b, c, d, f⟩ := h o' h'
  exact ⟨a, b, fun k' => (mv_u_ne _ _ (fun z => by omega)).trans (c k'), d, f⟩
theorem Fx.mm {pi pl pa : Nat → Nat → Prop} {pb : Nat → Prop} {σ τ : mv_H} (h : Fx pi pl pa pb σ τ) (h1 : ∀ o k, pi o k → 70 ≤ o ∧ o < 142) (h2 : ∀ o k, pl o k → 70 ≤ o ∧ o < 142) (h3 : ∀ o k, pa o k → 70 ≤ o ∧ o < 142) (h4 : ∀ o, pb o → 70 ≤ o ∧ o < 142) : MM σ τ := fun o ho =>
  ⟨fun k => h.1 o k (fun z => by have := h1 o k z; omega), fun k => h.2.1 o k (fun z => by have := h2 o k z; omega), fun k => by rw [h.2.2.1], fun k => h.2.2.2.1 o k (fun z => by have := h3 o k z; omega), h.2.2.2.2 o (fun z => by have := h4 o z; omega)⟩
/-- what a call of the reference changes, its now-book is N -/
def QF (N : Nat) : mv_H → mv_H → Prop := Fx (fun o k => (o = 70 ∧ ¬ k = 1 ∧ ¬ k = 11) ∨ (o = N ∧ (k = 53 ∨ k = 61 ∨ k = 62 ∨ k = 63))) (fun o k => o = N ∧ (k = 52 ∨ k = 64)) (fun o _ => o = 72 ∨ o = 73 ∨ (N + 29 ≤ o ∧ o ≤ N + 31)) (fun o => o = N + 26 ∨ o = N + 27 ∨ o = N + 28 ∨ o = N + 32)
theorem SM.qf {N : Nat} {σ τ : mv_H} (h : SM σ τ) : QF N σ τ := h.up (fun o k z => Or.inl z) (fun o k z => absurd z id) (fun o k z => by omega) (fun o z => absurd z id)
theorem MB.qf {N : Nat} {σ τ : mv_H} (h : MB N σ τ) : QF N σ τ := h.up (fun o k z => Or.inr z) (fun o k z => z) (fun o k z => by omega) (fun o z => z)
theorem QF.tr {N : Nat} {σ τ υ : mv_H} (h : QF N σ τ) (g : QF N τ υ) : QF N σ υ := Fx.tr h g
theorem QF.si {N k : Nat} {σ τ : mv_H} {v : Int32} (h : QF N σ τ) (hk : ¬ k = 1 ∧ ¬ k = 11) : QF N σ (mv_si τ 70 k v) := Fx.si h (Or.inl ⟨rfl, hk⟩)
theorem QF.sh {N : Nat} {σ τ : mv_H} (h : QF N σ τ) (hN : N = 74 ∨ N = 108) : mv_i τ 70 11 = mv_i σ 70 11 := h.1 _ _ (by omega)
theorem QF.sz {N : Nat} {σ τ : mv_H} (h : QF N σ τ) (hN : N = 74 ∨ N = 108) : mv_i τ 70 1 = mv_i σ 70 1 := h.1 _ _ (by omega)
theorem QF.mm {N : Nat} {σ τ : mv_H} (h : QF N σ τ) (hN : N = 74 ∨ N = 108) : MM σ τ := Fx.mm h (fun o k z => by omega) (fun o k z => by omega) (fun o k z => by omega) (fun o z => by omega)
theorem BG.fr {B : Nat} {S T : mv_H} (h : BG B S) (ei : ∀ j, (j = 17 ∨ j = 18 ∨ j = 20 ∨ j = 21 ∨ j = 29 ∨ j = 48) → mv_i T B j = mv_i S B j) (ea : ∀ o j, B + 1 ≤ o → o ≤ B + 28 → mv_a T o j = mv_a S o j) : BG B T := by
  obtain ⟨th, n, k, h1, h2, h3, h4, h5, h6, h7, h8⟩ := h
  exact ⟨th, n, k, by rw [ei 17 (by omega)]; exact h1, h2, by rw [ei 48 (by omega)]; exact h3, h4, h5.fr (ei 29 (by omega)) (ei 20 (by omega)) (fun j => ea _ _ (by omega) (by omega)), h6.fr (Nat.le_refl _) (fun o j _ _ _ => ea _ _ (by omega) (by omega)) (fun j _ => ea _ _ (by omega) (by omega)), fun t ht => (h7 t ht).fr (fun o ho => ea _ _ (by omega) (by omega)), by rw [ei 18 (by omega), ei 21 (by omega)]; exact h8⟩
/-- the reference between calls -/
def MI (N S : Nat) (σ : mv_H) : Prop := mh (mv_r σ) ∧ mv_r σ 70 9 = some N ∧ mv_r σ 70 10 = some S ∧ BG N σ
theorem MI.fr {N S : Nat} {σ τ : mv_H} (h : MI N S σ) (er : mv_r τ = mv_r σ) (ei : ∀ j, (j = 17 ∨ j = 18 ∨ j = 20 ∨ j = 21 ∨ j = 29 ∨ j = 48) → mv_i τ N j = mv_i σ N j) (ea : ∀ o j, N + 1 ≤ o → o ≤ N + 28 → mv_a τ o j = mv_a σ o j) : MI N S τ := ⟨by rw [er]; exact h.1, by rw [er]; exact h.2.1, by rw [er]; exact h.2.2.1, h.2.2.2.fr ei ea⟩
theorem MI.qf {N S : Nat} {σ τ : mv_H} (h : MI N S σ) (f : QF N σ τ) (hN : N = 74 ∨ N = 108) : MI N S τ := h.fr f.2.2.1 (fun j hj => f.1 _ _ (by omega)) (fun o j h1 h2 => f.2.2.2.1 _ _ (by omega))
/-- what feed and end change -/
def FD : mv_H → mv_H → Prop := Fx (fun o k => o = 70 ∧ (k = 1 ∨ k = 2)) (fun _ _ => False) (fun o _ => o = 71) (fun _ => False)
theorem FD.tr {σ τ υ : mv_H} (h : FD σ τ) (g : FD τ υ) : FD σ υ := Fx.tr h g
theorem FD.si {k : Nat} {σ τ : mv_H} {v : Int32} (h : FD σ τ) (hk : k = 1 ∨ k = 2) : FD σ (mv_si τ 70 k v) := Fx.si h ⟨rfl, hk⟩
theorem FD.a {k : Nat} {σ τ : mv_H} {v : Int32} (h : FD σ τ) : FD σ (mv_sa τ 71 k v) := Fx.sa h rfl
theorem FD.mm {σ τ : mv_H} (h : FD σ τ) : MM σ τ := Fx.mm h (fun o k z => by omega) (fun o k z => absurd z id) (fun o k z => by omega) (fun o z => absurd z id)
theorem MI.fd {N S : Nat} {σ τ : mv_H} (h : MI N S σ) (f : FD σ τ) (hN : N = 74 ∨ N = 108) : MI N S τ := h.fr f.2.2.1 (fun j hj => f.1 _ _ (by omega)) (fun o j h1 h2 => f.2.2.2.1 _ _ (by omega))
/-- what ship changes -/
def HFm : mv_H → mv_H → Prop := Fx (fun o k => o = 70 ∧ ¬ k = 1) (fun _ _ => False) (fun o _ => o = 72 ∨ o = 73) (fun _ => False)
theorem HFm.si {k : Nat} {σ τ : mv_H} {v : Int32} (h : HFm σ τ) (hk : ¬ k = 1) : HFm σ (mv_si τ 70 k v) := Fx.si h ⟨rfl, hk⟩
theorem HFm.x {k : Nat} {σ τ : mv_H} {v : Int32} (h : HFm σ τ) : HFm σ (mv_sa τ 72 k v) := Fx.sa h (Or.inl rfl)
theorem HFm.m {k : Nat} {σ τ : mv_H} {v : Int32} (h : HFm σ τ) : HFm σ (mv_sa τ 73 k v) := Fx.sa h (Or.inr rfl)
theorem HFm.mm {σ τ : mv_H} (h : HFm σ τ) : MM σ τ := Fx.mm h (fun o k z => by omega) (fun o k z => absurd z id) (fun o k z => by omega) (fun o z => absurd z id)
theorem MI.hf {N S : Nat} {σ τ : mv_H} (h : MI N S σ) (f : HFm σ τ) (hN : N = 74 ∨ N = 108) : MI N S τ := h.fr f.2.2.1 (fun j hj => f.1 _ _ (by omega)) (fun o j h1 h2 => f.2.2.2.1 _ _ (by omega))
/-- a place that is there -/
def TP9 (N : Nat) (σ : mv_H) (t i : Int32) : Prop := 0 ≤ t.toInt ∧ 0 ≤ i.toInt ∧ ((¬ mv_i σ 70 11 = 0 ∧ ((t = 0 ∧ i = 0) ∨ (t = 1 ∧ i.toInt < 32) ∨ (¬ t = 0 ∧ ¬ t = 1 ∧ i.toInt < 32768))) ∨ (mv_i σ 70 11 = 0 ∧ t.toInt < (mv_i σ N 17).toInt ∧ (¬ mv_a σ (N + 6) t.toNatClampNeg = 0 → i.toInt < (mv_a σ (N + 4) t.toNatClampNeg).toInt)))
theorem TP9.th {N : Nat} {σ τ : mv_H} {t i v : Int32} (h : TP9 N σ t i) (e : τ = mv_si σ 70 2 v) (hN : N = 74 ∨ N = 108) : TP9 N τ t i := by
  subst e
  unfold TP9
  rw [mv_si_o _ _ (by omega), mv_si_o _ _ (by omega)]
  exact h
/-- where it lies in the book -/
theorem TP9.in {N S : Nat} {σ : mv_H} {t i : Int32} (h : TP9 N σ t i) (hM : MI N S σ) (hz : mv_i σ 70 11 = 0) : (0 ≤ t.toInt ∧ t.toInt < 64) ∧ (¬ mv_a σ (N + 6) t.toNatClampNeg = 0 → 0 ≤ (mv_a σ (N + 5) t.toNatClampNeg).toInt ∧ (mv_a σ (N + 5) t.toNatClampNeg).toInt + i.toInt < 65536 ∧ 0 ≤ i.toInt) := by
  obtain ⟨h1, h2, h3⟩ := h
  obtain ⟨-, -, -, th, n, k, g1, g2, -, -, -, -, g7, -⟩ := hM
  rcases h3 with h3 | ⟨-, h4, h5⟩
  · exact absurd hz h3.1
  · have hc := i32_cl h1
    refine ⟨⟨h1, by omega⟩, fun z => ?_⟩
    obtain ⟨a1, -, a3⟩ := g7 t.toNatClampNeg (by omega)
    have := h5 z
    omega

def y_Model_fresh : MethodName := ⟨"MachineLoomModel", "fresh", "()V"⟩
abbrev b_Model_fresh : ByteArray := prog_14_method_25_code
theorem kc_Model_fresh : Cond.code y_Model_fresh b_Model_fresh 1 (Option.none : Option Jvm.ClassFile.FieldType) ∈ ma := ma_of (tb_10 _ (List.mem_of_getElem? (i := 184) rfl)) rfl
theorem k_2057 : (Jvm.Cond.fieldLink "MachineLoomModel" (140 : Nat) "MachineLoomModel" "steps" "I") ∈ ma := ma_of (tb_9 _ (List.mem_of_getElem? (i := 137) rfl)) rfl
theorem k_2058 : (Jvm.Cond.fieldLink "MachineLoomModel" (143 : Nat) "MachineLoomModel" "traps" "I") ∈ ma := ma_of (tb_9 _ (List.mem_of_getElem? (i := 138) rfl)) rfl
theorem d_Model_fresh_0 : decode b_Model_fresh 0 = .ok (.aload_n 0, 1) := by decide +kernel
theorem d_Model_fresh_1 : decode b_Model_fresh 1 = .ok (.iconst 0, 1) := by decide +kernel
theorem d_Model_fresh_2 : decode b_Model_fresh 2 = .ok (.putfield 140, 3) := by decide +kernel
theorem d_Model_fresh_5 : decode b_Model_fresh 5 = .ok (.aload_n 0, 1) := by decide +kernel
theorem d_Model_fresh_6 : decode b_Model_fresh 6 = .ok (.iconst 0, 1) := by decide +kernel
theorem d_Model_fresh_7 : decode b_Model_fresh 7 = .ok (.putfield 143, 3) := by decide +kernel
theorem d_Model_fresh_10 : decode b_Model_fresh 10 = .ok (.return_, 1) := by decide +kernel
set_option maxHeartbeats 4000000 in
set_option maxRecDepth 100000 in
theorem c_Model_fresh (l : Launch) {dA : FieldType → ClassId} {D : va_G} {al : Nat → Nat} {ext : mv_Sh} {sk sv : Nat → Nat} (hi : mv_inj (mg dA D al ext)) (σ : mv_H)  : mv_C l y_Model_fresh (Cond.code y_Model_fresh b_Model_fresh 1 (Option.none : Option Jvm.ClassFile.FieldType) :: ma) ({ frames := 0, cells := 0, slots := 0, locals := 0 }) (mg dA D al ext) (mK sk sv) [.ref (al 70)] σ (mv_Rv (fun σ1 => SM σ σ1)) := by
  refine mv_C.ofV (cc := b_Model_fresh) (nL := 1) (ret := (Option.none : Option Jvm.ClassFile.FieldType)) (by decide +kernel) rfl hi (Nat.le_of_ble_eq_true rfl) ?_
  intro p e s m below meth c B hNs hr hnm hno
  refine mv_aload_n (pc := 0) B d_Model_fresh_0 rfl 0 rfl ?_
  refine mv_iconst (pc := 1) (v := 0) B d_Model_fresh_1 (by decide) ?_
  refine mv_putI (pc := 2) (ci := 11) (C := R_Model) (T := F_Model) (N := 16) B 12 rfl rfl (by decide) i_Model t_Model_ok n_Model (B.2.2.2.1 _ k_2057) rfl rfl rfl rfl d_Model_fresh_2 ?_
  refine mv_aload_n (pc := 5) B d_Model_fresh_5 rfl 0 rfl ?_
  refine mv_iconst (pc := 6) (v := 0) B d_Model_fresh_6 (by decide) ?_
  refine mv_putI (pc := 7) (ci := 11) (C := R_Model) (T := F_Model) (N := 16) B 13 rfl rfl (by decide) i_Model t_Model_ok n_Model (B.2.2.2.1 _ k_2058) rfl rfl rfl rfl d_Model_fresh_7 ?_
  exact mv_vret (pc := 10) B hr d_Model_fresh_10 (Nat.le_refl _) (Nat.le_refl _) ⟨rfl, SM.si (SM.si Fx.rf (by decide)) (by decide)⟩
def y_Model_told : MethodName := ⟨"MachineLoomModel", "told", "(I)V"⟩
abbrev b_Model_told : ByteArray := prog_14_method_34_code
theorem kc_Model_told : Cond.code y_Model_told b_Model_told 2 (Option.none : Option Jvm.ClassFile.FieldType) ∈ ma := ma_of (tb_11 _ (List.mem_of_getElem? (i := 157) rfl)) rfl
theorem k_2059 : (Jvm.Cond.fieldLink "MachineLoomModel" (211 : Nat) "MachineLoomModel" "trap" "I") ∈ ma := ma_of (tb_9 _ (List.mem_of_getElem? (i := 139) rfl)) rfl
theorem d_Model_told_0 : decode b_Model_told 0 = .ok (.aload_n 0, 1) := by decide +kernel
theorem d_Model_told_1 : decode b_Model_told 1 = .ok (.iload_n 1, 1) := by decide +kernel
theorem d_Model_told_2 : decode b_Model_told 2 = .ok (.putfield 211, 3) := by decide +kernel
theorem d_Model_told_5 : decode b_Model_told 5 = .ok (.iload_n 1, 1) := by decide +kernel
theorem d_Model_told_6 : decode b_Model_told 6 = .ok (.ifCond .ne (16), 3) := by decide +kernel
theorem d_Model_told_9 : decode b_Model_told 9 = .ok (.aload_n 0, 1) := by decide +kernel
theorem d_Model_told_10 : decode b_Model_told 10 = .ok (.dup, 1) := by decide +kernel
theorem d_Model_told_11 : decode b_Model_told 11 = .ok (.getfield 140, 3) := by decide +kernel
theorem d_Model_told_14 : decode b_Model_told 14 = .ok (.iconst 1, 1) := by decide +kernel
theorem d_Model_told_15 : decode b_Model_told 15 = .ok (.iadd, 1) := by decide +kernel
theorem d_Model_told_16 : decode b_Model_told 16 = .ok (.putfield 140, 3) := by decide +kernel
theorem d_Model_told_19 : decode b_Model_told 19 = .ok (.goto (13), 3) := by decide +kernel
theorem d_Model_told_22 : decode b_Model_told 22 = .ok (.aload_n 0, 1) := by decide +kernel
theorem d_Model_told_23 : decode b_Model_told 23 = .ok (.dup, 1) := by decide +kernel
theorem d_Model_told_24 : decode b_Model_told 24 = .ok (.getfield 143, 3) := by decide +kernel
theorem d_Model_told_27 : decode b_Model_told 27 = .ok (.iconst 1, 1) := by decide +kernel
theorem d_Model_told_28 : decode b_Model_told 28 = .ok (.iadd, 1) := by decide +kernel
theorem d_Model_told_29 : decode b_Model_told 29 = .ok (.putfield 143, 3) := by decide +kernel
theorem d_Model_told_32 : decode b_Model_told 32 = .ok (.return_, 1) := by decide +kernel
set_option maxHeartbeats 4000000 in
set_option maxRecDepth 100000 in
theorem c_Model_told (l : Launch) {dA : FieldType → ClassId} {D : va_G} {al : Nat → Nat} {ext : mv_Sh} {sk sv : Nat → Nat} (hi : mv_inj (mg dA D al ext)) (σ : mv_H) (t9 : Int32) : mv_C l y_Model_told (Cond.code y_Model_told b_Model_told 2 (Option.none : Option Jvm.ClassFile.FieldType) :: ma) ({ frames := 0, cells := 0, slots := 0, locals := 0 }) (mg dA D al ext) (mK sk sv) [.ref (al 70), .int t9] σ (mv_Rv (fun σ1 => SM σ σ1)) := by
  refine mv_C.ofV (cc := b_Model_told) (nL := 2) (ret := (Option.none : Option Jvm.ClassFile.FieldType)) (by decide +kernel) rfl hi (Nat.le_of_ble_eq_true rfl) ?_
  intro p e s m below meth c B hNs hr hnm hno
  refine mv_aload_n (pc := 0) B d_Model_told_0 rfl 0 rfl ?_
  refine mv_iload_n (pc := 1) B d_Model_told_1 rfl 1 rfl ?_
  refine mv_putI (pc := 2) (ci := 11) (C := R_Model) (T := F_Model) (N := 16) B 14 rfl rfl (by decide) i_Model t_Model_ok n_Model (B.2.2.2.1 _ k_2059) rfl rfl rfl rfl d_Model_told_2 ?_
  refine mv_iload_n (pc := 5) B d_Model_told_5 rfl 1 rfl ?_
  refine mv_if_ne (pc := 6) (tgt := 22) B d_Model_told_6 rfl (fun h6 => ?_) (fun h6 => ?_)
  · skip
    refine mv_aload_n (pc := 22) B d_Model_told_22 rfl 0 rfl ?_
    refine mv_dup (pc := 23) B d_Model_told_23 rfl ?_
    refine mv_getI (pc := 24) (ci := 11) (C := R_Model) (T := F_Model) (N := 16) B 13 rfl rfl (by decide) i_Model (B.2.2.2.1 _ k_2058) rfl d_Model_told_24 ?_
    refine mv_iconst (pc := 27) (v := 1) B d_Model_told_27 (by decide) ?_
    refine mv_iadd (pc := 28) B d_Model_told_28 ?_
    refine mv_putI (pc := 29) (ci := 11) (C := R_Model) (T := F_Model) (N := 16) B 13 rfl rfl (by decide) i_Model t_Model_ok n_Model (B.2.2.2.1 _ k_2058) rfl rfl rfl rfl d_Model_told_29 ?_
    exact mv_vret (pc := 32) B hr d_Model_told_32 (Nat.le_refl _) (Nat.le_refl _) ⟨rfl, SM.si (SM.si Fx.rf (by decide)) (by decide)⟩
  · skip
    refine mv_aload_n (pc := 9) B d_Model_told_9 rfl 0 rfl ?_
    refine mv_dup (pc := 10) B d_Model_told_10 rfl ?_
    refine mv_getI (pc := 11) (ci := 11) (C := R_Model) (T := F_Model) (N := 16) B 12 rfl rfl (by decide) i_Model (B.2.2.2.1 _ k_2057) rfl d_Model_told_11 ?_
    refine mv_iconst (pc := 14) (v := 1) B d_Model_told_14 (by decide) ?_
    refine mv_iadd (pc := 15) B d_Model_told_15 ?_
    refine mv_putI (pc := 16) (ci := 11) (C := R_Model) (T := F_Model) (N := 16) B 12 rfl rfl (by decide) i_Model t_Model_ok n_Model (B.2.2.2.1 _ k_2057) rfl rfl rfl rfl d_Model_told_16 ?_
    refine mv_goto (pc := 19) (tgt := 32) B d_Model_told_19 rfl ?_
    exact mv_vret (pc := 32) B hr d_Model_told_32 (Nat.le_refl _) (Nat.le_refl _) ⟨rfl, SM.si (SM.si Fx.rf (by decide)) (by decide)⟩
def y_Model_fault : MethodName := ⟨"MachineLoomModel", "fault", "(I)I"⟩
abbrev b_Model_fault : ByteArray := prog_14_method_28_code
theorem kc_Model_fault : Cond.code y_Model_fault b_Model_fault 2 (Option.some Jvm.ClassFile.FieldType.int) ∈ ma := ma_of (tb_10 _ (List.mem_of_getElem? (i := 192) rfl)) rfl
theorem k_2047 : (Jvm.Cond.fieldLink "MachineLoomModel" (38 : Nat) "MachineLoomModel" "thrown" "I") ∈ ma := ma_of (tb_9 _ (List.mem_of_getElem? (i := 127) rfl)) rfl
theorem k_2050 : (Jvm.Cond.fieldLink "MachineLoomModel" (18 : Nat) "MachineLoomModel" "faultOther" "I") ∈ ma := ma_of (tb_9 _ (List.mem_of_getElem? (i := 130) rfl)) rfl
theorem k_2049 : (Jvm.Cond.fieldLink "MachineLoomModel" (14 : Nat) "MachineLoomModel" "faultPlace" "I") ∈ ma := ma_of (tb_9 _ (List.mem_of_getElem? (i := 129) rfl)) rfl
theorem k_2048 : (Jvm.Cond.fieldLink "MachineLoomModel" (153 : Nat) "MachineLoomModel" "faultNumber" "I") ∈ ma := ma_of (tb_9 _ (List.mem_of_getElem? (i := 128) rfl)) rfl
theorem d_Model_fault_0 : decode b_Model_fault 0 = .ok (.aload_n 0, 1) := by decide +kernel
theorem d_Model_fault_1 : decode b_Model_fault 1 = .ok (.iload_n 1, 1) := by decide +kernel
theorem d_Model_fault_2 : decode b_Model_fault 2 = .ok (.ifCond .lt (8), 3) := by decide +kernel
theorem d_Model_fault_5 : decode b_Model_fault 5 = .ok (.iload_n 1, 1) := by decide +kernel
theorem d_Model_fault_6 : decode b_Model_fault 6 = .ok (.iconst 2, 1) := by decide +kernel
theorem d_Model_fault_7 : decode b_Model_fault 7 = .ok (.if_icmp .le (7), 3) := by decide +kernel
theorem d_Model_fault_10 : decode b_Model_fault 10 = .ok (.iconst 1, 1) := by decide +kernel
theorem d_Model_fault_11 : decode b_Model_fault 11 = .ok (.goto (4), 3) := by decide +kernel
theorem d_Model_fault_14 : decode b_Model_fault 14 = .ok (.iconst 0, 1) := by decide +kernel
theorem d_Model_fault_15 : decode b_Model_fault 15 = .ok (.putfield 38, 3) := by decide +kernel
theorem d_Model_fault_18 : decode b_Model_fault 18 = .ok (.iload_n 1, 1) := by decide +kernel
theorem d_Model_fault_19 : decode b_Model_fault 19 = .ok (.ifCond .ne (10), 3) := by decide +kernel
theorem d_Model_fault_22 : decode b_Model_fault 22 = .ok (.aload_n 0, 1) := by decide +kernel
theorem d_Model_fault_23 : decode b_Model_fault 23 = .ok (.getfield 153, 3) := by decide +kernel
theorem d_Model_fault_26 : decode b_Model_fault 26 = .ok (.goto (28), 3) := by decide +kernel
theorem d_Model_fault_29 : decode b_Model_fault 29 = .ok (.iload_n 1, 1) := by decide +kernel
theorem d_Model_fault_30 : decode b_Model_fault 30 = .ok (.iconst 1, 1) := by decide +kernel
theorem d_Model_fault_31 : decode b_Model_fault 31 = .ok (.if_icmp .ne (10), 3) := by decide +kernel
theorem d_Model_fault_34 : decode b_Model_fault 34 = .ok (.aload_n 0, 1) := by decide +kernel
theorem d_Model_fault_35 : decode b_Model_fault 35 = .ok (.getfield 14, 3) := by decide +kernel
theorem d_Model_fault_38 : decode b_Model_fault 38 = .ok (.goto (16), 3) := by decide +kernel
theorem d_Model_fault_41 : decode b_Model_fault 41 = .ok (.iload_n 1, 1) := by decide +kernel
theorem d_Model_fault_42 : decode b_Model_fault 42 = .ok (.iconst 2, 1) := by decide +kernel
theorem d_Model_fault_43 : decode b_Model_fault 43 = .ok (.if_icmp .ne (10), 3) := by decide +kernel
theorem d_Model_fault_46 : decode b_Model_fault 46 = .ok (.aload_n 0, 1) := by decide +kernel
theorem d_Model_fault_47 : decode b_Model_fault 47 = .ok (.getfield 18, 3) := by decide +kernel
theorem d_Model_fault_50 : decode b_Model_fault 50 = .ok (.goto (4), 3) := by decide +kernel
theorem d_Model_fault_53 : decode b_Model_fault 53 = .ok (.iconst 0, 1) := by decide +kernel
theorem d_Model_fault_54 : decode b_Model_fault 54 = .ok (.ireturn, 1) := by decide +kernel
set_option maxHeartbeats 4000000 in
set_option maxRecDepth 100000 in
theorem c_Model_fault (l : Launch) {dA : FieldType → ClassId} {D : va_G} {al : Nat → Nat} {ext : mv_Sh} {sk sv : Nat → Nat} (hi : mv_inj (mg dA D al ext)) (σ : mv_H) (n9 : Int32) : mv_C l y_Model_fault (Cond.code y_Model_fault b_Model_fault 2 (Option.some Jvm.ClassFile.FieldType.int) :: ma) ({ frames := 0, cells := 0, slots := 0, locals := 0 }) (mg dA D al ext) (mK sk sv) [.ref (al 70), .int n9] σ (mv_Ri (fun v σ1 => SM σ σ1)) := by
  refine mv_C.ofV (cc := b_Model_fault) (nL := 2) (ret := (Option.some Jvm.ClassFile.FieldType.int)) (by decide +kernel) rfl hi (Nat.le_of_ble_eq_true rfl) ?_
  intro p e s m below meth c B hNs hr hnm hno
  refine mv_aload_n (pc := 0) B d_Model_fault_0 rfl 0 rfl ?_
  refine mv_iload_n (pc := 1) B d_Model_fault_1 rfl 1 rfl ?_
  refine mv_if_lt (pc := 2) (tgt := 10) B d_Model_fault_2 rfl (fun h2 => ?_) (fun h2 => ?_)
  · skip
    refine mv_iconst (pc := 10) (v := 1) B d_Model_fault_10 (by decide) ?_
    refine mv_goto (pc := 11) (tgt := 15) B d_Model_fault_11 rfl ?_
    refine mv_putI (pc := 15) (ci := 11) (C := R_Model) (T := F_Model) (N := 16) B 2 rfl rfl (by decide) i_Model t_Model_ok n_Model (B.2.2.2.1 _ k_2047) rfl rfl rfl rfl d_Model_fault_15 ?_
    refine mv_iload_n (pc := 18) B d_Model_fault_18 rfl 1 rfl ?_
    refine mv_if_ne (pc := 19) (tgt := 29) B d_Model_fault_19 rfl (fun h19 => ?_) (fun h19 => ?_)
    · skip
      refine mv_iload_n (pc := 29) B d_Model_fault_29 rfl 1 rfl ?_
      refine mv_iconst (pc := 30) (v := 1) B d_Model_fault_30 (by decide) ?_
      refine mv_icmp_ne (pc := 31) (tgt := 41) B d_Model_fault_31 rfl (fun h31 => ?_) (fun h31 => ?_)
      · skip
        refine mv_iload_n (pc := 41) B d_Model_fault_41 rfl 1 rfl ?_
        refine mv_iconst (pc := 42) (v := 2) B d_Model_fault_42 (by decide) ?_
        refine mv_icmp_ne (pc := 43) (tgt := 53) B d_Model_fault_43 rfl (fun h43 => ?_) (fun h43 => ?_)
        · skip
          refine mv_iconst (pc := 53) (v := 0) B d_Model_fault_53 (by decide) ?_
          exact mv_iret (pc := 54) B hr rfl d_Model_fault_54 (Nat.le_refl _) (Nat.le_refl _) ⟨_, rfl, SM.si Fx.rf (by decide)⟩
        · skip
          refine mv_aload_n (pc := 46) B d_Model_fault_46 rfl 0 rfl ?_
          refine mv_getI (pc := 47) (ci := 11) (C := R_Model) (T := F_Model) (N := 16) B 5 rfl rfl (by decide) i_Model (B.2.2.2.1 _ k_2050) rfl d_Model_fault_47 ?_
          refine mv_goto (pc := 50) (tgt := 54) B d_Model_fault_50 rfl ?_
          exact mv_iret (pc := 54) B hr rfl d_Model_fault_54 (Nat.le_refl _) (Nat.le_refl _) ⟨_, rfl, SM.si Fx.rf (by decide)⟩
      · skip
        refine mv_aload_n (pc := 34) B d_Model_fault_34 rfl 0 rfl ?_
        refine mv_getI (pc := 35) (ci := 11) (C := R_Model) (T := F_Model) (N := 16) B 4 rfl rfl (by decide) i_Model (B.2.2.2.1 _ k_2049) rfl d_Model_fault_35 ?_
        refine mv_goto (pc := 38) (tgt := 54) B d_Model_fault_38 rfl ?_
        exact mv_iret (pc := 54) B hr rfl d_Model_fault_54 (Nat.le_refl _) (Nat.le_refl _) ⟨_, rfl, SM.si Fx.rf (by decide)⟩
    · skip
      refine mv_aload_n (pc := 22) B d_Model_fault_22 rfl 0 rfl ?_
      refine mv_getI (pc := 23) (ci := 11) (C := R_Model) (T := F_Model) (N := 16) B 3 rfl rfl (by decide) i_Model (B.2.2.2.1 _ k_2048) rfl d_Model_fault_23 ?_
      refine mv_goto (pc := 26) (tgt := 54) B d_Model_fault_26 rfl ?_
      exact mv_iret (pc := 54) B hr rfl d_Model_fault_54 (Nat.le_refl _) (Nat.le_refl _) ⟨_, rfl, SM.si Fx.rf (by decide)⟩
  · skip
    refine mv_iload_n (pc := 5) B d_Model_fault_5 rfl 1 rfl ?_
    refine mv_iconst (pc := 6) (v := 2) B d_Model_fault_6 (by decide) ?_
    refine mv_icmp_le (pc := 7) (tgt := 14) B d_Model_fault_7 rfl (fun h7 => ?_) (fun h7 => ?_)
    · skip
      refine mv_iconst (pc := 14) (v := 0) B d_Model_fault_14 (by decide) ?_
      refine mv_putI (pc := 15) (ci := 11) (C := R_Model) (T := F_Model) (N := 16) B 2 rfl rfl (by decide) i_Model t_Model_ok n_Model (B.2.2.2.1 _ k_2047) rfl rfl rfl rfl d_Model_fault_15 ?_
      refine mv_iload_n (pc := 18) B d_Model_fault_18 rfl 1 rfl ?_
      refine mv_if_ne (pc := 19) (tgt := 29) B d_Model_fault_19 rfl (fun h19 => ?_) (fun h19 => ?_)
      · skip
        refine mv_iload_n (pc := 29) B d_Model_fault_29 rfl 1 rfl ?_
        refine mv_iconst (pc := 30) (v := 1) B d_Model_fault_30 (by decide) ?_
        refine mv_icmp_ne (pc := 31) (tgt := 41) B d_Model_fault_31 rfl (fun h31 => ?_) (fun h31 => ?_)
        · skip
          refine mv_iload_n (pc := 41) B d_Model_fault_41 rfl 1 rfl ?_
          refine mv_iconst (pc := 42) (v := 2) B d_Model_fault_42 (by decide) ?_
          refine mv_icmp_ne (pc := 43) (tgt := 53) B d_Model_fault_43 rfl (fun h43 => ?_) (fun h43 => ?_)
          · skip
            refine mv_iconst (pc := 53) (v := 0) B d_Model_fault_53 (by decide) ?_
            exact mv_iret (pc := 54) B hr rfl d_Model_fault_54 (Nat.le_refl _) (Nat.le_refl _) ⟨_, rfl, SM.si Fx.rf (by decide)⟩
          · skip
            refine mv_aload_n (pc := 46) B d_Model_fault_46 rfl 0 rfl ?_
            refine mv_getI (pc := 47) (ci := 11) (C := R_Model) (T := F_Model) (N := 16) B 5 rfl rfl (by decide) i_Model (B.2.2.2.1 _ k_2050) rfl d_Model_fault_47 ?_
            refine mv_goto (pc := 50) (tgt := 54) B d_Model_fault_50 rfl ?_
            exact mv_iret (pc := 54) B hr rfl d_Model_fault_54 (Nat.le_refl _) (Nat.le_refl _) ⟨_, rfl, SM.si Fx.rf (by decide)⟩
        · skip
          refine mv_aload_n (pc := 34) B d_Model_fault_34 rfl 0 rfl ?_
          refine mv_getI (pc := 35) (ci := 11) (C := R_Model) (T := F_Model) (N := 16) B 4 rfl rfl (by decide) i_Model (B.2.2.2.1 _ k_2049) rfl d_Model_fault_35 ?_
          refine mv_goto (pc := 38) (tgt := 54) B d_Model_fault_38 rfl ?_
          exact mv_iret (pc := 54) B hr rfl d_Model_fault_54 (Nat.le_refl _) (Nat.le_refl _) ⟨_, rfl, SM.si Fx.rf (by decide)⟩
      · skip
        refine mv_aload_n (pc := 22) B d_Model_fault_22 rfl 0 rfl ?_
        refine mv_getI (pc := 23) (ci := 11) (C := R_Model) (T := F_Model) (N := 16) B 3 rfl rfl (by decide) i_Model (B.2.2.2.1 _ k_2048) rfl d_Model_fault_23 ?_
        refine mv_goto (pc := 26) (tgt := 54) B d_Model_fault_26 rfl ?_
        exact mv_iret (pc := 54) B hr rfl d_Model_fault_54 (Nat.le_refl _) (Nat.le_refl _) ⟨_, rfl, SM.si Fx.rf (by decide)⟩
    · skip
      refine mv_iconst (pc := 10) (v := 1) B d_Model_fault_10 (by decide) ?_
      refine mv_goto (pc := 11) (tgt := 15) B d_Model_fault_11 rfl ?_
      refine mv_putI (pc := 15) (ci := 11) (C := R_Model) (T := F_Model) (N := 16) B 2 rfl rfl (by decide) i_Model t_Model_ok n_Model (B.2.2.2.1 _ k_2047) rfl rfl rfl rfl d_Model_fault_15 ?_
      refine mv_iload_n (pc := 18) B d_Model_fault_18 rfl 1 rfl ?_
      refine mv_if_ne (pc := 19) (tgt := 29) B d_Model_fault_19 rfl (fun h19 => ?_) (fun h19 => ?_)
      · skip
        refine mv_iload_n (pc := 29) B d_Model_fault_29 rfl 1 rfl ?_
        refine mv_iconst (pc := 30) (v := 1) B d_Model_fault_30 (by decide) ?_
        refine mv_icmp_ne (pc := 31) (tgt := 41) B d_Model_fault_31 rfl (fun h31 => ?_) (fun h31 => ?_)
        · skip
          refine mv_iload_n (pc := 41) B d_Model_fault_41 rfl 1 rfl ?_
          refine mv_iconst (pc := 42) (v := 2) B d_Model_fault_42 (by decide) ?_
          refine mv_icmp_ne (pc := 43) (tgt := 53) B d_Model_fault_43 rfl (fun h43 => ?_) (fun h43 => ?_)
          · skip
            refine mv_iconst (pc := 53) (v := 0) B d_Model_fault_53 (by decide) ?_
            exact mv_iret (pc := 54) B hr rfl d_Model_fault_54 (Nat.le_refl _) (Nat.le_refl _) ⟨_, rfl, SM.si Fx.rf (by decide)⟩
          · skip
            refine mv_aload_n (pc := 46) B d_Model_fault_46 rfl 0 rfl ?_
            refine mv_getI (pc := 47) (ci := 11) (C := R_Model) (T := F_Model) (N := 16) B 5 rfl rfl (by decide) i_Model (B.2.2.2.1 _ k_2050) rfl d_Model_fault_47 ?_
            refine mv_goto (pc := 50) (tgt := 54) B d_Model_fault_50 rfl ?_
            exact mv_iret (pc := 54) B hr rfl d_Model_fault_54 (Nat.le_refl _) (Nat.le_refl _) ⟨_, rfl, SM.si Fx.rf (by decide)⟩
        · skip
          refine mv_aload_n (pc := 34) B d_Model_fault_34 rfl 0 rfl ?_
          refine mv_getI (pc := 35) (ci := 11) (C := R_Model) (T := F_Model) (N := 16) B 4 rfl rfl (by decide) i_Model (B.2.2.2.1 _ k_2049) rfl d_Model_fault_35 ?_
          refine mv_goto (pc := 38) (tgt := 54) B d_Model_fault_38 rfl ?_
          exact mv_iret (pc := 54) B hr rfl d_Model_fault_54 (Nat.le_refl _) (Nat.le_refl _) ⟨_, rfl, SM.si Fx.rf (by decide)⟩
      · skip
        refine mv_aload_n (pc := 22) B d_Model_fault_22 rfl 0 rfl ?_
        refine mv_getI (pc := 23) (ci := 11) (C := R_Model) (T := F_Model) (N := 16) B 3 rfl rfl (by decide) i_Model (B.2.2.2.1 _ k_2048) rfl d_Model_fault_23 ?_
        refine mv_goto (pc := 26) (tgt := 54) B d_Model_fault_26 rfl ?_
        exact mv_iret (pc := 54) B hr rfl d_Model_fault_54 (Nat.le_refl _) (Nat.le_refl _) ⟨_, rfl, SM.si Fx.rf (by decide)⟩
def y_Model_trap : MethodName := ⟨"MachineLoomModel", "trap", "()I"⟩
abbrev b_Model_trap : ByteArray := prog_14_method_38_code
theorem kc_Model_trap : Cond.code y_Model_trap b_Model_trap 1 (Option.some Jvm.ClassFile.FieldType.int) ∈ ma := ma_of (tb_11 _ (List.mem_of_getElem? (i := 177) rfl)) rfl
theorem d_Model_trap_0 : decode b_Model_trap 0 = .ok (.aload_n 0, 1) := by decide +kernel
theorem d_Model_trap_1 : decode b_Model_trap 1 = .ok (.iconst 0, 1) := by decide +kernel
theorem d_Model_trap_2 : decode b_Model_trap 2 = .ok (.putfield 38, 3) := by decide +kernel
theorem d_Model_trap_5 : decode b_Model_trap 5 = .ok (.aload_n 0, 1) := by decide +kernel
theorem d_Model_trap_6 : decode b_Model_trap 6 = .ok (.getfield 211, 3) := by decide +kernel
theorem d_Model_trap_9 : decode b_Model_trap 9 = .ok (.ireturn, 1) := by decide +kernel
set_option maxHeartbeats 4000000 in
set_option maxRecDepth 100000 in
theorem c_Model_trap (l : Launch) {dA : FieldType → ClassId} {D : va_G} {al : Nat → Nat} {ext : mv_Sh} {sk sv : Nat → Nat} (hi : mv_inj (mg dA D al ext)) (σ : mv_H)  : mv_C l y_Model_trap (Cond.code y_Model_trap b_Model_trap 1 (Option.some Jvm.ClassFile.FieldType.int) :: ma) ({ frames := 0, cells := 0, slots := 0, locals := 0 }) (mg dA D al ext) (mK sk sv) [.ref (al 70)] σ (mv_Ri (fun v σ1 => SM σ σ1)) := by
  refine mv_C.ofV (cc := b_Model_trap) (nL := 1) (ret := (Option.some Jvm.ClassFile.FieldType.int)) (by decide +kernel) rfl hi (Nat.le_of_ble_eq_true rfl) ?_
  intro p e s m below meth c B hNs hr hnm hno
  refine mv_aload_n (pc := 0) B d_Model_trap_0 rfl 0 rfl ?_
  refine mv_iconst (pc := 1) (v := 0) B d_Model_trap_1 (by decide) ?_
  refine mv_putI (pc := 2) (ci := 11) (C := R_Model) (T := F_Model) (N := 16) B 2 rfl rfl (by decide) i_Model t_Model_ok n_Model (B.2.2.2.1 _ k_2047) rfl rfl rfl rfl d_Model_trap_2 ?_
  refine mv_aload_n (pc := 5) B d_Model_trap_5 rfl 0 rfl ?_
  refine mv_getI (pc := 6) (ci := 11) (C := R_Model) (T := F_Model) (N := 16) B 14 rfl rfl (by decide) i_Model (B.2.2.2.1 _ k_2059) rfl d_Model_trap_6 ?_
  exact mv_iret (pc := 9) B hr rfl d_Model_trap_9 (Nat.le_refl _) (Nat.le_refl _) ⟨_, rfl, SM.si Fx.rf (by decide)⟩
/-- the number that the reference takes at place i, and the byte of it -/
def fsel (a b c d e i : Int32) : Int32 := if 4 ≤ i then (if 8 ≤ i then (if 12 ≤ i then (if 16 ≤ i then e else d) else c) else b) else a
theorem fsel_a {a b c d e i : Int32} (h1 : ¬ 4 ≤ i) : a = fsel a b c d e i := (if_neg h1).symm
theorem fsel_b {a b c d e i : Int32} (h1 : 4 ≤ i) (h2 : ¬ 8 ≤ i) : b = fsel a b c d e i := by unfold fsel; rw [if_pos h1, if_neg h2]
theorem fsel_c {a b c d e i : Int32} (h1 : 4 ≤ i) (h2 : 8 ≤ i) (h3 : ¬ 12 ≤ i) : c = fsel a b c d e i := by unfold fsel; rw [if_pos h1, if_pos h2, if_neg h3]
theorem fsel_d {a b c d e i : Int32} (h1 : 4 ≤ i) (h2 : 8 ≤ i) (h3 : 12 ≤ i) (h4 : ¬ 16 ≤ i) : d = fsel a b c d e i := by unfold fsel; rw [if_pos h1, if_pos h2, if_pos h3, if_neg h4]
theorem fsel_e {a b c d e i : Int32} (h1 : 4 ≤ i) (h2 : 8 ≤ i) (h3 : 12 ≤ i) (h4 : 16 ≤ i) : e = fsel a b c d e i := by unfold fsel; rw [if_pos h1, if_pos h2, if_pos h3, if_pos h4]
theorem rp_g (x : BitVec 32) (s : Nat) (hs : s ≤ 24) : (x >>> s).signExtend 8 = (x.sshiftRight s).signExtend 8 := by
  apply BitVec.eq_of_getLsbD_eq
  intro i hi
  rw [BitVec.getLsbD_signExtend, BitVec.getLsbD_signExtend, BitVec.getLsbD_ushiftRight, BitVec.getLsbD_sshiftRight]
  simp [hi, show s + i < 32 by omega, show i < 32 by omega, show ¬ 32 ≤ i by omega]
theorem rp_24 (v : Int32) : (v.toUInt32 >>> ((24 : Int32).toUInt32 &&& Int32.toUInt32 31)).toInt32.toInt8.toInt32 = (v >>> ((24 : Int32) &&& 31)).toInt8.toInt32 := by
  have h := rp_g v.toBitVec 24 (by decide)
  have h2 : (v.toUInt32 >>> ((24 : Int32).toUInt32 &&& Int32.toUInt32 31)).toInt32.toInt8 = (v >>> ((24 : Int32) &&& 31)).toInt8 := Int8.toBitVec_inj.mp h
  rw [h2]
theorem rp_16 (v : Int32) : (v.toUInt32 >>> ((16 : Int32).toUInt32 &&& Int32.toUInt32 31)).toInt32.toInt8.toInt32 = (v >>> ((16 : Int32) &&& 31)).toInt8.toInt32 := by
  have h := rp_g v.toBitVec 16 (by decide)
  have h2 : (v.toUInt32 >>> ((16 : Int32).toUInt32 &&& Int32.toUInt32 31)).toInt32.toInt8 = (v >>> ((16 : Int32) &&& 31)).toInt8 := Int8.toBitVec_inj.mp h
  rw [h2]
theorem rp_8 (v : Int32) : (v.toUInt32 >>> ((8 : Int32).toUInt32 &&& Int32.toUInt32 31)).toInt32.toInt8.toInt32 = (v >>> ((8 : Int32) &&& 31)).toInt8.toInt32 := by
  have h := rp_g v.toBitVec 8 (by decide)
  have h2 : (v.toUInt32 >>> ((8 : Int32).toUInt32 &&& Int32.toUInt32 31)).toInt32.toInt8 = (v >>> ((8 : Int32) &&& 31)).toInt8 := Int8.toBitVec_inj.mp h
  rw [h2]
theorem rp_0 (v : Int32) : (v.toUInt32 >>> ((0 : Int32).toUInt32 &&& Int32.toUInt32 31)).toInt32.toInt8.toInt32 = (v >>> ((0 : Int32) &&& 31)).toInt8.toInt32 := by
  have h := rp_g v.toBitVec 0 (by decide)
  have h2 : (v.toUInt32 >>> ((0 : Int32).toUInt32 &&& Int32.toUInt32 31)).toInt32.toInt8 = (v >>> ((0 : Int32) &&& 31)).toInt8 := Int8.toBitVec_inj.mp h
  rw [h2]
theorem rp_b {a b c d e i v : Int32} (hv : v = fsel a b c d e i) (h0 : 0 ≤ i.toInt) (h1 : i.toInt < 20) : vp_nar .byte (v.toUInt32 >>> ((24 - (i - i / 4 * 4) * 8).toUInt32 &&& Int32.toUInt32 31)).toInt32.toInt8.toInt32 = fb a b c d e i.toNatClampNeg := by
  subst hv
  rcases (show i.toInt = 0 ∨ i.toInt = 1 ∨ i.toInt = 2 ∨ i.toInt = 3 ∨ i.toInt = 4 ∨ i.toInt = 5 ∨ i.toInt = 6 ∨ i.toInt = 7 ∨ i.toInt = 8 ∨ i.toInt = 9 ∨ i.toInt = 10 ∨ i.toInt = 11 ∨ i.toInt = 12 ∨ i.toInt = 13 ∨ i.toInt = 14 ∨ i.toInt = 15 ∨ i.toInt = 16 ∨ i.toInt = 17 ∨ i.toInt = 18 ∨ i.toInt = 19 by omega) with z | z | z | z | z | z | z | z | z | z | z | z | z | z | z | z | z | z | z | z
  · have z := Int32.toInt_inj.mp (z.trans (show (0 : Int) = (0 : Int32).toInt by decide))
    subst z
    exact congrArg (vp_nar .byte) (rp_24 a)
  · have z := Int32.toInt_inj.mp (z.trans (show (1 : Int) = (1 : Int32).toInt by decide))
    subst z
    exact congrArg (vp_nar .byte) (rp_16 a)
  · have z := Int32.toInt_inj.mp (z.trans (show (2 : Int) = (2 : Int32).toInt by decide))
    subst z
    exact congrArg (vp_nar .byte) (rp_8 a)
  · have z := Int32.toInt_inj.mp (z.trans (show (3 : Int) = (3 : Int32).toInt by decide))
    subst z
    exact congrArg (vp_nar .byte) (rp_0 a)
  · have z := Int32.toInt_inj.mp (z.trans (show (4 : Int) = (4 : Int32).toInt by decide))
    subst z
    exact congrArg (vp_nar .byte) (rp_24 b)
  · have z := Int32.toInt_inj.mp (z.trans (show (5 : Int) = (5 : Int32).toInt by decide))
    subst z
    exact congrArg (vp_nar .byte) (rp_16 b)
  · have z := Int32.toInt_inj.mp (z.trans (show (6 : Int) = (6 : Int32).toInt by decide))
    subst z
    exact congrArg (vp_nar .byte) (rp_8 b)
  · have z := Int32.toInt_inj.mp (z.trans (show (7 : Int) = (7 : Int32).toInt by decide))
    subst z
    exact congrArg (vp_nar .byte) (rp_0 b)
  · have z := Int32.toInt_inj.mp (z.trans (show (8 : Int) = (8 : Int32).toInt by decide))
    subst z
    exact congrArg (vp_nar .byte) (rp_24 c)
  · have z := Int32.toInt_inj.mp (z.trans (show (9 : Int) = (9 : Int32).toInt by decide))
    subst z
    exact congrArg (vp_nar .byte) (rp_16 c)
  · have z := Int32.toInt_inj.mp (z.trans (show (10 : Int) = (10 : Int32).toInt by decide))
    subst z
    exact congrArg (vp_nar .byte) (rp_8 c)
  · have z := Int32.toInt_inj.mp (z.trans (show (11 : Int) = (11 : Int32).toInt by decide))
    subst z
    exact congrArg (vp_nar .byte) (rp_0 c)
  · have z := Int32.toInt_inj.mp (z.trans (show (12 : Int) = (12 : Int32).toInt by decide))
    subst z
    exact congrArg (vp_nar .byte) (rp_24 d)
  · have z := Int32.toInt_inj.mp (z.trans (show (13 : Int) = (13 : Int32).toInt by decide))
    subst z
    exact congrArg (vp_nar .byte) (rp_16 d)
  · have z := Int32.toInt_inj.mp (z.trans (show (14 : Int) = (14 : Int32).toInt by decide))
    subst z
    exact congrArg (vp_nar .byte) (rp_8 d)
  · have z := Int32.toInt_inj.mp (z.trans (show (15 : Int) = (15 : Int32).toInt by decide))
    subst z
    exact congrArg (vp_nar .byte) (rp_0 d)
  · have z := Int32.toInt_inj.mp (z.trans (show (16 : Int) = (16 : Int32).toInt by decide))
    subst z
    exact congrArg (vp_nar .byte) (rp_24 e)
  · have z := Int32.toInt_inj.mp (z.trans (show (17 : Int) = (17 : Int32).toInt by decide))
    subst z
    exact congrArg (vp_nar .byte) (rp_16 e)
  · have z := Int32.toInt_inj.mp (z.trans (show (18 : Int) = (18 : Int32).toInt by decide))
    subst z
    exact congrArg (vp_nar .byte) (rp_8 e)
  · have z := Int32.toInt_inj.mp (z.trans (show (19 : Int) = (19 : Int32).toInt by decide))
    subst z
    exact congrArg (vp_nar .byte) (rp_0 e)
/-- n bytes are fed behind k, in the reference -/
def FE7 (σ τ : mv_H) (k n : Nat) (g : Nat → Int32) : Prop := (∀ i, (i < k ∨ k + n ≤ i) → mv_a τ 71 i = mv_a σ 71 i) ∧ ∀ j, j < n → mv_a τ 71 (k + j) = g j
theorem FE7.nx {σ τ : mv_H} {k : Nat} {a b c d e i v w : Int32} (h : FE7 σ τ k i.toNatClampNeg (fb a b c d e)) (xt : (mv_i τ 70 1).toInt = k + i.toInt) (q0 : 0 ≤ i.toInt) (q1 : i.toInt < 20) (hv : v = fsel a b c d e i) : FE7 σ (mv_si (mv_sa τ 71 (mv_i τ 70 1).toNatClampNeg (vp_nar .byte (v.toUInt32 >>> ((24 - (i - i / 4 * 4) * 8).toUInt32 &&& Int32.toUInt32 31)).toInt32.toInt8.toInt32)) 70 1 w) k (i + 1).toNatClampNeg (fb a b c d e) := by
  rw [rp_b hv q0 q1]
  have e : ∀ j, mv_a (mv_si (mv_sa τ 71 (mv_i τ 70 1).toNatClampNeg (fb a b c d e i.toNatClampNeg)) 70 1 w) 71 j = if j = (mv_i τ 70 1).toNatClampNeg then fb a b c d e i.toNatClampNeg else mv_a τ 71 j := fun j => row1 τ 71 _ _ j
  have c1 := i32_cl (x := mv_i τ 70 1) (by omega)
  have c2 := i32_cl q0
  have w2 : (i + 1).toInt = i.toInt + 1 := i32_inc (by omega)
  have c3 := i32_cl (x := i + 1) (by omega)
  refine ⟨fun j hj => ?_, fun j hj => ?_⟩
  · rw [e, if_neg (by omega)]
    exact h.1 j (by omega)
  · rw [e]
    by_cases z : j = i.toNatClampNeg
    · subst z
      rw [if_pos (by omega)]
    · rw [if_neg (by omega)]
      exact h.2 j (by omega)

theorem fd_le {x : Int32} {k : Nat} (hx : x.toInt = k) (hk : k + 20 ≤ 32768) : x + 20 ≤ 32768 := by
  rw [Int32.le_iff_toInt_le, i32_add (x := x) (y := 20) (by show -2147483648 ≤ x.toInt + 20; omega) (by show x.toInt + 20 < 2147483648; omega)]
  show x.toInt + 20 ≤ 32768
  omega
theorem fd_nx {τ : mv_H} {i : Int32} {k j : Nat} {v : Int32} (xt : (mv_i τ 70 1).toInt = k + i.toInt) (q : i.toInt ≤ 20) (q0 : 0 ≤ i.toInt) (hk : k + 20 ≤ 32768) : (mv_i (mv_si (mv_sa τ 71 j v) 70 1 (mv_i τ 70 1 + 1)) 70 1).toInt = k + (i + 1).toInt := by
  rw [mv_si_s, i32_inc (by omega), i32_inc (by omega)]
  omega
theorem fd_y {τ : mv_H} {j : Nat} {v w : Int32} (y : mv_i τ 70 2 = 0) : mv_i (mv_si (mv_sa τ 71 j v) 70 1 w) 70 2 = 0 := by
  rw [mv_si_o _ _ (by omega)]
  exact y
def y_Model_feed : MethodName := ⟨"MachineLoomModel", "feed", "(IIIII)I"⟩
abbrev b_Model_feed : ByteArray := prog_14_method_4_code
theorem kc_Model_feed : Cond.code y_Model_feed b_Model_feed 8 (Option.some Jvm.ClassFile.FieldType.int) ∈ ma := ma_of (tb_9 _ (List.mem_of_getElem? (i := 177) rfl)) rfl
theorem k_2045 : (Jvm.Cond.fieldLink "MachineLoomModel" (8 : Nat) "MachineLoomModel" "input" "[B") ∈ ma := ma_of (tb_9 _ (List.mem_of_getElem? (i := 125) rfl)) rfl
theorem k_2046 : (Jvm.Cond.fieldLink "MachineLoomModel" (41 : Nat) "MachineLoomModel" "size" "I") ∈ ma := ma_of (tb_9 _ (List.mem_of_getElem? (i := 126) rfl)) rfl
theorem d_Model_feed_0 : decode b_Model_feed 0 = .ok (.aload_n 0, 1) := by decide +kernel
theorem d_Model_feed_1 : decode b_Model_feed 1 = .ok (.iconst 0, 1) := by decide +kernel
theorem d_Model_feed_2 : decode b_Model_feed 2 = .ok (.putfield 38, 3) := by decide +kernel
theorem d_Model_feed_5 : decode b_Model_feed 5 = .ok (.aload_n 0, 1) := by decide +kernel
theorem d_Model_feed_6 : decode b_Model_feed 6 = .ok (.getfield 41, 3) := by decide +kernel
theorem d_Model_feed_9 : decode b_Model_feed 9 = .ok (.bipush 20, 2) := by decide +kernel
theorem d_Model_feed_11 : decode b_Model_feed 11 = .ok (.iadd, 1) := by decide +kernel
theorem d_Model_feed_12 : decode b_Model_feed 12 = .ok (.ldc 7, 2) := by decide +kernel
theorem d_Model_feed_14 : decode b_Model_feed 14 = .ok (.if_icmp .le (10), 3) := by decide +kernel
theorem d_Model_feed_24 : decode b_Model_feed 24 = .ok (.iconst 0, 1) := by decide +kernel
theorem d_Model_feed_25 : decode b_Model_feed 25 = .ok (.istore 6, 2) := by decide +kernel
theorem d_Model_feed_27 : decode b_Model_feed 27 = .ok (.iload 6, 2) := by decide +kernel
theorem d_Model_feed_29 : decode b_Model_feed 29 = .ok (.bipush 20, 2) := by decide +kernel
theorem d_Model_feed_31 : decode b_Model_feed 31 = .ok (.if_icmp .ge (90), 3) := by decide +kernel
theorem d_Model_feed_34 : decode b_Model_feed 34 = .ok (.iload 6, 2) := by decide +kernel
theorem d_Model_feed_36 : decode b_Model_feed 36 = .ok (.iconst 4, 1) := by decide +kernel
theorem d_Model_feed_37 : decode b_Model_feed 37 = .ok (.if_icmp .ge (7), 3) := by decide +kernel
theorem d_Model_feed_40 : decode b_Model_feed 40 = .ok (.iload_n 1, 1) := by decide +kernel
theorem d_Model_feed_41 : decode b_Model_feed 41 = .ok (.goto (39), 3) := by decide +kernel
theorem d_Model_feed_44 : decode b_Model_feed 44 = .ok (.iload 6, 2) := by decide +kernel
theorem d_Model_feed_46 : decode b_Model_feed 46 = .ok (.bipush 8, 2) := by decide +kernel
theorem d_Model_feed_48 : decode b_Model_feed 48 = .ok (.if_icmp .ge (7), 3) := by decide +kernel
theorem d_Model_feed_51 : decode b_Model_feed 51 = .ok (.iload_n 2, 1) := by decide +kernel
theorem d_Model_feed_52 : decode b_Model_feed 52 = .ok (.goto (28), 3) := by decide +kernel
theorem d_Model_feed_55 : decode b_Model_feed 55 = .ok (.iload 6, 2) := by decide +kernel
theorem d_Model_feed_57 : decode b_Model_feed 57 = .ok (.bipush 12, 2) := by decide +kernel
theorem d_Model_feed_59 : decode b_Model_feed 59 = .ok (.if_icmp .ge (7), 3) := by decide +kernel
theorem d_Model_feed_62 : decode b_Model_feed 62 = .ok (.iload_n 3, 1) := by decide +kernel
theorem d_Model_feed_63 : decode b_Model_feed 63 = .ok (.goto (17), 3) := by decide +kernel
theorem d_Model_feed_66 : decode b_Model_feed 66 = .ok (.iload 6, 2) := by decide +kernel
theorem d_Model_feed_68 : decode b_Model_feed 68 = .ok (.bipush 16, 2) := by decide +kernel
theorem d_Model_feed_70 : decode b_Model_feed 70 = .ok (.if_icmp .ge (8), 3) := by decide +kernel
theorem d_Model_feed_73 : decode b_Model_feed 73 = .ok (.iload 4, 2) := by decide +kernel
theorem d_Model_feed_75 : decode b_Model_feed 75 = .ok (.goto (5), 3) := by decide +kernel
theorem d_Model_feed_78 : decode b_Model_feed 78 = .ok (.iload 5, 2) := by decide +kernel
theorem d_Model_feed_80 : decode b_Model_feed 80 = .ok (.istore 7, 2) := by decide +kernel
theorem d_Model_feed_82 : decode b_Model_feed 82 = .ok (.aload_n 0, 1) := by decide +kernel
theorem d_Model_feed_83 : decode b_Model_feed 83 = .ok (.getfield 8, 3) := by decide +kernel
theorem d_Model_feed_86 : decode b_Model_feed 86 = .ok (.aload_n 0, 1) := by decide +kernel
theorem d_Model_feed_87 : decode b_Model_feed 87 = .ok (.getfield 41, 3) := by decide +kernel
theorem d_Model_feed_90 : decode b_Model_feed 90 = .ok (.iload 7, 2) := by decide +kernel
theorem d_Model_feed_92 : decode b_Model_feed 92 = .ok (.bipush 24, 2) := by decide +kernel
theorem d_Model_feed_94 : decode b_Model_feed 94 = .ok (.iload 6, 2) := by decide +kernel
theorem d_Model_feed_96 : decode b_Model_feed 96 = .ok (.iconst 4, 1) := by decide +kernel
theorem d_Model_feed_97 : decode b_Model_feed 97 = .ok (.irem, 1) := by decide +kernel
theorem d_Model_feed_98 : decode b_Model_feed 98 = .ok (.bipush 8, 2) := by decide +kernel
theorem d_Model_feed_100 : decode b_Model_feed 100 = .ok (.imul, 1) := by decide +kernel
theorem d_Model_feed_101 : decode b_Model_feed 101 = .ok (.isub, 1) := by decide +kernel
theorem d_Model_feed_102 : decode b_Model_feed 102 = .ok (.iushr, 1) := by decide +kernel
theorem d_Model_feed_103 : decode b_Model_feed 103 = .ok (.i2b, 1) := by decide +kernel
theorem d_Model_feed_104 : decode b_Model_feed 104 = .ok (.bastore, 1) := by decide +kernel
theorem d_Model_feed_105 : decode b_Model_feed 105 = .ok (.aload_n 0, 1) := by decide +kernel
theorem d_Model_feed_106 : decode b_Model_feed 106 = .ok (.dup, 1) := by decide +kernel
theorem d_Model_feed_107 : decode b_Model_feed 107 = .ok (.getfield 41, 3) := by decide +kernel
theorem d_Model_feed_110 : decode b_Model_feed 110 = .ok (.iconst 1, 1) := by decide +kernel
theorem d_Model_feed_111 : decode b_Model_feed 111 = .ok (.iadd, 1) := by decide +kernel
theorem d_Model_feed_112 : decode b_Model_feed 112 = .ok (.putfield 41, 3) := by decide +kernel
theorem d_Model_feed_115 : decode b_Model_feed 115 = .ok (.iinc 6 (1), 3) := by decide +kernel
theorem d_Model_feed_118 : decode b_Model_feed 118 = .ok (.goto (-91), 3) := by decide +kernel
theorem d_Model_feed_121 : decode b_Model_feed 121 = .ok (.aload_n 0, 1) := by decide +kernel
theorem d_Model_feed_122 : decode b_Model_feed 122 = .ok (.getfield 41, 3) := by decide +kernel
theorem d_Model_feed_125 : decode b_Model_feed 125 = .ok (.ireturn, 1) := by decide +kernel
set_option maxHeartbeats 4000000 in
set_option maxRecDepth 100000 in
theorem c_Model_feed (l : Launch) {dA : FieldType → ClassId} {D : va_G} {al : Nat → Nat} {ext : mv_Sh} {sk sv : Nat → Nat} (hi : mv_inj (mg dA D al ext)) (σ : mv_H) (a9 b9 c9 d9 e9 : Int32) (k9 : Nat) (hmr : mh (mv_r σ)) (hz : (mv_i σ 70 1).toInt = k9) (hk : k9 + 20 ≤ 32768) : mv_C l y_Model_feed (Cond.code y_Model_feed b_Model_feed 8 (Option.some Jvm.ClassFile.FieldType.int) :: ma) ({ frames := 0, cells := 0, slots := 0, locals := 0 }) (mg dA D al ext) (mK sk sv) [.ref (al 70), .int a9, .int b9, .int c9, .int d9, .int e9] σ (mv_Ri (fun v σ1 => FD σ σ1 ∧ v.toInt = ((k9 + 20 : Nat) : Int) ∧ (mv_i σ1 70 1).toInt = ((k9 + 20 : Nat) : Int) ∧ mv_i σ1 70 2 = 0 ∧ FE7 σ σ1 k9 20 (fb a9 b9 c9 d9 e9))) := by
  refine mv_C.ofV (cc := b_Model_feed) (nL := 8) (ret := (Option.some Jvm.ClassFile.FieldType.int)) (by decide +kernel) rfl hi (Nat.le_of_ble_eq_true rfl) ?_
  intro p e s m below meth c B hNs hr hnm hno
  refine mv_aload_n (pc := 0) B d_Model_feed_0 rfl 0 rfl ?_
  refine mv_iconst (pc := 1) (v := 0) B d_Model_feed_1 (by decide) ?_
  refine mv_putI (pc := 2) (ci := 11) (C := R_Model) (T := F_Model) (N := 16) B 2 rfl rfl (by decide) i_Model t_Model_ok n_Model (B.2.2.2.1 _ k_2047) rfl rfl rfl rfl d_Model_feed_2 ?_
  refine mv_gen (fun S5 eS5 => ?_)
  have hF5 : FD σ S5 := by rw [eS5]; exact FD.si Fx.rf (Or.inr rfl)
  have x5 : (mv_i S5 70 1).toInt = k9 := by rw [eS5, mv_si_o _ _ (by omega)]; exact hz
  have y5 : mv_i S5 70 2 = 0 := by rw [eS5, mv_si_s]
  have r5 : ∀ i, mv_a S5 71 i = mv_a σ 71 i := fun i => by rw [eS5]; rfl
  clear eS5
  refine mv_aload_n (pc := 5) B d_Model_feed_5 rfl 0 rfl ?_
  refine mv_getI (pc := 6) (ci := 11) (C := R_Model) (T := F_Model) (N := 16) B 1 rfl rfl (by decide) i_Model (B.2.2.2.1 _ k_2046) rfl d_Model_feed_6 ?_
  refine mv_bipush (pc := 9) (v := 20) B d_Model_feed_9 (by decide) ?_
  refine mv_iadd (pc := 11) B d_Model_feed_11 ?_
  refine mv_ldc (pc := 12) (v := 32768) B (B.2.2.2.1 _ k_1815) d_Model_feed_12 ?_
  refine mv_icmp_le (pc := 14) (tgt := 24) B d_Model_feed_14 rfl (fun h14 => ?_) (fun h14 => ?_)
  · skip
    have lp : ∀ (nn : Nat) (τ : mv_H) (i9 : Int32) (hFt : FD σ τ) (xt : (mv_i τ 70 1).toInt = k9 + i9.toInt) (yt : mv_i τ 70 2 = 0) (q0 : 0 ≤ i9.toInt) (q1 : i9.toInt ≤ 20) (hE : FE7 σ τ k9 i9.toNatClampNeg (fb a9 b9 c9 d9 e9)), (20 - i9.toInt).toNat < nn → mv_V p l e ({ frames := 0, cells := 0, slots := 0, locals := 0 }) s m ([.ref (al 70), .int a9, .int b9, .int c9, .int d9, .int e9] : List Value).toArray below meth c (mg dA D al ext) 8 0 0 (mv_Q (mg dA D al ext) below s 0 0 (mv_Ri (fun v σ1 => FD σ σ1 ∧ v.toInt = ((k9 + 20 : Nat) : Int) ∧ (mv_i σ1 70 1).toInt = ((k9 + 20 : Nat) : Int) ∧ mv_i σ1 70 2 = 0 ∧ FE7 σ σ1 k9 20 (fb a9 b9 c9 d9 e9)))) τ 27 [(6, .int i9), (0, .ref (al 70)), (1, .int a9), (2, .int b9), (3, .int c9), (4, .int d9), (5, .int e9)] [] := by
      intro nn
      induction nn with
      | zero => intro τ i9 hFt xt yt q0 q1 hE hm; exact absurd hm (Nat.not_lt_zero _)
      | succ nn ih =>
        intro τ i9 hFt xt yt q0 q1 hE hm
        have hmt : mh (mv_r τ) := by rw [hFt.2.2.1]; exact hmr
        refine mv_iload (pc := 27) B d_Model_feed_27 0 rfl ?_
        refine mv_bipush (pc := 29) (v := 20) B d_Model_feed_29 (by decide) ?_
        refine mv_icmp_ge (pc := 31) (tgt := 121) B d_Model_feed_31 rfl (fun h31 => ?_) (fun h31 => ?_)
        · skip
          rw [Int32.le_iff_toInt_le] at h31
          have h31 : 20 ≤ i9.toInt := h31
          refine mv_aload_n (pc := 121) B d_Model_feed_121 rfl 1 rfl ?_
          refine mv_getI (pc := 122) (ci := 11) (C := R_Model) (T := F_Model) (N := 16) B 1 rfl rfl (by decide) i_Model (B.2.2.2.1 _ k_2046) rfl d_Model_feed_122 ?_
          exact mv_iret (pc := 125) B hr rfl d_Model_feed_125 (Nat.le_refl _) (Nat.le_refl _) ⟨_, rfl, hFt, by rw [xt]; omega, by rw [xt]; omega, yt, by rw [show i9.toNatClampNeg = 20 by have := i32_cl q0; omega] at hE; exact hE⟩
        · skip
          rw [Int32.le_iff_toInt_le] at h31
          have h31 : ¬ 20 ≤ i9.toInt := h31
          have w2 : (i9 + 1).toInt = i9.toInt + 1 := i32_inc (by omega)
          have j80 : ∀ (v9 : Int32) (hv9 : v9 = fsel a9 b9 c9 d9 e9 i9), mv_V p l e ({ frames := 0, cells := 0, slots := 0, locals := 0 }) s m ([.ref (al 70), .int a9, .int b9, .int c9, .int d9, .int e9] : List Value).toArray below meth c (mg dA D al ext) 8 0 0 (mv_Q (mg dA D al ext) below s 0 0 (mv_Ri (fun v σ1 => FD σ σ1 ∧ v.toInt = ((k9 + 20 : Nat) : Int) ∧ (mv_i σ1 70 1).toInt = ((k9 + 20 : Nat) : Int) ∧ mv_i σ1 70 2 = 0 ∧ FE7 σ σ1 k9 20 (fb a9 b9 c9 d9 e9)))) τ 80 [(6, .int i9), (0, .ref (al 70)), (1, .int a9), (2, .int b9), (3, .int c9), (4, .int d9), (5, .int e9)] [.int v9] := by
            intro v9 hv9
            refine mv_istore (pc := 80) B d_Model_feed_80 (by decide) rfl ?_
            refine mv_aload_n (pc := 82) B d_Model_feed_82 rfl 2 rfl ?_
            refine mv_getR (pc := 83) (ci := 11) (C := R_Model) (T := F_Model) (N := 16) B 0 rfl rfl (by decide) i_Model (B.2.2.2.1 _ k_2045) rfl (hmt _ 0 _ rfl) d_Model_feed_83 ?_
            refine mv_aload_n (pc := 86) B d_Model_feed_86 rfl 2 rfl ?_
            refine mv_getI (pc := 87) (ci := 11) (C := R_Model) (T := F_Model) (N := 16) B 1 rfl rfl (by decide) i_Model (B.2.2.2.1 _ k_2046) rfl d_Model_feed_87 ?_
            refine mv_iload (pc := 90) B d_Model_feed_90 0 rfl ?_
            refine mv_bipush (pc := 92) (v := 24) B d_Model_feed_92 (by decide) ?_
            refine mv_iload (pc := 94) B d_Model_feed_94 1 rfl ?_
            refine mv_iconst (pc := 96) (v := 4) B d_Model_feed_96 (by decide) ?_
            refine mv_irem (pc := 97) B d_Model_feed_97 (by decide) ?_
            refine mv_bipush (pc := 98) (v := 8) B d_Model_feed_98 (by decide) ?_
            refine mv_imul (pc := 100) B d_Model_feed_100 ?_
            refine mv_isub (pc := 101) B d_Model_feed_101 ?_
            refine mv_iushr (pc := 102) B d_Model_feed_102 ?_
            refine mv_i2b (pc := 103) B d_Model_feed_103 ?_
            refine mv_bast (pc := 104) B rfl (i32_in (x := mv_i τ 70 1) (by omega) (show (mv_i τ 70 1).toInt < 32768 by omega)) d_Model_feed_104 ?_
            refine mv_aload_n (pc := 105) B d_Model_feed_105 rfl 2 rfl ?_
            refine mv_dup (pc := 106) B d_Model_feed_106 rfl ?_
            refine mv_getI (pc := 107) (ci := 11) (C := R_Model) (T := F_Model) (N := 16) B 1 rfl rfl (by decide) i_Model (B.2.2.2.1 _ k_2046) rfl d_Model_feed_107 ?_
            refine mv_iconst (pc := 110) (v := 1) B d_Model_feed_110 (by decide) ?_
            refine mv_iadd (pc := 111) B d_Model_feed_111 ?_
            refine mv_putI (pc := 112) (ci := 11) (C := R_Model) (T := F_Model) (N := 16) B 1 rfl rfl (by decide) i_Model t_Model_ok n_Model (B.2.2.2.1 _ k_2046) rfl rfl rfl rfl d_Model_feed_112 ?_
            refine mv_iinc (pc := 115) (j := 1) (v := 1) B d_Model_feed_115 rfl (by decide) (by decide) rfl ?_
            refine mv_goto (pc := 118) (tgt := 27) B d_Model_feed_118 rfl ?_
            refine mv_lpick [0, 2, 3, 4, 5, 6, 7] rfl ?_
            exact ih _ _ ((hFt.a).si (Or.inl rfl)) (fd_nx xt q1 (by omega) hk) (fd_y yt) (by omega) (by omega) (FE7.nx hE xt q0 (by omega) hv9) (by omega)
          refine mv_iload (pc := 34) B d_Model_feed_34 0 rfl ?_
          refine mv_iconst (pc := 36) (v := 4) B d_Model_feed_36 (by decide) ?_
          refine mv_icmp_ge (pc := 37) (tgt := 44) B d_Model_feed_37 rfl (fun h37 => ?_) (fun h37 => ?_)
          · skip
            refine mv_iload (pc := 44) B d_Model_feed_44 0 rfl ?_
            refine mv_bipush (pc := 46) (v := 8) B d_Model_feed_46 (by decide) ?_
            refine mv_icmp_ge (pc := 48) (tgt := 55) B d_Model_feed_48 rfl (fun h48 => ?_) (fun h48 => ?_)
            · skip
              refine mv_iload (pc := 55) B d_Model_feed_55 0 rfl ?_
              refine mv_bipush (pc := 57) (v := 12) B d_Model_feed_57 (by decide) ?_
              refine mv_icmp_ge (pc := 59) (tgt := 66) B d_Model_feed_59 rfl (fun h59 => ?_) (fun h59 => ?_)
              · skip
                refine mv_iload (pc := 66) B d_Model_feed_66 0 rfl ?_
                refine mv_bipush (pc := 68) (v := 16) B d_Model_feed_68 (by decide) ?_
                refine mv_icmp_ge (pc := 70) (tgt := 78) B d_Model_feed_70 rfl (fun h70 => ?_) (fun h70 => ?_)
                · skip
                  refine mv_iload (pc := 78) B d_Model_feed_78 6 rfl ?_
                  refine mv_lpick [0, 1, 2, 3, 4, 5, 6] rfl ?_
                  exact j80 _ (by first | exact fsel_a h37 | exact fsel_b h37 h48 | exact fsel_c h37 h48 h59 | exact fsel_d h37 h48 h59 h70 | exact fsel_e h37 h48 h59 h70)
                · skip
                  refine mv_iload (pc := 73) B d_Model_feed_73 5 rfl ?_
                  refine mv_goto (pc := 75) (tgt := 80) B d_Model_feed_75 rfl ?_
                  refine mv_lpick [0, 1, 2, 3, 4, 5, 6] rfl ?_
                  exact j80 _ (by first | exact fsel_a h37 | exact fsel_b h37 h48 | exact fsel_c h37 h48 h59 | exact fsel_d h37 h48 h59 h70 | exact fsel_e h37 h48 h59 h70)
              · skip
                refine mv_iload_n (pc := 62) B d_Model_feed_62 rfl 4 rfl ?_
                refine mv_goto (pc := 63) (tgt := 80) B d_Model_feed_63 rfl ?_
                refine mv_lpick [0, 1, 2, 3, 4, 5, 6] rfl ?_
                exact j80 _ (by first | exact fsel_a h37 | exact fsel_b h37 h48 | exact fsel_c h37 h48 h59 | exact fsel_d h37 h48 h59 h70 | exact fsel_e h37 h48 h59 h70)
            · skip
              refine mv_iload_n (pc := 51) B d_Model_feed_51 rfl 3 rfl ?_
              refine mv_goto (pc := 52) (tgt := 80) B d_Model_feed_52 rfl ?_
              refine mv_lpick [0, 1, 2, 3, 4, 5, 6] rfl ?_
              exact j80 _ (by first | exact fsel_a h37 | exact fsel_b h37 h48 | exact fsel_c h37 h48 h59 | exact fsel_d h37 h48 h59 h70 | exact fsel_e h37 h48 h59 h70)
          · skip
            refine mv_iload_n (pc := 40) B d_Model_feed_40 rfl 2 rfl ?_
            refine mv_goto (pc := 41) (tgt := 80) B d_Model_feed_41 rfl ?_
            refine mv_lpick [0, 1, 2, 3, 4, 5, 6] rfl ?_
            exact j80 _ (by first | exact fsel_a h37 | exact fsel_b h37 h48 | exact fsel_c h37 h48 h59 | exact fsel_d h37 h48 h59 h70 | exact fsel_e h37 h48 h59 h70)
    refine mv_iconst (pc := 24) (v := 0) B d_Model_feed_24 (by decide) ?_
    refine mv_istore (pc := 25) B d_Model_feed_25 (by decide) rfl ?_
    refine mv_lpick [0, 1, 2, 3, 4, 5, 6] rfl ?_
    exact lp _ _ _ hF5 (by rw [x5]; rfl) y5 (by decide) (by decide) ⟨fun i _ => r5 i, fun j hj => absurd hj (Nat.not_lt_zero _)⟩ (Nat.lt_succ_self _)
  · skip
    exact absurd (fd_le x5 hk) h14
def y_Model_end : MethodName := ⟨"MachineLoomModel", "end", "(I)I"⟩
abbrev b_Model_end : ByteArray := prog_14_method_5_code
theorem kc_Model_end : Cond.code y_Model_end b_Model_end 2 (Option.some Jvm.ClassFile.FieldType.int) ∈ ma := ma_of (tb_9 _ (List.mem_of_getElem? (i := 181) rfl)) rfl
theorem d_Model_end_0 : decode b_Model_end 0 = .ok (.aload_n 0, 1) := by decide +kernel
theorem d_Model_end_1 : decode b_Model_end 1 = .ok (.iconst 0, 1) := by decide +kernel
theorem d_Model_end_2 : decode b_Model_end 2 = .ok (.putfield 38, 3) := by decide +kernel
theorem d_Model_end_5 : decode b_Model_end 5 = .ok (.iload_n 1, 1) := by decide +kernel
theorem d_Model_end_6 : decode b_Model_end 6 = .ok (.ifCond .lt (11), 3) := by decide +kernel
theorem d_Model_end_9 : decode b_Model_end 9 = .ok (.iload_n 1, 1) := by decide +kernel
theorem d_Model_end_10 : decode b_Model_end 10 = .ok (.aload_n 0, 1) := by decide +kernel
theorem d_Model_end_11 : decode b_Model_end 11 = .ok (.getfield 41, 3) := by decide +kernel
theorem d_Model_end_14 : decode b_Model_end 14 = .ok (.if_icmp .le (10), 3) := by decide +kernel
theorem d_Model_end_17 : decode b_Model_end 17 = .ok (.aload_n 0, 1) := by decide +kernel
theorem d_Model_end_18 : decode b_Model_end 18 = .ok (.iconst 1, 1) := by decide +kernel
theorem d_Model_end_19 : decode b_Model_end 19 = .ok (.putfield 38, 3) := by decide +kernel
theorem d_Model_end_22 : decode b_Model_end 22 = .ok (.iconst 0, 1) := by decide +kernel
theorem d_Model_end_23 : decode b_Model_end 23 = .ok (.ireturn, 1) := by decide +kernel
theorem d_Model_end_24 : decode b_Model_end 24 = .ok (.aload_n 0, 1) := by decide +kernel
theorem d_Model_end_25 : decode b_Model_end 25 = .ok (.dup, 1) := by decide +kernel
theorem d_Model_end_26 : decode b_Model_end 26 = .ok (.getfield 41, 3) := by decide +kernel
theorem d_Model_end_29 : decode b_Model_end 29 = .ok (.iload_n 1, 1) := by decide +kernel
theorem d_Model_end_30 : decode b_Model_end 30 = .ok (.isub, 1) := by decide +kernel
theorem d_Model_end_31 : decode b_Model_end 31 = .ok (.putfield 41, 3) := by decide +kernel
theorem d_Model_end_34 : decode b_Model_end 34 = .ok (.aload_n 0, 1) := by decide +kernel
theorem d_Model_end_35 : decode b_Model_end 35 = .ok (.getfield 41, 3) := by decide +kernel
theorem d_Model_end_38 : decode b_Model_end 38 = .ok (.ireturn, 1) := by decide +kernel
set_option maxHeartbeats 4000000 in
set_option maxRecDepth 100000 in
theorem c_Model_end (l : Launch) {dA : FieldType → ClassId} {D : va_G} {al : Nat → Nat} {ext : mv_Sh} {sk sv : Nat → Nat} (hi : mv_inj (mg dA D al ext)) (σ : mv_H) (n9 : Int32) (k9 : Nat) (hz : (mv_i σ 70 1).toInt = k9) (hk : k9 ≤ 32768) : mv_C l y_Model_end (Cond.code y_Model_end b_Model_end 2 (Option.some Jvm.ClassFile.FieldType.int) :: ma) ({ frames := 0, cells := 0, slots := 0, locals := 0 }) (mg dA D al ext) (mK sk sv) [.ref (al 70), .int n9] σ (mv_Ri (fun v σ1 => (FD σ σ1 ∧ mv_a σ1 71 = mv_a σ 71) ∧ (mv_i σ1 70 1).toInt = (if n9.toInt < 0 ∨ (k9 : Int) < n9.toInt then k9 else k9 - n9.toInt.toNat : Nat) ∧ (((n9.toInt < 0 ∨ (k9 : Int) < n9.toInt) ∧ mv_i σ1 70 2 = 1) ∨ (¬ (n9.toInt < 0 ∨ (k9 : Int) < n9.toInt) ∧ mv_i σ1 70 2 = 0 ∧ v.toInt = ((k9 - n9.toInt.toNat : Nat) : Int))))) := by
  refine mv_C.ofV (cc := b_Model_end) (nL := 2) (ret := (Option.some Jvm.ClassFile.FieldType.int)) (by decide +kernel) rfl hi (Nat.le_of_ble_eq_true rfl) ?_
  intro p e s m below meth c B hNs hr hnm hno
  refine mv_aload_n (pc := 0) B d_Model_end_0 rfl 0 rfl ?_
  refine mv_iconst (pc := 1) (v := 0) B d_Model_end_1 (by decide) ?_
  refine mv_putI (pc := 2) (ci := 11) (C := R_Model) (T := F_Model) (N := 16) B 2 rfl rfl (by decide) i_Model t_Model_ok n_Model (B.2.2.2.1 _ k_2047) rfl rfl rfl rfl d_Model_end_2 ?_
  refine mv_gen (fun S5 eS5 => ?_)
  have hF5 : FD σ S5 := by rw [eS5]; exact FD.si Fx.rf (Or.inr rfl)
  have x5 : (mv_i S5 70 1).toInt = k9 := by rw [eS5, mv_si_o _ _ (by omega)]; exact hz
  have y5 : mv_i S5 70 2 = 0 := by rw [eS5, mv_si_s]
  have r5 : mv_a S5 71 = mv_a σ 71 := by rw [eS5]; rfl
  clear eS5
  refine mv_iload_n (pc := 5) B d_Model_end_5 rfl 1 rfl ?_
  refine mv_if_lt (pc := 6) (tgt := 17) B d_Model_end_6 rfl (fun h6 => ?_) (fun h6 => ?_)
  · skip
    have h6 : n9.toInt < 0 := Int32.lt_iff_toInt_lt.mp h6
    refine mv_aload_n (pc := 17) B d_Model_end_17 rfl 0 rfl ?_
    refine mv_iconst (pc := 18) (v := 1) B d_Model_end_18 (by decide) ?_
    refine mv_putI (pc := 19) (ci := 11) (C := R_Model) (T := F_Model) (N := 16) B 2 rfl rfl (by decide) i_Model t_Model_ok n_Model (B.2.2.2.1 _ k_2047) rfl rfl rfl rfl d_Model_end_19 ?_
    refine mv_iconst (pc := 22) (v := 0) B d_Model_end_22 (by decide) ?_
    exact mv_iret (pc := 23) B hr rfl d_Model_end_23 (Nat.le_refl _) (Nat.le_refl _) ⟨_, rfl, ⟨hF5.si (Or.inr rfl), r5⟩, by rw [mv_si_o _ _ (by omega), x5, if_pos (by omega)], Or.inl ⟨by omega, by rw [mv_si_s]⟩⟩
  · skip
    have h6 : ¬ n9.toInt < 0 := fun z => h6 (Int32.lt_iff_toInt_lt.mpr z)
    refine mv_iload_n (pc := 9) B d_Model_end_9 rfl 1 rfl ?_
    refine mv_aload_n (pc := 10) B d_Model_end_10 rfl 0 rfl ?_
    refine mv_getI (pc := 11) (ci := 11) (C := R_Model) (T := F_Model) (N := 16) B 1 rfl rfl (by decide) i_Model (B.2.2.2.1 _ k_2046) rfl d_Model_end_11 ?_
    refine mv_icmp_le (pc := 14) (tgt := 24) B d_Model_end_14 rfl (fun h14 => ?_) (fun h14 => ?_)
    · skip
      rw [Int32.le_iff_toInt_le, x5] at h14
      refine mv_aload_n (pc := 24) B d_Model_end_24 rfl 0 rfl ?_
      refine mv_dup (pc := 25) B d_Model_end_25 rfl ?_
      refine mv_getI (pc := 26) (ci := 11) (C := R_Model) (T := F_Model) (N := 16) B 1 rfl rfl (by decide) i_Model (B.2.2.2.1 _ k_2046) rfl d_Model_end_26 ?_
      refine mv_iload_n (pc := 29) B d_Model_end_29 rfl 1 rfl ?_
      refine mv_isub (pc := 30) B d_Model_end_30 ?_
      refine mv_putI (pc := 31) (ci := 11) (C := R_Model) (T := F_Model) (N := 16) B 1 rfl rfl (by decide) i_Model t_Model_ok n_Model (B.2.2.2.1 _ k_2046) rfl rfl rfl rfl d_Model_end_31 ?_
      refine mv_aload_n (pc := 34) B d_Model_end_34 rfl 0 rfl ?_
      refine mv_getI (pc := 35) (ci := 11) (C := R_Model) (T := F_Model) (N := 16) B 1 rfl rfl (by decide) i_Model (B.2.2.2.1 _ k_2046) rfl d_Model_end_35 ?_
      exact mv_iret (pc := 38) B hr rfl d_Model_end_38 (Nat.le_refl _) (Nat.le_refl _) ⟨_, rfl, ⟨hF5.si (Or.inl rfl), r5⟩, by rw [mv_si_s, i32_sub (by omega) (by omega), x5, if_neg (by omega)]; omega, Or.inr ⟨by omega, by rw [mv_si_o _ _ (by omega)]; exact y5, by rw [mv_si_s, i32_sub (by omega) (by omega), x5]; omega⟩⟩
    · skip
      rw [Int32.le_iff_toInt_le, x5] at h14
      refine mv_aload_n (pc := 17) B d_Model_end_17 rfl 0 rfl ?_
      refine mv_iconst (pc := 18) (v := 1) B d_Model_end_18 (by decide) ?_
      refine mv_putI (pc := 19) (ci := 11) (C := R_Model) (T := F_Model) (N := 16) B 2 rfl rfl (by decide) i_Model t_Model_ok n_Model (B.2.2.2.1 _ k_2047) rfl rfl rfl rfl d_Model_end_19 ?_
      refine mv_iconst (pc := 22) (v := 0) B d_Model_end_22 (by decide) ?_
      exact mv_iret (pc := 23) B hr rfl d_Model_end_23 (Nat.le_refl _) (Nat.le_refl _) ⟨_, rfl, ⟨hF5.si (Or.inr rfl), r5⟩, by rw [mv_si_o _ _ (by omega), x5, if_pos (by omega)], Or.inl ⟨by omega, by rw [mv_si_s]⟩⟩
def y_Model_ship : MethodName := ⟨"MachineLoomModel", "ship", "()I"⟩
abbrev b_Model_ship : ByteArray := prog_14_method_27_code
theorem kc_Model_ship : Cond.code y_Model_ship b_Model_ship 2 (Option.some Jvm.ClassFile.FieldType.int) ∈ ma := ma_of (tb_10 _ (List.mem_of_getElem? (i := 188) rfl)) rfl
theorem k_2341 : (Jvm.Cond.methodLink "MachineLoomModel" (166 : Nat) ({ cls := "MachineLoomModel", name := "fresh", desc := "()V" } : Jvm.MethodName)) ∈ ma := ma_of (tb_10 _ (List.mem_of_getElem? (i := 181) rfl)) rfl
theorem k_2343 : (Jvm.Cond.instanceMethod ({ cls := "MachineLoomModel", name := "fresh", desc := "()V" } : Jvm.MethodName)) ∈ ma := ma_of (tb_10 _ (List.mem_of_getElem? (i := 183) rfl)) rfl
theorem ks_123 : Cond.selects "MachineLoomModel" ⟨"MachineLoomModel", "fresh", "()V"⟩ ⟨"MachineLoomModel", "fresh", "()V"⟩ ∈ ma := ma_sel 123 rfl rfl
theorem k_2056 : (Jvm.Cond.fieldLink "MachineLoomModel" (162 : Nat) "MachineLoomModel" "shipped" "Z") ∈ ma := ma_of (tb_9 _ (List.mem_of_getElem? (i := 136) rfl)) rfl
theorem d_Model_ship_0 : decode b_Model_ship 0 = .ok (.aload_n 0, 1) := by decide +kernel
theorem d_Model_ship_1 : decode b_Model_ship 1 = .ok (.iconst 0, 1) := by decide +kernel
theorem d_Model_ship_2 : decode b_Model_ship 2 = .ok (.putfield 38, 3) := by decide +kernel
theorem d_Model_ship_5 : decode b_Model_ship 5 = .ok (.aload_n 0, 1) := by decide +kernel
theorem d_Model_ship_6 : decode b_Model_ship 6 = .ok (.iconst 1, 1) := by decide +kernel
theorem d_Model_ship_7 : decode b_Model_ship 7 = .ok (.putfield 162, 3) := by decide +kernel
theorem d_Model_ship_10 : decode b_Model_ship 10 = .ok (.aload_n 0, 1) := by decide +kernel
theorem d_Model_ship_11 : decode b_Model_ship 11 = .ok (.iconst 0, 1) := by decide +kernel
theorem d_Model_ship_12 : decode b_Model_ship 12 = .ok (.putfield 59, 3) := by decide +kernel
theorem d_Model_ship_15 : decode b_Model_ship 15 = .ok (.iconst 0, 1) := by decide +kernel
theorem d_Model_ship_16 : decode b_Model_ship 16 = .ok (.istore_n 1, 1) := by decide +kernel
theorem d_Model_ship_17 : decode b_Model_ship 17 = .ok (.iload_n 1, 1) := by decide +kernel
theorem d_Model_ship_18 : decode b_Model_ship 18 = .ok (.bipush 32, 2) := by decide +kernel
theorem d_Model_ship_20 : decode b_Model_ship 20 = .ok (.if_icmp .ge (16), 3) := by decide +kernel
theorem d_Model_ship_23 : decode b_Model_ship 23 = .ok (.aload_n 0, 1) := by decide +kernel
theorem d_Model_ship_24 : decode b_Model_ship 24 = .ok (.getfield 21, 3) := by decide +kernel
theorem d_Model_ship_27 : decode b_Model_ship 27 = .ok (.iload_n 1, 1) := by decide +kernel
theorem d_Model_ship_28 : decode b_Model_ship 28 = .ok (.iconst 0, 1) := by decide +kernel
theorem d_Model_ship_29 : decode b_Model_ship 29 = .ok (.iastore, 1) := by decide +kernel
theorem d_Model_ship_30 : decode b_Model_ship 30 = .ok (.iinc 1 (1), 3) := by decide +kernel
theorem d_Model_ship_33 : decode b_Model_ship 33 = .ok (.goto (-16), 3) := by decide +kernel
theorem d_Model_ship_36 : decode b_Model_ship 36 = .ok (.iconst 0, 1) := by decide +kernel
theorem d_Model_ship_37 : decode b_Model_ship 37 = .ok (.istore_n 1, 1) := by decide +kernel
theorem d_Model_ship_38 : decode b_Model_ship 38 = .ok (.iload_n 1, 1) := by decide +kernel
theorem d_Model_ship_39 : decode b_Model_ship 39 = .ok (.ldc 7, 2) := by decide +kernel
theorem d_Model_ship_41 : decode b_Model_ship 41 = .ok (.if_icmp .ge (16), 3) := by decide +kernel
theorem d_Model_ship_44 : decode b_Model_ship 44 = .ok (.aload_n 0, 1) := by decide +kernel
theorem d_Model_ship_45 : decode b_Model_ship 45 = .ok (.getfield 25, 3) := by decide +kernel
theorem d_Model_ship_48 : decode b_Model_ship 48 = .ok (.iload_n 1, 1) := by decide +kernel
theorem d_Model_ship_49 : decode b_Model_ship 49 = .ok (.iconst 0, 1) := by decide +kernel
theorem d_Model_ship_50 : decode b_Model_ship 50 = .ok (.bastore, 1) := by decide +kernel
theorem d_Model_ship_51 : decode b_Model_ship 51 = .ok (.iinc 1 (1), 3) := by decide +kernel
theorem d_Model_ship_54 : decode b_Model_ship 54 = .ok (.goto (-16), 3) := by decide +kernel
theorem d_Model_ship_57 : decode b_Model_ship 57 = .ok (.aload_n 0, 1) := by decide +kernel
theorem d_Model_ship_58 : decode b_Model_ship 58 = .ok (.invokevirtual 166, 3) := by decide +kernel
theorem d_Model_ship_61 : decode b_Model_ship 61 = .ok (.bipush 48, 2) := by decide +kernel
theorem d_Model_ship_63 : decode b_Model_ship 63 = .ok (.ireturn, 1) := by decide +kernel
set_option maxHeartbeats 4000000 in
set_option maxRecDepth 100000 in
theorem c_Model_ship (l : Launch) {dA : FieldType → ClassId} {D : va_G} {al : Nat → Nat} {ext : mv_Sh} {sk sv : Nat → Nat} (hi : mv_inj (mg dA D al ext)) (σ : mv_H) (hmr : mh (mv_r σ)) : mv_C l y_Model_ship (Cond.code y_Model_ship b_Model_ship 2 (Option.some Jvm.ClassFile.FieldType.int) :: ma) ({ frames := 1, cells := 0, slots := 0, locals := 20 }) (mg dA D al ext) (mK sk sv) [.ref (al 70)] σ (mv_Ri (fun v σ1 => HFm σ σ1 ∧ v = 48)) := by
  refine mv_C.ofV (cc := b_Model_ship) (nL := 2) (ret := (Option.some Jvm.ClassFile.FieldType.int)) (by decide +kernel) rfl hi (Nat.le_of_ble_eq_true rfl) ?_
  intro p e s m below meth c B hNs hr hnm hno
  have lp2 : ∀ (nn : Nat) (τ : mv_H) (i9 : Int32) (hFt : HFm σ τ) (q0 : 0 ≤ i9.toInt), (40000 - i9.toInt).toNat < nn → mv_V p l e ({ frames := 1, cells := 0, slots := 0, locals := 20 }) s m ([.ref (al 70)] : List Value).toArray below meth c (mg dA D al ext) 2 0 0 (mv_Q (mg dA D al ext) below s 0 0 (mv_Ri (fun v σ1 => HFm σ σ1 ∧ v = 48))) τ 38 [(1, .int i9), (0, .ref (al 70))] [] := by
    intro nn
    induction nn with
    | zero => intro τ i9 hFt q0 hm; exact absurd hm (Nat.not_lt_zero _)
    | succ nn ih =>
      intro τ i9 hFt q0 hm
      have hmt : mh (mv_r τ) := by rw [hFt.2.2.1]; exact hmr
      refine mv_iload_n (pc := 38) B d_Model_ship_38 rfl 0 rfl ?_
      refine mv_ldc (pc := 39) (v := 32768) B (B.2.2.2.1 _ k_1815) d_Model_ship_39 ?_
      refine mv_icmp_ge (pc := 41) (tgt := 57) B d_Model_ship_41 rfl (fun h41 => ?_) (fun h41 => ?_)
      · skip
        refine mv_aload_n (pc := 57) B d_Model_ship_57 rfl 1 rfl ?_
        refine mv_callVv (pc := 58) (n := 0) (ci := 11) (C := R_Model) B (mK_ok sk sv) hNs rfl rfl (c_Model_fresh l hi _) rfl (ma_goodc kc_Model_fresh) (B.2.2.2.1 _ k_2341) (B.2.2.2.1 _ k_2343) (B.2.2.2.1 _ ks_123) (B.2.2.2.1 _ k_12) ⟨by decide +kernel, by decide +kernel, by decide +kernel⟩ rfl d_Model_ship_58 rfl (Nat.le_of_ble_eq_true rfl) ⟨by decide, by decide⟩ ⟨by decide, by decide⟩ ⟨by decide, by decide⟩ (mv_noH hno _) (fun σ58 h58 => ?_)
        refine mv_bipush (pc := 61) (v := 48) B d_Model_ship_61 (by decide) ?_
        exact mv_iret (pc := 63) B hr rfl d_Model_ship_63 (Nat.le_refl _) (Nat.le_refl _) ⟨_, rfl, Fx.tr hFt (Fx.up h58 (fun o k z => ⟨z.1, z.2.1⟩) (fun o k z => z) (fun o k z => z) (fun o z => z)), rfl⟩
      · skip
        rw [Int32.le_iff_toInt_le] at h41
        have h41 : ¬ 32768 ≤ i9.toInt := h41
        have w2 : (i9 + 1).toInt = i9.toInt + 1 := i32_inc (by omega)
        refine mv_aload_n (pc := 44) B d_Model_ship_44 rfl 1 rfl ?_
        refine mv_getR (pc := 45) (ci := 11) (C := R_Model) (T := F_Model) (N := 16) B 8 rfl rfl (by decide) i_Model (B.2.2.2.1 _ k_2053) rfl (hmt _ 8 _ rfl) d_Model_ship_45 ?_
        refine mv_iload_n (pc := 48) B d_Model_ship_48 rfl 0 rfl ?_
        refine mv_iconst (pc := 49) (v := 0) B d_Model_ship_49 (by decide) ?_
        refine mv_bast (pc := 50) B rfl (i32_in q0 (show i9.toInt < 32768 by omega)) d_Model_ship_50 ?_
        refine mv_iinc (pc := 51) (j := 0) (v := 1) B d_Model_ship_51 rfl (by decide) (by decide) rfl ?_
        refine mv_goto (pc := 54) (tgt := 38) B d_Model_ship_54 rfl ?_
        refine mv_lpick [0, 1] rfl ?_
        exact ih _ _ hFt.m (by omega) (by omega)
  have lp1 : ∀ (nn : Nat) (τ : mv_H) (i9 : Int32) (hFt : HFm σ τ) (q0 : 0 ≤ i9.toInt), (40000 - i9.toInt).toNat < nn → mv_V p l e ({ frames := 1, cells := 0, slots := 0, locals := 20 }) s m ([.ref (al 70)] : List Value).toArray below meth c (mg dA D al ext) 2 0 0 (mv_Q (mg dA D al ext) below s 0 0 (mv_Ri (fun v σ1 => HFm σ σ1 ∧ v = 48))) τ 17 [(1, .int i9), (0, .ref (al 70))] [] := by
    intro nn
    induction nn with
    | zero => intro τ i9 hFt q0 hm; exact absurd hm (Nat.not_lt_zero _)
    | succ nn ih =>
      intro τ i9 hFt q0 hm
      have hmt : mh (mv_r τ) := by rw [hFt.2.2.1]; exact hmr
      refine mv_iload_n (pc := 17) B d_Model_ship_17 rfl 0 rfl ?_
      refine mv_bipush (pc := 18) (v := 32) B d_Model_ship_18 (by decide) ?_
      refine mv_icmp_ge (pc := 20) (tgt := 36) B d_Model_ship_20 rfl (fun h20 => ?_) (fun h20 => ?_)
      · skip
        refine mv_iconst (pc := 36) (v := 0) B d_Model_ship_36 (by decide) ?_
        refine mv_istore_n (pc := 37) B d_Model_ship_37 rfl (by decide) rfl ?_
        refine mv_lpick [0, 1] rfl ?_
        exact lp2 _ _ _ hFt (by decide) (Nat.lt_succ_self _)
      · skip
        rw [Int32.le_iff_toInt_le] at h20
        have h20 : ¬ 32 ≤ i9.toInt := h20
        have w2 : (i9 + 1).toInt = i9.toInt + 1 := i32_inc (by omega)
        refine mv_aload_n (pc := 23) B d_Model_ship_23 rfl 1 rfl ?_
        refine mv_getR (pc := 24) (ci := 11) (C := R_Model) (T := F_Model) (N := 16) B 7 rfl rfl (by decide) i_Model (B.2.2.2.1 _ k_2052) rfl (hmt _ 7 _ rfl) d_Model_ship_24 ?_
        refine mv_iload_n (pc := 27) B d_Model_ship_27 rfl 0 rfl ?_
        refine mv_iconst (pc := 28) (v := 0) B d_Model_ship_28 (by decide) ?_
        refine mv_iast (pc := 29) B rfl (i32_in q0 (show i9.toInt < 32 by omega)) d_Model_ship_29 ?_
        refine mv_iinc (pc := 30) (j := 0) (v := 1) B d_Model_ship_30 rfl (by decide) (by decide) rfl ?_
        refine mv_goto (pc := 33) (tgt := 17) B d_Model_ship_33 rfl ?_
        refine mv_lpick [0, 1] rfl ?_
        exact ih _ _ hFt.x (by omega) (by omega)
  refine mv_aload_n (pc := 0) B d_Model_ship_0 rfl 0 rfl ?_
  refine mv_iconst (pc := 1) (v := 0) B d_Model_ship_1 (by decide) ?_
  refine mv_putI (pc := 2) (ci := 11) (C := R_Model) (T := F_Model) (N := 16) B 2 rfl rfl (by decide) i_Model t_Model_ok n_Model (B.2.2.2.1 _ k_2047) rfl rfl rfl rfl d_Model_ship_2 ?_
  refine mv_aload_n (pc := 5) B d_Model_ship_5 rfl 0 rfl ?_
  refine mv_iconst (pc := 6) (v := 1) B d_Model_ship_6 (by decide) ?_
  refine mv_putI (pc := 7) (ci := 11) (C := R_Model) (T := F_Model) (N := 16) B 11 rfl rfl (by decide) i_Model t_Model_ok n_Model (B.2.2.2.1 _ k_2056) rfl rfl rfl rfl d_Model_ship_7 ?_
  refine mv_aload_n (pc := 10) B d_Model_ship_10 rfl 0 rfl ?_
  refine mv_iconst (pc := 11) (v := 0) B d_Model_ship_11 (by decide) ?_
  refine mv_putI (pc := 12) (ci := 11) (C := R_Model) (T := F_Model) (N := 16) B 6 rfl rfl (by decide) i_Model t_Model_ok n_Model (B.2.2.2.1 _ k_2051) rfl rfl rfl rfl d_Model_ship_12 ?_
  refine mv_iconst (pc := 15) (v := 0) B d_Model_ship_15 (by decide) ?_
  refine mv_istore_n (pc := 16) B d_Model_ship_16 rfl (by decide) rfl ?_
  refine mv_lpick [0, 1] rfl ?_
  exact lp1 _ _ _ (HFm.si (HFm.si (HFm.si Fx.rf (by decide)) (by decide)) (by decide)) (by decide) (Nat.lt_succ_self _)
def y_Model_decode : MethodName := ⟨"MachineLoomModel", "decode", "(J)I"⟩
abbrev b_Model_decode : ByteArray := prog_14_method_29_code
theorem kc_Model_decode : Cond.code y_Model_decode b_Model_decode 4 (Option.some Jvm.ClassFile.FieldType.int) ∈ ma := ma_of (tb_10 _ (List.mem_of_getElem? (i := 196) rfl)) rfl
theorem k_2054 : (Jvm.Cond.fieldLink "MachineLoomModel" (31 : Nat) "MachineLoomModel" "now" "LMachineLoomModel$Book;") ∈ ma := ma_of (tb_9 _ (List.mem_of_getElem? (i := 134) rfl)) rfl
theorem k_2370 : (Jvm.Cond.methodLink "MachineLoomModel" (172 : Nat) ({ cls := "MachineLoomModel$Book", name := "decode", desc := "(J)I" } : Jvm.MethodName)) ∈ ma := ma_of (tb_10 _ (List.mem_of_getElem? (i := 210) rfl)) rfl
theorem k_2371 : (Jvm.Cond.instanceMethod ({ cls := "MachineLoomModel$Book", name := "decode", desc := "(J)I" } : Jvm.MethodName)) ∈ ma := ma_of (tb_10 _ (List.mem_of_getElem? (i := 211) rfl)) rfl
theorem k_2372 : (Jvm.Cond.selects "MachineLoomModel$Book" ({ cls := "MachineLoomModel$Book", name := "decode", desc := "(J)I" } : Jvm.MethodName) ({ cls := "MachineLoomModel$Book", name := "decode", desc := "(J)I" } : Jvm.MethodName)) ∈ ma := ma_of (tb_10 _ (List.mem_of_getElem? (i := 212) rfl)) rfl
theorem k_2378 : (Jvm.Cond.methodLink "MachineLoomModel" (179 : Nat) ({ cls := "MachineLoomModel$Book", name := "op", desc := "()I" } : Jvm.MethodName)) ∈ ma := ma_of (tb_10 _ (List.mem_of_getElem? (i := 218) rfl)) rfl
theorem k_2379 : (Jvm.Cond.instanceMethod ({ cls := "MachineLoomModel$Book", name := "op", desc := "()I" } : Jvm.MethodName)) ∈ ma := ma_of (tb_10 _ (List.mem_of_getElem? (i := 219) rfl)) rfl
theorem k_2380 : (Jvm.Cond.selects "MachineLoomModel$Book" ({ cls := "MachineLoomModel$Book", name := "op", desc := "()I" } : Jvm.MethodName) ({ cls := "MachineLoomModel$Book", name := "op", desc := "()I" } : Jvm.MethodName)) ∈ ma := ma_of (tb_10 _ (List.mem_of_getElem? (i := 220) rfl)) rfl
theorem k_2060 : (Jvm.Cond.fieldLink "MachineLoomModel" (176 : Nat) "MachineLoomModel" "beyond" "I") ∈ ma := ma_of (tb_9 _ (List.mem_of_getElem? (i := 140) rfl)) rfl
theorem d_Model_decode_0 : decode b_Model_decode 0 = .ok (.aload_n 0, 1) := by decide +kernel
theorem d_Model_decode_1 : decode b_Model_decode 1 = .ok (.iconst 0, 1) := by decide +kernel
theorem d_Model_decode_2 : decode b_Model_decode 2 = .ok (.putfield 38, 3) := by decide +kernel
theorem d_Model_decode_5 : decode b_Model_decode 5 = .ok (.aload_n 0, 1) := by decide +kernel
theorem d_Model_decode_6 : decode b_Model_decode 6 = .ok (.getfield 162, 3) := by decide +kernel
theorem d_Model_decode_9 : decode b_Model_decode 9 = .ok (.ifCond .eq (9), 3) := by decide +kernel
theorem d_Model_decode_12 : decode b_Model_decode 12 = .ok (.lload_n 1, 1) := by decide +kernel
theorem d_Model_decode_13 : decode b_Model_decode 13 = .ok (.l2i, 1) := by decide +kernel
theorem d_Model_decode_14 : decode b_Model_decode 14 = .ok (.invokestatic 89, 3) := by decide +kernel
theorem d_Model_decode_17 : decode b_Model_decode 17 = .ok (.ireturn, 1) := by decide +kernel
theorem d_Model_decode_18 : decode b_Model_decode 18 = .ok (.aload_n 0, 1) := by decide +kernel
theorem d_Model_decode_19 : decode b_Model_decode 19 = .ok (.getfield 31, 3) := by decide +kernel
theorem d_Model_decode_22 : decode b_Model_decode 22 = .ok (.lload_n 1, 1) := by decide +kernel
theorem d_Model_decode_23 : decode b_Model_decode 23 = .ok (.invokevirtual 172, 3) := by decide +kernel
theorem d_Model_decode_26 : decode b_Model_decode 26 = .ok (.istore_n 3, 1) := by decide +kernel
theorem d_Model_decode_27 : decode b_Model_decode 27 = .ok (.iload_n 3, 1) := by decide +kernel
theorem d_Model_decode_28 : decode b_Model_decode 28 = .ok (.iconst 1, 1) := by decide +kernel
theorem d_Model_decode_29 : decode b_Model_decode 29 = .ok (.if_icmp .le (15), 3) := by decide +kernel
theorem d_Model_decode_32 : decode b_Model_decode 32 = .ok (.aload_n 0, 1) := by decide +kernel
theorem d_Model_decode_33 : decode b_Model_decode 33 = .ok (.dup, 1) := by decide +kernel
theorem d_Model_decode_34 : decode b_Model_decode 34 = .ok (.getfield 176, 3) := by decide +kernel
theorem d_Model_decode_37 : decode b_Model_decode 37 = .ok (.iload_n 3, 1) := by decide +kernel
theorem d_Model_decode_38 : decode b_Model_decode 38 = .ok (.iconst 1, 1) := by decide +kernel
theorem d_Model_decode_39 : decode b_Model_decode 39 = .ok (.isub, 1) := by decide +kernel
theorem d_Model_decode_40 : decode b_Model_decode 40 = .ok (.iadd, 1) := by decide +kernel
theorem d_Model_decode_41 : decode b_Model_decode 41 = .ok (.putfield 176, 3) := by decide +kernel
theorem d_Model_decode_44 : decode b_Model_decode 44 = .ok (.aload_n 0, 1) := by decide +kernel
theorem d_Model_decode_45 : decode b_Model_decode 45 = .ok (.getfield 31, 3) := by decide +kernel
theorem d_Model_decode_48 : decode b_Model_decode 48 = .ok (.invokevirtual 179, 3) := by decide +kernel
theorem d_Model_decode_51 : decode b_Model_decode 51 = .ok (.ireturn, 1) := by decide +kernel
set_option maxHeartbeats 4000000 in
set_option maxRecDepth 100000 in
theorem c_Model_decode_x (l : Launch) {dA : FieldType → ClassId} {D : va_G} {al : Nat → Nat} {ext : mv_Sh} {sk sv : Nat → Nat} (hi : mv_inj (mg dA D al ext)) (σ : mv_H) (hM : MI 74 108 σ) (w0 : Int64) : mv_C l y_Model_decode (Cond.code y_Model_decode b_Model_decode 4 (Option.some Jvm.ClassFile.FieldType.int) :: ma) ({ frames := 2, cells := 0, slots := 0, locals := 49 }) (mg dA D al ext) (mK sk sv) [.ref (al 70), .long w0] σ (mv_Ri (fun v σ1 => QF 74 σ σ1 ∧ (mv_i σ 70 11 = 0 → CU 74 σ1))) := by
  refine mv_C.ofV (cc := b_Model_decode) (nL := 4) (ret := (Option.some Jvm.ClassFile.FieldType.int)) (by decide +kernel) rfl hi (Nat.le_of_ble_eq_true rfl) ?_
  intro p e s m below meth c B hNs hr hnm hno
  have hN : 74 = 74 ∨ 74 = 108 := by decide
  refine mv_aload_n (pc := 0) B d_Model_decode_0 rfl 0 rfl ?_
  refine mv_iconst (pc := 1) (v := 0) B d_Model_decode_1 (by decide) ?_
  refine mv_putI (pc := 2) (ci := 11) (C := R_Model) (T := F_Model) (N := 16) B 2 rfl rfl (by decide) i_Model t_Model_ok n_Model (B.2.2.2.1 _ k_2047) rfl rfl rfl rfl d_Model_decode_2 ?_
  refine mv_gen (fun S5 eS5 => ?_)
  have hF : QF 74 σ S5 := by rw [eS5]; exact QF.si Fx.rf (by decide)
  have hM := hM.qf hF hN
  have e11 := hF.sh hN
  clear eS5
  refine mv_aload_n (pc := 5) B d_Model_decode_5 rfl 0 rfl ?_
  refine mv_getI (pc := 6) (ci := 11) (C := R_Model) (T := F_Model) (N := 16) B 11 rfl rfl (by decide) i_Model (B.2.2.2.1 _ k_2056) rfl d_Model_decode_6 ?_
  refine mv_if_eq (pc := 9) (tgt := 18) B d_Model_decode_9 rfl (fun h9 => ?_) (fun h9 => ?_)
  · skip
    have hM0 := hM
    obtain ⟨-, -, -, th, n, k, g1, g2, g3, g4, g5, g6, g7, g8⟩ := hM0
    clear g6 g7 g8
    refine mv_aload_n (pc := 18) B d_Model_decode_18 rfl 0 rfl ?_
    refine mv_getR (pc := 19) (ci := 11) (C := R_Model) (T := F_Model) (N := 16) B 9 rfl rfl (by decide) i_Model (B.2.2.2.1 _ k_2054) rfl hM.2.1 d_Model_decode_19 ?_
    refine mv_lload_n (pc := 22) B d_Model_decode_22 rfl 1 rfl ?_
    refine mv_callVi (pc := 23) (n := 1) (ci := 12) (C := R_Book) B (mK_ok sk sv) hNs rfl rfl (c_Book_decode_x l hi _ _ k hM.1 g5) rfl (ma_goodc kc_Book_decode) (B.2.2.2.1 _ k_2370) (B.2.2.2.1 _ k_2371) (B.2.2.2.1 _ k_2372) (B.2.2.2.1 _ k_13) ⟨by decide +kernel, by decide +kernel, by decide +kernel⟩ rfl d_Model_decode_23 rfl (Nat.le_of_ble_eq_true rfl) ⟨by decide, by decide⟩ ⟨by decide, by decide⟩ ⟨by decide, by decide⟩ (mv_noH hno _) (fun v23 σ23 h23 => ?_)
    obtain ⟨f23, u23⟩ := h23
    have hF := hF.tr f23.qf
    have hM := hM.qf f23.qf hN
    have hU : CU 74 σ23 := by
      have e29 : mv_i σ23 74 29 = mv_i S5 74 29 := f23.1 _ _ (by omega)
      unfold CU
      rw [e29, g5.1]
      exact u23
    refine mv_istore_n (pc := 26) B d_Model_decode_26 rfl (by decide) rfl ?_
    refine mv_iload_n (pc := 27) B d_Model_decode_27 rfl 0 rfl ?_
    refine mv_iconst (pc := 28) (v := 1) B d_Model_decode_28 (by decide) ?_
    refine mv_icmp_le (pc := 29) (tgt := 44) B d_Model_decode_29 rfl (fun h29 => ?_) (fun h29 => ?_)
    · skip
      refine mv_aload_n (pc := 44) B d_Model_decode_44 rfl 1 rfl ?_
      refine mv_getR (pc := 45) (ci := 11) (C := R_Model) (T := F_Model) (N := 16) B 9 rfl rfl (by decide) i_Model (B.2.2.2.1 _ k_2054) rfl hM.2.1 d_Model_decode_45 ?_
      refine mv_callVi (pc := 48) (n := 0) (ci := 12) (C := R_Book) B (mK_ok sk sv) hNs rfl rfl (c_Book_op_x l hi _) rfl (ma_goodc kc_Book_op) (B.2.2.2.1 _ k_2378) (B.2.2.2.1 _ k_2379) (B.2.2.2.1 _ k_2380) (B.2.2.2.1 _ k_13) ⟨by decide +kernel, by decide +kernel, by decide +kernel⟩ rfl d_Model_decode_48 rfl (Nat.le_of_ble_eq_true rfl) ⟨by decide, by decide⟩ ⟨by decide, by decide⟩ ⟨by decide, by decide⟩ (mv_noH hno _) (fun v48 σ48 h48 => ?_)
      have e48 := h48.symm
      subst e48
      exact mv_iret (pc := 51) B hr rfl d_Model_decode_51 (Nat.le_refl _) (Nat.le_refl _) ⟨_, rfl, by first | exact ⟨hF, fun _ => hU⟩ | exact ⟨hF.si (by decide), fun _ => hU.fr (mv_si_o _ _ (by omega)) (mv_si_o _ _ (by omega))⟩⟩
    · skip
      refine mv_aload_n (pc := 32) B d_Model_decode_32 rfl 1 rfl ?_
      refine mv_dup (pc := 33) B d_Model_decode_33 rfl ?_
      refine mv_getI (pc := 34) (ci := 11) (C := R_Model) (T := F_Model) (N := 16) B 15 rfl rfl (by decide) i_Model (B.2.2.2.1 _ k_2060) rfl d_Model_decode_34 ?_
      refine mv_iload_n (pc := 37) B d_Model_decode_37 rfl 0 rfl ?_
      refine mv_iconst (pc := 38) (v := 1) B d_Model_decode_38 (by decide) ?_
      refine mv_isub (pc := 39) B d_Model_decode_39 ?_
      refine mv_iadd (pc := 40) B d_Model_decode_40 ?_
      refine mv_putI (pc := 41) (ci := 11) (C := R_Model) (T := F_Model) (N := 16) B 15 rfl rfl (by decide) i_Model t_Model_ok n_Model (B.2.2.2.1 _ k_2060) rfl rfl rfl rfl d_Model_decode_41 ?_
      refine mv_aload_n (pc := 44) B d_Model_decode_44 rfl 1 rfl ?_
      refine mv_getR (pc := 45) (ci := 11) (C := R_Model) (T := F_Model) (N := 16) B 9 rfl rfl (by decide) i_Model (B.2.2.2.1 _ k_2054) rfl hM.2.1 d_Model_decode_45 ?_
      refine mv_callVi (pc := 48) (n := 0) (ci := 12) (C := R_Book) B (mK_ok sk sv) hNs rfl rfl (c_Book_op_x l hi _) rfl (ma_goodc kc_Book_op) (B.2.2.2.1 _ k_2378) (B.2.2.2.1 _ k_2379) (B.2.2.2.1 _ k_2380) (B.2.2.2.1 _ k_13) ⟨by decide +kernel, by decide +kernel, by decide +kernel⟩ rfl d_Model_decode_48 rfl (Nat.le_of_ble_eq_true rfl) ⟨by decide, by decide⟩ ⟨by decide, by decide⟩ ⟨by decide, by decide⟩ (mv_noH hno _) (fun v48 σ48 h48 => ?_)
      have e48 := h48.symm
      subst e48
      exact mv_iret (pc := 51) B hr rfl d_Model_decode_51 (Nat.le_refl _) (Nat.le_refl _) ⟨_, rfl, by first | exact ⟨hF, fun _ => hU⟩ | exact ⟨hF.si (by decide), fun _ => hU.fr (mv_si_o _ _ (by omega)) (mv_si_o _ _ (by omega))⟩⟩
  · skip
    refine mv_lload_n (pc := 12) B d_Model_decode_12 rfl 1 rfl ?_
    refine mv_l2i (pc := 13) B d_Model_decode_13 ?_
    refine mv_callSi (pc := 14) (n := 1) B (mK_ok sk sv) hNs (c_Model_shippedOp l hi _ _) rfl (ma_goodc kc_Model_shippedOp) (B.2.2.2.1 _ k_2357) (B.2.2.2.1 _ k_2358) (B.2.2.2.1 _ k_12) ⟨by decide +kernel, by decide +kernel, by decide +kernel⟩ rfl d_Model_decode_14 rfl (Nat.le_of_ble_eq_true rfl) ⟨by decide, by decide⟩ ⟨by decide, by decide⟩ ⟨by decide, by decide⟩ (mv_noH hno _) (fun v14 σ14 h14 => ?_)
    have e14 := h14.symm
    subst e14
    exact mv_iret (pc := 17) B hr rfl d_Model_decode_17 (Nat.le_refl _) (Nat.le_refl _) ⟨_, rfl, hF, fun z => absurd (e11.trans z) h9⟩
set_option maxHeartbeats 4000000 in
set_option maxRecDepth 100000 in
theorem c_Model_decode_y (l : Launch) {dA : FieldType → ClassId} {D : va_G} {al : Nat → Nat} {ext : mv_Sh} {sk sv : Nat → Nat} (hi : mv_inj (mg dA D al ext)) (σ : mv_H) (hM : MI 108 74 σ) (w0 : Int64) : mv_C l y_Model_decode (Cond.code y_Model_decode b_Model_decode 4 (Option.some Jvm.ClassFile.FieldType.int) :: ma) ({ frames := 2, cells := 0, slots := 0, locals := 49 }) (mg dA D al ext) (mK sk sv) [.ref (al 70), .long w0] σ (mv_Ri (fun v σ1 => QF 108 σ σ1 ∧ (mv_i σ 70 11 = 0 → CU 108 σ1))) := by
  refine mv_C.ofV (cc := b_Model_decode) (nL := 4) (ret := (Option.some Jvm.ClassFile.FieldType.int)) (by decide +kernel) rfl hi (Nat.le_of_ble_eq_true rfl) ?_
  intro p e s m below meth c B hNs hr hnm hno
  have hN : 108 = 74 ∨ 108 = 108 := by decide
  refine mv_aload_n (pc := 0) B d_Model_decode_0 rfl 0 rfl ?_
  refine mv_iconst (pc := 1) (v := 0) B d_Model_decode_1 (by decide) ?_
  refine mv_putI (pc := 2) (ci := 11) (C := R_Model) (T := F_Model) (N := 16) B 2 rfl rfl (by decide) i_Model t_Model_ok n_Model (B.2.2.2.1 _ k_2047) rfl rfl rfl rfl d_Model_decode_2 ?_
  refine mv_gen (fun S5 eS5 => ?_)
  have hF : QF 108 σ S5 := by rw [eS5]; exact QF.si Fx.rf (by decide)
  have hM := hM.qf hF hN
  have e11 := hF.sh hN
  clear eS5
  refine mv_aload_n (pc := 5) B d_Model_decode_5 rfl 0 rfl ?_
  refine mv_getI (pc := 6) (ci := 11) (C := R_Model) (T := F_Model) (N := 16) B 11 rfl rfl (by decide) i_Model (B.2.2.2.1 _ k_2056) rfl d_Model_decode_6 ?_
  refine mv_if_eq (pc := 9) (tgt := 18) B d_Model_decode_9 rfl (fun h9 => ?_) (fun h9 => ?_)
  · skip
    have hM0 := hM
    obtain ⟨-, -, -, th, n, k, g1, g2, g3, g4, g5, g6, g7, g8⟩ := hM0
    clear g6 g7 g8
    refine mv_aload_n (pc := 18) B d_Model_decode_18 rfl 0 rfl ?_
    refine mv_getR (pc := 19) (ci := 11) (C := R_Model) (T := F_Model) (N := 16) B 9 rfl rfl (by decide) i_Model (B.2.2.2.1 _ k_2054) rfl hM.2.1 d_Model_decode_19 ?_
    refine mv_lload_n (pc := 22) B d_Model_decode_22 rfl 1 rfl ?_
    refine mv_callVi (pc := 23) (n := 1) (ci := 12) (C := R_Book) B (mK_ok sk sv) hNs rfl rfl (c_Book_decode_y l hi _ _ k hM.1 g5) rfl (ma_goodc kc_Book_decode) (B.2.2.2.1 _ k_2370) (B.2.2.2.1 _ k_2371) (B.2.2.2.1 _ k_2372) (B.2.2.2.1 _ k_13) ⟨by decide +kernel, by decide +kernel, by decide +kernel⟩ rfl d_Model_decode_23 rfl (Nat.le_of_ble_eq_true rfl) ⟨by decide, by decide⟩ ⟨by decide, by decide⟩ ⟨by decide, by decide⟩ (mv_noH hno _) (fun v23 σ23 h23 => ?_)
    obtain ⟨f23, u23⟩ := h23
    have hF := hF.tr f23.qf
    have hM := hM.qf f23.qf hN
    have hU : CU 108 σ23 := by
      have e29 : mv_i σ23 108 29 = mv_i S5 108 29 := f23.1 _ _ (by omega)
      unfold CU
      rw [e29, g5.1]
      exact u23
    refine mv_istore_n (pc := 26) B d_Model_decode_26 rfl (by decide) rfl ?_
    refine mv_iload_n (pc := 27) B d_Model_decode_27 rfl 0 rfl ?_
    refine mv_iconst (pc := 28) (v := 1) B d_Model_decode_28 (by decide) ?_
    refine mv_icmp_le (pc := 29) (tgt := 44) B d_Model_decode_29 rfl (fun h29 => ?_) (fun h29 => ?_)
    · skip
      refine mv_aload_n (pc := 44) B d_Model_decode_44 rfl 1 rfl ?_
      refine mv_getR (pc := 45) (ci := 11) (C := R_Model) (T := F_Model) (N := 16) B 9 rfl rfl (by decide) i_Model (B.2.2.2.1 _ k_2054) rfl hM.2.1 d_Model_decode_45 ?_
      refine mv_callVi (pc := 48) (n := 0) (ci := 12) (C := R_Book) B (mK_ok sk sv) hNs rfl rfl (c_Book_op_y l hi _) rfl (ma_goodc kc_Book_op) (B.2.2.2.1 _ k_2378) (B.2.2.2.1 _ k_2379) (B.2.2.2.1 _ k_2380) (B.2.2.2.1 _ k_13) ⟨by decide +kernel, by decide +kernel, by decide +kernel⟩ rfl d_Model_decode_48 rfl (Nat.le_of_ble_eq_true rfl) ⟨by decide, by decide⟩ ⟨by decide, by decide⟩ ⟨by decide, by decide⟩ (mv_noH hno _) (fun v48 σ48 h48 => ?_)
      have e48 := h48.symm
      subst e48
      exact mv_iret (pc := 51) B hr rfl d_Model_decode_51 (Nat.le_refl _) (Nat.le_refl _) ⟨_, rfl, by first | exact ⟨hF, fun _ => hU⟩ | exact ⟨hF.si (by decide), fun _ => hU.fr (mv_si_o _ _ (by omega)) (mv_si_o _ _ (by omega))⟩⟩
    · skip
      refine mv_aload_n (pc := 32) B d_Model_decode_32 rfl 1 rfl ?_
      refine mv_dup (pc := 33) B d_Model_decode_33 rfl ?_
      refine mv_getI (pc := 34) (ci := 11) (C := R_Model) (T := F_Model) (N := 16) B 15 rfl rfl (by decide) i_Model (B.2.2.2.1 _ k_2060) rfl d_Model_decode_34 ?_
      refine mv_iload_n (pc := 37) B d_Model_decode_37 rfl 0 rfl ?_
      refine mv_iconst (pc := 38) (v := 1) B d_Model_decode_38 (by decide) ?_
      refine mv_isub (pc := 39) B d_Model_decode_39 ?_
      refine mv_iadd (pc := 40) B d_Model_decode_40 ?_
      refine mv_putI (pc := 41) (ci := 11) (C := R_Model) (T := F_Model) (N := 16) B 15 rfl rfl (by decide) i_Model t_Model_ok n_Model (B.2.2.2.1 _ k_2060) rfl rfl rfl rfl d_Model_decode_41 ?_
      refine mv_aload_n (pc := 44) B d_Model_decode_44 rfl 1 rfl ?_
      refine mv_getR (pc := 45) (ci := 11) (C := R_Model) (T := F_Model) (N := 16) B 9 rfl rfl (by decide) i_Model (B.2.2.2.1 _ k_2054) rfl hM.2.1 d_Model_decode_45 ?_
      refine mv_callVi (pc := 48) (n := 0) (ci := 12) (C := R_Book) B (mK_ok sk sv) hNs rfl rfl (c_Book_op_y l hi _) rfl (ma_goodc kc_Book_op) (B.2.2.2.1 _ k_2378) (B.2.2.2.1 _ k_2379) (B.2.2.2.1 _ k_2380) (B.2.2.2.1 _ k_13) ⟨by decide +kernel, by decide +kernel, by decide +kernel⟩ rfl d_Model_decode_48 rfl (Nat.le_of_ble_eq_true rfl) ⟨by decide, by decide⟩ ⟨by decide, by decide⟩ ⟨by decide, by decide⟩ (mv_noH hno _) (fun v48 σ48 h48 => ?_)
      have e48 := h48.symm
      subst e48
      exact mv_iret (pc := 51) B hr rfl d_Model_decode_51 (Nat.le_refl _) (Nat.le_refl _) ⟨_, rfl, by first | exact ⟨hF, fun _ => hU⟩ | exact ⟨hF.si (by decide), fun _ => hU.fr (mv_si_o _ _ (by omega)) (mv_si_o _ _ (by omega))⟩⟩
  · skip
    refine mv_lload_n (pc := 12) B d_Model_decode_12 rfl 1 rfl ?_
    refine mv_l2i (pc := 13) B d_Model_decode_13 ?_
    refine mv_callSi (pc := 14) (n := 1) B (mK_ok sk sv) hNs (c_Model_shippedOp l hi _ _) rfl (ma_goodc kc_Model_shippedOp) (B.2.2.2.1 _ k_2357) (B.2.2.2.1 _ k_2358) (B.2.2.2.1 _ k_12) ⟨by decide +kernel, by decide +kernel, by decide +kernel⟩ rfl d_Model_decode_14 rfl (Nat.le_of_ble_eq_true rfl) ⟨by decide, by decide⟩ ⟨by decide, by decide⟩ ⟨by decide, by decide⟩ (mv_noH hno _) (fun v14 σ14 h14 => ?_)
    have e14 := h14.symm
    subst e14
    exact mv_iret (pc := 17) B hr rfl d_Model_decode_17 (Nat.le_refl _) (Nat.le_refl _) ⟨_, rfl, hF, fun z => absurd (e11.trans z) h9⟩
def y_Model_field : MethodName := ⟨"MachineLoomModel", "field", "(IIJ)J"⟩
abbrev b_Model_field : ByteArray := prog_14_method_30_code
theorem kc_Model_field : Cond.code y_Model_field b_Model_field 7 (Option.some Jvm.ClassFile.FieldType.long) ∈ ma := ma_of (tb_10 _ (List.mem_of_getElem? (i := 225) rfl)) rfl
theorem k_1875 : (Jvm.Cond.fieldLink "MachineLoomModel" (169 : Nat) "MachineLoomModel$Book" "ops" "I") ∈ ma := ma_of (tb_8 _ (List.mem_of_getElem? (i := 195) rfl)) rfl
theorem k_2403 : (Jvm.Cond.methodLink "MachineLoomModel" (187 : Nat) ({ cls := "MachineLoomModel$Book", name := "hasField", desc := "(II)Z" } : Jvm.MethodName)) ∈ ma := ma_of (tb_11 _ (List.mem_of_getElem? (i := 3) rfl)) rfl
theorem k_2404 : (Jvm.Cond.instanceMethod ({ cls := "MachineLoomModel$Book", name := "hasField", desc := "(II)Z" } : Jvm.MethodName)) ∈ ma := ma_of (tb_11 _ (List.mem_of_getElem? (i := 4) rfl)) rfl
theorem k_2405 : (Jvm.Cond.selects "MachineLoomModel$Book" ({ cls := "MachineLoomModel$Book", name := "hasField", desc := "(II)Z" } : Jvm.MethodName) ({ cls := "MachineLoomModel$Book", name := "hasField", desc := "(II)Z" } : Jvm.MethodName)) ∈ ma := ma_of (tb_11 _ (List.mem_of_getElem? (i := 5) rfl)) rfl
theorem k_2407 : (Jvm.Cond.methodLink "MachineLoomModel" (190 : Nat) ({ cls := "MachineLoomModel$Book", name := "field", desc := "(IIJ)J" } : Jvm.MethodName)) ∈ ma := ma_of (tb_11 _ (List.mem_of_getElem? (i := 7) rfl)) rfl
theorem k_2386 : (Jvm.Cond.methodLink "MachineLoomModel" (183 : Nat) ({ cls := "MachineLoomModel", name := "shippedField", desc := "(III)J" } : Jvm.MethodName)) ∈ ma := ma_of (tb_10 _ (List.mem_of_getElem? (i := 226) rfl)) rfl
theorem k_2387 : (Jvm.Cond.static ({ cls := "MachineLoomModel", name := "shippedField", desc := "(III)J" } : Jvm.MethodName)) ∈ ma := ma_of (tb_10 _ (List.mem_of_getElem? (i := 227) rfl)) rfl
theorem d_Model_field_0 : decode b_Model_field 0 = .ok (.aload_n 0, 1) := by decide +kernel
theorem d_Model_field_1 : decode b_Model_field 1 = .ok (.iconst 1, 1) := by decide +kernel
theorem d_Model_field_2 : decode b_Model_field 2 = .ok (.putfield 38, 3) := by decide +kernel
theorem d_Model_field_5 : decode b_Model_field 5 = .ok (.iload_n 1, 1) := by decide +kernel
theorem d_Model_field_6 : decode b_Model_field 6 = .ok (.ifCond .lt (26), 3) := by decide +kernel
theorem d_Model_field_9 : decode b_Model_field 9 = .ok (.iload_n 1, 1) := by decide +kernel
theorem d_Model_field_10 : decode b_Model_field 10 = .ok (.aload_n 0, 1) := by decide +kernel
theorem d_Model_field_11 : decode b_Model_field 11 = .ok (.getfield 162, 3) := by decide +kernel
theorem d_Model_field_14 : decode b_Model_field 14 = .ok (.ifCond .eq (8), 3) := by decide +kernel
theorem d_Model_field_17 : decode b_Model_field 17 = .ok (.bipush 48, 2) := by decide +kernel
theorem d_Model_field_19 : decode b_Model_field 19 = .ok (.goto (10), 3) := by decide +kernel
theorem d_Model_field_22 : decode b_Model_field 22 = .ok (.aload_n 0, 1) := by decide +kernel
theorem d_Model_field_23 : decode b_Model_field 23 = .ok (.getfield 31, 3) := by decide +kernel
theorem d_Model_field_26 : decode b_Model_field 26 = .ok (.getfield 169, 3) := by decide +kernel
theorem d_Model_field_29 : decode b_Model_field 29 = .ok (.if_icmp .lt (5), 3) := by decide +kernel
theorem d_Model_field_32 : decode b_Model_field 32 = .ok (.lconst 0, 1) := by decide +kernel
theorem d_Model_field_33 : decode b_Model_field 33 = .ok (.lreturn, 1) := by decide +kernel
theorem d_Model_field_34 : decode b_Model_field 34 = .ok (.aload_n 0, 1) := by decide +kernel
theorem d_Model_field_35 : decode b_Model_field 35 = .ok (.getfield 162, 3) := by decide +kernel
theorem d_Model_field_38 : decode b_Model_field 38 = .ok (.ifCond .eq (13), 3) := by decide +kernel
theorem d_Model_field_41 : decode b_Model_field 41 = .ok (.iload_n 1, 1) := by decide +kernel
theorem d_Model_field_42 : decode b_Model_field 42 = .ok (.iload_n 2, 1) := by decide +kernel
theorem d_Model_field_43 : decode b_Model_field 43 = .ok (.lload_n 3, 1) := by decide +kernel
theorem d_Model_field_44 : decode b_Model_field 44 = .ok (.l2i, 1) := by decide +kernel
theorem d_Model_field_45 : decode b_Model_field 45 = .ok (.invokestatic 183, 3) := by decide +kernel
theorem d_Model_field_48 : decode b_Model_field 48 = .ok (.goto (4), 3) := by decide +kernel
theorem d_Model_field_51 : decode b_Model_field 51 = .ok (.lconst 0, 1) := by decide +kernel
theorem d_Model_field_52 : decode b_Model_field 52 = .ok (.lstore 5, 2) := by decide +kernel
theorem d_Model_field_54 : decode b_Model_field 54 = .ok (.aload_n 0, 1) := by decide +kernel
theorem d_Model_field_55 : decode b_Model_field 55 = .ok (.getfield 162, 3) := by decide +kernel
theorem d_Model_field_58 : decode b_Model_field 58 = .ok (.ifCond .eq (13), 3) := by decide +kernel
theorem d_Model_field_61 : decode b_Model_field 61 = .ok (.lload 5, 2) := by decide +kernel
theorem d_Model_field_63 : decode b_Model_field 63 = .ok (.lconst 0, 1) := by decide +kernel
theorem d_Model_field_64 : decode b_Model_field 64 = .ok (.lcmp, 1) := by decide +kernel
theorem d_Model_field_65 : decode b_Model_field 65 = .ok (.ifCond .ge (20), 3) := by decide +kernel
theorem d_Model_field_68 : decode b_Model_field 68 = .ok (.goto (15), 3) := by decide +kernel
theorem d_Model_field_71 : decode b_Model_field 71 = .ok (.aload_n 0, 1) := by decide +kernel
theorem d_Model_field_72 : decode b_Model_field 72 = .ok (.getfield 31, 3) := by decide +kernel
theorem d_Model_field_75 : decode b_Model_field 75 = .ok (.iload_n 1, 1) := by decide +kernel
theorem d_Model_field_76 : decode b_Model_field 76 = .ok (.iload_n 2, 1) := by decide +kernel
theorem d_Model_field_77 : decode b_Model_field 77 = .ok (.invokevirtual 187, 3) := by decide +kernel
theorem d_Model_field_80 : decode b_Model_field 80 = .ok (.ifCond .ne (5), 3) := by decide +kernel
theorem d_Model_field_83 : decode b_Model_field 83 = .ok (.lconst 0, 1) := by decide +kernel
theorem d_Model_field_84 : decode b_Model_field 84 = .ok (.lreturn, 1) := by decide +kernel
theorem d_Model_field_85 : decode b_Model_field 85 = .ok (.aload_n 0, 1) := by decide +kernel
theorem d_Model_field_86 : decode b_Model_field 86 = .ok (.iconst 0, 1) := by decide +kernel
theorem d_Model_field_87 : decode b_Model_field 87 = .ok (.putfield 38, 3) := by decide +kernel
theorem d_Model_field_90 : decode b_Model_field 90 = .ok (.aload_n 0, 1) := by decide +kernel
theorem d_Model_field_91 : decode b_Model_field 91 = .ok (.getfield 162, 3) := by decide +kernel
theorem d_Model_field_94 : decode b_Model_field 94 = .ok (.ifCond .eq (8), 3) := by decide +kernel
theorem d_Model_field_97 : decode b_Model_field 97 = .ok (.lload 5, 2) := by decide +kernel
theorem d_Model_field_99 : decode b_Model_field 99 = .ok (.goto (13), 3) := by decide +kernel
theorem d_Model_field_102 : decode b_Model_field 102 = .ok (.aload_n 0, 1) := by decide +kernel
theorem d_Model_field_103 : decode b_Model_field 103 = .ok (.getfield 31, 3) := by decide +kernel
theorem d_Model_field_106 : decode b_Model_field 106 = .ok (.iload_n 1, 1) := by decide +kernel
theorem d_Model_field_107 : decode b_Model_field 107 = .ok (.iload_n 2, 1) := by decide +kernel
theorem d_Model_field_108 : decode b_Model_field 108 = .ok (.lload_n 3, 1) := by decide +kernel
theorem d_Model_field_109 : decode b_Model_field 109 = .ok (.invokevirtual 190, 3) := by decide +kernel
theorem d_Model_field_112 : decode b_Model_field 112 = .ok (.lreturn, 1) := by decide +kernel
set_option maxHeartbeats 4000000 in
set_option maxRecDepth 100000 in
theorem c_Model_field_x (l : Launch) {dA : FieldType → ClassId} {D : va_G} {al : Nat → Nat} {ext : mv_Sh} {sk sv : Nat → Nat} (hi : mv_inj (mg dA D al ext)) (σ : mv_H) (hM : MI 74 108 σ) (o9 c9 : Int32) (w0 : Int64) : mv_C l y_Model_field (Cond.code y_Model_field b_Model_field 7 (Option.some Jvm.ClassFile.FieldType.long) :: ma) ({ frames := 2, cells := 0, slots := 0, locals := 51 }) (mg dA D al ext) (mK sk sv) [.ref (al 70), .int o9, .int c9, .long w0] σ (mv_Rl (fun v σ1 => QF 74 σ σ1)) := by
  refine mv_C.ofV (cc := b_Model_field) (nL := 7) (ret := (Option.some Jvm.ClassFile.FieldType.long)) (by decide +kernel) rfl hi (Nat.le_of_ble_eq_true rfl) ?_
  intro p e s m below meth c B hNs hr hnm hno
  have hN : 74 = 74 ∨ 74 = 108 := by decide
  refine mv_aload_n (pc := 0) B d_Model_field_0 rfl 0 rfl ?_
  refine mv_iconst (pc := 1) (v := 1) B d_Model_field_1 (by decide) ?_
  refine mv_putI (pc := 2) (ci := 11) (C := R_Model) (T := F_Model) (N := 16) B 2 rfl rfl (by decide) i_Model t_Model_ok n_Model (B.2.2.2.1 _ k_2047) rfl rfl rfl rfl d_Model_field_2 ?_
  refine mv_gen (fun S5 eS5 => ?_)
  have hF : QF 74 σ S5 := by rw [eS5]; exact QF.si Fx.rf (by decide)
  have hM := hM.qf hF hN
  have e11 := hF.sh hN
  have hM0 := hM
  obtain ⟨-, -, -, th, n, k, g1, g2, g3, g4, g5, g6, g7, g8⟩ := hM0
  clear g6 g7 g8
  clear eS5
  refine mv_iload_n (pc := 5) B d_Model_field_5 rfl 1 rfl ?_
  refine mv_if_lt (pc := 6) (tgt := 32) B d_Model_field_6 rfl (fun h6 => ?_) (fun h6 => ?_)
  · skip
    refine mv_lconst (pc := 32) (v := 0) B d_Model_field_32 (by decide) ?_
    exact mv_lret (pc := 33) B hr d_Model_field_33 (Nat.le_refl _) (Nat.le_refl _) ⟨_, rfl, hF⟩
  · skip
    have ho0 : ¬ o9.toInt < 0 := fun z => h6 (Int32.lt_iff_toInt_lt.mpr z)
    refine mv_iload_n (pc := 9) B d_Model_field_9 rfl 1 rfl ?_
    refine mv_aload_n (pc := 10) B d_Model_field_10 rfl 0 rfl ?_
    refine mv_getI (pc := 11) (ci := 11) (C := R_Model) (T := F_Model) (N := 16) B 11 rfl rfl (by decide) i_Model (B.2.2.2.1 _ k_2056) rfl d_Model_field_11 ?_
    refine mv_if_eq (pc := 14) (tgt := 22) B d_Model_field_14 rfl (fun h14 => ?_) (fun h14 => ?_)
    · skip
      refine mv_aload_n (pc := 22) B d_Model_field_22 rfl 0 rfl ?_
      refine mv_getR (pc := 23) (ci := 11) (C := R_Model) (T := F_Model) (N := 16) B 9 rfl rfl (by decide) i_Model (B.2.2.2.1 _ k_2054) rfl hM.2.1 d_Model_field_23 ?_
      refine mv_getI (pc := 26) (ci := 12) (C := R_Book) (T := F_Book) (N := 65) B 29 rfl rfl (by decide) i_Book (B.2.2.2.1 _ k_1875) rfl d_Model_field_26 ?_
      refine mv_icmp_lt (pc := 29) (tgt := 34) B d_Model_field_29 rfl (fun h29 => ?_) (fun h29 => ?_)
      · skip
        rw [Int32.lt_iff_toInt_lt] at h29
        refine mv_aload_n (pc := 34) B d_Model_field_34 rfl 0 rfl ?_
        refine mv_getI (pc := 35) (ci := 11) (C := R_Model) (T := F_Model) (N := 16) B 11 rfl rfl (by decide) i_Model (B.2.2.2.1 _ k_2056) rfl d_Model_field_35 ?_
        refine mv_if_eq (pc := 38) (tgt := 51) B d_Model_field_38 rfl (fun h38 => ?_) (fun h38 => ?_)
        · skip
          refine mv_lconst (pc := 51) (v := 0) B d_Model_field_51 (by decide) ?_
          refine mv_lstore (pc := 52) B d_Model_field_52 (by decide) rfl ?_
          refine mv_aload_n (pc := 54) B d_Model_field_54 rfl 1 rfl ?_
          refine mv_getI (pc := 55) (ci := 11) (C := R_Model) (T := F_Model) (N := 16) B 11 rfl rfl (by decide) i_Model (B.2.2.2.1 _ k_2056) rfl d_Model_field_55 ?_
          refine mv_if_eq (pc := 58) (tgt := 71) B d_Model_field_58 rfl (fun h58 => ?_) (fun h58 => ?_)
          · skip
            refine mv_aload_n (pc := 71) B d_Model_field_71 rfl 1 rfl ?_
            refine mv_getR (pc := 72) (ci := 11) (C := R_Model) (T := F_Model) (N := 16) B 9 rfl rfl (by decide) i_Model (B.2.2.2.1 _ k_2054) rfl hM.2.1 d_Model_field_72 ?_
            refine mv_iload_n (pc := 75) B d_Model_field_75 rfl 2 rfl ?_
            refine mv_iload_n (pc := 76) B d_Model_field_76 rfl 3 rfl ?_
            refine mv_callVi (pc := 77) (n := 2) (ci := 12) (C := R_Book) B (mK_ok sk sv) hNs rfl rfl (c_Book_hasField_x l hi _ _ _ k hM.1 g5 (by omega) (by rw [g5.1] at h29; exact h29)) rfl (ma_goodc kc_Book_hasField) (B.2.2.2.1 _ k_2403) (B.2.2.2.1 _ k_2404) (B.2.2.2.1 _ k_2405) (B.2.2.2.1 _ k_13) ⟨by decide +kernel, by decide +kernel, by decide +kernel⟩ rfl d_Model_field_77 rfl (Nat.le_of_ble_eq_true rfl) ⟨by decide, by decide⟩ ⟨by decide, by decide⟩ ⟨by decide, by decide⟩ (mv_noH hno _) (fun v77 σ77 h77 => ?_)
            have e77 := h77.symm
            subst e77
            refine mv_if_ne (pc := 80) (tgt := 85) B d_Model_field_80 rfl (fun h80 => ?_) (fun h80 => ?_)
            · skip
              refine mv_aload_n (pc := 85) B d_Model_field_85 rfl 1 rfl ?_
              refine mv_iconst (pc := 86) (v := 0) B d_Model_field_86 (by decide) ?_
              refine mv_putI (pc := 87) (ci := 11) (C := R_Model) (T := F_Model) (N := 16) B 2 rfl rfl (by decide) i_Model t_Model_ok n_Model (B.2.2.2.1 _ k_2047) rfl rfl rfl rfl d_Model_field_87 ?_
              refine mv_gen (fun S90 eS90 => ?_)
              have hM9 := hM
              have hMs : MI 74 108 S90 := by rw [eS90]; exact hM.qf (QF.si Fx.rf (by decide)) hN
              have gs : CO 74 k S90 := by rw [eS90]; exact g5.fr (mv_si_o _ _ (by omega)) (mv_si_o _ _ (by omega)) (fun j => rfl)
              have hFs : QF 74 σ S90 := by rw [eS90]; exact hF.si (by decide)
              have e94 : mv_i S90 70 11 = mv_i S5 70 11 := by rw [eS90, mv_si_o _ _ (by omega)]
              have hM := hMs
              clear eS90
              refine mv_aload_n (pc := 90) B d_Model_field_90 rfl 1 rfl ?_
              refine mv_getI (pc := 91) (ci := 11) (C := R_Model) (T := F_Model) (N := 16) B 11 rfl rfl (by decide) i_Model (B.2.2.2.1 _ k_2056) rfl d_Model_field_91 ?_
              refine mv_if_eq (pc := 94) (tgt := 102) B d_Model_field_94 rfl (fun h94 => ?_) (fun h94 => ?_)
              · skip
                refine mv_aload_n (pc := 102) B d_Model_field_102 rfl 1 rfl ?_
                refine mv_getR (pc := 103) (ci := 11) (C := R_Model) (T := F_Model) (N := 16) B 9 rfl rfl (by decide) i_Model (B.2.2.2.1 _ k_2054) rfl hM.2.1 d_Model_field_103 ?_
                refine mv_iload_n (pc := 106) B d_Model_field_106 rfl 2 rfl ?_
                refine mv_iload_n (pc := 107) B d_Model_field_107 rfl 3 rfl ?_
                refine mv_lload_n (pc := 108) B d_Model_field_108 rfl 4 rfl ?_
                refine mv_callVl (pc := 109) (n := 3) (ci := 12) (C := R_Book) B (mK_ok sk sv) hNs rfl rfl (c_Book_field_x l hi _ _ _ _ k hMs.1 gs (by omega) (by rw [g5.1] at h29; exact h29)) rfl (ma_goodc kc_Book_field) (B.2.2.2.1 _ k_2407) (B.2.2.2.1 _ k_2408) (B.2.2.2.1 _ k_2409) (B.2.2.2.1 _ k_13) ⟨by decide +kernel, by decide +kernel, by decide +kernel⟩ rfl d_Model_field_109 rfl (Nat.le_of_ble_eq_true rfl) ⟨by decide, by decide⟩ ⟨by decide, by decide⟩ ⟨by decide, by decide⟩ (mv_noH hno _) (fun v109 σ109 h109 => ?_)
                have e109 := h109.symm
                subst e109
                exact mv_lret (pc := 112) B hr d_Model_field_112 (Nat.le_refl _) (Nat.le_refl _) ⟨_, rfl, hFs⟩
              · skip
                exact absurd (e94.trans h14) h94
            · skip
              refine mv_lconst (pc := 83) (v := 0) B d_Model_field_83 (by decide) ?_
              exact mv_lret (pc := 84) B hr d_Model_field_84 (Nat.le_refl _) (Nat.le_refl _) ⟨_, rfl, hF⟩
          · skip
            exact absurd h14 h58
        · skip
          exact absurd h14 h38
      · skip
        refine mv_lconst (pc := 32) (v := 0) B d_Model_field_32 (by decide) ?_
        exact mv_lret (pc := 33) B hr d_Model_field_33 (Nat.le_refl _) (Nat.le_refl _) ⟨_, rfl, hF⟩
    · skip
      refine mv_bipush (pc := 17) (v := 48) B d_Model_field_17 (by decide) ?_
      refine mv_goto (pc := 19) (tgt := 29) B d_Model_field_19 rfl ?_
      refine mv_icmp_lt (pc := 29) (tgt := 34) B d_Model_field_29 rfl (fun h29 => ?_) (fun h29 => ?_)
      · skip
        rw [Int32.lt_iff_toInt_lt] at h29
        refine mv_aload_n (pc := 34) B d_Model_field_34 rfl 0 rfl ?_
        refine mv_getI (pc := 35) (ci := 11) (C := R_Model) (T := F_Model) (N := 16) B 11 rfl rfl (by decide) i_Model (B.2.2.2.1 _ k_2056) rfl d_Model_field_35 ?_
        refine mv_if_eq (pc := 38) (tgt := 51) B d_Model_field_38 rfl (fun h38 => ?_) (fun h38 => ?_)
        · skip
          exact absurd h38 h14
        · skip
          refine mv_iload_n (pc := 41) B d_Model_field_41 rfl 1 rfl ?_
          refine mv_iload_n (pc := 42) B d_Model_field_42 rfl 2 rfl ?_
          refine mv_lload_n (pc := 43) B d_Model_field_43 rfl 3 rfl ?_
          refine mv_l2i (pc := 44) B d_Model_field_44 ?_
          refine mv_callSl (pc := 45) (n := 3) B (mK_ok sk sv) hNs (c_Model_shippedField l hi _ _ _ _) rfl (ma_goodc kc_Model_shippedField) (B.2.2.2.1 _ k_2386) (B.2.2.2.1 _ k_2387) (B.2.2.2.1 _ k_12) ⟨by decide +kernel, by decide +kernel, by decide +kernel⟩ rfl d_Model_field_45 rfl (Nat.le_of_ble_eq_true rfl) ⟨by decide, by decide⟩ ⟨by decide, by decide⟩ ⟨by decide, by decide⟩ (mv_noH hno _) (fun v45 σ45 h45 => ?_)
          have e45 := h45.symm
          subst e45
          refine mv_goto (pc := 48) (tgt := 52) B d_Model_field_48 rfl ?_
          refine mv_lstore (pc := 52) B d_Model_field_52 (by decide) rfl ?_
          refine mv_aload_n (pc := 54) B d_Model_field_54 rfl 1 rfl ?_
          refine mv_getI (pc := 55) (ci := 11) (C := R_Model) (T := F_Model) (N := 16) B 11 rfl rfl (by decide) i_Model (B.2.2.2.1 _ k_2056) rfl d_Model_field_55 ?_
          refine mv_if_eq (pc := 58) (tgt := 71) B d_Model_field_58 rfl (fun h58 => ?_) (fun h58 => ?_)
          · skip
            exact absurd h58 h14
          · skip
            refine mv_lload (pc := 61) B d_Model_field_61 0 rfl ?_
            refine mv_lconst (pc := 63) (v := 0) B d_Model_field_63 (by decide) ?_
            refine mv_lcmp (pc := 64) B d_Model_field_64 ?_
            refine mv_if_ge (pc := 65) (tgt := 85) B d_Model_field_65 rfl (fun h65 => ?_) (fun h65 => ?_)
            · skip
              refine mv_aload_n (pc := 85) B d_Model_field_85 rfl 1 rfl ?_
              refine mv_iconst (pc := 86) (v := 0) B d_Model_field_86 (by decide) ?_
              refine mv_putI (pc := 87) (ci := 11) (C := R_Model) (T := F_Model) (N := 16) B 2 rfl rfl (by decide) i_Model t_Model_ok n_Model (B.2.2.2.1 _ k_2047) rfl rfl rfl rfl d_Model_field_87 ?_
              refine mv_gen (fun S90 eS90 => ?_)
              have hM9 := hM
              have hMs : MI 74 108 S90 := by rw [eS90]; exact hM.qf (QF.si Fx.rf (by decide)) hN
              have gs : CO 74 k S90 := by rw [eS90]; exact g5.fr (mv_si_o _ _ (by omega)) (mv_si_o _ _ (by omega)) (fun j => rfl)
              have hFs : QF 74 σ S90 := by rw [eS90]; exact hF.si (by decide)
              have e94 : mv_i S90 70 11 = mv_i S5 70 11 := by rw [eS90, mv_si_o _ _ (by omega)]
              have hM := hMs
              clear eS90
              refine mv_aload_n (pc := 90) B d_Model_field_90 rfl 1 rfl ?_
              refine mv_getI (pc := 91) (ci := 11) (C := R_Model) (T := F_Model) (N := 16) B 11 rfl rfl (by decide) i_Model (B.2.2.2.1 _ k_2056) rfl d_Model_field_91 ?_
              refine mv_if_eq (pc := 94) (tgt := 102) B d_Model_field_94 rfl (fun h94 => ?_) (fun h94 => ?_)
              · skip
                exact absurd (e94.symm.trans h94) h14
              · skip
                refine mv_lload (pc := 97) B d_Model_field_97 0 rfl ?_
                refine mv_goto (pc := 99) (tgt := 112) B d_Model_field_99 rfl ?_
                exact mv_lret (pc := 112) B hr d_Model_field_112 (Nat.le_refl _) (Nat.le_refl _) ⟨_, rfl, hFs⟩
            · skip
              refine mv_goto (pc := 68) (tgt := 83) B d_Model_field_68 rfl ?_
              refine mv_lconst (pc := 83) (v := 0) B d_Model_field_83 (by decide) ?_
              exact mv_lret (pc := 84) B hr d_Model_field_84 (Nat.le_refl _) (Nat.le_refl _) ⟨_, rfl, hF⟩
      · skip
        refine mv_lconst (pc := 32) (v := 0) B d_Model_field_32 (by decide) ?_
        exact mv_lret (pc := 33) B hr d_Model_field_33 (Nat.le_refl _) (Nat.le_refl _) ⟨_, rfl, hF⟩
set_option maxHeartbeats 4000000 in
set_option maxRecDepth 100000 in
theorem c_Model_field_y (l : Launch) {dA : FieldType → ClassId} {D : va_G} {al : Nat → Nat} {ext : mv_Sh} {sk sv : Nat → Nat} (hi : mv_inj (mg dA D al ext)) (σ : mv_H) (hM : MI 108 74 σ) (o9 c9 : Int32) (w0 : Int64) : mv_C l y_Model_field (Cond.code y_Model_field b_Model_field 7 (Option.some Jvm.ClassFile.FieldType.long) :: ma) ({ frames := 2, cells := 0, slots := 0, locals := 51 }) (mg dA D al ext) (mK sk sv) [.ref (al 70), .int o9, .int c9, .long w0] σ (mv_Rl (fun v σ1 => QF 108 σ σ1)) := by
  refine mv_C.ofV (cc := b_Model_field) (nL := 7) (ret := (Option.some Jvm.ClassFile.FieldType.long)) (by decide +kernel) rfl hi (Nat.le_of_ble_eq_true rfl) ?_
  intro p e s m below meth c B hNs hr hnm hno
  have hN : 108 = 74 ∨ 108 = 108 := by decide
  refine mv_aload_n (pc := 0) B d_Model_field_0 rfl 0 rfl ?_
  refine mv_iconst (pc := 1) (v := 1) B d_Model_field_1 (by decide) ?_
  refine mv_putI (pc := 2) (ci := 11) (C := R_Model) (T := F_Model) (N := 16) B 2 rfl rfl (by decide) i_Model t_Model_ok n_Model (B.2.2.2.1 _ k_2047) rfl rfl rfl rfl d_Model_field_2 ?_
  refine mv_gen (fun S5 eS5 => ?_)
  have hF : QF 108 σ S5 := by rw [eS5]; exact QF.si Fx.rf (by decide)
  have hM := hM.qf hF hN
  have e11 := hF.sh hN
  have hM0 := hM
  obtain ⟨-, -, -, th, n, k, g1, g2, g3, g4, g5, g6, g7, g8⟩ := hM0
  clear g6 g7 g8
  clear eS5
  refine mv_iload_n (pc := 5) B d_Model_field_5 rfl 1 rfl ?_
  refine mv_if_lt (pc := 6) (tgt := 32) B d_Model_field_6 rfl (fun h6 => ?_) (fun h6 => ?_)
  · skip
    refine mv_lconst (pc := 32) (v := 0) B d_Model_field_32 (by decide) ?_
    exact mv_lret (pc := 33) B hr d_Model_field_33 (Nat.le_refl _) (Nat.le_refl _) ⟨_, rfl, hF⟩
  · skip
    have ho0 : ¬ o9.toInt < 0 := fun z => h6 (Int32.lt_iff_toInt_lt.mpr z)
    refine mv_iload_n (pc := 9) B d_Model_field_9 rfl 1 rfl ?_
    refine mv_aload_n (pc := 10) B d_Model_field_10 rfl 0 rfl ?_
    refine mv_getI (pc := 11) (ci := 11) (C := R_Model) (T := F_Model) (N := 16) B 11 rfl rfl (by decide) i_Model (B.2.2.2.1 _ k_2056) rfl d_Model_field_11 ?_
    refine mv_if_eq (pc := 14) (tgt := 22) B d_Model_field_14 rfl (fun h14 => ?_) (fun h14 => ?_)
    · skip
      refine mv_aload_n (pc := 22) B d_Model_field_22 rfl 0 rfl ?_
      refine mv_getR (pc := 23) (ci := 11) (C := R_Model) (T := F_Model) (N := 16) B 9 rfl rfl (by decide) i_Model (B.2.2.2.1 _ k_2054) rfl hM.2.1 d_Model_field_23 ?_
      refine mv_getI (pc := 26) (ci := 12) (C := R_Book) (T := F_Book) (N := 65) B 29 rfl rfl (by decide) i_Book (B.2.2.2.1 _ k_1875) rfl d_Model_field_26 ?_
      refine mv_icmp_lt (pc := 29) (tgt := 34) B d_Model_field_29 rfl (fun h29 => ?_) (fun h29 => ?_)
      · skip
        rw [Int32.lt_iff_toInt_lt] at h29
        refine mv_aload_n (pc := 34) B d_Model_field_34 rfl 0 rfl ?_
        refine mv_getI (pc := 35) (ci := 11) (C := R_Model) (T := F_Model) (N := 16) B 11 rfl rfl (by decide) i_Model (B.2.2.2.1 _ k_2056) rfl d_Model_field_35 ?_
        refine mv_if_eq (pc := 38) (tgt := 51) B d_Model_field_38 rfl (fun h38 => ?_) (fun h38 => ?_)
        · skip
          refine mv_lconst (pc := 51) (v := 0) B d_Model_field_51 (by decide) ?_
          refine mv_lstore (pc := 52) B d_Model_field_52 (by decide) rfl ?_
          refine mv_aload_n (pc := 54) B d_Model_field_54 rfl 1 rfl ?_
          refine mv_getI (pc := 55) (ci := 11) (C := R_Model) (T := F_Model) (N := 16) B 11 rfl rfl (by decide) i_Model (B.2.2.2.1 _ k_2056) rfl d_Model_field_55 ?_
          refine mv_if_eq (pc := 58) (tgt := 71) B d_Model_field_58 rfl (fun h58 => ?_) (fun h58 => ?_)
          · skip
            refine mv_aload_n (pc := 71) B d_Model_field_71 rfl 1 rfl ?_
            refine mv_getR (pc := 72) (ci := 11) (C := R_Model) (T := F_Model) (N := 16) B 9 rfl rfl (by decide) i_Model (B.2.2.2.1 _ k_2054) rfl hM.2.1 d_Model_field_72 ?_
            refine mv_iload_n (pc := 75) B d_Model_field_75 rfl 2 rfl ?_
            refine mv_iload_n (pc := 76) B d_Model_field_76 rfl 3 rfl ?_
            refine mv_callVi (pc := 77) (n := 2) (ci := 12) (C := R_Book) B (mK_ok sk sv) hNs rfl rfl (c_Book_hasField_y l hi _ _ _ k hM.1 g5 (by omega) (by rw [g5.1] at h29; exact h29)) rfl (ma_goodc kc_Book_hasField) (B.2.2.2.1 _ k_2403) (B.2.2.2.1 _ k_2404) (B.2.2.2.1 _ k_2405) (B.2.2.2.1 _ k_13) ⟨by decide +kernel, by decide +kernel, by decide +kernel⟩ rfl d_Model_field_77 rfl (Nat.le_of_ble_eq_true rfl) ⟨by decide, by decide⟩ ⟨by decide, by decide⟩ ⟨by decide, by decide⟩ (mv_noH hno _) (fun v77 σ77 h77 => ?_)
            have e77 := h77.symm
            subst e77
            refine mv_if_ne (pc := 80) (tgt := 85) B d_Model_field_80 rfl (fun h80 => ?_) (fun h80 => ?_)
            · skip
              refine mv_aload_n (pc := 85) B d_Model_field_85 rfl 1 rfl ?_
              refine mv_iconst (pc := 86) (v := 0) B d_Model_field_86 (by decide) ?_
              refine mv_putI (pc := 87) (ci := 11) (C := R_Model) (T := F_Model) (N := 16) B 2 rfl rfl (by decide) i_Model t_Model_ok n_Model (B.2.2.2.1 _ k_2047) rfl rfl rfl rfl d_Model_field_87 ?_
              refine mv_gen (fun S90 eS90 => ?_)
              have hM9 := hM
              have hMs : MI 108 74 S90 := by rw [eS90]; exact hM.qf (QF.si Fx.rf (by decide)) hN
              have gs : CO 108 k S90 := by rw [eS90]; exact g5.fr (mv_si_o _ _ (by omega)) (mv_si_o _ _ (by omega)) (fun j => rfl)
              have hFs : QF 108 σ S90 := by rw [eS90]; exact hF.si (by decide)
              have e94 : mv_i S90 70 11 = mv_i S5 70 11 := by rw [eS90, mv_si_o _ _ (by omega)]
              have hM := hMs
              clear eS90
              refine mv_aload_n (pc := 90) B d_Model_field_90 rfl 1 rfl ?_
              refine mv_getI (pc := 91) (ci := 11) (C := R_Model) (T := F_Model) (N := 16) B 11 rfl rfl (by decide) i_Model (B.2.2.2.1 _ k_2056) rfl d_Model_field_91 ?_
              refine mv_if_eq (pc := 94) (tgt := 102) B d_Model_field_94 rfl (fun h94 => ?_) (fun h94 => ?_)
              · skip
                refine mv_aload_n (pc := 102) B d_Model_field_102 rfl 1 rfl ?_
                refine mv_getR (pc := 103) (ci := 11) (C := R_Model) (T := F_Model) (N := 16) B 9 rfl rfl (by decide) i_Model (B.2.2.2.1 _ k_2054) rfl hM.2.1 d_Model_field_103 ?_
                refine mv_iload_n (pc := 106) B d_Model_field_106 rfl 2 rfl ?_
                refine mv_iload_n (pc := 107) B d_Model_field_107 rfl 3 rfl ?_
                refine mv_lload_n (pc := 108) B d_Model_field_108 rfl 4 rfl ?_
                refine mv_callVl (pc := 109) (n := 3) (ci := 12) (C := R_Book) B (mK_ok sk sv) hNs rfl rfl (c_Book_field_y l hi _ _ _ _ k hMs.1 gs (by omega) (by rw [g5.1] at h29; exact h29)) rfl (ma_goodc kc_Book_field) (B.2.2.2.1 _ k_2407) (B.2.2.2.1 _ k_2408) (B.2.2.2.1 _ k_2409) (B.2.2.2.1 _ k_13) ⟨by decide +kernel, by decide +kernel, by decide +kernel⟩ rfl d_Model_field_109 rfl (Nat.le_of_ble_eq_true rfl) ⟨by decide, by decide⟩ ⟨by decide, by decide⟩ ⟨by decide, by decide⟩ (mv_noH hno _) (fun v109 σ109 h109 => ?_)
                have e109 := h109.symm
                subst e109
                exact mv_lret (pc := 112) B hr d_Model_field_112 (Nat.le_refl _) (Nat.le_refl _) ⟨_, rfl, hFs⟩
              · skip
                exact absurd (e94.trans h14) h94
            · skip
              refine mv_lconst (pc := 83) (v := 0) B d_Model_field_83 (by decide) ?_
              exact mv_lret (pc := 84) B hr d_Model_field_84 (Nat.le_refl _) (Nat.le_refl _) ⟨_, rfl, hF⟩
          · skip
            exact absurd h14 h58
        · skip
          exact absurd h14 h38
      · skip
        refine mv_lconst (pc := 32) (v := 0) B d_Model_field_32 (by decide) ?_
        exact mv_lret (pc := 33) B hr d_Model_field_33 (Nat.le_refl _) (Nat.le_refl _) ⟨_, rfl, hF⟩
    · skip
      refine mv_bipush (pc := 17) (v := 48) B d_Model_field_17 (by decide) ?_
      refine mv_goto (pc := 19) (tgt := 29) B d_Model_field_19 rfl ?_
      refine mv_icmp_lt (pc := 29) (tgt := 34) B d_Model_field_29 rfl (fun h29 => ?_) (fun h29 => ?_)
      · skip
        rw [Int32.lt_iff_toInt_lt] at h29
        refine mv_aload_n (pc := 34) B d_Model_field_34 rfl 0 rfl ?_
        refine mv_getI (pc := 35) (ci := 11) (C := R_Model) (T := F_Model) (N := 16) B 11 rfl rfl (by decide) i_Model (B.2.2.2.1 _ k_2056) rfl d_Model_field_35 ?_
        refine mv_if_eq (pc := 38) (tgt := 51) B d_Model_field_38 rfl (fun h38 => ?_) (fun h38 => ?_)
        · skip
          exact absurd h38 h14
        · skip
          refine mv_iload_n (pc := 41) B d_Model_field_41 rfl 1 rfl ?_
          refine mv_iload_n (pc := 42) B d_Model_field_42 rfl 2 rfl ?_
          refine mv_lload_n (pc := 43) B d_Model_field_43 rfl 3 rfl ?_
          refine mv_l2i (pc := 44) B d_Model_field_44 ?_
          refine mv_callSl (pc := 45) (n := 3) B (mK_ok sk sv) hNs (c_Model_shippedField l hi _ _ _ _) rfl (ma_goodc kc_Model_shippedField) (B.2.2.2.1 _ k_2386) (B.2.2.2.1 _ k_2387) (B.2.2.2.1 _ k_12) ⟨by decide +kernel, by decide +kernel, by decide +kernel⟩ rfl d_Model_field_45 rfl (Nat.le_of_ble_eq_true rfl) ⟨by decide, by decide⟩ ⟨by decide, by decide⟩ ⟨by decide, by decide⟩ (mv_noH hno _) (fun v45 σ45 h45 => ?_)
          have e45 := h45.symm
          subst e45
          refine mv_goto (pc := 48) (tgt := 52) B d_Model_field_48 rfl ?_
          refine mv_lstore (pc := 52) B d_Model_field_52 (by decide) rfl ?_
          refine mv_aload_n (pc := 54) B d_Model_field_54 rfl 1 rfl ?_
          refine mv_getI (pc := 55) (ci := 11) (C := R_Model) (T := F_Model) (N := 16) B 11 rfl rfl (by decide) i_Model (B.2.2.2.1 _ k_2056) rfl d_Model_field_55 ?_
          refine mv_if_eq (pc := 58) (tgt := 71) B d_Model_field_58 rfl (fun h58 => ?_) (fun h58 => ?_)
          · skip
            exact absurd h58 h14
          · skip
            refine mv_lload (pc := 61) B d_Model_field_61 0 rfl ?_
            refine mv_lconst (pc := 63) (v := 0) B d_Model_field_63 (by decide) ?_
            refine mv_lcmp (pc := 64) B d_Model_field_64 ?_
            refine mv_if_ge (pc := 65) (tgt := 85) B d_Model_field_65 rfl (fun h65 => ?_) (fun h65 => ?_)
            · skip
              refine mv_aload_n (pc := 85) B d_Model_field_85 rfl 1 rfl ?_
              refine mv_iconst (pc := 86) (v := 0) B d_Model_field_86 (by decide) ?_
              refine mv_putI (pc := 87) (ci := 11) (C := R_Model) (T := F_Model) (N := 16) B 2 rfl rfl (by decide) i_Model t_Model_ok n_Model (B.2.2.2.1 _ k_2047) rfl rfl rfl rfl d_Model_field_87 ?_
              refine mv_gen (fun S90 eS90 => ?_)
              have hM9 := hM
              have hMs : MI 108 74 S90 := by rw [eS90]; exact hM.qf (QF.si Fx.rf (by decide)) hN
              have gs : CO 108 k S90 := by rw [eS90]; exact g5.fr (mv_si_o _ _ (by omega)) (mv_si_o _ _ (by omega)) (fun j => rfl)
              have hFs : QF 108 σ S90 := by rw [eS90]; exact hF.si (by decide)
              have e94 : mv_i S90 70 11 = mv_i S5 70 11 := by rw [eS90, mv_si_o _ _ (by omega)]
              have hM := hMs
              clear eS90
              refine mv_aload_n (pc := 90) B d_Model_field_90 rfl 1 rfl ?_
              refine mv_getI (pc := 91) (ci := 11) (C := R_Model) (T := F_Model) (N := 16) B 11 rfl rfl (by decide) i_Model (B.2.2.2.1 _ k_2056) rfl d_Model_field_91 ?_
              refine mv_if_eq (pc := 94) (tgt := 102) B d_Model_field_94 rfl (fun h94 => ?_) (fun h94 => ?_)
              · skip
                exact absurd (e94.symm.trans h94) h14
              · skip
                refine mv_lload (pc := 97) B d_Model_field_97 0 rfl ?_
                refine mv_goto (pc := 99) (tgt := 112) B d_Model_field_99 rfl ?_
                exact mv_lret (pc := 112) B hr d_Model_field_112 (Nat.le_refl _) (Nat.le_refl _) ⟨_, rfl, hFs⟩
            · skip
              refine mv_goto (pc := 68) (tgt := 83) B d_Model_field_68 rfl ?_
              refine mv_lconst (pc := 83) (v := 0) B d_Model_field_83 (by decide) ?_
              exact mv_lret (pc := 84) B hr d_Model_field_84 (Nat.le_refl _) (Nat.le_refl _) ⟨_, rfl, hF⟩
      · skip
        refine mv_lconst (pc := 32) (v := 0) B d_Model_field_32 (by decide) ?_
        exact mv_lret (pc := 33) B hr d_Model_field_33 (Nat.le_refl _) (Nat.le_refl _) ⟨_, rfl, hF⟩
def y_Model_there : MethodName := ⟨"MachineLoomModel", "there", "(II)Z"⟩
abbrev b_Model_there : ByteArray := prog_14_method_31_code
theorem kc_Model_there : Cond.code y_Model_there b_Model_there 4 (Option.some Jvm.ClassFile.FieldType.boolean) ∈ ma := ma_of (tb_11 _ (List.mem_of_getElem? (i := 18) rfl)) rfl
theorem k_1861 : (Jvm.Cond.fieldLink "MachineLoomModel" (194 : Nat) "MachineLoomModel$Book" "things" "I") ∈ ma := ma_of (tb_8 _ (List.mem_of_getElem? (i := 181) rfl)) rfl
theorem k_2419 : (Jvm.Cond.methodLink "MachineLoomModel" (197 : Nat) ({ cls := "MachineLoomModel$Book", name := "cellsOf", desc := "(I)I" } : Jvm.MethodName)) ∈ ma := ma_of (tb_11 _ (List.mem_of_getElem? (i := 19) rfl)) rfl
theorem k_2420 : (Jvm.Cond.instanceMethod ({ cls := "MachineLoomModel$Book", name := "cellsOf", desc := "(I)I" } : Jvm.MethodName)) ∈ ma := ma_of (tb_11 _ (List.mem_of_getElem? (i := 20) rfl)) rfl
theorem k_2421 : (Jvm.Cond.selects "MachineLoomModel$Book" ({ cls := "MachineLoomModel$Book", name := "cellsOf", desc := "(I)I" } : Jvm.MethodName) ({ cls := "MachineLoomModel$Book", name := "cellsOf", desc := "(I)I" } : Jvm.MethodName)) ∈ ma := ma_of (tb_11 _ (List.mem_of_getElem? (i := 21) rfl)) rfl
theorem d_Model_there_0 : decode b_Model_there 0 = .ok (.iload_n 1, 1) := by decide +kernel
theorem d_Model_there_1 : decode b_Model_there 1 = .ok (.ifCond .lt (29), 3) := by decide +kernel
theorem d_Model_there_4 : decode b_Model_there 4 = .ok (.iload_n 1, 1) := by decide +kernel
theorem d_Model_there_5 : decode b_Model_there 5 = .ok (.aload_n 0, 1) := by decide +kernel
theorem d_Model_there_6 : decode b_Model_there 6 = .ok (.getfield 162, 3) := by decide +kernel
theorem d_Model_there_9 : decode b_Model_there 9 = .ok (.ifCond .eq (7), 3) := by decide +kernel
theorem d_Model_there_12 : decode b_Model_there 12 = .ok (.iconst 3, 1) := by decide +kernel
theorem d_Model_there_13 : decode b_Model_there 13 = .ok (.goto (10), 3) := by decide +kernel
theorem d_Model_there_16 : decode b_Model_there 16 = .ok (.aload_n 0, 1) := by decide +kernel
theorem d_Model_there_17 : decode b_Model_there 17 = .ok (.getfield 31, 3) := by decide +kernel
theorem d_Model_there_20 : decode b_Model_there 20 = .ok (.getfield 194, 3) := by decide +kernel
theorem d_Model_there_23 : decode b_Model_there 23 = .ok (.if_icmp .ge (7), 3) := by decide +kernel
theorem d_Model_there_26 : decode b_Model_there 26 = .ok (.iload_n 2, 1) := by decide +kernel
theorem d_Model_there_27 : decode b_Model_there 27 = .ok (.ifCond .ge (5), 3) := by decide +kernel
theorem d_Model_there_30 : decode b_Model_there 30 = .ok (.iconst 0, 1) := by decide +kernel
theorem d_Model_there_31 : decode b_Model_there 31 = .ok (.ireturn, 1) := by decide +kernel
theorem d_Model_there_32 : decode b_Model_there 32 = .ok (.aload_n 0, 1) := by decide +kernel
theorem d_Model_there_33 : decode b_Model_there 33 = .ok (.getfield 162, 3) := by decide +kernel
theorem d_Model_there_36 : decode b_Model_there 36 = .ok (.ifCond .eq (26), 3) := by decide +kernel
theorem d_Model_there_39 : decode b_Model_there 39 = .ok (.iload_n 1, 1) := by decide +kernel
theorem d_Model_there_40 : decode b_Model_there 40 = .ok (.ifCond .ne (7), 3) := by decide +kernel
theorem d_Model_there_43 : decode b_Model_there 43 = .ok (.iconst 0, 1) := by decide +kernel
theorem d_Model_there_44 : decode b_Model_there 44 = .ok (.goto (26), 3) := by decide +kernel
theorem d_Model_there_47 : decode b_Model_there 47 = .ok (.iload_n 1, 1) := by decide +kernel
theorem d_Model_there_48 : decode b_Model_there 48 = .ok (.iconst 1, 1) := by decide +kernel
theorem d_Model_there_49 : decode b_Model_there 49 = .ok (.if_icmp .ne (8), 3) := by decide +kernel
theorem d_Model_there_52 : decode b_Model_there 52 = .ok (.bipush 32, 2) := by decide +kernel
theorem d_Model_there_54 : decode b_Model_there 54 = .ok (.goto (16), 3) := by decide +kernel
theorem d_Model_there_57 : decode b_Model_there 57 = .ok (.ldc 7, 2) := by decide +kernel
theorem d_Model_there_59 : decode b_Model_there 59 = .ok (.goto (11), 3) := by decide +kernel
theorem d_Model_there_62 : decode b_Model_there 62 = .ok (.aload_n 0, 1) := by decide +kernel
theorem d_Model_there_63 : decode b_Model_there 63 = .ok (.getfield 31, 3) := by decide +kernel
theorem d_Model_there_66 : decode b_Model_there 66 = .ok (.iload_n 1, 1) := by decide +kernel
theorem d_Model_there_67 : decode b_Model_there 67 = .ok (.invokevirtual 197, 3) := by decide +kernel
theorem d_Model_there_70 : decode b_Model_there 70 = .ok (.istore_n 3, 1) := by decide +kernel
theorem d_Model_there_71 : decode b_Model_there 71 = .ok (.iload_n 3, 1) := by decide +kernel
theorem d_Model_there_72 : decode b_Model_there 72 = .ok (.ifCond .ne (15), 3) := by decide +kernel
theorem d_Model_there_75 : decode b_Model_there 75 = .ok (.iload_n 2, 1) := by decide +kernel
theorem d_Model_there_76 : decode b_Model_there 76 = .ok (.ifCond .ne (7), 3) := by decide +kernel
theorem d_Model_there_79 : decode b_Model_there 79 = .ok (.iconst 1, 1) := by decide +kernel
theorem d_Model_there_80 : decode b_Model_there 80 = .ok (.goto (17), 3) := by decide +kernel
theorem d_Model_there_83 : decode b_Model_there 83 = .ok (.iconst 0, 1) := by decide +kernel
theorem d_Model_there_84 : decode b_Model_there 84 = .ok (.goto (13), 3) := by decide +kernel
theorem d_Model_there_87 : decode b_Model_there 87 = .ok (.iload_n 2, 1) := by decide +kernel
theorem d_Model_there_88 : decode b_Model_there 88 = .ok (.iload_n 3, 1) := by decide +kernel
theorem d_Model_there_89 : decode b_Model_there 89 = .ok (.if_icmp .ge (7), 3) := by decide +kernel
theorem d_Model_there_92 : decode b_Model_there 92 = .ok (.iconst 1, 1) := by decide +kernel
theorem d_Model_there_93 : decode b_Model_there 93 = .ok (.goto (4), 3) := by decide +kernel
theorem d_Model_there_96 : decode b_Model_there 96 = .ok (.iconst 0, 1) := by decide +kernel
theorem d_Model_there_97 : decode b_Model_there 97 = .ok (.ireturn, 1) := by decide +kernel
set_option maxHeartbeats 4000000 in
set_option maxRecDepth 100000 in
theorem c_Model_there_x (l : Launch) {dA : FieldType → ClassId} {D : va_G} {al : Nat → Nat} {ext : mv_Sh} {sk sv : Nat → Nat} (hi : mv_inj (mg dA D al ext)) (σ : mv_H) (hM : MI 74 108 σ) (t9 i9 : Int32) : mv_C l y_Model_there (Cond.code y_Model_there b_Model_there 4 (Option.some Jvm.ClassFile.FieldType.boolean) :: ma) ({ frames := 1, cells := 0, slots := 0, locals := 21 }) (mg dA D al ext) (mK sk sv) [.ref (al 70), .int t9, .int i9] σ (mv_Ri (fun v σ1 => σ1 = σ ∧ (v = 0 ∨ (v = 1 ∧ TP9 74 σ t9 i9)))) := by
  refine mv_C.ofV (cc := b_Model_there) (nL := 4) (ret := (Option.some Jvm.ClassFile.FieldType.boolean)) (by decide +kernel) rfl hi (Nat.le_of_ble_eq_true rfl) ?_
  intro p e s m below meth c B hNs hr hnm hno
  have hN : 74 = 74 ∨ 74 = 108 := by decide
  have hM0 := hM
  obtain ⟨-, -, -, th, n, k, g1, g2, g3, g4, g5, g6, hTA, g8⟩ := hM0
  clear g3 g4 g5 g6 g8
  refine mv_iload_n (pc := 0) B d_Model_there_0 rfl 1 rfl ?_
  refine mv_if_lt (pc := 1) (tgt := 30) B d_Model_there_1 rfl (fun h1 => ?_) (fun h1 => ?_)
  · skip
    refine mv_iconst (pc := 30) (v := 0) B d_Model_there_30 (by decide) ?_
    exact mv_iret (pc := 31) B hr rfl d_Model_there_31 (Nat.le_refl _) (Nat.le_refl _) ⟨_, rfl, rfl, Or.inl rfl⟩
  · skip
    have ht0 : 0 ≤ t9.toInt := Int.not_lt.mp (fun z => h1 (Int32.lt_iff_toInt_lt.mpr z))
    refine mv_iload_n (pc := 4) B d_Model_there_4 rfl 1 rfl ?_
    refine mv_aload_n (pc := 5) B d_Model_there_5 rfl 0 rfl ?_
    refine mv_getI (pc := 6) (ci := 11) (C := R_Model) (T := F_Model) (N := 16) B 11 rfl rfl (by decide) i_Model (B.2.2.2.1 _ k_2056) rfl d_Model_there_6 ?_
    refine mv_if_eq (pc := 9) (tgt := 16) B d_Model_there_9 rfl (fun h9 => ?_) (fun h9 => ?_)
    · skip
      refine mv_aload_n (pc := 16) B d_Model_there_16 rfl 0 rfl ?_
      refine mv_getR (pc := 17) (ci := 11) (C := R_Model) (T := F_Model) (N := 16) B 9 rfl rfl (by decide) i_Model (B.2.2.2.1 _ k_2054) rfl hM.2.1 d_Model_there_17 ?_
      refine mv_getI (pc := 20) (ci := 12) (C := R_Book) (T := F_Book) (N := 65) B 17 rfl rfl (by decide) i_Book (B.2.2.2.1 _ k_1861) rfl d_Model_there_20 ?_
      refine mv_icmp_ge (pc := 23) (tgt := 30) B d_Model_there_23 rfl (fun h23 => ?_) (fun h23 => ?_)
      · skip
        refine mv_iconst (pc := 30) (v := 0) B d_Model_there_30 (by decide) ?_
        exact mv_iret (pc := 31) B hr rfl d_Model_there_31 (Nat.le_refl _) (Nat.le_refl _) ⟨_, rfl, rfl, Or.inl rfl⟩
      · skip
        have h23 := Int32.lt_iff_toInt_lt.mp (Int32.not_le.mp h23)
        refine mv_iload_n (pc := 26) B d_Model_there_26 rfl 2 rfl ?_
        refine mv_if_ge (pc := 27) (tgt := 32) B d_Model_there_27 rfl (fun h27 => ?_) (fun h27 => ?_)
        · skip
          have hi0 : 0 ≤ i9.toInt := Int32.le_iff_toInt_le.mp h27
          refine mv_aload_n (pc := 32) B d_Model_there_32 rfl 0 rfl ?_
          refine mv_getI (pc := 33) (ci := 11) (C := R_Model) (T := F_Model) (N := 16) B 11 rfl rfl (by decide) i_Model (B.2.2.2.1 _ k_2056) rfl d_Model_there_33 ?_
          refine mv_if_eq (pc := 36) (tgt := 62) B d_Model_there_36 rfl (fun h36 => ?_) (fun h36 => ?_)
          · skip
            have hct := i32_cl ht0
            refine mv_aload_n (pc := 62) B d_Model_there_62 rfl 0 rfl ?_
            refine mv_getR (pc := 63) (ci := 11) (C := R_Model) (T := F_Model) (N := 16) B 9 rfl rfl (by decide) i_Model (B.2.2.2.1 _ k_2054) rfl hM.2.1 d_Model_there_63 ?_
            refine mv_iload_n (pc := 66) B d_Model_there_66 rfl 1 rfl ?_
            refine mv_callVi (pc := 67) (n := 1) (ci := 12) (C := R_Book) B (mK_ok sk sv) hNs rfl rfl (c_Book_cellsOf_x l hi _ _ hM.1 ht0 (by rw [g1] at h23; omega)) rfl (ma_goodc kc_Book_cellsOf) (B.2.2.2.1 _ k_2419) (B.2.2.2.1 _ k_2420) (B.2.2.2.1 _ k_2421) (B.2.2.2.1 _ k_13) ⟨by decide +kernel, by decide +kernel, by decide +kernel⟩ rfl d_Model_there_67 rfl (Nat.le_of_ble_eq_true rfl) ⟨by decide, by decide⟩ ⟨by decide, by decide⟩ ⟨by decide, by decide⟩ (mv_noH hno _) (fun v67 σ67 h67 => ?_)
            obtain ⟨e67, z67⟩ := h67
            have e67 := e67.symm
            subst e67
            refine mv_istore_n (pc := 70) B d_Model_there_70 rfl (by decide) rfl ?_
            refine mv_iload_n (pc := 71) B d_Model_there_71 rfl 0 rfl ?_
            refine mv_if_ne (pc := 72) (tgt := 87) B d_Model_there_72 rfl (fun h72 => ?_) (fun h72 => ?_)
            · skip
              refine mv_iload_n (pc := 87) B d_Model_there_87 rfl 3 rfl ?_
              refine mv_iload_n (pc := 88) B d_Model_there_88 rfl 0 rfl ?_
              refine mv_icmp_ge (pc := 89) (tgt := 96) B d_Model_there_89 rfl (fun h89 => ?_) (fun h89 => ?_)
              · skip
                refine mv_iconst (pc := 96) (v := 0) B d_Model_there_96 (by decide) ?_
                exact mv_iret (pc := 97) B hr rfl d_Model_there_97 (Nat.le_refl _) (Nat.le_refl _) ⟨_, rfl, rfl, by first | exact Or.inl rfl | exact Or.inr ⟨rfl, ht0, hi0, Or.inl ⟨h9, Or.inl ⟨h40, h76⟩⟩⟩ | exact Or.inr ⟨rfl, ht0, hi0, Or.inl ⟨h9, Or.inr (Or.inl ⟨h49, hlt⟩)⟩⟩ | exact Or.inr ⟨rfl, ht0, hi0, Or.inl ⟨h9, Or.inr (Or.inr ⟨h40, h49, hlt⟩)⟩⟩ | exact Or.inr ⟨rfl, ht0, hi0, Or.inr ⟨h9, h23, hc⟩⟩⟩
              · skip
                have hlt := Int32.lt_iff_toInt_lt.mp (Int32.not_le.mp h89)
                try (have hc : ¬ mv_a σ 80 t9.toNatClampNeg = 0 → i9.toInt < (mv_a σ 78 t9.toNatClampNeg).toInt := fun y => by
                      rcases z67 with z | z
                      · exact absurd z.1 y
                      · rw [← z.2]; exact hlt)
                refine mv_iconst (pc := 92) (v := 1) B d_Model_there_92 (by decide) ?_
                refine mv_goto (pc := 93) (tgt := 97) B d_Model_there_93 rfl ?_
                exact mv_iret (pc := 97) B hr rfl d_Model_there_97 (Nat.le_refl _) (Nat.le_refl _) ⟨_, rfl, rfl, by first | exact Or.inl rfl | exact Or.inr ⟨rfl, ht0, hi0, Or.inl ⟨h9, Or.inl ⟨h40, h76⟩⟩⟩ | exact Or.inr ⟨rfl, ht0, hi0, Or.inl ⟨h9, Or.inr (Or.inl ⟨h49, hlt⟩)⟩⟩ | exact Or.inr ⟨rfl, ht0, hi0, Or.inl ⟨h9, Or.inr (Or.inr ⟨h40, h49, hlt⟩)⟩⟩ | exact Or.inr ⟨rfl, ht0, hi0, Or.inr ⟨h9, h23, hc⟩⟩⟩
            · skip
              try (have hc : ¬ mv_a σ 80 t9.toNatClampNeg = 0 → i9.toInt < (mv_a σ 78 t9.toNatClampNeg).toInt := fun y => by
                    rcases z67 with z | z
                    · exact absurd z.1 y
                    · have y1 := (hTA t9.toNatClampNeg (by omega)).2.1.2 y
                      have y2 := h72
                      rw [z.2] at y2
                      have y1 : 1 ≤ (mv_a σ 78 t9.toNatClampNeg).toInt := y1
                      rw [y2] at y1
                      exact absurd y1 (by decide))
              refine mv_iload_n (pc := 75) B d_Model_there_75 rfl 3 rfl ?_
              refine mv_if_ne (pc := 76) (tgt := 83) B d_Model_there_76 rfl (fun h76 => ?_) (fun h76 => ?_)
              · skip
                refine mv_iconst (pc := 83) (v := 0) B d_Model_there_83 (by decide) ?_
                refine mv_goto (pc := 84) (tgt := 97) B d_Model_there_84 rfl ?_
                exact mv_iret (pc := 97) B hr rfl d_Model_there_97 (Nat.le_refl _) (Nat.le_refl _) ⟨_, rfl, rfl, by first | exact Or.inl rfl | exact Or.inr ⟨rfl, ht0, hi0, Or.inl ⟨h9, Or.inl ⟨h40, h76⟩⟩⟩ | exact Or.inr ⟨rfl, ht0, hi0, Or.inl ⟨h9, Or.inr (Or.inl ⟨h49, hlt⟩)⟩⟩ | exact Or.inr ⟨rfl, ht0, hi0, Or.inl ⟨h9, Or.inr (Or.inr ⟨h40, h49, hlt⟩)⟩⟩ | exact Or.inr ⟨rfl, ht0, hi0, Or.inr ⟨h9, h23, hc⟩⟩⟩
              · skip
                refine mv_iconst (pc := 79) (v := 1) B d_Model_there_79 (by decide) ?_
                refine mv_goto (pc := 80) (tgt := 97) B d_Model_there_80 rfl ?_
                exact mv_iret (pc := 97) B hr rfl d_Model_there_97 (Nat.le_refl _) (Nat.le_refl _) ⟨_, rfl, rfl, by first | exact Or.inl rfl | exact Or.inr ⟨rfl, ht0, hi0, Or.inl ⟨h9, Or.inl ⟨h40, h76⟩⟩⟩ | exact Or.inr ⟨rfl, ht0, hi0, Or.inl ⟨h9, Or.inr (Or.inl ⟨h49, hlt⟩)⟩⟩ | exact Or.inr ⟨rfl, ht0, hi0, Or.inl ⟨h9, Or.inr (Or.inr ⟨h40, h49, hlt⟩)⟩⟩ | exact Or.inr ⟨rfl, ht0, hi0, Or.inr ⟨h9, h23, hc⟩⟩⟩
          · skip
            exact absurd h9 h36
        · skip
          refine mv_iconst (pc := 30) (v := 0) B d_Model_there_30 (by decide) ?_
          exact mv_iret (pc := 31) B hr rfl d_Model_there_31 (Nat.le_refl _) (Nat.le_refl _) ⟨_, rfl, rfl, Or.inl rfl⟩
    · skip
      refine mv_iconst (pc := 12) (v := 3) B d_Model_there_12 (by decide) ?_
      refine mv_goto (pc := 13) (tgt := 23) B d_Model_there_13 rfl ?_
      refine mv_icmp_ge (pc := 23) (tgt := 30) B d_Model_there_23 rfl (fun h23 => ?_) (fun h23 => ?_)
      · skip
        refine mv_iconst (pc := 30) (v := 0) B d_Model_there_30 (by decide) ?_
        exact mv_iret (pc := 31) B hr rfl d_Model_there_31 (Nat.le_refl _) (Nat.le_refl _) ⟨_, rfl, rfl, Or.inl rfl⟩
      · skip
        have h23 := Int32.lt_iff_toInt_lt.mp (Int32.not_le.mp h23)
        refine mv_iload_n (pc := 26) B d_Model_there_26 rfl 2 rfl ?_
        refine mv_if_ge (pc := 27) (tgt := 32) B d_Model_there_27 rfl (fun h27 => ?_) (fun h27 => ?_)
        · skip
          have hi0 : 0 ≤ i9.toInt := Int32.le_iff_toInt_le.mp h27
          refine mv_aload_n (pc := 32) B d_Model_there_32 rfl 0 rfl ?_
          refine mv_getI (pc := 33) (ci := 11) (C := R_Model) (T := F_Model) (N := 16) B 11 rfl rfl (by decide) i_Model (B.2.2.2.1 _ k_2056) rfl d_Model_there_33 ?_
          refine mv_if_eq (pc := 36) (tgt := 62) B d_Model_there_36 rfl (fun h36 => ?_) (fun h36 => ?_)
          · skip
            exact absurd h36 h9
          · skip
            refine mv_iload_n (pc := 39) B d_Model_there_39 rfl 1 rfl ?_
            refine mv_if_ne (pc := 40) (tgt := 47) B d_Model_there_40 rfl (fun h40 => ?_) (fun h40 => ?_)
            · skip
              refine mv_iload_n (pc := 47) B d_Model_there_47 rfl 1 rfl ?_
              refine mv_iconst (pc := 48) (v := 1) B d_Model_there_48 (by decide) ?_
              refine mv_icmp_ne (pc := 49) (tgt := 57) B d_Model_there_49 rfl (fun h49 => ?_) (fun h49 => ?_)
              · skip
                refine mv_ldc (pc := 57) (v := 32768) B (B.2.2.2.1 _ k_1815) d_Model_there_57 ?_
                refine mv_goto (pc := 59) (tgt := 70) B d_Model_there_59 rfl ?_
                refine mv_istore_n (pc := 70) B d_Model_there_70 rfl (by decide) rfl ?_
                refine mv_iload_n (pc := 71) B d_Model_there_71 rfl 0 rfl ?_
                refine mv_if_ne (pc := 72) (tgt := 87) B d_Model_there_72 rfl (fun h72 => ?_) (fun h72 => ?_)
                · skip
                  refine mv_iload_n (pc := 87) B d_Model_there_87 rfl 3 rfl ?_
                  refine mv_iload_n (pc := 88) B d_Model_there_88 rfl 0 rfl ?_
                  refine mv_icmp_ge (pc := 89) (tgt := 96) B d_Model_there_89 rfl (fun h89 => ?_) (fun h89 => ?_)
                  · skip
                    refine mv_iconst (pc := 96) (v := 0) B d_Model_there_96 (by decide) ?_
                    exact mv_iret (pc := 97) B hr rfl d_Model_there_97 (Nat.le_refl _) (Nat.le_refl _) ⟨_, rfl, rfl, by first | exact Or.inl rfl | exact Or.inr ⟨rfl, ht0, hi0, Or.inl ⟨h9, Or.inl ⟨h40, h76⟩⟩⟩ | exact Or.inr ⟨rfl, ht0, hi0, Or.inl ⟨h9, Or.inr (Or.inl ⟨h49, hlt⟩)⟩⟩ | exact Or.inr ⟨rfl, ht0, hi0, Or.inl ⟨h9, Or.inr (Or.inr ⟨h40, h49, hlt⟩)⟩⟩ | exact Or.inr ⟨rfl, ht0, hi0, Or.inr ⟨h9, h23, hc⟩⟩⟩
                  · skip
                    have hlt := Int32.lt_iff_toInt_lt.mp (Int32.not_le.mp h89)
                    try (have hc : ¬ mv_a σ 80 t9.toNatClampNeg = 0 → i9.toInt < (mv_a σ 78 t9.toNatClampNeg).toInt := fun y => by
                          rcases z67 with z | z
                          · exact absurd z.1 y
                          · rw [← z.2]; exact hlt)
                    refine mv_iconst (pc := 92) (v := 1) B d_Model_there_92 (by decide) ?_
                    refine mv_goto (pc := 93) (tgt := 97) B d_Model_there_93 rfl ?_
                    exact mv_iret (pc := 97) B hr rfl d_Model_there_97 (Nat.le_refl _) (Nat.le_refl _) ⟨_, rfl, rfl, by first | exact Or.inl rfl | exact Or.inr ⟨rfl, ht0, hi0, Or.inl ⟨h9, Or.inl ⟨h40, h76⟩⟩⟩ | exact Or.inr ⟨rfl, ht0, hi0, Or.inl ⟨h9, Or.inr (Or.inl ⟨h49, hlt⟩)⟩⟩ | exact Or.inr ⟨rfl, ht0, hi0, Or.inl ⟨h9, Or.inr (Or.inr ⟨h40, h49, hlt⟩)⟩⟩ | exact Or.inr ⟨rfl, ht0, hi0, Or.inr ⟨h9, h23, hc⟩⟩⟩
                · skip
                  exact absurd h72 (by decide)
              · skip
                refine mv_bipush (pc := 52) (v := 32) B d_Model_there_52 (by decide) ?_
                refine mv_goto (pc := 54) (tgt := 70) B d_Model_there_54 rfl ?_
                refine mv_istore_n (pc := 70) B d_Model_there_70 rfl (by decide) rfl ?_
                refine mv_iload_n (pc := 71) B d_Model_there_71 rfl 0 rfl ?_
                refine mv_if_ne (pc := 72) (tgt := 87) B d_Model_there_72 rfl (fun h72 => ?_) (fun h72 => ?_)
                · skip
                  refine mv_iload_n (pc := 87) B d_Model_there_87 rfl 3 rfl ?_
                  refine mv_iload_n (pc := 88) B d_Model_there_88 rfl 0 rfl ?_
                  refine mv_icmp_ge (pc := 89) (tgt := 96) B d_Model_there_89 rfl (fun h89 => ?_) (fun h89 => ?_)
                  · skip
                    refine mv_iconst (pc := 96) (v := 0) B d_Model_there_96 (by decide) ?_
                    exact mv_iret (pc := 97) B hr rfl d_Model_there_97 (Nat.le_refl _) (Nat.le_refl _) ⟨_, rfl, rfl, by first | exact Or.inl rfl | exact Or.inr ⟨rfl, ht0, hi0, Or.inl ⟨h9, Or.inl ⟨h40, h76⟩⟩⟩ | exact Or.inr ⟨rfl, ht0, hi0, Or.inl ⟨h9, Or.inr (Or.inl ⟨h49, hlt⟩)⟩⟩ | exact Or.inr ⟨rfl, ht0, hi0, Or.inl ⟨h9, Or.inr (Or.inr ⟨h40, h49, hlt⟩)⟩⟩ | exact Or.inr ⟨rfl, ht0, hi0, Or.inr ⟨h9, h23, hc⟩⟩⟩
                  · skip
                    have hlt := Int32.lt_iff_toInt_lt.mp (Int32.not_le.mp h89)
                    try (have hc : ¬ mv_a σ 80 t9.toNatClampNeg = 0 → i9.toInt < (mv_a σ 78 t9.toNatClampNeg).toInt := fun y => by
                          rcases z67 with z | z
                          · exact absurd z.1 y
                          · rw [← z.2]; exact hlt)
                    refine mv_iconst (pc := 92) (v := 1) B d_Model_there_92 (by decide) ?_
                    refine mv_goto (pc := 93) (tgt := 97) B d_Model_there_93 rfl ?_
                    exact mv_iret (pc := 97) B hr rfl d_Model_there_97 (Nat.le_refl _) (Nat.le_refl _) ⟨_, rfl, rfl, by first | exact Or.inl rfl | exact Or.inr ⟨rfl, ht0, hi0, Or.inl ⟨h9, Or.inl ⟨h40, h76⟩⟩⟩ | exact Or.inr ⟨rfl, ht0, hi0, Or.inl ⟨h9, Or.inr (Or.inl ⟨h49, hlt⟩)⟩⟩ | exact Or.inr ⟨rfl, ht0, hi0, Or.inl ⟨h9, Or.inr (Or.inr ⟨h40, h49, hlt⟩)⟩⟩ | exact Or.inr ⟨rfl, ht0, hi0, Or.inr ⟨h9, h23, hc⟩⟩⟩
                · skip
                  exact absurd h72 (by decide)
            · skip
              refine mv_iconst (pc := 43) (v := 0) B d_Model_there_43 (by decide) ?_
              refine mv_goto (pc := 44) (tgt := 70) B d_Model_there_44 rfl ?_
              refine mv_istore_n (pc := 70) B d_Model_there_70 rfl (by decide) rfl ?_
              refine mv_iload_n (pc := 71) B d_Model_there_71 rfl 0 rfl ?_
              refine mv_if_ne (pc := 72) (tgt := 87) B d_Model_there_72 rfl (fun h72 => ?_) (fun h72 => ?_)
              · skip
                exact absurd rfl h72
              · skip
                try (have hc : ¬ mv_a σ 80 t9.toNatClampNeg = 0 → i9.toInt < (mv_a σ 78 t9.toNatClampNeg).toInt := fun y => by
                      rcases z67 with z | z
                      · exact absurd z.1 y
                      · have y1 := (hTA t9.toNatClampNeg (by omega)).2.1.2 y
                        have y2 := h72
                        rw [z.2] at y2
                        have y1 : 1 ≤ (mv_a σ 78 t9.toNatClampNeg).toInt := y1
                        rw [y2] at y1
                        exact absurd y1 (by decide))
                refine mv_iload_n (pc := 75) B d_Model_there_75 rfl 3 rfl ?_
                refine mv_if_ne (pc := 76) (tgt := 83) B d_Model_there_76 rfl (fun h76 => ?_) (fun h76 => ?_)
                · skip
                  refine mv_iconst (pc := 83) (v := 0) B d_Model_there_83 (by decide) ?_
                  refine mv_goto (pc := 84) (tgt := 97) B d_Model_there_84 rfl ?_
                  exact mv_iret (pc := 97) B hr rfl d_Model_there_97 (Nat.le_refl _) (Nat.le_refl _) ⟨_, rfl, rfl, by first | exact Or.inl rfl | exact Or.inr ⟨rfl, ht0, hi0, Or.inl ⟨h9, Or.inl ⟨h40, h76⟩⟩⟩ | exact Or.inr ⟨rfl, ht0, hi0, Or.inl ⟨h9, Or.inr (Or.inl ⟨h49, hlt⟩)⟩⟩ | exact Or.inr ⟨rfl, ht0, hi0, Or.inl ⟨h9, Or.inr (Or.inr ⟨h40, h49, hlt⟩)⟩⟩ | exact Or.inr ⟨rfl, ht0, hi0, Or.inr ⟨h9, h23, hc⟩⟩⟩
                · skip
                  refine mv_iconst (pc := 79) (v := 1) B d_Model_there_79 (by decide) ?_
                  refine mv_goto (pc := 80) (tgt := 97) B d_Model_there_80 rfl ?_
                  exact mv_iret (pc := 97) B hr rfl d_Model_there_97 (Nat.le_refl _) (Nat.le_refl _) ⟨_, rfl, rfl, by first | exact Or.inl rfl | exact Or.inr ⟨rfl, ht0, hi0, Or.inl ⟨h9, Or.inl ⟨h40, h76⟩⟩⟩ | exact Or.inr ⟨rfl, ht0, hi0, Or.inl ⟨h9, Or.inr (Or.inl ⟨h49, hlt⟩)⟩⟩ | exact Or.inr ⟨rfl, ht0, hi0, Or.inl ⟨h9, Or.inr (Or.inr ⟨h40, h49, hlt⟩)⟩⟩ | exact Or.inr ⟨rfl, ht0, hi0, Or.inr ⟨h9, h23, hc⟩⟩⟩
        · skip
          refine mv_iconst (pc := 30) (v := 0) B d_Model_there_30 (by decide) ?_
          exact mv_iret (pc := 31) B hr rfl d_Model_there_31 (Nat.le_refl _) (Nat.le_refl _) ⟨_, rfl, rfl, Or.inl rfl⟩
set_option maxHeartbeats 4000000 in
set_option maxRecDepth 100000 in
theorem c_Model_there_y (l : Launch) {dA : FieldType → ClassId} {D : va_G} {al : Nat → Nat} {ext : mv_Sh} {sk sv : Nat → Nat} (hi : mv_inj (mg dA D al ext)) (σ : mv_H) (hM : MI 108 74 σ) (t9 i9 : Int32) : mv_C l y_Model_there (Cond.code y_Model_there b_Model_there 4 (Option.some Jvm.ClassFile.FieldType.boolean) :: ma) ({ frames := 1, cells := 0, slots := 0, locals := 21 }) (mg dA D al ext) (mK sk sv) [.ref (al 70), .int t9, .int i9] σ (mv_Ri (fun v σ1 => σ1 = σ ∧ (v = 0 ∨ (v = 1 ∧ TP9 108 σ t9 i9)))) := by
  refine mv_C.ofV (cc := b_Model_there) (nL := 4) (ret := (Option.some Jvm.ClassFile.FieldType.boolean)) (by decide +kernel) rfl hi (Nat.le_of_ble_eq_true rfl) ?_
  intro p e s m below meth c B hNs hr hnm hno
  have hN : 108 = 74 ∨ 108 = 108 := by decide
  have hM0 := hM
  obtain ⟨-, -, -, th, n, k, g1, g2, g3, g4, g5, g6, hTA, g8⟩ := hM0
  clear g3 g4 g5 g6 g8
  refine mv_iload_n (pc := 0) B d_Model_there_0 rfl 1 rfl ?_
  refine mv_if_lt (pc := 1) (tgt := 30) B d_Model_there_1 rfl (fun h1 => ?_) (fun h1 => ?_)
  · skip
    refine mv_iconst (pc := 30) (v := 0) B d_Model_there_30 (by decide) ?_
    exact mv_iret (pc := 31) B hr rfl d_Model_there_31 (Nat.le_refl _) (Nat.le_refl _) ⟨_, rfl, rfl, Or.inl rfl⟩
  · skip
    have ht0 : 0 ≤ t9.toInt := Int.not_lt.mp (fun z => h1 (Int32.lt_iff_toInt_lt.mpr z))
    refine mv_iload_n (pc := 4) B d_Model_there_4 rfl 1 rfl ?_
    refine mv_aload_n (pc := 5) B d_Model_there_5 rfl 0 rfl ?_
    refine mv_getI (pc := 6) (ci := 11) (C := R_Model) (T := F_Model) (N := 16) B 11 rfl rfl (by decide) i_Model (B.2.2.2.1 _ k_2056) rfl d_Model_there_6 ?_
    refine mv_if_eq (pc := 9) (tgt := 16) B d_Model_there_9 rfl (fun h9 => ?_) (fun h9 => ?_)
    · skip
      refine mv_aload_n (pc := 16) B d_Model_there_16 rfl 0 rfl ?_
      refine mv_getR (pc := 17) (ci := 11) (C := R_Model) (T := F_Model) (N := 16) B 9 rfl rfl (by decide) i_Model (B.2.2.2.1 _ k_2054) rfl hM.2.1 d_Model_there_17 ?_
      refine mv_getI (pc := 20) (ci := 12) (C := R_Book) (T := F_Book) (N := 65) B 17 rfl rfl (by decide) i_Book (B.2.2.2.1 _ k_1861) rfl d_Model_there_20 ?_
      refine mv_icmp_ge (pc := 23) (tgt := 30) B d_Model_there_23 rfl (fun h23 => ?_) (fun h23 => ?_)
      · skip
        refine mv_iconst (pc := 30) (v := 0) B d_Model_there_30 (by decide) ?_
        exact mv_iret (pc := 31) B hr rfl d_Model_there_31 (Nat.le_refl _) (Nat.le_refl _) ⟨_, rfl, rfl, Or.inl rfl⟩
      · skip
        have h23 := Int32.lt_iff_toInt_lt.mp (Int32.not_le.mp h23)
        refine mv_iload_n (pc := 26) B d_Model_there_26 rfl 2 rfl ?_
        refine mv_if_ge (pc := 27) (tgt := 32) B d_Model_there_27 rfl (fun h27 => ?_) (fun h27 => ?_)
        · skip
          have hi0 : 0 ≤ i9.toInt := Int32.le_iff_toInt_le.mp h27
          refine mv_aload_n (pc := 32) B d_Model_there_32 rfl 0 rfl ?_
          refine mv_getI (pc := 33) (ci := 11) (C := R_Model) (T := F_Model) (N := 16) B 11 rfl rfl (by decide) i_Model (B.2.2.2.1 _ k_2056) rfl d_Model_there_33 ?_
          refine mv_if_eq (pc := 36) (tgt := 62) B d_Model_there_36 rfl (fun h36 => ?_) (fun h36 => ?_)
          · skip
            have hct := i32_cl ht0
            refine mv_aload_n (pc := 62) B d_Model_there_62 rfl 0 rfl ?_
            refine mv_getR (pc := 63) (ci := 11) (C := R_Model) (T := F_Model) (N := 16) B 9 rfl rfl (by decide) i_Model (B.2.2.2.1 _ k_2054) rfl hM.2.1 d_Model_there_63 ?_
            refine mv_iload_n (pc := 66) B d_Model_there_66 rfl 1 rfl ?_
            refine mv_callVi (pc := 67) (n := 1) (ci := 12) (C := R_Book) B (mK_ok sk sv) hNs rfl rfl (c_Book_cellsOf_y l hi _ _ hM.1 ht0 (by rw [g1] at h23; omega)) rfl (ma_goodc kc_Book_cellsOf) (B.2.2.2.1 _ k_2419) (B.2.2.2.1 _ k_2420) (B.2.2.2.1 _ k_2421) (B.2.2.2.1 _ k_13) ⟨by decide +kernel, by decide +kernel, by decide +kernel⟩ rfl d_Model_there_67 rfl (Nat.le_of_ble_eq_true rfl) ⟨by decide, by decide⟩ ⟨by decide, by decide⟩ ⟨by decide, by decide⟩ (mv_noH hno _) (fun v67 σ67 h67 => ?_)
            obtain ⟨e67, z67⟩ := h67
            have e67 := e67.symm
            subst e67
            refine mv_istore_n (pc := 70) B d_Model_there_70 rfl (by decide) rfl ?_
            refine mv_iload_n (pc := 71) B d_Model_there_71 rfl 0 rfl ?_
            refine mv_if_ne (pc := 72) (tgt := 87) B d_Model_there_72 rfl (fun h72 => ?_) (fun h72 => ?_)
            · skip
              refine mv_iload_n (pc := 87) B d_Model_there_87 rfl 3 rfl ?_
              refine mv_iload_n (pc := 88) B d_Model_there_88 rfl 0 rfl ?_
              refine mv_icmp_ge (pc := 89) (tgt := 96) B d_Model_there_89 rfl (fun h89 => ?_) (fun h89 => ?_)
              · skip
                refine mv_iconst (pc := 96) (v := 0) B d_Model_there_96 (by decide) ?_
                exact mv_iret (pc := 97) B hr rfl d_Model_there_97 (Nat.le_refl _) (Nat.le_refl _) ⟨_, rfl, rfl, by first | exact Or.inl rfl | exact Or.inr ⟨rfl, ht0, hi0, Or.inl ⟨h9, Or.inl ⟨h40, h76⟩⟩⟩ | exact Or.inr ⟨rfl, ht0, hi0, Or.inl ⟨h9, Or.inr (Or.inl ⟨h49, hlt⟩)⟩⟩ | exact Or.inr ⟨rfl, ht0, hi0, Or.inl ⟨h9, Or.inr (Or.inr ⟨h40, h49, hlt⟩)⟩⟩ | exact Or.inr ⟨rfl, ht0, hi0, Or.inr ⟨h9, h23, hc⟩⟩⟩
              · skip
                have hlt := Int32.lt_iff_toInt_lt.mp (Int32.not_le.mp h89)
                try (have hc : ¬ mv_a σ 114 t9.toNatClampNeg = 0 → i9.toInt < (mv_a σ 112 t9.toNatClampNeg).toInt := fun y => by
                      rcases z67 with z | z
                      · exact absurd z.1 y
                      · rw [← z.2]; exact hlt)
                refine mv_iconst (pc := 92) (v := 1) B d_Model_there_92 (by decide) ?_
                refine mv_goto (pc := 93) (tgt := 97) B d_Model_there_93 rfl ?_
                exact mv_iret (pc := 97) B hr rfl d_Model_there_97 (Nat.le_refl _) (Nat.le_refl _) ⟨_, rfl, rfl, by first | exact Or.inl rfl | exact Or.inr ⟨rfl, ht0, hi0, Or.inl ⟨h9, Or.inl ⟨h40, h76⟩⟩⟩ | exact Or.inr ⟨rfl, ht0, hi0, Or.inl ⟨h9, Or.inr (Or.inl ⟨h49, hlt⟩)⟩⟩ | exact Or.inr ⟨rfl, ht0, hi0, Or.inl ⟨h9, Or.inr (Or.inr ⟨h40, h49, hlt⟩)⟩⟩ | exact Or.inr ⟨rfl, ht0, hi0, Or.inr ⟨h9, h23, hc⟩⟩⟩
            · skip
              try (have hc : ¬ mv_a σ 114 t9.toNatClampNeg = 0 → i9.toInt < (mv_a σ 112 t9.toNatClampNeg).toInt := fun y => by
                    rcases z67 with z | z
                    · exact absurd z.1 y
                    · have y1 := (hTA t9.toNatClampNeg (by omega)).2.1.2 y
                      have y2 := h72
                      rw [z.2] at y2
                      have y1 : 1 ≤ (mv_a σ 112 t9.toNatClampNeg).toInt := y1
                      rw [y2] at y1
                      exact absurd y1 (by decide))
              refine mv_iload_n (pc := 75) B d_Model_there_75 rfl 3 rfl ?_
              refine mv_if_ne (pc := 76) (tgt := 83) B d_Model_there_76 rfl (fun h76 => ?_) (fun h76 => ?_)
              · skip
                refine mv_iconst (pc := 83) (v := 0) B d_Model_there_83 (by decide) ?_
                refine mv_goto (pc := 84) (tgt := 97) B d_Model_there_84 rfl ?_
                exact mv_iret (pc := 97) B hr rfl d_Model_there_97 (Nat.le_refl _) (Nat.le_refl _) ⟨_, rfl, rfl, by first | exact Or.inl rfl | exact Or.inr ⟨rfl, ht0, hi0, Or.inl ⟨h9, Or.inl ⟨h40, h76⟩⟩⟩ | exact Or.inr ⟨rfl, ht0, hi0, Or.inl ⟨h9, Or.inr (Or.inl ⟨h49, hlt⟩)⟩⟩ | exact Or.inr ⟨rfl, ht0, hi0, Or.inl ⟨h9, Or.inr (Or.inr ⟨h40, h49, hlt⟩)⟩⟩ | exact Or.inr ⟨rfl, ht0, hi0, Or.inr ⟨h9, h23, hc⟩⟩⟩
              · skip
                refine mv_iconst (pc := 79) (v := 1) B d_Model_there_79 (by decide) ?_
                refine mv_goto (pc := 80) (tgt := 97) B d_Model_there_80 rfl ?_
                exact mv_iret (pc := 97) B hr rfl d_Model_there_97 (Nat.le_refl _) (Nat.le_refl _) ⟨_, rfl, rfl, by first | exact Or.inl rfl | exact Or.inr ⟨rfl, ht0, hi0, Or.inl ⟨h9, Or.inl ⟨h40, h76⟩⟩⟩ | exact Or.inr ⟨rfl, ht0, hi0, Or.inl ⟨h9, Or.inr (Or.inl ⟨h49, hlt⟩)⟩⟩ | exact Or.inr ⟨rfl, ht0, hi0, Or.inl ⟨h9, Or.inr (Or.inr ⟨h40, h49, hlt⟩)⟩⟩ | exact Or.inr ⟨rfl, ht0, hi0, Or.inr ⟨h9, h23, hc⟩⟩⟩
          · skip
            exact absurd h9 h36
        · skip
          refine mv_iconst (pc := 30) (v := 0) B d_Model_there_30 (by decide) ?_
          exact mv_iret (pc := 31) B hr rfl d_Model_there_31 (Nat.le_refl _) (Nat.le_refl _) ⟨_, rfl, rfl, Or.inl rfl⟩
    · skip
      refine mv_iconst (pc := 12) (v := 3) B d_Model_there_12 (by decide) ?_
      refine mv_goto (pc := 13) (tgt := 23) B d_Model_there_13 rfl ?_
      refine mv_icmp_ge (pc := 23) (tgt := 30) B d_Model_there_23 rfl (fun h23 => ?_) (fun h23 => ?_)
      · skip
        refine mv_iconst (pc := 30) (v := 0) B d_Model_there_30 (by decide) ?_
        exact mv_iret (pc := 31) B hr rfl d_Model_there_31 (Nat.le_refl _) (Nat.le_refl _) ⟨_, rfl, rfl, Or.inl rfl⟩
      · skip
        have h23 := Int32.lt_iff_toInt_lt.mp (Int32.not_le.mp h23)
        refine mv_iload_n (pc := 26) B d_Model_there_26 rfl 2 rfl ?_
        refine mv_if_ge (pc := 27) (tgt := 32) B d_Model_there_27 rfl (fun h27 => ?_) (fun h27 => ?_)
        · skip
          have hi0 : 0 ≤ i9.toInt := Int32.le_iff_toInt_le.mp h27
          refine mv_aload_n (pc := 32) B d_Model_there_32 rfl 0 rfl ?_
          refine mv_getI (pc := 33) (ci := 11) (C := R_Model) (T := F_Model) (N := 16) B 11 rfl rfl (by decide) i_Model (B.2.2.2.1 _ k_2056) rfl d_Model_there_33 ?_
          refine mv_if_eq (pc := 36) (tgt := 62) B d_Model_there_36 rfl (fun h36 => ?_) (fun h36 => ?_)
          · skip
            exact absurd h36 h9
          · skip
            refine mv_iload_n (pc := 39) B d_Model_there_39 rfl 1 rfl ?_
            refine mv_if_ne (pc := 40) (tgt := 47) B d_Model_there_40 rfl (fun h40 => ?_) (fun h40 => ?_)
            · skip
              refine mv_iload_n (pc := 47) B d_Model_there_47 rfl 1 rfl ?_
              refine mv_iconst (pc := 48) (v := 1) B d_Model_there_48 (by decide) ?_
              refine mv_icmp_ne (pc := 49) (tgt := 57) B d_Model_there_49 rfl (fun h49 => ?_) (fun h49 => ?_)
              · skip
                refine mv_ldc (pc := 57) (v := 32768) B (B.2.2.2.1 _ k_1815) d_Model_there_57 ?_
                refine mv_goto (pc := 59) (tgt := 70) B d_Model_there_59 rfl ?_
                refine mv_istore_n (pc := 70) B d_Model_there_70 rfl (by decide) rfl ?_
                refine mv_iload_n (pc := 71) B d_Model_there_71 rfl 0 rfl ?_
                refine mv_if_ne (pc := 72) (tgt := 87) B d_Model_there_72 rfl (fun h72 => ?_) (fun h72 => ?_)
                · skip
                  refine mv_iload_n (pc := 87) B d_Model_there_87 rfl 3 rfl ?_
                  refine mv_iload_n (pc := 88) B d_Model_there_88 rfl 0 rfl ?_
                  refine mv_icmp_ge (pc := 89) (tgt := 96) B d_Model_there_89 rfl (fun h89 => ?_) (fun h89 => ?_)
                  · skip
                    refine mv_iconst (pc := 96) (v := 0) B d_Model_there_96 (by decide) ?_
                    exact mv_iret (pc := 97) B hr rfl d_Model_there_97 (Nat.le_refl _) (Nat.le_refl _) ⟨_, rfl, rfl, by first | exact Or.inl rfl | exact Or.inr ⟨rfl, ht0, hi0, Or.inl ⟨h9, Or.inl ⟨h40, h76⟩⟩⟩ | exact Or.inr ⟨rfl, ht0, hi0, Or.inl ⟨h9, Or.inr (Or.inl ⟨h49, hlt⟩)⟩⟩ | exact Or.inr ⟨rfl, ht0, hi0, Or.inl ⟨h9, Or.inr (Or.inr ⟨h40, h49, hlt⟩)⟩⟩ | exact Or.inr ⟨rfl, ht0, hi0, Or.inr ⟨h9, h23, hc⟩⟩⟩
                  · skip
                    have hlt := Int32.lt_iff_toInt_lt.mp (Int32.not_le.mp h89)
                    try (have hc : ¬ mv_a σ 114 t9.toNatClampNeg = 0 → i9.toInt < (mv_a σ 112 t9.toNatClampNeg).toInt := fun y => by
                          rcases z67 with z | z
                          · exact absurd z.1 y
                          · rw [← z.2]; exact hlt)
                    refine mv_iconst (pc := 92) (v := 1) B d_Model_there_92 (by decide) ?_
                    refine mv_goto (pc := 93) (tgt := 97) B d_Model_there_93 rfl ?_
                    exact mv_iret (pc := 97) B hr rfl d_Model_there_97 (Nat.le_refl _) (Nat.le_refl _) ⟨_, rfl, rfl, by first | exact Or.inl rfl | exact Or.inr ⟨rfl, ht0, hi0, Or.inl ⟨h9, Or.inl ⟨h40, h76⟩⟩⟩ | exact Or.inr ⟨rfl, ht0, hi0, Or.inl ⟨h9, Or.inr (Or.inl ⟨h49, hlt⟩)⟩⟩ | exact Or.inr ⟨rfl, ht0, hi0, Or.inl ⟨h9, Or.inr (Or.inr ⟨h40, h49, hlt⟩)⟩⟩ | exact Or.inr ⟨rfl, ht0, hi0, Or.inr ⟨h9, h23, hc⟩⟩⟩
                · skip
                  exact absurd h72 (by decide)
              · skip
                refine mv_bipush (pc := 52) (v := 32) B d_Model_there_52 (by decide) ?_
                refine mv_goto (pc := 54) (tgt := 70) B d_Model_there_54 rfl ?_
                refine mv_istore_n (pc := 70) B d_Model_there_70 rfl (by decide) rfl ?_
                refine mv_iload_n (pc := 71) B d_Model_there_71 rfl 0 rfl ?_
                refine mv_if_ne (pc := 72) (tgt := 87) B d_Model_there_72 rfl (fun h72 => ?_) (fun h72 => ?_)
                · skip
                  refine mv_iload_n (pc := 87) B d_Model_there_87 rfl 3 rfl ?_
                  refine mv_iload_n (pc := 88) B d_Model_there_88 rfl 0 rfl ?_
                  refine mv_icmp_ge (pc := 89) (tgt := 96) B d_Model_there_89 rfl (fun h89 => ?_) (fun h89 => ?_)
                  · skip
                    refine mv_iconst (pc := 96) (v := 0) B d_Model_there_96 (by decide) ?_
                    exact mv_iret (pc := 97) B hr rfl d_Model_there_97 (Nat.le_refl _) (Nat.le_refl _) ⟨_, rfl, rfl, by first | exact Or.inl rfl | exact Or.inr ⟨rfl, ht0, hi0, Or.inl ⟨h9, Or.inl ⟨h40, h76⟩⟩⟩ | exact Or.inr ⟨rfl, ht0, hi0, Or.inl ⟨h9, Or.inr (Or.inl ⟨h49, hlt⟩)⟩⟩ | exact Or.inr ⟨rfl, ht0, hi0, Or.inl ⟨h9, Or.inr (Or.inr ⟨h40, h49, hlt⟩)⟩⟩ | exact Or.inr ⟨rfl, ht0, hi0, Or.inr ⟨h9, h23, hc⟩⟩⟩
                  · skip
                    have hlt := Int32.lt_iff_toInt_lt.mp (Int32.not_le.mp h89)
                    try (have hc : ¬ mv_a σ 114 t9.toNatClampNeg = 0 → i9.toInt < (mv_a σ 112 t9.toNatClampNeg).toInt := fun y => by
                          rcases z67 with z | z
                          · exact absurd z.1 y
                          · rw [← z.2]; exact hlt)
                    refine mv_iconst (pc := 92) (v := 1) B d_Model_there_92 (by decide) ?_
                    refine mv_goto (pc := 93) (tgt := 97) B d_Model_there_93 rfl ?_
                    exact mv_iret (pc := 97) B hr rfl d_Model_there_97 (Nat.le_refl _) (Nat.le_refl _) ⟨_, rfl, rfl, by first | exact Or.inl rfl | exact Or.inr ⟨rfl, ht0, hi0, Or.inl ⟨h9, Or.inl ⟨h40, h76⟩⟩⟩ | exact Or.inr ⟨rfl, ht0, hi0, Or.inl ⟨h9, Or.inr (Or.inl ⟨h49, hlt⟩)⟩⟩ | exact Or.inr ⟨rfl, ht0, hi0, Or.inl ⟨h9, Or.inr (Or.inr ⟨h40, h49, hlt⟩)⟩⟩ | exact Or.inr ⟨rfl, ht0, hi0, Or.inr ⟨h9, h23, hc⟩⟩⟩
                · skip
                  exact absurd h72 (by decide)
            · skip
              refine mv_iconst (pc := 43) (v := 0) B d_Model_there_43 (by decide) ?_
              refine mv_goto (pc := 44) (tgt := 70) B d_Model_there_44 rfl ?_
              refine mv_istore_n (pc := 70) B d_Model_there_70 rfl (by decide) rfl ?_
              refine mv_iload_n (pc := 71) B d_Model_there_71 rfl 0 rfl ?_
              refine mv_if_ne (pc := 72) (tgt := 87) B d_Model_there_72 rfl (fun h72 => ?_) (fun h72 => ?_)
              · skip
                exact absurd rfl h72
              · skip
                try (have hc : ¬ mv_a σ 114 t9.toNatClampNeg = 0 → i9.toInt < (mv_a σ 112 t9.toNatClampNeg).toInt := fun y => by
                      rcases z67 with z | z
                      · exact absurd z.1 y
                      · have y1 := (hTA t9.toNatClampNeg (by omega)).2.1.2 y
                        have y2 := h72
                        rw [z.2] at y2
                        have y1 : 1 ≤ (mv_a σ 112 t9.toNatClampNeg).toInt := y1
                        rw [y2] at y1
                        exact absurd y1 (by decide))
                refine mv_iload_n (pc := 75) B d_Model_there_75 rfl 3 rfl ?_
                refine mv_if_ne (pc := 76) (tgt := 83) B d_Model_there_76 rfl (fun h76 => ?_) (fun h76 => ?_)
                · skip
                  refine mv_iconst (pc := 83) (v := 0) B d_Model_there_83 (by decide) ?_
                  refine mv_goto (pc := 84) (tgt := 97) B d_Model_there_84 rfl ?_
                  exact mv_iret (pc := 97) B hr rfl d_Model_there_97 (Nat.le_refl _) (Nat.le_refl _) ⟨_, rfl, rfl, by first | exact Or.inl rfl | exact Or.inr ⟨rfl, ht0, hi0, Or.inl ⟨h9, Or.inl ⟨h40, h76⟩⟩⟩ | exact Or.inr ⟨rfl, ht0, hi0, Or.inl ⟨h9, Or.inr (Or.inl ⟨h49, hlt⟩)⟩⟩ | exact Or.inr ⟨rfl, ht0, hi0, Or.inl ⟨h9, Or.inr (Or.inr ⟨h40, h49, hlt⟩)⟩⟩ | exact Or.inr ⟨rfl, ht0, hi0, Or.inr ⟨h9, h23, hc⟩⟩⟩
                · skip
                  refine mv_iconst (pc := 79) (v := 1) B d_Model_there_79 (by decide) ?_
                  refine mv_goto (pc := 80) (tgt := 97) B d_Model_there_80 rfl ?_
                  exact mv_iret (pc := 97) B hr rfl d_Model_there_97 (Nat.le_refl _) (Nat.le_refl _) ⟨_, rfl, rfl, by first | exact Or.inl rfl | exact Or.inr ⟨rfl, ht0, hi0, Or.inl ⟨h9, Or.inl ⟨h40, h76⟩⟩⟩ | exact Or.inr ⟨rfl, ht0, hi0, Or.inl ⟨h9, Or.inr (Or.inl ⟨h49, hlt⟩)⟩⟩ | exact Or.inr ⟨rfl, ht0, hi0, Or.inl ⟨h9, Or.inr (Or.inr ⟨h40, h49, hlt⟩)⟩⟩ | exact Or.inr ⟨rfl, ht0, hi0, Or.inr ⟨h9, h23, hc⟩⟩⟩
        · skip
          refine mv_iconst (pc := 30) (v := 0) B d_Model_there_30 (by decide) ?_
          exact mv_iret (pc := 31) B hr rfl d_Model_there_31 (Nat.le_refl _) (Nat.le_refl _) ⟨_, rfl, rfl, Or.inl rfl⟩
def y_Model_poke : MethodName := ⟨"MachineLoomModel", "poke", "(IIJ)V"⟩
abbrev b_Model_poke : ByteArray := prog_14_method_32_code
theorem kc_Model_poke : Cond.code y_Model_poke b_Model_poke 5 (Option.none : Option Jvm.ClassFile.FieldType) ∈ ma := ma_of (tb_11 _ (List.mem_of_getElem? (i := 14) rfl)) rfl
theorem k_2415 : (Jvm.Cond.methodLink "MachineLoomModel" (200 : Nat) ({ cls := "MachineLoomModel", name := "there", desc := "(II)Z" } : Jvm.MethodName)) ∈ ma := ma_of (tb_11 _ (List.mem_of_getElem? (i := 15) rfl)) rfl
theorem k_2417 : (Jvm.Cond.instanceMethod ({ cls := "MachineLoomModel", name := "there", desc := "(II)Z" } : Jvm.MethodName)) ∈ ma := ma_of (tb_11 _ (List.mem_of_getElem? (i := 17) rfl)) rfl
theorem ks_124 : Cond.selects "MachineLoomModel" ⟨"MachineLoomModel", "there", "(II)Z"⟩ ⟨"MachineLoomModel", "there", "(II)Z"⟩ ∈ ma := ma_sel 124 rfl rfl
theorem k_2423 : (Jvm.Cond.methodLink "MachineLoomModel" (203 : Nat) ({ cls := "MachineLoomModel$Book", name := "poke", desc := "(IIJ)V" } : Jvm.MethodName)) ∈ ma := ma_of (tb_11 _ (List.mem_of_getElem? (i := 23) rfl)) rfl
theorem k_2424 : (Jvm.Cond.instanceMethod ({ cls := "MachineLoomModel$Book", name := "poke", desc := "(IIJ)V" } : Jvm.MethodName)) ∈ ma := ma_of (tb_11 _ (List.mem_of_getElem? (i := 24) rfl)) rfl
theorem k_2425 : (Jvm.Cond.selects "MachineLoomModel$Book" ({ cls := "MachineLoomModel$Book", name := "poke", desc := "(IIJ)V" } : Jvm.MethodName) ({ cls := "MachineLoomModel$Book", name := "poke", desc := "(IIJ)V" } : Jvm.MethodName)) ∈ ma := ma_of (tb_11 _ (List.mem_of_getElem? (i := 25) rfl)) rfl
theorem d_Model_poke_0 : decode b_Model_poke 0 = .ok (.aload_n 0, 1) := by decide +kernel
theorem d_Model_poke_1 : decode b_Model_poke 1 = .ok (.aload_n 0, 1) := by decide +kernel
theorem d_Model_poke_2 : decode b_Model_poke 2 = .ok (.iload_n 1, 1) := by decide +kernel
theorem d_Model_poke_3 : decode b_Model_poke 3 = .ok (.iload_n 2, 1) := by decide +kernel
theorem d_Model_poke_4 : decode b_Model_poke 4 = .ok (.invokevirtual 200, 3) := by decide +kernel
theorem d_Model_poke_7 : decode b_Model_poke 7 = .ok (.ifCond .eq (7), 3) := by decide +kernel
theorem d_Model_poke_10 : decode b_Model_poke 10 = .ok (.iconst 0, 1) := by decide +kernel
theorem d_Model_poke_11 : decode b_Model_poke 11 = .ok (.goto (4), 3) := by decide +kernel
theorem d_Model_poke_14 : decode b_Model_poke 14 = .ok (.iconst 1, 1) := by decide +kernel
theorem d_Model_poke_15 : decode b_Model_poke 15 = .ok (.putfield 38, 3) := by decide +kernel
theorem d_Model_poke_18 : decode b_Model_poke 18 = .ok (.aload_n 0, 1) := by decide +kernel
theorem d_Model_poke_19 : decode b_Model_poke 19 = .ok (.getfield 38, 3) := by decide +kernel
theorem d_Model_poke_22 : decode b_Model_poke 22 = .ok (.ifCond .le (4), 3) := by decide +kernel
theorem d_Model_poke_25 : decode b_Model_poke 25 = .ok (.return_, 1) := by decide +kernel
theorem d_Model_poke_26 : decode b_Model_poke 26 = .ok (.aload_n 0, 1) := by decide +kernel
theorem d_Model_poke_27 : decode b_Model_poke 27 = .ok (.getfield 162, 3) := by decide +kernel
theorem d_Model_poke_30 : decode b_Model_poke 30 = .ok (.ifCond .ne (16), 3) := by decide +kernel
theorem d_Model_poke_33 : decode b_Model_poke 33 = .ok (.aload_n 0, 1) := by decide +kernel
theorem d_Model_poke_34 : decode b_Model_poke 34 = .ok (.getfield 31, 3) := by decide +kernel
theorem d_Model_poke_37 : decode b_Model_poke 37 = .ok (.iload_n 1, 1) := by decide +kernel
theorem d_Model_poke_38 : decode b_Model_poke 38 = .ok (.iload_n 2, 1) := by decide +kernel
theorem d_Model_poke_39 : decode b_Model_poke 39 = .ok (.lload_n 3, 1) := by decide +kernel
theorem d_Model_poke_40 : decode b_Model_poke 40 = .ok (.invokevirtual 203, 3) := by decide +kernel
theorem d_Model_poke_43 : decode b_Model_poke 43 = .ok (.goto (40), 3) := by decide +kernel
theorem d_Model_poke_46 : decode b_Model_poke 46 = .ok (.iload_n 1, 1) := by decide +kernel
theorem d_Model_poke_47 : decode b_Model_poke 47 = .ok (.ifCond .ne (12), 3) := by decide +kernel
theorem d_Model_poke_50 : decode b_Model_poke 50 = .ok (.aload_n 0, 1) := by decide +kernel
theorem d_Model_poke_51 : decode b_Model_poke 51 = .ok (.lload_n 3, 1) := by decide +kernel
theorem d_Model_poke_52 : decode b_Model_poke 52 = .ok (.l2i, 1) := by decide +kernel
theorem d_Model_poke_53 : decode b_Model_poke 53 = .ok (.putfield 59, 3) := by decide +kernel
theorem d_Model_poke_56 : decode b_Model_poke 56 = .ok (.goto (27), 3) := by decide +kernel
theorem d_Model_poke_59 : decode b_Model_poke 59 = .ok (.iload_n 1, 1) := by decide +kernel
theorem d_Model_poke_60 : decode b_Model_poke 60 = .ok (.iconst 1, 1) := by decide +kernel
theorem d_Model_poke_61 : decode b_Model_poke 61 = .ok (.if_icmp .ne (13), 3) := by decide +kernel
theorem d_Model_poke_64 : decode b_Model_poke 64 = .ok (.aload_n 0, 1) := by decide +kernel
theorem d_Model_poke_65 : decode b_Model_poke 65 = .ok (.iload_n 2, 1) := by decide +kernel
theorem d_Model_poke_66 : decode b_Model_poke 66 = .ok (.lload_n 3, 1) := by decide +kernel
theorem d_Model_poke_67 : decode b_Model_poke 67 = .ok (.l2i, 1) := by decide +kernel
theorem d_Model_poke_68 : decode b_Model_poke 68 = .ok (.invokevirtual 77, 3) := by decide +kernel
theorem d_Model_poke_71 : decode b_Model_poke 71 = .ok (.goto (12), 3) := by decide +kernel
theorem d_Model_poke_74 : decode b_Model_poke 74 = .ok (.aload_n 0, 1) := by decide +kernel
theorem d_Model_poke_75 : decode b_Model_poke 75 = .ok (.getfield 25, 3) := by decide +kernel
theorem d_Model_poke_78 : decode b_Model_poke 78 = .ok (.iload_n 2, 1) := by decide +kernel
theorem d_Model_poke_79 : decode b_Model_poke 79 = .ok (.lload_n 3, 1) := by decide +kernel
theorem d_Model_poke_80 : decode b_Model_poke 80 = .ok (.l2i, 1) := by decide +kernel
theorem d_Model_poke_81 : decode b_Model_poke 81 = .ok (.i2b, 1) := by decide +kernel
theorem d_Model_poke_82 : decode b_Model_poke 82 = .ok (.bastore, 1) := by decide +kernel
theorem d_Model_poke_83 : decode b_Model_poke 83 = .ok (.return_, 1) := by decide +kernel
set_option maxHeartbeats 4000000 in
set_option maxRecDepth 100000 in
theorem c_Model_poke_x (l : Launch) {dA : FieldType → ClassId} {D : va_G} {al : Nat → Nat} {ext : mv_Sh} {sk sv : Nat → Nat} (hi : mv_inj (mg dA D al ext)) (σ : mv_H) (hM : MI 74 108 σ) (t9 i9 : Int32) (w0 : Int64) : mv_C l y_Model_poke (Cond.code y_Model_poke b_Model_poke 5 (Option.none : Option Jvm.ClassFile.FieldType) :: ma) ({ frames := 2, cells := 0, slots := 0, locals := 46 }) (mg dA D al ext) (mK sk sv) [.ref (al 70), .int t9, .int i9, .long w0] σ (mv_Rv (fun σ1 => QF 74 σ σ1)) := by
  refine mv_C.ofV (cc := b_Model_poke) (nL := 5) (ret := (Option.none : Option Jvm.ClassFile.FieldType)) (by decide +kernel) rfl hi (Nat.le_of_ble_eq_true rfl) ?_
  intro p e s m below meth c B hNs hr hnm hno
  have hN : 74 = 74 ∨ 74 = 108 := by decide
  refine mv_aload_n (pc := 0) B d_Model_poke_0 rfl 0 rfl ?_
  refine mv_aload_n (pc := 1) B d_Model_poke_1 rfl 0 rfl ?_
  refine mv_iload_n (pc := 2) B d_Model_poke_2 rfl 1 rfl ?_
  refine mv_iload_n (pc := 3) B d_Model_poke_3 rfl 2 rfl ?_
  refine mv_callVi (pc := 4) (n := 2) (ci := 11) (C := R_Model) B (mK_ok sk sv) hNs rfl rfl (c_Model_there_x l hi _ hM _ _) rfl (ma_goodc kc_Model_there) (B.2.2.2.1 _ k_2415) (B.2.2.2.1 _ k_2417) (B.2.2.2.1 _ ks_124) (B.2.2.2.1 _ k_12) ⟨by decide +kernel, by decide +kernel, by decide +kernel⟩ rfl d_Model_poke_4 rfl (Nat.le_of_ble_eq_true rfl) ⟨by decide, by decide⟩ ⟨by decide, by decide⟩ ⟨by decide, by decide⟩ (mv_noH hno _) (fun v4 σ4 h4 => ?_)
  obtain ⟨e4, z4⟩ := h4
  have e4 := e4.symm
  subst e4
  refine mv_if_eq (pc := 7) (tgt := 14) B d_Model_poke_7 rfl (fun h7 => ?_) (fun h7 => ?_)
  · skip
    refine mv_iconst (pc := 14) (v := 1) B d_Model_poke_14 (by decide) ?_
    refine mv_putI (pc := 15) (ci := 11) (C := R_Model) (T := F_Model) (N := 16) B 2 rfl rfl (by decide) i_Model t_Model_ok n_Model (B.2.2.2.1 _ k_2047) rfl rfl rfl rfl d_Model_poke_15 ?_
    refine mv_gen (fun S18 eS18 => ?_)
    have hF : QF 74 σ S18 := by rw [eS18]; exact QF.si Fx.rf (by decide)
    have hM := hM.qf hF hN
    first | have x18 : mv_i S18 70 2 = 0 := by rw [eS18, mv_si_s] | have x18 : mv_i S18 70 2 = 1 := by rw [eS18, mv_si_s] | have x18 : mv_i S18 70 2 = 2 := by rw [eS18, mv_si_s]
    try have hTP : TP9 74 S18 t9 i9 := (z4.resolve_left h7).2.th eS18 hN
    clear eS18
    refine mv_aload_n (pc := 18) B d_Model_poke_18 rfl 0 rfl ?_
    refine mv_getI (pc := 19) (ci := 11) (C := R_Model) (T := F_Model) (N := 16) B 2 rfl rfl (by decide) i_Model (B.2.2.2.1 _ k_2047) rfl d_Model_poke_19 ?_
    refine mv_if_le (pc := 22) (tgt := 26) B d_Model_poke_22 rfl (fun h22 => ?_) (fun h22 => ?_)
    · skip
      exact absurd h22 (by rw [x18]; decide)
    · skip
      exact mv_vret (pc := 25) B hr d_Model_poke_25 (Nat.le_refl _) (Nat.le_refl _) ⟨rfl, hF⟩
  · skip
    refine mv_iconst (pc := 10) (v := 0) B d_Model_poke_10 (by decide) ?_
    refine mv_goto (pc := 11) (tgt := 15) B d_Model_poke_11 rfl ?_
    refine mv_putI (pc := 15) (ci := 11) (C := R_Model) (T := F_Model) (N := 16) B 2 rfl rfl (by decide) i_Model t_Model_ok n_Model (B.2.2.2.1 _ k_2047) rfl rfl rfl rfl d_Model_poke_15 ?_
    refine mv_gen (fun S18 eS18 => ?_)
    have hF : QF 74 σ S18 := by rw [eS18]; exact QF.si Fx.rf (by decide)
    have hM := hM.qf hF hN
    first | have x18 : mv_i S18 70 2 = 0 := by rw [eS18, mv_si_s] | have x18 : mv_i S18 70 2 = 1 := by rw [eS18, mv_si_s] | have x18 : mv_i S18 70 2 = 2 := by rw [eS18, mv_si_s]
    try have hTP : TP9 74 S18 t9 i9 := (z4.resolve_left h7).2.th eS18 hN
    clear eS18
    refine mv_aload_n (pc := 18) B d_Model_poke_18 rfl 0 rfl ?_
    refine mv_getI (pc := 19) (ci := 11) (C := R_Model) (T := F_Model) (N := 16) B 2 rfl rfl (by decide) i_Model (B.2.2.2.1 _ k_2047) rfl d_Model_poke_19 ?_
    refine mv_if_le (pc := 22) (tgt := 26) B d_Model_poke_22 rfl (fun h22 => ?_) (fun h22 => ?_)
    · skip
      refine mv_aload_n (pc := 26) B d_Model_poke_26 rfl 0 rfl ?_
      refine mv_getI (pc := 27) (ci := 11) (C := R_Model) (T := F_Model) (N := 16) B 11 rfl rfl (by decide) i_Model (B.2.2.2.1 _ k_2056) rfl d_Model_poke_27 ?_
      refine mv_if_ne (pc := 30) (tgt := 46) B d_Model_poke_30 rfl (fun h30 => ?_) (fun h30 => ?_)
      · skip
        have hsh := (hTP.2.2.resolve_right (fun z => h30 z.1)).2
        refine mv_iload_n (pc := 46) B d_Model_poke_46 rfl 1 rfl ?_
        refine mv_if_ne (pc := 47) (tgt := 59) B d_Model_poke_47 rfl (fun h47 => ?_) (fun h47 => ?_)
        · skip
          refine mv_iload_n (pc := 59) B d_Model_poke_59 rfl 1 rfl ?_
          refine mv_iconst (pc := 60) (v := 1) B d_Model_poke_60 (by decide) ?_
          refine mv_icmp_ne (pc := 61) (tgt := 74) B d_Model_poke_61 rfl (fun h61 => ?_) (fun h61 => ?_)
          · skip
            have hb : i9.toInt < 32768 := by
              rcases hsh with z | z | z
              · exact absurd z.1 h47
              · exact absurd z.1 h61
              · exact z.2.2
            refine mv_aload_n (pc := 74) B d_Model_poke_74 rfl 0 rfl ?_
            refine mv_getR (pc := 75) (ci := 11) (C := R_Model) (T := F_Model) (N := 16) B 8 rfl rfl (by decide) i_Model (B.2.2.2.1 _ k_2053) rfl (hM.1 _ 8 _ rfl) d_Model_poke_75 ?_
            refine mv_iload_n (pc := 78) B d_Model_poke_78 rfl 2 rfl ?_
            refine mv_lload_n (pc := 79) B d_Model_poke_79 rfl 3 rfl ?_
            refine mv_l2i (pc := 80) B d_Model_poke_80 ?_
            refine mv_i2b (pc := 81) B d_Model_poke_81 ?_
            refine mv_bast (pc := 82) B rfl (i32_in hTP.2.1 hb) d_Model_poke_82 ?_
            exact mv_vret (pc := 83) B hr d_Model_poke_83 (Nat.le_refl _) (Nat.le_refl _) ⟨rfl, by first | exact hF.tr h40.qf | exact hF.si (by decide) | exact hF.tr h68.qf | exact hF.tr (SM.qf (SM.m Fx.rf))⟩
          · skip
            have hset : i9.toInt < 32 := by
              rcases hsh with z | z | z
              · exact absurd z.1 h47
              · exact z.2
              · exact absurd h61 z.2.1
            refine mv_aload_n (pc := 64) B d_Model_poke_64 rfl 0 rfl ?_
            refine mv_iload_n (pc := 65) B d_Model_poke_65 rfl 2 rfl ?_
            refine mv_lload_n (pc := 66) B d_Model_poke_66 rfl 3 rfl ?_
            refine mv_l2i (pc := 67) B d_Model_poke_67 ?_
            refine mv_callVv (pc := 68) (n := 2) (ci := 11) (C := R_Model) B (mK_ok sk sv) hNs rfl rfl (c_Model_set l hi _ hM.1 _ _ ⟨hTP.2.1, hset⟩) rfl (ma_goodc kc_Model_set) (B.2.2.2.1 _ k_2430) (B.2.2.2.1 _ k_2432) (B.2.2.2.1 _ ks_125) (B.2.2.2.1 _ k_12) ⟨by decide +kernel, by decide +kernel, by decide +kernel⟩ rfl d_Model_poke_68 rfl (Nat.le_of_ble_eq_true rfl) ⟨by decide, by decide⟩ ⟨by decide, by decide⟩ ⟨by decide, by decide⟩ (mv_noH hno _) (fun σ68 h68 => ?_)
            refine mv_goto (pc := 71) (tgt := 83) B d_Model_poke_71 rfl ?_
            exact mv_vret (pc := 83) B hr d_Model_poke_83 (Nat.le_refl _) (Nat.le_refl _) ⟨rfl, by first | exact hF.tr h40.qf | exact hF.si (by decide) | exact hF.tr h68.qf | exact hF.tr (SM.qf (SM.m Fx.rf))⟩
        · skip
          refine mv_aload_n (pc := 50) B d_Model_poke_50 rfl 0 rfl ?_
          refine mv_lload_n (pc := 51) B d_Model_poke_51 rfl 3 rfl ?_
          refine mv_l2i (pc := 52) B d_Model_poke_52 ?_
          refine mv_putI (pc := 53) (ci := 11) (C := R_Model) (T := F_Model) (N := 16) B 6 rfl rfl (by decide) i_Model t_Model_ok n_Model (B.2.2.2.1 _ k_2051) rfl rfl rfl rfl d_Model_poke_53 ?_
          refine mv_goto (pc := 56) (tgt := 83) B d_Model_poke_56 rfl ?_
          exact mv_vret (pc := 83) B hr d_Model_poke_83 (Nat.le_refl _) (Nat.le_refl _) ⟨rfl, by first | exact hF.tr h40.qf | exact hF.si (by decide) | exact hF.tr h68.qf | exact hF.tr (SM.qf (SM.m Fx.rf))⟩
      · skip
        have hin := hTP.in hM h30
        refine mv_aload_n (pc := 33) B d_Model_poke_33 rfl 0 rfl ?_
        refine mv_getR (pc := 34) (ci := 11) (C := R_Model) (T := F_Model) (N := 16) B 9 rfl rfl (by decide) i_Model (B.2.2.2.1 _ k_2054) rfl hM.2.1 d_Model_poke_34 ?_
        refine mv_iload_n (pc := 37) B d_Model_poke_37 rfl 1 rfl ?_
        refine mv_iload_n (pc := 38) B d_Model_poke_38 rfl 2 rfl ?_
        refine mv_lload_n (pc := 39) B d_Model_poke_39 rfl 3 rfl ?_
        refine mv_callVv (pc := 40) (n := 3) (ci := 12) (C := R_Book) B (mK_ok sk sv) hNs rfl rfl (c_Book_poke_x l hi _ _ _ _ hM.1 hin.1.1 hin.1.2 hin.2) rfl (ma_goodc kc_Book_poke) (B.2.2.2.1 _ k_2423) (B.2.2.2.1 _ k_2424) (B.2.2.2.1 _ k_2425) (B.2.2.2.1 _ k_13) ⟨by decide +kernel, by decide +kernel, by decide +kernel⟩ rfl d_Model_poke_40 rfl (Nat.le_of_ble_eq_true rfl) ⟨by decide, by decide⟩ ⟨by decide, by decide⟩ ⟨by decide, by decide⟩ (mv_noH hno _) (fun σ40 h40 => ?_)
        refine mv_goto (pc := 43) (tgt := 83) B d_Model_poke_43 rfl ?_
        exact mv_vret (pc := 83) B hr d_Model_poke_83 (Nat.le_refl _) (Nat.le_refl _) ⟨rfl, by first | exact hF.tr h40.qf | exact hF.si (by decide) | exact hF.tr h68.qf | exact hF.tr (SM.qf (SM.m Fx.rf))⟩
    · skip
      exact absurd (by rw [x18]; decide) h22
set_option maxHeartbeats 4000000 in
set_option maxRecDepth 100000 in
theorem c_Model_poke_y (l : Launch) {dA : FieldType → ClassId} {D : va_G} {al : Nat → Nat} {ext : mv_Sh} {sk sv : Nat → Nat} (hi : mv_inj (mg dA D al ext)) (σ : mv_H) (hM : MI 108 74 σ) (t9 i9 : Int32) (w0 : Int64) : mv_C l y_Model_poke (Cond.code y_Model_poke b_Model_poke 5 (Option.none : Option Jvm.ClassFile.FieldType) :: ma) ({ frames := 2, cells := 0, slots := 0, locals := 46 }) (mg dA D al ext) (mK sk sv) [.ref (al 70), .int t9, .int i9, .long w0] σ (mv_Rv (fun σ1 => QF 108 σ σ1)) := by
  refine mv_C.ofV (cc := b_Model_poke) (nL := 5) (ret := (Option.none : Option Jvm.ClassFile.FieldType)) (by decide +kernel) rfl hi (Nat.le_of_ble_eq_true rfl) ?_
  intro p e s m below meth c B hNs hr hnm hno
  have hN : 108 = 74 ∨ 108 = 108 := by decide
  refine mv_aload_n (pc := 0) B d_Model_poke_0 rfl 0 rfl ?_
  refine mv_aload_n (pc := 1) B d_Model_poke_1 rfl 0 rfl ?_
  refine mv_iload_n (pc := 2) B d_Model_poke_2 rfl 1 rfl ?_
  refine mv_iload_n (pc := 3) B d_Model_poke_3 rfl 2 rfl ?_
  refine mv_callVi (pc := 4) (n := 2) (ci := 11) (C := R_Model) B (mK_ok sk sv) hNs rfl rfl (c_Model_there_y l hi _ hM _ _) rfl (ma_goodc kc_Model_there) (B.2.2.2.1 _ k_2415) (B.2.2.2.1 _ k_2417) (B.2.2.2.1 _ ks_124) (B.2.2.2.1 _ k_12) ⟨by decide +kernel, by decide +kernel, by decide +kernel⟩ rfl d_Model_poke_4 rfl (Nat.le_of_ble_eq_true rfl) ⟨by decide, by decide⟩ ⟨by decide, by decide⟩ ⟨by decide, by decide⟩ (mv_noH hno _) (fun v4 σ4 h4 => ?_)
  obtain ⟨e4, z4⟩ := h4
  have e4 := e4.symm
  subst e4
  refine mv_if_eq (pc := 7) (tgt := 14) B d_Model_poke_7 rfl (fun h7 => ?_) (fun h7 => ?_)
  · skip
    refine mv_iconst (pc := 14) (v := 1) B d_Model_poke_14 (by decide) ?_
    refine mv_putI (pc := 15) (ci := 11) (C := R_Model) (T := F_Model) (N := 16) B 2 rfl rfl (by decide) i_Model t_Model_ok n_Model (B.2.2.2.1 _ k_2047) rfl rfl rfl rfl d_Model_poke_15 ?_
    refine mv_gen (fun S18 eS18 => ?_)
    have hF : QF 108 σ S18 := by rw [eS18]; exact QF.si Fx.rf (by decide)
    have hM := hM.qf hF hN
    first | have x18 : mv_i S18 70 2 = 0 := by rw [eS18, mv_si_s] | have x18 : mv_i S18 70 2 = 1 := by rw [eS18, mv_si_s] | have x18 : mv_i S18 70 2 = 2 := by rw [eS18, mv_si_s]
    try have hTP : TP9 108 S18 t9 i9 := (z4.resolve_left h7).2.th eS18 hN
    clear eS18
    refine mv_aload_n (pc := 18) B d_Model_poke_18 rfl 0 rfl ?_
    refine mv_getI (pc := 19) (ci := 11) (C := R_Model) (T := F_Model) (N := 16) B 2 rfl rfl (by decide) i_Model (B.2.2.2.1 _ k_2047) rfl d_Model_poke_19 ?_
    refine mv_if_le (pc := 22) (tgt := 26) B d_Model_poke_22 rfl (fun h22 => ?_) (fun h22 => ?_)
    · skip
      exact absurd h22 (by rw [x18]; decide)
    · skip
      exact mv_vret (pc := 25) B hr d_Model_poke_25 (Nat.le_refl _) (Nat.le_refl _) ⟨rfl, hF⟩
  · skip
    refine mv_iconst (pc := 10) (v := 0) B d_Model_poke_10 (by decide) ?_
    refine mv_goto (pc := 11) (tgt := 15) B d_Model_poke_11 rfl ?_
    refine mv_putI (pc := 15) (ci := 11) (C := R_Model) (T := F_Model) (N := 16) B 2 rfl rfl (by decide) i_Model t_Model_ok n_Model (B.2.2.2.1 _ k_2047) rfl rfl rfl rfl d_Model_poke_15 ?_
    refine mv_gen (fun S18 eS18 => ?_)
    have hF : QF 108 σ S18 := by rw [eS18]; exact QF.si Fx.rf (by decide)
    have hM := hM.qf hF hN
    first | have x18 : mv_i S18 70 2 = 0 := by rw [eS18, mv_si_s] | have x18 : mv_i S18 70 2 = 1 := by rw [eS18, mv_si_s] | have x18 : mv_i S18 70 2 = 2 := by rw [eS18, mv_si_s]
    try have hTP : TP9 108 S18 t9 i9 := (z4.resolve_left h7).2.th eS18 hN
    clear eS18
    refine mv_aload_n (pc := 18) B d_Model_poke_18 rfl 0 rfl ?_
    refine mv_getI (pc := 19) (ci := 11) (C := R_Model) (T := F_Model) (N := 16) B 2 rfl rfl (by decide) i_Model (B.2.2.2.1 _ k_2047) rfl d_Model_poke_19 ?_
    refine mv_if_le (pc := 22) (tgt := 26) B d_Model_poke_22 rfl (fun h22 => ?_) (fun h22 => ?_)
    · skip
      refine mv_aload_n (pc := 26) B d_Model_poke_26 rfl 0 rfl ?_
      refine mv_getI (pc := 27) (ci := 11) (C := R_Model) (T := F_Model) (N := 16) B 11 rfl rfl (by decide) i_Model (B.2.2.2.1 _ k_2056) rfl d_Model_poke_27 ?_
      refine mv_if_ne (pc := 30) (tgt := 46) B d_Model_poke_30 rfl (fun h30 => ?_) (fun h30 => ?_)
      · skip
        have hsh := (hTP.2.2.resolve_right (fun z => h30 z.1)).2
        refine mv_iload_n (pc := 46) B d_Model_poke_46 rfl 1 rfl ?_
        refine mv_if_ne (pc := 47) (tgt := 59) B d_Model_poke_47 rfl (fun h47 => ?_) (fun h47 => ?_)
        · skip
          refine mv_iload_n (pc := 59) B d_Model_poke_59 rfl 1 rfl ?_
          refine mv_iconst (pc := 60) (v := 1) B d_Model_poke_60 (by decide) ?_
          refine mv_icmp_ne (pc := 61) (tgt := 74) B d_Model_poke_61 rfl (fun h61 => ?_) (fun h61 => ?_)
          · skip
            have hb : i9.toInt < 32768 := by
              rcases hsh with z | z | z
              · exact absurd z.1 h47
              · exact absurd z.1 h61
              · exact z.2.2
            refine mv_aload_n (pc := 74) B d_Model_poke_74 rfl 0 rfl ?_
            refine mv_getR (pc := 75) (ci := 11) (C := R_Model) (T := F_Model) (N := 16) B 8 rfl rfl (by decide) i_Model (B.2.2.2.1 _ k_2053) rfl (hM.1 _ 8 _ rfl) d_Model_poke_75 ?_
            refine mv_iload_n (pc := 78) B d_Model_poke_78 rfl 2 rfl ?_
            refine mv_lload_n (pc := 79) B d_Model_poke_79 rfl 3 rfl ?_
            refine mv_l2i (pc := 80) B d_Model_poke_80 ?_
            refine mv_i2b (pc := 81) B d_Model_poke_81 ?_
            refine mv_bast (pc := 82) B rfl (i32_in hTP.2.1 hb) d_Model_poke_82 ?_
            exact mv_vret (pc := 83) B hr d_Model_poke_83 (Nat.le_refl _) (Nat.le_refl _) ⟨rfl, by first | exact hF.tr h40.qf | exact hF.si (by decide) | exact hF.tr h68.qf | exact hF.tr (SM.qf (SM.m Fx.rf))⟩
          · skip
            have hset : i9.toInt < 32 := by
              rcases hsh with z | z | z
              · exact absurd z.1 h47
              · exact z.2
              · exact absurd h61 z.2.1
            refine mv_aload_n (pc := 64) B d_Model_poke_64 rfl 0 rfl ?_
            refine mv_iload_n (pc := 65) B d_Model_poke_65 rfl 2 rfl ?_
            refine mv_lload_n (pc := 66) B d_Model_poke_66 rfl 3 rfl ?_
            refine mv_l2i (pc := 67) B d_Model_poke_67 ?_
            refine mv_callVv (pc := 68) (n := 2) (ci := 11) (C := R_Model) B (mK_ok sk sv) hNs rfl rfl (c_Model_set l hi _ hM.1 _ _ ⟨hTP.2.1, hset⟩) rfl (ma_goodc kc_Model_set) (B.2.2.2.1 _ k_2430) (B.2.2.2.1 _ k_2432) (B.2.2.2.1 _ ks_125) (B.2.2.2.1 _ k_12) ⟨by decide +kernel, by decide +kernel, by decide +kernel⟩ rfl d_Model_poke_68 rfl (Nat.le_of_ble_eq_true rfl) ⟨by decide, by decide⟩ ⟨by decide, by decide⟩ ⟨by decide, by decide⟩ (mv_noH hno _) (fun σ68 h68 => ?_)
            refine mv_goto (pc := 71) (tgt := 83) B d_Model_poke_71 rfl ?_
            exact mv_vret (pc := 83) B hr d_Model_poke_83 (Nat.le_refl _) (Nat.le_refl _) ⟨rfl, by first | exact hF.tr h40.qf | exact hF.si (by decide) | exact hF.tr h68.qf | exact hF.tr (SM.qf (SM.m Fx.rf))⟩
        · skip
          refine mv_aload_n (pc := 50) B d_Model_poke_50 rfl 0 rfl ?_
          refine mv_lload_n (pc := 51) B d_Model_poke_51 rfl 3 rfl ?_
          refine mv_l2i (pc := 52) B d_Model_poke_52 ?_
          refine mv_putI (pc := 53) (ci := 11) (C := R_Model) (T := F_Model) (N := 16) B 6 rfl rfl (by decide) i_Model t_Model_ok n_Model (B.2.2.2.1 _ k_2051) rfl rfl rfl rfl d_Model_poke_53 ?_
          refine mv_goto (pc := 56) (tgt := 83) B d_Model_poke_56 rfl ?_
          exact mv_vret (pc := 83) B hr d_Model_poke_83 (Nat.le_refl _) (Nat.le_refl _) ⟨rfl, by first | exact hF.tr h40.qf | exact hF.si (by decide) | exact hF.tr h68.qf | exact hF.tr (SM.qf (SM.m Fx.rf))⟩
      · skip
        have hin := hTP.in hM h30
        refine mv_aload_n (pc := 33) B d_Model_poke_33 rfl 0 rfl ?_
        refine mv_getR (pc := 34) (ci := 11) (C := R_Model) (T := F_Model) (N := 16) B 9 rfl rfl (by decide) i_Model (B.2.2.2.1 _ k_2054) rfl hM.2.1 d_Model_poke_34 ?_
        refine mv_iload_n (pc := 37) B d_Model_poke_37 rfl 1 rfl ?_
        refine mv_iload_n (pc := 38) B d_Model_poke_38 rfl 2 rfl ?_
        refine mv_lload_n (pc := 39) B d_Model_poke_39 rfl 3 rfl ?_
        refine mv_callVv (pc := 40) (n := 3) (ci := 12) (C := R_Book) B (mK_ok sk sv) hNs rfl rfl (c_Book_poke_y l hi _ _ _ _ hM.1 hin.1.1 hin.1.2 hin.2) rfl (ma_goodc kc_Book_poke) (B.2.2.2.1 _ k_2423) (B.2.2.2.1 _ k_2424) (B.2.2.2.1 _ k_2425) (B.2.2.2.1 _ k_13) ⟨by decide +kernel, by decide +kernel, by decide +kernel⟩ rfl d_Model_poke_40 rfl (Nat.le_of_ble_eq_true rfl) ⟨by decide, by decide⟩ ⟨by decide, by decide⟩ ⟨by decide, by decide⟩ (mv_noH hno _) (fun σ40 h40 => ?_)
        refine mv_goto (pc := 43) (tgt := 83) B d_Model_poke_43 rfl ?_
        exact mv_vret (pc := 83) B hr d_Model_poke_83 (Nat.le_refl _) (Nat.le_refl _) ⟨rfl, by first | exact hF.tr h40.qf | exact hF.si (by decide) | exact hF.tr h68.qf | exact hF.tr (SM.qf (SM.m Fx.rf))⟩
    · skip
      exact absurd (by rw [x18]; decide) h22
def y_Model_peek : MethodName := ⟨"MachineLoomModel", "peek", "(II)J"⟩
abbrev b_Model_peek : ByteArray := prog_14_method_33_code
theorem kc_Model_peek : Cond.code y_Model_peek b_Model_peek 3 (Option.some Jvm.ClassFile.FieldType.long) ∈ ma := ma_of (tb_11 _ (List.mem_of_getElem? (i := 37) rfl)) rfl
theorem k_2438 : (Jvm.Cond.methodLink "MachineLoomModel" (207 : Nat) ({ cls := "MachineLoomModel$Book", name := "peek", desc := "(II)J" } : Jvm.MethodName)) ∈ ma := ma_of (tb_11 _ (List.mem_of_getElem? (i := 38) rfl)) rfl
theorem k_2439 : (Jvm.Cond.instanceMethod ({ cls := "MachineLoomModel$Book", name := "peek", desc := "(II)J" } : Jvm.MethodName)) ∈ ma := ma_of (tb_11 _ (List.mem_of_getElem? (i := 39) rfl)) rfl
theorem k_2440 : (Jvm.Cond.selects "MachineLoomModel$Book" ({ cls := "MachineLoomModel$Book", name := "peek", desc := "(II)J" } : Jvm.MethodName) ({ cls := "MachineLoomModel$Book", name := "peek", desc := "(II)J" } : Jvm.MethodName)) ∈ ma := ma_of (tb_11 _ (List.mem_of_getElem? (i := 40) rfl)) rfl
theorem d_Model_peek_0 : decode b_Model_peek 0 = .ok (.aload_n 0, 1) := by decide +kernel
theorem d_Model_peek_1 : decode b_Model_peek 1 = .ok (.aload_n 0, 1) := by decide +kernel
theorem d_Model_peek_2 : decode b_Model_peek 2 = .ok (.iload_n 1, 1) := by decide +kernel
theorem d_Model_peek_3 : decode b_Model_peek 3 = .ok (.iload_n 2, 1) := by decide +kernel
theorem d_Model_peek_4 : decode b_Model_peek 4 = .ok (.invokevirtual 200, 3) := by decide +kernel
theorem d_Model_peek_7 : decode b_Model_peek 7 = .ok (.ifCond .eq (7), 3) := by decide +kernel
theorem d_Model_peek_10 : decode b_Model_peek 10 = .ok (.iconst 0, 1) := by decide +kernel
theorem d_Model_peek_11 : decode b_Model_peek 11 = .ok (.goto (4), 3) := by decide +kernel
theorem d_Model_peek_14 : decode b_Model_peek 14 = .ok (.iconst 1, 1) := by decide +kernel
theorem d_Model_peek_15 : decode b_Model_peek 15 = .ok (.putfield 38, 3) := by decide +kernel
theorem d_Model_peek_18 : decode b_Model_peek 18 = .ok (.aload_n 0, 1) := by decide +kernel
theorem d_Model_peek_19 : decode b_Model_peek 19 = .ok (.getfield 38, 3) := by decide +kernel
theorem d_Model_peek_22 : decode b_Model_peek 22 = .ok (.ifCond .le (5), 3) := by decide +kernel
theorem d_Model_peek_25 : decode b_Model_peek 25 = .ok (.lconst 0, 1) := by decide +kernel
theorem d_Model_peek_26 : decode b_Model_peek 26 = .ok (.lreturn, 1) := by decide +kernel
theorem d_Model_peek_27 : decode b_Model_peek 27 = .ok (.aload_n 0, 1) := by decide +kernel
theorem d_Model_peek_28 : decode b_Model_peek 28 = .ok (.getfield 162, 3) := by decide +kernel
theorem d_Model_peek_31 : decode b_Model_peek 31 = .ok (.ifCond .ne (13), 3) := by decide +kernel
theorem d_Model_peek_34 : decode b_Model_peek 34 = .ok (.aload_n 0, 1) := by decide +kernel
theorem d_Model_peek_35 : decode b_Model_peek 35 = .ok (.getfield 31, 3) := by decide +kernel
theorem d_Model_peek_38 : decode b_Model_peek 38 = .ok (.iload_n 1, 1) := by decide +kernel
theorem d_Model_peek_39 : decode b_Model_peek 39 = .ok (.iload_n 2, 1) := by decide +kernel
theorem d_Model_peek_40 : decode b_Model_peek 40 = .ok (.invokevirtual 207, 3) := by decide +kernel
theorem d_Model_peek_43 : decode b_Model_peek 43 = .ok (.lreturn, 1) := by decide +kernel
theorem d_Model_peek_44 : decode b_Model_peek 44 = .ok (.iload_n 1, 1) := by decide +kernel
theorem d_Model_peek_45 : decode b_Model_peek 45 = .ok (.ifCond .ne (15), 3) := by decide +kernel
theorem d_Model_peek_48 : decode b_Model_peek 48 = .ok (.aload_n 0, 1) := by decide +kernel
theorem d_Model_peek_49 : decode b_Model_peek 49 = .ok (.getfield 59, 3) := by decide +kernel
theorem d_Model_peek_52 : decode b_Model_peek 52 = .ok (.i2l, 1) := by decide +kernel
theorem d_Model_peek_53 : decode b_Model_peek 53 = .ok (.ldc2_w 87, 3) := by decide +kernel
theorem d_Model_peek_56 : decode b_Model_peek 56 = .ok (.land, 1) := by decide +kernel
theorem d_Model_peek_57 : decode b_Model_peek 57 = .ok (.goto (33), 3) := by decide +kernel
theorem d_Model_peek_60 : decode b_Model_peek 60 = .ok (.iload_n 1, 1) := by decide +kernel
theorem d_Model_peek_61 : decode b_Model_peek 61 = .ok (.iconst 1, 1) := by decide +kernel
theorem d_Model_peek_62 : decode b_Model_peek 62 = .ok (.if_icmp .ne (17), 3) := by decide +kernel
theorem d_Model_peek_65 : decode b_Model_peek 65 = .ok (.aload_n 0, 1) := by decide +kernel
theorem d_Model_peek_66 : decode b_Model_peek 66 = .ok (.getfield 21, 3) := by decide +kernel
theorem d_Model_peek_69 : decode b_Model_peek 69 = .ok (.iload_n 2, 1) := by decide +kernel
theorem d_Model_peek_70 : decode b_Model_peek 70 = .ok (.iaload, 1) := by decide +kernel
theorem d_Model_peek_71 : decode b_Model_peek 71 = .ok (.i2l, 1) := by decide +kernel
theorem d_Model_peek_72 : decode b_Model_peek 72 = .ok (.ldc2_w 87, 3) := by decide +kernel
theorem d_Model_peek_75 : decode b_Model_peek 75 = .ok (.land, 1) := by decide +kernel
theorem d_Model_peek_76 : decode b_Model_peek 76 = .ok (.goto (14), 3) := by decide +kernel
theorem d_Model_peek_79 : decode b_Model_peek 79 = .ok (.aload_n 0, 1) := by decide +kernel
theorem d_Model_peek_80 : decode b_Model_peek 80 = .ok (.getfield 25, 3) := by decide +kernel
theorem d_Model_peek_83 : decode b_Model_peek 83 = .ok (.iload_n 2, 1) := by decide +kernel
theorem d_Model_peek_84 : decode b_Model_peek 84 = .ok (.baload, 1) := by decide +kernel
theorem d_Model_peek_85 : decode b_Model_peek 85 = .ok (.sipush 255, 3) := by decide +kernel
theorem d_Model_peek_88 : decode b_Model_peek 88 = .ok (.iand, 1) := by decide +kernel
theorem d_Model_peek_89 : decode b_Model_peek 89 = .ok (.i2l, 1) := by decide +kernel
theorem d_Model_peek_90 : decode b_Model_peek 90 = .ok (.lreturn, 1) := by decide +kernel
set_option maxHeartbeats 4000000 in
set_option maxRecDepth 100000 in
theorem c_Model_peek_x (l : Launch) {dA : FieldType → ClassId} {D : va_G} {al : Nat → Nat} {ext : mv_Sh} {sk sv : Nat → Nat} (hi : mv_inj (mg dA D al ext)) (σ : mv_H) (hM : MI 74 108 σ) (t9 i9 : Int32) : mv_C l y_Model_peek (Cond.code y_Model_peek b_Model_peek 3 (Option.some Jvm.ClassFile.FieldType.long) :: ma) ({ frames := 2, cells := 0, slots := 0, locals := 44 }) (mg dA D al ext) (mK sk sv) [.ref (al 70), .int t9, .int i9] σ (mv_Rl (fun v σ1 => QF 74 σ σ1)) := by
  refine mv_C.ofV (cc := b_Model_peek) (nL := 3) (ret := (Option.some Jvm.ClassFile.FieldType.long)) (by decide +kernel) rfl hi (Nat.le_of_ble_eq_true rfl) ?_
  intro p e s m below meth c B hNs hr hnm hno
  have hN : 74 = 74 ∨ 74 = 108 := by decide
  refine mv_aload_n (pc := 0) B d_Model_peek_0 rfl 0 rfl ?_
  refine mv_aload_n (pc := 1) B d_Model_peek_1 rfl 0 rfl ?_
  refine mv_iload_n (pc := 2) B d_Model_peek_2 rfl 1 rfl ?_
  refine mv_iload_n (pc := 3) B d_Model_peek_3 rfl 2 rfl ?_
  refine mv_callVi (pc := 4) (n := 2) (ci := 11) (C := R_Model) B (mK_ok sk sv) hNs rfl rfl (c_Model_there_x l hi _ hM _ _) rfl (ma_goodc kc_Model_there) (B.2.2.2.1 _ k_2415) (B.2.2.2.1 _ k_2417) (B.2.2.2.1 _ ks_124) (B.2.2.2.1 _ k_12) ⟨by decide +kernel, by decide +kernel, by decide +kernel⟩ rfl d_Model_peek_4 rfl (Nat.le_of_ble_eq_true rfl) ⟨by decide, by decide⟩ ⟨by decide, by decide⟩ ⟨by decide, by decide⟩ (mv_noH hno _) (fun v4 σ4 h4 => ?_)
  obtain ⟨e4, z4⟩ := h4
  have e4 := e4.symm
  subst e4
  refine mv_if_eq (pc := 7) (tgt := 14) B d_Model_peek_7 rfl (fun h7 => ?_) (fun h7 => ?_)
  · skip
    refine mv_iconst (pc := 14) (v := 1) B d_Model_peek_14 (by decide) ?_
    refine mv_putI (pc := 15) (ci := 11) (C := R_Model) (T := F_Model) (N := 16) B 2 rfl rfl (by decide) i_Model t_Model_ok n_Model (B.2.2.2.1 _ k_2047) rfl rfl rfl rfl d_Model_peek_15 ?_
    refine mv_gen (fun S18 eS18 => ?_)
    have hF : QF 74 σ S18 := by rw [eS18]; exact QF.si Fx.rf (by decide)
    have hM := hM.qf hF hN
    first | have x18 : mv_i S18 70 2 = 0 := by rw [eS18, mv_si_s] | have x18 : mv_i S18 70 2 = 1 := by rw [eS18, mv_si_s] | have x18 : mv_i S18 70 2 = 2 := by rw [eS18, mv_si_s]
    try have hTP : TP9 74 S18 t9 i9 := (z4.resolve_left h7).2.th eS18 hN
    clear eS18
    refine mv_aload_n (pc := 18) B d_Model_peek_18 rfl 0 rfl ?_
    refine mv_getI (pc := 19) (ci := 11) (C := R_Model) (T := F_Model) (N := 16) B 2 rfl rfl (by decide) i_Model (B.2.2.2.1 _ k_2047) rfl d_Model_peek_19 ?_
    refine mv_if_le (pc := 22) (tgt := 27) B d_Model_peek_22 rfl (fun h22 => ?_) (fun h22 => ?_)
    · skip
      exact absurd h22 (by rw [x18]; decide)
    · skip
      refine mv_lconst (pc := 25) (v := 0) B d_Model_peek_25 (by decide) ?_
      exact mv_lret (pc := 26) B hr d_Model_peek_26 (Nat.le_refl _) (Nat.le_refl _) ⟨_, rfl, hF⟩
  · skip
    refine mv_iconst (pc := 10) (v := 0) B d_Model_peek_10 (by decide) ?_
    refine mv_goto (pc := 11) (tgt := 15) B d_Model_peek_11 rfl ?_
    refine mv_putI (pc := 15) (ci := 11) (C := R_Model) (T := F_Model) (N := 16) B 2 rfl rfl (by decide) i_Model t_Model_ok n_Model (B.2.2.2.1 _ k_2047) rfl rfl rfl rfl d_Model_peek_15 ?_
    refine mv_gen (fun S18 eS18 => ?_)
    have hF : QF 74 σ S18 := by rw [eS18]; exact QF.si Fx.rf (by decide)
    have hM := hM.qf hF hN
    first | have x18 : mv_i S18 70 2 = 0 := by rw [eS18, mv_si_s] | have x18 : mv_i S18 70 2 = 1 := by rw [eS18, mv_si_s] | have x18 : mv_i S18 70 2 = 2 := by rw [eS18, mv_si_s]
    try have hTP : TP9 74 S18 t9 i9 := (z4.resolve_left h7).2.th eS18 hN
    clear eS18
    refine mv_aload_n (pc := 18) B d_Model_peek_18 rfl 0 rfl ?_
    refine mv_getI (pc := 19) (ci := 11) (C := R_Model) (T := F_Model) (N := 16) B 2 rfl rfl (by decide) i_Model (B.2.2.2.1 _ k_2047) rfl d_Model_peek_19 ?_
    refine mv_if_le (pc := 22) (tgt := 27) B d_Model_peek_22 rfl (fun h22 => ?_) (fun h22 => ?_)
    · skip
      refine mv_aload_n (pc := 27) B d_Model_peek_27 rfl 0 rfl ?_
      refine mv_getI (pc := 28) (ci := 11) (C := R_Model) (T := F_Model) (N := 16) B 11 rfl rfl (by decide) i_Model (B.2.2.2.1 _ k_2056) rfl d_Model_peek_28 ?_
      refine mv_if_ne (pc := 31) (tgt := 44) B d_Model_peek_31 rfl (fun h31 => ?_) (fun h31 => ?_)
      · skip
        have hsh := (hTP.2.2.resolve_right (fun z => h31 z.1)).2
        refine mv_iload_n (pc := 44) B d_Model_peek_44 rfl 1 rfl ?_
        refine mv_if_ne (pc := 45) (tgt := 60) B d_Model_peek_45 rfl (fun h45 => ?_) (fun h45 => ?_)
        · skip
          refine mv_iload_n (pc := 60) B d_Model_peek_60 rfl 1 rfl ?_
          refine mv_iconst (pc := 61) (v := 1) B d_Model_peek_61 (by decide) ?_
          refine mv_icmp_ne (pc := 62) (tgt := 79) B d_Model_peek_62 rfl (fun h62 => ?_) (fun h62 => ?_)
          · skip
            have hb : i9.toInt < 32768 := by
              rcases hsh with z | z | z
              · exact absurd z.1 h45
              · exact absurd z.1 h62
              · exact z.2.2
            refine mv_aload_n (pc := 79) B d_Model_peek_79 rfl 0 rfl ?_
            refine mv_getR (pc := 80) (ci := 11) (C := R_Model) (T := F_Model) (N := 16) B 8 rfl rfl (by decide) i_Model (B.2.2.2.1 _ k_2053) rfl (hM.1 _ 8 _ rfl) d_Model_peek_80 ?_
            refine mv_iload_n (pc := 83) B d_Model_peek_83 rfl 2 rfl ?_
            refine mv_bald (pc := 84) B rfl (i32_in hTP.2.1 hb) d_Model_peek_84 ?_
            refine mv_sipush (pc := 85) (v := 255) B d_Model_peek_85 (by decide) ?_
            refine mv_iand (pc := 88) B d_Model_peek_88 ?_
            refine mv_i2l (pc := 89) B d_Model_peek_89 ?_
            exact mv_lret (pc := 90) B hr d_Model_peek_90 (Nat.le_refl _) (Nat.le_refl _) ⟨_, rfl, hF⟩
          · skip
            have hset : i9.toInt < 32 := by
              rcases hsh with z | z | z
              · exact absurd z.1 h45
              · exact z.2
              · exact absurd h62 z.2.1
            refine mv_aload_n (pc := 65) B d_Model_peek_65 rfl 0 rfl ?_
            refine mv_getR (pc := 66) (ci := 11) (C := R_Model) (T := F_Model) (N := 16) B 7 rfl rfl (by decide) i_Model (B.2.2.2.1 _ k_2052) rfl (hM.1 _ 7 _ rfl) d_Model_peek_66 ?_
            refine mv_iload_n (pc := 69) B d_Model_peek_69 rfl 2 rfl ?_
            refine mv_iald (pc := 70) B rfl (i32_in hTP.2.1 hset) d_Model_peek_70 ?_
            refine mv_i2l (pc := 71) B d_Model_peek_71 ?_
            refine mv_ldc2 (pc := 72) (v := 4294967295) B (B.2.2.2.1 _ k_2442) d_Model_peek_72 ?_
            refine mv_land (pc := 75) B d_Model_peek_75 ?_
            refine mv_goto (pc := 76) (tgt := 90) B d_Model_peek_76 rfl ?_
            exact mv_lret (pc := 90) B hr d_Model_peek_90 (Nat.le_refl _) (Nat.le_refl _) ⟨_, rfl, hF⟩
        · skip
          refine mv_aload_n (pc := 48) B d_Model_peek_48 rfl 0 rfl ?_
          refine mv_getI (pc := 49) (ci := 11) (C := R_Model) (T := F_Model) (N := 16) B 6 rfl rfl (by decide) i_Model (B.2.2.2.1 _ k_2051) rfl d_Model_peek_49 ?_
          refine mv_i2l (pc := 52) B d_Model_peek_52 ?_
          refine mv_ldc2 (pc := 53) (v := 4294967295) B (B.2.2.2.1 _ k_2442) d_Model_peek_53 ?_
          refine mv_land (pc := 56) B d_Model_peek_56 ?_
          refine mv_goto (pc := 57) (tgt := 90) B d_Model_peek_57 rfl ?_
          exact mv_lret (pc := 90) B hr d_Model_peek_90 (Nat.le_refl _) (Nat.le_refl _) ⟨_, rfl, hF⟩
      · skip
        have hin := hTP.in hM h31
        refine mv_aload_n (pc := 34) B d_Model_peek_34 rfl 0 rfl ?_
        refine mv_getR (pc := 35) (ci := 11) (C := R_Model) (T := F_Model) (N := 16) B 9 rfl rfl (by decide) i_Model (B.2.2.2.1 _ k_2054) rfl hM.2.1 d_Model_peek_35 ?_
        refine mv_iload_n (pc := 38) B d_Model_peek_38 rfl 1 rfl ?_
        refine mv_iload_n (pc := 39) B d_Model_peek_39 rfl 2 rfl ?_
        refine mv_callVl (pc := 40) (n := 2) (ci := 12) (C := R_Book) B (mK_ok sk sv) hNs rfl rfl (c_Book_peek_x l hi _ _ _ hM.1 hin.1.1 hin.1.2 hin.2) rfl (ma_goodc kc_Book_peek) (B.2.2.2.1 _ k_2438) (B.2.2.2.1 _ k_2439) (B.2.2.2.1 _ k_2440) (B.2.2.2.1 _ k_13) ⟨by decide +kernel, by decide +kernel, by decide +kernel⟩ rfl d_Model_peek_40 rfl (Nat.le_of_ble_eq_true rfl) ⟨by decide, by decide⟩ ⟨by decide, by decide⟩ ⟨by decide, by decide⟩ (mv_noH hno _) (fun v40 σ40 h40 => ?_)
        have e40 := h40.symm
        subst e40
        exact mv_lret (pc := 43) B hr d_Model_peek_43 (Nat.le_refl _) (Nat.le_refl _) ⟨_, rfl, hF⟩
    · skip
      exact absurd (by rw [x18]; decide) h22
set_option maxHeartbeats 4000000 in
set_option maxRecDepth 100000 in
theorem c_Model_peek_y (l : Launch) {dA : FieldType → ClassId} {D : va_G} {al : Nat → Nat} {ext : mv_Sh} {sk sv : Nat → Nat} (hi : mv_inj (mg dA D al ext)) (σ : mv_H) (hM : MI 108 74 σ) (t9 i9 : Int32) : mv_C l y_Model_peek (Cond.code y_Model_peek b_Model_peek 3 (Option.some Jvm.ClassFile.FieldType.long) :: ma) ({ frames := 2, cells := 0, slots := 0, locals := 44 }) (mg dA D al ext) (mK sk sv) [.ref (al 70), .int t9, .int i9] σ (mv_Rl (fun v σ1 => QF 108 σ σ1)) := by
  refine mv_C.ofV (cc := b_Model_peek) (nL := 3) (ret := (Option.some Jvm.ClassFile.FieldType.long)) (by decide +kernel) rfl hi (Nat.le_of_ble_eq_true rfl) ?_
  intro p e s m below meth c B hNs hr hnm hno
  have hN : 108 = 74 ∨ 108 = 108 := by decide
  refine mv_aload_n (pc := 0) B d_Model_peek_0 rfl 0 rfl ?_
  refine mv_aload_n (pc := 1) B d_Model_peek_1 rfl 0 rfl ?_
  refine mv_iload_n (pc := 2) B d_Model_peek_2 rfl 1 rfl ?_
  refine mv_iload_n (pc := 3) B d_Model_peek_3 rfl 2 rfl ?_
  refine mv_callVi (pc := 4) (n := 2) (ci := 11) (C := R_Model) B (mK_ok sk sv) hNs rfl rfl (c_Model_there_y l hi _ hM _ _) rfl (ma_goodc kc_Model_there) (B.2.2.2.1 _ k_2415) (B.2.2.2.1 _ k_2417) (B.2.2.2.1 _ ks_124) (B.2.2.2.1 _ k_12) ⟨by decide +kernel, by decide +kernel, by decide +kernel⟩ rfl d_Model_peek_4 rfl (Nat.le_of_ble_eq_true rfl) ⟨by decide, by decide⟩ ⟨by decide, by decide⟩ ⟨by decide, by decide⟩ (mv_noH hno _) (fun v4 σ4 h4 => ?_)
  obtain ⟨e4, z4⟩ := h4
  have e4 := e4.symm
  subst e4
  refine mv_if_eq (pc := 7) (tgt := 14) B d_Model_peek_7 rfl (fun h7 => ?_) (fun h7 => ?_)
  · skip
    refine mv_iconst (pc := 14) (v := 1) B d_Model_peek_14 (by decide) ?_
    refine mv_putI (pc := 15) (ci := 11) (C := R_Model) (T := F_Model) (N := 16) B 2 rfl rfl (by decide) i_Model t_Model_ok n_Model (B.2.2.2.1 _ k_2047) rfl rfl rfl rfl d_Model_peek_15 ?_
    refine mv_gen (fun S18 eS18 => ?_)
    have hF : QF 108 σ S18 := by rw [eS18]; exact QF.si Fx.rf (by decide)
    have hM := hM.qf hF hN
    first | have x18 : mv_i S18 70 2 = 0 := by rw [eS18, mv_si_s] | have x18 : mv_i S18 70 2 = 1 := by rw [eS18, mv_si_s] | have x18 : mv_i S18 70 2 = 2 := by rw [eS18, mv_si_s]
    try have hTP : TP9 108 S18 t9 i9 := (z4.resolve_left h7).2.th eS18 hN
    clear eS18
    refine mv_aload_n (pc := 18) B d_Model_peek_18 rfl 0 rfl ?_
    refine mv_getI (pc := 19) (ci := 11) (C := R_Model) (T := F_Model) (N := 16) B 2 rfl rfl (by decide) i_Model (B.2.2.2.1 _ k_2047) rfl d_Model_peek_19 ?_
    refine mv_if_le (pc := 22) (tgt := 27) B d_Model_peek_22 rfl (fun h22 => ?_) (fun h22 => ?_)
    · skip
      exact absurd h22 (by rw [x18]; decide)
    · skip
      refine mv_lconst (pc := 25) (v := 0) B d_Model_peek_25 (by decide) ?_
      exact mv_lret (pc := 26) B hr d_Model_peek_26 (Nat.le_refl _) (Nat.le_refl _) ⟨_, rfl, hF⟩
  · skip
    refine mv_iconst (pc := 10) (v := 0) B d_Model_peek_10 (by decide) ?_
    refine mv_goto (pc := 11) (tgt := 15) B d_Model_peek_11 rfl ?_
    refine mv_putI (pc := 15) (ci := 11) (C := R_Model) (T := F_Model) (N := 16) B 2 rfl rfl (by decide) i_Model t_Model_ok n_Model (B.2.2.2.1 _ k_2047) rfl rfl rfl rfl d_Model_peek_15 ?_
    refine mv_gen (fun S18 eS18 => ?_)
    have hF : QF 108 σ S18 := by rw [eS18]; exact QF.si Fx.rf (by decide)
    have hM := hM.qf hF hN
    first | have x18 : mv_i S18 70 2 = 0 := by rw [eS18, mv_si_s] | have x18 : mv_i S18 70 2 = 1 := by rw [eS18, mv_si_s] | have x18 : mv_i S18 70 2 = 2 := by rw [eS18, mv_si_s]
    try have hTP : TP9 108 S18 t9 i9 := (z4.resolve_left h7).2.th eS18 hN
    clear eS18
    refine mv_aload_n (pc := 18) B d_Model_peek_18 rfl 0 rfl ?_
    refine mv_getI (pc := 19) (ci := 11) (C := R_Model) (T := F_Model) (N := 16) B 2 rfl rfl (by decide) i_Model (B.2.2.2.1 _ k_2047) rfl d_Model_peek_19 ?_
    refine mv_if_le (pc := 22) (tgt := 27) B d_Model_peek_22 rfl (fun h22 => ?_) (fun h22 => ?_)
    · skip
      refine mv_aload_n (pc := 27) B d_Model_peek_27 rfl 0 rfl ?_
      refine mv_getI (pc := 28) (ci := 11) (C := R_Model) (T := F_Model) (N := 16) B 11 rfl rfl (by decide) i_Model (B.2.2.2.1 _ k_2056) rfl d_Model_peek_28 ?_
      refine mv_if_ne (pc := 31) (tgt := 44) B d_Model_peek_31 rfl (fun h31 => ?_) (fun h31 => ?_)
      · skip
        have hsh := (hTP.2.2.resolve_right (fun z => h31 z.1)).2
        refine mv_iload_n (pc := 44) B d_Model_peek_44 rfl 1 rfl ?_
        refine mv_if_ne (pc := 45) (tgt := 60) B d_Model_peek_45 rfl (fun h45 => ?_) (fun h45 => ?_)
        · skip
          refine mv_iload_n (pc := 60) B d_Model_peek_60 rfl 1 rfl ?_
          refine mv_iconst (pc := 61) (v := 1) B d_Model_peek_61 (by decide) ?_
          refine mv_icmp_ne (pc := 62) (tgt := 79) B d_Model_peek_62 rfl (fun h62 => ?_) (fun h62 => ?_)
          · skip
            have hb : i9.toInt < 32768 := by
              rcases hsh with z | z | z
              · exact absurd z.1 h45
              · exact absurd z.1 h62
              · exact z.2.2
            refine mv_aload_n (pc := 79) B d_Model_peek_79 rfl 0 rfl ?_
            refine mv_getR (pc := 80) (ci := 11) (C := R_Model) (T := F_Model) (N := 16) B 8 rfl rfl (by decide) i_Model (B.2.2.2.1 _ k_2053) rfl (hM.1 _ 8 _ rfl) d_Model_peek_80 ?_
            refine mv_iload_n (pc := 83) B d_Model_peek_83 rfl 2 rfl ?_
            refine mv_bald (pc := 84) B rfl (i32_in hTP.2.1 hb) d_Model_peek_84 ?_
            refine mv_sipush (pc := 85) (v := 255) B d_Model_peek_85 (by decide) ?_
            refine mv_iand (pc := 88) B d_Model_peek_88 ?_
            refine mv_i2l (pc := 89) B d_Model_peek_89 ?_
            exact mv_lret (pc := 90) B hr d_Model_peek_90 (Nat.le_refl _) (Nat.le_refl _) ⟨_, rfl, hF⟩
          · skip
            have hset : i9.toInt < 32 := by
              rcases hsh with z | z | z
              · exact absurd z.1 h45
              · exact z.2
              · exact absurd h62 z.2.1
            refine mv_aload_n (pc := 65) B d_Model_peek_65 rfl 0 rfl ?_
            refine mv_getR (pc := 66) (ci := 11) (C := R_Model) (T := F_Model) (N := 16) B 7 rfl rfl (by decide) i_Model (B.2.2.2.1 _ k_2052) rfl (hM.1 _ 7 _ rfl) d_Model_peek_66 ?_
            refine mv_iload_n (pc := 69) B d_Model_peek_69 rfl 2 rfl ?_
            refine mv_iald (pc := 70) B rfl (i32_in hTP.2.1 hset) d_Model_peek_70 ?_
            refine mv_i2l (pc := 71) B d_Model_peek_71 ?_
            refine mv_ldc2 (pc := 72) (v := 4294967295) B (B.2.2.2.1 _ k_2442) d_Model_peek_72 ?_
            refine mv_land (pc := 75) B d_Model_peek_75 ?_
            refine mv_goto (pc := 76) (tgt := 90) B d_Model_peek_76 rfl ?_
            exact mv_lret (pc := 90) B hr d_Model_peek_90 (Nat.le_refl _) (Nat.le_refl _) ⟨_, rfl, hF⟩
        · skip
          refine mv_aload_n (pc := 48) B d_Model_peek_48 rfl 0 rfl ?_
          refine mv_getI (pc := 49) (ci := 11) (C := R_Model) (T := F_Model) (N := 16) B 6 rfl rfl (by decide) i_Model (B.2.2.2.1 _ k_2051) rfl d_Model_peek_49 ?_
          refine mv_i2l (pc := 52) B d_Model_peek_52 ?_
          refine mv_ldc2 (pc := 53) (v := 4294967295) B (B.2.2.2.1 _ k_2442) d_Model_peek_53 ?_
          refine mv_land (pc := 56) B d_Model_peek_56 ?_
          refine mv_goto (pc := 57) (tgt := 90) B d_Model_peek_57 rfl ?_
          exact mv_lret (pc := 90) B hr d_Model_peek_90 (Nat.le_refl _) (Nat.le_refl _) ⟨_, rfl, hF⟩
      · skip
        have hin := hTP.in hM h31
        refine mv_aload_n (pc := 34) B d_Model_peek_34 rfl 0 rfl ?_
        refine mv_getR (pc := 35) (ci := 11) (C := R_Model) (T := F_Model) (N := 16) B 9 rfl rfl (by decide) i_Model (B.2.2.2.1 _ k_2054) rfl hM.2.1 d_Model_peek_35 ?_
        refine mv_iload_n (pc := 38) B d_Model_peek_38 rfl 1 rfl ?_
        refine mv_iload_n (pc := 39) B d_Model_peek_39 rfl 2 rfl ?_
        refine mv_callVl (pc := 40) (n := 2) (ci := 12) (C := R_Book) B (mK_ok sk sv) hNs rfl rfl (c_Book_peek_y l hi _ _ _ hM.1 hin.1.1 hin.1.2 hin.2) rfl (ma_goodc kc_Book_peek) (B.2.2.2.1 _ k_2438) (B.2.2.2.1 _ k_2439) (B.2.2.2.1 _ k_2440) (B.2.2.2.1 _ k_13) ⟨by decide +kernel, by decide +kernel, by decide +kernel⟩ rfl d_Model_peek_40 rfl (Nat.le_of_ble_eq_true rfl) ⟨by decide, by decide⟩ ⟨by decide, by decide⟩ ⟨by decide, by decide⟩ (mv_noH hno _) (fun v40 σ40 h40 => ?_)
        have e40 := h40.symm
        subst e40
        exact mv_lret (pc := 43) B hr d_Model_peek_43 (Nat.le_refl _) (Nat.le_refl _) ⟨_, rfl, hF⟩
    · skip
      exact absurd (by rw [x18]; decide) h22
def y_Model_step : MethodName := ⟨"MachineLoomModel", "step", "(J)I"⟩
abbrev b_Model_step : ByteArray := prog_14_method_35_code
theorem kc_Model_step : Cond.code y_Model_step b_Model_step 4 (Option.some Jvm.ClassFile.FieldType.int) ∈ ma := ma_of (tb_11 _ (List.mem_of_getElem? (i := 46) rfl)) rfl
theorem k_2447 : (Jvm.Cond.methodLink "MachineLoomModel" (214 : Nat) ({ cls := "MachineLoomModel", name := "decode", desc := "(J)I" } : Jvm.MethodName)) ∈ ma := ma_of (tb_11 _ (List.mem_of_getElem? (i := 47) rfl)) rfl
theorem k_2354 : (Jvm.Cond.instanceMethod ({ cls := "MachineLoomModel", name := "decode", desc := "(J)I" } : Jvm.MethodName)) ∈ ma := ma_of (tb_10 _ (List.mem_of_getElem? (i := 194) rfl)) rfl
theorem k_2355 : (Jvm.Cond.selects "MachineLoomModel" ({ cls := "MachineLoomModel", name := "decode", desc := "(J)I" } : Jvm.MethodName) ({ cls := "MachineLoomModel", name := "decode", desc := "(J)I" } : Jvm.MethodName)) ∈ ma := ma_of (tb_10 _ (List.mem_of_getElem? (i := 195) rfl)) rfl
theorem k_2492 : (Jvm.Cond.methodLink "MachineLoomModel" (218 : Nat) ({ cls := "MachineLoomModel$Book", name := "step", desc := "(J)I" } : Jvm.MethodName)) ∈ ma := ma_of (tb_11 _ (List.mem_of_getElem? (i := 92) rfl)) rfl
theorem k_2493 : (Jvm.Cond.instanceMethod ({ cls := "MachineLoomModel$Book", name := "step", desc := "(J)I" } : Jvm.MethodName)) ∈ ma := ma_of (tb_11 _ (List.mem_of_getElem? (i := 93) rfl)) rfl
theorem k_2494 : (Jvm.Cond.selects "MachineLoomModel$Book" ({ cls := "MachineLoomModel$Book", name := "step", desc := "(J)I" } : Jvm.MethodName) ({ cls := "MachineLoomModel$Book", name := "step", desc := "(J)I" } : Jvm.MethodName)) ∈ ma := ma_of (tb_11 _ (List.mem_of_getElem? (i := 94) rfl)) rfl
theorem k_2554 : (Jvm.Cond.methodLink "MachineLoomModel" (221 : Nat) ({ cls := "MachineLoomModel", name := "told", desc := "(I)V" } : Jvm.MethodName)) ∈ ma := ma_of (tb_11 _ (List.mem_of_getElem? (i := 154) rfl)) rfl
theorem k_2556 : (Jvm.Cond.instanceMethod ({ cls := "MachineLoomModel", name := "told", desc := "(I)V" } : Jvm.MethodName)) ∈ ma := ma_of (tb_11 _ (List.mem_of_getElem? (i := 156) rfl)) rfl
theorem ks_140 : Cond.selects "MachineLoomModel" ⟨"MachineLoomModel", "told", "(I)V"⟩ ⟨"MachineLoomModel", "told", "(I)V"⟩ ∈ ma := ma_sel 140 rfl rfl
theorem k_2448 : (Jvm.Cond.methodLink "MachineLoomModel" (215 : Nat) ({ cls := "MachineLoomModel", name := "shippedStep", desc := "(I)I" } : Jvm.MethodName)) ∈ ma := ma_of (tb_11 _ (List.mem_of_getElem? (i := 48) rfl)) rfl
theorem k_2450 : (Jvm.Cond.instanceMethod ({ cls := "MachineLoomModel", name := "shippedStep", desc := "(I)I" } : Jvm.MethodName)) ∈ ma := ma_of (tb_11 _ (List.mem_of_getElem? (i := 50) rfl)) rfl
theorem ks_126 : Cond.selects "MachineLoomModel" ⟨"MachineLoomModel", "shippedStep", "(I)I"⟩ ⟨"MachineLoomModel", "shippedStep", "(I)I"⟩ ∈ ma := ma_sel 126 rfl rfl
theorem d_Model_step_0 : decode b_Model_step 0 = .ok (.aload_n 0, 1) := by decide +kernel
theorem d_Model_step_1 : decode b_Model_step 1 = .ok (.iconst 0, 1) := by decide +kernel
theorem d_Model_step_2 : decode b_Model_step 2 = .ok (.putfield 38, 3) := by decide +kernel
theorem d_Model_step_5 : decode b_Model_step 5 = .ok (.aload_n 0, 1) := by decide +kernel
theorem d_Model_step_6 : decode b_Model_step 6 = .ok (.lload_n 1, 1) := by decide +kernel
theorem d_Model_step_7 : decode b_Model_step 7 = .ok (.invokevirtual 214, 3) := by decide +kernel
theorem d_Model_step_10 : decode b_Model_step 10 = .ok (.istore_n 3, 1) := by decide +kernel
theorem d_Model_step_11 : decode b_Model_step 11 = .ok (.aload_n 0, 1) := by decide +kernel
theorem d_Model_step_12 : decode b_Model_step 12 = .ok (.aload_n 0, 1) := by decide +kernel
theorem d_Model_step_13 : decode b_Model_step 13 = .ok (.getfield 162, 3) := by decide +kernel
theorem d_Model_step_16 : decode b_Model_step 16 = .ok (.ifCond .eq (12), 3) := by decide +kernel
theorem d_Model_step_19 : decode b_Model_step 19 = .ok (.aload_n 0, 1) := by decide +kernel
theorem d_Model_step_20 : decode b_Model_step 20 = .ok (.lload_n 1, 1) := by decide +kernel
theorem d_Model_step_21 : decode b_Model_step 21 = .ok (.l2i, 1) := by decide +kernel
theorem d_Model_step_22 : decode b_Model_step 22 = .ok (.invokevirtual 215, 3) := by decide +kernel
theorem d_Model_step_25 : decode b_Model_step 25 = .ok (.goto (11), 3) := by decide +kernel
theorem d_Model_step_28 : decode b_Model_step 28 = .ok (.aload_n 0, 1) := by decide +kernel
theorem d_Model_step_29 : decode b_Model_step 29 = .ok (.getfield 31, 3) := by decide +kernel
theorem d_Model_step_32 : decode b_Model_step 32 = .ok (.lload_n 1, 1) := by decide +kernel
theorem d_Model_step_33 : decode b_Model_step 33 = .ok (.invokevirtual 218, 3) := by decide +kernel
theorem d_Model_step_36 : decode b_Model_step 36 = .ok (.invokevirtual 221, 3) := by decide +kernel
theorem d_Model_step_39 : decode b_Model_step 39 = .ok (.iload_n 3, 1) := by decide +kernel
theorem d_Model_step_40 : decode b_Model_step 40 = .ok (.ifCond .ge (8), 3) := by decide +kernel
theorem d_Model_step_43 : decode b_Model_step 43 = .ok (.bipush (-2), 2) := by decide +kernel
theorem d_Model_step_45 : decode b_Model_step 45 = .ok (.goto (7), 3) := by decide +kernel
theorem d_Model_step_48 : decode b_Model_step 48 = .ok (.aload_n 0, 1) := by decide +kernel
theorem d_Model_step_49 : decode b_Model_step 49 = .ok (.getfield 211, 3) := by decide +kernel
theorem d_Model_step_52 : decode b_Model_step 52 = .ok (.ireturn, 1) := by decide +kernel
set_option maxHeartbeats 4000000 in
set_option maxRecDepth 100000 in
theorem c_Model_step_x (l : Launch) {dA : FieldType → ClassId} {D : va_G} {al : Nat → Nat} {ext : mv_Sh} {sk sv : Nat → Nat} (hi : mv_inj (mg dA D al ext)) (σ : mv_H) (hM : MI 74 108 σ) (w0 : Int64) : mv_C l y_Model_step (Cond.code y_Model_step b_Model_step 4 (Option.some Jvm.ClassFile.FieldType.int) :: ma) ({ frames := 2018, cells := 0, slots := 0, locals := 49272 }) (mg dA D al ext) (mK sk sv) [.ref (al 70), .long w0] σ (mv_Ri (fun v σ1 => QF 74 σ σ1)) := by
  refine mv_C.ofV (cc := b_Model_step) (nL := 4) (ret := (Option.some Jvm.ClassFile.FieldType.int)) (by decide +kernel) rfl hi (Nat.le_of_ble_eq_true rfl) ?_
  intro p e s m below meth c B hNs hr hnm hno
  have hN : 74 = 74 ∨ 74 = 108 := by decide
  refine mv_aload_n (pc := 0) B d_Model_step_0 rfl 0 rfl ?_
  refine mv_iconst (pc := 1) (v := 0) B d_Model_step_1 (by decide) ?_
  refine mv_putI (pc := 2) (ci := 11) (C := R_Model) (T := F_Model) (N := 16) B 2 rfl rfl (by decide) i_Model t_Model_ok n_Model (B.2.2.2.1 _ k_2047) rfl rfl rfl rfl d_Model_step_2 ?_
  refine mv_gen (fun S5 eS5 => ?_)
  have hF : QF 74 σ S5 := by rw [eS5]; exact QF.si Fx.rf (by decide)
  have hM := hM.qf hF hN
  have e11 := hF.sh hN
  clear eS5
  refine mv_aload_n (pc := 5) B d_Model_step_5 rfl 0 rfl ?_
  refine mv_lload_n (pc := 6) B d_Model_step_6 rfl 1 rfl ?_
  refine mv_callVi (pc := 7) (n := 1) (ci := 11) (C := R_Model) B (mK_ok sk sv) hNs rfl rfl (c_Model_decode_x l hi _ hM _) rfl (ma_goodc kc_Model_decode) (B.2.2.2.1 _ k_2447) (B.2.2.2.1 _ k_2354) (B.2.2.2.1 _ k_2355) (B.2.2.2.1 _ k_12) ⟨by decide +kernel, by decide +kernel, by decide +kernel⟩ rfl d_Model_step_7 rfl (Nat.le_of_ble_eq_true rfl) ⟨by decide, by decide⟩ ⟨by decide, by decide⟩ ⟨by decide, by decide⟩ (mv_noH hno _) (fun v7 σ7 h7 => ?_)
  obtain ⟨f7, u7⟩ := h7
  have hF := hF.tr f7
  have hM := hM.qf f7 hN
  refine mv_istore_n (pc := 10) B d_Model_step_10 rfl (by decide) rfl ?_
  refine mv_aload_n (pc := 11) B d_Model_step_11 rfl 1 rfl ?_
  refine mv_aload_n (pc := 12) B d_Model_step_12 rfl 1 rfl ?_
  refine mv_getI (pc := 13) (ci := 11) (C := R_Model) (T := F_Model) (N := 16) B 11 rfl rfl (by decide) i_Model (B.2.2.2.1 _ k_2056) rfl d_Model_step_13 ?_
  refine mv_if_eq (pc := 16) (tgt := 28) B d_Model_step_16 rfl (fun h16 => ?_) (fun h16 => ?_)
  · skip
    refine mv_aload_n (pc := 28) B d_Model_step_28 rfl 1 rfl ?_
    refine mv_getR (pc := 29) (ci := 11) (C := R_Model) (T := F_Model) (N := 16) B 9 rfl rfl (by decide) i_Model (B.2.2.2.1 _ k_2054) rfl hM.2.1 d_Model_step_29 ?_
    refine mv_lload_n (pc := 32) B d_Model_step_32 rfl 2 rfl ?_
    refine mv_callVi (pc := 33) (n := 1) (ci := 12) (C := R_Book) B (mK_ok sk sv) hNs rfl rfl (c_Book_step_x l hi _ _ hM.1 hM.2.2.2 (u7 (by rw [← f7.sh hN]; exact h16))) rfl (ma_goodc kc_Book_step) (B.2.2.2.1 _ k_2492) (B.2.2.2.1 _ k_2493) (B.2.2.2.1 _ k_2494) (B.2.2.2.1 _ k_13) ⟨by decide +kernel, by decide +kernel, by decide +kernel⟩ rfl d_Model_step_33 rfl (Nat.le_of_ble_eq_true rfl) ⟨by decide, by decide⟩ ⟨by decide, by decide⟩ ⟨by decide, by decide⟩ (mv_noH hno _) (fun v33 σ33 h33 => ?_)
    have hF := hF.tr h33.qf
    refine mv_callVv (pc := 36) (n := 1) (ci := 11) (C := R_Model) B (mK_ok sk sv) hNs rfl rfl (c_Model_told l hi _ _) rfl (ma_goodc kc_Model_told) (B.2.2.2.1 _ k_2554) (B.2.2.2.1 _ k_2556) (B.2.2.2.1 _ ks_140) (B.2.2.2.1 _ k_12) ⟨by decide +kernel, by decide +kernel, by decide +kernel⟩ rfl d_Model_step_36 rfl (Nat.le_of_ble_eq_true rfl) ⟨by decide, by decide⟩ ⟨by decide, by decide⟩ ⟨by decide, by decide⟩ (mv_noH hno _) (fun σ36 h36 => ?_)
    have hF := hF.tr h36.qf
    refine mv_iload_n (pc := 39) B d_Model_step_39 rfl 0 rfl ?_
    refine mv_if_ge (pc := 40) (tgt := 48) B d_Model_step_40 rfl (fun h40 => ?_) (fun h40 => ?_)
    · skip
      refine mv_aload_n (pc := 48) B d_Model_step_48 rfl 1 rfl ?_
      refine mv_getI (pc := 49) (ci := 11) (C := R_Model) (T := F_Model) (N := 16) B 14 rfl rfl (by decide) i_Model (B.2.2.2.1 _ k_2059) rfl d_Model_step_49 ?_
      exact mv_iret (pc := 52) B hr rfl d_Model_step_52 (Nat.le_refl _) (Nat.le_refl _) ⟨_, rfl, hF⟩
    · skip
      refine mv_bipush (pc := 43) (v := -2) B d_Model_step_43 (by decide) ?_
      refine mv_goto (pc := 45) (tgt := 52) B d_Model_step_45 rfl ?_
      exact mv_iret (pc := 52) B hr rfl d_Model_step_52 (Nat.le_refl _) (Nat.le_refl _) ⟨_, rfl, hF⟩
  · skip
    refine mv_aload_n (pc := 19) B d_Model_step_19 rfl 1 rfl ?_
    refine mv_lload_n (pc := 20) B d_Model_step_20 rfl 2 rfl ?_
    refine mv_l2i (pc := 21) B d_Model_step_21 ?_
    refine mv_callVi (pc := 22) (n := 1) (ci := 11) (C := R_Model) B (mK_ok sk sv) hNs rfl rfl (c_Model_shippedStep l hi _ hM.1 _) rfl (ma_goodc kc_Model_shippedStep) (B.2.2.2.1 _ k_2448) (B.2.2.2.1 _ k_2450) (B.2.2.2.1 _ ks_126) (B.2.2.2.1 _ k_12) ⟨by decide +kernel, by decide +kernel, by decide +kernel⟩ rfl d_Model_step_22 rfl (Nat.le_of_ble_eq_true rfl) ⟨by decide, by decide⟩ ⟨by decide, by decide⟩ ⟨by decide, by decide⟩ (mv_noH hno _) (fun v22 σ22 h22 => ?_)
    have hF := hF.tr h22.qf
    refine mv_goto (pc := 25) (tgt := 36) B d_Model_step_25 rfl ?_
    refine mv_callVv (pc := 36) (n := 1) (ci := 11) (C := R_Model) B (mK_ok sk sv) hNs rfl rfl (c_Model_told l hi _ _) rfl (ma_goodc kc_Model_told) (B.2.2.2.1 _ k_2554) (B.2.2.2.1 _ k_2556) (B.2.2.2.1 _ ks_140) (B.2.2.2.1 _ k_12) ⟨by decide +kernel, by decide +kernel, by decide +kernel⟩ rfl d_Model_step_36 rfl (Nat.le_of_ble_eq_true rfl) ⟨by decide, by decide⟩ ⟨by decide, by decide⟩ ⟨by decide, by decide⟩ (mv_noH hno _) (fun σ36 h36 => ?_)
    have hF := hF.tr h36.qf
    refine mv_iload_n (pc := 39) B d_Model_step_39 rfl 0 rfl ?_
    refine mv_if_ge (pc := 40) (tgt := 48) B d_Model_step_40 rfl (fun h40 => ?_) (fun h40 => ?_)
    · skip
      refine mv_aload_n (pc := 48) B d_Model_step_48 rfl 1 rfl ?_
      refine mv_getI (pc := 49) (ci := 11) (C := R_Model) (T := F_Model) (N := 16) B 14 rfl rfl (by decide) i_Model (B.2.2.2.1 _ k_2059) rfl d_Model_step_49 ?_
      exact mv_iret (pc := 52) B hr rfl d_Model_step_52 (Nat.le_refl _) (Nat.le_refl _) ⟨_, rfl, hF⟩
    · skip
      refine mv_bipush (pc := 43) (v := -2) B d_Model_step_43 (by decide) ?_
      refine mv_goto (pc := 45) (tgt := 52) B d_Model_step_45 rfl ?_
      exact mv_iret (pc := 52) B hr rfl d_Model_step_52 (Nat.le_refl _) (Nat.le_refl _) ⟨_, rfl, hF⟩
set_option maxHeartbeats 4000000 in
set_option maxRecDepth 100000 in
theorem c_Model_step_y (l : Launch) {dA : FieldType → ClassId} {D : va_G} {al : Nat → Nat} {ext : mv_Sh} {sk sv : Nat → Nat} (hi : mv_inj (mg dA D al ext)) (σ : mv_H) (hM : MI 108 74 σ) (w0 : Int64) : mv_C l y_Model_step (Cond.code y_Model_step b_Model_step 4 (Option.some Jvm.ClassFile.FieldType.int) :: ma) ({ frames := 2018, cells := 0, slots := 0, locals := 49272 }) (mg dA D al ext) (mK sk sv) [.ref (al 70), .long w0] σ (mv_Ri (fun v σ1 => QF 108 σ σ1)) := by
  refine mv_C.ofV (cc := b_Model_step) (nL := 4) (ret := (Option.some Jvm.ClassFile.FieldType.int)) (by decide +kernel) rfl hi (Nat.le_of_ble_eq_true rfl) ?_
  intro p e s m below meth c B hNs hr hnm hno
  have hN : 108 = 74 ∨ 108 = 108 := by decide
  refine mv_aload_n (pc := 0) B d_Model_step_0 rfl 0 rfl ?_
  refine mv_iconst (pc := 1) (v := 0) B d_Model_step_1 (by decide) ?_
  refine mv_putI (pc := 2) (ci := 11) (C := R_Model) (T := F_Model) (N := 16) B 2 rfl rfl (by decide) i_Model t_Model_ok n_Model (B.2.2.2.1 _ k_2047) rfl rfl rfl rfl d_Model_step_2 ?_
  refine mv_gen (fun S5 eS5 => ?_)
  have hF : QF 108 σ S5 := by rw [eS5]; exact QF.si Fx.rf (by decide)
  have hM := hM.qf hF hN
  have e11 := hF.sh hN
  clear eS5
  refine mv_aload_n (pc := 5) B d_Model_step_5 rfl 0 rfl ?_
  refine mv_lload_n (pc := 6) B d_Model_step_6 rfl 1 rfl ?_
  refine mv_callVi (pc := 7) (n := 1) (ci := 11) (C := R_Model) B (mK_ok sk sv) hNs rfl rfl (c_Model_decode_y l hi _ hM _) rfl (ma_goodc kc_Model_decode) (B.2.2.2.1 _ k_2447) (B.2.2.2.1 _ k_2354) (B.2.2.2.1 _ k_2355) (B.2.2.2.1 _ k_12) ⟨by decide +kernel, by decide +kernel, by decide +kernel⟩ rfl d_Model_step_7 rfl (Nat.le_of_ble_eq_true rfl) ⟨by decide, by decide⟩ ⟨by decide, by decide⟩ ⟨by decide, by decide⟩ (mv_noH hno _) (fun v7 σ7 h7 => ?_)
  obtain ⟨f7, u7⟩ := h7
  have hF := hF.tr f7
  have hM := hM.qf f7 hN
  refine mv_istore_n (pc := 10) B d_Model_step_10 rfl (by decide) rfl ?_
  refine mv_aload_n (pc := 11) B d_Model_step_11 rfl 1 rfl ?_
  refine mv_aload_n (pc := 12) B d_Model_step_12 rfl 1 rfl ?_
  refine mv_getI (pc := 13) (ci := 11) (C := R_Model) (T := F_Model) (N := 16) B 11 rfl rfl (by decide) i_Model (B.2.2.2.1 _ k_2056) rfl d_Model_step_13 ?_
  refine mv_if_eq (pc := 16) (tgt := 28) B d_Model_step_16 rfl (fun h16 => ?_) (fun h16 => ?_)
  · skip
    refine mv_aload_n (pc := 28) B d_Model_step_28 rfl 1 rfl ?_
    refine mv_getR (pc := 29) (ci := 11) (C := R_Model) (T := F_Model) (N := 16) B 9 rfl rfl (by decide) i_Model (B.2.2.2.1 _ k_2054) rfl hM.2.1 d_Model_step_29 ?_
    refine mv_lload_n (pc := 32) B d_Model_step_32 rfl 2 rfl ?_
    refine mv_callVi (pc := 33) (n := 1) (ci := 12) (C := R_Book) B (mK_ok sk sv) hNs rfl rfl (c_Book_step_y l hi _ _ hM.1 hM.2.2.2 (u7 (by rw [← f7.sh hN]; exact h16))) rfl (ma_goodc kc_Book_step) (B.2.2.2.1 _ k_2492) (B.2.2.2.1 _ k_2493) (B.2.2.2.1 _ k_2494) (B.2.2.2.1 _ k_13) ⟨by decide +kernel, by decide +kernel, by decide +kernel⟩ rfl d_Model_step_33 rfl (Nat.le_of_ble_eq_true rfl) ⟨by decide, by decide⟩ ⟨by decide, by decide⟩ ⟨by decide, by decide⟩ (mv_noH hno _) (fun v33 σ33 h33 => ?_)
    have hF := hF.tr h33.qf
    refine mv_callVv (pc := 36) (n := 1) (ci := 11) (C := R_Model) B (mK_ok sk sv) hNs rfl rfl (c_Model_told l hi _ _) rfl (ma_goodc kc_Model_told) (B.2.2.2.1 _ k_2554) (B.2.2.2.1 _ k_2556) (B.2.2.2.1 _ ks_140) (B.2.2.2.1 _ k_12) ⟨by decide +kernel, by decide +kernel, by decide +kernel⟩ rfl d_Model_step_36 rfl (Nat.le_of_ble_eq_true rfl) ⟨by decide, by decide⟩ ⟨by decide, by decide⟩ ⟨by decide, by decide⟩ (mv_noH hno _) (fun σ36 h36 => ?_)
    have hF := hF.tr h36.qf
    refine mv_iload_n (pc := 39) B d_Model_step_39 rfl 0 rfl ?_
    refine mv_if_ge (pc := 40) (tgt := 48) B d_Model_step_40 rfl (fun h40 => ?_) (fun h40 => ?_)
    · skip
      refine mv_aload_n (pc := 48) B d_Model_step_48 rfl 1 rfl ?_
      refine mv_getI (pc := 49) (ci := 11) (C := R_Model) (T := F_Model) (N := 16) B 14 rfl rfl (by decide) i_Model (B.2.2.2.1 _ k_2059) rfl d_Model_step_49 ?_
      exact mv_iret (pc := 52) B hr rfl d_Model_step_52 (Nat.le_refl _) (Nat.le_refl _) ⟨_, rfl, hF⟩
    · skip
      refine mv_bipush (pc := 43) (v := -2) B d_Model_step_43 (by decide) ?_
      refine mv_goto (pc := 45) (tgt := 52) B d_Model_step_45 rfl ?_
      exact mv_iret (pc := 52) B hr rfl d_Model_step_52 (Nat.le_refl _) (Nat.le_refl _) ⟨_, rfl, hF⟩
  · skip
    refine mv_aload_n (pc := 19) B d_Model_step_19 rfl 1 rfl ?_
    refine mv_lload_n (pc := 20) B d_Model_step_20 rfl 2 rfl ?_
    refine mv_l2i (pc := 21) B d_Model_step_21 ?_
    refine mv_callVi (pc := 22) (n := 1) (ci := 11) (C := R_Model) B (mK_ok sk sv) hNs rfl rfl (c_Model_shippedStep l hi _ hM.1 _) rfl (ma_goodc kc_Model_shippedStep) (B.2.2.2.1 _ k_2448) (B.2.2.2.1 _ k_2450) (B.2.2.2.1 _ ks_126) (B.2.2.2.1 _ k_12) ⟨by decide +kernel, by decide +kernel, by decide +kernel⟩ rfl d_Model_step_22 rfl (Nat.le_of_ble_eq_true rfl) ⟨by decide, by decide⟩ ⟨by decide, by decide⟩ ⟨by decide, by decide⟩ (mv_noH hno _) (fun v22 σ22 h22 => ?_)
    have hF := hF.tr h22.qf
    refine mv_goto (pc := 25) (tgt := 36) B d_Model_step_25 rfl ?_
    refine mv_callVv (pc := 36) (n := 1) (ci := 11) (C := R_Model) B (mK_ok sk sv) hNs rfl rfl (c_Model_told l hi _ _) rfl (ma_goodc kc_Model_told) (B.2.2.2.1 _ k_2554) (B.2.2.2.1 _ k_2556) (B.2.2.2.1 _ ks_140) (B.2.2.2.1 _ k_12) ⟨by decide +kernel, by decide +kernel, by decide +kernel⟩ rfl d_Model_step_36 rfl (Nat.le_of_ble_eq_true rfl) ⟨by decide, by decide⟩ ⟨by decide, by decide⟩ ⟨by decide, by decide⟩ (mv_noH hno _) (fun σ36 h36 => ?_)
    have hF := hF.tr h36.qf
    refine mv_iload_n (pc := 39) B d_Model_step_39 rfl 0 rfl ?_
    refine mv_if_ge (pc := 40) (tgt := 48) B d_Model_step_40 rfl (fun h40 => ?_) (fun h40 => ?_)
    · skip
      refine mv_aload_n (pc := 48) B d_Model_step_48 rfl 1 rfl ?_
      refine mv_getI (pc := 49) (ci := 11) (C := R_Model) (T := F_Model) (N := 16) B 14 rfl rfl (by decide) i_Model (B.2.2.2.1 _ k_2059) rfl d_Model_step_49 ?_
      exact mv_iret (pc := 52) B hr rfl d_Model_step_52 (Nat.le_refl _) (Nat.le_refl _) ⟨_, rfl, hF⟩
    · skip
      refine mv_bipush (pc := 43) (v := -2) B d_Model_step_43 (by decide) ?_
      refine mv_goto (pc := 45) (tgt := 52) B d_Model_step_45 rfl ?_
      exact mv_iret (pc := 52) B hr rfl d_Model_step_52 (Nat.le_refl _) (Nat.le_refl _) ⟨_, rfl, hF⟩
def y_Model_one : MethodName := ⟨"MachineLoomModel", "one", "()V"⟩
abbrev b_Model_one : ByteArray := prog_14_method_37_code
theorem kc_Model_one : Cond.code y_Model_one b_Model_one 2 (Option.none : Option Jvm.ClassFile.FieldType) ∈ ma := ma_of (tb_11 _ (List.mem_of_getElem? (i := 165) rfl)) rfl
theorem k_2566 : (Jvm.Cond.methodLink "MachineLoomModel" (231 : Nat) ({ cls := "MachineLoomModel$Book", name := "fetchWord", desc := "()Z" } : Jvm.MethodName)) ∈ ma := ma_of (tb_11 _ (List.mem_of_getElem? (i := 166) rfl)) rfl
theorem k_2567 : (Jvm.Cond.instanceMethod ({ cls := "MachineLoomModel$Book", name := "fetchWord", desc := "()Z" } : Jvm.MethodName)) ∈ ma := ma_of (tb_11 _ (List.mem_of_getElem? (i := 167) rfl)) rfl
theorem k_2568 : (Jvm.Cond.selects "MachineLoomModel$Book" ({ cls := "MachineLoomModel$Book", name := "fetchWord", desc := "()Z" } : Jvm.MethodName) ({ cls := "MachineLoomModel$Book", name := "fetchWord", desc := "()Z" } : Jvm.MethodName)) ∈ ma := ma_of (tb_11 _ (List.mem_of_getElem? (i := 168) rfl)) rfl
theorem k_2570 : (Jvm.Cond.methodLink "MachineLoomModel" (235 : Nat) ({ cls := "MachineLoomModel$Book", name := "fetched", desc := "()J" } : Jvm.MethodName)) ∈ ma := ma_of (tb_11 _ (List.mem_of_getElem? (i := 170) rfl)) rfl
theorem k_2571 : (Jvm.Cond.instanceMethod ({ cls := "MachineLoomModel$Book", name := "fetched", desc := "()J" } : Jvm.MethodName)) ∈ ma := ma_of (tb_11 _ (List.mem_of_getElem? (i := 171) rfl)) rfl
theorem k_2572 : (Jvm.Cond.selects "MachineLoomModel$Book" ({ cls := "MachineLoomModel$Book", name := "fetched", desc := "()J" } : Jvm.MethodName) ({ cls := "MachineLoomModel$Book", name := "fetched", desc := "()J" } : Jvm.MethodName)) ∈ ma := ma_of (tb_11 _ (List.mem_of_getElem? (i := 172) rfl)) rfl
theorem d_Model_one_0 : decode b_Model_one 0 = .ok (.aload_n 0, 1) := by decide +kernel
theorem d_Model_one_1 : decode b_Model_one 1 = .ok (.getfield 162, 3) := by decide +kernel
theorem d_Model_one_4 : decode b_Model_one 4 = .ok (.ifCond .eq (97), 3) := by decide +kernel
theorem d_Model_one_7 : decode b_Model_one 7 = .ok (.aload_n 0, 1) := by decide +kernel
theorem d_Model_one_8 : decode b_Model_one 8 = .ok (.getfield 59, 3) := by decide +kernel
theorem d_Model_one_11 : decode b_Model_one 11 = .ok (.iconst 4, 1) := by decide +kernel
theorem d_Model_one_12 : decode b_Model_one 12 = .ok (.invokestatic 74, 3) := by decide +kernel
theorem d_Model_one_15 : decode b_Model_one 15 = .ok (.ifCond .ne (11), 3) := by decide +kernel
theorem d_Model_one_18 : decode b_Model_one 18 = .ok (.aload_n 0, 1) := by decide +kernel
theorem d_Model_one_19 : decode b_Model_one 19 = .ok (.iconst (-1), 1) := by decide +kernel
theorem d_Model_one_20 : decode b_Model_one 20 = .ok (.invokevirtual 221, 3) := by decide +kernel
theorem d_Model_one_23 : decode b_Model_one 23 = .ok (.goto (77), 3) := by decide +kernel
theorem d_Model_one_26 : decode b_Model_one 26 = .ok (.aload_n 0, 1) := by decide +kernel
theorem d_Model_one_27 : decode b_Model_one 27 = .ok (.aload_n 0, 1) := by decide +kernel
theorem d_Model_one_28 : decode b_Model_one 28 = .ok (.aload_n 0, 1) := by decide +kernel
theorem d_Model_one_29 : decode b_Model_one 29 = .ok (.getfield 25, 3) := by decide +kernel
theorem d_Model_one_32 : decode b_Model_one 32 = .ok (.aload_n 0, 1) := by decide +kernel
theorem d_Model_one_33 : decode b_Model_one 33 = .ok (.getfield 59, 3) := by decide +kernel
theorem d_Model_one_36 : decode b_Model_one 36 = .ok (.baload, 1) := by decide +kernel
theorem d_Model_one_37 : decode b_Model_one 37 = .ok (.sipush 255, 3) := by decide +kernel
theorem d_Model_one_40 : decode b_Model_one 40 = .ok (.iand, 1) := by decide +kernel
theorem d_Model_one_41 : decode b_Model_one 41 = .ok (.aload_n 0, 1) := by decide +kernel
theorem d_Model_one_42 : decode b_Model_one 42 = .ok (.getfield 25, 3) := by decide +kernel
theorem d_Model_one_45 : decode b_Model_one 45 = .ok (.aload_n 0, 1) := by decide +kernel
theorem d_Model_one_46 : decode b_Model_one 46 = .ok (.getfield 59, 3) := by decide +kernel
theorem d_Model_one_49 : decode b_Model_one 49 = .ok (.iconst 1, 1) := by decide +kernel
theorem d_Model_one_50 : decode b_Model_one 50 = .ok (.iadd, 1) := by decide +kernel
theorem d_Model_one_51 : decode b_Model_one 51 = .ok (.baload, 1) := by decide +kernel
theorem d_Model_one_52 : decode b_Model_one 52 = .ok (.sipush 255, 3) := by decide +kernel
theorem d_Model_one_55 : decode b_Model_one 55 = .ok (.iand, 1) := by decide +kernel
theorem d_Model_one_56 : decode b_Model_one 56 = .ok (.bipush 8, 2) := by decide +kernel
theorem d_Model_one_58 : decode b_Model_one 58 = .ok (.ishl, 1) := by decide +kernel
theorem d_Model_one_59 : decode b_Model_one 59 = .ok (.ior, 1) := by decide +kernel
theorem d_Model_one_60 : decode b_Model_one 60 = .ok (.aload_n 0, 1) := by decide +kernel
theorem d_Model_one_61 : decode b_Model_one 61 = .ok (.getfield 25, 3) := by decide +kernel
theorem d_Model_one_64 : decode b_Model_one 64 = .ok (.aload_n 0, 1) := by decide +kernel
theorem d_Model_one_65 : decode b_Model_one 65 = .ok (.getfield 59, 3) := by decide +kernel
theorem d_Model_one_68 : decode b_Model_one 68 = .ok (.iconst 2, 1) := by decide +kernel
theorem d_Model_one_69 : decode b_Model_one 69 = .ok (.iadd, 1) := by decide +kernel
theorem d_Model_one_70 : decode b_Model_one 70 = .ok (.baload, 1) := by decide +kernel
theorem d_Model_one_71 : decode b_Model_one 71 = .ok (.sipush 255, 3) := by decide +kernel
theorem d_Model_one_74 : decode b_Model_one 74 = .ok (.iand, 1) := by decide +kernel
theorem d_Model_one_75 : decode b_Model_one 75 = .ok (.bipush 16, 2) := by decide +kernel
theorem d_Model_one_77 : decode b_Model_one 77 = .ok (.ishl, 1) := by decide +kernel
theorem d_Model_one_78 : decode b_Model_one 78 = .ok (.ior, 1) := by decide +kernel
theorem d_Model_one_79 : decode b_Model_one 79 = .ok (.aload_n 0, 1) := by decide +kernel
theorem d_Model_one_80 : decode b_Model_one 80 = .ok (.getfield 25, 3) := by decide +kernel
theorem d_Model_one_83 : decode b_Model_one 83 = .ok (.aload_n 0, 1) := by decide +kernel
theorem d_Model_one_84 : decode b_Model_one 84 = .ok (.getfield 59, 3) := by decide +kernel
theorem d_Model_one_87 : decode b_Model_one 87 = .ok (.iconst 3, 1) := by decide +kernel
theorem d_Model_one_88 : decode b_Model_one 88 = .ok (.iadd, 1) := by decide +kernel
theorem d_Model_one_89 : decode b_Model_one 89 = .ok (.baload, 1) := by decide +kernel
theorem d_Model_one_90 : decode b_Model_one 90 = .ok (.bipush 24, 2) := by decide +kernel
theorem d_Model_one_92 : decode b_Model_one 92 = .ok (.ishl, 1) := by decide +kernel
theorem d_Model_one_93 : decode b_Model_one 93 = .ok (.ior, 1) := by decide +kernel
theorem d_Model_one_94 : decode b_Model_one 94 = .ok (.invokevirtual 215, 3) := by decide +kernel
theorem d_Model_one_97 : decode b_Model_one 97 = .ok (.invokevirtual 221, 3) := by decide +kernel
theorem d_Model_one_100 : decode b_Model_one 100 = .ok (.return_, 1) := by decide +kernel
theorem d_Model_one_101 : decode b_Model_one 101 = .ok (.aload_n 0, 1) := by decide +kernel
theorem d_Model_one_102 : decode b_Model_one 102 = .ok (.getfield 31, 3) := by decide +kernel
theorem d_Model_one_105 : decode b_Model_one 105 = .ok (.invokevirtual 231, 3) := by decide +kernel
theorem d_Model_one_108 : decode b_Model_one 108 = .ok (.ifCond .ne (9), 3) := by decide +kernel
theorem d_Model_one_111 : decode b_Model_one 111 = .ok (.aload_n 0, 1) := by decide +kernel
theorem d_Model_one_112 : decode b_Model_one 112 = .ok (.iconst (-1), 1) := by decide +kernel
theorem d_Model_one_113 : decode b_Model_one 113 = .ok (.invokevirtual 221, 3) := by decide +kernel
theorem d_Model_one_116 : decode b_Model_one 116 = .ok (.return_, 1) := by decide +kernel
theorem d_Model_one_117 : decode b_Model_one 117 = .ok (.aload_n 0, 1) := by decide +kernel
theorem d_Model_one_118 : decode b_Model_one 118 = .ok (.aload_n 0, 1) := by decide +kernel
theorem d_Model_one_119 : decode b_Model_one 119 = .ok (.getfield 31, 3) := by decide +kernel
theorem d_Model_one_122 : decode b_Model_one 122 = .ok (.invokevirtual 235, 3) := by decide +kernel
theorem d_Model_one_125 : decode b_Model_one 125 = .ok (.invokevirtual 214, 3) := by decide +kernel
theorem d_Model_one_128 : decode b_Model_one 128 = .ok (.istore_n 1, 1) := by decide +kernel
theorem d_Model_one_129 : decode b_Model_one 129 = .ok (.aload_n 0, 1) := by decide +kernel
theorem d_Model_one_130 : decode b_Model_one 130 = .ok (.iload_n 1, 1) := by decide +kernel
theorem d_Model_one_131 : decode b_Model_one 131 = .ok (.ifCond .ge (8), 3) := by decide +kernel
theorem d_Model_one_134 : decode b_Model_one 134 = .ok (.bipush (-2), 2) := by decide +kernel
theorem d_Model_one_136 : decode b_Model_one 136 = .ok (.goto (17), 3) := by decide +kernel
theorem d_Model_one_139 : decode b_Model_one 139 = .ok (.aload_n 0, 1) := by decide +kernel
theorem d_Model_one_140 : decode b_Model_one 140 = .ok (.getfield 31, 3) := by decide +kernel
theorem d_Model_one_143 : decode b_Model_one 143 = .ok (.aload_n 0, 1) := by decide +kernel
theorem d_Model_one_144 : decode b_Model_one 144 = .ok (.getfield 31, 3) := by decide +kernel
theorem d_Model_one_147 : decode b_Model_one 147 = .ok (.invokevirtual 235, 3) := by decide +kernel
theorem d_Model_one_150 : decode b_Model_one 150 = .ok (.invokevirtual 218, 3) := by decide +kernel
theorem d_Model_one_153 : decode b_Model_one 153 = .ok (.invokevirtual 221, 3) := by decide +kernel
theorem d_Model_one_156 : decode b_Model_one 156 = .ok (.return_, 1) := by decide +kernel
set_option maxHeartbeats 4000000 in
set_option maxRecDepth 100000 in
theorem c_Model_one_x (l : Launch) {dA : FieldType → ClassId} {D : va_G} {al : Nat → Nat} {ext : mv_Sh} {sk sv : Nat → Nat} (hi : mv_inj (mg dA D al ext)) (σ : mv_H) (hM : MI 74 108 σ) (hft : mv_i σ 70 11 = 0 → ¬ mv_i σ 74 18 = -1) : mv_C l y_Model_one (Cond.code y_Model_one b_Model_one 2 (Option.none : Option Jvm.ClassFile.FieldType) :: ma) ({ frames := 2018, cells := 0, slots := 0, locals := 49272 }) (mg dA D al ext) (mK sk sv) [.ref (al 70)] σ (mv_Rv (fun σ1 => QF 74 σ σ1)) := by
  refine mv_C.ofV (cc := b_Model_one) (nL := 2) (ret := (Option.none : Option Jvm.ClassFile.FieldType)) (by decide +kernel) rfl hi (Nat.le_of_ble_eq_true rfl) ?_
  intro p e s m below meth c B hNs hr hnm hno
  have hN : 74 = 74 ∨ 74 = 108 := by decide
  refine mv_aload_n (pc := 0) B d_Model_one_0 rfl 0 rfl ?_
  refine mv_getI (pc := 1) (ci := 11) (C := R_Model) (T := F_Model) (N := 16) B 11 rfl rfl (by decide) i_Model (B.2.2.2.1 _ k_2056) rfl d_Model_one_1 ?_
  refine mv_if_eq (pc := 4) (tgt := 101) B d_Model_one_4 rfl (fun h4 => ?_) (fun h4 => ?_)
  · skip
    refine mv_aload_n (pc := 101) B d_Model_one_101 rfl 0 rfl ?_
    refine mv_getR (pc := 102) (ci := 11) (C := R_Model) (T := F_Model) (N := 16) B 9 rfl rfl (by decide) i_Model (B.2.2.2.1 _ k_2054) rfl hM.2.1 d_Model_one_102 ?_
    refine mv_callVi (pc := 105) (n := 0) (ci := 12) (C := R_Book) B (mK_ok sk sv) hNs rfl rfl (c_Book_fetchWord_x l hi _ hM.1 hM.2.2.2 (hft h4)) rfl (ma_goodc kc_Book_fetchWord) (B.2.2.2.1 _ k_2566) (B.2.2.2.1 _ k_2567) (B.2.2.2.1 _ k_2568) (B.2.2.2.1 _ k_13) ⟨by decide +kernel, by decide +kernel, by decide +kernel⟩ rfl d_Model_one_105 rfl (Nat.le_of_ble_eq_true rfl) ⟨by decide, by decide⟩ ⟨by decide, by decide⟩ ⟨by decide, by decide⟩ (mv_noH hno _) (fun v105 σ105 h105 => ?_)
    have f105 := h105
    have hF : QF 74 σ σ105 := f105.mb.qf
    have hM := hM.qf hF hN
    refine mv_if_ne (pc := 108) (tgt := 117) B d_Model_one_108 rfl (fun h108 => ?_) (fun h108 => ?_)
    · skip
      refine mv_aload_n (pc := 117) B d_Model_one_117 rfl 0 rfl ?_
      refine mv_aload_n (pc := 118) B d_Model_one_118 rfl 0 rfl ?_
      refine mv_getR (pc := 119) (ci := 11) (C := R_Model) (T := F_Model) (N := 16) B 9 rfl rfl (by decide) i_Model (B.2.2.2.1 _ k_2054) rfl hM.2.1 d_Model_one_119 ?_
      refine mv_callVl (pc := 122) (n := 0) (ci := 12) (C := R_Book) B (mK_ok sk sv) hNs rfl rfl (c_Book_fetched_x l hi _) rfl (ma_goodc kc_Book_fetched) (B.2.2.2.1 _ k_2570) (B.2.2.2.1 _ k_2571) (B.2.2.2.1 _ k_2572) (B.2.2.2.1 _ k_13) ⟨by decide +kernel, by decide +kernel, by decide +kernel⟩ rfl d_Model_one_122 rfl (Nat.le_of_ble_eq_true rfl) ⟨by decide, by decide⟩ ⟨by decide, by decide⟩ ⟨by decide, by decide⟩ (mv_noH hno _) (fun v122 σ122 h122 => ?_)
      have e122 := h122.symm
      subst e122
      refine mv_callVi (pc := 125) (n := 1) (ci := 11) (C := R_Model) B (mK_ok sk sv) hNs rfl rfl (c_Model_decode_x l hi _ hM _) rfl (ma_goodc kc_Model_decode) (B.2.2.2.1 _ k_2447) (B.2.2.2.1 _ k_2354) (B.2.2.2.1 _ k_2355) (B.2.2.2.1 _ k_12) ⟨by decide +kernel, by decide +kernel, by decide +kernel⟩ rfl d_Model_one_125 rfl (Nat.le_of_ble_eq_true rfl) ⟨by decide, by decide⟩ ⟨by decide, by decide⟩ ⟨by decide, by decide⟩ (mv_noH hno _) (fun v125 σ125 h125 => ?_)
      obtain ⟨f125, u125⟩ := h125
      have hF := hF.tr f125
      have hM := hM.qf f125 hN
      refine mv_istore_n (pc := 128) B d_Model_one_128 rfl (by decide) rfl ?_
      refine mv_aload_n (pc := 129) B d_Model_one_129 rfl 1 rfl ?_
      refine mv_iload_n (pc := 130) B d_Model_one_130 rfl 0 rfl ?_
      refine mv_if_ge (pc := 131) (tgt := 139) B d_Model_one_131 rfl (fun h131 => ?_) (fun h131 => ?_)
      · skip
        refine mv_aload_n (pc := 139) B d_Model_one_139 rfl 1 rfl ?_
        refine mv_getR (pc := 140) (ci := 11) (C := R_Model) (T := F_Model) (N := 16) B 9 rfl rfl (by decide) i_Model (B.2.2.2.1 _ k_2054) rfl hM.2.1 d_Model_one_140 ?_
        refine mv_aload_n (pc := 143) B d_Model_one_143 rfl 1 rfl ?_
        refine mv_getR (pc := 144) (ci := 11) (C := R_Model) (T := F_Model) (N := 16) B 9 rfl rfl (by decide) i_Model (B.2.2.2.1 _ k_2054) rfl hM.2.1 d_Model_one_144 ?_
        refine mv_callVl (pc := 147) (n := 0) (ci := 12) (C := R_Book) B (mK_ok sk sv) hNs rfl rfl (c_Book_fetched_x l hi _) rfl (ma_goodc kc_Book_fetched) (B.2.2.2.1 _ k_2570) (B.2.2.2.1 _ k_2571) (B.2.2.2.1 _ k_2572) (B.2.2.2.1 _ k_13) ⟨by decide +kernel, by decide +kernel, by decide +kernel⟩ rfl d_Model_one_147 rfl (Nat.le_of_ble_eq_true rfl) ⟨by decide, by decide⟩ ⟨by decide, by decide⟩ ⟨by decide, by decide⟩ (mv_noH hno _) (fun v147 σ147 h147 => ?_)
        have e147 := h147.symm
        subst e147
        refine mv_callVi (pc := 150) (n := 1) (ci := 12) (C := R_Book) B (mK_ok sk sv) hNs rfl rfl (c_Book_step_x l hi _ _ hM.1 hM.2.2.2 (u125 (by rw [f105.mb.qf.sh hN]; exact h4))) rfl (ma_goodc kc_Book_step) (B.2.2.2.1 _ k_2492) (B.2.2.2.1 _ k_2493) (B.2.2.2.1 _ k_2494) (B.2.2.2.1 _ k_13) ⟨by decide +kernel, by decide +kernel, by decide +kernel⟩ rfl d_Model_one_150 rfl (Nat.le_of_ble_eq_true rfl) ⟨by decide, by decide⟩ ⟨by decide, by decide⟩ ⟨by decide, by decide⟩ (mv_noH hno _) (fun v150 σ150 h150 => ?_)
        have hF := hF.tr h150.qf
        refine mv_callVv (pc := 153) (n := 1) (ci := 11) (C := R_Model) B (mK_ok sk sv) hNs rfl rfl (c_Model_told l hi _ _) rfl (ma_goodc kc_Model_told) (B.2.2.2.1 _ k_2554) (B.2.2.2.1 _ k_2556) (B.2.2.2.1 _ ks_140) (B.2.2.2.1 _ k_12) ⟨by decide +kernel, by decide +kernel, by decide +kernel⟩ rfl d_Model_one_153 rfl (Nat.le_of_ble_eq_true rfl) ⟨by decide, by decide⟩ ⟨by decide, by decide⟩ ⟨by decide, by decide⟩ (mv_noH hno _) (fun σ153 h153 => ?_)
        exact mv_vret (pc := 156) B hr d_Model_one_156 (Nat.le_refl _) (Nat.le_refl _) ⟨rfl, hF.tr h153.qf⟩
      · skip
        refine mv_bipush (pc := 134) (v := -2) B d_Model_one_134 (by decide) ?_
        refine mv_goto (pc := 136) (tgt := 153) B d_Model_one_136 rfl ?_
        refine mv_callVv (pc := 153) (n := 1) (ci := 11) (C := R_Model) B (mK_ok sk sv) hNs rfl rfl (c_Model_told l hi _ _) rfl (ma_goodc kc_Model_told) (B.2.2.2.1 _ k_2554) (B.2.2.2.1 _ k_2556) (B.2.2.2.1 _ ks_140) (B.2.2.2.1 _ k_12) ⟨by decide +kernel, by decide +kernel, by decide +kernel⟩ rfl d_Model_one_153 rfl (Nat.le_of_ble_eq_true rfl) ⟨by decide, by decide⟩ ⟨by decide, by decide⟩ ⟨by decide, by decide⟩ (mv_noH hno _) (fun σ153 h153 => ?_)
        exact mv_vret (pc := 156) B hr d_Model_one_156 (Nat.le_refl _) (Nat.le_refl _) ⟨rfl, hF.tr h153.qf⟩
    · skip
      refine mv_aload_n (pc := 111) B d_Model_one_111 rfl 0 rfl ?_
      refine mv_iconst (pc := 112) (v := -1) B d_Model_one_112 (by decide) ?_
      refine mv_callVv (pc := 113) (n := 1) (ci := 11) (C := R_Model) B (mK_ok sk sv) hNs rfl rfl (c_Model_told l hi _ _) rfl (ma_goodc kc_Model_told) (B.2.2.2.1 _ k_2554) (B.2.2.2.1 _ k_2556) (B.2.2.2.1 _ ks_140) (B.2.2.2.1 _ k_12) ⟨by decide +kernel, by decide +kernel, by decide +kernel⟩ rfl d_Model_one_113 rfl (Nat.le_of_ble_eq_true rfl) ⟨by decide, by decide⟩ ⟨by decide, by decide⟩ ⟨by decide, by decide⟩ (mv_noH hno _) (fun σ113 h113 => ?_)
      exact mv_vret (pc := 116) B hr d_Model_one_116 (Nat.le_refl _) (Nat.le_refl _) ⟨rfl, hF.tr h113.qf⟩
  · skip
    refine mv_aload_n (pc := 7) B d_Model_one_7 rfl 0 rfl ?_
    refine mv_getI (pc := 8) (ci := 11) (C := R_Model) (T := F_Model) (N := 16) B 6 rfl rfl (by decide) i_Model (B.2.2.2.1 _ k_2051) rfl d_Model_one_8 ?_
    refine mv_iconst (pc := 11) (v := 4) B d_Model_one_11 (by decide) ?_
    refine mv_callSi (pc := 12) (n := 2) B (mK_ok sk sv) hNs (c_Model_inMemory l hi _ _ _ (by decide) (by decide)) rfl (ma_goodc kc_Model_inMemory) (B.2.2.2.1 _ k_2476) (B.2.2.2.1 _ k_2477) (B.2.2.2.1 _ k_12) ⟨by decide +kernel, by decide +kernel, by decide +kernel⟩ rfl d_Model_one_12 rfl (Nat.le_of_ble_eq_true rfl) ⟨by decide, by decide⟩ ⟨by decide, by decide⟩ ⟨by decide, by decide⟩ (mv_noH hno _) (fun v12 σ12 h12 => ?_)
    obtain ⟨e12, z12⟩ := h12
    have e12 := e12.symm
    subst e12
    refine mv_if_ne (pc := 15) (tgt := 26) B d_Model_one_15 rfl (fun h15 => ?_) (fun h15 => ?_)
    · skip
      have z13 := z12.resolve_left h15
      have z14 := z13.2.1
      have z15 : (mv_i σ 70 6).toInt + 4 ≤ 32768 := z13.2.2
      refine mv_aload_n (pc := 26) B d_Model_one_26 rfl 0 rfl ?_
      refine mv_aload_n (pc := 27) B d_Model_one_27 rfl 0 rfl ?_
      refine mv_aload_n (pc := 28) B d_Model_one_28 rfl 0 rfl ?_
      refine mv_getR (pc := 29) (ci := 11) (C := R_Model) (T := F_Model) (N := 16) B 8 rfl rfl (by decide) i_Model (B.2.2.2.1 _ k_2053) rfl (hM.1 _ 8 _ rfl) d_Model_one_29 ?_
      refine mv_aload_n (pc := 32) B d_Model_one_32 rfl 0 rfl ?_
      refine mv_getI (pc := 33) (ci := 11) (C := R_Model) (T := F_Model) (N := 16) B 6 rfl rfl (by decide) i_Model (B.2.2.2.1 _ k_2051) rfl d_Model_one_33 ?_
      refine mv_bald (pc := 36) B rfl (i32_in (x := (mv_i σ 70 6)) z14 (show (mv_i σ 70 6).toInt < 32768 by omega)) d_Model_one_36 ?_
      refine mv_sipush (pc := 37) (v := 255) B d_Model_one_37 (by decide) ?_
      refine mv_iand (pc := 40) B d_Model_one_40 ?_
      refine mv_aload_n (pc := 41) B d_Model_one_41 rfl 0 rfl ?_
      refine mv_getR (pc := 42) (ci := 11) (C := R_Model) (T := F_Model) (N := 16) B 8 rfl rfl (by decide) i_Model (B.2.2.2.1 _ k_2053) rfl (hM.1 _ 8 _ rfl) d_Model_one_42 ?_
      refine mv_aload_n (pc := 45) B d_Model_one_45 rfl 0 rfl ?_
      refine mv_getI (pc := 46) (ci := 11) (C := R_Model) (T := F_Model) (N := 16) B 6 rfl rfl (by decide) i_Model (B.2.2.2.1 _ k_2051) rfl d_Model_one_46 ?_
      refine mv_iconst (pc := 49) (v := 1) B d_Model_one_49 (by decide) ?_
      refine mv_iadd (pc := 50) B d_Model_one_50 ?_
      refine mv_topi (fun y50 ey50 => ?_)
      have fy50 := i32_addE ey50 (by (try simp only [Int32.reduceToInt]); omega) (by (try simp only [Int32.reduceToInt]); omega)
      try simp only [Int32.reduceToInt] at fy50
      refine mv_bald (pc := 51) B rfl (i32_in (show 0 ≤ y50.toInt by omega) (show y50.toInt < 32768 by omega)) d_Model_one_51 ?_
      refine mv_sipush (pc := 52) (v := 255) B d_Model_one_52 (by decide) ?_
      refine mv_iand (pc := 55) B d_Model_one_55 ?_
      refine mv_bipush (pc := 56) (v := 8) B d_Model_one_56 (by decide) ?_
      refine mv_ishl (pc := 58) B d_Model_one_58 ?_
      refine mv_ior (pc := 59) B d_Model_one_59 ?_
      refine mv_aload_n (pc := 60) B d_Model_one_60 rfl 0 rfl ?_
      refine mv_getR (pc := 61) (ci := 11) (C := R_Model) (T := F_Model) (N := 16) B 8 rfl rfl (by decide) i_Model (B.2.2.2.1 _ k_2053) rfl (hM.1 _ 8 _ rfl) d_Model_one_61 ?_
      refine mv_aload_n (pc := 64) B d_Model_one_64 rfl 0 rfl ?_
      refine mv_getI (pc := 65) (ci := 11) (C := R_Model) (T := F_Model) (N := 16) B 6 rfl rfl (by decide) i_Model (B.2.2.2.1 _ k_2051) rfl d_Model_one_65 ?_
      refine mv_iconst (pc := 68) (v := 2) B d_Model_one_68 (by decide) ?_
      refine mv_iadd (pc := 69) B d_Model_one_69 ?_
      refine mv_topi (fun y69 ey69 => ?_)
      have fy69 := i32_addE ey69 (by (try simp only [Int32.reduceToInt]); omega) (by (try simp only [Int32.reduceToInt]); omega)
      try simp only [Int32.reduceToInt] at fy69
      refine mv_bald (pc := 70) B rfl (i32_in (show 0 ≤ y69.toInt by omega) (show y69.toInt < 32768 by omega)) d_Model_one_70 ?_
      refine mv_sipush (pc := 71) (v := 255) B d_Model_one_71 (by decide) ?_
      refine mv_iand (pc := 74) B d_Model_one_74 ?_
      refine mv_bipush (pc := 75) (v := 16) B d_Model_one_75 (by decide) ?_
      refine mv_ishl (pc := 77) B d_Model_one_77 ?_
      refine mv_ior (pc := 78) B d_Model_one_78 ?_
      refine mv_aload_n (pc := 79) B d_Model_one_79 rfl 0 rfl ?_
      refine mv_getR (pc := 80) (ci := 11) (C := R_Model) (T := F_Model) (N := 16) B 8 rfl rfl (by decide) i_Model (B.2.2.2.1 _ k_2053) rfl (hM.1 _ 8 _ rfl) d_Model_one_80 ?_
      refine mv_aload_n (pc := 83) B d_Model_one_83 rfl 0 rfl ?_
      refine mv_getI (pc := 84) (ci := 11) (C := R_Model) (T := F_Model) (N := 16) B 6 rfl rfl (by decide) i_Model (B.2.2.2.1 _ k_2051) rfl d_Model_one_84 ?_
      refine mv_iconst (pc := 87) (v := 3) B d_Model_one_87 (by decide) ?_
      refine mv_iadd (pc := 88) B d_Model_one_88 ?_
      refine mv_topi (fun y88 ey88 => ?_)
      have fy88 := i32_addE ey88 (by (try simp only [Int32.reduceToInt]); omega) (by (try simp only [Int32.reduceToInt]); omega)
      try simp only [Int32.reduceToInt] at fy88
      refine mv_bald (pc := 89) B rfl (i32_in (show 0 ≤ y88.toInt by omega) (show y88.toInt < 32768 by omega)) d_Model_one_89 ?_
      refine mv_bipush (pc := 90) (v := 24) B d_Model_one_90 (by decide) ?_
      refine mv_ishl (pc := 92) B d_Model_one_92 ?_
      refine mv_ior (pc := 93) B d_Model_one_93 ?_
      refine mv_callVi (pc := 94) (n := 1) (ci := 11) (C := R_Model) B (mK_ok sk sv) hNs rfl rfl (c_Model_shippedStep l hi _ hM.1 _) rfl (ma_goodc kc_Model_shippedStep) (B.2.2.2.1 _ k_2448) (B.2.2.2.1 _ k_2450) (B.2.2.2.1 _ ks_126) (B.2.2.2.1 _ k_12) ⟨by decide +kernel, by decide +kernel, by decide +kernel⟩ rfl d_Model_one_94 rfl (Nat.le_of_ble_eq_true rfl) ⟨by decide, by decide⟩ ⟨by decide, by decide⟩ ⟨by decide, by decide⟩ (mv_noH hno _) (fun v94 σ94 h94 => ?_)
      refine mv_callVv (pc := 97) (n := 1) (ci := 11) (C := R_Model) B (mK_ok sk sv) hNs rfl rfl (c_Model_told l hi _ _) rfl (ma_goodc kc_Model_told) (B.2.2.2.1 _ k_2554) (B.2.2.2.1 _ k_2556) (B.2.2.2.1 _ ks_140) (B.2.2.2.1 _ k_12) ⟨by decide +kernel, by decide +kernel, by decide +kernel⟩ rfl d_Model_one_97 rfl (Nat.le_of_ble_eq_true rfl) ⟨by decide, by decide⟩ ⟨by decide, by decide⟩ ⟨by decide, by decide⟩ (mv_noH hno _) (fun σ97 h97 => ?_)
      exact mv_vret (pc := 100) B hr d_Model_one_100 (Nat.le_refl _) (Nat.le_refl _) ⟨rfl, by first | exact h20.qf | exact (h94.tr h97).qf⟩
    · skip
      refine mv_aload_n (pc := 18) B d_Model_one_18 rfl 0 rfl ?_
      refine mv_iconst (pc := 19) (v := -1) B d_Model_one_19 (by decide) ?_
      refine mv_callVv (pc := 20) (n := 1) (ci := 11) (C := R_Model) B (mK_ok sk sv) hNs rfl rfl (c_Model_told l hi _ _) rfl (ma_goodc kc_Model_told) (B.2.2.2.1 _ k_2554) (B.2.2.2.1 _ k_2556) (B.2.2.2.1 _ ks_140) (B.2.2.2.1 _ k_12) ⟨by decide +kernel, by decide +kernel, by decide +kernel⟩ rfl d_Model_one_20 rfl (Nat.le_of_ble_eq_true rfl) ⟨by decide, by decide⟩ ⟨by decide, by decide⟩ ⟨by decide, by decide⟩ (mv_noH hno _) (fun σ20 h20 => ?_)
      refine mv_goto (pc := 23) (tgt := 100) B d_Model_one_23 rfl ?_
      exact mv_vret (pc := 100) B hr d_Model_one_100 (Nat.le_refl _) (Nat.le_refl _) ⟨rfl, by first | exact h20.qf | exact (h94.tr h97).qf⟩
set_option maxHeartbeats 4000000 in
set_option maxRecDepth 100000 in
theorem c_Model_one_y (l : Launch) {dA : FieldType → ClassId} {D : va_G} {al : Nat → Nat} {ext : mv_Sh} {sk sv : Nat → Nat} (hi : mv_inj (mg dA D al ext)) (σ : mv_H) (hM : MI 108 74 σ) (hft : mv_i σ 70 11 = 0 → ¬ mv_i σ 108 18 = -1) : mv_C l y_Model_one (Cond.code y_Model_one b_Model_one 2 (Option.none : Option Jvm.ClassFile.FieldType) :: ma) ({ frames := 2018, cells := 0, slots := 0, locals := 49272 }) (mg dA D al ext) (mK sk sv) [.ref (al 70)] σ (mv_Rv (fun σ1 => QF 108 σ σ1)) := by
  refine mv_C.ofV (cc := b_Model_one) (nL := 2) (ret := (Option.none : Option Jvm.ClassFile.FieldType)) (by decide +kernel) rfl hi (Nat.le_of_ble_eq_true rfl) ?_
  intro p e s m below meth c B hNs hr hnm hno
  have hN : 108 = 74 ∨ 108 = 108 := by decide
  refine mv_aload_n (pc := 0) B d_Model_one_0 rfl 0 rfl ?_
  refine mv_getI (pc := 1) (ci := 11) (C := R_Model) (T := F_Model) (N := 16) B 11 rfl rfl (by decide) i_Model (B.2.2.2.1 _ k_2056) rfl d_Model_one_1 ?_
  refine mv_if_eq (pc := 4) (tgt := 101) B d_Model_one_4 rfl (fun h4 => ?_) (fun h4 => ?_)
  · skip
    refine mv_aload_n (pc := 101) B d_Model_one_101 rfl 0 rfl ?_
    refine mv_getR (pc := 102) (ci := 11) (C := R_Model) (T := F_Model) (N := 16) B 9 rfl rfl (by decide) i_Model (B.2.2.2.1 _ k_2054) rfl hM.2.1 d_Model_one_102 ?_
    refine mv_callVi (pc := 105) (n := 0) (ci := 12) (C := R_Book) B (mK_ok sk sv) hNs rfl rfl (c_Book_fetchWord_y l hi _ hM.1 hM.2.2.2 (hft h4)) rfl (ma_goodc kc_Book_fetchWord) (B.2.2.2.1 _ k_2566) (B.2.2.2.1 _ k_2567) (B.2.2.2.1 _ k_2568) (B.2.2.2.1 _ k_13) ⟨by decide +kernel, by decide +kernel, by decide +kernel⟩ rfl d_Model_one_105 rfl (Nat.le_of_ble_eq_true rfl) ⟨by decide, by decide⟩ ⟨by decide, by decide⟩ ⟨by decide, by decide⟩ (mv_noH hno _) (fun v105 σ105 h105 => ?_)
    have f105 := h105
    have hF : QF 108 σ σ105 := f105.mb.qf
    have hM := hM.qf hF hN
    refine mv_if_ne (pc := 108) (tgt := 117) B d_Model_one_108 rfl (fun h108 => ?_) (fun h108 => ?_)
    · skip
      refine mv_aload_n (pc := 117) B d_Model_one_117 rfl 0 rfl ?_
      refine mv_aload_n (pc := 118) B d_Model_one_118 rfl 0 rfl ?_
      refine mv_getR (pc := 119) (ci := 11) (C := R_Model) (T := F_Model) (N := 16) B 9 rfl rfl (by decide) i_Model (B.2.2.2.1 _ k_2054) rfl hM.2.1 d_Model_one_119 ?_
      refine mv_callVl (pc := 122) (n := 0) (ci := 12) (C := R_Book) B (mK_ok sk sv) hNs rfl rfl (c_Book_fetched_y l hi _) rfl (ma_goodc kc_Book_fetched) (B.2.2.2.1 _ k_2570) (B.2.2.2.1 _ k_2571) (B.2.2.2.1 _ k_2572) (B.2.2.2.1 _ k_13) ⟨by decide +kernel, by decide +kernel, by decide +kernel⟩ rfl d_Model_one_122 rfl (Nat.le_of_ble_eq_true rfl) ⟨by decide, by decide⟩ ⟨by decide, by decide⟩ ⟨by decide, by decide⟩ (mv_noH hno _) (fun v122 σ122 h122 => ?_)
      have e122 := h122.symm
      subst e122
      refine mv_callVi (pc := 125) (n := 1) (ci := 11) (C := R_Model) B (mK_ok sk sv) hNs rfl rfl (c_Model_decode_y l hi _ hM _) rfl (ma_goodc kc_Model_decode) (B.2.2.2.1 _ k_2447) (B.2.2.2.1 _ k_2354) (B.2.2.2.1 _ k_2355) (B.2.2.2.1 _ k_12) ⟨by decide +kernel, by decide +kernel, by decide +kernel⟩ rfl d_Model_one_125 rfl (Nat.le_of_ble_eq_true rfl) ⟨by decide, by decide⟩ ⟨by decide, by decide⟩ ⟨by decide, by decide⟩ (mv_noH hno _) (fun v125 σ125 h125 => ?_)
      obtain ⟨f125, u125⟩ := h125
      have hF := hF.tr f125
      have hM := hM.qf f125 hN
      refine mv_istore_n (pc := 128) B d_Model_one_128 rfl (by decide) rfl ?_
      refine mv_aload_n (pc := 129) B d_Model_one_129 rfl 1 rfl ?_
      refine mv_iload_n (pc := 130) B d_Model_one_130 rfl 0 rfl ?_
      refine mv_if_ge (pc := 131) (tgt := 139) B d_Model_one_131 rfl (fun h131 => ?_) (fun h131 => ?_)
      · skip
        refine mv_aload_n (pc := 139) B d_Model_one_139 rfl 1 rfl ?_
        refine mv_getR (pc := 140) (ci := 11) (C := R_Model) (T := F_Model) (N := 16) B 9 rfl rfl (by decide) i_Model (B.2.2.2.1 _ k_2054) rfl hM.2.1 d_Model_one_140 ?_
        refine mv_aload_n (pc := 143) B d_Model_one_143 rfl 1 rfl ?_
        refine mv_getR (pc := 144) (ci := 11) (C := R_Model) (T := F_Model) (N := 16) B 9 rfl rfl (by decide) i_Model (B.2.2.2.1 _ k_2054) rfl hM.2.1 d_Model_one_144 ?_
        refine mv_callVl (pc := 147) (n := 0) (ci := 12) (C := R_Book) B (mK_ok sk sv) hNs rfl rfl (c_Book_fetched_y l hi _) rfl (ma_goodc kc_Book_fetched) (B.2.2.2.1 _ k_2570) (B.2.2.2.1 _ k_2571) (B.2.2.2.1 _ k_2572) (B.2.2.2.1 _ k_13) ⟨by decide +kernel, by decide +kernel, by decide +kernel⟩ rfl d_Model_one_147 rfl (Nat.le_of_ble_eq_true rfl) ⟨by decide, by decide⟩ ⟨by decide, by decide⟩ ⟨by decide, by decide⟩ (mv_noH hno _) (fun v147 σ147 h147 => ?_)
        have e147 := h147.symm
        subst e147
        refine mv_callVi (pc := 150) (n := 1) (ci := 12) (C := R_Book) B (mK_ok sk sv) hNs rfl rfl (c_Book_step_y l hi _ _ hM.1 hM.2.2.2 (u125 (by rw [f105.mb.qf.sh hN]; exact h4))) rfl (ma_goodc kc_Book_step) (B.2.2.2.1 _ k_2492) (B.2.2.2.1 _ k_2493) (B.2.2.2.1 _ k_2494) (B.2.2.2.1 _ k_13) ⟨by decide +kernel, by decide +kernel, by decide +kernel⟩ rfl d_Model_one_150 rfl (Nat.le_of_ble_eq_true rfl) ⟨by decide, by decide⟩ ⟨by decide, by decide⟩ ⟨by decide, by decide⟩ (mv_noH hno _) (fun v150 σ150 h150 => ?_)
        have hF := hF.tr h150.qf
        refine mv_callVv (pc := 153) (n := 1) (ci := 11) (C := R_Model) B (mK_ok sk sv) hNs rfl rfl (c_Model_told l hi _ _) rfl (ma_goodc kc_Model_told) (B.2.2.2.1 _ k_2554) (B.2.2.2.1 _ k_2556) (B.2.2.2.1 _ ks_140) (B.2.2.2.1 _ k_12) ⟨by decide +kernel, by decide +kernel, by decide +kernel⟩ rfl d_Model_one_153 rfl (Nat.le_of_ble_eq_true rfl) ⟨by decide, by decide⟩ ⟨by decide, by decide⟩ ⟨by decide, by decide⟩ (mv_noH hno _) (fun σ153 h153 => ?_)
        exact mv_vret (pc := 156) B hr d_Model_one_156 (Nat.le_refl _) (Nat.le_refl _) ⟨rfl, hF.tr h153.qf⟩
      · skip
        refine mv_bipush (pc := 134) (v := -2) B d_Model_one_134 (by decide) ?_
        refine mv_goto (pc := 136) (tgt := 153) B d_Model_one_136 rfl ?_
        refine mv_callVv (pc := 153) (n := 1) (ci := 11) (C := R_Model) B (mK_ok sk sv) hNs rfl rfl (c_Model_told l hi _ _) rfl (ma_goodc kc_Model_told) (B.2.2.2.1 _ k_2554) (B.2.2.2.1 _ k_2556) (B.2.2.2.1 _ ks_140) (B.2.2.2.1 _ k_12) ⟨by decide +kernel, by decide +kernel, by decide +kernel⟩ rfl d_Model_one_153 rfl (Nat.le_of_ble_eq_true rfl) ⟨by decide, by decide⟩ ⟨by decide, by decide⟩ ⟨by decide, by decide⟩ (mv_noH hno _) (fun σ153 h153 => ?_)
        exact mv_vret (pc := 156) B hr d_Model_one_156 (Nat.le_refl _) (Nat.le_refl _) ⟨rfl, hF.tr h153.qf⟩
    · skip
      refine mv_aload_n (pc := 111) B d_Model_one_111 rfl 0 rfl ?_
      refine mv_iconst (pc := 112) (v := -1) B d_Model_one_112 (by decide) ?_
      refine mv_callVv (pc := 113) (n := 1) (ci := 11) (C := R_Model) B (mK_ok sk sv) hNs rfl rfl (c_Model_told l hi _ _) rfl (ma_goodc kc_Model_told) (B.2.2.2.1 _ k_2554) (B.2.2.2.1 _ k_2556) (B.2.2.2.1 _ ks_140) (B.2.2.2.1 _ k_12) ⟨by decide +kernel, by decide +kernel, by decide +kernel⟩ rfl d_Model_one_113 rfl (Nat.le_of_ble_eq_true rfl) ⟨by decide, by decide⟩ ⟨by decide, by decide⟩ ⟨by decide, by decide⟩ (mv_noH hno _) (fun σ113 h113 => ?_)
      exact mv_vret (pc := 116) B hr d_Model_one_116 (Nat.le_refl _) (Nat.le_refl _) ⟨rfl, hF.tr h113.qf⟩
  · skip
    refine mv_aload_n (pc := 7) B d_Model_one_7 rfl 0 rfl ?_
    refine mv_getI (pc := 8) (ci := 11) (C := R_Model) (T := F_Model) (N := 16) B 6 rfl rfl (by decide) i_Model (B.2.2.2.1 _ k_2051) rfl d_Model_one_8 ?_
    refine mv_iconst (pc := 11) (v := 4) B d_Model_one_11 (by decide) ?_
    refine mv_callSi (pc := 12) (n := 2) B (mK_ok sk sv) hNs (c_Model_inMemory l hi _ _ _ (by decide) (by decide)) rfl (ma_goodc kc_Model_inMemory) (B.2.2.2.1 _ k_2476) (B.2.2.2.1 _ k_2477) (B.2.2.2.1 _ k_12) ⟨by decide +kernel, by decide +kernel, by decide +kernel⟩ rfl d_Model_one_12 rfl (Nat.le_of_ble_eq_true rfl) ⟨by decide, by decide⟩ ⟨by decide, by decide⟩ ⟨by decide, by decide⟩ (mv_noH hno _) (fun v12 σ12 h12 => ?_)
    obtain ⟨e12, z12⟩ := h12
    have e12 := e12.symm
    subst e12
    refine mv_if_ne (pc := 15) (tgt := 26) B d_Model_one_15 rfl (fun h15 => ?_) (fun h15 => ?_)
    · skip
      have z13 := z12.resolve_left h15
      have z14 := z13.2.1
      have z15 : (mv_i σ 70 6).toInt + 4 ≤ 32768 := z13.2.2
      refine mv_aload_n (pc := 26) B d_Model_one_26 rfl 0 rfl ?_
      refine mv_aload_n (pc := 27) B d_Model_one_27 rfl 0 rfl ?_
      refine mv_aload_n (pc := 28) B d_Model_one_28 rfl 0 rfl ?_
      refine mv_getR (pc := 29) (ci := 11) (C := R_Model) (T := F_Model) (N := 16) B 8 rfl rfl (by decide) i_Model (B.2.2.2.1 _ k_2053) rfl (hM.1 _ 8 _ rfl) d_Model_one_29 ?_
      refine mv_aload_n (pc := 32) B d_Model_one_32 rfl 0 rfl ?_
      refine mv_getI (pc := 33) (ci := 11) (C := R_Model) (T := F_Model) (N := 16) B 6 rfl rfl (by decide) i_Model (B.2.2.2.1 _ k_2051) rfl d_Model_one_33 ?_
      refine mv_bald (pc := 36) B rfl (i32_in (x := (mv_i σ 70 6)) z14 (show (mv_i σ 70 6).toInt < 32768 by omega)) d_Model_one_36 ?_
      refine mv_sipush (pc := 37) (v := 255) B d_Model_one_37 (by decide) ?_
      refine mv_iand (pc := 40) B d_Model_one_40 ?_
      refine mv_aload_n (pc := 41) B d_Model_one_41 rfl 0 rfl ?_
      refine mv_getR (pc := 42) (ci := 11) (C := R_Model) (T := F_Model) (N := 16) B 8 rfl rfl (by decide) i_Model (B.2.2.2.1 _ k_2053) rfl (hM.1 _ 8 _ rfl) d_Model_one_42 ?_
      refine mv_aload_n (pc := 45) B d_Model_one_45 rfl 0 rfl ?_
      refine mv_getI (pc := 46) (ci := 11) (C := R_Model) (T := F_Model) (N := 16) B 6 rfl rfl (by decide) i_Model (B.2.2.2.1 _ k_2051) rfl d_Model_one_46 ?_
      refine mv_iconst (pc := 49) (v := 1) B d_Model_one_49 (by decide) ?_
      refine mv_iadd (pc := 50) B d_Model_one_50 ?_
      refine mv_topi (fun y50 ey50 => ?_)
      have fy50 := i32_addE ey50 (by (try simp only [Int32.reduceToInt]); omega) (by (try simp only [Int32.reduceToInt]); omega)
      try simp only [Int32.reduceToInt] at fy50
      refine mv_bald (pc := 51) B rfl (i32_in (show 0 ≤ y50.toInt by omega) (show y50.toInt < 32768 by omega)) d_Model_one_51 ?_
      refine mv_sipush (pc := 52) (v := 255) B d_Model_one_52 (by decide) ?_
      refine mv_iand (pc := 55) B d_Model_one_55 ?_
      refine mv_bipush (pc := 56) (v := 8) B d_Model_one_56 (by decide) ?_
      refine mv_ishl (pc := 58) B d_Model_one_58 ?_
      refine mv_ior (pc := 59) B d_Model_one_59 ?_
      refine mv_aload_n (pc := 60) B d_Model_one_60 rfl 0 rfl ?_
      refine mv_getR (pc := 61) (ci := 11) (C := R_Model) (T := F_Model) (N := 16) B 8 rfl rfl (by decide) i_Model (B.2.2.2.1 _ k_2053) rfl (hM.1 _ 8 _ rfl) d_Model_one_61 ?_
      refine mv_aload_n (pc := 64) B d_Model_one_64 rfl 0 rfl ?_
      refine mv_getI (pc := 65) (ci := 11) (C := R_Model) (T := F_Model) (N := 16) B 6 rfl rfl (by decide) i_Model (B.2.2.2.1 _ k_2051) rfl d_Model_one_65 ?_
      refine mv_iconst (pc := 68) (v := 2) B d_Model_one_68 (by decide) ?_
      refine mv_iadd (pc := 69) B d_Model_one_69 ?_
      refine mv_topi (fun y69 ey69 => ?_)
      have fy69 := i32_addE ey69 (by (try simp only [Int32.reduceToInt]); omega) (by (try simp only [Int32.reduceToInt]); omega)
      try simp only [Int32.reduceToInt] at fy69
      refine mv_bald (pc := 70) B rfl (i32_in (show 0 ≤ y69.toInt by omega) (show y69.toInt < 32768 by omega)) d_Model_one_70 ?_
      refine mv_sipush (pc := 71) (v := 255) B d_Model_one_71 (by decide) ?_
      refine mv_iand (pc := 74) B d_Model_one_74 ?_
      refine mv_bipush (pc := 75) (v := 16) B d_Model_one_75 (by decide) ?_
      refine mv_ishl (pc := 77) B d_Model_one_77 ?_
      refine mv_ior (pc := 78) B d_Model_one_78 ?_
      refine mv_aload_n (pc := 79) B d_Model_one_79 rfl 0 rfl ?_
      refine mv_getR (pc := 80) (ci := 11) (C := R_Model) (T := F_Model) (N := 16) B 8 rfl rfl (by decide) i_Model (B.2.2.2.1 _ k_2053) rfl (hM.1 _ 8 _ rfl) d_Model_one_80 ?_
      refine mv_aload_n (pc := 83) B d_Model_one_83 rfl 0 rfl ?_
      refine mv_getI (pc := 84) (ci := 11) (C := R_Model) (T := F_Model) (N := 16) B 6 rfl rfl (by decide) i_Model (B.2.2.2.1 _ k_2051) rfl d_Model_one_84 ?_
      refine mv_iconst (pc := 87) (v := 3) B d_Model_one_87 (by decide) ?_
      refine mv_iadd (pc := 88) B d_Model_one_88 ?_
      refine mv_topi (fun y88 ey88 => ?_)
      have fy88 := i32_addE ey88 (by (try simp only [Int32.reduceToInt]); omega) (by (try simp only [Int32.reduceToInt]); omega)
      try simp only [Int32.reduceToInt] at fy88
      refine mv_bald (pc := 89) B rfl (i32_in (show 0 ≤ y88.toInt by omega) (show y88.toInt < 32768 by omega)) d_Model_one_89 ?_
      refine mv_bipush (pc := 90) (v := 24) B d_Model_one_90 (by decide) ?_
      refine mv_ishl (pc := 92) B d_Model_one_92 ?_
      refine mv_ior (pc := 93) B d_Model_one_93 ?_
      refine mv_callVi (pc := 94) (n := 1) (ci := 11) (C := R_Model) B (mK_ok sk sv) hNs rfl rfl (c_Model_shippedStep l hi _ hM.1 _) rfl (ma_goodc kc_Model_shippedStep) (B.2.2.2.1 _ k_2448) (B.2.2.2.1 _ k_2450) (B.2.2.2.1 _ ks_126) (B.2.2.2.1 _ k_12) ⟨by decide +kernel, by decide +kernel, by decide +kernel⟩ rfl d_Model_one_94 rfl (Nat.le_of_ble_eq_true rfl) ⟨by decide, by decide⟩ ⟨by decide, by decide⟩ ⟨by decide, by decide⟩ (mv_noH hno _) (fun v94 σ94 h94 => ?_)
      refine mv_callVv (pc := 97) (n := 1) (ci := 11) (C := R_Model) B (mK_ok sk sv) hNs rfl rfl (c_Model_told l hi _ _) rfl (ma_goodc kc_Model_told) (B.2.2.2.1 _ k_2554) (B.2.2.2.1 _ k_2556) (B.2.2.2.1 _ ks_140) (B.2.2.2.1 _ k_12) ⟨by decide +kernel, by decide +kernel, by decide +kernel⟩ rfl d_Model_one_97 rfl (Nat.le_of_ble_eq_true rfl) ⟨by decide, by decide⟩ ⟨by decide, by decide⟩ ⟨by decide, by decide⟩ (mv_noH hno _) (fun σ97 h97 => ?_)
      exact mv_vret (pc := 100) B hr d_Model_one_100 (Nat.le_refl _) (Nat.le_refl _) ⟨rfl, by first | exact h20.qf | exact (h94.tr h97).qf⟩
    · skip
      refine mv_aload_n (pc := 18) B d_Model_one_18 rfl 0 rfl ?_
      refine mv_iconst (pc := 19) (v := -1) B d_Model_one_19 (by decide) ?_
      refine mv_callVv (pc := 20) (n := 1) (ci := 11) (C := R_Model) B (mK_ok sk sv) hNs rfl rfl (c_Model_told l hi _ _) rfl (ma_goodc kc_Model_told) (B.2.2.2.1 _ k_2554) (B.2.2.2.1 _ k_2556) (B.2.2.2.1 _ ks_140) (B.2.2.2.1 _ k_12) ⟨by decide +kernel, by decide +kernel, by decide +kernel⟩ rfl d_Model_one_20 rfl (Nat.le_of_ble_eq_true rfl) ⟨by decide, by decide⟩ ⟨by decide, by decide⟩ ⟨by decide, by decide⟩ (mv_noH hno _) (fun σ20 h20 => ?_)
      refine mv_goto (pc := 23) (tgt := 100) B d_Model_one_23 rfl ?_
      exact mv_vret (pc := 100) B hr d_Model_one_100 (Nat.le_refl _) (Nat.le_refl _) ⟨rfl, by first | exact h20.qf | exact (h94.tr h97).qf⟩
def y_Model_run : MethodName := ⟨"MachineLoomModel", "run", "(I)I"⟩
abbrev b_Model_run : ByteArray := prog_14_method_36_code
theorem kc_Model_run : Cond.code y_Model_run b_Model_run 3 (Option.some Jvm.ClassFile.FieldType.int) ∈ ma := ma_of (tb_11 _ (List.mem_of_getElem? (i := 161) rfl)) rfl
theorem k_2562 : (Jvm.Cond.methodLink "MachineLoomModel" (228 : Nat) ({ cls := "MachineLoomModel", name := "one", desc := "()V" } : Jvm.MethodName)) ∈ ma := ma_of (tb_11 _ (List.mem_of_getElem? (i := 162) rfl)) rfl
theorem k_2564 : (Jvm.Cond.instanceMethod ({ cls := "MachineLoomModel", name := "one", desc := "()V" } : Jvm.MethodName)) ∈ ma := ma_of (tb_11 _ (List.mem_of_getElem? (i := 164) rfl)) rfl
theorem ks_141 : Cond.selects "MachineLoomModel" ⟨"MachineLoomModel", "one", "()V"⟩ ⟨"MachineLoomModel", "one", "()V"⟩ ∈ ma := ma_sel 141 rfl rfl
theorem k_1863 : (Jvm.Cond.fieldLink "MachineLoomModel" (225 : Nat) "MachineLoomModel$Book" "fetchThing" "I") ∈ ma := ma_of (tb_8 _ (List.mem_of_getElem? (i := 183) rfl)) rfl
theorem d_Model_run_0 : decode b_Model_run 0 = .ok (.aload_n 0, 1) := by decide +kernel
theorem d_Model_run_1 : decode b_Model_run 1 = .ok (.iload_n 1, 1) := by decide +kernel
theorem d_Model_run_2 : decode b_Model_run 2 = .ok (.iconst 1, 1) := by decide +kernel
theorem d_Model_run_3 : decode b_Model_run 3 = .ok (.if_icmp .lt (10), 3) := by decide +kernel
theorem d_Model_run_6 : decode b_Model_run 6 = .ok (.iload_n 1, 1) := by decide +kernel
theorem d_Model_run_7 : decode b_Model_run 7 = .ok (.sipush 500, 3) := by decide +kernel
theorem d_Model_run_10 : decode b_Model_run 10 = .ok (.if_icmp .le (7), 3) := by decide +kernel
theorem d_Model_run_13 : decode b_Model_run 13 = .ok (.iconst 1, 1) := by decide +kernel
theorem d_Model_run_14 : decode b_Model_run 14 = .ok (.goto (25), 3) := by decide +kernel
theorem d_Model_run_17 : decode b_Model_run 17 = .ok (.aload_n 0, 1) := by decide +kernel
theorem d_Model_run_18 : decode b_Model_run 18 = .ok (.getfield 162, 3) := by decide +kernel
theorem d_Model_run_21 : decode b_Model_run 21 = .ok (.ifCond .ne (17), 3) := by decide +kernel
theorem d_Model_run_24 : decode b_Model_run 24 = .ok (.aload_n 0, 1) := by decide +kernel
theorem d_Model_run_25 : decode b_Model_run 25 = .ok (.getfield 31, 3) := by decide +kernel
theorem d_Model_run_28 : decode b_Model_run 28 = .ok (.getfield 225, 3) := by decide +kernel
theorem d_Model_run_31 : decode b_Model_run 31 = .ok (.ifCond .ge (7), 3) := by decide +kernel
theorem d_Model_run_34 : decode b_Model_run 34 = .ok (.iconst 2, 1) := by decide +kernel
theorem d_Model_run_35 : decode b_Model_run 35 = .ok (.goto (4), 3) := by decide +kernel
theorem d_Model_run_38 : decode b_Model_run 38 = .ok (.iconst 0, 1) := by decide +kernel
theorem d_Model_run_39 : decode b_Model_run 39 = .ok (.putfield 38, 3) := by decide +kernel
theorem d_Model_run_42 : decode b_Model_run 42 = .ok (.aload_n 0, 1) := by decide +kernel
theorem d_Model_run_43 : decode b_Model_run 43 = .ok (.getfield 38, 3) := by decide +kernel
theorem d_Model_run_46 : decode b_Model_run 46 = .ok (.ifCond .le (5), 3) := by decide +kernel
theorem d_Model_run_49 : decode b_Model_run 49 = .ok (.iconst 0, 1) := by decide +kernel
theorem d_Model_run_50 : decode b_Model_run 50 = .ok (.ireturn, 1) := by decide +kernel
theorem d_Model_run_51 : decode b_Model_run 51 = .ok (.aload_n 0, 1) := by decide +kernel
theorem d_Model_run_52 : decode b_Model_run 52 = .ok (.iconst 0, 1) := by decide +kernel
theorem d_Model_run_53 : decode b_Model_run 53 = .ok (.putfield 211, 3) := by decide +kernel
theorem d_Model_run_56 : decode b_Model_run 56 = .ok (.iconst 0, 1) := by decide +kernel
theorem d_Model_run_57 : decode b_Model_run 57 = .ok (.istore_n 2, 1) := by decide +kernel
theorem d_Model_run_58 : decode b_Model_run 58 = .ok (.iload_n 2, 1) := by decide +kernel
theorem d_Model_run_59 : decode b_Model_run 59 = .ok (.iload_n 1, 1) := by decide +kernel
theorem d_Model_run_60 : decode b_Model_run 60 = .ok (.if_icmp .ge (22), 3) := by decide +kernel
theorem d_Model_run_63 : decode b_Model_run 63 = .ok (.aload_n 0, 1) := by decide +kernel
theorem d_Model_run_64 : decode b_Model_run 64 = .ok (.invokevirtual 228, 3) := by decide +kernel
theorem d_Model_run_67 : decode b_Model_run 67 = .ok (.aload_n 0, 1) := by decide +kernel
theorem d_Model_run_68 : decode b_Model_run 68 = .ok (.getfield 211, 3) := by decide +kernel
theorem d_Model_run_71 : decode b_Model_run 71 = .ok (.ifCond .eq (5), 3) := by decide +kernel
theorem d_Model_run_74 : decode b_Model_run 74 = .ok (.iload_n 2, 1) := by decide +kernel
theorem d_Model_run_75 : decode b_Model_run 75 = .ok (.ireturn, 1) := by decide +kernel
theorem d_Model_run_76 : decode b_Model_run 76 = .ok (.iinc 2 (1), 3) := by decide +kernel
theorem d_Model_run_79 : decode b_Model_run 79 = .ok (.goto (-21), 3) := by decide +kernel
theorem d_Model_run_82 : decode b_Model_run 82 = .ok (.iload_n 1, 1) := by decide +kernel
theorem d_Model_run_83 : decode b_Model_run 83 = .ok (.ireturn, 1) := by decide +kernel
set_option maxHeartbeats 4000000 in
set_option maxRecDepth 100000 in
theorem c_Model_run_x (l : Launch) {dA : FieldType → ClassId} {D : va_G} {al : Nat → Nat} {ext : mv_Sh} {sk sv : Nat → Nat} (hi : mv_inj (mg dA D al ext)) (σ : mv_H) (hM : MI 74 108 σ) (n9 : Int32) : mv_C l y_Model_run (Cond.code y_Model_run b_Model_run 3 (Option.some Jvm.ClassFile.FieldType.int) :: ma) ({ frames := 2019, cells := 0, slots := 0, locals := 49293 }) (mg dA D al ext) (mK sk sv) [.ref (al 70), .int n9] σ (mv_Ri (fun v σ1 => QF 74 σ σ1)) := by
  refine mv_C.ofV (cc := b_Model_run) (nL := 3) (ret := (Option.some Jvm.ClassFile.FieldType.int)) (by decide +kernel) rfl hi (Nat.le_of_ble_eq_true rfl) ?_
  intro p e s m below meth c B hNs hr hnm hno
  have hN : 74 = 74 ∨ 74 = 108 := by decide
  refine mv_aload_n (pc := 0) B d_Model_run_0 rfl 0 rfl ?_
  refine mv_iload_n (pc := 1) B d_Model_run_1 rfl 1 rfl ?_
  refine mv_iconst (pc := 2) (v := 1) B d_Model_run_2 (by decide) ?_
  refine mv_icmp_lt (pc := 3) (tgt := 13) B d_Model_run_3 rfl (fun h3 => ?_) (fun h3 => ?_)
  · skip
    refine mv_iconst (pc := 13) (v := 1) B d_Model_run_13 (by decide) ?_
    refine mv_goto (pc := 14) (tgt := 39) B d_Model_run_14 rfl ?_
    refine mv_putI (pc := 39) (ci := 11) (C := R_Model) (T := F_Model) (N := 16) B 2 rfl rfl (by decide) i_Model t_Model_ok n_Model (B.2.2.2.1 _ k_2047) rfl rfl rfl rfl d_Model_run_39 ?_
    refine mv_gen (fun S42 eS42 => ?_)
    have hF : QF 74 σ S42 := by rw [eS42]; exact QF.si Fx.rf (by decide)
    have hM := hM.qf hF hN
    first | have x42 : mv_i S42 70 2 = 0 := by rw [eS42, mv_si_s] | have x42 : mv_i S42 70 2 = 1 := by rw [eS42, mv_si_s] | have x42 : mv_i S42 70 2 = 2 := by rw [eS42, mv_si_s]
    first | have hft : mv_i S42 70 11 = 0 → ¬ mv_i S42 74 18 = -1 := fun z => absurd ((hF.sh hN).symm.trans z) h21 | have hft : mv_i S42 70 11 = 0 → ¬ mv_i S42 74 18 = -1 := fun _ z => absurd h31 (by rw [← hF.1 74 18 (by omega), z]; decide) | skip
    clear eS42
    refine mv_aload_n (pc := 42) B d_Model_run_42 rfl 0 rfl ?_
    refine mv_getI (pc := 43) (ci := 11) (C := R_Model) (T := F_Model) (N := 16) B 2 rfl rfl (by decide) i_Model (B.2.2.2.1 _ k_2047) rfl d_Model_run_43 ?_
    refine mv_if_le (pc := 46) (tgt := 51) B d_Model_run_46 rfl (fun h46 => ?_) (fun h46 => ?_)
    · skip
      exact absurd h46 (by rw [x42]; decide)
    · skip
      refine mv_iconst (pc := 49) (v := 0) B d_Model_run_49 (by decide) ?_
      exact mv_iret (pc := 50) B hr rfl d_Model_run_50 (Nat.le_refl _) (Nat.le_refl _) ⟨_, rfl, hF⟩
  · skip
    refine mv_iload_n (pc := 6) B d_Model_run_6 rfl 1 rfl ?_
    refine mv_sipush (pc := 7) (v := 500) B d_Model_run_7 (by decide) ?_
    refine mv_icmp_le (pc := 10) (tgt := 17) B d_Model_run_10 rfl (fun h10 => ?_) (fun h10 => ?_)
    · skip
      refine mv_aload_n (pc := 17) B d_Model_run_17 rfl 0 rfl ?_
      refine mv_getI (pc := 18) (ci := 11) (C := R_Model) (T := F_Model) (N := 16) B 11 rfl rfl (by decide) i_Model (B.2.2.2.1 _ k_2056) rfl d_Model_run_18 ?_
      refine mv_if_ne (pc := 21) (tgt := 38) B d_Model_run_21 rfl (fun h21 => ?_) (fun h21 => ?_)
      · skip
        refine mv_iconst (pc := 38) (v := 0) B d_Model_run_38 (by decide) ?_
        refine mv_putI (pc := 39) (ci := 11) (C := R_Model) (T := F_Model) (N := 16) B 2 rfl rfl (by decide) i_Model t_Model_ok n_Model (B.2.2.2.1 _ k_2047) rfl rfl rfl rfl d_Model_run_39 ?_
        refine mv_gen (fun S42 eS42 => ?_)
        have hF : QF 74 σ S42 := by rw [eS42]; exact QF.si Fx.rf (by decide)
        have hM := hM.qf hF hN
        first | have x42 : mv_i S42 70 2 = 0 := by rw [eS42, mv_si_s] | have x42 : mv_i S42 70 2 = 1 := by rw [eS42, mv_si_s] | have x42 : mv_i S42 70 2 = 2 := by rw [eS42, mv_si_s]
        first | have hft : mv_i S42 70 11 = 0 → ¬ mv_i S42 74 18 = -1 := fun z => absurd ((hF.sh hN).symm.trans z) h21 | have hft : mv_i S42 70 11 = 0 → ¬ mv_i S42 74 18 = -1 := fun _ z => absurd h31 (by rw [← hF.1 74 18 (by omega), z]; decide) | skip
        clear eS42
        refine mv_aload_n (pc := 42) B d_Model_run_42 rfl 0 rfl ?_
        refine mv_getI (pc := 43) (ci := 11) (C := R_Model) (T := F_Model) (N := 16) B 2 rfl rfl (by decide) i_Model (B.2.2.2.1 _ k_2047) rfl d_Model_run_43 ?_
        refine mv_if_le (pc := 46) (tgt := 51) B d_Model_run_46 rfl (fun h46 => ?_) (fun h46 => ?_)
        · skip
          have lp : ∀ (nn : Nat) (τ : mv_H) (k9 : Int32) (hFt : QF 74 S42 τ) (q0 : 0 ≤ k9.toInt), (n9.toInt - k9.toInt).toNat < nn → mv_V p l e ({ frames := 2019, cells := 0, slots := 0, locals := 49293 }) s m ([.ref (al 70), .int n9] : List Value).toArray below meth c (mg dA D al ext) 3 0 0 (mv_Q (mg dA D al ext) below s 0 0 (mv_Ri (fun v σ1 => QF 74 σ σ1))) τ 58 [(2, .int k9), (0, .ref (al 70)), (1, .int n9)] [] := by
            intro nn
            induction nn with
            | zero => intro τ k9 hFt q0 hm; exact absurd hm (Nat.not_lt_zero _)
            | succ nn ih =>
              intro τ k9 hFt q0 hm
              have hMt := hM.qf hFt hN
              have hftt : mv_i τ 70 11 = 0 → ¬ mv_i τ 74 18 = -1 := by
                rw [hFt.sh hN, hFt.1 74 18 (by omega)]
                exact hft
              refine mv_iload_n (pc := 58) B d_Model_run_58 rfl 0 rfl ?_
              refine mv_iload_n (pc := 59) B d_Model_run_59 rfl 2 rfl ?_
              refine mv_icmp_ge (pc := 60) (tgt := 82) B d_Model_run_60 rfl (fun h60 => ?_) (fun h60 => ?_)
              · skip
                refine mv_iload_n (pc := 82) B d_Model_run_82 rfl 2 rfl ?_
                exact mv_iret (pc := 83) B hr rfl d_Model_run_83 (Nat.le_refl _) (Nat.le_refl _) ⟨_, rfl, hF.tr hFt⟩
              · skip
                rw [Int32.le_iff_toInt_le] at h60
                have w2 : (k9 + 1).toInt = k9.toInt + 1 := i32_inc (by have := i32_rng n9; omega)
                refine mv_aload_n (pc := 63) B d_Model_run_63 rfl 1 rfl ?_
                refine mv_callVv (pc := 64) (n := 0) (ci := 11) (C := R_Model) B (mK_ok sk sv) hNs rfl rfl (c_Model_one_x l hi _ hMt hftt) rfl (ma_goodc kc_Model_one) (B.2.2.2.1 _ k_2562) (B.2.2.2.1 _ k_2564) (B.2.2.2.1 _ ks_141) (B.2.2.2.1 _ k_12) ⟨by decide +kernel, by decide +kernel, by decide +kernel⟩ rfl d_Model_run_64 rfl (Nat.le_of_ble_eq_true rfl) ⟨by decide, by decide⟩ ⟨by decide, by decide⟩ ⟨by decide, by decide⟩ (mv_noH hno _) (fun σ64 h64 => ?_)
                have hFt := hFt.tr h64
                refine mv_aload_n (pc := 67) B d_Model_run_67 rfl 1 rfl ?_
                refine mv_getI (pc := 68) (ci := 11) (C := R_Model) (T := F_Model) (N := 16) B 14 rfl rfl (by decide) i_Model (B.2.2.2.1 _ k_2059) rfl d_Model_run_68 ?_
                refine mv_if_eq (pc := 71) (tgt := 76) B d_Model_run_71 rfl (fun h71 => ?_) (fun h71 => ?_)
                · skip
                  refine mv_iinc (pc := 76) (j := 0) (v := 1) B d_Model_run_76 rfl (by decide) (by decide) rfl ?_
                  refine mv_goto (pc := 79) (tgt := 58) B d_Model_run_79 rfl ?_
                  refine mv_lpick [0, 1, 2] rfl ?_
                  exact ih _ _ hFt (by omega) (by omega)
                · skip
                  refine mv_iload_n (pc := 74) B d_Model_run_74 rfl 0 rfl ?_
                  exact mv_iret (pc := 75) B hr rfl d_Model_run_75 (Nat.le_refl _) (Nat.le_refl _) ⟨_, rfl, hF.tr hFt⟩
          refine mv_aload_n (pc := 51) B d_Model_run_51 rfl 0 rfl ?_
          refine mv_iconst (pc := 52) (v := 0) B d_Model_run_52 (by decide) ?_
          refine mv_putI (pc := 53) (ci := 11) (C := R_Model) (T := F_Model) (N := 16) B 14 rfl rfl (by decide) i_Model t_Model_ok n_Model (B.2.2.2.1 _ k_2059) rfl rfl rfl rfl d_Model_run_53 ?_
          refine mv_iconst (pc := 56) (v := 0) B d_Model_run_56 (by decide) ?_
          refine mv_istore_n (pc := 57) B d_Model_run_57 rfl (by decide) rfl ?_
          refine mv_lpick [0, 1, 2] rfl ?_
          exact lp _ _ _ (QF.si Fx.rf (by decide)) (by decide) (Nat.lt_succ_self _)
        · skip
          exact absurd (by rw [x42]; decide) h46
      · skip
        refine mv_aload_n (pc := 24) B d_Model_run_24 rfl 0 rfl ?_
        refine mv_getR (pc := 25) (ci := 11) (C := R_Model) (T := F_Model) (N := 16) B 9 rfl rfl (by decide) i_Model (B.2.2.2.1 _ k_2054) rfl hM.2.1 d_Model_run_25 ?_
        refine mv_getI (pc := 28) (ci := 12) (C := R_Book) (T := F_Book) (N := 65) B 18 rfl rfl (by decide) i_Book (B.2.2.2.1 _ k_1863) rfl d_Model_run_28 ?_
        refine mv_if_ge (pc := 31) (tgt := 38) B d_Model_run_31 rfl (fun h31 => ?_) (fun h31 => ?_)
        · skip
          refine mv_iconst (pc := 38) (v := 0) B d_Model_run_38 (by decide) ?_
          refine mv_putI (pc := 39) (ci := 11) (C := R_Model) (T := F_Model) (N := 16) B 2 rfl rfl (by decide) i_Model t_Model_ok n_Model (B.2.2.2.1 _ k_2047) rfl rfl rfl rfl d_Model_run_39 ?_
          refine mv_gen (fun S42 eS42 => ?_)
          have hF : QF 74 σ S42 := by rw [eS42]; exact QF.si Fx.rf (by decide)
          have hM := hM.qf hF hN
          first | have x42 : mv_i S42 70 2 = 0 := by rw [eS42, mv_si_s] | have x42 : mv_i S42 70 2 = 1 := by rw [eS42, mv_si_s] | have x42 : mv_i S42 70 2 = 2 := by rw [eS42, mv_si_s]
          first | have hft : mv_i S42 70 11 = 0 → ¬ mv_i S42 74 18 = -1 := fun z => absurd ((hF.sh hN).symm.trans z) h21 | have hft : mv_i S42 70 11 = 0 → ¬ mv_i S42 74 18 = -1 := fun _ z => absurd h31 (by rw [← hF.1 74 18 (by omega), z]; decide) | skip
          clear eS42
          refine mv_aload_n (pc := 42) B d_Model_run_42 rfl 0 rfl ?_
          refine mv_getI (pc := 43) (ci := 11) (C := R_Model) (T := F_Model) (N := 16) B 2 rfl rfl (by decide) i_Model (B.2.2.2.1 _ k_2047) rfl d_Model_run_43 ?_
          refine mv_if_le (pc := 46) (tgt := 51) B d_Model_run_46 rfl (fun h46 => ?_) (fun h46 => ?_)
          · skip
            have lp : ∀ (nn : Nat) (τ : mv_H) (k9 : Int32) (hFt : QF 74 S42 τ) (q0 : 0 ≤ k9.toInt), (n9.toInt - k9.toInt).toNat < nn → mv_V p l e ({ frames := 2019, cells := 0, slots := 0, locals := 49293 }) s m ([.ref (al 70), .int n9] : List Value).toArray below meth c (mg dA D al ext) 3 0 0 (mv_Q (mg dA D al ext) below s 0 0 (mv_Ri (fun v σ1 => QF 74 σ σ1))) τ 58 [(2, .int k9), (0, .ref (al 70)), (1, .int n9)] [] := by
              intro nn
              induction nn with
              | zero => intro τ k9 hFt q0 hm; exact absurd hm (Nat.not_lt_zero _)
              | succ nn ih =>
                intro τ k9 hFt q0 hm
                have hMt := hM.qf hFt hN
                have hftt : mv_i τ 70 11 = 0 → ¬ mv_i τ 74 18 = -1 := by
                  rw [hFt.sh hN, hFt.1 74 18 (by omega)]
                  exact hft
                refine mv_iload_n (pc := 58) B d_Model_run_58 rfl 0 rfl ?_
                refine mv_iload_n (pc := 59) B d_Model_run_59 rfl 2 rfl ?_
                refine mv_icmp_ge (pc := 60) (tgt := 82) B d_Model_run_60 rfl (fun h60 => ?_) (fun h60 => ?_)
                · skip
                  refine mv_iload_n (pc := 82) B d_Model_run_82 rfl 2 rfl ?_
                  exact mv_iret (pc := 83) B hr rfl d_Model_run_83 (Nat.le_refl _) (Nat.le_refl _) ⟨_, rfl, hF.tr hFt⟩
                · skip
                  rw [Int32.le_iff_toInt_le] at h60
                  have w2 : (k9 + 1).toInt = k9.toInt + 1 := i32_inc (by have := i32_rng n9; omega)
                  refine mv_aload_n (pc := 63) B d_Model_run_63 rfl 1 rfl ?_
                  refine mv_callVv (pc := 64) (n := 0) (ci := 11) (C := R_Model) B (mK_ok sk sv) hNs rfl rfl (c_Model_one_x l hi _ hMt hftt) rfl (ma_goodc kc_Model_one) (B.2.2.2.1 _ k_2562) (B.2.2.2.1 _ k_2564) (B.2.2.2.1 _ ks_141) (B.2.2.2.1 _ k_12) ⟨by decide +kernel, by decide +kernel, by decide +kernel⟩ rfl d_Model_run_64 rfl (Nat.le_of_ble_eq_true rfl) ⟨by decide, by decide⟩ ⟨by decide, by decide⟩ ⟨by decide, by decide⟩ (mv_noH hno _) (fun σ64 h64 => ?_)
                  have hFt := hFt.tr h64
                  refine mv_aload_n (pc := 67) B d_Model_run_67 rfl 1 rfl ?_
                  refine mv_getI (pc := 68) (ci := 11) (C := R_Model) (T := F_Model) (N := 16) B 14 rfl rfl (by decide) i_Model (B.2.2.2.1 _ k_2059) rfl d_Model_run_68 ?_
                  refine mv_if_eq (pc := 71) (tgt := 76) B d_Model_run_71 rfl (fun h71 => ?_) (fun h71 => ?_)
                  · skip
                    refine mv_iinc (pc := 76) (j := 0) (v := 1) B d_Model_run_76 rfl (by decide) (by decide) rfl ?_
                    refine mv_goto (pc := 79) (tgt := 58) B d_Model_run_79 rfl ?_
                    refine mv_lpick [0, 1, 2] rfl ?_
                    exact ih _ _ hFt (by omega) (by omega)
                  · skip
                    refine mv_iload_n (pc := 74) B d_Model_run_74 rfl 0 rfl ?_
                    exact mv_iret (pc := 75) B hr rfl d_Model_run_75 (Nat.le_refl _) (Nat.le_refl _) ⟨_, rfl, hF.tr hFt⟩
            refine mv_aload_n (pc := 51) B d_Model_run_51 rfl 0 rfl ?_
            refine mv_iconst (pc := 52) (v := 0) B d_Model_run_52 (by decide) ?_
            refine mv_putI (pc := 53) (ci := 11) (C := R_Model) (T := F_Model) (N := 16) B 14 rfl rfl (by decide) i_Model t_Model_ok n_Model (B.2.2.2.1 _ k_2059) rfl rfl rfl rfl d_Model_run_53 ?_
            refine mv_iconst (pc := 56) (v := 0) B d_Model_run_56 (by decide) ?_
            refine mv_istore_n (pc := 57) B d_Model_run_57 rfl (by decide) rfl ?_
            refine mv_lpick [0, 1, 2] rfl ?_
            exact lp _ _ _ (QF.si Fx.rf (by decide)) (by decide) (Nat.lt_succ_self _)
          · skip
            exact absurd (by rw [x42]; decide) h46
        · skip
          refine mv_iconst (pc := 34) (v := 2) B d_Model_run_34 (by decide) ?_
          refine mv_goto (pc := 35) (tgt := 39) B d_Model_run_35 rfl ?_
          refine mv_putI (pc := 39) (ci := 11) (C := R_Model) (T := F_Model) (N := 16) B 2 rfl rfl (by decide) i_Model t_Model_ok n_Model (B.2.2.2.1 _ k_2047) rfl rfl rfl rfl d_Model_run_39 ?_
          refine mv_gen (fun S42 eS42 => ?_)
          have hF : QF 74 σ S42 := by rw [eS42]; exact QF.si Fx.rf (by decide)
          have hM := hM.qf hF hN
          first | have x42 : mv_i S42 70 2 = 0 := by rw [eS42, mv_si_s] | have x42 : mv_i S42 70 2 = 1 := by rw [eS42, mv_si_s] | have x42 : mv_i S42 70 2 = 2 := by rw [eS42, mv_si_s]
          first | have hft : mv_i S42 70 11 = 0 → ¬ mv_i S42 74 18 = -1 := fun z => absurd ((hF.sh hN).symm.trans z) h21 | have hft : mv_i S42 70 11 = 0 → ¬ mv_i S42 74 18 = -1 := fun _ z => absurd h31 (by rw [← hF.1 74 18 (by omega), z]; decide) | skip
          clear eS42
          refine mv_aload_n (pc := 42) B d_Model_run_42 rfl 0 rfl ?_
          refine mv_getI (pc := 43) (ci := 11) (C := R_Model) (T := F_Model) (N := 16) B 2 rfl rfl (by decide) i_Model (B.2.2.2.1 _ k_2047) rfl d_Model_run_43 ?_
          refine mv_if_le (pc := 46) (tgt := 51) B d_Model_run_46 rfl (fun h46 => ?_) (fun h46 => ?_)
          · skip
            exact absurd h46 (by rw [x42]; decide)
          · skip
            refine mv_iconst (pc := 49) (v := 0) B d_Model_run_49 (by decide) ?_
            exact mv_iret (pc := 50) B hr rfl d_Model_run_50 (Nat.le_refl _) (Nat.le_refl _) ⟨_, rfl, hF⟩
    · skip
      refine mv_iconst (pc := 13) (v := 1) B d_Model_run_13 (by decide) ?_
      refine mv_goto (pc := 14) (tgt := 39) B d_Model_run_14 rfl ?_
      refine mv_putI (pc := 39) (ci := 11) (C := R_Model) (T := F_Model) (N := 16) B 2 rfl rfl (by decide) i_Model t_Model_ok n_Model (B.2.2.2.1 _ k_2047) rfl rfl rfl rfl d_Model_run_39 ?_
      refine mv_gen (fun S42 eS42 => ?_)
      have hF : QF 74 σ S42 := by rw [eS42]; exact QF.si Fx.rf (by decide)
      have hM := hM.qf hF hN
      first | have x42 : mv_i S42 70 2 = 0 := by rw [eS42, mv_si_s] | have x42 : mv_i S42 70 2 = 1 := by rw [eS42, mv_si_s] | have x42 : mv_i S42 70 2 = 2 := by rw [eS42, mv_si_s]
      first | have hft : mv_i S42 70 11 = 0 → ¬ mv_i S42 74 18 = -1 := fun z => absurd ((hF.sh hN).symm.trans z) h21 | have hft : mv_i S42 70 11 = 0 → ¬ mv_i S42 74 18 = -1 := fun _ z => absurd h31 (by rw [← hF.1 74 18 (by omega), z]; decide) | skip
      clear eS42
      refine mv_aload_n (pc := 42) B d_Model_run_42 rfl 0 rfl ?_
      refine mv_getI (pc := 43) (ci := 11) (C := R_Model) (T := F_Model) (N := 16) B 2 rfl rfl (by decide) i_Model (B.2.2.2.1 _ k_2047) rfl d_Model_run_43 ?_
      refine mv_if_le (pc := 46) (tgt := 51) B d_Model_run_46 rfl (fun h46 => ?_) (fun h46 => ?_)
      · skip
        exact absurd h46 (by rw [x42]; decide)
      · skip
        refine mv_iconst (pc := 49) (v := 0) B d_Model_run_49 (by decide) ?_
        exact mv_iret (pc := 50) B hr rfl d_Model_run_50 (Nat.le_refl _) (Nat.le_refl _) ⟨_, rfl, hF⟩
set_option maxHeartbeats 4000000 in
set_option maxRecDepth 100000 in
theorem c_Model_run_y (l : Launch) {dA : FieldType → ClassId} {D : va_G} {al : Nat → Nat} {ext : mv_Sh} {sk sv : Nat → Nat} (hi : mv_inj (mg dA D al ext)) (σ : mv_H) (hM : MI 108 74 σ) (n9 : Int32) : mv_C l y_Model_run (Cond.code y_Model_run b_Model_run 3 (Option.some Jvm.ClassFile.FieldType.int) :: ma) ({ frames := 2019, cells := 0, slots := 0, locals := 49293 }) (mg dA D al ext) (mK sk sv) [.ref (al 70), .int n9] σ (mv_Ri (fun v σ1 => QF 108 σ σ1)) := by
  refine mv_C.ofV (cc := b_Model_run) (nL := 3) (ret := (Option.some Jvm.ClassFile.FieldType.int)) (by decide +kernel) rfl hi (Nat.le_of_ble_eq_true rfl) ?_
  intro p e s m below meth c B hNs hr hnm hno
  have hN : 108 = 74 ∨ 108 = 108 := by decide
  refine mv_aload_n (pc := 0) B d_Model_run_0 rfl 0 rfl ?_
  refine mv_iload_n (pc := 1) B d_Model_run_1 rfl 1 rfl ?_
  refine mv_iconst (pc := 2) (v := 1) B d_Model_run_2 (by decide) ?_
  refine mv_icmp_lt (pc := 3) (tgt := 13) B d_Model_run_3 rfl (fun h3 => ?_) (fun h3 => ?_)
  · skip
    refine mv_iconst (pc := 13) (v := 1) B d_Model_run_13 (by decide) ?_
    refine mv_goto (pc := 14) (tgt := 39) B d_Model_run_14 rfl ?_
    refine mv_putI (pc := 39) (ci := 11) (C := R_Model) (T := F_Model) (N := 16) B 2 rfl rfl (by decide) i_Model t_Model_ok n_Model (B.2.2.2.1 _ k_2047) rfl rfl rfl rfl d_Model_run_39 ?_
    refine mv_gen (fun S42 eS42 => ?_)
    have hF : QF 108 σ S42 := by rw [eS42]; exact QF.si Fx.rf (by decide)
    have hM := hM.qf hF hN
    first | have x42 : mv_i S42 70 2 = 0 := by rw [eS42, mv_si_s] | have x42 : mv_i S42 70 2 = 1 := by rw [eS42, mv_si_s] | have x42 : mv_i S42 70 2 = 2 := by rw [eS42, mv_si_s]
    first | have hft : mv_i S42 70 11 = 0 → ¬ mv_i S42 108 18 = -1 := fun z => absurd ((hF.sh hN).symm.trans z) h21 | have hft : mv_i S42 70 11 = 0 → ¬ mv_i S42 108 18 = -1 := fun _ z => absurd h31 (by rw [← hF.1 108 18 (by omega), z]; decide) | skip
    clear eS42
    refine mv_aload_n (pc := 42) B d_Model_run_42 rfl 0 rfl ?_
    refine mv_getI (pc := 43) (ci := 11) (C := R_Model) (T := F_Model) (N := 16) B 2 rfl rfl (by decide) i_Model (B.2.2.2.1 _ k_2047) rfl d_Model_run_43 ?_
    refine mv_if_le (pc := 46) (tgt := 51) B d_Model_run_46 rfl (fun h46 => ?_) (fun h46 => ?_)
    · skip
      exact absurd h46 (by rw [x42]; decide)
    · skip
      refine mv_iconst (pc := 49) (v := 0) B d_Model_run_49 (by decide) ?_
      exact mv_iret (pc := 50) B hr rfl d_Model_run_50 (Nat.le_refl _) (Nat.le_refl _) ⟨_, rfl, hF⟩
  · skip
    refine mv_iload_n (pc := 6) B d_Model_run_6 rfl 1 rfl ?_
    refine mv_sipush (pc := 7) (v := 500) B d_Model_run_7 (by decide) ?_
    refine mv_icmp_le (pc := 10) (tgt := 17) B d_Model_run_10 rfl (fun h10 => ?_) (fun h10 => ?_)
    · skip
      refine mv_aload_n (pc := 17) B d_Model_run_17 rfl 0 rfl ?_
      refine mv_getI (pc := 18) (ci := 11) (C := R_Model) (T := F_Model) (N := 16) B 11 rfl rfl (by decide) i_Model (B.2.2.2.1 _ k_2056) rfl d_Model_run_18 ?_
      refine mv_if_ne (pc := 21) (tgt := 38) B d_Model_run_21 rfl (fun h21 => ?_) (fun h21 => ?_)
      · skip
        refine mv_iconst (pc := 38) (v := 0) B d_Model_run_38 (by decide) ?_
        refine mv_putI (pc := 39) (ci := 11) (C := R_Model) (T := F_Model) (N := 16) B 2 rfl rfl (by decide) i_Model t_Model_ok n_Model (B.2.2.2.1 _ k_2047) rfl rfl rfl rfl d_Model_run_39 ?_
        refine mv_gen (fun S42 eS42 => ?_)
        have hF : QF 108 σ S42 := by rw [eS42]; exact QF.si Fx.rf (by decide)
        have hM := hM.qf hF hN
        first | have x42 : mv_i S42 70 2 = 0 := by rw [eS42, mv_si_s] | have x42 : mv_i S42 70 2 = 1 := by rw [eS42, mv_si_s] | have x42 : mv_i S42 70 2 = 2 := by rw [eS42, mv_si_s]
        first | have hft : mv_i S42 70 11 = 0 → ¬ mv_i S42 108 18 = -1 := fun z => absurd ((hF.sh hN).symm.trans z) h21 | have hft : mv_i S42 70 11 = 0 → ¬ mv_i S42 108 18 = -1 := fun _ z => absurd h31 (by rw [← hF.1 108 18 (by omega), z]; decide) | skip
        clear eS42
        refine mv_aload_n (pc := 42) B d_Model_run_42 rfl 0 rfl ?_
        refine mv_getI (pc := 43) (ci := 11) (C := R_Model) (T := F_Model) (N := 16) B 2 rfl rfl (by decide) i_Model (B.2.2.2.1 _ k_2047) rfl d_Model_run_43 ?_
        refine mv_if_le (pc := 46) (tgt := 51) B d_Model_run_46 rfl (fun h46 => ?_) (fun h46 => ?_)
        · skip
          have lp : ∀ (nn : Nat) (τ : mv_H) (k9 : Int32) (hFt : QF 108 S42 τ) (q0 : 0 ≤ k9.toInt), (n9.toInt - k9.toInt).toNat < nn → mv_V p l e ({ frames := 2019, cells := 0, slots := 0, locals := 49293 }) s m ([.ref (al 70), .int n9] : List Value).toArray below meth c (mg dA D al ext) 3 0 0 (mv_Q (mg dA D al ext) below s 0 0 (mv_Ri (fun v σ1 => QF 108 σ σ1))) τ 58 [(2, .int k9), (0, .ref (al 70)), (1, .int n9)] [] := by
            intro nn
            induction nn with
            | zero => intro τ k9 hFt q0 hm; exact absurd hm (Nat.not_lt_zero _)
            | succ nn ih =>
              intro τ k9 hFt q0 hm
              have hMt := hM.qf hFt hN
              have hftt : mv_i τ 70 11 = 0 → ¬ mv_i τ 108 18 = -1 := by
                rw [hFt.sh hN, hFt.1 108 18 (by omega)]
                exact hft
              refine mv_iload_n (pc := 58) B d_Model_run_58 rfl 0 rfl ?_
              refine mv_iload_n (pc := 59) B d_Model_run_59 rfl 2 rfl ?_
              refine mv_icmp_ge (pc := 60) (tgt := 82) B d_Model_run_60 rfl (fun h60 => ?_) (fun h60 => ?_)
              · skip
                refine mv_iload_n (pc := 82) B d_Model_run_82 rfl 2 rfl ?_
                exact mv_iret (pc := 83) B hr rfl d_Model_run_83 (Nat.le_refl _) (Nat.le_refl _) ⟨_, rfl, hF.tr hFt⟩
              · skip
                rw [Int32.le_iff_toInt_le] at h60
                have w2 : (k9 + 1).toInt = k9.toInt + 1 := i32_inc (by have := i32_rng n9; omega)
                refine mv_aload_n (pc := 63) B d_Model_run_63 rfl 1 rfl ?_
                refine mv_callVv (pc := 64) (n := 0) (ci := 11) (C := R_Model) B (mK_ok sk sv) hNs rfl rfl (c_Model_one_y l hi _ hMt hftt) rfl (ma_goodc kc_Model_one) (B.2.2.2.1 _ k_2562) (B.2.2.2.1 _ k_2564) (B.2.2.2.1 _ ks_141) (B.2.2.2.1 _ k_12) ⟨by decide +kernel, by decide +kernel, by decide +kernel⟩ rfl d_Model_run_64 rfl (Nat.le_of_ble_eq_true rfl) ⟨by decide, by decide⟩ ⟨by decide, by decide⟩ ⟨by decide, by decide⟩ (mv_noH hno _) (fun σ64 h64 => ?_)
                have hFt := hFt.tr h64
                refine mv_aload_n (pc := 67) B d_Model_run_67 rfl 1 rfl ?_
                refine mv_getI (pc := 68) (ci := 11) (C := R_Model) (T := F_Model) (N := 16) B 14 rfl rfl (by decide) i_Model (B.2.2.2.1 _ k_2059) rfl d_Model_run_68 ?_
                refine mv_if_eq (pc := 71) (tgt := 76) B d_Model_run_71 rfl (fun h71 => ?_) (fun h71 => ?_)
                · skip
                  refine mv_iinc (pc := 76) (j := 0) (v := 1) B d_Model_run_76 rfl (by decide) (by decide) rfl ?_
                  refine mv_goto (pc := 79) (tgt := 58) B d_Model_run_79 rfl ?_
                  refine mv_lpick [0, 1, 2] rfl ?_
                  exact ih _ _ hFt (by omega) (by omega)
                · skip
                  refine mv_iload_n (pc := 74) B d_Model_run_74 rfl 0 rfl ?_
                  exact mv_iret (pc := 75) B hr rfl d_Model_run_75 (Nat.le_refl _) (Nat.le_refl _) ⟨_, rfl, hF.tr hFt⟩
          refine mv_aload_n (pc := 51) B d_Model_run_51 rfl 0 rfl ?_
          refine mv_iconst (pc := 52) (v := 0) B d_Model_run_52 (by decide) ?_
          refine mv_putI (pc := 53) (ci := 11) (C := R_Model) (T := F_Model) (N := 16) B 14 rfl rfl (by decide) i_Model t_Model_ok n_Model (B.2.2.2.1 _ k_2059) rfl rfl rfl rfl d_Model_run_53 ?_
          refine mv_iconst (pc := 56) (v := 0) B d_Model_run_56 (by decide) ?_
          refine mv_istore_n (pc := 57) B d_Model_run_57 rfl (by decide) rfl ?_
          refine mv_lpick [0, 1, 2] rfl ?_
          exact lp _ _ _ (QF.si Fx.rf (by decide)) (by decide) (Nat.lt_succ_self _)
        · skip
          exact absurd (by rw [x42]; decide) h46
      · skip
        refine mv_aload_n (pc := 24) B d_Model_run_24 rfl 0 rfl ?_
        refine mv_getR (pc := 25) (ci := 11) (C := R_Model) (T := F_Model) (N := 16) B 9 rfl rfl (by decide) i_Model (B.2.2.2.1 _ k_2054) rfl hM.2.1 d_Model_run_25 ?_
        refine mv_getI (pc := 28) (ci := 12) (C := R_Book) (T := F_Book) (N := 65) B 18 rfl rfl (by decide) i_Book (B.2.2.2.1 _ k_1863) rfl d_Model_run_28 ?_
        refine mv_if_ge (pc := 31) (tgt := 38) B d_Model_run_31 rfl (fun h31 => ?_) (fun h31 => ?_)
        · skip
          refine mv_iconst (pc := 38) (v := 0) B d_Model_run_38 (by decide) ?_
          refine mv_putI (pc := 39) (ci := 11) (C := R_Model) (T := F_Model) (N := 16) B 2 rfl rfl (by decide) i_Model t_Model_ok n_Model (B.2.2.2.1 _ k_2047) rfl rfl rfl rfl d_Model_run_39 ?_
          refine mv_gen (fun S42 eS42 => ?_)
          have hF : QF 108 σ S42 := by rw [eS42]; exact QF.si Fx.rf (by decide)
          have hM := hM.qf hF hN
          first | have x42 : mv_i S42 70 2 = 0 := by rw [eS42, mv_si_s] | have x42 : mv_i S42 70 2 = 1 := by rw [eS42, mv_si_s] | have x42 : mv_i S42 70 2 = 2 := by rw [eS42, mv_si_s]
          first | have hft : mv_i S42 70 11 = 0 → ¬ mv_i S42 108 18 = -1 := fun z => absurd ((hF.sh hN).symm.trans z) h21 | have hft : mv_i S42 70 11 = 0 → ¬ mv_i S42 108 18 = -1 := fun _ z => absurd h31 (by rw [← hF.1 108 18 (by omega), z]; decide) | skip
          clear eS42
          refine mv_aload_n (pc := 42) B d_Model_run_42 rfl 0 rfl ?_
          refine mv_getI (pc := 43) (ci := 11) (C := R_Model) (T := F_Model) (N := 16) B 2 rfl rfl (by decide) i_Model (B.2.2.2.1 _ k_2047) rfl d_Model_run_43 ?_
          refine mv_if_le (pc := 46) (tgt := 51) B d_Model_run_46 rfl (fun h46 => ?_) (fun h46 => ?_)
          · skip
            have lp : ∀ (nn : Nat) (τ : mv_H) (k9 : Int32) (hFt : QF 108 S42 τ) (q0 : 0 ≤ k9.toInt), (n9.toInt - k9.toInt).toNat < nn → mv_V p l e ({ frames := 2019, cells := 0, slots := 0, locals := 49293 }) s m ([.ref (al 70), .int n9] : List Value).toArray below meth c (mg dA D al ext) 3 0 0 (mv_Q (mg dA D al ext) below s 0 0 (mv_Ri (fun v σ1 => QF 108 σ σ1))) τ 58 [(2, .int k9), (0, .ref (al 70)), (1, .int n9)] [] := by
              intro nn
              induction nn with
              | zero => intro τ k9 hFt q0 hm; exact absurd hm (Nat.not_lt_zero _)
              | succ nn ih =>
                intro τ k9 hFt q0 hm
                have hMt := hM.qf hFt hN
                have hftt : mv_i τ 70 11 = 0 → ¬ mv_i τ 108 18 = -1 := by
                  rw [hFt.sh hN, hFt.1 108 18 (by omega)]
                  exact hft
                refine mv_iload_n (pc := 58) B d_Model_run_58 rfl 0 rfl ?_
                refine mv_iload_n (pc := 59) B d_Model_run_59 rfl 2 rfl ?_
                refine mv_icmp_ge (pc := 60) (tgt := 82) B d_Model_run_60 rfl (fun h60 => ?_) (fun h60 => ?_)
                · skip
                  refine mv_iload_n (pc := 82) B d_Model_run_82 rfl 2 rfl ?_
                  exact mv_iret (pc := 83) B hr rfl d_Model_run_83 (Nat.le_refl _) (Nat.le_refl _) ⟨_, rfl, hF.tr hFt⟩
                · skip
                  rw [Int32.le_iff_toInt_le] at h60
                  have w2 : (k9 + 1).toInt = k9.toInt + 1 := i32_inc (by have := i32_rng n9; omega)
                  refine mv_aload_n (pc := 63) B d_Model_run_63 rfl 1 rfl ?_
                  refine mv_callVv (pc := 64) (n := 0) (ci := 11) (C := R_Model) B (mK_ok sk sv) hNs rfl rfl (c_Model_one_y l hi _ hMt hftt) rfl (ma_goodc kc_Model_one) (B.2.2.2.1 _ k_2562) (B.2.2.2.1 _ k_2564) (B.2.2.2.1 _ ks_141) (B.2.2.2.1 _ k_12) ⟨by decide +kernel, by decide +kernel, by decide +kernel⟩ rfl d_Model_run_64 rfl (Nat.le_of_ble_eq_true rfl) ⟨by decide, by decide⟩ ⟨by decide, by decide⟩ ⟨by decide, by decide⟩ (mv_noH hno _) (fun σ64 h64 => ?_)
                  have hFt := hFt.tr h64
                  refine mv_aload_n (pc := 67) B d_Model_run_67 rfl 1 rfl ?_
                  refine mv_getI (pc := 68) (ci := 11) (C := R_Model) (T := F_Model) (N := 16) B 14 rfl rfl (by decide) i_Model (B.2.2.2.1 _ k_2059) rfl d_Model_run_68 ?_
                  refine mv_if_eq (pc := 71) (tgt := 76) B d_Model_run_71 rfl (fun h71 => ?_) (fun h71 => ?_)
                  · skip
                    refine mv_iinc (pc := 76) (j := 0) (v := 1) B d_Model_run_76 rfl (by decide) (by decide) rfl ?_
                    refine mv_goto (pc := 79) (tgt := 58) B d_Model_run_79 rfl ?_
                    refine mv_lpick [0, 1, 2] rfl ?_
                    exact ih _ _ hFt (by omega) (by omega)
                  · skip
                    refine mv_iload_n (pc := 74) B d_Model_run_74 rfl 0 rfl ?_
                    exact mv_iret (pc := 75) B hr rfl d_Model_run_75 (Nat.le_refl _) (Nat.le_refl _) ⟨_, rfl, hF.tr hFt⟩
            refine mv_aload_n (pc := 51) B d_Model_run_51 rfl 0 rfl ?_
            refine mv_iconst (pc := 52) (v := 0) B d_Model_run_52 (by decide) ?_
            refine mv_putI (pc := 53) (ci := 11) (C := R_Model) (T := F_Model) (N := 16) B 14 rfl rfl (by decide) i_Model t_Model_ok n_Model (B.2.2.2.1 _ k_2059) rfl rfl rfl rfl d_Model_run_53 ?_
            refine mv_iconst (pc := 56) (v := 0) B d_Model_run_56 (by decide) ?_
            refine mv_istore_n (pc := 57) B d_Model_run_57 rfl (by decide) rfl ?_
            refine mv_lpick [0, 1, 2] rfl ?_
            exact lp _ _ _ (QF.si Fx.rf (by decide)) (by decide) (Nat.lt_succ_self _)
          · skip
            exact absurd (by rw [x42]; decide) h46
        · skip
          refine mv_iconst (pc := 34) (v := 2) B d_Model_run_34 (by decide) ?_
          refine mv_goto (pc := 35) (tgt := 39) B d_Model_run_35 rfl ?_
          refine mv_putI (pc := 39) (ci := 11) (C := R_Model) (T := F_Model) (N := 16) B 2 rfl rfl (by decide) i_Model t_Model_ok n_Model (B.2.2.2.1 _ k_2047) rfl rfl rfl rfl d_Model_run_39 ?_
          refine mv_gen (fun S42 eS42 => ?_)
          have hF : QF 108 σ S42 := by rw [eS42]; exact QF.si Fx.rf (by decide)
          have hM := hM.qf hF hN
          first | have x42 : mv_i S42 70 2 = 0 := by rw [eS42, mv_si_s] | have x42 : mv_i S42 70 2 = 1 := by rw [eS42, mv_si_s] | have x42 : mv_i S42 70 2 = 2 := by rw [eS42, mv_si_s]
          first | have hft : mv_i S42 70 11 = 0 → ¬ mv_i S42 108 18 = -1 := fun z => absurd ((hF.sh hN).symm.trans z) h21 | have hft : mv_i S42 70 11 = 0 → ¬ mv_i S42 108 18 = -1 := fun _ z => absurd h31 (by rw [← hF.1 108 18 (by omega), z]; decide) | skip
          clear eS42
          refine mv_aload_n (pc := 42) B d_Model_run_42 rfl 0 rfl ?_
          refine mv_getI (pc := 43) (ci := 11) (C := R_Model) (T := F_Model) (N := 16) B 2 rfl rfl (by decide) i_Model (B.2.2.2.1 _ k_2047) rfl d_Model_run_43 ?_
          refine mv_if_le (pc := 46) (tgt := 51) B d_Model_run_46 rfl (fun h46 => ?_) (fun h46 => ?_)
          · skip
            exact absurd h46 (by rw [x42]; decide)
          · skip
            refine mv_iconst (pc := 49) (v := 0) B d_Model_run_49 (by decide) ?_
            exact mv_iret (pc := 50) B hr rfl d_Model_run_50 (Nat.le_refl _) (Nat.le_refl _) ⟨_, rfl, hF⟩
    · skip
      refine mv_iconst (pc := 13) (v := 1) B d_Model_run_13 (by decide) ?_
      refine mv_goto (pc := 14) (tgt := 39) B d_Model_run_14 rfl ?_
      refine mv_putI (pc := 39) (ci := 11) (C := R_Model) (T := F_Model) (N := 16) B 2 rfl rfl (by decide) i_Model t_Model_ok n_Model (B.2.2.2.1 _ k_2047) rfl rfl rfl rfl d_Model_run_39 ?_
      refine mv_gen (fun S42 eS42 => ?_)
      have hF : QF 108 σ S42 := by rw [eS42]; exact QF.si Fx.rf (by decide)
      have hM := hM.qf hF hN
      first | have x42 : mv_i S42 70 2 = 0 := by rw [eS42, mv_si_s] | have x42 : mv_i S42 70 2 = 1 := by rw [eS42, mv_si_s] | have x42 : mv_i S42 70 2 = 2 := by rw [eS42, mv_si_s]
      first | have hft : mv_i S42 70 11 = 0 → ¬ mv_i S42 108 18 = -1 := fun z => absurd ((hF.sh hN).symm.trans z) h21 | have hft : mv_i S42 70 11 = 0 → ¬ mv_i S42 108 18 = -1 := fun _ z => absurd h31 (by rw [← hF.1 108 18 (by omega), z]; decide) | skip
      clear eS42
      refine mv_aload_n (pc := 42) B d_Model_run_42 rfl 0 rfl ?_
      refine mv_getI (pc := 43) (ci := 11) (C := R_Model) (T := F_Model) (N := 16) B 2 rfl rfl (by decide) i_Model (B.2.2.2.1 _ k_2047) rfl d_Model_run_43 ?_
      refine mv_if_le (pc := 46) (tgt := 51) B d_Model_run_46 rfl (fun h46 => ?_) (fun h46 => ?_)
      · skip
        exact absurd h46 (by rw [x42]; decide)
      · skip
        refine mv_iconst (pc := 49) (v := 0) B d_Model_run_49 (by decide) ?_
        exact mv_iret (pc := 50) B hr rfl d_Model_run_50 (Nat.le_refl _) (Nat.le_refl _) ⟨_, rfl, hF⟩
def y_Model_thing : MethodName := ⟨"MachineLoomModel", "thing", "(II)I"⟩
abbrev b_Model_thing : ByteArray := prog_14_method_39_code
theorem kc_Model_thing : Cond.code y_Model_thing b_Model_thing 3 (Option.some Jvm.ClassFile.FieldType.int) ∈ ma := ma_of (tb_11 _ (List.mem_of_getElem? (i := 181) rfl)) rfl
theorem k_2582 : (Jvm.Cond.methodLink "MachineLoomModel" (239 : Nat) ({ cls := "MachineLoomModel$Book", name := "widthOf", desc := "(I)I" } : Jvm.MethodName)) ∈ ma := ma_of (tb_11 _ (List.mem_of_getElem? (i := 182) rfl)) rfl
theorem k_2583 : (Jvm.Cond.instanceMethod ({ cls := "MachineLoomModel$Book", name := "widthOf", desc := "(I)I" } : Jvm.MethodName)) ∈ ma := ma_of (tb_11 _ (List.mem_of_getElem? (i := 183) rfl)) rfl
theorem k_2584 : (Jvm.Cond.selects "MachineLoomModel$Book" ({ cls := "MachineLoomModel$Book", name := "widthOf", desc := "(I)I" } : Jvm.MethodName) ({ cls := "MachineLoomModel$Book", name := "widthOf", desc := "(I)I" } : Jvm.MethodName)) ∈ ma := ma_of (tb_11 _ (List.mem_of_getElem? (i := 184) rfl)) rfl
theorem d_Model_thing_0 : decode b_Model_thing 0 = .ok (.aload_n 0, 1) := by decide +kernel
theorem d_Model_thing_1 : decode b_Model_thing 1 = .ok (.iload_n 2, 1) := by decide +kernel
theorem d_Model_thing_2 : decode b_Model_thing 2 = .ok (.ifCond .lt (8), 3) := by decide +kernel
theorem d_Model_thing_5 : decode b_Model_thing 5 = .ok (.iload_n 2, 1) := by decide +kernel
theorem d_Model_thing_6 : decode b_Model_thing 6 = .ok (.iconst 1, 1) := by decide +kernel
theorem d_Model_thing_7 : decode b_Model_thing 7 = .ok (.if_icmp .le (7), 3) := by decide +kernel
theorem d_Model_thing_10 : decode b_Model_thing 10 = .ok (.iconst 1, 1) := by decide +kernel
theorem d_Model_thing_11 : decode b_Model_thing 11 = .ok (.goto (17), 3) := by decide +kernel
theorem d_Model_thing_14 : decode b_Model_thing 14 = .ok (.aload_n 0, 1) := by decide +kernel
theorem d_Model_thing_15 : decode b_Model_thing 15 = .ok (.iload_n 1, 1) := by decide +kernel
theorem d_Model_thing_16 : decode b_Model_thing 16 = .ok (.iconst 0, 1) := by decide +kernel
theorem d_Model_thing_17 : decode b_Model_thing 17 = .ok (.invokevirtual 200, 3) := by decide +kernel
theorem d_Model_thing_20 : decode b_Model_thing 20 = .ok (.ifCond .ne (7), 3) := by decide +kernel
theorem d_Model_thing_23 : decode b_Model_thing 23 = .ok (.iconst 2, 1) := by decide +kernel
theorem d_Model_thing_24 : decode b_Model_thing 24 = .ok (.goto (4), 3) := by decide +kernel
theorem d_Model_thing_27 : decode b_Model_thing 27 = .ok (.iconst 0, 1) := by decide +kernel
theorem d_Model_thing_28 : decode b_Model_thing 28 = .ok (.putfield 38, 3) := by decide +kernel
theorem d_Model_thing_31 : decode b_Model_thing 31 = .ok (.aload_n 0, 1) := by decide +kernel
theorem d_Model_thing_32 : decode b_Model_thing 32 = .ok (.getfield 38, 3) := by decide +kernel
theorem d_Model_thing_35 : decode b_Model_thing 35 = .ok (.ifCond .le (5), 3) := by decide +kernel
theorem d_Model_thing_38 : decode b_Model_thing 38 = .ok (.iconst 0, 1) := by decide +kernel
theorem d_Model_thing_39 : decode b_Model_thing 39 = .ok (.ireturn, 1) := by decide +kernel
theorem d_Model_thing_40 : decode b_Model_thing 40 = .ok (.aload_n 0, 1) := by decide +kernel
theorem d_Model_thing_41 : decode b_Model_thing 41 = .ok (.getfield 162, 3) := by decide +kernel
theorem d_Model_thing_44 : decode b_Model_thing 44 = .ok (.ifCond .ne (27), 3) := by decide +kernel
theorem d_Model_thing_47 : decode b_Model_thing 47 = .ok (.iload_n 2, 1) := by decide +kernel
theorem d_Model_thing_48 : decode b_Model_thing 48 = .ok (.ifCond .ne (14), 3) := by decide +kernel
theorem d_Model_thing_51 : decode b_Model_thing 51 = .ok (.aload_n 0, 1) := by decide +kernel
theorem d_Model_thing_52 : decode b_Model_thing 52 = .ok (.getfield 31, 3) := by decide +kernel
theorem d_Model_thing_55 : decode b_Model_thing 55 = .ok (.iload_n 1, 1) := by decide +kernel
theorem d_Model_thing_56 : decode b_Model_thing 56 = .ok (.invokevirtual 239, 3) := by decide +kernel
theorem d_Model_thing_59 : decode b_Model_thing 59 = .ok (.goto (11), 3) := by decide +kernel
theorem d_Model_thing_62 : decode b_Model_thing 62 = .ok (.aload_n 0, 1) := by decide +kernel
theorem d_Model_thing_63 : decode b_Model_thing 63 = .ok (.getfield 31, 3) := by decide +kernel
theorem d_Model_thing_66 : decode b_Model_thing 66 = .ok (.iload_n 1, 1) := by decide +kernel
theorem d_Model_thing_67 : decode b_Model_thing 67 = .ok (.invokevirtual 197, 3) := by decide +kernel
theorem d_Model_thing_70 : decode b_Model_thing 70 = .ok (.ireturn, 1) := by decide +kernel
theorem d_Model_thing_71 : decode b_Model_thing 71 = .ok (.iload_n 2, 1) := by decide +kernel
theorem d_Model_thing_72 : decode b_Model_thing 72 = .ok (.ifCond .ne (18), 3) := by decide +kernel
theorem d_Model_thing_75 : decode b_Model_thing 75 = .ok (.iload_n 1, 1) := by decide +kernel
theorem d_Model_thing_76 : decode b_Model_thing 76 = .ok (.iconst 2, 1) := by decide +kernel
theorem d_Model_thing_77 : decode b_Model_thing 77 = .ok (.if_icmp .ne (8), 3) := by decide +kernel
theorem d_Model_thing_80 : decode b_Model_thing 80 = .ok (.bipush 8, 2) := by decide +kernel
theorem d_Model_thing_82 : decode b_Model_thing 82 = .ok (.goto (28), 3) := by decide +kernel
theorem d_Model_thing_85 : decode b_Model_thing 85 = .ok (.bipush 32, 2) := by decide +kernel
theorem d_Model_thing_87 : decode b_Model_thing 87 = .ok (.goto (23), 3) := by decide +kernel
theorem d_Model_thing_90 : decode b_Model_thing 90 = .ok (.iload_n 1, 1) := by decide +kernel
theorem d_Model_thing_91 : decode b_Model_thing 91 = .ok (.ifCond .ne (7), 3) := by decide +kernel
theorem d_Model_thing_94 : decode b_Model_thing 94 = .ok (.iconst 0, 1) := by decide +kernel
theorem d_Model_thing_95 : decode b_Model_thing 95 = .ok (.goto (15), 3) := by decide +kernel
theorem d_Model_thing_98 : decode b_Model_thing 98 = .ok (.iload_n 1, 1) := by decide +kernel
theorem d_Model_thing_99 : decode b_Model_thing 99 = .ok (.iconst 1, 1) := by decide +kernel
theorem d_Model_thing_100 : decode b_Model_thing 100 = .ok (.if_icmp .ne (8), 3) := by decide +kernel
theorem d_Model_thing_103 : decode b_Model_thing 103 = .ok (.bipush 32, 2) := by decide +kernel
theorem d_Model_thing_105 : decode b_Model_thing 105 = .ok (.goto (5), 3) := by decide +kernel
theorem d_Model_thing_108 : decode b_Model_thing 108 = .ok (.ldc 7, 2) := by decide +kernel
theorem d_Model_thing_110 : decode b_Model_thing 110 = .ok (.ireturn, 1) := by decide +kernel
set_option maxHeartbeats 4000000 in
set_option maxRecDepth 100000 in
theorem c_Model_thing_x (l : Launch) {dA : FieldType → ClassId} {D : va_G} {al : Nat → Nat} {ext : mv_Sh} {sk sv : Nat → Nat} (hi : mv_inj (mg dA D al ext)) (σ : mv_H) (hM : MI 74 108 σ) (t9 i9 : Int32) : mv_C l y_Model_thing (Cond.code y_Model_thing b_Model_thing 3 (Option.some Jvm.ClassFile.FieldType.int) :: ma) ({ frames := 2, cells := 0, slots := 0, locals := 44 }) (mg dA D al ext) (mK sk sv) [.ref (al 70), .int t9, .int i9] σ (mv_Ri (fun v σ1 => QF 74 σ σ1)) := by
  refine mv_C.ofV (cc := b_Model_thing) (nL := 3) (ret := (Option.some Jvm.ClassFile.FieldType.int)) (by decide +kernel) rfl hi (Nat.le_of_ble_eq_true rfl) ?_
  intro p e s m below meth c B hNs hr hnm hno
  have hN : 74 = 74 ∨ 74 = 108 := by decide
  refine mv_aload_n (pc := 0) B d_Model_thing_0 rfl 0 rfl ?_
  refine mv_iload_n (pc := 1) B d_Model_thing_1 rfl 2 rfl ?_
  refine mv_if_lt (pc := 2) (tgt := 10) B d_Model_thing_2 rfl (fun h2 => ?_) (fun h2 => ?_)
  · skip
    refine mv_iconst (pc := 10) (v := 1) B d_Model_thing_10 (by decide) ?_
    refine mv_goto (pc := 11) (tgt := 28) B d_Model_thing_11 rfl ?_
    refine mv_putI (pc := 28) (ci := 11) (C := R_Model) (T := F_Model) (N := 16) B 2 rfl rfl (by decide) i_Model t_Model_ok n_Model (B.2.2.2.1 _ k_2047) rfl rfl rfl rfl d_Model_thing_28 ?_
    refine mv_gen (fun S31 eS31 => ?_)
    have hF : QF 74 σ S31 := by rw [eS31]; exact QF.si Fx.rf (by decide)
    have hM := hM.qf hF hN
    first | have x31 : mv_i S31 70 2 = 0 := by rw [eS31, mv_si_s] | have x31 : mv_i S31 70 2 = 1 := by rw [eS31, mv_si_s] | have x31 : mv_i S31 70 2 = 2 := by rw [eS31, mv_si_s]
    try have hTP : TP9 74 S31 t9 0 := (z17.resolve_left h20).2.th eS31 hN
    clear eS31
    refine mv_aload_n (pc := 31) B d_Model_thing_31 rfl 0 rfl ?_
    refine mv_getI (pc := 32) (ci := 11) (C := R_Model) (T := F_Model) (N := 16) B 2 rfl rfl (by decide) i_Model (B.2.2.2.1 _ k_2047) rfl d_Model_thing_32 ?_
    refine mv_if_le (pc := 35) (tgt := 40) B d_Model_thing_35 rfl (fun h35 => ?_) (fun h35 => ?_)
    · skip
      exact absurd h35 (by rw [x31]; decide)
    · skip
      refine mv_iconst (pc := 38) (v := 0) B d_Model_thing_38 (by decide) ?_
      exact mv_iret (pc := 39) B hr rfl d_Model_thing_39 (Nat.le_refl _) (Nat.le_refl _) ⟨_, rfl, hF⟩
  · skip
    refine mv_iload_n (pc := 5) B d_Model_thing_5 rfl 2 rfl ?_
    refine mv_iconst (pc := 6) (v := 1) B d_Model_thing_6 (by decide) ?_
    refine mv_icmp_le (pc := 7) (tgt := 14) B d_Model_thing_7 rfl (fun h7 => ?_) (fun h7 => ?_)
    · skip
      refine mv_aload_n (pc := 14) B d_Model_thing_14 rfl 0 rfl ?_
      refine mv_iload_n (pc := 15) B d_Model_thing_15 rfl 1 rfl ?_
      refine mv_iconst (pc := 16) (v := 0) B d_Model_thing_16 (by decide) ?_
      refine mv_callVi (pc := 17) (n := 2) (ci := 11) (C := R_Model) B (mK_ok sk sv) hNs rfl rfl (c_Model_there_x l hi _ hM _ _) rfl (ma_goodc kc_Model_there) (B.2.2.2.1 _ k_2415) (B.2.2.2.1 _ k_2417) (B.2.2.2.1 _ ks_124) (B.2.2.2.1 _ k_12) ⟨by decide +kernel, by decide +kernel, by decide +kernel⟩ rfl d_Model_thing_17 rfl (Nat.le_of_ble_eq_true rfl) ⟨by decide, by decide⟩ ⟨by decide, by decide⟩ ⟨by decide, by decide⟩ (mv_noH hno _) (fun v17 σ17 h17 => ?_)
      obtain ⟨e17, z17⟩ := h17
      have e17 := e17.symm
      subst e17
      refine mv_if_ne (pc := 20) (tgt := 27) B d_Model_thing_20 rfl (fun h20 => ?_) (fun h20 => ?_)
      · skip
        refine mv_iconst (pc := 27) (v := 0) B d_Model_thing_27 (by decide) ?_
        refine mv_putI (pc := 28) (ci := 11) (C := R_Model) (T := F_Model) (N := 16) B 2 rfl rfl (by decide) i_Model t_Model_ok n_Model (B.2.2.2.1 _ k_2047) rfl rfl rfl rfl d_Model_thing_28 ?_
        refine mv_gen (fun S31 eS31 => ?_)
        have hF : QF 74 σ S31 := by rw [eS31]; exact QF.si Fx.rf (by decide)
        have hM := hM.qf hF hN
        first | have x31 : mv_i S31 70 2 = 0 := by rw [eS31, mv_si_s] | have x31 : mv_i S31 70 2 = 1 := by rw [eS31, mv_si_s] | have x31 : mv_i S31 70 2 = 2 := by rw [eS31, mv_si_s]
        try have hTP : TP9 74 S31 t9 0 := (z17.resolve_left h20).2.th eS31 hN
        clear eS31
        refine mv_aload_n (pc := 31) B d_Model_thing_31 rfl 0 rfl ?_
        refine mv_getI (pc := 32) (ci := 11) (C := R_Model) (T := F_Model) (N := 16) B 2 rfl rfl (by decide) i_Model (B.2.2.2.1 _ k_2047) rfl d_Model_thing_32 ?_
        refine mv_if_le (pc := 35) (tgt := 40) B d_Model_thing_35 rfl (fun h35 => ?_) (fun h35 => ?_)
        · skip
          refine mv_aload_n (pc := 40) B d_Model_thing_40 rfl 0 rfl ?_
          refine mv_getI (pc := 41) (ci := 11) (C := R_Model) (T := F_Model) (N := 16) B 11 rfl rfl (by decide) i_Model (B.2.2.2.1 _ k_2056) rfl d_Model_thing_41 ?_
          refine mv_if_ne (pc := 44) (tgt := 71) B d_Model_thing_44 rfl (fun h44 => ?_) (fun h44 => ?_)
          · skip
            refine mv_iload_n (pc := 71) B d_Model_thing_71 rfl 2 rfl ?_
            refine mv_if_ne (pc := 72) (tgt := 90) B d_Model_thing_72 rfl (fun h72 => ?_) (fun h72 => ?_)
            · skip
              refine mv_iload_n (pc := 90) B d_Model_thing_90 rfl 1 rfl ?_
              refine mv_if_ne (pc := 91) (tgt := 98) B d_Model_thing_91 rfl (fun h91 => ?_) (fun h91 => ?_)
              · skip
                refine mv_iload_n (pc := 98) B d_Model_thing_98 rfl 1 rfl ?_
                refine mv_iconst (pc := 99) (v := 1) B d_Model_thing_99 (by decide) ?_
                refine mv_icmp_ne (pc := 100) (tgt := 108) B d_Model_thing_100 rfl (fun h100 => ?_) (fun h100 => ?_)
                · skip
                  refine mv_ldc (pc := 108) (v := 32768) B (B.2.2.2.1 _ k_1815) d_Model_thing_108 ?_
                  exact mv_iret (pc := 110) B hr rfl d_Model_thing_110 (Nat.le_refl _) (Nat.le_refl _) ⟨_, rfl, hF⟩
                · skip
                  refine mv_bipush (pc := 103) (v := 32) B d_Model_thing_103 (by decide) ?_
                  refine mv_goto (pc := 105) (tgt := 110) B d_Model_thing_105 rfl ?_
                  exact mv_iret (pc := 110) B hr rfl d_Model_thing_110 (Nat.le_refl _) (Nat.le_refl _) ⟨_, rfl, hF⟩
              · skip
                refine mv_iconst (pc := 94) (v := 0) B d_Model_thing_94 (by decide) ?_
                refine mv_goto (pc := 95) (tgt := 110) B d_Model_thing_95 rfl ?_
                exact mv_iret (pc := 110) B hr rfl d_Model_thing_110 (Nat.le_refl _) (Nat.le_refl _) ⟨_, rfl, hF⟩
            · skip
              refine mv_iload_n (pc := 75) B d_Model_thing_75 rfl 1 rfl ?_
              refine mv_iconst (pc := 76) (v := 2) B d_Model_thing_76 (by decide) ?_
              refine mv_icmp_ne (pc := 77) (tgt := 85) B d_Model_thing_77 rfl (fun h77 => ?_) (fun h77 => ?_)
              · skip
                refine mv_bipush (pc := 85) (v := 32) B d_Model_thing_85 (by decide) ?_
                refine mv_goto (pc := 87) (tgt := 110) B d_Model_thing_87 rfl ?_
                exact mv_iret (pc := 110) B hr rfl d_Model_thing_110 (Nat.le_refl _) (Nat.le_refl _) ⟨_, rfl, hF⟩
              · skip
                refine mv_bipush (pc := 80) (v := 8) B d_Model_thing_80 (by decide) ?_
                refine mv_goto (pc := 82) (tgt := 110) B d_Model_thing_82 rfl ?_
                exact mv_iret (pc := 110) B hr rfl d_Model_thing_110 (Nat.le_refl _) (Nat.le_refl _) ⟨_, rfl, hF⟩
          · skip
            have hin := hTP.in hM h44
            refine mv_iload_n (pc := 47) B d_Model_thing_47 rfl 2 rfl ?_
            refine mv_if_ne (pc := 48) (tgt := 62) B d_Model_thing_48 rfl (fun h48 => ?_) (fun h48 => ?_)
            · skip
              refine mv_aload_n (pc := 62) B d_Model_thing_62 rfl 0 rfl ?_
              refine mv_getR (pc := 63) (ci := 11) (C := R_Model) (T := F_Model) (N := 16) B 9 rfl rfl (by decide) i_Model (B.2.2.2.1 _ k_2054) rfl hM.2.1 d_Model_thing_63 ?_
              refine mv_iload_n (pc := 66) B d_Model_thing_66 rfl 1 rfl ?_
              refine mv_callVi (pc := 67) (n := 1) (ci := 12) (C := R_Book) B (mK_ok sk sv) hNs rfl rfl (c_Book_cellsOf_x l hi _ _ hM.1 hin.1.1 hin.1.2) rfl (ma_goodc kc_Book_cellsOf) (B.2.2.2.1 _ k_2419) (B.2.2.2.1 _ k_2420) (B.2.2.2.1 _ k_2421) (B.2.2.2.1 _ k_13) ⟨by decide +kernel, by decide +kernel, by decide +kernel⟩ rfl d_Model_thing_67 rfl (Nat.le_of_ble_eq_true rfl) ⟨by decide, by decide⟩ ⟨by decide, by decide⟩ ⟨by decide, by decide⟩ (mv_noH hno _) (fun v67 σ67 h67 => ?_)
              obtain ⟨e67, z67⟩ := h67
              have e67 := e67.symm
              subst e67
              exact mv_iret (pc := 70) B hr rfl d_Model_thing_70 (Nat.le_refl _) (Nat.le_refl _) ⟨_, rfl, hF⟩
            · skip
              refine mv_aload_n (pc := 51) B d_Model_thing_51 rfl 0 rfl ?_
              refine mv_getR (pc := 52) (ci := 11) (C := R_Model) (T := F_Model) (N := 16) B 9 rfl rfl (by decide) i_Model (B.2.2.2.1 _ k_2054) rfl hM.2.1 d_Model_thing_52 ?_
              refine mv_iload_n (pc := 55) B d_Model_thing_55 rfl 1 rfl ?_
              refine mv_callVi (pc := 56) (n := 1) (ci := 12) (C := R_Book) B (mK_ok sk sv) hNs rfl rfl (c_Book_widthOf_x l hi _ _ hM.1 hin.1.1 hin.1.2) rfl (ma_goodc kc_Book_widthOf) (B.2.2.2.1 _ k_2582) (B.2.2.2.1 _ k_2583) (B.2.2.2.1 _ k_2584) (B.2.2.2.1 _ k_13) ⟨by decide +kernel, by decide +kernel, by decide +kernel⟩ rfl d_Model_thing_56 rfl (Nat.le_of_ble_eq_true rfl) ⟨by decide, by decide⟩ ⟨by decide, by decide⟩ ⟨by decide, by decide⟩ (mv_noH hno _) (fun v56 σ56 h56 => ?_)
              have e56 := h56.symm
              subst e56
              refine mv_goto (pc := 59) (tgt := 70) B d_Model_thing_59 rfl ?_
              exact mv_iret (pc := 70) B hr rfl d_Model_thing_70 (Nat.le_refl _) (Nat.le_refl _) ⟨_, rfl, hF⟩
        · skip
          exact absurd (by rw [x31]; decide) h35
      · skip
        refine mv_iconst (pc := 23) (v := 2) B d_Model_thing_23 (by decide) ?_
        refine mv_goto (pc := 24) (tgt := 28) B d_Model_thing_24 rfl ?_
        refine mv_putI (pc := 28) (ci := 11) (C := R_Model) (T := F_Model) (N := 16) B 2 rfl rfl (by decide) i_Model t_Model_ok n_Model (B.2.2.2.1 _ k_2047) rfl rfl rfl rfl d_Model_thing_28 ?_
        refine mv_gen (fun S31 eS31 => ?_)
        have hF : QF 74 σ S31 := by rw [eS31]; exact QF.si Fx.rf (by decide)
        have hM := hM.qf hF hN
        first | have x31 : mv_i S31 70 2 = 0 := by rw [eS31, mv_si_s] | have x31 : mv_i S31 70 2 = 1 := by rw [eS31, mv_si_s] | have x31 : mv_i S31 70 2 = 2 := by rw [eS31, mv_si_s]
        try have hTP : TP9 74 S31 t9 0 := (z17.resolve_left h20).2.th eS31 hN
        clear eS31
        refine mv_aload_n (pc := 31) B d_Model_thing_31 rfl 0 rfl ?_
        refine mv_getI (pc := 32) (ci := 11) (C := R_Model) (T := F_Model) (N := 16) B 2 rfl rfl (by decide) i_Model (B.2.2.2.1 _ k_2047) rfl d_Model_thing_32 ?_
        refine mv_if_le (pc := 35) (tgt := 40) B d_Model_thing_35 rfl (fun h35 => ?_) (fun h35 => ?_)
        · skip
          exact absurd h35 (by rw [x31]; decide)
        · skip
          refine mv_iconst (pc := 38) (v := 0) B d_Model_thing_38 (by decide) ?_
          exact mv_iret (pc := 39) B hr rfl d_Model_thing_39 (Nat.le_refl _) (Nat.le_refl _) ⟨_, rfl, hF⟩
    · skip
      refine mv_iconst (pc := 10) (v := 1) B d_Model_thing_10 (by decide) ?_
      refine mv_goto (pc := 11) (tgt := 28) B d_Model_thing_11 rfl ?_
      refine mv_putI (pc := 28) (ci := 11) (C := R_Model) (T := F_Model) (N := 16) B 2 rfl rfl (by decide) i_Model t_Model_ok n_Model (B.2.2.2.1 _ k_2047) rfl rfl rfl rfl d_Model_thing_28 ?_
      refine mv_gen (fun S31 eS31 => ?_)
      have hF : QF 74 σ S31 := by rw [eS31]; exact QF.si Fx.rf (by decide)
      have hM := hM.qf hF hN
      first | have x31 : mv_i S31 70 2 = 0 := by rw [eS31, mv_si_s] | have x31 : mv_i S31 70 2 = 1 := by rw [eS31, mv_si_s] | have x31 : mv_i S31 70 2 = 2 := by rw [eS31, mv_si_s]
      try have hTP : TP9 74 S31 t9 0 := (z17.resolve_left h20).2.th eS31 hN
      clear eS31
      refine mv_aload_n (pc := 31) B d_Model_thing_31 rfl 0 rfl ?_
      refine mv_getI (pc := 32) (ci := 11) (C := R_Model) (T := F_Model) (N := 16) B 2 rfl rfl (by decide) i_Model (B.2.2.2.1 _ k_2047) rfl d_Model_thing_32 ?_
      refine mv_if_le (pc := 35) (tgt := 40) B d_Model_thing_35 rfl (fun h35 => ?_) (fun h35 => ?_)
      · skip
        exact absurd h35 (by rw [x31]; decide)
      · skip
        refine mv_iconst (pc := 38) (v := 0) B d_Model_thing_38 (by decide) ?_
        exact mv_iret (pc := 39) B hr rfl d_Model_thing_39 (Nat.le_refl _) (Nat.le_refl _) ⟨_, rfl, hF⟩
set_option maxHeartbeats 4000000 in
set_option maxRecDepth 100000 in
theorem c_Model_thing_y (l : Launch) {dA : FieldType → ClassId} {D : va_G} {al : Nat → Nat} {ext : mv_Sh} {sk sv : Nat → Nat} (hi : mv_inj (mg dA D al ext)) (σ : mv_H) (hM : MI 108 74 σ) (t9 i9 : Int32) : mv_C l y_Model_thing (Cond.code y_Model_thing b_Model_thing 3 (Option.some Jvm.ClassFile.FieldType.int) :: ma) ({ frames := 2, cells := 0, slots := 0, locals := 44 }) (mg dA D al ext) (mK sk sv) [.ref (al 70), .int t9, .int i9] σ (mv_Ri (fun v σ1 => QF 108 σ σ1)) := by
  refine mv_C.ofV (cc := b_Model_thing) (nL := 3) (ret := (Option.some Jvm.ClassFile.FieldType.int)) (by decide +kernel) rfl hi (Nat.le_of_ble_eq_true rfl) ?_
  intro p e s m below meth c B hNs hr hnm hno
  have hN : 108 = 74 ∨ 108 = 108 := by decide
  refine mv_aload_n (pc := 0) B d_Model_thing_0 rfl 0 rfl ?_
  refine mv_iload_n (pc := 1) B d_Model_thing_1 rfl 2 rfl ?_
  refine mv_if_lt (pc := 2) (tgt := 10) B d_Model_thing_2 rfl (fun h2 => ?_) (fun h2 => ?_)
  · skip
    refine mv_iconst (pc := 10) (v := 1) B d_Model_thing_10 (by decide) ?_
    refine mv_goto (pc := 11) (tgt := 28) B d_Model_thing_11 rfl ?_
    refine mv_putI (pc := 28) (ci := 11) (C := R_Model) (T := F_Model) (N := 16) B 2 rfl rfl (by decide) i_Model t_Model_ok n_Model (B.2.2.2.1 _ k_2047) rfl rfl rfl rfl d_Model_thing_28 ?_
    refine mv_gen (fun S31 eS31 => ?_)
    have hF : QF 108 σ S31 := by rw [eS31]; exact QF.si Fx.rf (by decide)
    have hM := hM.qf hF hN
    first | have x31 : mv_i S31 70 2 = 0 := by rw [eS31, mv_si_s] | have x31 : mv_i S31 70 2 = 1 := by rw [eS31, mv_si_s] | have x31 : mv_i S31 70 2 = 2 := by rw [eS31, mv_si_s]
    try have hTP : TP9 108 S31 t9 0 := (z17.resolve_left h20).2.th eS31 hN
    clear eS31
    refine mv_aload_n (pc := 31) B d_Model_thing_31 rfl 0 rfl ?_
    refine mv_getI (pc := 32) (ci := 11) (C := R_Model) (T := F_Model) (N := 16) B 2 rfl rfl (by decide) i_Model (B.2.2.2.1 _ k_2047) rfl d_Model_thing_32 ?_
    refine mv_if_le (pc := 35) (tgt := 40) B d_Model_thing_35 rfl (fun h35 => ?_) (fun h35 => ?_)
    · skip
      exact absurd h35 (by rw [x31]; decide)
    · skip
      refine mv_iconst (pc := 38) (v := 0) B d_Model_thing_38 (by decide) ?_
      exact mv_iret (pc := 39) B hr rfl d_Model_thing_39 (Nat.le_refl _) (Nat.le_refl _) ⟨_, rfl, hF⟩
  · skip
    refine mv_iload_n (pc := 5) B d_Model_thing_5 rfl 2 rfl ?_
    refine mv_iconst (pc := 6) (v := 1) B d_Model_thing_6 (by decide) ?_
    refine mv_icmp_le (pc := 7) (tgt := 14) B d_Model_thing_7 rfl (fun h7 => ?_) (fun h7 => ?_)
    · skip
      refine mv_aload_n (pc := 14) B d_Model_thing_14 rfl 0 rfl ?_
      refine mv_iload_n (pc := 15) B d_Model_thing_15 rfl 1 rfl ?_
      refine mv_iconst (pc := 16) (v := 0) B d_Model_thing_16 (by decide) ?_
      refine mv_callVi (pc := 17) (n := 2) (ci := 11) (C := R_Model) B (mK_ok sk sv) hNs rfl rfl (c_Model_there_y l hi _ hM _ _) rfl (ma_goodc kc_Model_there) (B.2.2.2.1 _ k_2415) (B.2.2.2.1 _ k_2417) (B.2.2.2.1 _ ks_124) (B.2.2.2.1 _ k_12) ⟨by decide +kernel, by decide +kernel, by decide +kernel⟩ rfl d_Model_thing_17 rfl (Nat.le_of_ble_eq_true rfl) ⟨by decide, by decide⟩ ⟨by decide, by decide⟩ ⟨by decide, by decide⟩ (mv_noH hno _) (fun v17 σ17 h17 => ?_)
      obtain ⟨e17, z17⟩ := h17
      have e17 := e17.symm
      subst e17
      refine mv_if_ne (pc := 20) (tgt := 27) B d_Model_thing_20 rfl (fun h20 => ?_) (fun h20 => ?_)
      · skip
        refine mv_iconst (pc := 27) (v := 0) B d_Model_thing_27 (by decide) ?_
        refine mv_putI (pc := 28) (ci := 11) (C := R_Model) (T := F_Model) (N := 16) B 2 rfl rfl (by decide) i_Model t_Model_ok n_Model (B.2.2.2.1 _ k_2047) rfl rfl rfl rfl d_Model_thing_28 ?_
        refine mv_gen (fun S31 eS31 => ?_)
        have hF : QF 108 σ S31 := by rw [eS31]; exact QF.si Fx.rf (by decide)
        have hM := hM.qf hF hN
        first | have x31 : mv_i S31 70 2 = 0 := by rw [eS31, mv_si_s] | have x31 : mv_i S31 70 2 = 1 := by rw [eS31, mv_si_s] | have x31 : mv_i S31 70 2 = 2 := by rw [eS31, mv_si_s]
        try have hTP : TP9 108 S31 t9 0 := (z17.resolve_left h20).2.th eS31 hN
        clear eS31
        refine mv_aload_n (pc := 31) B d_Model_thing_31 rfl 0 rfl ?_
        refine mv_getI (pc := 32) (ci := 11) (C := R_Model) (T := F_Model) (N := 16) B 2 rfl rfl (by decide) i_Model (B.2.2.2.1 _ k_2047) rfl d_Model_thing_32 ?_
        refine mv_if_le (pc := 35) (tgt := 40) B d_Model_thing_35 rfl (fun h35 => ?_) (fun h35 => ?_)
        · skip
          refine mv_aload_n (pc := 40) B d_Model_thing_40 rfl 0 rfl ?_
          refine mv_getI (pc := 41) (ci := 11) (C := R_Model) (T := F_Model) (N := 16) B 11 rfl rfl (by decide) i_Model (B.2.2.2.1 _ k_2056) rfl d_Model_thing_41 ?_
          refine mv_if_ne (pc := 44) (tgt := 71) B d_Model_thing_44 rfl (fun h44 => ?_) (fun h44 => ?_)
          · skip
            refine mv_iload_n (pc := 71) B d_Model_thing_71 rfl 2 rfl ?_
            refine mv_if_ne (pc := 72) (tgt := 90) B d_Model_thing_72 rfl (fun h72 => ?_) (fun h72 => ?_)
            · skip
              refine mv_iload_n (pc := 90) B d_Model_thing_90 rfl 1 rfl ?_
              refine mv_if_ne (pc := 91) (tgt := 98) B d_Model_thing_91 rfl (fun h91 => ?_) (fun h91 => ?_)
              · skip
                refine mv_iload_n (pc := 98) B d_Model_thing_98 rfl 1 rfl ?_
                refine mv_iconst (pc := 99) (v := 1) B d_Model_thing_99 (by decide) ?_
                refine mv_icmp_ne (pc := 100) (tgt := 108) B d_Model_thing_100 rfl (fun h100 => ?_) (fun h100 => ?_)
                · skip
                  refine mv_ldc (pc := 108) (v := 32768) B (B.2.2.2.1 _ k_1815) d_Model_thing_108 ?_
                  exact mv_iret (pc := 110) B hr rfl d_Model_thing_110 (Nat.le_refl _) (Nat.le_refl _) ⟨_, rfl, hF⟩
                · skip
                  refine mv_bipush (pc := 103) (v := 32) B d_Model_thing_103 (by decide) ?_
                  refine mv_goto (pc := 105) (tgt := 110) B d_Model_thing_105 rfl ?_
                  exact mv_iret (pc := 110) B hr rfl d_Model_thing_110 (Nat.le_refl _) (Nat.le_refl _) ⟨_, rfl, hF⟩
              · skip
                refine mv_iconst (pc := 94) (v := 0) B d_Model_thing_94 (by decide) ?_
                refine mv_goto (pc := 95) (tgt := 110) B d_Model_thing_95 rfl ?_
                exact mv_iret (pc := 110) B hr rfl d_Model_thing_110 (Nat.le_refl _) (Nat.le_refl _) ⟨_, rfl, hF⟩
            · skip
              refine mv_iload_n (pc := 75) B d_Model_thing_75 rfl 1 rfl ?_
              refine mv_iconst (pc := 76) (v := 2) B d_Model_thing_76 (by decide) ?_
              refine mv_icmp_ne (pc := 77) (tgt := 85) B d_Model_thing_77 rfl (fun h77 => ?_) (fun h77 => ?_)
              · skip
                refine mv_bipush (pc := 85) (v := 32) B d_Model_thing_85 (by decide) ?_
                refine mv_goto (pc := 87) (tgt := 110) B d_Model_thing_87 rfl ?_
                exact mv_iret (pc := 110) B hr rfl d_Model_thing_110 (Nat.le_refl _) (Nat.le_refl _) ⟨_, rfl, hF⟩
              · skip
                refine mv_bipush (pc := 80) (v := 8) B d_Model_thing_80 (by decide) ?_
                refine mv_goto (pc := 82) (tgt := 110) B d_Model_thing_82 rfl ?_
                exact mv_iret (pc := 110) B hr rfl d_Model_thing_110 (Nat.le_refl _) (Nat.le_refl _) ⟨_, rfl, hF⟩
          · skip
            have hin := hTP.in hM h44
            refine mv_iload_n (pc := 47) B d_Model_thing_47 rfl 2 rfl ?_
            refine mv_if_ne (pc := 48) (tgt := 62) B d_Model_thing_48 rfl (fun h48 => ?_) (fun h48 => ?_)
            · skip
              refine mv_aload_n (pc := 62) B d_Model_thing_62 rfl 0 rfl ?_
              refine mv_getR (pc := 63) (ci := 11) (C := R_Model) (T := F_Model) (N := 16) B 9 rfl rfl (by decide) i_Model (B.2.2.2.1 _ k_2054) rfl hM.2.1 d_Model_thing_63 ?_
              refine mv_iload_n (pc := 66) B d_Model_thing_66 rfl 1 rfl ?_
              refine mv_callVi (pc := 67) (n := 1) (ci := 12) (C := R_Book) B (mK_ok sk sv) hNs rfl rfl (c_Book_cellsOf_y l hi _ _ hM.1 hin.1.1 hin.1.2) rfl (ma_goodc kc_Book_cellsOf) (B.2.2.2.1 _ k_2419) (B.2.2.2.1 _ k_2420) (B.2.2.2.1 _ k_2421) (B.2.2.2.1 _ k_13) ⟨by decide +kernel, by decide +kernel, by decide +kernel⟩ rfl d_Model_thing_67 rfl (Nat.le_of_ble_eq_true rfl) ⟨by decide, by decide⟩ ⟨by decide, by decide⟩ ⟨by decide, by decide⟩ (mv_noH hno _) (fun v67 σ67 h67 => ?_)
              obtain ⟨e67, z67⟩ := h67
              have e67 := e67.symm
              subst e67
              exact mv_iret (pc := 70) B hr rfl d_Model_thing_70 (Nat.le_refl _) (Nat.le_refl _) ⟨_, rfl, hF⟩
            · skip
              refine mv_aload_n (pc := 51) B d_Model_thing_51 rfl 0 rfl ?_
              refine mv_getR (pc := 52) (ci := 11) (C := R_Model) (T := F_Model) (N := 16) B 9 rfl rfl (by decide) i_Model (B.2.2.2.1 _ k_2054) rfl hM.2.1 d_Model_thing_52 ?_
              refine mv_iload_n (pc := 55) B d_Model_thing_55 rfl 1 rfl ?_
              refine mv_callVi (pc := 56) (n := 1) (ci := 12) (C := R_Book) B (mK_ok sk sv) hNs rfl rfl (c_Book_widthOf_y l hi _ _ hM.1 hin.1.1 hin.1.2) rfl (ma_goodc kc_Book_widthOf) (B.2.2.2.1 _ k_2582) (B.2.2.2.1 _ k_2583) (B.2.2.2.1 _ k_2584) (B.2.2.2.1 _ k_13) ⟨by decide +kernel, by decide +kernel, by decide +kernel⟩ rfl d_Model_thing_56 rfl (Nat.le_of_ble_eq_true rfl) ⟨by decide, by decide⟩ ⟨by decide, by decide⟩ ⟨by decide, by decide⟩ (mv_noH hno _) (fun v56 σ56 h56 => ?_)
              have e56 := h56.symm
              subst e56
              refine mv_goto (pc := 59) (tgt := 70) B d_Model_thing_59 rfl ?_
              exact mv_iret (pc := 70) B hr rfl d_Model_thing_70 (Nat.le_refl _) (Nat.le_refl _) ⟨_, rfl, hF⟩
        · skip
          exact absurd (by rw [x31]; decide) h35
      · skip
        refine mv_iconst (pc := 23) (v := 2) B d_Model_thing_23 (by decide) ?_
        refine mv_goto (pc := 24) (tgt := 28) B d_Model_thing_24 rfl ?_
        refine mv_putI (pc := 28) (ci := 11) (C := R_Model) (T := F_Model) (N := 16) B 2 rfl rfl (by decide) i_Model t_Model_ok n_Model (B.2.2.2.1 _ k_2047) rfl rfl rfl rfl d_Model_thing_28 ?_
        refine mv_gen (fun S31 eS31 => ?_)
        have hF : QF 108 σ S31 := by rw [eS31]; exact QF.si Fx.rf (by decide)
        have hM := hM.qf hF hN
        first | have x31 : mv_i S31 70 2 = 0 := by rw [eS31, mv_si_s] | have x31 : mv_i S31 70 2 = 1 := by rw [eS31, mv_si_s] | have x31 : mv_i S31 70 2 = 2 := by rw [eS31, mv_si_s]
        try have hTP : TP9 108 S31 t9 0 := (z17.resolve_left h20).2.th eS31 hN
        clear eS31
        refine mv_aload_n (pc := 31) B d_Model_thing_31 rfl 0 rfl ?_
        refine mv_getI (pc := 32) (ci := 11) (C := R_Model) (T := F_Model) (N := 16) B 2 rfl rfl (by decide) i_Model (B.2.2.2.1 _ k_2047) rfl d_Model_thing_32 ?_
        refine mv_if_le (pc := 35) (tgt := 40) B d_Model_thing_35 rfl (fun h35 => ?_) (fun h35 => ?_)
        · skip
          exact absurd h35 (by rw [x31]; decide)
        · skip
          refine mv_iconst (pc := 38) (v := 0) B d_Model_thing_38 (by decide) ?_
          exact mv_iret (pc := 39) B hr rfl d_Model_thing_39 (Nat.le_refl _) (Nat.le_refl _) ⟨_, rfl, hF⟩
    · skip
      refine mv_iconst (pc := 10) (v := 1) B d_Model_thing_10 (by decide) ?_
      refine mv_goto (pc := 11) (tgt := 28) B d_Model_thing_11 rfl ?_
      refine mv_putI (pc := 28) (ci := 11) (C := R_Model) (T := F_Model) (N := 16) B 2 rfl rfl (by decide) i_Model t_Model_ok n_Model (B.2.2.2.1 _ k_2047) rfl rfl rfl rfl d_Model_thing_28 ?_
      refine mv_gen (fun S31 eS31 => ?_)
      have hF : QF 108 σ S31 := by rw [eS31]; exact QF.si Fx.rf (by decide)
      have hM := hM.qf hF hN
      first | have x31 : mv_i S31 70 2 = 0 := by rw [eS31, mv_si_s] | have x31 : mv_i S31 70 2 = 1 := by rw [eS31, mv_si_s] | have x31 : mv_i S31 70 2 = 2 := by rw [eS31, mv_si_s]
      try have hTP : TP9 108 S31 t9 0 := (z17.resolve_left h20).2.th eS31 hN
      clear eS31
      refine mv_aload_n (pc := 31) B d_Model_thing_31 rfl 0 rfl ?_
      refine mv_getI (pc := 32) (ci := 11) (C := R_Model) (T := F_Model) (N := 16) B 2 rfl rfl (by decide) i_Model (B.2.2.2.1 _ k_2047) rfl d_Model_thing_32 ?_
      refine mv_if_le (pc := 35) (tgt := 40) B d_Model_thing_35 rfl (fun h35 => ?_) (fun h35 => ?_)
      · skip
        exact absurd h35 (by rw [x31]; decide)
      · skip
        refine mv_iconst (pc := 38) (v := 0) B d_Model_thing_38 (by decide) ?_
        exact mv_iret (pc := 39) B hr rfl d_Model_thing_39 (Nat.le_refl _) (Nat.le_refl _) ⟨_, rfl, hF⟩
def y_Model_free : MethodName := ⟨"MachineLoomModel", "free", "()J"⟩
abbrev b_Model_free : ByteArray := prog_14_method_40_code
theorem kc_Model_free : Cond.code y_Model_free b_Model_free 4 (Option.some Jvm.ClassFile.FieldType.long) ∈ ma := ma_of (tb_11 _ (List.mem_of_getElem? (i := 189) rfl)) rfl
theorem k_2597 : (Jvm.Cond.constantLong "MachineLoomModel" (248 : Nat) (4294967296 : Int64)) ∈ ma := ma_of (tb_11 _ (List.mem_of_getElem? (i := 197) rfl)) rfl
theorem k_2594 : (Jvm.Cond.methodLink "MachineLoomModel" (245 : Nat) ({ cls := "MachineLoomModel", name := "shippedOpen", desc := "(I)I" } : Jvm.MethodName)) ∈ ma := ma_of (tb_11 _ (List.mem_of_getElem? (i := 194) rfl)) rfl
theorem k_2595 : (Jvm.Cond.static ({ cls := "MachineLoomModel", name := "shippedOpen", desc := "(I)I" } : Jvm.MethodName)) ∈ ma := ma_of (tb_11 _ (List.mem_of_getElem? (i := 195) rfl)) rfl
theorem k_2590 : (Jvm.Cond.methodLink "MachineLoomModel" (242 : Nat) ({ cls := "MachineLoomModel$Book", name := "free", desc := "()J" } : Jvm.MethodName)) ∈ ma := ma_of (tb_11 _ (List.mem_of_getElem? (i := 190) rfl)) rfl
theorem k_2591 : (Jvm.Cond.instanceMethod ({ cls := "MachineLoomModel$Book", name := "free", desc := "()J" } : Jvm.MethodName)) ∈ ma := ma_of (tb_11 _ (List.mem_of_getElem? (i := 191) rfl)) rfl
theorem k_2592 : (Jvm.Cond.selects "MachineLoomModel$Book" ({ cls := "MachineLoomModel$Book", name := "free", desc := "()J" } : Jvm.MethodName) ({ cls := "MachineLoomModel$Book", name := "free", desc := "()J" } : Jvm.MethodName)) ∈ ma := ma_of (tb_11 _ (List.mem_of_getElem? (i := 192) rfl)) rfl
theorem d_Model_free_0 : decode b_Model_free 0 = .ok (.aload_n 0, 1) := by decide +kernel
theorem d_Model_free_1 : decode b_Model_free 1 = .ok (.iconst 0, 1) := by decide +kernel
theorem d_Model_free_2 : decode b_Model_free 2 = .ok (.putfield 38, 3) := by decide +kernel
theorem d_Model_free_5 : decode b_Model_free 5 = .ok (.aload_n 0, 1) := by decide +kernel
theorem d_Model_free_6 : decode b_Model_free 6 = .ok (.getfield 162, 3) := by decide +kernel
theorem d_Model_free_9 : decode b_Model_free 9 = .ok (.ifCond .ne (11), 3) := by decide +kernel
theorem d_Model_free_12 : decode b_Model_free 12 = .ok (.aload_n 0, 1) := by decide +kernel
theorem d_Model_free_13 : decode b_Model_free 13 = .ok (.getfield 31, 3) := by decide +kernel
theorem d_Model_free_16 : decode b_Model_free 16 = .ok (.invokevirtual 242, 3) := by decide +kernel
theorem d_Model_free_19 : decode b_Model_free 19 = .ok (.lreturn, 1) := by decide +kernel
theorem d_Model_free_20 : decode b_Model_free 20 = .ok (.lconst 0, 1) := by decide +kernel
theorem d_Model_free_21 : decode b_Model_free 21 = .ok (.lstore_n 1, 1) := by decide +kernel
theorem d_Model_free_22 : decode b_Model_free 22 = .ok (.iconst 0, 1) := by decide +kernel
theorem d_Model_free_23 : decode b_Model_free 23 = .ok (.istore_n 3, 1) := by decide +kernel
theorem d_Model_free_24 : decode b_Model_free 24 = .ok (.iload_n 3, 1) := by decide +kernel
theorem d_Model_free_25 : decode b_Model_free 25 = .ok (.bipush 48, 2) := by decide +kernel
theorem d_Model_free_27 : decode b_Model_free 27 = .ok (.if_icmp .ge (18), 3) := by decide +kernel
theorem d_Model_free_30 : decode b_Model_free 30 = .ok (.lload_n 1, 1) := by decide +kernel
theorem d_Model_free_31 : decode b_Model_free 31 = .ok (.lconst 1, 1) := by decide +kernel
theorem d_Model_free_32 : decode b_Model_free 32 = .ok (.iload_n 3, 1) := by decide +kernel
theorem d_Model_free_33 : decode b_Model_free 33 = .ok (.invokestatic 245, 3) := by decide +kernel
theorem d_Model_free_36 : decode b_Model_free 36 = .ok (.lshl, 1) := by decide +kernel
theorem d_Model_free_37 : decode b_Model_free 37 = .ok (.ladd, 1) := by decide +kernel
theorem d_Model_free_38 : decode b_Model_free 38 = .ok (.lstore_n 1, 1) := by decide +kernel
theorem d_Model_free_39 : decode b_Model_free 39 = .ok (.iinc 3 (1), 3) := by decide +kernel
theorem d_Model_free_42 : decode b_Model_free 42 = .ok (.goto (-18), 3) := by decide +kernel
theorem d_Model_free_45 : decode b_Model_free 45 = .ok (.ldc2_w 248, 3) := by decide +kernel
theorem d_Model_free_48 : decode b_Model_free 48 = .ok (.lload_n 1, 1) := by decide +kernel
theorem d_Model_free_49 : decode b_Model_free 49 = .ok (.lsub, 1) := by decide +kernel
theorem d_Model_free_50 : decode b_Model_free 50 = .ok (.lreturn, 1) := by decide +kernel
set_option maxHeartbeats 4000000 in
set_option maxRecDepth 100000 in
theorem c_Model_free_x (l : Launch) {dA : FieldType → ClassId} {D : va_G} {al : Nat → Nat} {ext : mv_Sh} {sk sv : Nat → Nat} (hi : mv_inj (mg dA D al ext)) (σ : mv_H) (hM : MI 74 108 σ)  : mv_C l y_Model_free (Cond.code y_Model_free b_Model_free 4 (Option.some Jvm.ClassFile.FieldType.long) :: ma) ({ frames := 1, cells := 0, slots := 0, locals := 25 }) (mg dA D al ext) (mK sk sv) [.ref (al 70)] σ (mv_Rl (fun v σ1 => QF 74 σ σ1)) := by
  refine mv_C.ofV (cc := b_Model_free) (nL := 4) (ret := (Option.some Jvm.ClassFile.FieldType.long)) (by decide +kernel) rfl hi (Nat.le_of_ble_eq_true rfl) ?_
  intro p e s m below meth c B hNs hr hnm hno
  have hN : 74 = 74 ∨ 74 = 108 := by decide
  refine mv_aload_n (pc := 0) B d_Model_free_0 rfl 0 rfl ?_
  refine mv_iconst (pc := 1) (v := 0) B d_Model_free_1 (by decide) ?_
  refine mv_putI (pc := 2) (ci := 11) (C := R_Model) (T := F_Model) (N := 16) B 2 rfl rfl (by decide) i_Model t_Model_ok n_Model (B.2.2.2.1 _ k_2047) rfl rfl rfl rfl d_Model_free_2 ?_
  refine mv_gen (fun S5 eS5 => ?_)
  have hF : QF 74 σ S5 := by rw [eS5]; exact QF.si Fx.rf (by decide)
  have hM := hM.qf hF hN
  have e11 := hF.sh hN
  have hM0 := hM
  obtain ⟨-, -, -, th, n, k, g1, g2, g3, g4, g5, g6, g7, g8⟩ := hM0
  clear g6 g7 g8
  clear eS5
  refine mv_aload_n (pc := 5) B d_Model_free_5 rfl 0 rfl ?_
  refine mv_getI (pc := 6) (ci := 11) (C := R_Model) (T := F_Model) (N := 16) B 11 rfl rfl (by decide) i_Model (B.2.2.2.1 _ k_2056) rfl d_Model_free_6 ?_
  refine mv_if_ne (pc := 9) (tgt := 20) B d_Model_free_9 rfl (fun h9 => ?_) (fun h9 => ?_)
  · skip
    have lp : ∀ (nn : Nat) (i9 : Int32) (u9 : Int64) (q0 : 0 ≤ i9.toInt), (100 - i9.toInt).toNat < nn → mv_V p l e ({ frames := 1, cells := 0, slots := 0, locals := 25 }) s m ([.ref (al 70)] : List Value).toArray below meth c (mg dA D al ext) 4 0 0 (mv_Q (mg dA D al ext) below s 0 0 (mv_Rl (fun v σ1 => QF 74 σ σ1))) S5 24 [(3, .int i9), (1, .long u9), (0, .ref (al 70))] [] := by
      intro nn
      induction nn with
      | zero => intro i9 u9 q0 hm; exact absurd hm (Nat.not_lt_zero _)
      | succ nn ih =>
        intro i9 u9 q0 hm
        refine mv_iload_n (pc := 24) B d_Model_free_24 rfl 0 rfl ?_
        refine mv_bipush (pc := 25) (v := 48) B d_Model_free_25 (by decide) ?_
        refine mv_icmp_ge (pc := 27) (tgt := 45) B d_Model_free_27 rfl (fun h27 => ?_) (fun h27 => ?_)
        · skip
          refine mv_ldc2 (pc := 45) (v := 4294967296) B (B.2.2.2.1 _ k_2597) d_Model_free_45 ?_
          refine mv_lload_n (pc := 48) B d_Model_free_48 rfl 1 rfl ?_
          refine mv_lsub (pc := 49) B d_Model_free_49 ?_
          exact mv_lret (pc := 50) B hr d_Model_free_50 (Nat.le_refl _) (Nat.le_refl _) ⟨_, rfl, hF⟩
        · skip
          rw [Int32.le_iff_toInt_le] at h27
          have h27 : ¬ 48 ≤ i9.toInt := h27
          have w2 : (i9 + 1).toInt = i9.toInt + 1 := i32_inc (by omega)
          refine mv_lload_n (pc := 30) B d_Model_free_30 rfl 1 rfl ?_
          refine mv_lconst (pc := 31) (v := 1) B d_Model_free_31 (by decide) ?_
          refine mv_iload_n (pc := 32) B d_Model_free_32 rfl 0 rfl ?_
          refine mv_callSi (pc := 33) (n := 1) B (mK_ok sk sv) hNs (c_Model_shippedOpen l hi _ _) rfl (ma_goodc kc_Model_shippedOpen) (B.2.2.2.1 _ k_2594) (B.2.2.2.1 _ k_2595) (B.2.2.2.1 _ k_12) ⟨by decide +kernel, by decide +kernel, by decide +kernel⟩ rfl d_Model_free_33 rfl (Nat.le_of_ble_eq_true rfl) ⟨by decide, by decide⟩ ⟨by decide, by decide⟩ ⟨by decide, by decide⟩ (mv_noH hno _) (fun v33 σ33 h33 => ?_)
          have e33 := h33.symm
          subst e33
          refine mv_lshl (pc := 36) B d_Model_free_36 ?_
          refine mv_ladd (pc := 37) B d_Model_free_37 ?_
          refine mv_lstore_n (pc := 38) B d_Model_free_38 rfl (by decide) rfl ?_
          refine mv_iinc (pc := 39) (j := 1) (v := 1) B d_Model_free_39 rfl (by decide) (by decide) rfl ?_
          refine mv_goto (pc := 42) (tgt := 24) B d_Model_free_42 rfl ?_
          refine mv_lpick [0, 1, 2] rfl ?_
          exact ih _ _ (by omega) (by omega)
    refine mv_lconst (pc := 20) (v := 0) B d_Model_free_20 (by decide) ?_
    refine mv_lstore_n (pc := 21) B d_Model_free_21 rfl (by decide) rfl ?_
    refine mv_iconst (pc := 22) (v := 0) B d_Model_free_22 (by decide) ?_
    refine mv_istore_n (pc := 23) B d_Model_free_23 rfl (by decide) rfl ?_
    refine mv_lpick [0, 1, 2] rfl ?_
    exact lp _ _ _ (by decide) (Nat.lt_succ_self _)
  · skip
    refine mv_aload_n (pc := 12) B d_Model_free_12 rfl 0 rfl ?_
    refine mv_getR (pc := 13) (ci := 11) (C := R_Model) (T := F_Model) (N := 16) B 9 rfl rfl (by decide) i_Model (B.2.2.2.1 _ k_2054) rfl hM.2.1 d_Model_free_13 ?_
    refine mv_callVl (pc := 16) (n := 0) (ci := 12) (C := R_Book) B (mK_ok sk sv) hNs rfl rfl (c_Book_free_x l hi _ k hM.1 g5) rfl (ma_goodc kc_Book_free) (B.2.2.2.1 _ k_2590) (B.2.2.2.1 _ k_2591) (B.2.2.2.1 _ k_2592) (B.2.2.2.1 _ k_13) ⟨by decide +kernel, by decide +kernel, by decide +kernel⟩ rfl d_Model_free_16 rfl (Nat.le_of_ble_eq_true rfl) ⟨by decide, by decide⟩ ⟨by decide, by decide⟩ ⟨by decide, by decide⟩ (mv_noH hno _) (fun v16 σ16 h16 => ?_)
    have e16 := h16.symm
    subst e16
    exact mv_lret (pc := 19) B hr d_Model_free_19 (Nat.le_refl _) (Nat.le_refl _) ⟨_, rfl, hF⟩
set_option maxHeartbeats 4000000 in
set_option maxRecDepth 100000 in
theorem c_Model_free_y (l : Launch) {dA : FieldType → ClassId} {D : va_G} {al : Nat → Nat} {ext : mv_Sh} {sk sv : Nat → Nat} (hi : mv_inj (mg dA D al ext)) (σ : mv_H) (hM : MI 108 74 σ)  : mv_C l y_Model_free (Cond.code y_Model_free b_Model_free 4 (Option.some Jvm.ClassFile.FieldType.long) :: ma) ({ frames := 1, cells := 0, slots := 0, locals := 25 }) (mg dA D al ext) (mK sk sv) [.ref (al 70)] σ (mv_Rl (fun v σ1 => QF 108 σ σ1)) := by
  refine mv_C.ofV (cc := b_Model_free) (nL := 4) (ret := (Option.some Jvm.ClassFile.FieldType.long)) (by decide +kernel) rfl hi (Nat.le_of_ble_eq_true rfl) ?_
  intro p e s m below meth c B hNs hr hnm hno
  have hN : 108 = 74 ∨ 108 = 108 := by decide
  refine mv_aload_n (pc := 0) B d_Model_free_0 rfl 0 rfl ?_
  refine mv_iconst (pc := 1) (v := 0) B d_Model_free_1 (by decide) ?_
  refine mv_putI (pc := 2) (ci := 11) (C := R_Model) (T := F_Model) (N := 16) B 2 rfl rfl (by decide) i_Model t_Model_ok n_Model (B.2.2.2.1 _ k_2047) rfl rfl rfl rfl d_Model_free_2 ?_
  refine mv_gen (fun S5 eS5 => ?_)
  have hF : QF 108 σ S5 := by rw [eS5]; exact QF.si Fx.rf (by decide)
  have hM := hM.qf hF hN
  have e11 := hF.sh hN
  have hM0 := hM
  obtain ⟨-, -, -, th, n, k, g1, g2, g3, g4, g5, g6, g7, g8⟩ := hM0
  clear g6 g7 g8
  clear eS5
  refine mv_aload_n (pc := 5) B d_Model_free_5 rfl 0 rfl ?_
  refine mv_getI (pc := 6) (ci := 11) (C := R_Model) (T := F_Model) (N := 16) B 11 rfl rfl (by decide) i_Model (B.2.2.2.1 _ k_2056) rfl d_Model_free_6 ?_
  refine mv_if_ne (pc := 9) (tgt := 20) B d_Model_free_9 rfl (fun h9 => ?_) (fun h9 => ?_)
  · skip
    have lp : ∀ (nn : Nat) (i9 : Int32) (u9 : Int64) (q0 : 0 ≤ i9.toInt), (100 - i9.toInt).toNat < nn → mv_V p l e ({ frames := 1, cells := 0, slots := 0, locals := 25 }) s m ([.ref (al 70)] : List Value).toArray below meth c (mg dA D al ext) 4 0 0 (mv_Q (mg dA D al ext) below s 0 0 (mv_Rl (fun v σ1 => QF 108 σ σ1))) S5 24 [(3, .int i9), (1, .long u9), (0, .ref (al 70))] [] := by
      intro nn
      induction nn with
      | zero => intro i9 u9 q0 hm; exact absurd hm (Nat.not_lt_zero _)
      | succ nn ih =>
        intro i9 u9 q0 hm
        refine mv_iload_n (pc := 24) B d_Model_free_24 rfl 0 rfl ?_
        refine mv_bipush (pc := 25) (v := 48) B d_Model_free_25 (by decide) ?_
        refine mv_icmp_ge (pc := 27) (tgt := 45) B d_Model_free_27 rfl (fun h27 => ?_) (fun h27 => ?_)
        · skip
          refine mv_ldc2 (pc := 45) (v := 4294967296) B (B.2.2.2.1 _ k_2597) d_Model_free_45 ?_
          refine mv_lload_n (pc := 48) B d_Model_free_48 rfl 1 rfl ?_
          refine mv_lsub (pc := 49) B d_Model_free_49 ?_
          exact mv_lret (pc := 50) B hr d_Model_free_50 (Nat.le_refl _) (Nat.le_refl _) ⟨_, rfl, hF⟩
        · skip
          rw [Int32.le_iff_toInt_le] at h27
          have h27 : ¬ 48 ≤ i9.toInt := h27
          have w2 : (i9 + 1).toInt = i9.toInt + 1 := i32_inc (by omega)
          refine mv_lload_n (pc := 30) B d_Model_free_30 rfl 1 rfl ?_
          refine mv_lconst (pc := 31) (v := 1) B d_Model_free_31 (by decide) ?_
          refine mv_iload_n (pc := 32) B d_Model_free_32 rfl 0 rfl ?_
          refine mv_callSi (pc := 33) (n := 1) B (mK_ok sk sv) hNs (c_Model_shippedOpen l hi _ _) rfl (ma_goodc kc_Model_shippedOpen) (B.2.2.2.1 _ k_2594) (B.2.2.2.1 _ k_2595) (B.2.2.2.1 _ k_12) ⟨by decide +kernel, by decide +kernel, by decide +kernel⟩ rfl d_Model_free_33 rfl (Nat.le_of_ble_eq_true rfl) ⟨by decide, by decide⟩ ⟨by decide, by decide⟩ ⟨by decide, by decide⟩ (mv_noH hno _) (fun v33 σ33 h33 => ?_)
          have e33 := h33.symm
          subst e33
          refine mv_lshl (pc := 36) B d_Model_free_36 ?_
          refine mv_ladd (pc := 37) B d_Model_free_37 ?_
          refine mv_lstore_n (pc := 38) B d_Model_free_38 rfl (by decide) rfl ?_
          refine mv_iinc (pc := 39) (j := 1) (v := 1) B d_Model_free_39 rfl (by decide) (by decide) rfl ?_
          refine mv_goto (pc := 42) (tgt := 24) B d_Model_free_42 rfl ?_
          refine mv_lpick [0, 1, 2] rfl ?_
          exact ih _ _ (by omega) (by omega)
    refine mv_lconst (pc := 20) (v := 0) B d_Model_free_20 (by decide) ?_
    refine mv_lstore_n (pc := 21) B d_Model_free_21 rfl (by decide) rfl ?_
    refine mv_iconst (pc := 22) (v := 0) B d_Model_free_22 (by decide) ?_
    refine mv_istore_n (pc := 23) B d_Model_free_23 rfl (by decide) rfl ?_
    refine mv_lpick [0, 1, 2] rfl ?_
    exact lp _ _ _ (by decide) (Nat.lt_succ_self _)
  · skip
    refine mv_aload_n (pc := 12) B d_Model_free_12 rfl 0 rfl ?_
    refine mv_getR (pc := 13) (ci := 11) (C := R_Model) (T := F_Model) (N := 16) B 9 rfl rfl (by decide) i_Model (B.2.2.2.1 _ k_2054) rfl hM.2.1 d_Model_free_13 ?_
    refine mv_callVl (pc := 16) (n := 0) (ci := 12) (C := R_Book) B (mK_ok sk sv) hNs rfl rfl (c_Book_free_y l hi _ k hM.1 g5) rfl (ma_goodc kc_Book_free) (B.2.2.2.1 _ k_2590) (B.2.2.2.1 _ k_2591) (B.2.2.2.1 _ k_2592) (B.2.2.2.1 _ k_13) ⟨by decide +kernel, by decide +kernel, by decide +kernel⟩ rfl d_Model_free_16 rfl (Nat.le_of_ble_eq_true rfl) ⟨by decide, by decide⟩ ⟨by decide, by decide⟩ ⟨by decide, by decide⟩ (mv_noH hno _) (fun v16 σ16 h16 => ?_)
    have e16 := h16.symm
    subst e16
    exact mv_lret (pc := 19) B hr d_Model_free_19 (Nat.le_refl _) (Nat.le_refl _) ⟨_, rfl, hF⟩
def y_Model_count : MethodName := ⟨"MachineLoomModel", "count", "(I)I"⟩
abbrev b_Model_count : ByteArray := prog_14_method_42_code
theorem kc_Model_count : Cond.code y_Model_count b_Model_count 2 (Option.some Jvm.ClassFile.FieldType.int) ∈ ma := ma_of (tb_11 _ (List.mem_of_getElem? (i := 201) rfl)) rfl
theorem k_2602 : (Jvm.Cond.methodLink "MachineLoomModel" (250 : Nat) ({ cls := "MachineLoomModel$Book", name := "lengthOf", desc := "()I" } : Jvm.MethodName)) ∈ ma := ma_of (tb_11 _ (List.mem_of_getElem? (i := 202) rfl)) rfl
theorem k_2603 : (Jvm.Cond.instanceMethod ({ cls := "MachineLoomModel$Book", name := "lengthOf", desc := "()I" } : Jvm.MethodName)) ∈ ma := ma_of (tb_11 _ (List.mem_of_getElem? (i := 203) rfl)) rfl
theorem k_2604 : (Jvm.Cond.selects "MachineLoomModel$Book" ({ cls := "MachineLoomModel$Book", name := "lengthOf", desc := "()I" } : Jvm.MethodName) ({ cls := "MachineLoomModel$Book", name := "lengthOf", desc := "()I" } : Jvm.MethodName)) ∈ ma := ma_of (tb_11 _ (List.mem_of_getElem? (i := 204) rfl)) rfl
theorem k_2607 : (Jvm.Cond.methodLink "MachineLoomModel" (254 : Nat) ({ cls := "MachineLoomModel$Book", name := "cellsOfAll", desc := "()I" } : Jvm.MethodName)) ∈ ma := ma_of (tb_11 _ (List.mem_of_getElem? (i := 207) rfl)) rfl
theorem k_2608 : (Jvm.Cond.instanceMethod ({ cls := "MachineLoomModel$Book", name := "cellsOfAll", desc := "()I" } : Jvm.MethodName)) ∈ ma := ma_of (tb_11 _ (List.mem_of_getElem? (i := 208) rfl)) rfl
theorem k_2609 : (Jvm.Cond.selects "MachineLoomModel$Book" ({ cls := "MachineLoomModel$Book", name := "cellsOfAll", desc := "()I" } : Jvm.MethodName) ({ cls := "MachineLoomModel$Book", name := "cellsOfAll", desc := "()I" } : Jvm.MethodName)) ∈ ma := ma_of (tb_11 _ (List.mem_of_getElem? (i := 209) rfl)) rfl
theorem k_2606 : (Jvm.Cond.constant "MachineLoomModel" (253 : Nat) (32800 : Int32)) ∈ ma := ma_of (tb_11 _ (List.mem_of_getElem? (i := 206) rfl)) rfl
theorem d_Model_count_0 : decode b_Model_count 0 = .ok (.aload_n 0, 1) := by decide +kernel
theorem d_Model_count_1 : decode b_Model_count 1 = .ok (.iconst 0, 1) := by decide +kernel
theorem d_Model_count_2 : decode b_Model_count 2 = .ok (.putfield 38, 3) := by decide +kernel
theorem d_Model_count_5 : decode b_Model_count 5 = .ok (.iload_n 1, 1) := by decide +kernel
theorem d_Model_count_6 : decode b_Model_count 6 = .ok (.tableswitch (145) (0) (7) #[46, 51, 71, 90, 110, 130, 135, 140], 46) := by decide +kernel
theorem d_Model_count_52 : decode b_Model_count 52 = .ok (.aload_n 0, 1) := by decide +kernel
theorem d_Model_count_53 : decode b_Model_count 53 = .ok (.getfield 41, 3) := by decide +kernel
theorem d_Model_count_56 : decode b_Model_count 56 = .ok (.ireturn, 1) := by decide +kernel
theorem d_Model_count_57 : decode b_Model_count 57 = .ok (.aload_n 0, 1) := by decide +kernel
theorem d_Model_count_58 : decode b_Model_count 58 = .ok (.getfield 162, 3) := by decide +kernel
theorem d_Model_count_61 : decode b_Model_count 61 = .ok (.ifCond .eq (8), 3) := by decide +kernel
theorem d_Model_count_64 : decode b_Model_count 64 = .ok (.bipush 32, 2) := by decide +kernel
theorem d_Model_count_66 : decode b_Model_count 66 = .ok (.goto (10), 3) := by decide +kernel
theorem d_Model_count_69 : decode b_Model_count 69 = .ok (.aload_n 0, 1) := by decide +kernel
theorem d_Model_count_70 : decode b_Model_count 70 = .ok (.getfield 31, 3) := by decide +kernel
theorem d_Model_count_73 : decode b_Model_count 73 = .ok (.invokevirtual 250, 3) := by decide +kernel
theorem d_Model_count_76 : decode b_Model_count 76 = .ok (.ireturn, 1) := by decide +kernel
theorem d_Model_count_77 : decode b_Model_count 77 = .ok (.aload_n 0, 1) := by decide +kernel
theorem d_Model_count_78 : decode b_Model_count 78 = .ok (.getfield 162, 3) := by decide +kernel
theorem d_Model_count_81 : decode b_Model_count 81 = .ok (.ifCond .eq (7), 3) := by decide +kernel
theorem d_Model_count_84 : decode b_Model_count 84 = .ok (.iconst 3, 1) := by decide +kernel
theorem d_Model_count_85 : decode b_Model_count 85 = .ok (.goto (10), 3) := by decide +kernel
theorem d_Model_count_88 : decode b_Model_count 88 = .ok (.aload_n 0, 1) := by decide +kernel
theorem d_Model_count_89 : decode b_Model_count 89 = .ok (.getfield 31, 3) := by decide +kernel
theorem d_Model_count_92 : decode b_Model_count 92 = .ok (.getfield 194, 3) := by decide +kernel
theorem d_Model_count_95 : decode b_Model_count 95 = .ok (.ireturn, 1) := by decide +kernel
theorem d_Model_count_96 : decode b_Model_count 96 = .ok (.aload_n 0, 1) := by decide +kernel
theorem d_Model_count_97 : decode b_Model_count 97 = .ok (.getfield 162, 3) := by decide +kernel
theorem d_Model_count_100 : decode b_Model_count 100 = .ok (.ifCond .eq (8), 3) := by decide +kernel
theorem d_Model_count_103 : decode b_Model_count 103 = .ok (.ldc 253, 2) := by decide +kernel
theorem d_Model_count_105 : decode b_Model_count 105 = .ok (.goto (10), 3) := by decide +kernel
theorem d_Model_count_108 : decode b_Model_count 108 = .ok (.aload_n 0, 1) := by decide +kernel
theorem d_Model_count_109 : decode b_Model_count 109 = .ok (.getfield 31, 3) := by decide +kernel
theorem d_Model_count_112 : decode b_Model_count 112 = .ok (.invokevirtual 254, 3) := by decide +kernel
theorem d_Model_count_115 : decode b_Model_count 115 = .ok (.ireturn, 1) := by decide +kernel
theorem d_Model_count_116 : decode b_Model_count 116 = .ok (.aload_n 0, 1) := by decide +kernel
theorem d_Model_count_117 : decode b_Model_count 117 = .ok (.getfield 162, 3) := by decide +kernel
theorem d_Model_count_120 : decode b_Model_count 120 = .ok (.ifCond .eq (8), 3) := by decide +kernel
theorem d_Model_count_123 : decode b_Model_count 123 = .ok (.bipush 48, 2) := by decide +kernel
theorem d_Model_count_125 : decode b_Model_count 125 = .ok (.goto (10), 3) := by decide +kernel
theorem d_Model_count_128 : decode b_Model_count 128 = .ok (.aload_n 0, 1) := by decide +kernel
theorem d_Model_count_129 : decode b_Model_count 129 = .ok (.getfield 31, 3) := by decide +kernel
theorem d_Model_count_132 : decode b_Model_count 132 = .ok (.getfield 169, 3) := by decide +kernel
theorem d_Model_count_135 : decode b_Model_count 135 = .ok (.ireturn, 1) := by decide +kernel
theorem d_Model_count_136 : decode b_Model_count 136 = .ok (.aload_n 0, 1) := by decide +kernel
theorem d_Model_count_137 : decode b_Model_count 137 = .ok (.getfield 140, 3) := by decide +kernel
theorem d_Model_count_140 : decode b_Model_count 140 = .ok (.ireturn, 1) := by decide +kernel
theorem d_Model_count_141 : decode b_Model_count 141 = .ok (.aload_n 0, 1) := by decide +kernel
theorem d_Model_count_142 : decode b_Model_count 142 = .ok (.getfield 143, 3) := by decide +kernel
theorem d_Model_count_145 : decode b_Model_count 145 = .ok (.ireturn, 1) := by decide +kernel
theorem d_Model_count_146 : decode b_Model_count 146 = .ok (.aload_n 0, 1) := by decide +kernel
theorem d_Model_count_147 : decode b_Model_count 147 = .ok (.getfield 176, 3) := by decide +kernel
theorem d_Model_count_150 : decode b_Model_count 150 = .ok (.ireturn, 1) := by decide +kernel
theorem d_Model_count_151 : decode b_Model_count 151 = .ok (.iconst (-1), 1) := by decide +kernel
theorem d_Model_count_152 : decode b_Model_count 152 = .ok (.ireturn, 1) := by decide +kernel
set_option maxHeartbeats 4000000 in
set_option maxRecDepth 100000 in
theorem c_Model_count_x (l : Launch) {dA : FieldType → ClassId} {D : va_G} {al : Nat → Nat} {ext : mv_Sh} {sk sv : Nat → Nat} (hi : mv_inj (mg dA D al ext)) (σ : mv_H) (hM : MI 74 108 σ) (n9 : Int32) : mv_C l y_Model_count (Cond.code y_Model_count b_Model_count 2 (Option.some Jvm.ClassFile.FieldType.int) :: ma) ({ frames := 1, cells := 0, slots := 0, locals := 20 }) (mg dA D al ext) (mK sk sv) [.ref (al 70), .int n9] σ (mv_Ri (fun v σ1 => QF 74 σ σ1)) := by
  refine mv_C.ofV (cc := b_Model_count) (nL := 2) (ret := (Option.some Jvm.ClassFile.FieldType.int)) (by decide +kernel) rfl hi (Nat.le_of_ble_eq_true rfl) ?_
  intro p e s m below meth c B hNs hr hnm hno
  have hN : 74 = 74 ∨ 74 = 108 := by decide
  refine mv_aload_n (pc := 0) B d_Model_count_0 rfl 0 rfl ?_
  refine mv_iconst (pc := 1) (v := 0) B d_Model_count_1 (by decide) ?_
  refine mv_putI (pc := 2) (ci := 11) (C := R_Model) (T := F_Model) (N := 16) B 2 rfl rfl (by decide) i_Model t_Model_ok n_Model (B.2.2.2.1 _ k_2047) rfl rfl rfl rfl d_Model_count_2 ?_
  refine mv_gen (fun S5 eS5 => ?_)
  have hF : QF 74 σ S5 := by rw [eS5]; exact QF.si Fx.rf (by decide)
  have hM := hM.qf hF hN
  have e11 := hF.sh hN
  clear eS5
  refine mv_iload_n (pc := 5) B d_Model_count_5 rfl 1 rfl ?_
  refine mv_tsw (pc := 6) B d_Model_count_6 (by decide) (by decide) ?_
  refine ⟨fun h6 => ?_, fun h6n0 => ?_⟩
  · skip
    refine mv_aload_n (pc := 52) B d_Model_count_52 rfl 0 rfl ?_
    refine mv_getI (pc := 53) (ci := 11) (C := R_Model) (T := F_Model) (N := 16) B 1 rfl rfl (by decide) i_Model (B.2.2.2.1 _ k_2046) rfl d_Model_count_53 ?_
    exact mv_iret (pc := 56) B hr rfl d_Model_count_56 (Nat.le_refl _) (Nat.le_refl _) ⟨_, rfl, hF⟩
  refine ⟨fun h6 => ?_, fun h6n1 => ?_⟩
  · skip
    refine mv_aload_n (pc := 57) B d_Model_count_57 rfl 0 rfl ?_
    refine mv_getI (pc := 58) (ci := 11) (C := R_Model) (T := F_Model) (N := 16) B 11 rfl rfl (by decide) i_Model (B.2.2.2.1 _ k_2056) rfl d_Model_count_58 ?_
    refine mv_if_eq (pc := 61) (tgt := 69) B d_Model_count_61 rfl (fun h61 => ?_) (fun h61 => ?_)
    · skip
      refine mv_aload_n (pc := 69) B d_Model_count_69 rfl 0 rfl ?_
      refine mv_getR (pc := 70) (ci := 11) (C := R_Model) (T := F_Model) (N := 16) B 9 rfl rfl (by decide) i_Model (B.2.2.2.1 _ k_2054) rfl hM.2.1 d_Model_count_70 ?_
      refine mv_callVi (pc := 73) (n := 0) (ci := 12) (C := R_Book) B (mK_ok sk sv) hNs rfl rfl (c_Book_lengthOf_x l hi _) rfl (ma_goodc kc_Book_lengthOf) (B.2.2.2.1 _ k_2602) (B.2.2.2.1 _ k_2603) (B.2.2.2.1 _ k_2604) (B.2.2.2.1 _ k_13) ⟨by decide +kernel, by decide +kernel, by decide +kernel⟩ rfl d_Model_count_73 rfl (Nat.le_of_ble_eq_true rfl) ⟨by decide, by decide⟩ ⟨by decide, by decide⟩ ⟨by decide, by decide⟩ (mv_noH hno _) (fun v73 σ73 h73 => ?_)
      have e73 := h73.symm
      subst e73
      exact mv_iret (pc := 76) B hr rfl d_Model_count_76 (Nat.le_refl _) (Nat.le_refl _) ⟨_, rfl, hF⟩
    · skip
      refine mv_bipush (pc := 64) (v := 32) B d_Model_count_64 (by decide) ?_
      refine mv_goto (pc := 66) (tgt := 76) B d_Model_count_66 rfl ?_
      exact mv_iret (pc := 76) B hr rfl d_Model_count_76 (Nat.le_refl _) (Nat.le_refl _) ⟨_, rfl, hF⟩
  refine ⟨fun h6 => ?_, fun h6n2 => ?_⟩
  · skip
    refine mv_aload_n (pc := 77) B d_Model_count_77 rfl 0 rfl ?_
    refine mv_getI (pc := 78) (ci := 11) (C := R_Model) (T := F_Model) (N := 16) B 11 rfl rfl (by decide) i_Model (B.2.2.2.1 _ k_2056) rfl d_Model_count_78 ?_
    refine mv_if_eq (pc := 81) (tgt := 88) B d_Model_count_81 rfl (fun h81 => ?_) (fun h81 => ?_)
    · skip
      refine mv_aload_n (pc := 88) B d_Model_count_88 rfl 0 rfl ?_
      refine mv_getR (pc := 89) (ci := 11) (C := R_Model) (T := F_Model) (N := 16) B 9 rfl rfl (by decide) i_Model (B.2.2.2.1 _ k_2054) rfl hM.2.1 d_Model_count_89 ?_
      refine mv_getI (pc := 92) (ci := 12) (C := R_Book) (T := F_Book) (N := 65) B 17 rfl rfl (by decide) i_Book (B.2.2.2.1 _ k_1861) rfl d_Model_count_92 ?_
      exact mv_iret (pc := 95) B hr rfl d_Model_count_95 (Nat.le_refl _) (Nat.le_refl _) ⟨_, rfl, hF⟩
    · skip
      refine mv_iconst (pc := 84) (v := 3) B d_Model_count_84 (by decide) ?_
      refine mv_goto (pc := 85) (tgt := 95) B d_Model_count_85 rfl ?_
      exact mv_iret (pc := 95) B hr rfl d_Model_count_95 (Nat.le_refl _) (Nat.le_refl _) ⟨_, rfl, hF⟩
  refine ⟨fun h6 => ?_, fun h6n3 => ?_⟩
  · skip
    refine mv_aload_n (pc := 96) B d_Model_count_96 rfl 0 rfl ?_
    refine mv_getI (pc := 97) (ci := 11) (C := R_Model) (T := F_Model) (N := 16) B 11 rfl rfl (by decide) i_Model (B.2.2.2.1 _ k_2056) rfl d_Model_count_97 ?_
    refine mv_if_eq (pc := 100) (tgt := 108) B d_Model_count_100 rfl (fun h100 => ?_) (fun h100 => ?_)
    · skip
      refine mv_aload_n (pc := 108) B d_Model_count_108 rfl 0 rfl ?_
      refine mv_getR (pc := 109) (ci := 11) (C := R_Model) (T := F_Model) (N := 16) B 9 rfl rfl (by decide) i_Model (B.2.2.2.1 _ k_2054) rfl hM.2.1 d_Model_count_109 ?_
      refine mv_callVi (pc := 112) (n := 0) (ci := 12) (C := R_Book) B (mK_ok sk sv) hNs rfl rfl (c_Book_cellsOfAll_x l hi _) rfl (ma_goodc kc_Book_cellsOfAll) (B.2.2.2.1 _ k_2607) (B.2.2.2.1 _ k_2608) (B.2.2.2.1 _ k_2609) (B.2.2.2.1 _ k_13) ⟨by decide +kernel, by decide +kernel, by decide +kernel⟩ rfl d_Model_count_112 rfl (Nat.le_of_ble_eq_true rfl) ⟨by decide, by decide⟩ ⟨by decide, by decide⟩ ⟨by decide, by decide⟩ (mv_noH hno _) (fun v112 σ112 h112 => ?_)
      have e112 := h112.symm
      subst e112
      exact mv_iret (pc := 115) B hr rfl d_Model_count_115 (Nat.le_refl _) (Nat.le_refl _) ⟨_, rfl, hF⟩
    · skip
      refine mv_ldc (pc := 103) (v := 32800) B (B.2.2.2.1 _ k_2606) d_Model_count_103 ?_
      refine mv_goto (pc := 105) (tgt := 115) B d_Model_count_105 rfl ?_
      exact mv_iret (pc := 115) B hr rfl d_Model_count_115 (Nat.le_refl _) (Nat.le_refl _) ⟨_, rfl, hF⟩
  refine ⟨fun h6 => ?_, fun h6n4 => ?_⟩
  · skip
    refine mv_aload_n (pc := 116) B d_Model_count_116 rfl 0 rfl ?_
    refine mv_getI (pc := 117) (ci := 11) (C := R_Model) (T := F_Model) (N := 16) B 11 rfl rfl (by decide) i_Model (B.2.2.2.1 _ k_2056) rfl d_Model_count_117 ?_
    refine mv_if_eq (pc := 120) (tgt := 128) B d_Model_count_120 rfl (fun h120 => ?_) (fun h120 => ?_)
    · skip
      refine mv_aload_n (pc := 128) B d_Model_count_128 rfl 0 rfl ?_
      refine mv_getR (pc := 129) (ci := 11) (C := R_Model) (T := F_Model) (N := 16) B 9 rfl rfl (by decide) i_Model (B.2.2.2.1 _ k_2054) rfl hM.2.1 d_Model_count_129 ?_
      refine mv_getI (pc := 132) (ci := 12) (C := R_Book) (T := F_Book) (N := 65) B 29 rfl rfl (by decide) i_Book (B.2.2.2.1 _ k_1875) rfl d_Model_count_132 ?_
      exact mv_iret (pc := 135) B hr rfl d_Model_count_135 (Nat.le_refl _) (Nat.le_refl _) ⟨_, rfl, hF⟩
    · skip
      refine mv_bipush (pc := 123) (v := 48) B d_Model_count_123 (by decide) ?_
      refine mv_goto (pc := 125) (tgt := 135) B d_Model_count_125 rfl ?_
      exact mv_iret (pc := 135) B hr rfl d_Model_count_135 (Nat.le_refl _) (Nat.le_refl _) ⟨_, rfl, hF⟩
  refine ⟨fun h6 => ?_, fun h6n5 => ?_⟩
  · skip
    refine mv_aload_n (pc := 136) B d_Model_count_136 rfl 0 rfl ?_
    refine mv_getI (pc := 137) (ci := 11) (C := R_Model) (T := F_Model) (N := 16) B 12 rfl rfl (by decide) i_Model (B.2.2.2.1 _ k_2057) rfl d_Model_count_137 ?_
    exact mv_iret (pc := 140) B hr rfl d_Model_count_140 (Nat.le_refl _) (Nat.le_refl _) ⟨_, rfl, hF⟩
  refine ⟨fun h6 => ?_, fun h6n6 => ?_⟩
  · skip
    refine mv_aload_n (pc := 141) B d_Model_count_141 rfl 0 rfl ?_
    refine mv_getI (pc := 142) (ci := 11) (C := R_Model) (T := F_Model) (N := 16) B 13 rfl rfl (by decide) i_Model (B.2.2.2.1 _ k_2058) rfl d_Model_count_142 ?_
    exact mv_iret (pc := 145) B hr rfl d_Model_count_145 (Nat.le_refl _) (Nat.le_refl _) ⟨_, rfl, hF⟩
  refine ⟨fun h6 => ?_, fun h6n7 => ?_⟩
  · skip
    refine mv_aload_n (pc := 146) B d_Model_count_146 rfl 0 rfl ?_
    refine mv_getI (pc := 147) (ci := 11) (C := R_Model) (T := F_Model) (N := 16) B 15 rfl rfl (by decide) i_Model (B.2.2.2.1 _ k_2060) rfl d_Model_count_147 ?_
    exact mv_iret (pc := 150) B hr rfl d_Model_count_150 (Nat.le_refl _) (Nat.le_refl _) ⟨_, rfl, hF⟩
  show mv_V _ _ _ _ _ _ _ _ _ _ _ _ _ _ _ _ 151 _ _
  refine mv_iconst (pc := 151) (v := -1) B d_Model_count_151 (by decide) ?_
  exact mv_iret (pc := 152) B hr rfl d_Model_count_152 (Nat.le_refl _) (Nat.le_refl _) ⟨_, rfl, hF⟩
set_option maxHeartbeats 4000000 in
set_option maxRecDepth 100000 in
theorem c_Model_count_y (l : Launch) {dA : FieldType → ClassId} {D : va_G} {al : Nat → Nat} {ext : mv_Sh} {sk sv : Nat → Nat} (hi : mv_inj (mg dA D al ext)) (σ : mv_H) (hM : MI 108 74 σ) (n9 : Int32) : mv_C l y_Model_count (Cond.code y_Model_count b_Model_count 2 (Option.some Jvm.ClassFile.FieldType.int) :: ma) ({ frames := 1, cells := 0, slots := 0, locals := 20 }) (mg dA D al ext) (mK sk sv) [.ref (al 70), .int n9] σ (mv_Ri (fun v σ1 => QF 108 σ σ1)) := by
  refine mv_C.ofV (cc := b_Model_count) (nL := 2) (ret := (Option.some Jvm.ClassFile.FieldType.int)) (by decide +kernel) rfl hi (Nat.le_of_ble_eq_true rfl) ?_
  intro p e s m below meth c B hNs hr hnm hno
  have hN : 108 = 74 ∨ 108 = 108 := by decide
  refine mv_aload_n (pc := 0) B d_Model_count_0 rfl 0 rfl ?_
  refine mv_iconst (pc := 1) (v := 0) B d_Model_count_1 (by decide) ?_
  refine mv_putI (pc := 2) (ci := 11) (C := R_Model) (T := F_Model) (N := 16) B 2 rfl rfl (by decide) i_Model t_Model_ok n_Model (B.2.2.2.1 _ k_2047) rfl rfl rfl rfl d_Model_count_2 ?_
  refine mv_gen (fun S5 eS5 => ?_)
  have hF : QF 108 σ S5 := by rw [eS5]; exact QF.si Fx.rf (by decide)
  have hM := hM.qf hF hN
  have e11 := hF.sh hN
  clear eS5
  refine mv_iload_n (pc := 5) B d_Model_count_5 rfl 1 rfl ?_
  refine mv_tsw (pc := 6) B d_Model_count_6 (by decide) (by decide) ?_
  refine ⟨fun h6 => ?_, fun h6n0 => ?_⟩
  · skip
    refine mv_aload_n (pc := 52) B d_Model_count_52 rfl 0 rfl ?_
    refine mv_getI (pc := 53) (ci := 11) (C := R_Model) (T := F_Model) (N := 16) B 1 rfl rfl (by decide) i_Model (B.2.2.2.1 _ k_2046) rfl d_Model_count_53 ?_
    exact mv_iret (pc := 56) B hr rfl d_Model_count_56 (Nat.le_refl _) (Nat.le_refl _) ⟨_, rfl, hF⟩
  refine ⟨fun h6 => ?_, fun h6n1 => ?_⟩
  · skip
    refine mv_aload_n (pc := 57) B d_Model_count_57 rfl 0 rfl ?_
    refine mv_getI (pc := 58) (ci := 11) (C := R_Model) (T := F_Model) (N := 16) B 11 rfl rfl (by decide) i_Model (B.2.2.2.1 _ k_2056) rfl d_Model_count_58 ?_
    refine mv_if_eq (pc := 61) (tgt := 69) B d_Model_count_61 rfl (fun h61 => ?_) (fun h61 => ?_)
    · skip
      refine mv_aload_n (pc := 69) B d_Model_count_69 rfl 0 rfl ?_
      refine mv_getR (pc := 70) (ci := 11) (C := R_Model) (T := F_Model) (N := 16) B 9 rfl rfl (by decide) i_Model (B.2.2.2.1 _ k_2054) rfl hM.2.1 d_Model_count_70 ?_
      refine mv_callVi (pc := 73) (n := 0) (ci := 12) (C := R_Book) B (mK_ok sk sv) hNs rfl rfl (c_Book_lengthOf_y l hi _) rfl (ma_goodc kc_Book_lengthOf) (B.2.2.2.1 _ k_2602) (B.2.2.2.1 _ k_2603) (B.2.2.2.1 _ k_2604) (B.2.2.2.1 _ k_13) ⟨by decide +kernel, by decide +kernel, by decide +kernel⟩ rfl d_Model_count_73 rfl (Nat.le_of_ble_eq_true rfl) ⟨by decide, by decide⟩ ⟨by decide, by decide⟩ ⟨by decide, by decide⟩ (mv_noH hno _) (fun v73 σ73 h73 => ?_)
      have e73 := h73.symm
      subst e73
      exact mv_iret (pc := 76) B hr rfl d_Model_count_76 (Nat.le_refl _) (Nat.le_refl _) ⟨_, rfl, hF⟩
    · skip
      refine mv_bipush (pc := 64) (v := 32) B d_Model_count_64 (by decide) ?_
      refine mv_goto (pc := 66) (tgt := 76) B d_Model_count_66 rfl ?_
      exact mv_iret (pc := 76) B hr rfl d_Model_count_76 (Nat.le_refl _) (Nat.le_refl _) ⟨_, rfl, hF⟩
  refine ⟨fun h6 => ?_, fun h6n2 => ?_⟩
  · skip
    refine mv_aload_n (pc := 77) B d_Model_count_77 rfl 0 rfl ?_
    refine mv_getI (pc := 78) (ci := 11) (C := R_Model) (T := F_Model) (N := 16) B 11 rfl rfl (by decide) i_Model (B.2.2.2.1 _ k_2056) rfl d_Model_count_78 ?_
    refine mv_if_eq (pc := 81) (tgt := 88) B d_Model_count_81 rfl (fun h81 => ?_) (fun h81 => ?_)
    · skip
      refine mv_aload_n (pc := 88) B d_Model_count_88 rfl 0 rfl ?_
      refine mv_getR (pc := 89) (ci := 11) (C := R_Model) (T := F_Model) (N := 16) B 9 rfl rfl (by decide) i_Model (B.2.2.2.1 _ k_2054) rfl hM.2.1 d_Model_count_89 ?_
      refine mv_getI (pc := 92) (ci := 12) (C := R_Book) (T := F_Book) (N := 65) B 17 rfl rfl (by decide) i_Book (B.2.2.2.1 _ k_1861) rfl d_Model_count_92 ?_
      exact mv_iret (pc := 95) B hr rfl d_Model_count_95 (Nat.le_refl _) (Nat.le_refl _) ⟨_, rfl, hF⟩
    · skip
      refine mv_iconst (pc := 84) (v := 3) B d_Model_count_84 (by decide) ?_
      refine mv_goto (pc := 85) (tgt := 95) B d_Model_count_85 rfl ?_
      exact mv_iret (pc := 95) B hr rfl d_Model_count_95 (Nat.le_refl _) (Nat.le_refl _) ⟨_, rfl, hF⟩
  refine ⟨fun h6 => ?_, fun h6n3 => ?_⟩
  · skip
    refine mv_aload_n (pc := 96) B d_Model_count_96 rfl 0 rfl ?_
    refine mv_getI (pc := 97) (ci := 11) (C := R_Model) (T := F_Model) (N := 16) B 11 rfl rfl (by decide) i_Model (B.2.2.2.1 _ k_2056) rfl d_Model_count_97 ?_
    refine mv_if_eq (pc := 100) (tgt := 108) B d_Model_count_100 rfl (fun h100 => ?_) (fun h100 => ?_)
    · skip
      refine mv_aload_n (pc := 108) B d_Model_count_108 rfl 0 rfl ?_
      refine mv_getR (pc := 109) (ci := 11) (C := R_Model) (T := F_Model) (N := 16) B 9 rfl rfl (by decide) i_Model (B.2.2.2.1 _ k_2054) rfl hM.2.1 d_Model_count_109 ?_
      refine mv_callVi (pc := 112) (n := 0) (ci := 12) (C := R_Book) B (mK_ok sk sv) hNs rfl rfl (c_Book_cellsOfAll_y l hi _) rfl (ma_goodc kc_Book_cellsOfAll) (B.2.2.2.1 _ k_2607) (B.2.2.2.1 _ k_2608) (B.2.2.2.1 _ k_2609) (B.2.2.2.1 _ k_13) ⟨by decide +kernel, by decide +kernel, by decide +kernel⟩ rfl d_Model_count_112 rfl (Nat.le_of_ble_eq_true rfl) ⟨by decide, by decide⟩ ⟨by decide, by decide⟩ ⟨by decide, by decide⟩ (mv_noH hno _) (fun v112 σ112 h112 => ?_)
      have e112 := h112.symm
      subst e112
      exact mv_iret (pc := 115) B hr rfl d_Model_count_115 (Nat.le_refl _) (Nat.le_refl _) ⟨_, rfl, hF⟩
    · skip
      refine mv_ldc (pc := 103) (v := 32800) B (B.2.2.2.1 _ k_2606) d_Model_count_103 ?_
      refine mv_goto (pc := 105) (tgt := 115) B d_Model_count_105 rfl ?_
      exact mv_iret (pc := 115) B hr rfl d_Model_count_115 (Nat.le_refl _) (Nat.le_refl _) ⟨_, rfl, hF⟩
  refine ⟨fun h6 => ?_, fun h6n4 => ?_⟩
  · skip
    refine mv_aload_n (pc := 116) B d_Model_count_116 rfl 0 rfl ?_
    refine mv_getI (pc := 117) (ci := 11) (C := R_Model) (T := F_Model) (N := 16) B 11 rfl rfl (by decide) i_Model (B.2.2.2.1 _ k_2056) rfl d_Model_count_117 ?_
    refine mv_if_eq (pc := 120) (tgt := 128) B d_Model_count_120 rfl (fun h120 => ?_) (fun h120 => ?_)
    · skip
      refine mv_aload_n (pc := 128) B d_Model_count_128 rfl 0 rfl ?_
      refine mv_getR (pc := 129) (ci := 11) (C := R_Model) (T := F_Model) (N := 16) B 9 rfl rfl (by decide) i_Model (B.2.2.2.1 _ k_2054) rfl hM.2.1 d_Model_count_129 ?_
      refine mv_getI (pc := 132) (ci := 12) (C := R_Book) (T := F_Book) (N := 65) B 29 rfl rfl (by decide) i_Book (B.2.2.2.1 _ k_1875) rfl d_Model_count_132 ?_
      exact mv_iret (pc := 135) B hr rfl d_Model_count_135 (Nat.le_refl _) (Nat.le_refl _) ⟨_, rfl, hF⟩
    · skip
      refine mv_bipush (pc := 123) (v := 48) B d_Model_count_123 (by decide) ?_
      refine mv_goto (pc := 125) (tgt := 135) B d_Model_count_125 rfl ?_
      exact mv_iret (pc := 135) B hr rfl d_Model_count_135 (Nat.le_refl _) (Nat.le_refl _) ⟨_, rfl, hF⟩
  refine ⟨fun h6 => ?_, fun h6n5 => ?_⟩
  · skip
    refine mv_aload_n (pc := 136) B d_Model_count_136 rfl 0 rfl ?_
    refine mv_getI (pc := 137) (ci := 11) (C := R_Model) (T := F_Model) (N := 16) B 12 rfl rfl (by decide) i_Model (B.2.2.2.1 _ k_2057) rfl d_Model_count_137 ?_
    exact mv_iret (pc := 140) B hr rfl d_Model_count_140 (Nat.le_refl _) (Nat.le_refl _) ⟨_, rfl, hF⟩
  refine ⟨fun h6 => ?_, fun h6n6 => ?_⟩
  · skip
    refine mv_aload_n (pc := 141) B d_Model_count_141 rfl 0 rfl ?_
    refine mv_getI (pc := 142) (ci := 11) (C := R_Model) (T := F_Model) (N := 16) B 13 rfl rfl (by decide) i_Model (B.2.2.2.1 _ k_2058) rfl d_Model_count_142 ?_
    exact mv_iret (pc := 145) B hr rfl d_Model_count_145 (Nat.le_refl _) (Nat.le_refl _) ⟨_, rfl, hF⟩
  refine ⟨fun h6 => ?_, fun h6n7 => ?_⟩
  · skip
    refine mv_aload_n (pc := 146) B d_Model_count_146 rfl 0 rfl ?_
    refine mv_getI (pc := 147) (ci := 11) (C := R_Model) (T := F_Model) (N := 16) B 15 rfl rfl (by decide) i_Model (B.2.2.2.1 _ k_2060) rfl d_Model_count_147 ?_
    exact mv_iret (pc := 150) B hr rfl d_Model_count_150 (Nat.le_refl _) (Nat.le_refl _) ⟨_, rfl, hF⟩
  show mv_V _ _ _ _ _ _ _ _ _ _ _ _ _ _ _ _ 151 _ _
  refine mv_iconst (pc := 151) (v := -1) B d_Model_count_151 (by decide) ?_
  exact mv_iret (pc := 152) B hr rfl d_Model_count_152 (Nat.le_refl _) (Nat.le_refl _) ⟨_, rfl, hF⟩
