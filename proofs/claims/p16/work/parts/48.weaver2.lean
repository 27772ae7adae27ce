/-! Weaver: its state; the small ones -/
/-- what the reading of a TEXT may change, once its TOKENS are cut -/
abbrev WT (P : Nat) : mv_H → mv_H → Prop := Fr (fun o k => o = 2 ∨ (o = 3 ∧ 7 ≤ k ∧ k ≤ 9) ∨ o = 13 ∨ o = 21 ∨ o = 22 ∨ o = P) (fun o => (14 ≤ o ∧ o ≤ 20) ∨ (23 ≤ o ∧ o ≤ 31) ∨ (P + 1 ≤ o ∧ o ≤ P + 9)) (fun o => o = 18 ∨ o = P + 5 ∨ o = P + 6 ∨ o = P + 10)
theorem WT0 {P : Nat} {σ : mv_H} : WT P σ σ := Fr.rf
theorem RF.wt {P : Nat} {σ τ : mv_H} (h : RF P σ τ) : WT P σ τ := h.up (fun o k q => by omega) (fun o q => by omega) (fun o q => by omega)
theorem TE.wt {P : Nat} {σ τ : mv_H} {t len n z sz : Nat} (h : TE σ t len n z sz) (g : WT P σ τ) (hP : PQ P) (ht : t = 1 ∨ t = 144) : TE τ t len n z sz := by
  unfold PQ at hP
  exact h.fr (g.1 3 6 (by omega)) (g.1 7 5 (by omega)) (g.2.1 4 (by omega)) (g.2.1 5 (by omega)) (g.2.2.1 6 (by omega)) (g.2.1 8 (by omega)) (g.2.1 9 (by omega)) (g.2.1 10 (by omega)) (g.2.1 11 (by omega)) (g.2.1 t (by omega))
/-- what stays while a TEXT is read -/
def WG (P R M : Nat) (ext : mv_Sh) (σ : mv_H) (t tn len n z sz : Nat) : Prop := Rw P (mv_r σ) ∧ tx ext σ t tn len ∧ TE σ t len n z sz ∧ (M = 512 ∨ nCd (mv_a σ 4) sz ≤ M) ∧ len ≤ R ∧ len ≤ 10240
theorem WG.wt {P R M : Nat} {ext : mv_Sh} {σ τ : mv_H} {t tn len n z sz : Nat} (h : WG P R M ext σ t tn len n z sz) (g : WT P σ τ) (hP : PQ P) : WG P R M ext τ t tn len n z sz := by
  obtain ⟨h1, h2, h3, h4, h5⟩ := h
  have ht := h2.2.2.2.2.2.2
  refine ⟨by rw [g.2.2.2.2]; exact h1, ?_, h3.wt g hP ht, ?_, h5⟩
  · unfold PQ at hP
    obtain ⟨k1, k2, k3, k4, k5⟩ := h2
    exact ⟨by rw [g.2.2.2.2]; exact k1, by rw [g.2.2.2.2]; exact k2, k3, by rw [g.1 3 5 (by omega)]; exact k4, k5⟩
  · unfold PQ at hP
    rw [g.2.1 4 (by omega)]
    exact h4
/-- NAMES, THINGS and ops; holds also where a TEXT went wrong -/
def WN (P M : Nat) (σ : mv_H) (n th sl no : Nat) : Prop := NM σ n th ∧ Th P σ th sl ∧ Ns σ ∧ ((mv_i σ 13 7).toInt ≤ (mv_i σ 13 9).toInt ∧ (mv_i σ 13 9).toInt ≤ 64) ∧ (∃ ac : Nat, (mv_i σ P 7).toInt = ac ∧ ac ≤ 65536 ∧ sl ≤ ac + th) ∧ (mv_i σ P 10).toInt = no ∧ no ≤ M
theorem WN.fr {P M : Nat} {σ τ : mv_H} {n th sl no : Nat} (h : WN P M σ n th sl no) (e13 : mv_i τ 13 = mv_i σ 13) (e0 : mv_i τ P 0 = mv_i σ P 0) (e1 : mv_i τ P 1 = mv_i σ P 1) (e6 : mv_i τ P 6 = mv_i σ P 6) (e7 : mv_i τ P 7 = mv_i σ P 7) (e8 : mv_i τ P 8 = mv_i σ P 8) (e9 : mv_i τ P 9 = mv_i σ P 9) (e10 : mv_i τ P 10 = mv_i σ P 10) (a14 : mv_a τ 14 = mv_a σ 14) (a15 : mv_a τ 15 = mv_a σ 15) (a19 : mv_a τ 19 = mv_a σ 19) (a2 : mv_a τ (P + 2) = mv_a σ (P + 2)) (a3 : mv_a τ (P + 3) = mv_a σ (P + 3)) : WN P M τ n th sl no := by
  unfold WN NM Th Ns at h ⊢
  rw [e13, e0, e1, e6, e7, e8, e9, e10, a14, a15, a19, a2, a3]
  exact h
theorem WN.rf {P M : Nat} {σ τ : mv_H} {n th sl no : Nat} (h : WN P M σ n th sl no) (g : RF P σ τ) (hP : PQ P) : WN P M τ n th sl no := by
  unfold PQ at hP
  exact h.fr (funext fun k => g.1 13 k (by omega)) (g.1 P 0 (by omega)) (g.1 P 1 (by omega)) (g.1 P 6 (by omega)) (g.1 P 7 (by omega)) (g.1 P 8 (by omega)) (g.1 P 9 (by omega)) (g.1 P 10 (by omega)) (g.2.1 14 (by omega)) (g.2.1 15 (by omega)) (g.2.1 19 (by omega)) (g.2.1 (P + 2) (by omega)) (g.2.1 (P + 3) (by omega))
/-- where the reader is between statements, bl blocks being open -/
def WS (P : Nat) (σ : mv_H) (sz th s a ns no : Nat) (bl : List Bk) : Prop :=
  ((mv_i σ 3 7).toInt = a ∧ (mv_i σ 3 9).toInt < 0 ∧ (bl.length : Int) ≤ (mv_i σ 3 8).toInt ∧ (mv_i σ 3 8).toInt ≤ 60 ∧ a < sz ∧ s + 2 ≤ a ∧ 2 * ns + 2 ≤ a ∧ no ≤ nCd (mv_a σ 4) a) ∧ ((mv_i σ 2 15).toInt = bl.length ∧ BkR (mv_a σ 28) (mv_a σ 29) (mv_a σ 30) (mv_a σ 31) (mv_b σ (P + 10)) (mv_i σ 13 7).toInt bl ∧ Bo (mv_a σ (P + 9)) s bl) ∧ ((mv_i σ P 17).toInt = s ∧ nSet (mv_a σ (P + 9)) s = ns ∧ (mv_i σ 21 0 = 0 → ∃ hg, CS th s (mv_a σ (P + 9)) (mv_b σ (P + 10)) (mv_a σ (P + 7)) no bl hg 0))
/-- what an EXPR is for -/
def Gl (gl : Int32) (bs bd B : Nat) (gi : Int) (n th : Nat) (lets : Int) : Prop := (gl = 0 ∧ bs = 0 ∧ bd = B ∧ (0 ≤ gi → gi < n ∧ lets < 64)) ∨ (gl = 1 ∧ bs = 0 ∧ bd = B + 1 ∧ (0 ≤ gi → gi < th)) ∨ (gl = 2 ∧ bs = 0 ∧ bd = B ∧ (0 ≤ gi → gi < th)) ∨ (gl = 3 ∧ bs = 1 ∧ bd = B ∧ (0 ≤ gi → gi < th)) ∨ (gl = 4 ∧ bs = 0 ∧ bd = B)
/-- the chain that waits for the block behind a condition -/
def Gx (gl : Int32) (g0 : Nat → Int64) (x : Int32) (bl ol : List Bk) : Prop := (¬ gl = 4 ∧ ol = bl) ∨ (gl = 4 ∧ ∃ ex : List Nat, ol = (-1, ex) :: bl ∧ Lk g0 x.toInt ex ∧ ∀ y ∈ ex, ∀ b ∈ bl, ∀ y' ∈ b.2, y' < y)
/-- where the reader is in an EXPR -/
def WE (P : Nat) (σ : mv_H) (n sz th no a v : Nat) : Prop := ∃ (e0 bs bd s ns : Nat) (f0 : Nat → Int32) (g0 : Nat → Int64) (bl ol : List Bk) (ms : List Mk),
  (XM P th e0 bs (BLx th e0 f0 g0 (mv_a σ (P + 7)) no ol (mv_i σ 2 7 = 4 ∨ 0 ≤ (mv_i σ 2 9).toInt)) f0 g0 ns σ ms (sm wt ms + v) (sm wr ms + v) s ∧ TI σ sz bd ms s a) ∧ (¬ bl = [] ∧ (mv_i σ 2 15).toInt = bl.length ∧ BkR (mv_a σ 28) (mv_a σ 29) (mv_a σ 30) (mv_a σ 31) g0 (mv_i σ 13 7).toInt bl ∧ Bo f0 e0 ol ∧ Gl (mv_i σ 2 7) bs bd bl.length (mv_i σ 2 9).toInt n th (mv_i σ 13 9).toInt ∧ Gx (mv_i σ 2 7) g0 (mv_i σ 2 10) bl ol) ∧ (mv_i σ 2 7 = 1 ∨ (0 ≤ (mv_i σ 2 8).toInt ∧ (mv_i σ 2 8).toInt < 32770)) ∧ 2 * ns + 2 ≤ a ∧ (mv_i σ 2 7 = 1 ∨ mv_i σ 2 7 = 2 ∨ mv_i σ 2 7 = 3 → 2 * ns + 4 ≤ a) ∧ no ≤ nCd (mv_a σ 4) a
/-- the reader, by its mode -/
def WM (P : Nat) (σ : mv_H) (n sz th no a : Nat) : Prop := (mv_i σ 2 6 = 0 ∧ ∃ s ns, WS P σ sz th s a ns no []) ∨ (mv_i σ 2 6 = 1 ∧ ∃ s ns bl, ¬ bl = [] ∧ WS P σ sz th s a ns no bl) ∨ (mv_i σ 2 6 = 2 ∧ WE P σ n sz th no a 0) ∨ (mv_i σ 2 6 = 3 ∧ WE P σ n sz th no a 1)
/-- the end of a turn -/
def TP (P M : Nat) (σ σ1 : mv_H) (n sz a : Nat) : Prop := WT P σ σ1 ∧ Mt (mv_a σ1 24) ∧ ∃ th sl no, WN P M σ1 n th sl no ∧ (0 ≤ (mv_i σ1 3 9).toInt ∨ ∃ a2, a < a2 ∧ WM P σ1 n sz th no a2)
theorem nCd_mono (f : Nat → Int32) {a b : Nat} (h : a ≤ b) : nCd f a ≤ nCd f b := by
  induction b with
  | zero => have : a = 0 := by omega
            subst this; exact Nat.le_refl _
  | succ b ih =>
    by_cases e : a = b + 1
    · subst e; exact Nat.le_refl _
    · have := ih (by omega)
      show nCd f a ≤ nCd f b + _
      omega
section WTS
variable {P : Nat} {σ τ : mv_H}
theorem WT.tk3 (h : WT P σ τ) (a d w : Int32) : WT P σ (tk3 τ a d w) := ((h.si (Or.inr (Or.inl ⟨rfl, by omega, by omega⟩))).si (Or.inr (Or.inl ⟨rfl, by omega, by omega⟩))).si (Or.inr (Or.inl ⟨rfl, by omega, by omega⟩))
theorem WT.w (h : WT P σ τ) (k : Nat) (v : Int32) : WT P σ (mv_si τ 2 k v) := h.si (Or.inl rfl)
theorem WT.e (h : WT P σ τ) (k : Nat) (v : Int32) : WT P σ (mv_si τ 22 k v) := h.si (Or.inr (Or.inr (Or.inr (Or.inr (Or.inl rfl)))))
theorem WT.p (h : WT P σ τ) (k : Nat) (v : Int32) : WT P σ (mv_si τ P k v) := h.si (Or.inr (Or.inr (Or.inr (Or.inr (Or.inr rfl)))))
theorem WT.n (h : WT P σ τ) (k : Nat) (v : Int32) : WT P σ (mv_si τ 13 k v) := h.si (Or.inr (Or.inr (Or.inl rfl)))
theorem WT.tell (h : WT P σ τ) (x y : Int32) : WT P σ (ex_tell τ x y) := (h.si (Or.inr (Or.inr (Or.inr (Or.inl rfl))))).si (Or.inr (Or.inr (Or.inr (Or.inl rfl))))
theorem WT.emit (h : WT P σ τ) (d : Int32) (w : Int64) : WT P σ (pr_emit P τ d w) := h.tr (RF0.emit d w).wt
end WTS
def y_Weaver_tell : MethodName := ⟨"MachineLoom$Weaver", "tell", "(II)V"⟩
abbrev b_Weaver_tell : ByteArray := prog_12_method_4_code
theorem kc_Weaver_tell : Cond.code y_Weaver_tell b_Weaver_tell 3 (Option.none : Option Jvm.ClassFile.FieldType) ∈ ma := ma_of (tb_6 _ (List.mem_of_getElem? (i := 85) rfl)) rfl
theorem k_230 : (Jvm.Cond.fieldLink "MachineLoom$Weaver" (34 : Nat) "MachineLoom$Weaver" "faults" "LMachineLoom$Faults;") ∈ ma := ma_of (tb_1 _ (List.mem_of_getElem? (i := 230) rfl)) rfl
theorem k_228 : (Jvm.Cond.fieldLink "MachineLoom$Weaver" (12 : Nat) "MachineLoom$Weaver" "tokens" "LMachineLoom$Tokens;") ∈ ma := ma_of (tb_1 _ (List.mem_of_getElem? (i := 228) rfl)) rfl
theorem k_91 : (Jvm.Cond.fieldLink "MachineLoom$Weaver" (136 : Nat) "MachineLoom$Tokens" "places" "[I") ∈ ma := ma_of (tb_1 _ (List.mem_of_getElem? (i := 91) rfl)) rfl
theorem k_1286 : (Jvm.Cond.methodLink "MachineLoom$Weaver" (103 : Nat) ({ cls := "MachineLoom$Faults", name := "tell", desc := "(II)V" } : Jvm.MethodName)) ∈ ma := ma_of (tb_6 _ (List.mem_of_getElem? (i := 86) rfl)) rfl
theorem d_Weaver_tell_0 : decode b_Weaver_tell 0 = .ok (.aload_n 0, 1) := by decide +kernel
theorem d_Weaver_tell_1 : decode b_Weaver_tell 1 = .ok (.getfield 34, 3) := by decide +kernel
theorem d_Weaver_tell_4 : decode b_Weaver_tell 4 = .ok (.aload_n 0, 1) := by decide +kernel
theorem d_Weaver_tell_5 : decode b_Weaver_tell 5 = .ok (.getfield 12, 3) := by decide +kernel
theorem d_Weaver_tell_8 : decode b_Weaver_tell 8 = .ok (.getfield 136, 3) := by decide +kernel
theorem d_Weaver_tell_11 : decode b_Weaver_tell 11 = .ok (.iload_n 1, 1) := by decide +kernel
theorem d_Weaver_tell_12 : decode b_Weaver_tell 12 = .ok (.iaload, 1) := by decide +kernel
theorem d_Weaver_tell_13 : decode b_Weaver_tell 13 = .ok (.iload_n 2, 1) := by decide +kernel
theorem d_Weaver_tell_14 : decode b_Weaver_tell 14 = .ok (.invokevirtual 103, 3) := by decide +kernel
theorem d_Weaver_tell_17 : decode b_Weaver_tell 17 = .ok (.return_, 1) := by decide +kernel
set_option maxHeartbeats 4000000 in
set_option maxRecDepth 100000 in
theorem c_Weaver_tell (l : Launch) {dA : FieldType → ClassId} {D : va_G} {al : Nat → Nat} {ext : mv_Sh} {sk sv : Nat → Nat} (hi : mv_inj (mg dA D al ext)) (σ : mv_H) (t9 b9 : Int32) (hsh : mh (mv_r σ)) (gt0 : 0 ≤ t9.toInt) (gt1 : t9.toInt < 32770) (hb9 : ¬ b9 = 0) : mv_C l y_Weaver_tell (Cond.code y_Weaver_tell b_Weaver_tell 3 (Option.none : Option Jvm.ClassFile.FieldType) :: ma) ({ frames := 1, cells := 0, slots := 0, locals := 22 }) (mg dA D al ext) (mK sk sv) [.ref (al 2), .int t9, .int b9] σ (mv_Rv (fun σ1 => ∃ x y, σ1 = ex_tell σ x y ∧ ¬ x = 0)) := by
  refine mv_C.ofV (cc := b_Weaver_tell) (nL := 3) (ret := (Option.none : Option Jvm.ClassFile.FieldType)) (by decide +kernel) rfl hi (Nat.le_of_ble_eq_true rfl) ?_
  intro p e s m below meth c B hNs hr hnm hno
  refine mv_aload_n (pc := 0) B d_Weaver_tell_0 rfl 0 rfl ?_
  refine mv_getR (pc := 1) (ci := 1) (C := R_Weaver) (T := F_Weaver) (N := 16) B 2 rfl rfl (by decide) i_Weaver (B.2.2.2.1 _ k_230) rfl (hsh _ 2 _ rfl) d_Weaver_tell_1 ?_
  refine mv_aload_n (pc := 4) B d_Weaver_tell_4 rfl 0 rfl ?_
  refine mv_getR (pc := 5) (ci := 1) (C := R_Weaver) (T := F_Weaver) (N := 16) B 0 rfl rfl (by decide) i_Weaver (B.2.2.2.1 _ k_228) rfl (hsh _ 0 _ rfl) d_Weaver_tell_5 ?_
  refine mv_getR (pc := 8) (ci := 2) (C := R_Tokens) (T := F_Tokens) (N := 10) B 1 rfl rfl (by decide) i_Tokens (B.2.2.2.1 _ k_91) rfl (hsh _ 1 _ rfl) d_Weaver_tell_8 ?_
  refine mv_iload_n (pc := 11) B d_Weaver_tell_11 rfl 1 rfl ?_
  refine mv_iald (pc := 12) B rfl (i32_in gt0 gt1) d_Weaver_tell_12 ?_
  refine mv_iload_n (pc := 13) B d_Weaver_tell_13 rfl 2 rfl ?_
  refine mv_callVv (pc := 14) (n := 2) (ci := 5) (C := R_Faults) B (mK_ok sk sv) hNs rfl rfl (c_Faults_tell l hi _ _ _) rfl (ma_goodc kc_Faults_tell) (B.2.2.2.1 _ k_1286) (B.2.2.2.1 _ k_1287) (B.2.2.2.1 _ k_1288) (B.2.2.2.1 _ k_6) ⟨by decide +kernel, by decide +kernel, by decide +kernel⟩ rfl d_Weaver_tell_14 rfl (Nat.le_of_ble_eq_true rfl) ⟨by decide, by decide⟩ ⟨by decide, by decide⟩ ⟨by decide, by decide⟩ (mv_noH hno _) (fun σ14 h14 => ?_)
  exact mv_vret (pc := 17) B hr d_Weaver_tell_17 (Nat.le_refl _) (Nat.le_refl _) ⟨rfl, tell_n hb9 h14⟩
def y_Weaver_symbolOf : MethodName := ⟨"MachineLoom$Weaver", "symbolOf", "(I)I"⟩
abbrev b_Weaver_symbolOf : ByteArray := prog_12_method_5_code
theorem kc_Weaver_symbolOf : Cond.code y_Weaver_symbolOf b_Weaver_symbolOf 2 (Option.some Jvm.ClassFile.FieldType.int) ∈ ma := ma_of (tb_6 _ (List.mem_of_getElem? (i := 115) rfl)) rfl
theorem k_94 : (Jvm.Cond.fieldLink "MachineLoom$Weaver" (139 : Nat) "MachineLoom$Tokens" "numbers" "[J") ∈ ma := ma_of (tb_1 _ (List.mem_of_getElem? (i := 94) rfl)) rfl
theorem d_Weaver_symbolOf_0 : decode b_Weaver_symbolOf 0 = .ok (.aload_n 0, 1) := by decide +kernel
theorem d_Weaver_symbolOf_1 : decode b_Weaver_symbolOf 1 = .ok (.getfield 12, 3) := by decide +kernel
theorem d_Weaver_symbolOf_4 : decode b_Weaver_symbolOf 4 = .ok (.getfield 139, 3) := by decide +kernel
theorem d_Weaver_symbolOf_7 : decode b_Weaver_symbolOf 7 = .ok (.iload_n 1, 1) := by decide +kernel
theorem d_Weaver_symbolOf_8 : decode b_Weaver_symbolOf 8 = .ok (.laload, 1) := by decide +kernel
theorem d_Weaver_symbolOf_9 : decode b_Weaver_symbolOf 9 = .ok (.l2i, 1) := by decide +kernel
theorem d_Weaver_symbolOf_10 : decode b_Weaver_symbolOf 10 = .ok (.ireturn, 1) := by decide +kernel
set_option maxHeartbeats 4000000 in
set_option maxRecDepth 100000 in
theorem c_Weaver_symbolOf (l : Launch) {dA : FieldType → ClassId} {D : va_G} {al : Nat → Nat} {ext : mv_Sh} {sk sv : Nat → Nat} (hi : mv_inj (mg dA D al ext)) (σ : mv_H) (t9 : Int32) (hsh : mh (mv_r σ)) (gt0 : 0 ≤ t9.toInt) (gt1 : t9.toInt < 32770) : mv_C l y_Weaver_symbolOf (Cond.code y_Weaver_symbolOf b_Weaver_symbolOf 2 (Option.some Jvm.ClassFile.FieldType.int) :: ma) ({ frames := 0, cells := 0, slots := 0, locals := 0 }) (mg dA D al ext) (mK sk sv) [.ref (al 2), .int t9] σ (mv_Ri (fun v σ1 => σ1 = σ ∧ v = (mv_b σ 6 t9.toNatClampNeg).toInt32)) := by
  refine mv_C.ofV (cc := b_Weaver_symbolOf) (nL := 2) (ret := (Option.some Jvm.ClassFile.FieldType.int)) (by decide +kernel) rfl hi (Nat.le_of_ble_eq_true rfl) ?_
  intro p e s m below meth c B hNs hr hnm hno
  refine mv_aload_n (pc := 0) B d_Weaver_symbolOf_0 rfl 0 rfl ?_
  refine mv_getR (pc := 1) (ci := 1) (C := R_Weaver) (T := F_Weaver) (N := 16) B 0 rfl rfl (by decide) i_Weaver (B.2.2.2.1 _ k_228) rfl (hsh _ 0 _ rfl) d_Weaver_symbolOf_1 ?_
  refine mv_getR (pc := 4) (ci := 2) (C := R_Tokens) (T := F_Tokens) (N := 10) B 2 rfl rfl (by decide) i_Tokens (B.2.2.2.1 _ k_94) rfl (hsh _ 2 _ rfl) d_Weaver_symbolOf_4 ?_
  refine mv_iload_n (pc := 7) B d_Weaver_symbolOf_7 rfl 1 rfl ?_
  refine mv_lald (pc := 8) B rfl (i32_in gt0 gt1) d_Weaver_symbolOf_8 ?_
  refine mv_l2i (pc := 9) B d_Weaver_symbolOf_9 ?_
  exact mv_iret (pc := 10) B hr rfl d_Weaver_symbolOf_10 (Nat.le_refl _) (Nat.le_refl _) ⟨_, rfl, rfl, rfl⟩
def y_Weaver_numberUpTo : MethodName := ⟨"MachineLoom$Weaver", "numberUpTo", "(II)I"⟩
abbrev b_Weaver_numberUpTo : ByteArray := prog_12_method_8_code
theorem kc_Weaver_numberUpTo : Cond.code y_Weaver_numberUpTo b_Weaver_numberUpTo 5 (Option.some Jvm.ClassFile.FieldType.int) ∈ ma := ma_of (tb_6 _ (List.mem_of_getElem? (i := 107) rfl)) rfl
theorem k_1282 : (Jvm.Cond.methodLink "MachineLoom$Weaver" (158 : Nat) ({ cls := "MachineLoom$Weaver", name := "tell", desc := "(II)V" } : Jvm.MethodName)) ∈ ma := ma_of (tb_6 _ (List.mem_of_getElem? (i := 82) rfl)) rfl
theorem k_2 : (Jvm.Cond.initialized "MachineLoom$Weaver") ∈ ma := ma_of (tb_1 _ (List.mem_of_getElem? (i := 2) rfl)) rfl
theorem k_1284 : (Jvm.Cond.instanceMethod ({ cls := "MachineLoom$Weaver", name := "tell", desc := "(II)V" } : Jvm.MethodName)) ∈ ma := ma_of (tb_6 _ (List.mem_of_getElem? (i := 84) rfl)) rfl
theorem ks_32 : Cond.selects "MachineLoom$Weaver" ⟨"MachineLoom$Weaver", "tell", "(II)V"⟩ ⟨"MachineLoom$Weaver", "tell", "(II)V"⟩ ∈ ma := ma_sel 32 rfl rfl
theorem d_Weaver_numberUpTo_0 : decode b_Weaver_numberUpTo 0 = .ok (.aload_n 0, 1) := by decide +kernel
theorem d_Weaver_numberUpTo_1 : decode b_Weaver_numberUpTo 1 = .ok (.getfield 12, 3) := by decide +kernel
theorem d_Weaver_numberUpTo_4 : decode b_Weaver_numberUpTo 4 = .ok (.getfield 139, 3) := by decide +kernel
theorem d_Weaver_numberUpTo_7 : decode b_Weaver_numberUpTo 7 = .ok (.iload_n 1, 1) := by decide +kernel
theorem d_Weaver_numberUpTo_8 : decode b_Weaver_numberUpTo 8 = .ok (.laload, 1) := by decide +kernel
theorem d_Weaver_numberUpTo_9 : decode b_Weaver_numberUpTo 9 = .ok (.lstore_n 3, 1) := by decide +kernel
theorem d_Weaver_numberUpTo_10 : decode b_Weaver_numberUpTo 10 = .ok (.lload_n 3, 1) := by decide +kernel
theorem d_Weaver_numberUpTo_11 : decode b_Weaver_numberUpTo 11 = .ok (.lconst 1, 1) := by decide +kernel
theorem d_Weaver_numberUpTo_12 : decode b_Weaver_numberUpTo 12 = .ok (.lcmp, 1) := by decide +kernel
theorem d_Weaver_numberUpTo_13 : decode b_Weaver_numberUpTo 13 = .ok (.ifCond .lt (10), 3) := by decide +kernel
theorem d_Weaver_numberUpTo_16 : decode b_Weaver_numberUpTo 16 = .ok (.lload_n 3, 1) := by decide +kernel
theorem d_Weaver_numberUpTo_17 : decode b_Weaver_numberUpTo 17 = .ok (.iload_n 2, 1) := by decide +kernel
theorem d_Weaver_numberUpTo_18 : decode b_Weaver_numberUpTo 18 = .ok (.i2l, 1) := by decide +kernel
theorem d_Weaver_numberUpTo_19 : decode b_Weaver_numberUpTo 19 = .ok (.lcmp, 1) := by decide +kernel
theorem d_Weaver_numberUpTo_20 : decode b_Weaver_numberUpTo 20 = .ok (.ifCond .le (11), 3) := by decide +kernel
theorem d_Weaver_numberUpTo_23 : decode b_Weaver_numberUpTo 23 = .ok (.aload_n 0, 1) := by decide +kernel
theorem d_Weaver_numberUpTo_24 : decode b_Weaver_numberUpTo 24 = .ok (.iload_n 1, 1) := by decide +kernel
theorem d_Weaver_numberUpTo_25 : decode b_Weaver_numberUpTo 25 = .ok (.iconst 3, 1) := by decide +kernel
theorem d_Weaver_numberUpTo_26 : decode b_Weaver_numberUpTo 26 = .ok (.invokevirtual 158, 3) := by decide +kernel
theorem d_Weaver_numberUpTo_29 : decode b_Weaver_numberUpTo 29 = .ok (.iconst 0, 1) := by decide +kernel
theorem d_Weaver_numberUpTo_30 : decode b_Weaver_numberUpTo 30 = .ok (.ireturn, 1) := by decide +kernel
theorem d_Weaver_numberUpTo_31 : decode b_Weaver_numberUpTo 31 = .ok (.lload_n 3, 1) := by decide +kernel
theorem d_Weaver_numberUpTo_32 : decode b_Weaver_numberUpTo 32 = .ok (.l2i, 1) := by decide +kernel
theorem d_Weaver_numberUpTo_33 : decode b_Weaver_numberUpTo 33 = .ok (.ireturn, 1) := by decide +kernel
set_option maxHeartbeats 4000000 in
set_option maxRecDepth 100000 in
theorem c_Weaver_numberUpTo (l : Launch) {dA : FieldType → ClassId} {D : va_G} {al : Nat → Nat} {ext : mv_Sh} {sk sv : Nat → Nat} (hi : mv_inj (mg dA D al ext)) (σ : mv_H) (t9 u9 : Int32) (hsh : mh (mv_r σ)) (gt0 : 0 ≤ t9.toInt) (gt1 : t9.toInt < 32770) (gu : 0 ≤ u9.toInt) : mv_C l y_Weaver_numberUpTo (Cond.code y_Weaver_numberUpTo b_Weaver_numberUpTo 5 (Option.some Jvm.ClassFile.FieldType.int) :: ma) ({ frames := 2, cells := 0, slots := 0, locals := 44 }) (mg dA D al ext) (mK sk sv) [.ref (al 2), .int t9, .int u9] σ (mv_Ri (fun v σ1 => (σ1 = σ ∧ 1 ≤ v.toInt ∧ v.toInt ≤ u9.toInt) ∨ (v = 0 ∧ ∃ x y, σ1 = ex_tell σ x y ∧ ¬ x = 0))) := by
  refine mv_C.ofV (cc := b_Weaver_numberUpTo) (nL := 5) (ret := (Option.some Jvm.ClassFile.FieldType.int)) (by decide +kernel) rfl hi (Nat.le_of_ble_eq_true rfl) ?_
  intro p e s m below meth c B hNs hr hnm hno
  refine mv_aload_n (pc := 0) B d_Weaver_numberUpTo_0 rfl 0 rfl ?_
  refine mv_getR (pc := 1) (ci := 1) (C := R_Weaver) (T := F_Weaver) (N := 16) B 0 rfl rfl (by decide) i_Weaver (B.2.2.2.1 _ k_228) rfl (hsh _ 0 _ rfl) d_Weaver_numberUpTo_1 ?_
  refine mv_getR (pc := 4) (ci := 2) (C := R_Tokens) (T := F_Tokens) (N := 10) B 2 rfl rfl (by decide) i_Tokens (B.2.2.2.1 _ k_94) rfl (hsh _ 2 _ rfl) d_Weaver_numberUpTo_4 ?_
  refine mv_iload_n (pc := 7) B d_Weaver_numberUpTo_7 rfl 1 rfl ?_
  refine mv_lald (pc := 8) B rfl (i32_in gt0 gt1) d_Weaver_numberUpTo_8 ?_
  refine mv_lstore_n (pc := 9) B d_Weaver_numberUpTo_9 rfl (by decide) rfl ?_
  refine mv_lload_n (pc := 10) B d_Weaver_numberUpTo_10 rfl 0 rfl ?_
  refine mv_lconst (pc := 11) (v := 1) B d_Weaver_numberUpTo_11 (by decide) ?_
  refine mv_lcmp (pc := 12) B d_Weaver_numberUpTo_12 ?_
  refine mv_if_lt (pc := 13) (tgt := 23) B d_Weaver_numberUpTo_13 rfl (fun h13 => ?_) (fun h13 => ?_)
  · skip
    refine mv_aload_n (pc := 23) B d_Weaver_numberUpTo_23 rfl 1 rfl ?_
    refine mv_iload_n (pc := 24) B d_Weaver_numberUpTo_24 rfl 2 rfl ?_
    refine mv_iconst (pc := 25) (v := 3) B d_Weaver_numberUpTo_25 (by decide) ?_
    refine mv_callVv (pc := 26) (n := 2) (ci := 1) (C := R_Weaver) B (mK_ok sk sv) hNs rfl rfl (c_Weaver_tell l hi _ _ _ hsh gt0 gt1 (by decide)) rfl (ma_goodc kc_Weaver_tell) (B.2.2.2.1 _ k_1282) (B.2.2.2.1 _ k_1284) (B.2.2.2.1 _ ks_32) (B.2.2.2.1 _ k_2) ⟨by decide +kernel, by decide +kernel, by decide +kernel⟩ rfl d_Weaver_numberUpTo_26 rfl (Nat.le_of_ble_eq_true rfl) ⟨by decide, by decide⟩ ⟨by decide, by decide⟩ ⟨by decide, by decide⟩ (mv_noH hno _) (fun σ26 h26 => ?_)
    refine mv_iconst (pc := 29) (v := 0) B d_Weaver_numberUpTo_29 (by decide) ?_
    exact mv_iret (pc := 30) B hr rfl d_Weaver_numberUpTo_30 (Nat.le_refl _) (Nat.le_refl _) ⟨_, rfl, Or.inr ⟨rfl, h26⟩⟩
  · skip
    have k13 := mt (lg_cmp_lt _ _).mpr h13
    rw [Int64.lt_iff_toInt_lt] at k13
    have k13 : ¬ (mv_b σ 6 t9.toNatClampNeg).toInt < 1 := k13
    refine mv_lload_n (pc := 16) B d_Weaver_numberUpTo_16 rfl 0 rfl ?_
    refine mv_iload_n (pc := 17) B d_Weaver_numberUpTo_17 rfl 3 rfl ?_
    refine mv_i2l (pc := 18) B d_Weaver_numberUpTo_18 ?_
    refine mv_lcmp (pc := 19) B d_Weaver_numberUpTo_19 ?_
    refine mv_if_le (pc := 20) (tgt := 31) B d_Weaver_numberUpTo_20 rfl (fun h20 => ?_) (fun h20 => ?_)
    · skip
      have k20 := (lg_cmp_le _ _).mp h20
      rw [Int64.le_iff_toInt_le, lg_toInt] at k20
      have u99 := i32_rng u9
      have k21 := l2i_nn (x := mv_b σ 6 t9.toNatClampNeg) (by omega) (by omega)
      refine mv_lload_n (pc := 31) B d_Weaver_numberUpTo_31 rfl 0 rfl ?_
      refine mv_l2i (pc := 32) B d_Weaver_numberUpTo_32 ?_
      exact mv_iret (pc := 33) B hr rfl d_Weaver_numberUpTo_33 (Nat.le_refl _) (Nat.le_refl _) ⟨_, rfl, Or.inl ⟨rfl, by omega, by omega⟩⟩
    · skip
      refine mv_aload_n (pc := 23) B d_Weaver_numberUpTo_23 rfl 1 rfl ?_
      refine mv_iload_n (pc := 24) B d_Weaver_numberUpTo_24 rfl 2 rfl ?_
      refine mv_iconst (pc := 25) (v := 3) B d_Weaver_numberUpTo_25 (by decide) ?_
      refine mv_callVv (pc := 26) (n := 2) (ci := 1) (C := R_Weaver) B (mK_ok sk sv) hNs rfl rfl (c_Weaver_tell l hi _ _ _ hsh gt0 gt1 (by decide)) rfl (ma_goodc kc_Weaver_tell) (B.2.2.2.1 _ k_1282) (B.2.2.2.1 _ k_1284) (B.2.2.2.1 _ ks_32) (B.2.2.2.1 _ k_2) ⟨by decide +kernel, by decide +kernel, by decide +kernel⟩ rfl d_Weaver_numberUpTo_26 rfl (Nat.le_of_ble_eq_true rfl) ⟨by decide, by decide⟩ ⟨by decide, by decide⟩ ⟨by decide, by decide⟩ (mv_noH hno _) (fun σ26 h26 => ?_)
      refine mv_iconst (pc := 29) (v := 0) B d_Weaver_numberUpTo_29 (by decide) ?_
      exact mv_iret (pc := 30) B hr rfl d_Weaver_numberUpTo_30 (Nat.le_refl _) (Nat.le_refl _) ⟨_, rfl, Or.inr ⟨rfl, h26⟩⟩
def y_Weaver_beginExpr : MethodName := ⟨"MachineLoom$Weaver", "beginExpr", "(I)V"⟩
abbrev b_Weaver_beginExpr : ByteArray := prog_12_method_17_code
theorem kc_Weaver_beginExpr : Cond.code y_Weaver_beginExpr b_Weaver_beginExpr 2 (Option.none : Option Jvm.ClassFile.FieldType) ∈ ma := ma_of (tb_6 _ (List.mem_of_getElem? (i := 174) rfl)) rfl
theorem k_237 : (Jvm.Cond.fieldLink "MachineLoom$Weaver" (276 : Nat) "MachineLoom$Weaver" "goal" "I") ∈ ma := ma_of (tb_1 _ (List.mem_of_getElem? (i := 237) rfl)) rfl
theorem k_232 : (Jvm.Cond.fieldLink "MachineLoom$Weaver" (43 : Nat) "MachineLoom$Weaver" "exprs" "LMachineLoom$Exprs;") ∈ ma := ma_of (tb_1 _ (List.mem_of_getElem? (i := 232) rfl)) rfl
theorem k_1375 : (Jvm.Cond.methodLink "MachineLoom$Weaver" (279 : Nat) ({ cls := "MachineLoom$Exprs", name := "begin", desc := "()V" } : Jvm.MethodName)) ∈ ma := ma_of (tb_6 _ (List.mem_of_getElem? (i := 175) rfl)) rfl
theorem k_1376 : (Jvm.Cond.instanceMethod ({ cls := "MachineLoom$Exprs", name := "begin", desc := "()V" } : Jvm.MethodName)) ∈ ma := ma_of (tb_6 _ (List.mem_of_getElem? (i := 176) rfl)) rfl
theorem k_1377 : (Jvm.Cond.selects "MachineLoom$Exprs" ({ cls := "MachineLoom$Exprs", name := "begin", desc := "()V" } : Jvm.MethodName) ({ cls := "MachineLoom$Exprs", name := "begin", desc := "()V" } : Jvm.MethodName)) ∈ ma := ma_of (tb_6 _ (List.mem_of_getElem? (i := 177) rfl)) rfl
theorem k_236 : (Jvm.Cond.fieldLink "MachineLoom$Weaver" (75 : Nat) "MachineLoom$Weaver" "mode" "I") ∈ ma := ma_of (tb_1 _ (List.mem_of_getElem? (i := 236) rfl)) rfl
theorem d_Weaver_beginExpr_0 : decode b_Weaver_beginExpr 0 = .ok (.aload_n 0, 1) := by decide +kernel
theorem d_Weaver_beginExpr_1 : decode b_Weaver_beginExpr 1 = .ok (.iload_n 1, 1) := by decide +kernel
theorem d_Weaver_beginExpr_2 : decode b_Weaver_beginExpr 2 = .ok (.putfield 276, 3) := by decide +kernel
theorem d_Weaver_beginExpr_5 : decode b_Weaver_beginExpr 5 = .ok (.aload_n 0, 1) := by decide +kernel
theorem d_Weaver_beginExpr_6 : decode b_Weaver_beginExpr 6 = .ok (.getfield 43, 3) := by decide +kernel
theorem d_Weaver_beginExpr_9 : decode b_Weaver_beginExpr 9 = .ok (.invokevirtual 279, 3) := by decide +kernel
theorem d_Weaver_beginExpr_12 : decode b_Weaver_beginExpr 12 = .ok (.aload_n 0, 1) := by decide +kernel
theorem d_Weaver_beginExpr_13 : decode b_Weaver_beginExpr 13 = .ok (.iconst 2, 1) := by decide +kernel
theorem d_Weaver_beginExpr_14 : decode b_Weaver_beginExpr 14 = .ok (.putfield 75, 3) := by decide +kernel
theorem d_Weaver_beginExpr_17 : decode b_Weaver_beginExpr 17 = .ok (.return_, 1) := by decide +kernel
set_option maxHeartbeats 4000000 in
set_option maxRecDepth 100000 in
theorem c_Weaver_beginExpr (l : Launch) {dA : FieldType → ClassId} {D : va_G} {al : Nat → Nat} {ext : mv_Sh} {sk sv : Nat → Nat} (hi : mv_inj (mg dA D al ext)) (σ : mv_H) (g9 : Int32) (hsh : mh (mv_r σ)) : mv_C l y_Weaver_beginExpr (Cond.code y_Weaver_beginExpr b_Weaver_beginExpr 2 (Option.none : Option Jvm.ClassFile.FieldType) :: ma) ({ frames := 1, cells := 0, slots := 0, locals := 20 }) (mg dA D al ext) (mK sk sv) [.ref (al 2), .int g9] σ (mv_Rv (fun σ1 => σ1 = mv_si (mv_si (mv_si (mv_si σ 2 7 g9) 22 8 0) 22 10 0) 2 6 2)) := by
  refine mv_C.ofV (cc := b_Weaver_beginExpr) (nL := 2) (ret := (Option.none : Option Jvm.ClassFile.FieldType)) (by decide +kernel) rfl hi (Nat.le_of_ble_eq_true rfl) ?_
  intro p e s m below meth c B hNs hr hnm hno
  refine mv_aload_n (pc := 0) B d_Weaver_beginExpr_0 rfl 0 rfl ?_
  refine mv_iload_n (pc := 1) B d_Weaver_beginExpr_1 rfl 1 rfl ?_
  refine mv_putI (pc := 2) (ci := 1) (C := R_Weaver) (T := F_Weaver) (N := 16) B 7 rfl rfl (by decide) i_Weaver t_Weaver_ok n_Weaver (B.2.2.2.1 _ k_237) rfl rfl rfl rfl d_Weaver_beginExpr_2 ?_
  refine mv_aload_n (pc := 5) B d_Weaver_beginExpr_5 rfl 0 rfl ?_
  refine mv_getR (pc := 6) (ci := 1) (C := R_Weaver) (T := F_Weaver) (N := 16) B 3 rfl rfl (by decide) i_Weaver (B.2.2.2.1 _ k_232) rfl (hsh _ 3 _ rfl) d_Weaver_beginExpr_6 ?_
  refine mv_callVv (pc := 9) (n := 0) (ci := 6) (C := R_Exprs) B (mK_ok sk sv) hNs rfl rfl (c_Exprs_begin l hi _) rfl (ma_goodc kc_Exprs_begin) (B.2.2.2.1 _ k_1375) (B.2.2.2.1 _ k_1376) (B.2.2.2.1 _ k_1377) (B.2.2.2.1 _ k_7) ⟨by decide +kernel, by decide +kernel, by decide +kernel⟩ rfl d_Weaver_beginExpr_9 rfl (Nat.le_of_ble_eq_true rfl) ⟨by decide, by decide⟩ ⟨by decide, by decide⟩ ⟨by decide, by decide⟩ (mv_noH hno _) (fun σ9 h9 => ?_)
  subst h9
  refine mv_aload_n (pc := 12) B d_Weaver_beginExpr_12 rfl 0 rfl ?_
  refine mv_iconst (pc := 13) (v := 2) B d_Weaver_beginExpr_13 (by decide) ?_
  refine mv_putI (pc := 14) (ci := 1) (C := R_Weaver) (T := F_Weaver) (N := 16) B 6 rfl rfl (by decide) i_Weaver t_Weaver_ok n_Weaver (B.2.2.2.1 _ k_236) rfl rfl rfl rfl d_Weaver_beginExpr_14 ?_
  exact mv_vret (pc := 17) B hr d_Weaver_beginExpr_17 (Nat.le_refl _) (Nat.le_refl _) ⟨rfl, rfl⟩
def y_Weaver_isNew : MethodName := ⟨"MachineLoom$Weaver", "isNew", "(II)Z"⟩
abbrev b_Weaver_isNew : ByteArray := prog_12_method_11_code
theorem kc_Weaver_isNew : Cond.code y_Weaver_isNew b_Weaver_isNew 3 (Option.some Jvm.ClassFile.FieldType.boolean) ∈ ma := ma_of (tb_6 _ (List.mem_of_getElem? (i := 111) rfl)) rfl
theorem k_229 : (Jvm.Cond.fieldLink "MachineLoom$Weaver" (27 : Nat) "MachineLoom$Weaver" "names" "LMachineLoom$Names;") ∈ ma := ma_of (tb_1 _ (List.mem_of_getElem? (i := 229) rfl)) rfl
theorem k_1312 : (Jvm.Cond.methodLink "MachineLoom$Weaver" (185 : Nat) ({ cls := "MachineLoom$Weaver", name := "symbolOf", desc := "(I)I" } : Jvm.MethodName)) ∈ ma := ma_of (tb_6 _ (List.mem_of_getElem? (i := 112) rfl)) rfl
theorem k_1314 : (Jvm.Cond.instanceMethod ({ cls := "MachineLoom$Weaver", name := "symbolOf", desc := "(I)I" } : Jvm.MethodName)) ∈ ma := ma_of (tb_6 _ (List.mem_of_getElem? (i := 114) rfl)) rfl
theorem ks_37 : Cond.selects "MachineLoom$Weaver" ⟨"MachineLoom$Weaver", "symbolOf", "(I)I"⟩ ⟨"MachineLoom$Weaver", "symbolOf", "(I)I"⟩ ∈ ma := ma_sel 37 rfl rfl
theorem k_1316 : (Jvm.Cond.methodLink "MachineLoom$Weaver" (200 : Nat) ({ cls := "MachineLoom$Names", name := "kindOf", desc := "(I)I" } : Jvm.MethodName)) ∈ ma := ma_of (tb_6 _ (List.mem_of_getElem? (i := 116) rfl)) rfl
theorem k_235 : (Jvm.Cond.fieldLink "MachineLoom$Weaver" (113 : Nat) "MachineLoom$Weaver" "program" "LMachineLoom$Program;") ∈ ma := ma_of (tb_1 _ (List.mem_of_getElem? (i := 235) rfl)) rfl
theorem k_316 : (Jvm.Cond.fieldLink "MachineLoom$Weaver" (188 : Nat) "MachineLoom$Program" "things" "I") ∈ ma := ma_of (tb_2 _ (List.mem_of_getElem? (i := 76) rfl)) rfl
theorem k_335 : (Jvm.Cond.fieldLink "MachineLoom$Weaver" (203 : Nat) "MachineLoom$Program" "allCells" "I") ∈ ma := ma_of (tb_2 _ (List.mem_of_getElem? (i := 95) rfl)) rfl
theorem k_1324 : (Jvm.Cond.constant "MachineLoom$Weaver" (199 : Nat) (65536 : Int32)) ∈ ma := ma_of (tb_6 _ (List.mem_of_getElem? (i := 124) rfl)) rfl
theorem d_Weaver_isNew_0 : decode b_Weaver_isNew 0 = .ok (.aload_n 0, 1) := by decide +kernel
theorem d_Weaver_isNew_1 : decode b_Weaver_isNew 1 = .ok (.getfield 27, 3) := by decide +kernel
theorem d_Weaver_isNew_4 : decode b_Weaver_isNew 4 = .ok (.aload_n 0, 1) := by decide +kernel
theorem d_Weaver_isNew_5 : decode b_Weaver_isNew 5 = .ok (.iload_n 1, 1) := by decide +kernel
theorem d_Weaver_isNew_6 : decode b_Weaver_isNew 6 = .ok (.invokevirtual 185, 3) := by decide +kernel
theorem d_Weaver_isNew_9 : decode b_Weaver_isNew 9 = .ok (.invokevirtual 200, 3) := by decide +kernel
theorem d_Weaver_isNew_12 : decode b_Weaver_isNew 12 = .ok (.ifCond .eq (11), 3) := by decide +kernel
theorem d_Weaver_isNew_15 : decode b_Weaver_isNew 15 = .ok (.aload_n 0, 1) := by decide +kernel
theorem d_Weaver_isNew_16 : decode b_Weaver_isNew 16 = .ok (.iload_n 1, 1) := by decide +kernel
theorem d_Weaver_isNew_17 : decode b_Weaver_isNew 17 = .ok (.iconst 2, 1) := by decide +kernel
theorem d_Weaver_isNew_18 : decode b_Weaver_isNew 18 = .ok (.invokevirtual 158, 3) := by decide +kernel
theorem d_Weaver_isNew_21 : decode b_Weaver_isNew 21 = .ok (.iconst 0, 1) := by decide +kernel
theorem d_Weaver_isNew_22 : decode b_Weaver_isNew 22 = .ok (.ireturn, 1) := by decide +kernel
theorem d_Weaver_isNew_23 : decode b_Weaver_isNew 23 = .ok (.aload_n 0, 1) := by decide +kernel
theorem d_Weaver_isNew_24 : decode b_Weaver_isNew 24 = .ok (.getfield 113, 3) := by decide +kernel
theorem d_Weaver_isNew_27 : decode b_Weaver_isNew 27 = .ok (.getfield 188, 3) := by decide +kernel
theorem d_Weaver_isNew_30 : decode b_Weaver_isNew 30 = .ok (.bipush 64, 2) := by decide +kernel
theorem d_Weaver_isNew_32 : decode b_Weaver_isNew 32 = .ok (.if_icmp .eq (17), 3) := by decide +kernel
theorem d_Weaver_isNew_35 : decode b_Weaver_isNew 35 = .ok (.aload_n 0, 1) := by decide +kernel
theorem d_Weaver_isNew_36 : decode b_Weaver_isNew 36 = .ok (.getfield 113, 3) := by decide +kernel
theorem d_Weaver_isNew_39 : decode b_Weaver_isNew 39 = .ok (.getfield 203, 3) := by decide +kernel
theorem d_Weaver_isNew_42 : decode b_Weaver_isNew 42 = .ok (.iload_n 2, 1) := by decide +kernel
theorem d_Weaver_isNew_43 : decode b_Weaver_isNew 43 = .ok (.iadd, 1) := by decide +kernel
theorem d_Weaver_isNew_44 : decode b_Weaver_isNew 44 = .ok (.ldc 199, 2) := by decide +kernel
theorem d_Weaver_isNew_46 : decode b_Weaver_isNew 46 = .ok (.if_icmp .le (12), 3) := by decide +kernel
theorem d_Weaver_isNew_49 : decode b_Weaver_isNew 49 = .ok (.aload_n 0, 1) := by decide +kernel
theorem d_Weaver_isNew_50 : decode b_Weaver_isNew 50 = .ok (.iload_n 1, 1) := by decide +kernel
theorem d_Weaver_isNew_51 : decode b_Weaver_isNew 51 = .ok (.bipush 6, 2) := by decide +kernel
theorem d_Weaver_isNew_53 : decode b_Weaver_isNew 53 = .ok (.invokevirtual 158, 3) := by decide +kernel
theorem d_Weaver_isNew_56 : decode b_Weaver_isNew 56 = .ok (.iconst 0, 1) := by decide +kernel
theorem d_Weaver_isNew_57 : decode b_Weaver_isNew 57 = .ok (.ireturn, 1) := by decide +kernel
theorem d_Weaver_isNew_58 : decode b_Weaver_isNew 58 = .ok (.iconst 1, 1) := by decide +kernel
theorem d_Weaver_isNew_59 : decode b_Weaver_isNew 59 = .ok (.ireturn, 1) := by decide +kernel
set_option maxHeartbeats 4000000 in
set_option maxRecDepth 100000 in
theorem c_Weaver_isNew_a (l : Launch) {dA : FieldType → ClassId} {D : va_G} {al : Nat → Nat} {ext : mv_Sh} {sk sv : Nat → Nat} (hi : mv_inj (mg dA D al ext)) (σ : mv_H) (t9 c9 : Int32) (hR : Rw 32 (mv_r σ)) {t len n z sz th sl : Nat} (hE : TE σ t len n z sz) (gt0 : 0 ≤ t9.toInt) (gt1 : t9.toInt < sz) (hy0 : 0 ≤ (mv_b σ 6 t9.toNatClampNeg).toInt) (hy1 : (mv_b σ 6 t9.toNatClampNeg).toInt < n) (hT : Th 32 σ th sl) (ac : Nat) (hac : (mv_i σ 32 7).toInt = ac) (hac2 : ac ≤ 65536) (gc : 0 ≤ c9.toInt) (gc1 : c9.toInt ≤ 65536) : mv_C l y_Weaver_isNew (Cond.code y_Weaver_isNew b_Weaver_isNew 3 (Option.some Jvm.ClassFile.FieldType.boolean) :: ma) ({ frames := 2, cells := 0, slots := 0, locals := 44 }) (mg dA D al ext) (mK sk sv) [.ref (al 2), .int t9, .int c9] σ (mv_Ri (fun v σ1 => (v = 0 ∧ ∃ x y, σ1 = ex_tell σ x y ∧ ¬ x = 0) ∨ (v = 1 ∧ σ1 = σ ∧ th < 64 ∧ ac + c9.toInt ≤ 65536))) := by
  refine mv_C.ofV (cc := b_Weaver_isNew) (nL := 3) (ret := (Option.some Jvm.ClassFile.FieldType.boolean)) (by decide +kernel) rfl hi (Nat.le_of_ble_eq_true rfl) ?_
  intro p e s m below meth c B hNs hr hnm hno
  have hsz := hE.2.2.2.1
  have hn16 := hE.1.2.1
  have hth := hT.1
  have ht64 := hT.2.1
  have k21 := l2i_nn (x := mv_b σ 6 t9.toNatClampNeg) hy0 (by omega)
  refine mv_aload_n (pc := 0) B d_Weaver_isNew_0 rfl 0 rfl ?_
  refine mv_getR (pc := 1) (ci := 1) (C := R_Weaver) (T := F_Weaver) (N := 16) B 1 rfl rfl (by decide) i_Weaver (B.2.2.2.1 _ k_229) rfl (hR.1 _ 1 _ rfl) d_Weaver_isNew_1 ?_
  refine mv_aload_n (pc := 4) B d_Weaver_isNew_4 rfl 0 rfl ?_
  refine mv_iload_n (pc := 5) B d_Weaver_isNew_5 rfl 1 rfl ?_
  refine mv_callVi (pc := 6) (n := 1) (ci := 1) (C := R_Weaver) B (mK_ok sk sv) hNs rfl rfl (c_Weaver_symbolOf l hi _ _ hR.1 gt0 (by omega)) rfl (ma_goodc kc_Weaver_symbolOf) (B.2.2.2.1 _ k_1312) (B.2.2.2.1 _ k_1314) (B.2.2.2.1 _ ks_37) (B.2.2.2.1 _ k_2) ⟨by decide +kernel, by decide +kernel, by decide +kernel⟩ rfl d_Weaver_isNew_6 rfl (Nat.le_of_ble_eq_true rfl) ⟨by decide, by decide⟩ ⟨by decide, by decide⟩ ⟨by decide, by decide⟩ (mv_noH hno _) (fun v6 σ6 h6 => ?_)
  obtain ⟨e6, z6⟩ := h6
  have e6 := e6.symm
  subst e6
  rw [← z6] at k21
  refine mv_callVi (pc := 9) (n := 1) (ci := 4) (C := R_Names) B (mK_ok sk sv) hNs rfl rfl (c_Names_kindOf l hi _ _ hR.1 n z hE.1 (by omega) (by omega)) rfl (ma_goodc kc_Names_kindOf) (B.2.2.2.1 _ k_1316) (B.2.2.2.1 _ k_1317) (B.2.2.2.1 _ k_1318) (B.2.2.2.1 _ k_5) ⟨by decide +kernel, by decide +kernel, by decide +kernel⟩ rfl d_Weaver_isNew_9 rfl (Nat.le_of_ble_eq_true rfl) ⟨by decide, by decide⟩ ⟨by decide, by decide⟩ ⟨by decide, by decide⟩ (mv_noH hno _) (fun v9 σ9 h9 => ?_)
  obtain ⟨e9, z9⟩ := h9
  have e9 := e9.symm
  subst e9
  refine mv_if_eq (pc := 12) (tgt := 23) B d_Weaver_isNew_12 rfl (fun h12 => ?_) (fun h12 => ?_)
  · skip
    refine mv_aload_n (pc := 23) B d_Weaver_isNew_23 rfl 0 rfl ?_
    refine mv_getR (pc := 24) (ci := 1) (C := R_Weaver) (T := F_Weaver) (N := 16) B 5 rfl rfl (by decide) i_Weaver (B.2.2.2.1 _ k_235) rfl hR.2.2.1 d_Weaver_isNew_24 ?_
    refine mv_getI (pc := 27) (ci := 7) (C := R_Program) (T := F_Program) (N := 19) B 1 rfl rfl (by decide) i_Program (B.2.2.2.1 _ k_316) rfl d_Weaver_isNew_27 ?_
    refine mv_bipush (pc := 30) (v := 64) B d_Weaver_isNew_30 (by decide) ?_
    refine mv_icmp_eq (pc := 32) (tgt := 49) B d_Weaver_isNew_32 rfl (fun h32 => ?_) (fun h32 => ?_)
    · skip
      refine mv_aload_n (pc := 49) B d_Weaver_isNew_49 rfl 0 rfl ?_
      refine mv_iload_n (pc := 50) B d_Weaver_isNew_50 rfl 1 rfl ?_
      refine mv_bipush (pc := 51) (v := 6) B d_Weaver_isNew_51 (by decide) ?_
      refine mv_callVv (pc := 53) (n := 2) (ci := 1) (C := R_Weaver) B (mK_ok sk sv) hNs rfl rfl (c_Weaver_tell l hi _ _ _ hR.1 gt0 (by omega) (by decide)) rfl (ma_goodc kc_Weaver_tell) (B.2.2.2.1 _ k_1282) (B.2.2.2.1 _ k_1284) (B.2.2.2.1 _ ks_32) (B.2.2.2.1 _ k_2) ⟨by decide +kernel, by decide +kernel, by decide +kernel⟩ rfl d_Weaver_isNew_53 rfl (Nat.le_of_ble_eq_true rfl) ⟨by decide, by decide⟩ ⟨by decide, by decide⟩ ⟨by decide, by decide⟩ (mv_noH hno _) (fun σ53 h53 => ?_)
      refine mv_iconst (pc := 56) (v := 0) B d_Weaver_isNew_56 (by decide) ?_
      exact mv_iret (pc := 57) B hr rfl d_Weaver_isNew_57 (Nat.le_refl _) (Nat.le_refl _) ⟨_, rfl, Or.inl ⟨rfl, h53⟩⟩
    · skip
      have k32 : ¬ (mv_i σ 32 1).toInt = 64 := fun q => h32 (Int32.toInt_inj.mp q)
      refine mv_aload_n (pc := 35) B d_Weaver_isNew_35 rfl 0 rfl ?_
      refine mv_getR (pc := 36) (ci := 1) (C := R_Weaver) (T := F_Weaver) (N := 16) B 5 rfl rfl (by decide) i_Weaver (B.2.2.2.1 _ k_235) rfl hR.2.2.1 d_Weaver_isNew_36 ?_
      refine mv_getI (pc := 39) (ci := 7) (C := R_Program) (T := F_Program) (N := 19) B 7 rfl rfl (by decide) i_Program (B.2.2.2.1 _ k_335) rfl d_Weaver_isNew_39 ?_
      refine mv_iload_n (pc := 42) B d_Weaver_isNew_42 rfl 2 rfl ?_
      refine mv_iadd (pc := 43) B d_Weaver_isNew_43 ?_
      refine mv_topi (fun y43 ey43 => ?_)
      have fy43 := i32_addE ey43 (by (try simp only [Int32.reduceToInt]); omega) (by (try simp only [Int32.reduceToInt]); omega)
      try simp only [Int32.reduceToInt] at fy43
      refine mv_ldc (pc := 44) (v := 65536) B (B.2.2.2.1 _ k_1324) d_Weaver_isNew_44 ?_
      refine mv_icmp_le (pc := 46) (tgt := 58) B d_Weaver_isNew_46 rfl (fun h46 => ?_) (fun h46 => ?_)
      · skip
        rw [Int32.le_iff_toInt_le] at h46
        have h46 : y43.toInt ≤ 65536 := h46
        refine mv_iconst (pc := 58) (v := 1) B d_Weaver_isNew_58 (by decide) ?_
        exact mv_iret (pc := 59) B hr rfl d_Weaver_isNew_59 (Nat.le_refl _) (Nat.le_refl _) ⟨_, rfl, Or.inr ⟨rfl, rfl, by omega, by omega⟩⟩
      · skip
        refine mv_aload_n (pc := 49) B d_Weaver_isNew_49 rfl 0 rfl ?_
        refine mv_iload_n (pc := 50) B d_Weaver_isNew_50 rfl 1 rfl ?_
        refine mv_bipush (pc := 51) (v := 6) B d_Weaver_isNew_51 (by decide) ?_
        refine mv_callVv (pc := 53) (n := 2) (ci := 1) (C := R_Weaver) B (mK_ok sk sv) hNs rfl rfl (c_Weaver_tell l hi _ _ _ hR.1 gt0 (by omega) (by decide)) rfl (ma_goodc kc_Weaver_tell) (B.2.2.2.1 _ k_1282) (B.2.2.2.1 _ k_1284) (B.2.2.2.1 _ ks_32) (B.2.2.2.1 _ k_2) ⟨by decide +kernel, by decide +kernel, by decide +kernel⟩ rfl d_Weaver_isNew_53 rfl (Nat.le_of_ble_eq_true rfl) ⟨by decide, by decide⟩ ⟨by decide, by decide⟩ ⟨by decide, by decide⟩ (mv_noH hno _) (fun σ53 h53 => ?_)
        refine mv_iconst (pc := 56) (v := 0) B d_Weaver_isNew_56 (by decide) ?_
        exact mv_iret (pc := 57) B hr rfl d_Weaver_isNew_57 (Nat.le_refl _) (Nat.le_refl _) ⟨_, rfl, Or.inl ⟨rfl, h53⟩⟩
  · skip
    refine mv_aload_n (pc := 15) B d_Weaver_isNew_15 rfl 0 rfl ?_
    refine mv_iload_n (pc := 16) B d_Weaver_isNew_16 rfl 1 rfl ?_
    refine mv_iconst (pc := 17) (v := 2) B d_Weaver_isNew_17 (by decide) ?_
    refine mv_callVv (pc := 18) (n := 2) (ci := 1) (C := R_Weaver) B (mK_ok sk sv) hNs rfl rfl (c_Weaver_tell l hi _ _ _ hR.1 gt0 (by omega) (by decide)) rfl (ma_goodc kc_Weaver_tell) (B.2.2.2.1 _ k_1282) (B.2.2.2.1 _ k_1284) (B.2.2.2.1 _ ks_32) (B.2.2.2.1 _ k_2) ⟨by decide +kernel, by decide +kernel, by decide +kernel⟩ rfl d_Weaver_isNew_18 rfl (Nat.le_of_ble_eq_true rfl) ⟨by decide, by decide⟩ ⟨by decide, by decide⟩ ⟨by decide, by decide⟩ (mv_noH hno _) (fun σ18 h18 => ?_)
    refine mv_iconst (pc := 21) (v := 0) B d_Weaver_isNew_21 (by decide) ?_
    exact mv_iret (pc := 22) B hr rfl d_Weaver_isNew_22 (Nat.le_refl _) (Nat.le_refl _) ⟨_, rfl, Or.inl ⟨rfl, h18⟩⟩
set_option maxHeartbeats 4000000 in
set_option maxRecDepth 100000 in
theorem c_Weaver_isNew_b (l : Launch) {dA : FieldType → ClassId} {D : va_G} {al : Nat → Nat} {ext : mv_Sh} {sk sv : Nat → Nat} (hi : mv_inj (mg dA D al ext)) (σ : mv_H) (t9 c9 : Int32) (hR : Rw 48 (mv_r σ)) {t len n z sz th sl : Nat} (hE : TE σ t len n z sz) (gt0 : 0 ≤ t9.toInt) (gt1 : t9.toInt < sz) (hy0 : 0 ≤ (mv_b σ 6 t9.toNatClampNeg).toInt) (hy1 : (mv_b σ 6 t9.toNatClampNeg).toInt < n) (hT : Th 48 σ th sl) (ac : Nat) (hac : (mv_i σ 48 7).toInt = ac) (hac2 : ac ≤ 65536) (gc : 0 ≤ c9.toInt) (gc1 : c9.toInt ≤ 65536) : mv_C l y_Weaver_isNew (Cond.code y_Weaver_isNew b_Weaver_isNew 3 (Option.some Jvm.ClassFile.FieldType.boolean) :: ma) ({ frames := 2, cells := 0, slots := 0, locals := 44 }) (mg dA D al ext) (mK sk sv) [.ref (al 2), .int t9, .int c9] σ (mv_Ri (fun v σ1 => (v = 0 ∧ ∃ x y, σ1 = ex_tell σ x y ∧ ¬ x = 0) ∨ (v = 1 ∧ σ1 = σ ∧ th < 64 ∧ ac + c9.toInt ≤ 65536))) := by
  refine mv_C.ofV (cc := b_Weaver_isNew) (nL := 3) (ret := (Option.some Jvm.ClassFile.FieldType.boolean)) (by decide +kernel) rfl hi (Nat.le_of_ble_eq_true rfl) ?_
  intro p e s m below meth c B hNs hr hnm hno
  have hsz := hE.2.2.2.1
  have hn16 := hE.1.2.1
  have hth := hT.1
  have ht64 := hT.2.1
  have k21 := l2i_nn (x := mv_b σ 6 t9.toNatClampNeg) hy0 (by omega)
  refine mv_aload_n (pc := 0) B d_Weaver_isNew_0 rfl 0 rfl ?_
  refine mv_getR (pc := 1) (ci := 1) (C := R_Weaver) (T := F_Weaver) (N := 16) B 1 rfl rfl (by decide) i_Weaver (B.2.2.2.1 _ k_229) rfl (hR.1 _ 1 _ rfl) d_Weaver_isNew_1 ?_
  refine mv_aload_n (pc := 4) B d_Weaver_isNew_4 rfl 0 rfl ?_
  refine mv_iload_n (pc := 5) B d_Weaver_isNew_5 rfl 1 rfl ?_
  refine mv_callVi (pc := 6) (n := 1) (ci := 1) (C := R_Weaver) B (mK_ok sk sv) hNs rfl rfl (c_Weaver_symbolOf l hi _ _ hR.1 gt0 (by omega)) rfl (ma_goodc kc_Weaver_symbolOf) (B.2.2.2.1 _ k_1312) (B.2.2.2.1 _ k_1314) (B.2.2.2.1 _ ks_37) (B.2.2.2.1 _ k_2) ⟨by decide +kernel, by decide +kernel, by decide +kernel⟩ rfl d_Weaver_isNew_6 rfl (Nat.le_of_ble_eq_true rfl) ⟨by decide, by decide⟩ ⟨by decide, by decide⟩ ⟨by decide, by decide⟩ (mv_noH hno _) (fun v6 σ6 h6 => ?_)
  obtain ⟨e6, z6⟩ := h6
  have e6 := e6.symm
  subst e6
  rw [← z6] at k21
  refine mv_callVi (pc := 9) (n := 1) (ci := 4) (C := R_Names) B (mK_ok sk sv) hNs rfl rfl (c_Names_kindOf l hi _ _ hR.1 n z hE.1 (by omega) (by omega)) rfl (ma_goodc kc_Names_kindOf) (B.2.2.2.1 _ k_1316) (B.2.2.2.1 _ k_1317) (B.2.2.2.1 _ k_1318) (B.2.2.2.1 _ k_5) ⟨by decide +kernel, by decide +kernel, by decide +kernel⟩ rfl d_Weaver_isNew_9 rfl (Nat.le_of_ble_eq_true rfl) ⟨by decide, by decide⟩ ⟨by decide, by decide⟩ ⟨by decide, by decide⟩ (mv_noH hno _) (fun v9 σ9 h9 => ?_)
  obtain ⟨e9, z9⟩ := h9
  have e9 := e9.symm
  subst e9
  refine mv_if_eq (pc := 12) (tgt := 23) B d_Weaver_isNew_12 rfl (fun h12 => ?_) (fun h12 => ?_)
  · skip
    refine mv_aload_n (pc := 23) B d_Weaver_isNew_23 rfl 0 rfl ?_
    refine mv_getR (pc := 24) (ci := 1) (C := R_Weaver) (T := F_Weaver) (N := 16) B 5 rfl rfl (by decide) i_Weaver (B.2.2.2.1 _ k_235) rfl hR.2.2.1 d_Weaver_isNew_24 ?_
    refine mv_getI (pc := 27) (ci := 7) (C := R_Program) (T := F_Program) (N := 19) B 1 rfl rfl (by decide) i_Program (B.2.2.2.1 _ k_316) rfl d_Weaver_isNew_27 ?_
    refine mv_bipush (pc := 30) (v := 64) B d_Weaver_isNew_30 (by decide) ?_
    refine mv_icmp_eq (pc := 32) (tgt := 49) B d_Weaver_isNew_32 rfl (fun h32 => ?_) (fun h32 => ?_)
    · skip
      refine mv_aload_n (pc := 49) B d_Weaver_isNew_49 rfl 0 rfl ?_
      refine mv_iload_n (pc := 50) B d_Weaver_isNew_50 rfl 1 rfl ?_
      refine mv_bipush (pc := 51) (v := 6) B d_Weaver_isNew_51 (by decide) ?_
      refine mv_callVv (pc := 53) (n := 2) (ci := 1) (C := R_Weaver) B (mK_ok sk sv) hNs rfl rfl (c_Weaver_tell l hi _ _ _ hR.1 gt0 (by omega) (by decide)) rfl (ma_goodc kc_Weaver_tell) (B.2.2.2.1 _ k_1282) (B.2.2.2.1 _ k_1284) (B.2.2.2.1 _ ks_32) (B.2.2.2.1 _ k_2) ⟨by decide +kernel, by decide +kernel, by decide +kernel⟩ rfl d_Weaver_isNew_53 rfl (Nat.le_of_ble_eq_true rfl) ⟨by decide, by decide⟩ ⟨by decide, by decide⟩ ⟨by decide, by decide⟩ (mv_noH hno _) (fun σ53 h53 => ?_)
      refine mv_iconst (pc := 56) (v := 0) B d_Weaver_isNew_56 (by decide) ?_
      exact mv_iret (pc := 57) B hr rfl d_Weaver_isNew_57 (Nat.le_refl _) (Nat.le_refl _) ⟨_, rfl, Or.inl ⟨rfl, h53⟩⟩
    · skip
      have k32 : ¬ (mv_i σ 48 1).toInt = 64 := fun q => h32 (Int32.toInt_inj.mp q)
      refine mv_aload_n (pc := 35) B d_Weaver_isNew_35 rfl 0 rfl ?_
      refine mv_getR (pc := 36) (ci := 1) (C := R_Weaver) (T := F_Weaver) (N := 16) B 5 rfl rfl (by decide) i_Weaver (B.2.2.2.1 _ k_235) rfl hR.2.2.1 d_Weaver_isNew_36 ?_
      refine mv_getI (pc := 39) (ci := 7) (C := R_Program) (T := F_Program) (N := 19) B 7 rfl rfl (by decide) i_Program (B.2.2.2.1 _ k_335) rfl d_Weaver_isNew_39 ?_
      refine mv_iload_n (pc := 42) B d_Weaver_isNew_42 rfl 2 rfl ?_
      refine mv_iadd (pc := 43) B d_Weaver_isNew_43 ?_
      refine mv_topi (fun y43 ey43 => ?_)
      have fy43 := i32_addE ey43 (by (try simp only [Int32.reduceToInt]); omega) (by (try simp only [Int32.reduceToInt]); omega)
      try simp only [Int32.reduceToInt] at fy43
      refine mv_ldc (pc := 44) (v := 65536) B (B.2.2.2.1 _ k_1324) d_Weaver_isNew_44 ?_
      refine mv_icmp_le (pc := 46) (tgt := 58) B d_Weaver_isNew_46 rfl (fun h46 => ?_) (fun h46 => ?_)
      · skip
        rw [Int32.le_iff_toInt_le] at h46
        have h46 : y43.toInt ≤ 65536 := h46
        refine mv_iconst (pc := 58) (v := 1) B d_Weaver_isNew_58 (by decide) ?_
        exact mv_iret (pc := 59) B hr rfl d_Weaver_isNew_59 (Nat.le_refl _) (Nat.le_refl _) ⟨_, rfl, Or.inr ⟨rfl, rfl, by omega, by omega⟩⟩
      · skip
        refine mv_aload_n (pc := 49) B d_Weaver_isNew_49 rfl 0 rfl ?_
        refine mv_iload_n (pc := 50) B d_Weaver_isNew_50 rfl 1 rfl ?_
        refine mv_bipush (pc := 51) (v := 6) B d_Weaver_isNew_51 (by decide) ?_
        refine mv_callVv (pc := 53) (n := 2) (ci := 1) (C := R_Weaver) B (mK_ok sk sv) hNs rfl rfl (c_Weaver_tell l hi _ _ _ hR.1 gt0 (by omega) (by decide)) rfl (ma_goodc kc_Weaver_tell) (B.2.2.2.1 _ k_1282) (B.2.2.2.1 _ k_1284) (B.2.2.2.1 _ ks_32) (B.2.2.2.1 _ k_2) ⟨by decide +kernel, by decide +kernel, by decide +kernel⟩ rfl d_Weaver_isNew_53 rfl (Nat.le_of_ble_eq_true rfl) ⟨by decide, by decide⟩ ⟨by decide, by decide⟩ ⟨by decide, by decide⟩ (mv_noH hno _) (fun σ53 h53 => ?_)
        refine mv_iconst (pc := 56) (v := 0) B d_Weaver_isNew_56 (by decide) ?_
        exact mv_iret (pc := 57) B hr rfl d_Weaver_isNew_57 (Nat.le_refl _) (Nat.le_refl _) ⟨_, rfl, Or.inl ⟨rfl, h53⟩⟩
  · skip
    refine mv_aload_n (pc := 15) B d_Weaver_isNew_15 rfl 0 rfl ?_
    refine mv_iload_n (pc := 16) B d_Weaver_isNew_16 rfl 1 rfl ?_
    refine mv_iconst (pc := 17) (v := 2) B d_Weaver_isNew_17 (by decide) ?_
    refine mv_callVv (pc := 18) (n := 2) (ci := 1) (C := R_Weaver) B (mK_ok sk sv) hNs rfl rfl (c_Weaver_tell l hi _ _ _ hR.1 gt0 (by omega) (by decide)) rfl (ma_goodc kc_Weaver_tell) (B.2.2.2.1 _ k_1282) (B.2.2.2.1 _ k_1284) (B.2.2.2.1 _ ks_32) (B.2.2.2.1 _ k_2) ⟨by decide +kernel, by decide +kernel, by decide +kernel⟩ rfl d_Weaver_isNew_18 rfl (Nat.le_of_ble_eq_true rfl) ⟨by decide, by decide⟩ ⟨by decide, by decide⟩ ⟨by decide, by decide⟩ (mv_noH hno _) (fun σ18 h18 => ?_)
    refine mv_iconst (pc := 21) (v := 0) B d_Weaver_isNew_21 (by decide) ?_
    exact mv_iret (pc := 22) B hr rfl d_Weaver_isNew_22 (Nat.le_refl _) (Nat.le_refl _) ⟨_, rfl, Or.inl ⟨rfl, h18⟩⟩
set_option maxHeartbeats 4000000 in
set_option maxRecDepth 100000 in
theorem c_Weaver_isNew_c (l : Launch) {dA : FieldType → ClassId} {D : va_G} {al : Nat → Nat} {sk sv : Nat → Nat} (hi : mv_inj (mg dA D al me)) (σ : mv_H) (t9 c9 : Int32) (hR : Rw 145 (mv_r σ)) {t len n z sz th sl : Nat} (hE : TE σ t len n z sz) (gt0 : 0 ≤ t9.toInt) (gt1 : t9.toInt < sz) (hy0 : 0 ≤ (mv_b σ 6 t9.toNatClampNeg).toInt) (hy1 : (mv_b σ 6 t9.toNatClampNeg).toInt < n) (hT : Th 145 σ th sl) (ac : Nat) (hac : (mv_i σ 145 7).toInt = ac) (hac2 : ac ≤ 65536) (gc : 0 ≤ c9.toInt) (gc1 : c9.toInt ≤ 65536) : mv_C l y_Weaver_isNew (Cond.code y_Weaver_isNew b_Weaver_isNew 3 (Option.some Jvm.ClassFile.FieldType.boolean) :: ma) ({ frames := 2, cells := 0, slots := 0, locals := 44 }) (mg dA D al me) (mK sk sv) [.ref (al 2), .int t9, .int c9] σ (mv_Ri (fun v σ1 => (v = 0 ∧ ∃ x y, σ1 = ex_tell σ x y ∧ ¬ x = 0) ∨ (v = 1 ∧ σ1 = σ ∧ th < 64 ∧ ac + c9.toInt ≤ 65536))) := by
  refine mv_C.ofV (cc := b_Weaver_isNew) (nL := 3) (ret := (Option.some Jvm.ClassFile.FieldType.boolean)) (by decide +kernel) rfl hi (Nat.le_of_ble_eq_true rfl) ?_
  intro p e s m below meth c B hNs hr hnm hno
  have hsz := hE.2.2.2.1
  have hn16 := hE.1.2.1
  have hth := hT.1
  have ht64 := hT.2.1
  have k21 := l2i_nn (x := mv_b σ 6 t9.toNatClampNeg) hy0 (by omega)
  refine mv_aload_n (pc := 0) B d_Weaver_isNew_0 rfl 0 rfl ?_
  refine mv_getR (pc := 1) (ci := 1) (C := R_Weaver) (T := F_Weaver) (N := 16) B 1 rfl rfl (by decide) i_Weaver (B.2.2.2.1 _ k_229) rfl (hR.1 _ 1 _ rfl) d_Weaver_isNew_1 ?_
  refine mv_aload_n (pc := 4) B d_Weaver_isNew_4 rfl 0 rfl ?_
  refine mv_iload_n (pc := 5) B d_Weaver_isNew_5 rfl 1 rfl ?_
  refine mv_callVi (pc := 6) (n := 1) (ci := 1) (C := R_Weaver) B (mK_ok sk sv) hNs rfl rfl (c_Weaver_symbolOf l hi _ _ hR.1 gt0 (by omega)) rfl (ma_goodc kc_Weaver_symbolOf) (B.2.2.2.1 _ k_1312) (B.2.2.2.1 _ k_1314) (B.2.2.2.1 _ ks_37) (B.2.2.2.1 _ k_2) ⟨by decide +kernel, by decide +kernel, by decide +kernel⟩ rfl d_Weaver_isNew_6 rfl (Nat.le_of_ble_eq_true rfl) ⟨by decide, by decide⟩ ⟨by decide, by decide⟩ ⟨by decide, by decide⟩ (mv_noH hno _) (fun v6 σ6 h6 => ?_)
  obtain ⟨e6, z6⟩ := h6
  have e6 := e6.symm
  subst e6
  rw [← z6] at k21
  refine mv_callVi (pc := 9) (n := 1) (ci := 4) (C := R_Names) B (mK_ok sk sv) hNs rfl rfl (c_Names_kindOf l hi _ _ hR.1 n z hE.1 (by omega) (by omega)) rfl (ma_goodc kc_Names_kindOf) (B.2.2.2.1 _ k_1316) (B.2.2.2.1 _ k_1317) (B.2.2.2.1 _ k_1318) (B.2.2.2.1 _ k_5) ⟨by decide +kernel, by decide +kernel, by decide +kernel⟩ rfl d_Weaver_isNew_9 rfl (Nat.le_of_ble_eq_true rfl) ⟨by decide, by decide⟩ ⟨by decide, by decide⟩ ⟨by decide, by decide⟩ (mv_noH hno _) (fun v9 σ9 h9 => ?_)
  obtain ⟨e9, z9⟩ := h9
  have e9 := e9.symm
  subst e9
  refine mv_if_eq (pc := 12) (tgt := 23) B d_Weaver_isNew_12 rfl (fun h12 => ?_) (fun h12 => ?_)
  · skip
    refine mv_aload_n (pc := 23) B d_Weaver_isNew_23 rfl 0 rfl ?_
    refine mv_getR (pc := 24) (ci := 1) (C := R_Weaver) (T := F_Weaver) (N := 16) B 5 rfl rfl (by decide) i_Weaver (B.2.2.2.1 _ k_235) rfl hR.2.2.1 d_Weaver_isNew_24 ?_
    refine mv_getI (pc := 27) (ci := 7) (C := R_Program) (T := F_Program) (N := 19) B 1 rfl rfl (by decide) i_Program (B.2.2.2.1 _ k_316) rfl d_Weaver_isNew_27 ?_
    refine mv_bipush (pc := 30) (v := 64) B d_Weaver_isNew_30 (by decide) ?_
    refine mv_icmp_eq (pc := 32) (tgt := 49) B d_Weaver_isNew_32 rfl (fun h32 => ?_) (fun h32 => ?_)
    · skip
      refine mv_aload_n (pc := 49) B d_Weaver_isNew_49 rfl 0 rfl ?_
      refine mv_iload_n (pc := 50) B d_Weaver_isNew_50 rfl 1 rfl ?_
      refine mv_bipush (pc := 51) (v := 6) B d_Weaver_isNew_51 (by decide) ?_
      refine mv_callVv (pc := 53) (n := 2) (ci := 1) (C := R_Weaver) B (mK_ok sk sv) hNs rfl rfl (c_Weaver_tell l hi _ _ _ hR.1 gt0 (by omega) (by decide)) rfl (ma_goodc kc_Weaver_tell) (B.2.2.2.1 _ k_1282) (B.2.2.2.1 _ k_1284) (B.2.2.2.1 _ ks_32) (B.2.2.2.1 _ k_2) ⟨by decide +kernel, by decide +kernel, by decide +kernel⟩ rfl d_Weaver_isNew_53 rfl (Nat.le_of_ble_eq_true rfl) ⟨by decide, by decide⟩ ⟨by decide, by decide⟩ ⟨by decide, by decide⟩ (mv_noH hno _) (fun σ53 h53 => ?_)
      refine mv_iconst (pc := 56) (v := 0) B d_Weaver_isNew_56 (by decide) ?_
      exact mv_iret (pc := 57) B hr rfl d_Weaver_isNew_57 (Nat.le_refl _) (Nat.le_refl _) ⟨_, rfl, Or.inl ⟨rfl, h53⟩⟩
    · skip
      have k32 : ¬ (mv_i σ 145 1).toInt = 64 := fun q => h32 (Int32.toInt_inj.mp q)
      refine mv_aload_n (pc := 35) B d_Weaver_isNew_35 rfl 0 rfl ?_
      refine mv_getR (pc := 36) (ci := 1) (C := R_Weaver) (T := F_Weaver) (N := 16) B 5 rfl rfl (by decide) i_Weaver (B.2.2.2.1 _ k_235) rfl hR.2.2.1 d_Weaver_isNew_36 ?_
      refine mv_getI (pc := 39) (ci := 7) (C := R_Program) (T := F_Program) (N := 19) B 7 rfl rfl (by decide) i_Program (B.2.2.2.1 _ k_335) rfl d_Weaver_isNew_39 ?_
      refine mv_iload_n (pc := 42) B d_Weaver_isNew_42 rfl 2 rfl ?_
      refine mv_iadd (pc := 43) B d_Weaver_isNew_43 ?_
      refine mv_topi (fun y43 ey43 => ?_)
      have fy43 := i32_addE ey43 (by (try simp only [Int32.reduceToInt]); omega) (by (try simp only [Int32.reduceToInt]); omega)
      try simp only [Int32.reduceToInt] at fy43
      refine mv_ldc (pc := 44) (v := 65536) B (B.2.2.2.1 _ k_1324) d_Weaver_isNew_44 ?_
      refine mv_icmp_le (pc := 46) (tgt := 58) B d_Weaver_isNew_46 rfl (fun h46 => ?_) (fun h46 => ?_)
      · skip
        rw [Int32.le_iff_toInt_le] at h46
        have h46 : y43.toInt ≤ 65536 := h46
        refine mv_iconst (pc := 58) (v := 1) B d_Weaver_isNew_58 (by decide) ?_
        exact mv_iret (pc := 59) B hr rfl d_Weaver_isNew_59 (Nat.le_refl _) (Nat.le_refl _) ⟨_, rfl, Or.inr ⟨rfl, rfl, by omega, by omega⟩⟩
      · skip
        refine mv_aload_n (pc := 49) B d_Weaver_isNew_49 rfl 0 rfl ?_
        refine mv_iload_n (pc := 50) B d_Weaver_isNew_50 rfl 1 rfl ?_
        refine mv_bipush (pc := 51) (v := 6) B d_Weaver_isNew_51 (by decide) ?_
        refine mv_callVv (pc := 53) (n := 2) (ci := 1) (C := R_Weaver) B (mK_ok sk sv) hNs rfl rfl (c_Weaver_tell l hi _ _ _ hR.1 gt0 (by omega) (by decide)) rfl (ma_goodc kc_Weaver_tell) (B.2.2.2.1 _ k_1282) (B.2.2.2.1 _ k_1284) (B.2.2.2.1 _ ks_32) (B.2.2.2.1 _ k_2) ⟨by decide +kernel, by decide +kernel, by decide +kernel⟩ rfl d_Weaver_isNew_53 rfl (Nat.le_of_ble_eq_true rfl) ⟨by decide, by decide⟩ ⟨by decide, by decide⟩ ⟨by decide, by decide⟩ (mv_noH hno _) (fun σ53 h53 => ?_)
        refine mv_iconst (pc := 56) (v := 0) B d_Weaver_isNew_56 (by decide) ?_
        exact mv_iret (pc := 57) B hr rfl d_Weaver_isNew_57 (Nat.le_refl _) (Nat.le_refl _) ⟨_, rfl, Or.inl ⟨rfl, h53⟩⟩
  · skip
    refine mv_aload_n (pc := 15) B d_Weaver_isNew_15 rfl 0 rfl ?_
    refine mv_iload_n (pc := 16) B d_Weaver_isNew_16 rfl 1 rfl ?_
    refine mv_iconst (pc := 17) (v := 2) B d_Weaver_isNew_17 (by decide) ?_
    refine mv_callVv (pc := 18) (n := 2) (ci := 1) (C := R_Weaver) B (mK_ok sk sv) hNs rfl rfl (c_Weaver_tell l hi _ _ _ hR.1 gt0 (by omega) (by decide)) rfl (ma_goodc kc_Weaver_tell) (B.2.2.2.1 _ k_1282) (B.2.2.2.1 _ k_1284) (B.2.2.2.1 _ ks_32) (B.2.2.2.1 _ k_2) ⟨by decide +kernel, by decide +kernel, by decide +kernel⟩ rfl d_Weaver_isNew_18 rfl (Nat.le_of_ble_eq_true rfl) ⟨by decide, by decide⟩ ⟨by decide, by decide⟩ ⟨by decide, by decide⟩ (mv_noH hno _) (fun σ18 h18 => ?_)
    refine mv_iconst (pc := 21) (v := 0) B d_Weaver_isNew_21 (by decide) ?_
    exact mv_iret (pc := 22) B hr rfl d_Weaver_isNew_22 (Nat.le_refl _) (Nat.le_refl _) ⟨_, rfl, Or.inl ⟨rfl, h18⟩⟩
