/-! the reference's Book: as it runs -/
/-- what running changes -/
def MB (B : Nat) : mv_H → mv_H → Prop := Fx (fun o k => o = B ∧ (k = 53 ∨ k = 61 ∨ k = 62 ∨ k = 63)) (fun o k => o = B ∧ (k = 52 ∨ k = 64)) (fun o _ => B + 29 ≤ o ∧ o ≤ B + 31) (fun o => o = B + 26 ∨ o = B + 27 ∨ o = B + 28 ∨ o = B + 32)
/-- what the body of an op changes -/
def DF (B : Nat) : mv_H → mv_H → Prop := Fx (fun o k => o = B ∧ (k = 53 ∨ k = 61 ∨ k = 62)) (fun _ _ => False) (fun o _ => B + 29 ≤ o ∧ o ≤ B + 31) (fun o => o = B + 26 ∨ o = B + 32)
/-- what an expression changes: the trap, the spine from sp on -/
def EB (B sp : Nat) : mv_H → mv_H → Prop := Fx (fun o k => o = B ∧ (k = 53 ∨ k = 62)) (fun _ _ => False) (fun o j => o = B + 31 ∧ sp ≤ j) (fun _ => False)
theorem DF.mf {B : Nat} {σ τ : mv_H} (h : DF B σ τ) : MB B σ τ := h.up (fun o k z => by omega) (fun o k z => absurd z id) (fun o k z => z) (fun o z => by omega)
theorem EB.df {B sp : Nat} {σ τ : mv_H} (h : EB B sp σ τ) : DF B σ τ := h.up (fun o k z => by omega) (fun o k z => z) (fun o k z => by omega) (fun o z => absurd z id)
theorem EB.lo {B sp sp' : Nat} {σ τ : mv_H} (h : EB B sp' σ τ) (hs : sp ≤ sp') : EB B sp σ τ := h.up (fun o k z => z) (fun o k z => z) (fun o k z => by omega) (fun o z => z)
theorem EB.tr {B sp : Nat} {σ τ υ : mv_H} (h : EB B sp σ τ) (g : EB B sp τ υ) : EB B sp σ υ := Fx.tr h g
theorem DF.tr {B : Nat} {σ τ υ : mv_H} (h : DF B σ τ) (g : DF B τ υ) : DF B σ υ := Fx.tr h g
theorem MB.tr {B : Nat} {σ τ υ : mv_H} (h : MB B σ τ) (g : MB B τ υ) : MB B σ υ := Fx.tr h g
theorem MB.bf {B : Nat} {σ τ : mv_H} (h : MB B σ τ) : BF B σ τ := h.up (fun o k z => by omega) (fun o k z => by omega) (fun o k z => by omega) (fun o z => by omega)
theorem CO.fr {B k : Nat} {S T : mv_H} (h : CO B k S) (e1 : mv_i T B 29 = mv_i S B 29) (e2 : mv_i T B 20 = mv_i S B 20) (e3 : ∀ j, mv_a T (B + 10) j = mv_a S (B + 10) j) : CO B k T := by
  unfold CO
  rw [e1, e2]
  exact ⟨h.1, h.2.1, h.2.2.1, fun i hi => by rw [e3]; exact h.2.2.2 i hi⟩
theorem TA.fr {B t : Nat} {S T : mv_H} (h : TA B S t) (e : ∀ o, (o = B + 4 ∨ o = B + 5 ∨ o = B + 6) → mv_a T o t = mv_a S o t) : TA B T t := by
  unfold TA
  rw [e (B + 5) (by omega), e (B + 4) (by omega)]
  exact ⟨h.1, h.2.1.fr (e _ (by omega)) (e _ (by omega)), h.2.2⟩
theorem BG.mf {B : Nat} {S T : mv_H} (h : BG B S) (f : MB B S T) : BG B T := by
  obtain ⟨th, n, k, h1, h2, h3, h4, h5, h6, h7, h8⟩ := h
  have ei : ∀ j, (j = 17 ∨ j = 18 ∨ j = 20 ∨ j = 21 ∨ j = 29 ∨ j = 48) → mv_i T B j = mv_i S B j := fun j hj => f.1 _ _ (by omega)
  have ea : ∀ o j, ¬ (B + 29 ≤ o ∧ o ≤ B + 31) → mv_a T o j = mv_a S o j := fun o j ho => f.2.2.2.1 _ _ ho
  exact ⟨th, n, k, by rw [ei 17 (by omega)]; exact h1, h2, by rw [ei 48 (by omega)]; exact h3, h4, h5.fr (ei 29 (by omega)) (ei 20 (by omega)) (fun j => ea _ _ (by omega)), h6.fr (Nat.le_refl _) (fun o j _ _ _ => ea _ _ (by omega)) (fun j _ => ea _ _ (by omega)), fun t ht => (h7 t ht).fr (fun o ho => ea _ _ (by omega)), by rw [ei 18 (by omega), ei 21 (by omega)]; exact h8⟩
/-- what stands while an op's body runs -/
def ST (B th n k : Nat) (g : Gh) (σ : mv_H) : Prop := mh (mv_r σ) ∧ RG B th σ g 0 n 61 ∧ n ≤ 10240 ∧ (mv_i σ B 17).toInt = th ∧ th ≤ 64 ∧ (∀ t, t < th → TA B σ t) ∧ CO B k σ ∧ 0 ≤ (mv_i σ B 63).toInt ∧ (mv_i σ B 63).toInt < k
theorem ST.df {B th n k : Nat} {g : Gh} {σ τ : mv_H} (h : ST B th n k g σ) (f : DF B σ τ) : ST B th n k g τ := by
  obtain ⟨h1, h2, h3, h4, h5, h6, h7, h8⟩ := h
  have ei : ∀ j, (j = 17 ∨ j = 20 ∨ j = 29 ∨ j = 63) → mv_i τ B j = mv_i σ B j := fun j hj => f.1 _ _ (by omega)
  have ea : ∀ o j, ¬ (B + 29 ≤ o ∧ o ≤ B + 31) → mv_a τ o j = mv_a σ o j := fun o j ho => f.2.2.2.1 _ _ ho
  exact ⟨by rw [f.2.2.1]; exact h1, h2.fr (Nat.le_refl _) (Nat.le_refl _) (Nat.le_refl _) (fun o j _ _ _ _ => ea _ _ (by omega)) (fun _ _ _ => ⟨rfl, rfl⟩), h3, by rw [ei 17 (by omega)]; exact h4, h5, fun t ht => (h6 t ht).fr (fun o ho => ea _ _ (by omega)), h7.fr (ei 29 (by omega)) (ei 20 (by omega)) (fun j => ea _ _ (by omega)), by rw [ei 63 (by omega)]; exact h8⟩
/-- a place that may be written or read -/
def WK (B th : Nat) (σ : mv_H) (t i : Int32) : Prop := 0 ≤ t.toInt ∧ t.toInt < th ∧ 0 ≤ i.toInt ∧ (i.toInt < (mv_a σ (B + 4) t.toNatClampNeg).toInt ∨ i.toInt = 0)
/-- the writes so far -/
def DY (B th w : Nat) (σ : mv_H) : Prop := (mv_i σ B 61).toInt = w ∧ ∀ j, j < w → WK B th σ (mv_a σ (B + 29) j) (mv_a σ (B + 30) j)
theorem WK.fr {B th : Nat} {σ τ : mv_H} {t i : Int32} (h : WK B th σ t i) (e : ∀ j, mv_a τ (B + 4) j = mv_a σ (B + 4) j) : WK B th τ t i := by
  unfold WK
  rw [e]
  exact h
theorem DY.ef {B th w sp : Nat} {σ τ : mv_H} (h : DY B th w σ) (f : EB B sp σ τ) : DY B th w τ := ⟨by rw [f.1 _ _ (by omega)]; exact h.1, fun j hj => by rw [f.2.2.2.1 _ _ (by omega), f.2.2.2.1 _ _ (by omega)]; exact (h.2 j hj).fr (fun i => f.2.2.2.1 _ _ (by omega))⟩
/-- where a place lies -/
theorem WK.in {B th n k : Nat} {g : Gh} {σ : mv_H} {t i : Int32} (h : WK B th σ t i) (hS : ST B th n k g σ) (hf : ¬ mv_a σ (B + 6) t.toNatClampNeg = 0) : 0 ≤ (mv_a σ (B + 5) t.toNatClampNeg).toInt + i.toInt ∧ (mv_a σ (B + 5) t.toNatClampNeg).toInt + i.toInt < 65536 ∧ 0 ≤ (mv_a σ (B + 5) t.toNatClampNeg).toInt := by
  obtain ⟨h1, h2, h3, h4⟩ := h
  have hc := i32_cl h1
  obtain ⟨a1, ⟨a2, a3⟩, a4⟩ := hS.2.2.2.2.2.1 t.toNatClampNeg (by omega)
  have := a3 hf
  omega

def y_Book_cut : MethodName := ⟨"MachineLoomModel$Book", "cut", "(JI)J"⟩
abbrev b_Book_cut : ByteArray := prog_15_method_54_code
theorem kc_Book_cut : Cond.code y_Book_cut b_Book_cut 3 (Option.some Jvm.ClassFile.FieldType.long) ∈ ma := ma_of (tb_11 _ (List.mem_of_getElem? (i := 29) rfl)) rfl
theorem d_Book_cut_0 : decode b_Book_cut 0 = .ok (.iload_n 2, 1) := by decide +kernel
theorem d_Book_cut_1 : decode b_Book_cut 1 = .ok (.bipush 64, 2) := by decide +kernel
theorem d_Book_cut_3 : decode b_Book_cut 3 = .ok (.if_icmp .ne (7), 3) := by decide +kernel
theorem d_Book_cut_6 : decode b_Book_cut 6 = .ok (.lload_n 0, 1) := by decide +kernel
theorem d_Book_cut_7 : decode b_Book_cut 7 = .ok (.goto (10), 3) := by decide +kernel
theorem d_Book_cut_10 : decode b_Book_cut 10 = .ok (.lload_n 0, 1) := by decide +kernel
theorem d_Book_cut_11 : decode b_Book_cut 11 = .ok (.lconst 1, 1) := by decide +kernel
theorem d_Book_cut_12 : decode b_Book_cut 12 = .ok (.iload_n 2, 1) := by decide +kernel
theorem d_Book_cut_13 : decode b_Book_cut 13 = .ok (.lshl, 1) := by decide +kernel
theorem d_Book_cut_14 : decode b_Book_cut 14 = .ok (.lconst 1, 1) := by decide +kernel
theorem d_Book_cut_15 : decode b_Book_cut 15 = .ok (.lsub, 1) := by decide +kernel
theorem d_Book_cut_16 : decode b_Book_cut 16 = .ok (.land, 1) := by decide +kernel
theorem d_Book_cut_17 : decode b_Book_cut 17 = .ok (.lreturn, 1) := by decide +kernel
set_option maxHeartbeats 4000000 in
set_option maxRecDepth 100000 in
theorem c_Book_cut (l : Launch) {dA : FieldType → ClassId} {D : va_G} {al : Nat → Nat} {ext : mv_Sh} {sk sv : Nat → Nat} (hi : mv_inj (mg dA D al ext)) (σ : mv_H) (x : Int64) (w : Int32) : mv_C l y_Book_cut (Cond.code y_Book_cut b_Book_cut 3 (Option.some Jvm.ClassFile.FieldType.long) :: ma) ({ frames := 0, cells := 0, slots := 0, locals := 0 }) (mg dA D al ext) (mK sk sv) [.long x, .int w] σ (mv_Rl (fun v σ1 => σ1 = σ)) := by
  refine mv_C.ofV (cc := b_Book_cut) (nL := 3) (ret := (Option.some Jvm.ClassFile.FieldType.long)) (by decide +kernel) rfl hi (Nat.le_of_ble_eq_true rfl) ?_
  intro p e s m below meth c B hNs hr hnm hno
  refine mv_iload_n (pc := 0) B d_Book_cut_0 rfl 1 rfl ?_
  refine mv_bipush (pc := 1) (v := 64) B d_Book_cut_1 (by decide) ?_
  refine mv_icmp_ne (pc := 3) (tgt := 10) B d_Book_cut_3 rfl (fun h3 => ?_) (fun h3 => ?_)
  · skip
    refine mv_lload_n (pc := 10) B d_Book_cut_10 rfl 0 rfl ?_
    refine mv_lconst (pc := 11) (v := 1) B d_Book_cut_11 (by decide) ?_
    refine mv_iload_n (pc := 12) B d_Book_cut_12 rfl 1 rfl ?_
    refine mv_lshl (pc := 13) B d_Book_cut_13 ?_
    refine mv_lconst (pc := 14) (v := 1) B d_Book_cut_14 (by decide) ?_
    refine mv_lsub (pc := 15) B d_Book_cut_15 ?_
    refine mv_land (pc := 16) B d_Book_cut_16 ?_
    exact mv_lret (pc := 17) B hr d_Book_cut_17 (Nat.le_refl _) (Nat.le_refl _) ⟨_, rfl, rfl⟩
  · skip
    refine mv_lload_n (pc := 6) B d_Book_cut_6 rfl 0 rfl ?_
    refine mv_goto (pc := 7) (tgt := 17) B d_Book_cut_7 rfl ?_
    exact mv_lret (pc := 17) B hr d_Book_cut_17 (Nat.le_refl _) (Nat.le_refl _) ⟨_, rfl, rfl⟩
def y_Book_signed : MethodName := ⟨"MachineLoomModel$Book", "signed", "(JI)J"⟩
abbrev b_Book_signed : ByteArray := prog_15_method_55_code
theorem kc_Book_signed : Cond.code y_Book_signed b_Book_signed 3 (Option.some Jvm.ClassFile.FieldType.long) ∈ ma := ma_of (tb_11 _ (List.mem_of_getElem? (i := 127) rfl)) rfl
theorem d_Book_signed_0 : decode b_Book_signed 0 = .ok (.lload_n 0, 1) := by decide +kernel
theorem d_Book_signed_1 : decode b_Book_signed 1 = .ok (.bipush 64, 2) := by decide +kernel
theorem d_Book_signed_3 : decode b_Book_signed 3 = .ok (.iload_n 2, 1) := by decide +kernel
theorem d_Book_signed_4 : decode b_Book_signed 4 = .ok (.isub, 1) := by decide +kernel
theorem d_Book_signed_5 : decode b_Book_signed 5 = .ok (.lshl, 1) := by decide +kernel
theorem d_Book_signed_6 : decode b_Book_signed 6 = .ok (.bipush 64, 2) := by decide +kernel
theorem d_Book_signed_8 : decode b_Book_signed 8 = .ok (.iload_n 2, 1) := by decide +kernel
theorem d_Book_signed_9 : decode b_Book_signed 9 = .ok (.isub, 1) := by decide +kernel
theorem d_Book_signed_10 : decode b_Book_signed 10 = .ok (.lshr, 1) := by decide +kernel
theorem d_Book_signed_11 : decode b_Book_signed 11 = .ok (.lreturn, 1) := by decide +kernel
set_option maxHeartbeats 4000000 in
set_option maxRecDepth 100000 in
theorem c_Book_signed (l : Launch) {dA : FieldType → ClassId} {D : va_G} {al : Nat → Nat} {ext : mv_Sh} {sk sv : Nat → Nat} (hi : mv_inj (mg dA D al ext)) (σ : mv_H) (x : Int64) (w : Int32) : mv_C l y_Book_signed (Cond.code y_Book_signed b_Book_signed 3 (Option.some Jvm.ClassFile.FieldType.long) :: ma) ({ frames := 0, cells := 0, slots := 0, locals := 0 }) (mg dA D al ext) (mK sk sv) [.long x, .int w] σ (mv_Rl (fun v σ1 => σ1 = σ)) := by
  refine mv_C.ofV (cc := b_Book_signed) (nL := 3) (ret := (Option.some Jvm.ClassFile.FieldType.long)) (by decide +kernel) rfl hi (Nat.le_of_ble_eq_true rfl) ?_
  intro p e s m below meth c B hNs hr hnm hno
  refine mv_lload_n (pc := 0) B d_Book_signed_0 rfl 0 rfl ?_
  refine mv_bipush (pc := 1) (v := 64) B d_Book_signed_1 (by decide) ?_
  refine mv_iload_n (pc := 3) B d_Book_signed_3 rfl 1 rfl ?_
  refine mv_isub (pc := 4) B d_Book_signed_4 ?_
  refine mv_lshl (pc := 5) B d_Book_signed_5 ?_
  refine mv_bipush (pc := 6) (v := 64) B d_Book_signed_6 (by decide) ?_
  refine mv_iload_n (pc := 8) B d_Book_signed_8 rfl 1 rfl ?_
  refine mv_isub (pc := 9) B d_Book_signed_9 ?_
  refine mv_lshr (pc := 10) B d_Book_signed_10 ?_
  exact mv_lret (pc := 11) B hr d_Book_signed_11 (Nat.le_refl _) (Nat.le_refl _) ⟨_, rfl, rfl⟩
def y_Book_below : MethodName := ⟨"MachineLoomModel$Book", "below", "(JJ)Z"⟩
abbrev b_Book_below : ByteArray := prog_15_method_56_code
theorem kc_Book_below : Cond.code y_Book_below b_Book_below 4 (Option.some Jvm.ClassFile.FieldType.boolean) ∈ ma := ma_of (tb_11 _ (List.mem_of_getElem? (i := 134) rfl)) rfl
theorem d_Book_below_0 : decode b_Book_below 0 = .ok (.lload_n 0, 1) := by decide +kernel
theorem d_Book_below_1 : decode b_Book_below 1 = .ok (.ldc2_w 304, 3) := by decide +kernel
theorem d_Book_below_4 : decode b_Book_below 4 = .ok (.ladd, 1) := by decide +kernel
theorem d_Book_below_5 : decode b_Book_below 5 = .ok (.lload_n 2, 1) := by decide +kernel
theorem d_Book_below_6 : decode b_Book_below 6 = .ok (.ldc2_w 304, 3) := by decide +kernel
theorem d_Book_below_9 : decode b_Book_below 9 = .ok (.ladd, 1) := by decide +kernel
theorem d_Book_below_10 : decode b_Book_below 10 = .ok (.lcmp, 1) := by decide +kernel
theorem d_Book_below_11 : decode b_Book_below 11 = .ok (.ifCond .ge (7), 3) := by decide +kernel
theorem d_Book_below_14 : decode b_Book_below 14 = .ok (.iconst 1, 1) := by decide +kernel
theorem d_Book_below_15 : decode b_Book_below 15 = .ok (.goto (4), 3) := by decide +kernel
theorem d_Book_below_18 : decode b_Book_below 18 = .ok (.iconst 0, 1) := by decide +kernel
theorem d_Book_below_19 : decode b_Book_below 19 = .ok (.ireturn, 1) := by decide +kernel
set_option maxHeartbeats 4000000 in
set_option maxRecDepth 100000 in
theorem c_Book_below (l : Launch) {dA : FieldType → ClassId} {D : va_G} {al : Nat → Nat} {ext : mv_Sh} {sk sv : Nat → Nat} (hi : mv_inj (mg dA D al ext)) (σ : mv_H) (x y : Int64) : mv_C l y_Book_below (Cond.code y_Book_below b_Book_below 4 (Option.some Jvm.ClassFile.FieldType.boolean) :: ma) ({ frames := 0, cells := 0, slots := 0, locals := 0 }) (mg dA D al ext) (mK sk sv) [.long x, .long y] σ (mv_Ri (fun v σ1 => σ1 = σ)) := by
  refine mv_C.ofV (cc := b_Book_below) (nL := 4) (ret := (Option.some Jvm.ClassFile.FieldType.boolean)) (by decide +kernel) rfl hi (Nat.le_of_ble_eq_true rfl) ?_
  intro p e s m below meth c B hNs hr hnm hno
  refine mv_lload_n (pc := 0) B d_Book_below_0 rfl 0 rfl ?_
  refine mv_ldc2 (pc := 1) (v := -9223372036854775808) B (B.2.2.2.1 _ k_2317) d_Book_below_1 ?_
  refine mv_ladd (pc := 4) B d_Book_below_4 ?_
  refine mv_lload_n (pc := 5) B d_Book_below_5 rfl 1 rfl ?_
  refine mv_ldc2 (pc := 6) (v := -9223372036854775808) B (B.2.2.2.1 _ k_2317) d_Book_below_6 ?_
  refine mv_ladd (pc := 9) B d_Book_below_9 ?_
  refine mv_lcmp (pc := 10) B d_Book_below_10 ?_
  refine mv_if_ge (pc := 11) (tgt := 18) B d_Book_below_11 rfl (fun h11 => ?_) (fun h11 => ?_)
  · skip
    refine mv_iconst (pc := 18) (v := 0) B d_Book_below_18 (by decide) ?_
    exact mv_iret (pc := 19) B hr rfl d_Book_below_19 (Nat.le_refl _) (Nat.le_refl _) ⟨_, rfl, rfl⟩
  · skip
    refine mv_iconst (pc := 14) (v := 1) B d_Book_below_14 (by decide) ?_
    refine mv_goto (pc := 15) (tgt := 19) B d_Book_below_15 rfl ?_
    exact mv_iret (pc := 19) B hr rfl d_Book_below_19 (Nat.le_refl _) (Nat.le_refl _) ⟨_, rfl, rfl⟩
def y_Book_divided : MethodName := ⟨"MachineLoomModel$Book", "divided", "(JJ)J"⟩
abbrev b_Book_divided : ByteArray := prog_15_method_57_code
theorem kc_Book_divided : Cond.code y_Book_divided b_Book_divided 10 (Option.some Jvm.ClassFile.FieldType.long) ∈ ma := ma_of (tb_11 _ (List.mem_of_getElem? (i := 138) rfl)) rfl
theorem k_2532 : (Jvm.Cond.methodLink "MachineLoomModel$Book" (437 : Nat) ({ cls := "MachineLoomModel$Book", name := "below", desc := "(JJ)Z" } : Jvm.MethodName)) ∈ ma := ma_of (tb_11 _ (List.mem_of_getElem? (i := 132) rfl)) rfl
theorem k_2533 : (Jvm.Cond.static ({ cls := "MachineLoomModel$Book", name := "below", desc := "(JJ)Z" } : Jvm.MethodName)) ∈ ma := ma_of (tb_11 _ (List.mem_of_getElem? (i := 133) rfl)) rfl
theorem d_Book_divided_0 : decode b_Book_divided 0 = .ok (.lconst 0, 1) := by decide +kernel
theorem d_Book_divided_1 : decode b_Book_divided 1 = .ok (.lstore 4, 2) := by decide +kernel
theorem d_Book_divided_3 : decode b_Book_divided 3 = .ok (.lconst 0, 1) := by decide +kernel
theorem d_Book_divided_4 : decode b_Book_divided 4 = .ok (.lstore 6, 2) := by decide +kernel
theorem d_Book_divided_6 : decode b_Book_divided 6 = .ok (.bipush 63, 2) := by decide +kernel
theorem d_Book_divided_8 : decode b_Book_divided 8 = .ok (.istore 8, 2) := by decide +kernel
theorem d_Book_divided_10 : decode b_Book_divided 10 = .ok (.iload 8, 2) := by decide +kernel
theorem d_Book_divided_12 : decode b_Book_divided 12 = .ok (.ifCond .lt (68), 3) := by decide +kernel
theorem d_Book_divided_15 : decode b_Book_divided 15 = .ok (.lload 6, 2) := by decide +kernel
theorem d_Book_divided_17 : decode b_Book_divided 17 = .ok (.lconst 0, 1) := by decide +kernel
theorem d_Book_divided_18 : decode b_Book_divided 18 = .ok (.lcmp, 1) := by decide +kernel
theorem d_Book_divided_19 : decode b_Book_divided 19 = .ok (.ifCond .ge (7), 3) := by decide +kernel
theorem d_Book_divided_22 : decode b_Book_divided 22 = .ok (.iconst 1, 1) := by decide +kernel
theorem d_Book_divided_23 : decode b_Book_divided 23 = .ok (.goto (4), 3) := by decide +kernel
theorem d_Book_divided_26 : decode b_Book_divided 26 = .ok (.iconst 0, 1) := by decide +kernel
theorem d_Book_divided_27 : decode b_Book_divided 27 = .ok (.istore 9, 2) := by decide +kernel
theorem d_Book_divided_29 : decode b_Book_divided 29 = .ok (.lload 6, 2) := by decide +kernel
theorem d_Book_divided_31 : decode b_Book_divided 31 = .ok (.iconst 1, 1) := by decide +kernel
theorem d_Book_divided_32 : decode b_Book_divided 32 = .ok (.lshl, 1) := by decide +kernel
theorem d_Book_divided_33 : decode b_Book_divided 33 = .ok (.lload_n 0, 1) := by decide +kernel
theorem d_Book_divided_34 : decode b_Book_divided 34 = .ok (.iload 8, 2) := by decide +kernel
theorem d_Book_divided_36 : decode b_Book_divided 36 = .ok (.lushr, 1) := by decide +kernel
theorem d_Book_divided_37 : decode b_Book_divided 37 = .ok (.lconst 1, 1) := by decide +kernel
theorem d_Book_divided_38 : decode b_Book_divided 38 = .ok (.land, 1) := by decide +kernel
theorem d_Book_divided_39 : decode b_Book_divided 39 = .ok (.lor, 1) := by decide +kernel
theorem d_Book_divided_40 : decode b_Book_divided 40 = .ok (.lstore 6, 2) := by decide +kernel
theorem d_Book_divided_42 : decode b_Book_divided 42 = .ok (.iload 9, 2) := by decide +kernel
theorem d_Book_divided_44 : decode b_Book_divided 44 = .ok (.ifCond .ne (15), 3) := by decide +kernel
theorem d_Book_divided_47 : decode b_Book_divided 47 = .ok (.lload 6, 2) := by decide +kernel
theorem d_Book_divided_49 : decode b_Book_divided 49 = .ok (.lload_n 2, 1) := by decide +kernel
theorem d_Book_divided_50 : decode b_Book_divided 50 = .ok (.invokestatic 437, 3) := by decide +kernel
theorem d_Book_divided_53 : decode b_Book_divided 53 = .ok (.ifCond .eq (6), 3) := by decide +kernel
theorem d_Book_divided_56 : decode b_Book_divided 56 = .ok (.goto (18), 3) := by decide +kernel
theorem d_Book_divided_59 : decode b_Book_divided 59 = .ok (.lload 6, 2) := by decide +kernel
theorem d_Book_divided_61 : decode b_Book_divided 61 = .ok (.lload_n 2, 1) := by decide +kernel
theorem d_Book_divided_62 : decode b_Book_divided 62 = .ok (.lsub, 1) := by decide +kernel
theorem d_Book_divided_63 : decode b_Book_divided 63 = .ok (.lstore 6, 2) := by decide +kernel
theorem d_Book_divided_65 : decode b_Book_divided 65 = .ok (.lload 4, 2) := by decide +kernel
theorem d_Book_divided_67 : decode b_Book_divided 67 = .ok (.lconst 1, 1) := by decide +kernel
theorem d_Book_divided_68 : decode b_Book_divided 68 = .ok (.iload 8, 2) := by decide +kernel
theorem d_Book_divided_70 : decode b_Book_divided 70 = .ok (.lshl, 1) := by decide +kernel
theorem d_Book_divided_71 : decode b_Book_divided 71 = .ok (.lor, 1) := by decide +kernel
theorem d_Book_divided_72 : decode b_Book_divided 72 = .ok (.lstore 4, 2) := by decide +kernel
theorem d_Book_divided_74 : decode b_Book_divided 74 = .ok (.iinc 8 (-1), 3) := by decide +kernel
theorem d_Book_divided_77 : decode b_Book_divided 77 = .ok (.goto (-67), 3) := by decide +kernel
theorem d_Book_divided_80 : decode b_Book_divided 80 = .ok (.lload 4, 2) := by decide +kernel
theorem d_Book_divided_82 : decode b_Book_divided 82 = .ok (.lreturn, 1) := by decide +kernel
set_option maxHeartbeats 4000000 in
set_option maxRecDepth 100000 in
theorem c_Book_divided (l : Launch) {dA : FieldType → ClassId} {D : va_G} {al : Nat → Nat} {ext : mv_Sh} {sk sv : Nat → Nat} (hi : mv_inj (mg dA D al ext)) (σ : mv_H) (x y : Int64) : mv_C l y_Book_divided (Cond.code y_Book_divided b_Book_divided 10 (Option.some Jvm.ClassFile.FieldType.long) :: ma) ({ frames := 1, cells := 0, slots := 0, locals := 23 }) (mg dA D al ext) (mK sk sv) [.long x, .long y] σ (mv_Rl (fun v σ1 => σ1 = σ)) := by
  refine mv_C.ofV (cc := b_Book_divided) (nL := 10) (ret := (Option.some Jvm.ClassFile.FieldType.long)) (by decide +kernel) rfl hi (Nat.le_of_ble_eq_true rfl) ?_
  intro p e s m below meth c B hNs hr hnm hno
  have lp : ∀ (nn : Nat) (k9 : Int32) (r9 : Int64) (q9 : Int64) (q0 : k9.toInt ≤ 63), (k9.toInt + 1).toNat < nn → mv_V p l e ({ frames := 1, cells := 0, slots := 0, locals := 23 }) s m ([.long x, .long y] : List Value).toArray below meth c (mg dA D al ext) 10 0 0 (mv_Q (mg dA D al ext) below s 0 0 (mv_Rl (fun v σ1 => σ1 = σ))) σ 10 [(8, .int k9), (6, .long r9), (4, .long q9), (0, .long x), (2, .long y)] [] := by
    intro nn
    induction nn with
    | zero => intro k9 r9 q9 q0 hm; exact absurd hm (Nat.not_lt_zero _)
    | succ nn ih =>
      intro k9 r9 q9 q0 hm
      refine mv_iload (pc := 10) B d_Book_divided_10 0 rfl ?_
      refine mv_if_lt (pc := 12) (tgt := 80) B d_Book_divided_12 rfl (fun h12 => ?_) (fun h12 => ?_)
      · skip
        refine mv_lload (pc := 80) B d_Book_divided_80 2 rfl ?_
        exact mv_lret (pc := 82) B hr d_Book_divided_82 (Nat.le_refl _) (Nat.le_refl _) ⟨_, rfl, rfl⟩
      · skip
        have hk0 : ¬ k9.toInt < 0 := fun z => h12 (Int32.lt_iff_toInt_lt.mpr z)
        have w2 : (k9 + -1).toInt = k9.toInt - 1 := by rw [i32_add (x := k9) (y := -1) (by show -2147483648 ≤ k9.toInt + -1; omega) (by show k9.toInt + -1 < 2147483648; omega)]; show k9.toInt + -1 = _; omega
        refine mv_lload (pc := 15) B d_Book_divided_15 1 rfl ?_
        refine mv_lconst (pc := 17) (v := 0) B d_Book_divided_17 (by decide) ?_
        refine mv_lcmp (pc := 18) B d_Book_divided_18 ?_
        refine mv_if_ge (pc := 19) (tgt := 26) B d_Book_divided_19 rfl (fun h19 => ?_) (fun h19 => ?_)
        · skip
          refine mv_iconst (pc := 26) (v := 0) B d_Book_divided_26 (by decide) ?_
          refine mv_istore (pc := 27) B d_Book_divided_27 (by decide) rfl ?_
          refine mv_lload (pc := 29) B d_Book_divided_29 2 rfl ?_
          refine mv_iconst (pc := 31) (v := 1) B d_Book_divided_31 (by decide) ?_
          refine mv_lshl (pc := 32) B d_Book_divided_32 ?_
          refine mv_lload_n (pc := 33) B d_Book_divided_33 rfl 4 rfl ?_
          refine mv_iload (pc := 34) B d_Book_divided_34 1 rfl ?_
          refine mv_lushr (pc := 36) B d_Book_divided_36 ?_
          refine mv_lconst (pc := 37) (v := 1) B d_Book_divided_37 (by decide) ?_
          refine mv_land (pc := 38) B d_Book_divided_38 ?_
          refine mv_lor (pc := 39) B d_Book_divided_39 ?_
          refine mv_lstore (pc := 40) B d_Book_divided_40 (by decide) rfl ?_
          refine mv_iload (pc := 42) B d_Book_divided_42 1 rfl ?_
          refine mv_if_ne (pc := 44) (tgt := 59) B d_Book_divided_44 rfl (fun h44 => ?_) (fun h44 => ?_)
          · skip
            refine mv_lload (pc := 59) B d_Book_divided_59 0 rfl ?_
            refine mv_lload_n (pc := 61) B d_Book_divided_61 rfl 5 rfl ?_
            refine mv_lsub (pc := 62) B d_Book_divided_62 ?_
            refine mv_lstore (pc := 63) B d_Book_divided_63 (by decide) rfl ?_
            refine mv_lload (pc := 65) B d_Book_divided_65 3 rfl ?_
            refine mv_lconst (pc := 67) (v := 1) B d_Book_divided_67 (by decide) ?_
            refine mv_iload (pc := 68) B d_Book_divided_68 2 rfl ?_
            refine mv_lshl (pc := 70) B d_Book_divided_70 ?_
            refine mv_lor (pc := 71) B d_Book_divided_71 ?_
            refine mv_lstore (pc := 72) B d_Book_divided_72 (by decide) rfl ?_
            refine mv_iinc (pc := 74) (j := 3) (v := -1) B d_Book_divided_74 rfl (by decide) (by decide) rfl ?_
            refine mv_goto (pc := 77) (tgt := 10) B d_Book_divided_77 rfl ?_
            refine mv_lpick [0, 2, 1, 4, 5] rfl ?_
            exact ih _ _ _ (by omega) (by omega)
          · skip
            refine mv_lload (pc := 47) B d_Book_divided_47 0 rfl ?_
            refine mv_lload_n (pc := 49) B d_Book_divided_49 rfl 5 rfl ?_
            refine mv_callSi (pc := 50) (n := 2) B (mK_ok sk sv) hNs (c_Book_below l hi _ _ _) rfl (ma_goodc kc_Book_below) (B.2.2.2.1 _ k_2532) (B.2.2.2.1 _ k_2533) (B.2.2.2.1 _ k_13) ⟨by decide +kernel, by decide +kernel, by decide +kernel⟩ rfl d_Book_divided_50 rfl (Nat.le_of_ble_eq_true rfl) ⟨by decide, by decide⟩ ⟨by decide, by decide⟩ ⟨by decide, by decide⟩ (mv_noH hno _) (fun v50 σ50 h50 => ?_)
            have e50 := h50.symm
            subst e50
            refine mv_if_eq (pc := 53) (tgt := 59) B d_Book_divided_53 rfl (fun h53 => ?_) (fun h53 => ?_)
            · skip
              refine mv_lload (pc := 59) B d_Book_divided_59 0 rfl ?_
              refine mv_lload_n (pc := 61) B d_Book_divided_61 rfl 5 rfl ?_
              refine mv_lsub (pc := 62) B d_Book_divided_62 ?_
              refine mv_lstore (pc := 63) B d_Book_divided_63 (by decide) rfl ?_
              refine mv_lload (pc := 65) B d_Book_divided_65 3 rfl ?_
              refine mv_lconst (pc := 67) (v := 1) B d_Book_divided_67 (by decide) ?_
              refine mv_iload (pc := 68) B d_Book_divided_68 2 rfl ?_
              refine mv_lshl (pc := 70) B d_Book_divided_70 ?_
              refine mv_lor (pc := 71) B d_Book_divided_71 ?_
              refine mv_lstore (pc := 72) B d_Book_divided_72 (by decide) rfl ?_
              refine mv_iinc (pc := 74) (j := 3) (v := -1) B d_Book_divided_74 rfl (by decide) (by decide) rfl ?_
              refine mv_goto (pc := 77) (tgt := 10) B d_Book_divided_77 rfl ?_
              refine mv_lpick [0, 2, 1, 4, 5] rfl ?_
              exact ih _ _ _ (by omega) (by omega)
            · skip
              refine mv_goto (pc := 56) (tgt := 74) B d_Book_divided_56 rfl ?_
              refine mv_iinc (pc := 74) (j := 2) (v := -1) B d_Book_divided_74 rfl (by decide) (by decide) rfl ?_
              refine mv_goto (pc := 77) (tgt := 10) B d_Book_divided_77 rfl ?_
              refine mv_lpick [0, 1, 3, 4, 5] rfl ?_
              exact ih _ _ _ (by omega) (by omega)
        · skip
          refine mv_iconst (pc := 22) (v := 1) B d_Book_divided_22 (by decide) ?_
          refine mv_goto (pc := 23) (tgt := 27) B d_Book_divided_23 rfl ?_
          refine mv_istore (pc := 27) B d_Book_divided_27 (by decide) rfl ?_
          refine mv_lload (pc := 29) B d_Book_divided_29 2 rfl ?_
          refine mv_iconst (pc := 31) (v := 1) B d_Book_divided_31 (by decide) ?_
          refine mv_lshl (pc := 32) B d_Book_divided_32 ?_
          refine mv_lload_n (pc := 33) B d_Book_divided_33 rfl 4 rfl ?_
          refine mv_iload (pc := 34) B d_Book_divided_34 1 rfl ?_
          refine mv_lushr (pc := 36) B d_Book_divided_36 ?_
          refine mv_lconst (pc := 37) (v := 1) B d_Book_divided_37 (by decide) ?_
          refine mv_land (pc := 38) B d_Book_divided_38 ?_
          refine mv_lor (pc := 39) B d_Book_divided_39 ?_
          refine mv_lstore (pc := 40) B d_Book_divided_40 (by decide) rfl ?_
          refine mv_iload (pc := 42) B d_Book_divided_42 1 rfl ?_
          refine mv_if_ne (pc := 44) (tgt := 59) B d_Book_divided_44 rfl (fun h44 => ?_) (fun h44 => ?_)
          · skip
            refine mv_lload (pc := 59) B d_Book_divided_59 0 rfl ?_
            refine mv_lload_n (pc := 61) B d_Book_divided_61 rfl 5 rfl ?_
            refine mv_lsub (pc := 62) B d_Book_divided_62 ?_
            refine mv_lstore (pc := 63) B d_Book_divided_63 (by decide) rfl ?_
            refine mv_lload (pc := 65) B d_Book_divided_65 3 rfl ?_
            refine mv_lconst (pc := 67) (v := 1) B d_Book_divided_67 (by decide) ?_
            refine mv_iload (pc := 68) B d_Book_divided_68 2 rfl ?_
            refine mv_lshl (pc := 70) B d_Book_divided_70 ?_
            refine mv_lor (pc := 71) B d_Book_divided_71 ?_
            refine mv_lstore (pc := 72) B d_Book_divided_72 (by decide) rfl ?_
            refine mv_iinc (pc := 74) (j := 3) (v := -1) B d_Book_divided_74 rfl (by decide) (by decide) rfl ?_
            refine mv_goto (pc := 77) (tgt := 10) B d_Book_divided_77 rfl ?_
            refine mv_lpick [0, 2, 1, 4, 5] rfl ?_
            exact ih _ _ _ (by omega) (by omega)
          · skip
            refine mv_lload (pc := 47) B d_Book_divided_47 0 rfl ?_
            refine mv_lload_n (pc := 49) B d_Book_divided_49 rfl 5 rfl ?_
            refine mv_callSi (pc := 50) (n := 2) B (mK_ok sk sv) hNs (c_Book_below l hi _ _ _) rfl (ma_goodc kc_Book_below) (B.2.2.2.1 _ k_2532) (B.2.2.2.1 _ k_2533) (B.2.2.2.1 _ k_13) ⟨by decide +kernel, by decide +kernel, by decide +kernel⟩ rfl d_Book_divided_50 rfl (Nat.le_of_ble_eq_true rfl) ⟨by decide, by decide⟩ ⟨by decide, by decide⟩ ⟨by decide, by decide⟩ (mv_noH hno _) (fun v50 σ50 h50 => ?_)
            have e50 := h50.symm
            subst e50
            refine mv_if_eq (pc := 53) (tgt := 59) B d_Book_divided_53 rfl (fun h53 => ?_) (fun h53 => ?_)
            · skip
              refine mv_lload (pc := 59) B d_Book_divided_59 0 rfl ?_
              refine mv_lload_n (pc := 61) B d_Book_divided_61 rfl 5 rfl ?_
              refine mv_lsub (pc := 62) B d_Book_divided_62 ?_
              refine mv_lstore (pc := 63) B d_Book_divided_63 (by decide) rfl ?_
              refine mv_lload (pc := 65) B d_Book_divided_65 3 rfl ?_
              refine mv_lconst (pc := 67) (v := 1) B d_Book_divided_67 (by decide) ?_
              refine mv_iload (pc := 68) B d_Book_divided_68 2 rfl ?_
              refine mv_lshl (pc := 70) B d_Book_divided_70 ?_
              refine mv_lor (pc := 71) B d_Book_divided_71 ?_
              refine mv_lstore (pc := 72) B d_Book_divided_72 (by decide) rfl ?_
              refine mv_iinc (pc := 74) (j := 3) (v := -1) B d_Book_divided_74 rfl (by decide) (by decide) rfl ?_
              refine mv_goto (pc := 77) (tgt := 10) B d_Book_divided_77 rfl ?_
              refine mv_lpick [0, 2, 1, 4, 5] rfl ?_
              exact ih _ _ _ (by omega) (by omega)
            · skip
              refine mv_goto (pc := 56) (tgt := 74) B d_Book_divided_56 rfl ?_
              refine mv_iinc (pc := 74) (j := 2) (v := -1) B d_Book_divided_74 rfl (by decide) (by decide) rfl ?_
              refine mv_goto (pc := 77) (tgt := 10) B d_Book_divided_77 rfl ?_
              refine mv_lpick [0, 1, 3, 4, 5] rfl ?_
              exact ih _ _ _ (by omega) (by omega)
  refine mv_lconst (pc := 0) (v := 0) B d_Book_divided_0 (by decide) ?_
  refine mv_lstore (pc := 1) B d_Book_divided_1 (by decide) rfl ?_
  refine mv_lconst (pc := 3) (v := 0) B d_Book_divided_3 (by decide) ?_
  refine mv_lstore (pc := 4) B d_Book_divided_4 (by decide) rfl ?_
  refine mv_bipush (pc := 6) (v := 63) B d_Book_divided_6 (by decide) ?_
  refine mv_istore (pc := 8) B d_Book_divided_8 (by decide) rfl ?_
  refine mv_lpick [0, 1, 2, 3, 4] rfl ?_
  exact lp _ _ _ _ (by decide) (Nat.lt_succ_self _)
def y_Book_divide : MethodName := ⟨"MachineLoomModel$Book", "divide", "(IJJJ)J"⟩
abbrev b_Book_divide : ByteArray := prog_15_method_61_code
theorem kc_Book_divide : Cond.code y_Book_divide b_Book_divide 7 (Option.some Jvm.ClassFile.FieldType.long) ∈ ma := ma_of (tb_11 _ (List.mem_of_getElem? (i := 141) rfl)) rfl
theorem k_2520 : (Jvm.Cond.constantLong "MachineLoomModel$Book" (453 : Nat) (-1 : Int64)) ∈ ma := ma_of (tb_11 _ (List.mem_of_getElem? (i := 120) rfl)) rfl
theorem d_Book_divide_0 : decode b_Book_divide 0 = .ok (.lload_n 3, 1) := by decide +kernel
theorem d_Book_divide_1 : decode b_Book_divide 1 = .ok (.lconst 0, 1) := by decide +kernel
theorem d_Book_divide_2 : decode b_Book_divide 2 = .ok (.lcmp, 1) := by decide +kernel
theorem d_Book_divide_3 : decode b_Book_divide 3 = .ok (.ifCond .ne (19), 3) := by decide +kernel
theorem d_Book_divide_6 : decode b_Book_divide 6 = .ok (.iload_n 0, 1) := by decide +kernel
theorem d_Book_divide_7 : decode b_Book_divide 7 = .ok (.sipush 1001, 3) := by decide +kernel
theorem d_Book_divide_10 : decode b_Book_divide 10 = .ok (.if_icmp .ne (9), 3) := by decide +kernel
theorem d_Book_divide_13 : decode b_Book_divide 13 = .ok (.ldc2_w 453, 3) := by decide +kernel
theorem d_Book_divide_16 : decode b_Book_divide 16 = .ok (.goto (5), 3) := by decide +kernel
theorem d_Book_divide_19 : decode b_Book_divide 19 = .ok (.lload 5, 2) := by decide +kernel
theorem d_Book_divide_21 : decode b_Book_divide 21 = .ok (.lreturn, 1) := by decide +kernel
theorem d_Book_divide_22 : decode b_Book_divide 22 = .ok (.lload_n 3, 1) := by decide +kernel
theorem d_Book_divide_23 : decode b_Book_divide 23 = .ok (.ldc2_w 453, 3) := by decide +kernel
theorem d_Book_divide_26 : decode b_Book_divide 26 = .ok (.lcmp, 1) := by decide +kernel
theorem d_Book_divide_27 : decode b_Book_divide 27 = .ok (.ifCond .ne (17), 3) := by decide +kernel
theorem d_Book_divide_30 : decode b_Book_divide 30 = .ok (.iload_n 0, 1) := by decide +kernel
theorem d_Book_divide_31 : decode b_Book_divide 31 = .ok (.sipush 1001, 3) := by decide +kernel
theorem d_Book_divide_34 : decode b_Book_divide 34 = .ok (.if_icmp .ne (8), 3) := by decide +kernel
theorem d_Book_divide_37 : decode b_Book_divide 37 = .ok (.lload_n 1, 1) := by decide +kernel
theorem d_Book_divide_38 : decode b_Book_divide 38 = .ok (.lneg, 1) := by decide +kernel
theorem d_Book_divide_39 : decode b_Book_divide 39 = .ok (.goto (4), 3) := by decide +kernel
theorem d_Book_divide_42 : decode b_Book_divide 42 = .ok (.lconst 0, 1) := by decide +kernel
theorem d_Book_divide_43 : decode b_Book_divide 43 = .ok (.lreturn, 1) := by decide +kernel
theorem d_Book_divide_44 : decode b_Book_divide 44 = .ok (.iload_n 0, 1) := by decide +kernel
theorem d_Book_divide_45 : decode b_Book_divide 45 = .ok (.sipush 1001, 3) := by decide +kernel
theorem d_Book_divide_48 : decode b_Book_divide 48 = .ok (.if_icmp .ne (9), 3) := by decide +kernel
theorem d_Book_divide_51 : decode b_Book_divide 51 = .ok (.lload_n 1, 1) := by decide +kernel
theorem d_Book_divide_52 : decode b_Book_divide 52 = .ok (.lload_n 3, 1) := by decide +kernel
theorem d_Book_divide_53 : decode b_Book_divide 53 = .ok (.ldiv, 1) := by decide +kernel
theorem d_Book_divide_54 : decode b_Book_divide 54 = .ok (.goto (6), 3) := by decide +kernel
theorem d_Book_divide_57 : decode b_Book_divide 57 = .ok (.lload_n 1, 1) := by decide +kernel
theorem d_Book_divide_58 : decode b_Book_divide 58 = .ok (.lload_n 3, 1) := by decide +kernel
theorem d_Book_divide_59 : decode b_Book_divide 59 = .ok (.lrem, 1) := by decide +kernel
theorem d_Book_divide_60 : decode b_Book_divide 60 = .ok (.lreturn, 1) := by decide +kernel
set_option maxHeartbeats 4000000 in
set_option maxRecDepth 100000 in
theorem c_Book_divide (l : Launch) {dA : FieldType → ClassId} {D : va_G} {al : Nat → Nat} {ext : mv_Sh} {sk sv : Nat → Nat} (hi : mv_inj (mg dA D al ext)) (σ : mv_H) (o9 : Int32) (x y z9 : Int64) : mv_C l y_Book_divide (Cond.code y_Book_divide b_Book_divide 7 (Option.some Jvm.ClassFile.FieldType.long) :: ma) ({ frames := 0, cells := 0, slots := 0, locals := 0 }) (mg dA D al ext) (mK sk sv) [.int o9, .long x, .long y, .long z9] σ (mv_Rl (fun v σ1 => σ1 = σ)) := by
  refine mv_C.ofV (cc := b_Book_divide) (nL := 7) (ret := (Option.some Jvm.ClassFile.FieldType.long)) (by decide +kernel) rfl hi (Nat.le_of_ble_eq_true rfl) ?_
  intro p e s m below meth c B hNs hr hnm hno
  refine mv_lload_n (pc := 0) B d_Book_divide_0 rfl 2 rfl ?_
  refine mv_lconst (pc := 1) (v := 0) B d_Book_divide_1 (by decide) ?_
  refine mv_lcmp (pc := 2) B d_Book_divide_2 ?_
  refine mv_if_ne (pc := 3) (tgt := 22) B d_Book_divide_3 rfl (fun h3 => ?_) (fun h3 => ?_)
  · skip
    refine mv_lload_n (pc := 22) B d_Book_divide_22 rfl 2 rfl ?_
    refine mv_ldc2 (pc := 23) (v := -1) B (B.2.2.2.1 _ k_2520) d_Book_divide_23 ?_
    refine mv_lcmp (pc := 26) B d_Book_divide_26 ?_
    refine mv_if_ne (pc := 27) (tgt := 44) B d_Book_divide_27 rfl (fun h27 => ?_) (fun h27 => ?_)
    · skip
      refine mv_iload_n (pc := 44) B d_Book_divide_44 rfl 0 rfl ?_
      refine mv_sipush (pc := 45) (v := 1001) B d_Book_divide_45 (by decide) ?_
      refine mv_icmp_ne (pc := 48) (tgt := 57) B d_Book_divide_48 rfl (fun h48 => ?_) (fun h48 => ?_)
      · skip
        refine mv_lload_n (pc := 57) B d_Book_divide_57 rfl 1 rfl ?_
        refine mv_lload_n (pc := 58) B d_Book_divide_58 rfl 2 rfl ?_
        refine mv_lrem (pc := 59) B d_Book_divide_59 (fun z => h3 ((lg_cmp_eq _ _).mpr z)) ?_
        exact mv_lret (pc := 60) B hr d_Book_divide_60 (Nat.le_refl _) (Nat.le_refl _) ⟨_, rfl, rfl⟩
      · skip
        refine mv_lload_n (pc := 51) B d_Book_divide_51 rfl 1 rfl ?_
        refine mv_lload_n (pc := 52) B d_Book_divide_52 rfl 2 rfl ?_
        refine mv_ldiv (pc := 53) B d_Book_divide_53 (fun z => h3 ((lg_cmp_eq _ _).mpr z)) ?_
        refine mv_goto (pc := 54) (tgt := 60) B d_Book_divide_54 rfl ?_
        exact mv_lret (pc := 60) B hr d_Book_divide_60 (Nat.le_refl _) (Nat.le_refl _) ⟨_, rfl, rfl⟩
    · skip
      refine mv_iload_n (pc := 30) B d_Book_divide_30 rfl 0 rfl ?_
      refine mv_sipush (pc := 31) (v := 1001) B d_Book_divide_31 (by decide) ?_
      refine mv_icmp_ne (pc := 34) (tgt := 42) B d_Book_divide_34 rfl (fun h34 => ?_) (fun h34 => ?_)
      · skip
        refine mv_lconst (pc := 42) (v := 0) B d_Book_divide_42 (by decide) ?_
        exact mv_lret (pc := 43) B hr d_Book_divide_43 (Nat.le_refl _) (Nat.le_refl _) ⟨_, rfl, rfl⟩
      · skip
        refine mv_lload_n (pc := 37) B d_Book_divide_37 rfl 1 rfl ?_
        refine mv_lneg (pc := 38) B d_Book_divide_38 ?_
        refine mv_goto (pc := 39) (tgt := 43) B d_Book_divide_39 rfl ?_
        exact mv_lret (pc := 43) B hr d_Book_divide_43 (Nat.le_refl _) (Nat.le_refl _) ⟨_, rfl, rfl⟩
  · skip
    refine mv_iload_n (pc := 6) B d_Book_divide_6 rfl 0 rfl ?_
    refine mv_sipush (pc := 7) (v := 1001) B d_Book_divide_7 (by decide) ?_
    refine mv_icmp_ne (pc := 10) (tgt := 19) B d_Book_divide_10 rfl (fun h10 => ?_) (fun h10 => ?_)
    · skip
      refine mv_lload (pc := 19) B d_Book_divide_19 3 rfl ?_
      exact mv_lret (pc := 21) B hr d_Book_divide_21 (Nat.le_refl _) (Nat.le_refl _) ⟨_, rfl, rfl⟩
    · skip
      refine mv_ldc2 (pc := 13) (v := -1) B (B.2.2.2.1 _ k_2520) d_Book_divide_13 ?_
      refine mv_goto (pc := 16) (tgt := 21) B d_Book_divide_16 rfl ?_
      exact mv_lret (pc := 21) B hr d_Book_divide_21 (Nat.le_refl _) (Nat.le_refl _) ⟨_, rfl, rfl⟩
def y_Book_unaryValue : MethodName := ⟨"MachineLoomModel$Book", "unaryValue", "(IJI)J"⟩
abbrev b_Book_unaryValue : ByteArray := prog_15_method_64_code
theorem kc_Book_unaryValue : Cond.code y_Book_unaryValue b_Book_unaryValue 4 (Option.some Jvm.ClassFile.FieldType.long) ∈ ma := ma_of (tb_11 _ (List.mem_of_getElem? (i := 119) rfl)) rfl
theorem k_2427 : (Jvm.Cond.methodLink "MachineLoomModel$Book" (444 : Nat) ({ cls := "MachineLoomModel$Book", name := "cut", desc := "(JI)J" } : Jvm.MethodName)) ∈ ma := ma_of (tb_11 _ (List.mem_of_getElem? (i := 27) rfl)) rfl
theorem k_2428 : (Jvm.Cond.static ({ cls := "MachineLoomModel$Book", name := "cut", desc := "(JI)J" } : Jvm.MethodName)) ∈ ma := ma_of (tb_11 _ (List.mem_of_getElem? (i := 28) rfl)) rfl
theorem d_Book_unaryValue_0 : decode b_Book_unaryValue 0 = .ok (.iload_n 0, 1) := by decide +kernel
theorem d_Book_unaryValue_1 : decode b_Book_unaryValue 1 = .ok (.bipush 45, 2) := by decide +kernel
theorem d_Book_unaryValue_3 : decode b_Book_unaryValue 3 = .ok (.if_icmp .ne (12), 3) := by decide +kernel
theorem d_Book_unaryValue_6 : decode b_Book_unaryValue 6 = .ok (.lload_n 1, 1) := by decide +kernel
theorem d_Book_unaryValue_7 : decode b_Book_unaryValue 7 = .ok (.lneg, 1) := by decide +kernel
theorem d_Book_unaryValue_8 : decode b_Book_unaryValue 8 = .ok (.iload_n 3, 1) := by decide +kernel
theorem d_Book_unaryValue_9 : decode b_Book_unaryValue 9 = .ok (.invokestatic 444, 3) := by decide +kernel
theorem d_Book_unaryValue_12 : decode b_Book_unaryValue 12 = .ok (.goto (12), 3) := by decide +kernel
theorem d_Book_unaryValue_15 : decode b_Book_unaryValue 15 = .ok (.lload_n 1, 1) := by decide +kernel
theorem d_Book_unaryValue_16 : decode b_Book_unaryValue 16 = .ok (.ldc2_w 453, 3) := by decide +kernel
theorem d_Book_unaryValue_19 : decode b_Book_unaryValue 19 = .ok (.lxor, 1) := by decide +kernel
theorem d_Book_unaryValue_20 : decode b_Book_unaryValue 20 = .ok (.iload_n 3, 1) := by decide +kernel
theorem d_Book_unaryValue_21 : decode b_Book_unaryValue 21 = .ok (.invokestatic 444, 3) := by decide +kernel
theorem d_Book_unaryValue_24 : decode b_Book_unaryValue 24 = .ok (.lreturn, 1) := by decide +kernel
set_option maxHeartbeats 4000000 in
set_option maxRecDepth 100000 in
theorem c_Book_unaryValue (l : Launch) {dA : FieldType → ClassId} {D : va_G} {al : Nat → Nat} {ext : mv_Sh} {sk sv : Nat → Nat} (hi : mv_inj (mg dA D al ext)) (σ : mv_H) (o9 : Int32) (x : Int64) (w : Int32) : mv_C l y_Book_unaryValue (Cond.code y_Book_unaryValue b_Book_unaryValue 4 (Option.some Jvm.ClassFile.FieldType.long) :: ma) ({ frames := 1, cells := 0, slots := 0, locals := 22 }) (mg dA D al ext) (mK sk sv) [.int o9, .long x, .int w] σ (mv_Rl (fun v σ1 => σ1 = σ)) := by
  refine mv_C.ofV (cc := b_Book_unaryValue) (nL := 4) (ret := (Option.some Jvm.ClassFile.FieldType.long)) (by decide +kernel) rfl hi (Nat.le_of_ble_eq_true rfl) ?_
  intro p e s m below meth c B hNs hr hnm hno
  refine mv_iload_n (pc := 0) B d_Book_unaryValue_0 rfl 0 rfl ?_
  refine mv_bipush (pc := 1) (v := 45) B d_Book_unaryValue_1 (by decide) ?_
  refine mv_icmp_ne (pc := 3) (tgt := 15) B d_Book_unaryValue_3 rfl (fun h3 => ?_) (fun h3 => ?_)
  · skip
    refine mv_lload_n (pc := 15) B d_Book_unaryValue_15 rfl 1 rfl ?_
    refine mv_ldc2 (pc := 16) (v := -1) B (B.2.2.2.1 _ k_2520) d_Book_unaryValue_16 ?_
    refine mv_lxor (pc := 19) B d_Book_unaryValue_19 ?_
    refine mv_iload_n (pc := 20) B d_Book_unaryValue_20 rfl 2 rfl ?_
    refine mv_callSl (pc := 21) (n := 2) B (mK_ok sk sv) hNs (c_Book_cut l hi _ _ _) rfl (ma_goodc kc_Book_cut) (B.2.2.2.1 _ k_2427) (B.2.2.2.1 _ k_2428) (B.2.2.2.1 _ k_13) ⟨by decide +kernel, by decide +kernel, by decide +kernel⟩ rfl d_Book_unaryValue_21 rfl (Nat.le_of_ble_eq_true rfl) ⟨by decide, by decide⟩ ⟨by decide, by decide⟩ ⟨by decide, by decide⟩ (mv_noH hno _) (fun v21 σ21 h21 => ?_)
    have e21 := h21.symm
    subst e21
    exact mv_lret (pc := 24) B hr d_Book_unaryValue_24 (Nat.le_refl _) (Nat.le_refl _) ⟨_, rfl, rfl⟩
  · skip
    refine mv_lload_n (pc := 6) B d_Book_unaryValue_6 rfl 1 rfl ?_
    refine mv_lneg (pc := 7) B d_Book_unaryValue_7 ?_
    refine mv_iload_n (pc := 8) B d_Book_unaryValue_8 rfl 2 rfl ?_
    refine mv_callSl (pc := 9) (n := 2) B (mK_ok sk sv) hNs (c_Book_cut l hi _ _ _) rfl (ma_goodc kc_Book_cut) (B.2.2.2.1 _ k_2427) (B.2.2.2.1 _ k_2428) (B.2.2.2.1 _ k_13) ⟨by decide +kernel, by decide +kernel, by decide +kernel⟩ rfl d_Book_unaryValue_9 rfl (Nat.le_of_ble_eq_true rfl) ⟨by decide, by decide⟩ ⟨by decide, by decide⟩ ⟨by decide, by decide⟩ (mv_noH hno _) (fun v9 σ9 h9 => ?_)
    have e9 := h9.symm
    subst e9
    refine mv_goto (pc := 12) (tgt := 24) B d_Book_unaryValue_12 rfl ?_
    exact mv_lret (pc := 24) B hr d_Book_unaryValue_24 (Nat.le_refl _) (Nat.le_refl _) ⟨_, rfl, rfl⟩
def y_Book_apply : MethodName := ⟨"MachineLoomModel$Book", "apply", "(IJJI)J"⟩
abbrev b_Book_apply : ByteArray := prog_15_method_60_code
theorem kc_Book_apply : Cond.code y_Book_apply b_Book_apply 7 (Option.some Jvm.ClassFile.FieldType.long) ∈ ma := ma_of (tb_11 _ (List.mem_of_getElem? (i := 131) rfl)) rfl
theorem k_2536 : (Jvm.Cond.methodLink "MachineLoomModel$Book" (455 : Nat) ({ cls := "MachineLoomModel$Book", name := "divided", desc := "(JJ)J" } : Jvm.MethodName)) ∈ ma := ma_of (tb_11 _ (List.mem_of_getElem? (i := 136) rfl)) rfl
theorem k_2537 : (Jvm.Cond.static ({ cls := "MachineLoomModel$Book", name := "divided", desc := "(JJ)J" } : Jvm.MethodName)) ∈ ma := ma_of (tb_11 _ (List.mem_of_getElem? (i := 137) rfl)) rfl
theorem k_2525 : (Jvm.Cond.methodLink "MachineLoomModel$Book" (448 : Nat) ({ cls := "MachineLoomModel$Book", name := "signed", desc := "(JI)J" } : Jvm.MethodName)) ∈ ma := ma_of (tb_11 _ (List.mem_of_getElem? (i := 125) rfl)) rfl
theorem k_2526 : (Jvm.Cond.static ({ cls := "MachineLoomModel$Book", name := "signed", desc := "(JI)J" } : Jvm.MethodName)) ∈ ma := ma_of (tb_11 _ (List.mem_of_getElem? (i := 126) rfl)) rfl
theorem k_2535 : (Jvm.Cond.constantLong "MachineLoomModel$Book" (451 : Nat) (63 : Int64)) ∈ ma := ma_of (tb_11 _ (List.mem_of_getElem? (i := 135) rfl)) rfl
theorem k_2539 : (Jvm.Cond.methodLink "MachineLoomModel$Book" (459 : Nat) ({ cls := "MachineLoomModel$Book", name := "divide", desc := "(IJJJ)J" } : Jvm.MethodName)) ∈ ma := ma_of (tb_11 _ (List.mem_of_getElem? (i := 139) rfl)) rfl
theorem k_2540 : (Jvm.Cond.static ({ cls := "MachineLoomModel$Book", name := "divide", desc := "(IJJJ)J" } : Jvm.MethodName)) ∈ ma := ma_of (tb_11 _ (List.mem_of_getElem? (i := 140) rfl)) rfl
theorem d_Book_apply_0 : decode b_Book_apply 0 = .ok (.iload_n 1, 1) := by decide +kernel
theorem d_Book_apply_1 : decode b_Book_apply 1 = .ok (.lookupswitch (370) #[(37, 347), (38, 149), (42, 322), (43, 312), (45, 317), (47, 327), (60, 180), (94, 144), (124, 139), (256, 154), (257, 167), (258, 195), (259, 233), (260, 257), (1000, 210), (1003, 281)], 139) := by decide +kernel
theorem d_Book_apply_140 : decode b_Book_apply 140 = .ok (.lload_n 2, 1) := by decide +kernel
theorem d_Book_apply_141 : decode b_Book_apply 141 = .ok (.lload 4, 2) := by decide +kernel
theorem d_Book_apply_143 : decode b_Book_apply 143 = .ok (.lor, 1) := by decide +kernel
theorem d_Book_apply_144 : decode b_Book_apply 144 = .ok (.lreturn, 1) := by decide +kernel
theorem d_Book_apply_145 : decode b_Book_apply 145 = .ok (.lload_n 2, 1) := by decide +kernel
theorem d_Book_apply_146 : decode b_Book_apply 146 = .ok (.lload 4, 2) := by decide +kernel
theorem d_Book_apply_148 : decode b_Book_apply 148 = .ok (.lxor, 1) := by decide +kernel
theorem d_Book_apply_149 : decode b_Book_apply 149 = .ok (.lreturn, 1) := by decide +kernel
theorem d_Book_apply_150 : decode b_Book_apply 150 = .ok (.lload_n 2, 1) := by decide +kernel
theorem d_Book_apply_151 : decode b_Book_apply 151 = .ok (.lload 4, 2) := by decide +kernel
theorem d_Book_apply_153 : decode b_Book_apply 153 = .ok (.land, 1) := by decide +kernel
theorem d_Book_apply_154 : decode b_Book_apply 154 = .ok (.lreturn, 1) := by decide +kernel
theorem d_Book_apply_155 : decode b_Book_apply 155 = .ok (.lload_n 2, 1) := by decide +kernel
theorem d_Book_apply_156 : decode b_Book_apply 156 = .ok (.lload 4, 2) := by decide +kernel
theorem d_Book_apply_158 : decode b_Book_apply 158 = .ok (.lcmp, 1) := by decide +kernel
theorem d_Book_apply_159 : decode b_Book_apply 159 = .ok (.ifCond .ne (7), 3) := by decide +kernel
theorem d_Book_apply_162 : decode b_Book_apply 162 = .ok (.lconst 1, 1) := by decide +kernel
theorem d_Book_apply_163 : decode b_Book_apply 163 = .ok (.goto (4), 3) := by decide +kernel
theorem d_Book_apply_166 : decode b_Book_apply 166 = .ok (.lconst 0, 1) := by decide +kernel
theorem d_Book_apply_167 : decode b_Book_apply 167 = .ok (.lreturn, 1) := by decide +kernel
theorem d_Book_apply_168 : decode b_Book_apply 168 = .ok (.lload_n 2, 1) := by decide +kernel
theorem d_Book_apply_169 : decode b_Book_apply 169 = .ok (.lload 4, 2) := by decide +kernel
theorem d_Book_apply_171 : decode b_Book_apply 171 = .ok (.lcmp, 1) := by decide +kernel
theorem d_Book_apply_172 : decode b_Book_apply 172 = .ok (.ifCond .eq (7), 3) := by decide +kernel
theorem d_Book_apply_175 : decode b_Book_apply 175 = .ok (.lconst 1, 1) := by decide +kernel
theorem d_Book_apply_176 : decode b_Book_apply 176 = .ok (.goto (4), 3) := by decide +kernel
theorem d_Book_apply_179 : decode b_Book_apply 179 = .ok (.lconst 0, 1) := by decide +kernel
theorem d_Book_apply_180 : decode b_Book_apply 180 = .ok (.lreturn, 1) := by decide +kernel
theorem d_Book_apply_181 : decode b_Book_apply 181 = .ok (.lload_n 2, 1) := by decide +kernel
theorem d_Book_apply_182 : decode b_Book_apply 182 = .ok (.lload 4, 2) := by decide +kernel
theorem d_Book_apply_184 : decode b_Book_apply 184 = .ok (.invokestatic 437, 3) := by decide +kernel
theorem d_Book_apply_187 : decode b_Book_apply 187 = .ok (.ifCond .eq (7), 3) := by decide +kernel
theorem d_Book_apply_190 : decode b_Book_apply 190 = .ok (.lconst 1, 1) := by decide +kernel
theorem d_Book_apply_191 : decode b_Book_apply 191 = .ok (.goto (4), 3) := by decide +kernel
theorem d_Book_apply_194 : decode b_Book_apply 194 = .ok (.lconst 0, 1) := by decide +kernel
theorem d_Book_apply_195 : decode b_Book_apply 195 = .ok (.lreturn, 1) := by decide +kernel
theorem d_Book_apply_196 : decode b_Book_apply 196 = .ok (.lload 4, 2) := by decide +kernel
theorem d_Book_apply_198 : decode b_Book_apply 198 = .ok (.lload_n 2, 1) := by decide +kernel
theorem d_Book_apply_199 : decode b_Book_apply 199 = .ok (.invokestatic 437, 3) := by decide +kernel
theorem d_Book_apply_202 : decode b_Book_apply 202 = .ok (.ifCond .eq (7), 3) := by decide +kernel
theorem d_Book_apply_205 : decode b_Book_apply 205 = .ok (.lconst 0, 1) := by decide +kernel
theorem d_Book_apply_206 : decode b_Book_apply 206 = .ok (.goto (4), 3) := by decide +kernel
theorem d_Book_apply_209 : decode b_Book_apply 209 = .ok (.lconst 1, 1) := by decide +kernel
theorem d_Book_apply_210 : decode b_Book_apply 210 = .ok (.lreturn, 1) := by decide +kernel
theorem d_Book_apply_211 : decode b_Book_apply 211 = .ok (.lload_n 2, 1) := by decide +kernel
theorem d_Book_apply_212 : decode b_Book_apply 212 = .ok (.iload 6, 2) := by decide +kernel
theorem d_Book_apply_214 : decode b_Book_apply 214 = .ok (.invokestatic 448, 3) := by decide +kernel
theorem d_Book_apply_217 : decode b_Book_apply 217 = .ok (.lload 4, 2) := by decide +kernel
theorem d_Book_apply_219 : decode b_Book_apply 219 = .ok (.iload 6, 2) := by decide +kernel
theorem d_Book_apply_221 : decode b_Book_apply 221 = .ok (.invokestatic 448, 3) := by decide +kernel
theorem d_Book_apply_224 : decode b_Book_apply 224 = .ok (.lcmp, 1) := by decide +kernel
theorem d_Book_apply_225 : decode b_Book_apply 225 = .ok (.ifCond .ge (7), 3) := by decide +kernel
theorem d_Book_apply_228 : decode b_Book_apply 228 = .ok (.lconst 1, 1) := by decide +kernel
theorem d_Book_apply_229 : decode b_Book_apply 229 = .ok (.goto (4), 3) := by decide +kernel
theorem d_Book_apply_232 : decode b_Book_apply 232 = .ok (.lconst 0, 1) := by decide +kernel
theorem d_Book_apply_233 : decode b_Book_apply 233 = .ok (.lreturn, 1) := by decide +kernel
theorem d_Book_apply_234 : decode b_Book_apply 234 = .ok (.lload 4, 2) := by decide +kernel
theorem d_Book_apply_236 : decode b_Book_apply 236 = .ok (.lconst 0, 1) := by decide +kernel
theorem d_Book_apply_237 : decode b_Book_apply 237 = .ok (.iload 6, 2) := by decide +kernel
theorem d_Book_apply_239 : decode b_Book_apply 239 = .ok (.iconst 1, 1) := by decide +kernel
theorem d_Book_apply_240 : decode b_Book_apply 240 = .ok (.isub, 1) := by decide +kernel
theorem d_Book_apply_241 : decode b_Book_apply 241 = .ok (.i2l, 1) := by decide +kernel
theorem d_Book_apply_242 : decode b_Book_apply 242 = .ok (.invokestatic 296, 3) := by decide +kernel
theorem d_Book_apply_245 : decode b_Book_apply 245 = .ok (.ifCond .eq (11), 3) := by decide +kernel
theorem d_Book_apply_248 : decode b_Book_apply 248 = .ok (.lload_n 2, 1) := by decide +kernel
theorem d_Book_apply_249 : decode b_Book_apply 249 = .ok (.lload 4, 2) := by decide +kernel
theorem d_Book_apply_251 : decode b_Book_apply 251 = .ok (.l2i, 1) := by decide +kernel
theorem d_Book_apply_252 : decode b_Book_apply 252 = .ok (.lshl, 1) := by decide +kernel
theorem d_Book_apply_253 : decode b_Book_apply 253 = .ok (.goto (4), 3) := by decide +kernel
theorem d_Book_apply_256 : decode b_Book_apply 256 = .ok (.lconst 0, 1) := by decide +kernel
theorem d_Book_apply_257 : decode b_Book_apply 257 = .ok (.lreturn, 1) := by decide +kernel
theorem d_Book_apply_258 : decode b_Book_apply 258 = .ok (.lload 4, 2) := by decide +kernel
theorem d_Book_apply_260 : decode b_Book_apply 260 = .ok (.lconst 0, 1) := by decide +kernel
theorem d_Book_apply_261 : decode b_Book_apply 261 = .ok (.iload 6, 2) := by decide +kernel
theorem d_Book_apply_263 : decode b_Book_apply 263 = .ok (.iconst 1, 1) := by decide +kernel
theorem d_Book_apply_264 : decode b_Book_apply 264 = .ok (.isub, 1) := by decide +kernel
theorem d_Book_apply_265 : decode b_Book_apply 265 = .ok (.i2l, 1) := by decide +kernel
theorem d_Book_apply_266 : decode b_Book_apply 266 = .ok (.invokestatic 296, 3) := by decide +kernel
theorem d_Book_apply_269 : decode b_Book_apply 269 = .ok (.ifCond .eq (11), 3) := by decide +kernel
theorem d_Book_apply_272 : decode b_Book_apply 272 = .ok (.lload_n 2, 1) := by decide +kernel
theorem d_Book_apply_273 : decode b_Book_apply 273 = .ok (.lload 4, 2) := by decide +kernel
theorem d_Book_apply_275 : decode b_Book_apply 275 = .ok (.l2i, 1) := by decide +kernel
theorem d_Book_apply_276 : decode b_Book_apply 276 = .ok (.lushr, 1) := by decide +kernel
theorem d_Book_apply_277 : decode b_Book_apply 277 = .ok (.goto (4), 3) := by decide +kernel
theorem d_Book_apply_280 : decode b_Book_apply 280 = .ok (.lconst 0, 1) := by decide +kernel
theorem d_Book_apply_281 : decode b_Book_apply 281 = .ok (.lreturn, 1) := by decide +kernel
theorem d_Book_apply_282 : decode b_Book_apply 282 = .ok (.lload_n 2, 1) := by decide +kernel
theorem d_Book_apply_283 : decode b_Book_apply 283 = .ok (.iload 6, 2) := by decide +kernel
theorem d_Book_apply_285 : decode b_Book_apply 285 = .ok (.invokestatic 448, 3) := by decide +kernel
theorem d_Book_apply_288 : decode b_Book_apply 288 = .ok (.lload 4, 2) := by decide +kernel
theorem d_Book_apply_290 : decode b_Book_apply 290 = .ok (.lconst 0, 1) := by decide +kernel
theorem d_Book_apply_291 : decode b_Book_apply 291 = .ok (.iload 6, 2) := by decide +kernel
theorem d_Book_apply_293 : decode b_Book_apply 293 = .ok (.iconst 1, 1) := by decide +kernel
theorem d_Book_apply_294 : decode b_Book_apply 294 = .ok (.isub, 1) := by decide +kernel
theorem d_Book_apply_295 : decode b_Book_apply 295 = .ok (.i2l, 1) := by decide +kernel
theorem d_Book_apply_296 : decode b_Book_apply 296 = .ok (.invokestatic 296, 3) := by decide +kernel
theorem d_Book_apply_299 : decode b_Book_apply 299 = .ok (.ifCond .eq (8), 3) := by decide +kernel
theorem d_Book_apply_302 : decode b_Book_apply 302 = .ok (.lload 4, 2) := by decide +kernel
theorem d_Book_apply_304 : decode b_Book_apply 304 = .ok (.goto (6), 3) := by decide +kernel
theorem d_Book_apply_307 : decode b_Book_apply 307 = .ok (.ldc2_w 451, 3) := by decide +kernel
theorem d_Book_apply_310 : decode b_Book_apply 310 = .ok (.l2i, 1) := by decide +kernel
theorem d_Book_apply_311 : decode b_Book_apply 311 = .ok (.lshr, 1) := by decide +kernel
theorem d_Book_apply_312 : decode b_Book_apply 312 = .ok (.lreturn, 1) := by decide +kernel
theorem d_Book_apply_313 : decode b_Book_apply 313 = .ok (.lload_n 2, 1) := by decide +kernel
theorem d_Book_apply_314 : decode b_Book_apply 314 = .ok (.lload 4, 2) := by decide +kernel
theorem d_Book_apply_316 : decode b_Book_apply 316 = .ok (.ladd, 1) := by decide +kernel
theorem d_Book_apply_317 : decode b_Book_apply 317 = .ok (.lreturn, 1) := by decide +kernel
theorem d_Book_apply_318 : decode b_Book_apply 318 = .ok (.lload_n 2, 1) := by decide +kernel
theorem d_Book_apply_319 : decode b_Book_apply 319 = .ok (.lload 4, 2) := by decide +kernel
theorem d_Book_apply_321 : decode b_Book_apply 321 = .ok (.lsub, 1) := by decide +kernel
theorem d_Book_apply_322 : decode b_Book_apply 322 = .ok (.lreturn, 1) := by decide +kernel
theorem d_Book_apply_323 : decode b_Book_apply 323 = .ok (.lload_n 2, 1) := by decide +kernel
theorem d_Book_apply_324 : decode b_Book_apply 324 = .ok (.lload 4, 2) := by decide +kernel
theorem d_Book_apply_326 : decode b_Book_apply 326 = .ok (.lmul, 1) := by decide +kernel
theorem d_Book_apply_327 : decode b_Book_apply 327 = .ok (.lreturn, 1) := by decide +kernel
theorem d_Book_apply_328 : decode b_Book_apply 328 = .ok (.lload 4, 2) := by decide +kernel
theorem d_Book_apply_330 : decode b_Book_apply 330 = .ok (.lconst 0, 1) := by decide +kernel
theorem d_Book_apply_331 : decode b_Book_apply 331 = .ok (.lcmp, 1) := by decide +kernel
theorem d_Book_apply_332 : decode b_Book_apply 332 = .ok (.ifCond .ne (9), 3) := by decide +kernel
theorem d_Book_apply_335 : decode b_Book_apply 335 = .ok (.ldc2_w 453, 3) := by decide +kernel
theorem d_Book_apply_338 : decode b_Book_apply 338 = .ok (.goto (9), 3) := by decide +kernel
theorem d_Book_apply_341 : decode b_Book_apply 341 = .ok (.lload_n 2, 1) := by decide +kernel
theorem d_Book_apply_342 : decode b_Book_apply 342 = .ok (.lload 4, 2) := by decide +kernel
theorem d_Book_apply_344 : decode b_Book_apply 344 = .ok (.invokestatic 455, 3) := by decide +kernel
theorem d_Book_apply_347 : decode b_Book_apply 347 = .ok (.lreturn, 1) := by decide +kernel
theorem d_Book_apply_348 : decode b_Book_apply 348 = .ok (.lload 4, 2) := by decide +kernel
theorem d_Book_apply_350 : decode b_Book_apply 350 = .ok (.lconst 0, 1) := by decide +kernel
theorem d_Book_apply_351 : decode b_Book_apply 351 = .ok (.lcmp, 1) := by decide +kernel
theorem d_Book_apply_352 : decode b_Book_apply 352 = .ok (.ifCond .ne (7), 3) := by decide +kernel
theorem d_Book_apply_355 : decode b_Book_apply 355 = .ok (.lload_n 2, 1) := by decide +kernel
theorem d_Book_apply_356 : decode b_Book_apply 356 = .ok (.goto (14), 3) := by decide +kernel
theorem d_Book_apply_359 : decode b_Book_apply 359 = .ok (.lload_n 2, 1) := by decide +kernel
theorem d_Book_apply_360 : decode b_Book_apply 360 = .ok (.lload_n 2, 1) := by decide +kernel
theorem d_Book_apply_361 : decode b_Book_apply 361 = .ok (.lload 4, 2) := by decide +kernel
theorem d_Book_apply_363 : decode b_Book_apply 363 = .ok (.invokestatic 455, 3) := by decide +kernel
theorem d_Book_apply_366 : decode b_Book_apply 366 = .ok (.lload 4, 2) := by decide +kernel
theorem d_Book_apply_368 : decode b_Book_apply 368 = .ok (.lmul, 1) := by decide +kernel
theorem d_Book_apply_369 : decode b_Book_apply 369 = .ok (.lsub, 1) := by decide +kernel
theorem d_Book_apply_370 : decode b_Book_apply 370 = .ok (.lreturn, 1) := by decide +kernel
theorem d_Book_apply_371 : decode b_Book_apply 371 = .ok (.iload_n 1, 1) := by decide +kernel
theorem d_Book_apply_372 : decode b_Book_apply 372 = .ok (.lload_n 2, 1) := by decide +kernel
theorem d_Book_apply_373 : decode b_Book_apply 373 = .ok (.iload 6, 2) := by decide +kernel
theorem d_Book_apply_375 : decode b_Book_apply 375 = .ok (.invokestatic 448, 3) := by decide +kernel
theorem d_Book_apply_378 : decode b_Book_apply 378 = .ok (.lload 4, 2) := by decide +kernel
theorem d_Book_apply_380 : decode b_Book_apply 380 = .ok (.iload 6, 2) := by decide +kernel
theorem d_Book_apply_382 : decode b_Book_apply 382 = .ok (.invokestatic 448, 3) := by decide +kernel
theorem d_Book_apply_385 : decode b_Book_apply 385 = .ok (.lload_n 2, 1) := by decide +kernel
theorem d_Book_apply_386 : decode b_Book_apply 386 = .ok (.invokestatic 459, 3) := by decide +kernel
theorem d_Book_apply_389 : decode b_Book_apply 389 = .ok (.lreturn, 1) := by decide +kernel
set_option maxHeartbeats 4000000 in
set_option maxRecDepth 100000 in
theorem c_Book_apply_x (l : Launch) {dA : FieldType → ClassId} {D : va_G} {al : Nat → Nat} {ext : mv_Sh} {sk sv : Nat → Nat} (hi : mv_inj (mg dA D al ext)) (σ : mv_H) (o9 : Int32) (x y : Int64) (w : Int32) : mv_C l y_Book_apply (Cond.code y_Book_apply b_Book_apply 7 (Option.some Jvm.ClassFile.FieldType.long) :: ma) ({ frames := 2, cells := 0, slots := 0, locals := 52 }) (mg dA D al ext) (mK sk sv) [.ref (al 74), .int o9, .long x, .long y, .int w] σ (mv_Rl (fun v σ1 => σ1 = σ)) := by
  refine mv_C.ofV (cc := b_Book_apply) (nL := 7) (ret := (Option.some Jvm.ClassFile.FieldType.long)) (by decide +kernel) rfl hi (Nat.le_of_ble_eq_true rfl) ?_
  intro p e s m below meth c B hNs hr hnm hno
  refine mv_iload_n (pc := 0) B d_Book_apply_0 rfl 1 rfl ?_
  refine mv_lsw (pc := 1) B d_Book_apply_1 (by decide) (by decide) ?_
  refine ⟨fun h1 => ?_, fun h1n37 => ?_⟩
  · skip
    refine mv_lload (pc := 348) B d_Book_apply_348 3 rfl ?_
    refine mv_lconst (pc := 350) (v := 0) B d_Book_apply_350 (by decide) ?_
    refine mv_lcmp (pc := 351) B d_Book_apply_351 ?_
    refine mv_if_ne (pc := 352) (tgt := 359) B d_Book_apply_352 rfl (fun h352 => ?_) (fun h352 => ?_)
    · skip
      refine mv_lload_n (pc := 359) B d_Book_apply_359 rfl 2 rfl ?_
      refine mv_lload_n (pc := 360) B d_Book_apply_360 rfl 2 rfl ?_
      refine mv_lload (pc := 361) B d_Book_apply_361 3 rfl ?_
      refine mv_callSl (pc := 363) (n := 2) B (mK_ok sk sv) hNs (c_Book_divided l hi _ _ _) rfl (ma_goodc kc_Book_divided) (B.2.2.2.1 _ k_2536) (B.2.2.2.1 _ k_2537) (B.2.2.2.1 _ k_13) ⟨by decide +kernel, by decide +kernel, by decide +kernel⟩ rfl d_Book_apply_363 rfl (Nat.le_of_ble_eq_true rfl) ⟨by decide, by decide⟩ ⟨by decide, by decide⟩ ⟨by decide, by decide⟩ (mv_noH hno _) (fun v363 σ363 h363 => ?_)
      have e363 := h363.symm
      subst e363
      refine mv_lload (pc := 366) B d_Book_apply_366 3 rfl ?_
      refine mv_lmul (pc := 368) B d_Book_apply_368 ?_
      refine mv_lsub (pc := 369) B d_Book_apply_369 ?_
      exact mv_lret (pc := 370) B hr d_Book_apply_370 (Nat.le_refl _) (Nat.le_refl _) ⟨_, rfl, rfl⟩
    · skip
      refine mv_lload_n (pc := 355) B d_Book_apply_355 rfl 2 rfl ?_
      refine mv_goto (pc := 356) (tgt := 370) B d_Book_apply_356 rfl ?_
      exact mv_lret (pc := 370) B hr d_Book_apply_370 (Nat.le_refl _) (Nat.le_refl _) ⟨_, rfl, rfl⟩
  refine ⟨fun h1 => ?_, fun h1n38 => ?_⟩
  · skip
    refine mv_lload_n (pc := 150) B d_Book_apply_150 rfl 2 rfl ?_
    refine mv_lload (pc := 151) B d_Book_apply_151 3 rfl ?_
    refine mv_land (pc := 153) B d_Book_apply_153 ?_
    exact mv_lret (pc := 154) B hr d_Book_apply_154 (Nat.le_refl _) (Nat.le_refl _) ⟨_, rfl, rfl⟩
  refine ⟨fun h1 => ?_, fun h1n42 => ?_⟩
  · skip
    refine mv_lload_n (pc := 323) B d_Book_apply_323 rfl 2 rfl ?_
    refine mv_lload (pc := 324) B d_Book_apply_324 3 rfl ?_
    refine mv_lmul (pc := 326) B d_Book_apply_326 ?_
    exact mv_lret (pc := 327) B hr d_Book_apply_327 (Nat.le_refl _) (Nat.le_refl _) ⟨_, rfl, rfl⟩
  refine ⟨fun h1 => ?_, fun h1n43 => ?_⟩
  · skip
    refine mv_lload_n (pc := 313) B d_Book_apply_313 rfl 2 rfl ?_
    refine mv_lload (pc := 314) B d_Book_apply_314 3 rfl ?_
    refine mv_ladd (pc := 316) B d_Book_apply_316 ?_
    exact mv_lret (pc := 317) B hr d_Book_apply_317 (Nat.le_refl _) (Nat.le_refl _) ⟨_, rfl, rfl⟩
  refine ⟨fun h1 => ?_, fun h1n45 => ?_⟩
  · skip
    refine mv_lload_n (pc := 318) B d_Book_apply_318 rfl 2 rfl ?_
    refine mv_lload (pc := 319) B d_Book_apply_319 3 rfl ?_
    refine mv_lsub (pc := 321) B d_Book_apply_321 ?_
    exact mv_lret (pc := 322) B hr d_Book_apply_322 (Nat.le_refl _) (Nat.le_refl _) ⟨_, rfl, rfl⟩
  refine ⟨fun h1 => ?_, fun h1n47 => ?_⟩
  · skip
    refine mv_lload (pc := 328) B d_Book_apply_328 3 rfl ?_
    refine mv_lconst (pc := 330) (v := 0) B d_Book_apply_330 (by decide) ?_
    refine mv_lcmp (pc := 331) B d_Book_apply_331 ?_
    refine mv_if_ne (pc := 332) (tgt := 341) B d_Book_apply_332 rfl (fun h332 => ?_) (fun h332 => ?_)
    · skip
      refine mv_lload_n (pc := 341) B d_Book_apply_341 rfl 2 rfl ?_
      refine mv_lload (pc := 342) B d_Book_apply_342 3 rfl ?_
      refine mv_callSl (pc := 344) (n := 2) B (mK_ok sk sv) hNs (c_Book_divided l hi _ _ _) rfl (ma_goodc kc_Book_divided) (B.2.2.2.1 _ k_2536) (B.2.2.2.1 _ k_2537) (B.2.2.2.1 _ k_13) ⟨by decide +kernel, by decide +kernel, by decide +kernel⟩ rfl d_Book_apply_344 rfl (Nat.le_of_ble_eq_true rfl) ⟨by decide, by decide⟩ ⟨by decide, by decide⟩ ⟨by decide, by decide⟩ (mv_noH hno _) (fun v344 σ344 h344 => ?_)
      have e344 := h344.symm
      subst e344
      exact mv_lret (pc := 347) B hr d_Book_apply_347 (Nat.le_refl _) (Nat.le_refl _) ⟨_, rfl, rfl⟩
    · skip
      refine mv_ldc2 (pc := 335) (v := -1) B (B.2.2.2.1 _ k_2520) d_Book_apply_335 ?_
      refine mv_goto (pc := 338) (tgt := 347) B d_Book_apply_338 rfl ?_
      exact mv_lret (pc := 347) B hr d_Book_apply_347 (Nat.le_refl _) (Nat.le_refl _) ⟨_, rfl, rfl⟩
  refine ⟨fun h1 => ?_, fun h1n60 => ?_⟩
  · skip
    refine mv_lload_n (pc := 181) B d_Book_apply_181 rfl 2 rfl ?_
    refine mv_lload (pc := 182) B d_Book_apply_182 3 rfl ?_
    refine mv_callSi (pc := 184) (n := 2) B (mK_ok sk sv) hNs (c_Book_below l hi _ _ _) rfl (ma_goodc kc_Book_below) (B.2.2.2.1 _ k_2532) (B.2.2.2.1 _ k_2533) (B.2.2.2.1 _ k_13) ⟨by decide +kernel, by decide +kernel, by decide +kernel⟩ rfl d_Book_apply_184 rfl (Nat.le_of_ble_eq_true rfl) ⟨by decide, by decide⟩ ⟨by decide, by decide⟩ ⟨by decide, by decide⟩ (mv_noH hno _) (fun v184 σ184 h184 => ?_)
    have e184 := h184.symm
    subst e184
    refine mv_if_eq (pc := 187) (tgt := 194) B d_Book_apply_187 rfl (fun h187 => ?_) (fun h187 => ?_)
    · skip
      refine mv_lconst (pc := 194) (v := 0) B d_Book_apply_194 (by decide) ?_
      exact mv_lret (pc := 195) B hr d_Book_apply_195 (Nat.le_refl _) (Nat.le_refl _) ⟨_, rfl, rfl⟩
    · skip
      refine mv_lconst (pc := 190) (v := 1) B d_Book_apply_190 (by decide) ?_
      refine mv_goto (pc := 191) (tgt := 195) B d_Book_apply_191 rfl ?_
      exact mv_lret (pc := 195) B hr d_Book_apply_195 (Nat.le_refl _) (Nat.le_refl _) ⟨_, rfl, rfl⟩
  refine ⟨fun h1 => ?_, fun h1n94 => ?_⟩
  · skip
    refine mv_lload_n (pc := 145) B d_Book_apply_145 rfl 2 rfl ?_
    refine mv_lload (pc := 146) B d_Book_apply_146 3 rfl ?_
    refine mv_lxor (pc := 148) B d_Book_apply_148 ?_
    exact mv_lret (pc := 149) B hr d_Book_apply_149 (Nat.le_refl _) (Nat.le_refl _) ⟨_, rfl, rfl⟩
  refine ⟨fun h1 => ?_, fun h1n124 => ?_⟩
  · skip
    refine mv_lload_n (pc := 140) B d_Book_apply_140 rfl 2 rfl ?_
    refine mv_lload (pc := 141) B d_Book_apply_141 3 rfl ?_
    refine mv_lor (pc := 143) B d_Book_apply_143 ?_
    exact mv_lret (pc := 144) B hr d_Book_apply_144 (Nat.le_refl _) (Nat.le_refl _) ⟨_, rfl, rfl⟩
  refine ⟨fun h1 => ?_, fun h1n256 => ?_⟩
  · skip
    refine mv_lload_n (pc := 155) B d_Book_apply_155 rfl 2 rfl ?_
    refine mv_lload (pc := 156) B d_Book_apply_156 3 rfl ?_
    refine mv_lcmp (pc := 158) B d_Book_apply_158 ?_
    refine mv_if_ne (pc := 159) (tgt := 166) B d_Book_apply_159 rfl (fun h159 => ?_) (fun h159 => ?_)
    · skip
      refine mv_lconst (pc := 166) (v := 0) B d_Book_apply_166 (by decide) ?_
      exact mv_lret (pc := 167) B hr d_Book_apply_167 (Nat.le_refl _) (Nat.le_refl _) ⟨_, rfl, rfl⟩
    · skip
      refine mv_lconst (pc := 162) (v := 1) B d_Book_apply_162 (by decide) ?_
      refine mv_goto (pc := 163) (tgt := 167) B d_Book_apply_163 rfl ?_
      exact mv_lret (pc := 167) B hr d_Book_apply_167 (Nat.le_refl _) (Nat.le_refl _) ⟨_, rfl, rfl⟩
  refine ⟨fun h1 => ?_, fun h1n257 => ?_⟩
  · skip
    refine mv_lload_n (pc := 168) B d_Book_apply_168 rfl 2 rfl ?_
    refine mv_lload (pc := 169) B d_Book_apply_169 3 rfl ?_
    refine mv_lcmp (pc := 171) B d_Book_apply_171 ?_
    refine mv_if_eq (pc := 172) (tgt := 179) B d_Book_apply_172 rfl (fun h172 => ?_) (fun h172 => ?_)
    · skip
      refine mv_lconst (pc := 179) (v := 0) B d_Book_apply_179 (by decide) ?_
      exact mv_lret (pc := 180) B hr d_Book_apply_180 (Nat.le_refl _) (Nat.le_refl _) ⟨_, rfl, rfl⟩
    · skip
      refine mv_lconst (pc := 175) (v := 1) B d_Book_apply_175 (by decide) ?_
      refine mv_goto (pc := 176) (tgt := 180) B d_Book_apply_176 rfl ?_
      exact mv_lret (pc := 180) B hr d_Book_apply_180 (Nat.le_refl _) (Nat.le_refl _) ⟨_, rfl, rfl⟩
  refine ⟨fun h1 => ?_, fun h1n258 => ?_⟩
  · skip
    refine mv_lload (pc := 196) B d_Book_apply_196 3 rfl ?_
    refine mv_lload_n (pc := 198) B d_Book_apply_198 rfl 2 rfl ?_
    refine mv_callSi (pc := 199) (n := 2) B (mK_ok sk sv) hNs (c_Book_below l hi _ _ _) rfl (ma_goodc kc_Book_below) (B.2.2.2.1 _ k_2532) (B.2.2.2.1 _ k_2533) (B.2.2.2.1 _ k_13) ⟨by decide +kernel, by decide +kernel, by decide +kernel⟩ rfl d_Book_apply_199 rfl (Nat.le_of_ble_eq_true rfl) ⟨by decide, by decide⟩ ⟨by decide, by decide⟩ ⟨by decide, by decide⟩ (mv_noH hno _) (fun v199 σ199 h199 => ?_)
    have e199 := h199.symm
    subst e199
    refine mv_if_eq (pc := 202) (tgt := 209) B d_Book_apply_202 rfl (fun h202 => ?_) (fun h202 => ?_)
    · skip
      refine mv_lconst (pc := 209) (v := 1) B d_Book_apply_209 (by decide) ?_
      exact mv_lret (pc := 210) B hr d_Book_apply_210 (Nat.le_refl _) (Nat.le_refl _) ⟨_, rfl, rfl⟩
    · skip
      refine mv_lconst (pc := 205) (v := 0) B d_Book_apply_205 (by decide) ?_
      refine mv_goto (pc := 206) (tgt := 210) B d_Book_apply_206 rfl ?_
      exact mv_lret (pc := 210) B hr d_Book_apply_210 (Nat.le_refl _) (Nat.le_refl _) ⟨_, rfl, rfl⟩
  refine ⟨fun h1 => ?_, fun h1n259 => ?_⟩
  · skip
    refine mv_lload (pc := 234) B d_Book_apply_234 3 rfl ?_
    refine mv_lconst (pc := 236) (v := 0) B d_Book_apply_236 (by decide) ?_
    refine mv_iload (pc := 237) B d_Book_apply_237 4 rfl ?_
    refine mv_iconst (pc := 239) (v := 1) B d_Book_apply_239 (by decide) ?_
    refine mv_isub (pc := 240) B d_Book_apply_240 ?_
    refine mv_i2l (pc := 241) B d_Book_apply_241 ?_
    refine mv_callSNi (pc := 242) (n := 3) B (mK_ok sk sv) hNs (c_Model_in l hi _ _ _ _) rfl (ma_goodc kc_Model_in) (va_Nw.use rfl (hNs.1 _ (List.mem_of_getElem? (i := 7) rfl))) (B.2.2.2.1 _ k_2208) (B.2.2.2.1 _ k_12) ⟨by decide +kernel, by decide +kernel, by decide +kernel⟩ rfl d_Book_apply_242 rfl (Nat.le_of_ble_eq_true rfl) ⟨by decide, by decide⟩ ⟨by decide, by decide⟩ ⟨by decide, by decide⟩ (mv_noH hno _) (fun v242 σ242 h242 => ?_)
    obtain ⟨e242, z242⟩ := h242
    have e242 := e242.symm
    subst e242
    refine mv_if_eq (pc := 245) (tgt := 256) B d_Book_apply_245 rfl (fun h245 => ?_) (fun h245 => ?_)
    · skip
      refine mv_lconst (pc := 256) (v := 0) B d_Book_apply_256 (by decide) ?_
      exact mv_lret (pc := 257) B hr d_Book_apply_257 (Nat.le_refl _) (Nat.le_refl _) ⟨_, rfl, rfl⟩
    · skip
      refine mv_lload_n (pc := 248) B d_Book_apply_248 rfl 2 rfl ?_
      refine mv_lload (pc := 249) B d_Book_apply_249 3 rfl ?_
      refine mv_l2i (pc := 251) B d_Book_apply_251 ?_
      refine mv_lshl (pc := 252) B d_Book_apply_252 ?_
      refine mv_goto (pc := 253) (tgt := 257) B d_Book_apply_253 rfl ?_
      exact mv_lret (pc := 257) B hr d_Book_apply_257 (Nat.le_refl _) (Nat.le_refl _) ⟨_, rfl, rfl⟩
  refine ⟨fun h1 => ?_, fun h1n260 => ?_⟩
  · skip
    refine mv_lload (pc := 258) B d_Book_apply_258 3 rfl ?_
    refine mv_lconst (pc := 260) (v := 0) B d_Book_apply_260 (by decide) ?_
    refine mv_iload (pc := 261) B d_Book_apply_261 4 rfl ?_
    refine mv_iconst (pc := 263) (v := 1) B d_Book_apply_263 (by decide) ?_
    refine mv_isub (pc := 264) B d_Book_apply_264 ?_
    refine mv_i2l (pc := 265) B d_Book_apply_265 ?_
    refine mv_callSNi (pc := 266) (n := 3) B (mK_ok sk sv) hNs (c_Model_in l hi _ _ _ _) rfl (ma_goodc kc_Model_in) (va_Nw.use rfl (hNs.1 _ (List.mem_of_getElem? (i := 7) rfl))) (B.2.2.2.1 _ k_2208) (B.2.2.2.1 _ k_12) ⟨by decide +kernel, by decide +kernel, by decide +kernel⟩ rfl d_Book_apply_266 rfl (Nat.le_of_ble_eq_true rfl) ⟨by decide, by decide⟩ ⟨by decide, by decide⟩ ⟨by decide, by decide⟩ (mv_noH hno _) (fun v266 σ266 h266 => ?_)
    obtain ⟨e266, z266⟩ := h266
    have e266 := e266.symm
    subst e266
    refine mv_if_eq (pc := 269) (tgt := 280) B d_Book_apply_269 rfl (fun h269 => ?_) (fun h269 => ?_)
    · skip
      refine mv_lconst (pc := 280) (v := 0) B d_Book_apply_280 (by decide) ?_
      exact mv_lret (pc := 281) B hr d_Book_apply_281 (Nat.le_refl _) (Nat.le_refl _) ⟨_, rfl, rfl⟩
    · skip
      refine mv_lload_n (pc := 272) B d_Book_apply_272 rfl 2 rfl ?_
      refine mv_lload (pc := 273) B d_Book_apply_273 3 rfl ?_
      refine mv_l2i (pc := 275) B d_Book_apply_275 ?_
      refine mv_lushr (pc := 276) B d_Book_apply_276 ?_
      refine mv_goto (pc := 277) (tgt := 281) B d_Book_apply_277 rfl ?_
      exact mv_lret (pc := 281) B hr d_Book_apply_281 (Nat.le_refl _) (Nat.le_refl _) ⟨_, rfl, rfl⟩
  refine ⟨fun h1 => ?_, fun h1n1000 => ?_⟩
  · skip
    refine mv_lload_n (pc := 211) B d_Book_apply_211 rfl 2 rfl ?_
    refine mv_iload (pc := 212) B d_Book_apply_212 4 rfl ?_
    refine mv_callSl (pc := 214) (n := 2) B (mK_ok sk sv) hNs (c_Book_signed l hi _ _ _) rfl (ma_goodc kc_Book_signed) (B.2.2.2.1 _ k_2525) (B.2.2.2.1 _ k_2526) (B.2.2.2.1 _ k_13) ⟨by decide +kernel, by decide +kernel, by decide +kernel⟩ rfl d_Book_apply_214 rfl (Nat.le_of_ble_eq_true rfl) ⟨by decide, by decide⟩ ⟨by decide, by decide⟩ ⟨by decide, by decide⟩ (mv_noH hno _) (fun v214 σ214 h214 => ?_)
    have e214 := h214.symm
    subst e214
    refine mv_lload (pc := 217) B d_Book_apply_217 3 rfl ?_
    refine mv_iload (pc := 219) B d_Book_apply_219 4 rfl ?_
    refine mv_callSl (pc := 221) (n := 2) B (mK_ok sk sv) hNs (c_Book_signed l hi _ _ _) rfl (ma_goodc kc_Book_signed) (B.2.2.2.1 _ k_2525) (B.2.2.2.1 _ k_2526) (B.2.2.2.1 _ k_13) ⟨by decide +kernel, by decide +kernel, by decide +kernel⟩ rfl d_Book_apply_221 rfl (Nat.le_of_ble_eq_true rfl) ⟨by decide, by decide⟩ ⟨by decide, by decide⟩ ⟨by decide, by decide⟩ (mv_noH hno _) (fun v221 σ221 h221 => ?_)
    have e221 := h221.symm
    subst e221
    refine mv_lcmp (pc := 224) B d_Book_apply_224 ?_
    refine mv_if_ge (pc := 225) (tgt := 232) B d_Book_apply_225 rfl (fun h225 => ?_) (fun h225 => ?_)
    · skip
      refine mv_lconst (pc := 232) (v := 0) B d_Book_apply_232 (by decide) ?_
      exact mv_lret (pc := 233) B hr d_Book_apply_233 (Nat.le_refl _) (Nat.le_refl _) ⟨_, rfl, rfl⟩
    · skip
      refine mv_lconst (pc := 228) (v := 1) B d_Book_apply_228 (by decide) ?_
      refine mv_goto (pc := 229) (tgt := 233) B d_Book_apply_229 rfl ?_
      exact mv_lret (pc := 233) B hr d_Book_apply_233 (Nat.le_refl _) (Nat.le_refl _) ⟨_, rfl, rfl⟩
  refine ⟨fun h1 => ?_, fun h1n1003 => ?_⟩
  · skip
    refine mv_lload_n (pc := 282) B d_Book_apply_282 rfl 2 rfl ?_
    refine mv_iload (pc := 283) B d_Book_apply_283 4 rfl ?_
    refine mv_callSl (pc := 285) (n := 2) B (mK_ok sk sv) hNs (c_Book_signed l hi _ _ _) rfl (ma_goodc kc_Book_signed) (B.2.2.2.1 _ k_2525) (B.2.2.2.1 _ k_2526) (B.2.2.2.1 _ k_13) ⟨by decide +kernel, by decide +kernel, by decide +kernel⟩ rfl d_Book_apply_285 rfl (Nat.le_of_ble_eq_true rfl) ⟨by decide, by decide⟩ ⟨by decide, by decide⟩ ⟨by decide, by decide⟩ (mv_noH hno _) (fun v285 σ285 h285 => ?_)
    have e285 := h285.symm
    subst e285
    refine mv_lload (pc := 288) B d_Book_apply_288 3 rfl ?_
    refine mv_lconst (pc := 290) (v := 0) B d_Book_apply_290 (by decide) ?_
    refine mv_iload (pc := 291) B d_Book_apply_291 4 rfl ?_
    refine mv_iconst (pc := 293) (v := 1) B d_Book_apply_293 (by decide) ?_
    refine mv_isub (pc := 294) B d_Book_apply_294 ?_
    refine mv_i2l (pc := 295) B d_Book_apply_295 ?_
    refine mv_callSNi (pc := 296) (n := 3) B (mK_ok sk sv) hNs (c_Model_in l hi _ _ _ _) rfl (ma_goodc kc_Model_in) (va_Nw.use rfl (hNs.1 _ (List.mem_of_getElem? (i := 7) rfl))) (B.2.2.2.1 _ k_2208) (B.2.2.2.1 _ k_12) ⟨by decide +kernel, by decide +kernel, by decide +kernel⟩ rfl d_Book_apply_296 rfl (Nat.le_of_ble_eq_true rfl) ⟨by decide, by decide⟩ ⟨by decide, by decide⟩ ⟨by decide, by decide⟩ (mv_noH hno _) (fun v296 σ296 h296 => ?_)
    obtain ⟨e296, z296⟩ := h296
    have e296 := e296.symm
    subst e296
    refine mv_if_eq (pc := 299) (tgt := 307) B d_Book_apply_299 rfl (fun h299 => ?_) (fun h299 => ?_)
    · skip
      refine mv_ldc2 (pc := 307) (v := 63) B (B.2.2.2.1 _ k_2535) d_Book_apply_307 ?_
      refine mv_l2i (pc := 310) B d_Book_apply_310 ?_
      refine mv_lshr (pc := 311) B d_Book_apply_311 ?_
      exact mv_lret (pc := 312) B hr d_Book_apply_312 (Nat.le_refl _) (Nat.le_refl _) ⟨_, rfl, rfl⟩
    · skip
      refine mv_lload (pc := 302) B d_Book_apply_302 3 rfl ?_
      refine mv_goto (pc := 304) (tgt := 310) B d_Book_apply_304 rfl ?_
      refine mv_l2i (pc := 310) B d_Book_apply_310 ?_
      refine mv_lshr (pc := 311) B d_Book_apply_311 ?_
      exact mv_lret (pc := 312) B hr d_Book_apply_312 (Nat.le_refl _) (Nat.le_refl _) ⟨_, rfl, rfl⟩
  show mv_V _ _ _ _ _ _ _ _ _ _ _ _ _ _ _ _ 371 _ _
  refine mv_iload_n (pc := 371) B d_Book_apply_371 rfl 1 rfl ?_
  refine mv_lload_n (pc := 372) B d_Book_apply_372 rfl 2 rfl ?_
  refine mv_iload (pc := 373) B d_Book_apply_373 4 rfl ?_
  refine mv_callSl (pc := 375) (n := 2) B (mK_ok sk sv) hNs (c_Book_signed l hi _ _ _) rfl (ma_goodc kc_Book_signed) (B.2.2.2.1 _ k_2525) (B.2.2.2.1 _ k_2526) (B.2.2.2.1 _ k_13) ⟨by decide +kernel, by decide +kernel, by decide +kernel⟩ rfl d_Book_apply_375 rfl (Nat.le_of_ble_eq_true rfl) ⟨by decide, by decide⟩ ⟨by decide, by decide⟩ ⟨by decide, by decide⟩ (mv_noH hno _) (fun v375 σ375 h375 => ?_)
  have e375 := h375.symm
  subst e375
  refine mv_lload (pc := 378) B d_Book_apply_378 3 rfl ?_
  refine mv_iload (pc := 380) B d_Book_apply_380 4 rfl ?_
  refine mv_callSl (pc := 382) (n := 2) B (mK_ok sk sv) hNs (c_Book_signed l hi _ _ _) rfl (ma_goodc kc_Book_signed) (B.2.2.2.1 _ k_2525) (B.2.2.2.1 _ k_2526) (B.2.2.2.1 _ k_13) ⟨by decide +kernel, by decide +kernel, by decide +kernel⟩ rfl d_Book_apply_382 rfl (Nat.le_of_ble_eq_true rfl) ⟨by decide, by decide⟩ ⟨by decide, by decide⟩ ⟨by decide, by decide⟩ (mv_noH hno _) (fun v382 σ382 h382 => ?_)
  have e382 := h382.symm
  subst e382
  refine mv_lload_n (pc := 385) B d_Book_apply_385 rfl 2 rfl ?_
  refine mv_callSl (pc := 386) (n := 4) B (mK_ok sk sv) hNs (c_Book_divide l hi _ _ _ _ _) rfl (ma_goodc kc_Book_divide) (B.2.2.2.1 _ k_2539) (B.2.2.2.1 _ k_2540) (B.2.2.2.1 _ k_13) ⟨by decide +kernel, by decide +kernel, by decide +kernel⟩ rfl d_Book_apply_386 rfl (Nat.le_of_ble_eq_true rfl) ⟨by decide, by decide⟩ ⟨by decide, by decide⟩ ⟨by decide, by decide⟩ (mv_noH hno _) (fun v386 σ386 h386 => ?_)
  have e386 := h386.symm
  subst e386
  exact mv_lret (pc := 389) B hr d_Book_apply_389 (Nat.le_refl _) (Nat.le_refl _) ⟨_, rfl, rfl⟩
set_option maxHeartbeats 4000000 in
set_option maxRecDepth 100000 in
theorem c_Book_apply_y (l : Launch) {dA : FieldType → ClassId} {D : va_G} {al : Nat → Nat} {ext : mv_Sh} {sk sv : Nat → Nat} (hi : mv_inj (mg dA D al ext)) (σ : mv_H) (o9 : Int32) (x y : Int64) (w : Int32) : mv_C l y_Book_apply (Cond.code y_Book_apply b_Book_apply 7 (Option.some Jvm.ClassFile.FieldType.long) :: ma) ({ frames := 2, cells := 0, slots := 0, locals := 52 }) (mg dA D al ext) (mK sk sv) [.ref (al 108), .int o9, .long x, .long y, .int w] σ (mv_Rl (fun v σ1 => σ1 = σ)) := by
  refine mv_C.ofV (cc := b_Book_apply) (nL := 7) (ret := (Option.some Jvm.ClassFile.FieldType.long)) (by decide +kernel) rfl hi (Nat.le_of_ble_eq_true rfl) ?_
  intro p e s m below meth c B hNs hr hnm hno
  refine mv_iload_n (pc := 0) B d_Book_apply_0 rfl 1 rfl ?_
  refine mv_lsw (pc := 1) B d_Book_apply_1 (by decide) (by decide) ?_
  refine ⟨fun h1 => ?_, fun h1n37 => ?_⟩
  · skip
    refine mv_lload (pc := 348) B d_Book_apply_348 3 rfl ?_
    refine mv_lconst (pc := 350) (v := 0) B d_Book_apply_350 (by decide) ?_
    refine mv_lcmp (pc := 351) B d_Book_apply_351 ?_
    refine mv_if_ne (pc := 352) (tgt := 359) B d_Book_apply_352 rfl (fun h352 => ?_) (fun h352 => ?_)
    · skip
      refine mv_lload_n (pc := 359) B d_Book_apply_359 rfl 2 rfl ?_
      refine mv_lload_n (pc := 360) B d_Book_apply_360 rfl 2 rfl ?_
      refine mv_lload (pc := 361) B d_Book_apply_361 3 rfl ?_
      refine mv_callSl (pc := 363) (n := 2) B (mK_ok sk sv) hNs (c_Book_divided l hi _ _ _) rfl (ma_goodc kc_Book_divided) (B.2.2.2.1 _ k_2536) (B.2.2.2.1 _ k_2537) (B.2.2.2.1 _ k_13) ⟨by decide +kernel, by decide +kernel, by decide +kernel⟩ rfl d_Book_apply_363 rfl (Nat.le_of_ble_eq_true rfl) ⟨by decide, by decide⟩ ⟨by decide, by decide⟩ ⟨by decide, by decide⟩ (mv_noH hno _) (fun v363 σ363 h363 => ?_)
      have e363 := h363.symm
      subst e363
      refine mv_lload (pc := 366) B d_Book_apply_366 3 rfl ?_
      refine mv_lmul (pc := 368) B d_Book_apply_368 ?_
      refine mv_lsub (pc := 369) B d_Book_apply_369 ?_
      exact mv_lret (pc := 370) B hr d_Book_apply_370 (Nat.le_refl _) (Nat.le_refl _) ⟨_, rfl, rfl⟩
    · skip
      refine mv_lload_n (pc := 355) B d_Book_apply_355 rfl 2 rfl ?_
      refine mv_goto (pc := 356) (tgt := 370) B d_Book_apply_356 rfl ?_
      exact mv_lret (pc := 370) B hr d_Book_apply_370 (Nat.le_refl _) (Nat.le_refl _) ⟨_, rfl, rfl⟩
  refine ⟨fun h1 => ?_, fun h1n38 => ?_⟩
  · skip
    refine mv_lload_n (pc := 150) B d_Book_apply_150 rfl 2 rfl ?_
    refine mv_lload (pc := 151) B d_Book_apply_151 3 rfl ?_
    refine mv_land (pc := 153) B d_Book_apply_153 ?_
    exact mv_lret (pc := 154) B hr d_Book_apply_154 (Nat.le_refl _) (Nat.le_refl _) ⟨_, rfl, rfl⟩
  refine ⟨fun h1 => ?_, fun h1n42 => ?_⟩
  · skip
    refine mv_lload_n (pc := 323) B d_Book_apply_323 rfl 2 rfl ?_
    refine mv_lload (pc := 324) B d_Book_apply_324 3 rfl ?_
    refine mv_lmul (pc := 326) B d_Book_apply_326 ?_
    exact mv_lret (pc := 327) B hr d_Book_apply_327 (Nat.le_refl _) (Nat.le_refl _) ⟨_, rfl, rfl⟩
  refine ⟨fun h1 => ?_, fun h1n43 => ?_⟩
  · skip
    refine mv_lload_n (pc := 313) B d_Book_apply_313 rfl 2 rfl ?_
    refine mv_lload (pc := 314) B d_Book_apply_314 3 rfl ?_
    refine mv_ladd (pc := 316) B d_Book_apply_316 ?_
    exact mv_lret (pc := 317) B hr d_Book_apply_317 (Nat.le_refl _) (Nat.le_refl _) ⟨_, rfl, rfl⟩
  refine ⟨fun h1 => ?_, fun h1n45 => ?_⟩
  · skip
    refine mv_lload_n (pc := 318) B d_Book_apply_318 rfl 2 rfl ?_
    refine mv_lload (pc := 319) B d_Book_apply_319 3 rfl ?_
    refine mv_lsub (pc := 321) B d_Book_apply_321 ?_
    exact mv_lret (pc := 322) B hr d_Book_apply_322 (Nat.le_refl _) (Nat.le_refl _) ⟨_, rfl, rfl⟩
  refine ⟨fun h1 => ?_, fun h1n47 => ?_⟩
  · skip
    refine mv_lload (pc := 328) B d_Book_apply_328 3 rfl ?_
    refine mv_lconst (pc := 330) (v := 0) B d_Book_apply_330 (by decide) ?_
    refine mv_lcmp (pc := 331) B d_Book_apply_331 ?_
    refine mv_if_ne (pc := 332) (tgt := 341) B d_Book_apply_332 rfl (fun h332 => ?_) (fun h332 => ?_)
    · skip
      refine mv_lload_n (pc := 341) B d_Book_apply_341 rfl 2 rfl ?_
      refine mv_lload (pc := 342) B d_Book_apply_342 3 rfl ?_
      refine mv_callSl (pc := 344) (n := 2) B (mK_ok sk sv) hNs (c_Book_divided l hi _ _ _) rfl (ma_goodc kc_Book_divided) (B.2.2.2.1 _ k_2536) (B.2.2.2.1 _ k_2537) (B.2.2.2.1 _ k_13) ⟨by decide +kernel, by decide +kernel, by decide +kernel⟩ rfl d_Book_apply_344 rfl (Nat.le_of_ble_eq_true rfl) ⟨by decide, by decide⟩ ⟨by decide, by decide⟩ ⟨by decide, by decide⟩ (mv_noH hno _) (fun v344 σ344 h344 => ?_)
      have e344 := h344.symm
      subst e344
      exact mv_lret (pc := 347) B hr d_Book_apply_347 (Nat.le_refl _) (Nat.le_refl _) ⟨_, rfl, rfl⟩
    · skip
      refine mv_ldc2 (pc := 335) (v := -1) B (B.2.2.2.1 _ k_2520) d_Book_apply_335 ?_
      refine mv_goto (pc := 338) (tgt := 347) B d_Book_apply_338 rfl ?_
      exact mv_lret (pc := 347) B hr d_Book_apply_347 (Nat.le_refl _) (Nat.le_refl _) ⟨_, rfl, rfl⟩
  refine ⟨fun h1 => ?_, fun h1n60 => ?_⟩
  · skip
    refine mv_lload_n (pc := 181) B d_Book_apply_181 rfl 2 rfl ?_
    refine mv_lload (pc := 182) B d_Book_apply_182 3 rfl ?_
    refine mv_callSi (pc := 184) (n := 2) B (mK_ok sk sv) hNs (c_Book_below l hi _ _ _) rfl (ma_goodc kc_Book_below) (B.2.2.2.1 _ k_2532) (B.2.2.2.1 _ k_2533) (B.2.2.2.1 _ k_13) ⟨by decide +kernel, by decide +kernel, by decide +kernel⟩ rfl d_Book_apply_184 rfl (Nat.le_of_ble_eq_true rfl) ⟨by decide, by decide⟩ ⟨by decide, by decide⟩ ⟨by decide, by decide⟩ (mv_noH hno _) (fun v184 σ184 h184 => ?_)
    have e184 := h184.symm
    subst e184
    refine mv_if_eq (pc := 187) (tgt := 194) B d_Book_apply_187 rfl (fun h187 => ?_) (fun h187 => ?_)
    · skip
      refine mv_lconst (pc := 194) (v := 0) B d_Book_apply_194 (by decide) ?_
      exact mv_lret (pc := 195) B hr d_Book_apply_195 (Nat.le_refl _) (Nat.le_refl _) ⟨_, rfl, rfl⟩
    · skip
      refine mv_lconst (pc := 190) (v := 1) B d_Book_apply_190 (by decide) ?_
      refine mv_goto (pc := 191) (tgt := 195) B d_Book_apply_191 rfl ?_
      exact mv_lret (pc := 195) B hr d_Book_apply_195 (Nat.le_refl _) (Nat.le_refl _) ⟨_, rfl, rfl⟩
  refine ⟨fun h1 => ?_, fun h1n94 => ?_⟩
  · skip
    refine mv_lload_n (pc := 145) B d_Book_apply_145 rfl 2 rfl ?_
    refine mv_lload (pc := 146) B d_Book_apply_146 3 rfl ?_
    refine mv_lxor (pc := 148) B d_Book_apply_148 ?_
    exact mv_lret (pc := 149) B hr d_Book_apply_149 (Nat.le_refl _) (Nat.le_refl _) ⟨_, rfl, rfl⟩
  refine ⟨fun h1 => ?_, fun h1n124 => ?_⟩
  · skip
    refine mv_lload_n (pc := 140) B d_Book_apply_140 rfl 2 rfl ?_
    refine mv_lload (pc := 141) B d_Book_apply_141 3 rfl ?_
    refine mv_lor (pc := 143) B d_Book_apply_143 ?_
    exact mv_lret (pc := 144) B hr d_Book_apply_144 (Nat.le_refl _) (Nat.le_refl _) ⟨_, rfl, rfl⟩
  refine ⟨fun h1 => ?_, fun h1n256 => ?_⟩
  · skip
    refine mv_lload_n (pc := 155) B d_Book_apply_155 rfl 2 rfl ?_
    refine mv_lload (pc := 156) B d_Book_apply_156 3 rfl ?_
    refine mv_lcmp (pc := 158) B d_Book_apply_158 ?_
    refine mv_if_ne (pc := 159) (tgt := 166) B d_Book_apply_159 rfl (fun h159 => ?_) (fun h159 => ?_)
    · skip
      refine mv_lconst (pc := 166) (v := 0) B d_Book_apply_166 (by decide) ?_
      exact mv_lret (pc := 167) B hr d_Book_apply_167 (Nat.le_refl _) (Nat.le_refl _) ⟨_, rfl, rfl⟩
    · skip
      refine mv_lconst (pc := 162) (v := 1) B d_Book_apply_162 (by decide) ?_
      refine mv_goto (pc := 163) (tgt := 167) B d_Book_apply_163 rfl ?_
      exact mv_lret (pc := 167) B hr d_Book_apply_167 (Nat.le_refl _) (Nat.le_refl _) ⟨_, rfl, rfl⟩
  refine ⟨fun h1 => ?_, fun h1n257 => ?_⟩
  · skip
    refine mv_lload_n (pc := 168) B d_Book_apply_168 rfl 2 rfl ?_
    refine mv_lload (pc := 169) B d_Book_apply_169 3 rfl ?_
    refine mv_lcmp (pc := 171) B d_Book_apply_171 ?_
    refine mv_if_eq (pc := 172) (tgt := 179) B d_Book_apply_172 rfl (fun h172 => ?_) (fun h172 => ?_)
    · skip
      refine mv_lconst (pc := 179) (v := 0) B d_Book_apply_179 (by decide) ?_
      exact mv_lret (pc := 180) B hr d_Book_apply_180 (Nat.le_refl _) (Nat.le_refl _) ⟨_, rfl, rfl⟩
    · skip
      refine mv_lconst (pc := 175) (v := 1) B d_Book_apply_175 (by decide) ?_
      refine mv_goto (pc := 176) (tgt := 180) B d_Book_apply_176 rfl ?_
      exact mv_lret (pc := 180) B hr d_Book_apply_180 (Nat.le_refl _) (Nat.le_refl _) ⟨_, rfl, rfl⟩
  refine ⟨fun h1 => ?_, fun h1n258 => ?_⟩
  · skip
    refine mv_lload (pc := 196) B d_Book_apply_196 3 rfl ?_
    refine mv_lload_n (pc := 198) B d_Book_apply_198 rfl 2 rfl ?_
    refine mv_callSi (pc := 199) (n := 2) B (mK_ok sk sv) hNs (c_Book_below l hi _ _ _) rfl (ma_goodc kc_Book_below) (B.2.2.2.1 _ k_2532) (B.2.2.2.1 _ k_2533) (B.2.2.2.1 _ k_13) ⟨by decide +kernel, by decide +kernel, by decide +kernel⟩ rfl d_Book_apply_199 rfl (Nat.le_of_ble_eq_true rfl) ⟨by decide, by decide⟩ ⟨by decide, by decide⟩ ⟨by decide, by decide⟩ (mv_noH hno _) (fun v199 σ199 h199 => ?_)
    have e199 := h199.symm
    subst e199
    refine mv_if_eq (pc := 202) (tgt := 209) B d_Book_apply_202 rfl (fun h202 => ?_) (fun h202 => ?_)
    · skip
      refine mv_lconst (pc := 209) (v := 1) B d_Book_apply_209 (by decide) ?_
      exact mv_lret (pc := 210) B hr d_Book_apply_210 (Nat.le_refl _) (Nat.le_refl _) ⟨_, rfl, rfl⟩
    · skip
      refine mv_lconst (pc := 205) (v := 0) B d_Book_apply_205 (by decide) ?_
      refine mv_goto (pc := 206) (tgt := 210) B d_Book_apply_206 rfl ?_
      exact mv_lret (pc := 210) B hr d_Book_apply_210 (Nat.le_refl _) (Nat.le_refl _) ⟨_, rfl, rfl⟩
  refine ⟨fun h1 => ?_, fun h1n259 => ?_⟩
  · skip
    refine mv_lload (pc := 234) B d_Book_apply_234 3 rfl ?_
    refine mv_lconst (pc := 236) (v := 0) B d_Book_apply_236 (by decide) ?_
    refine mv_iload (pc := 237) B d_Book_apply_237 4 rfl ?_
    refine mv_iconst (pc := 239) (v := 1) B d_Book_apply_239 (by decide) ?_
    refine mv_isub (pc := 240) B d_Book_apply_240 ?_
    refine mv_i2l (pc := 241) B d_Book_apply_241 ?_
    refine mv_callSNi (pc := 242) (n := 3) B (mK_ok sk sv) hNs (c_Model_in l hi _ _ _ _) rfl (ma_goodc kc_Model_in) (va_Nw.use rfl (hNs.1 _ (List.mem_of_getElem? (i := 7) rfl))) (B.2.2.2.1 _ k_2208) (B.2.2.2.1 _ k_12) ⟨by decide +kernel, by decide +kernel, by decide +kernel⟩ rfl d_Book_apply_242 rfl (Nat.le_of_ble_eq_true rfl) ⟨by decide, by decide⟩ ⟨by decide, by decide⟩ ⟨by decide, by decide⟩ (mv_noH hno _) (fun v242 σ242 h242 => ?_)
    obtain ⟨e242, z242⟩ := h242
    have e242 := e242.symm
    subst e242
    refine mv_if_eq (pc := 245) (tgt := 256) B d_Book_apply_245 rfl (fun h245 => ?_) (fun h245 => ?_)
    · skip
      refine mv_lconst (pc := 256) (v := 0) B d_Book_apply_256 (by decide) ?_
      exact mv_lret (pc := 257) B hr d_Book_apply_257 (Nat.le_refl _) (Nat.le_refl _) ⟨_, rfl, rfl⟩
    · skip
      refine mv_lload_n (pc := 248) B d_Book_apply_248 rfl 2 rfl ?_
      refine mv_lload (pc := 249) B d_Book_apply_249 3 rfl ?_
      refine mv_l2i (pc := 251) B d_Book_apply_251 ?_
      refine mv_lshl (pc := 252) B d_Book_apply_252 ?_
      refine mv_goto (pc := 253) (tgt := 257) B d_Book_apply_253 rfl ?_
      exact mv_lret (pc := 257) B hr d_Book_apply_257 (Nat.le_refl _) (Nat.le_refl _) ⟨_, rfl, rfl⟩
  refine ⟨fun h1 => ?_, fun h1n260 => ?_⟩
  · skip
    refine mv_lload (pc := 258) B d_Book_apply_258 3 rfl ?_
    refine mv_lconst (pc := 260) (v := 0) B d_Book_apply_260 (by decide) ?_
    refine mv_iload (pc := 261) B d_Book_apply_261 4 rfl ?_
    refine mv_iconst (pc := 263) (v := 1) B d_Book_apply_263 (by decide) ?_
    refine mv_isub (pc := 264) B d_Book_apply_264 ?_
    refine mv_i2l (pc := 265) B d_Book_apply_265 ?_
    refine mv_callSNi (pc := 266) (n := 3) B (mK_ok sk sv) hNs (c_Model_in l hi _ _ _ _) rfl (ma_goodc kc_Model_in) (va_Nw.use rfl (hNs.1 _ (List.mem_of_getElem? (i := 7) rfl))) (B.2.2.2.1 _ k_2208) (B.2.2.2.1 _ k_12) ⟨by decide +kernel, by decide +kernel, by decide +kernel⟩ rfl d_Book_apply_266 rfl (Nat.le_of_ble_eq_true rfl) ⟨by decide, by decide⟩ ⟨by decide, by decide⟩ ⟨by decide, by decide⟩ (mv_noH hno _) (fun v266 σ266 h266 => ?_)
    obtain ⟨e266, z266⟩ := h266
    have e266 := e266.symm
    subst e266
    refine mv_if_eq (pc := 269) (tgt := 280) B d_Book_apply_269 rfl (fun h269 => ?_) (fun h269 => ?_)
    · skip
      refine mv_lconst (pc := 280) (v := 0) B d_Book_apply_280 (by decide) ?_
      exact mv_lret (pc := 281) B hr d_Book_apply_281 (Nat.le_refl _) (Nat.le_refl _) ⟨_, rfl, rfl⟩
    · skip
      refine mv_lload_n (pc := 272) B d_Book_apply_272 rfl 2 rfl ?_
      refine mv_lload (pc := 273) B d_Book_apply_273 3 rfl ?_
      refine mv_l2i (pc := 275) B d_Book_apply_275 ?_
      refine mv_lushr (pc := 276) B d_Book_apply_276 ?_
      refine mv_goto (pc := 277) (tgt := 281) B d_Book_apply_277 rfl ?_
      exact mv_lret (pc := 281) B hr d_Book_apply_281 (Nat.le_refl _) (Nat.le_refl _) ⟨_, rfl, rfl⟩
  refine ⟨fun h1 => ?_, fun h1n1000 => ?_⟩
  · skip
    refine mv_lload_n (pc := 211) B d_Book_apply_211 rfl 2 rfl ?_
    refine mv_iload (pc := 212) B d_Book_apply_212 4 rfl ?_
    refine mv_callSl (pc := 214) (n := 2) B (mK_ok sk sv) hNs (c_Book_signed l hi _ _ _) rfl (ma_goodc kc_Book_signed) (B.2.2.2.1 _ k_2525) (B.2.2.2.1 _ k_2526) (B.2.2.2.1 _ k_13) ⟨by decide +kernel, by decide +kernel, by decide +kernel⟩ rfl d_Book_apply_214 rfl (Nat.le_of_ble_eq_true rfl) ⟨by decide, by decide⟩ ⟨by decide, by decide⟩ ⟨by decide, by decide⟩ (mv_noH hno _) (fun v214 σ214 h214 => ?_)
    have e214 := h214.symm
    subst e214
    refine mv_lload (pc := 217) B d_Book_apply_217 3 rfl ?_
    refine mv_iload (pc := 219) B d_Book_apply_219 4 rfl ?_
    refine mv_callSl (pc := 221) (n := 2) B (mK_ok sk sv) hNs (c_Book_signed l hi _ _ _) rfl (ma_goodc kc_Book_signed) (B.2.2.2.1 _ k_2525) (B.2.2.2.1 _ k_2526) (B.2.2.2.1 _ k_13) ⟨by decide +kernel, by decide +kernel, by decide +kernel⟩ rfl d_Book_apply_221 rfl (Nat.le_of_ble_eq_true rfl) ⟨by decide, by decide⟩ ⟨by decide, by decide⟩ ⟨by decide, by decide⟩ (mv_noH hno _) (fun v221 σ221 h221 => ?_)
    have e221 := h221.symm
    subst e221
    refine mv_lcmp (pc := 224) B d_Book_apply_224 ?_
    refine mv_if_ge (pc := 225) (tgt := 232) B d_Book_apply_225 rfl (fun h225 => ?_) (fun h225 => ?_)
    · skip
      refine mv_lconst (pc := 232) (v := 0) B d_Book_apply_232 (by decide) ?_
      exact mv_lret (pc := 233) B hr d_Book_apply_233 (Nat.le_refl _) (Nat.le_refl _) ⟨_, rfl, rfl⟩
    · skip
      refine mv_lconst (pc := 228) (v := 1) B d_Book_apply_228 (by decide) ?_
      refine mv_goto (pc := 229) (tgt := 233) B d_Book_apply_229 rfl ?_
      exact mv_lret (pc := 233) B hr d_Book_apply_233 (Nat.le_refl _) (Nat.le_refl _) ⟨_, rfl, rfl⟩
  refine ⟨fun h1 => ?_, fun h1n1003 => ?_⟩
  · skip
    refine mv_lload_n (pc := 282) B d_Book_apply_282 rfl 2 rfl ?_
    refine mv_iload (pc := 283) B d_Book_apply_283 4 rfl ?_
    refine mv_callSl (pc := 285) (n := 2) B (mK_ok sk sv) hNs (c_Book_signed l hi _ _ _) rfl (ma_goodc kc_Book_signed) (B.2.2.2.1 _ k_2525) (B.2.2.2.1 _ k_2526) (B.2.2.2.1 _ k_13) ⟨by decide +kernel, by decide +kernel, by decide +kernel⟩ rfl d_Book_apply_285 rfl (Nat.le_of_ble_eq_true rfl) ⟨by decide, by decide⟩ ⟨by decide, by decide⟩ ⟨by decide, by decide⟩ (mv_noH hno _) (fun v285 σ285 h285 => ?_)
    have e285 := h285.symm
    subst e285
    refine mv_lload (pc := 288) B d_Book_apply_288 3 rfl ?_
    refine mv_lconst (pc := 290) (v := 0) B d_Book_apply_290 (by decide) ?_
    refine mv_iload (pc := 291) B d_Book_apply_291 4 rfl ?_
    refine mv_iconst (pc := 293) (v := 1) B d_Book_apply_293 (by decide) ?_
    refine mv_isub (pc := 294) B d_Book_apply_294 ?_
    refine mv_i2l (pc := 295) B d_Book_apply_295 ?_
    refine mv_callSNi (pc := 296) (n := 3) B (mK_ok sk sv) hNs (c_Model_in l hi _ _ _ _) rfl (ma_goodc kc_Model_in) (va_Nw.use rfl (hNs.1 _ (List.mem_of_getElem? (i := 7) rfl))) (B.2.2.2.1 _ k_2208) (B.2.2.2.1 _ k_12) ⟨by decide +kernel, by decide +kernel, by decide +kernel⟩ rfl d_Book_apply_296 rfl (Nat.le_of_ble_eq_true rfl) ⟨by decide, by decide⟩ ⟨by decide, by decide⟩ ⟨by decide, by decide⟩ (mv_noH hno _) (fun v296 σ296 h296 => ?_)
    obtain ⟨e296, z296⟩ := h296
    have e296 := e296.symm
    subst e296
    refine mv_if_eq (pc := 299) (tgt := 307) B d_Book_apply_299 rfl (fun h299 => ?_) (fun h299 => ?_)
    · skip
      refine mv_ldc2 (pc := 307) (v := 63) B (B.2.2.2.1 _ k_2535) d_Book_apply_307 ?_
      refine mv_l2i (pc := 310) B d_Book_apply_310 ?_
      refine mv_lshr (pc := 311) B d_Book_apply_311 ?_
      exact mv_lret (pc := 312) B hr d_Book_apply_312 (Nat.le_refl _) (Nat.le_refl _) ⟨_, rfl, rfl⟩
    · skip
      refine mv_lload (pc := 302) B d_Book_apply_302 3 rfl ?_
      refine mv_goto (pc := 304) (tgt := 310) B d_Book_apply_304 rfl ?_
      refine mv_l2i (pc := 310) B d_Book_apply_310 ?_
      refine mv_lshr (pc := 311) B d_Book_apply_311 ?_
      exact mv_lret (pc := 312) B hr d_Book_apply_312 (Nat.le_refl _) (Nat.le_refl _) ⟨_, rfl, rfl⟩
  show mv_V _ _ _ _ _ _ _ _ _ _ _ _ _ _ _ _ 371 _ _
  refine mv_iload_n (pc := 371) B d_Book_apply_371 rfl 1 rfl ?_
  refine mv_lload_n (pc := 372) B d_Book_apply_372 rfl 2 rfl ?_
  refine mv_iload (pc := 373) B d_Book_apply_373 4 rfl ?_
  refine mv_callSl (pc := 375) (n := 2) B (mK_ok sk sv) hNs (c_Book_signed l hi _ _ _) rfl (ma_goodc kc_Book_signed) (B.2.2.2.1 _ k_2525) (B.2.2.2.1 _ k_2526) (B.2.2.2.1 _ k_13) ⟨by decide +kernel, by decide +kernel, by decide +kernel⟩ rfl d_Book_apply_375 rfl (Nat.le_of_ble_eq_true rfl) ⟨by decide, by decide⟩ ⟨by decide, by decide⟩ ⟨by decide, by decide⟩ (mv_noH hno _) (fun v375 σ375 h375 => ?_)
  have e375 := h375.symm
  subst e375
  refine mv_lload (pc := 378) B d_Book_apply_378 3 rfl ?_
  refine mv_iload (pc := 380) B d_Book_apply_380 4 rfl ?_
  refine mv_callSl (pc := 382) (n := 2) B (mK_ok sk sv) hNs (c_Book_signed l hi _ _ _) rfl (ma_goodc kc_Book_signed) (B.2.2.2.1 _ k_2525) (B.2.2.2.1 _ k_2526) (B.2.2.2.1 _ k_13) ⟨by decide +kernel, by decide +kernel, by decide +kernel⟩ rfl d_Book_apply_382 rfl (Nat.le_of_ble_eq_true rfl) ⟨by decide, by decide⟩ ⟨by decide, by decide⟩ ⟨by decide, by decide⟩ (mv_noH hno _) (fun v382 σ382 h382 => ?_)
  have e382 := h382.symm
  subst e382
  refine mv_lload_n (pc := 385) B d_Book_apply_385 rfl 2 rfl ?_
  refine mv_callSl (pc := 386) (n := 4) B (mK_ok sk sv) hNs (c_Book_divide l hi _ _ _ _ _) rfl (ma_goodc kc_Book_divide) (B.2.2.2.1 _ k_2539) (B.2.2.2.1 _ k_2540) (B.2.2.2.1 _ k_13) ⟨by decide +kernel, by decide +kernel, by decide +kernel⟩ rfl d_Book_apply_386 rfl (Nat.le_of_ble_eq_true rfl) ⟨by decide, by decide⟩ ⟨by decide, by decide⟩ ⟨by decide, by decide⟩ (mv_noH hno _) (fun v386 σ386 h386 => ?_)
  have e386 := h386.symm
  subst e386
  exact mv_lret (pc := 389) B hr d_Book_apply_389 (Nat.le_refl _) (Nat.le_refl _) ⟨_, rfl, rfl⟩
def y_Book_read_0 : MethodName := ⟨"MachineLoomModel$Book", "read", "(II)J"⟩
abbrev b_Book_read_0 : ByteArray := prog_15_method_58_code
theorem kc_Book_read_0 : Cond.code y_Book_read_0 b_Book_read_0 4 (Option.some Jvm.ClassFile.FieldType.long) ∈ ma := ma_of (tb_11 _ (List.mem_of_getElem? (i := 111) rfl)) rfl
theorem k_1906 : (Jvm.Cond.fieldLink "MachineLoomModel$Book" (117 : Nat) "MachineLoomModel$Book" "writeThing" "[I") ∈ ma := ma_of (tb_8 _ (List.mem_of_getElem? (i := 226) rfl)) rfl
theorem k_1907 : (Jvm.Cond.fieldLink "MachineLoomModel$Book" (120 : Nat) "MachineLoomModel$Book" "writeIndex" "[I") ∈ ma := ma_of (tb_8 _ (List.mem_of_getElem? (i := 227) rfl)) rfl
theorem k_1909 : (Jvm.Cond.fieldLink "MachineLoomModel$Book" (126 : Nat) "MachineLoomModel$Book" "writeValue" "[J") ∈ ma := ma_of (tb_8 _ (List.mem_of_getElem? (i := 229) rfl)) rfl
theorem k_1910 : (Jvm.Cond.fieldLink "MachineLoomModel$Book" (441 : Nat) "MachineLoomModel$Book" "writes" "I") ∈ ma := ma_of (tb_8 _ (List.mem_of_getElem? (i := 230) rfl)) rfl
theorem d_Book_read_0_0 : decode b_Book_read_0 0 = .ok (.aload_n 0, 1) := by decide +kernel
theorem d_Book_read_0_1 : decode b_Book_read_0 1 = .ok (.getfield 441, 3) := by decide +kernel
theorem d_Book_read_0_4 : decode b_Book_read_0 4 = .ok (.iconst 1, 1) := by decide +kernel
theorem d_Book_read_0_5 : decode b_Book_read_0 5 = .ok (.isub, 1) := by decide +kernel
theorem d_Book_read_0_6 : decode b_Book_read_0 6 = .ok (.istore_n 3, 1) := by decide +kernel
theorem d_Book_read_0_7 : decode b_Book_read_0 7 = .ok (.iload_n 3, 1) := by decide +kernel
theorem d_Book_read_0_8 : decode b_Book_read_0 8 = .ok (.ifCond .lt (36), 3) := by decide +kernel
theorem d_Book_read_0_11 : decode b_Book_read_0 11 = .ok (.aload_n 0, 1) := by decide +kernel
theorem d_Book_read_0_12 : decode b_Book_read_0 12 = .ok (.getfield 117, 3) := by decide +kernel
theorem d_Book_read_0_15 : decode b_Book_read_0 15 = .ok (.iload_n 3, 1) := by decide +kernel
theorem d_Book_read_0_16 : decode b_Book_read_0 16 = .ok (.iaload, 1) := by decide +kernel
theorem d_Book_read_0_17 : decode b_Book_read_0 17 = .ok (.iload_n 1, 1) := by decide +kernel
theorem d_Book_read_0_18 : decode b_Book_read_0 18 = .ok (.if_icmp .ne (20), 3) := by decide +kernel
theorem d_Book_read_0_21 : decode b_Book_read_0 21 = .ok (.aload_n 0, 1) := by decide +kernel
theorem d_Book_read_0_22 : decode b_Book_read_0 22 = .ok (.getfield 120, 3) := by decide +kernel
theorem d_Book_read_0_25 : decode b_Book_read_0 25 = .ok (.iload_n 3, 1) := by decide +kernel
theorem d_Book_read_0_26 : decode b_Book_read_0 26 = .ok (.iaload, 1) := by decide +kernel
theorem d_Book_read_0_27 : decode b_Book_read_0 27 = .ok (.iload_n 2, 1) := by decide +kernel
theorem d_Book_read_0_28 : decode b_Book_read_0 28 = .ok (.if_icmp .ne (10), 3) := by decide +kernel
theorem d_Book_read_0_31 : decode b_Book_read_0 31 = .ok (.aload_n 0, 1) := by decide +kernel
theorem d_Book_read_0_32 : decode b_Book_read_0 32 = .ok (.getfield 126, 3) := by decide +kernel
theorem d_Book_read_0_35 : decode b_Book_read_0 35 = .ok (.iload_n 3, 1) := by decide +kernel
theorem d_Book_read_0_36 : decode b_Book_read_0 36 = .ok (.laload, 1) := by decide +kernel
theorem d_Book_read_0_37 : decode b_Book_read_0 37 = .ok (.lreturn, 1) := by decide +kernel
theorem d_Book_read_0_38 : decode b_Book_read_0 38 = .ok (.iinc 3 (-1), 3) := by decide +kernel
theorem d_Book_read_0_41 : decode b_Book_read_0 41 = .ok (.goto (-34), 3) := by decide +kernel
theorem d_Book_read_0_44 : decode b_Book_read_0 44 = .ok (.aload_n 0, 1) := by decide +kernel
theorem d_Book_read_0_45 : decode b_Book_read_0 45 = .ok (.getfield 32, 3) := by decide +kernel
theorem d_Book_read_0_48 : decode b_Book_read_0 48 = .ok (.iload_n 1, 1) := by decide +kernel
theorem d_Book_read_0_49 : decode b_Book_read_0 49 = .ok (.baload, 1) := by decide +kernel
theorem d_Book_read_0_50 : decode b_Book_read_0 50 = .ok (.ifCond .eq (19), 3) := by decide +kernel
theorem d_Book_read_0_53 : decode b_Book_read_0 53 = .ok (.aload_n 0, 1) := by decide +kernel
theorem d_Book_read_0_54 : decode b_Book_read_0 54 = .ok (.getfield 114, 3) := by decide +kernel
theorem d_Book_read_0_57 : decode b_Book_read_0 57 = .ok (.aload_n 0, 1) := by decide +kernel
theorem d_Book_read_0_58 : decode b_Book_read_0 58 = .ok (.getfield 29, 3) := by decide +kernel
theorem d_Book_read_0_61 : decode b_Book_read_0 61 = .ok (.iload_n 1, 1) := by decide +kernel
theorem d_Book_read_0_62 : decode b_Book_read_0 62 = .ok (.iaload, 1) := by decide +kernel
theorem d_Book_read_0_63 : decode b_Book_read_0 63 = .ok (.iload_n 2, 1) := by decide +kernel
theorem d_Book_read_0_64 : decode b_Book_read_0 64 = .ok (.iadd, 1) := by decide +kernel
theorem d_Book_read_0_65 : decode b_Book_read_0 65 = .ok (.laload, 1) := by decide +kernel
theorem d_Book_read_0_66 : decode b_Book_read_0 66 = .ok (.goto (9), 3) := by decide +kernel
theorem d_Book_read_0_69 : decode b_Book_read_0 69 = .ok (.aload_n 0, 1) := by decide +kernel
theorem d_Book_read_0_70 : decode b_Book_read_0 70 = .ok (.getfield 110, 3) := by decide +kernel
theorem d_Book_read_0_73 : decode b_Book_read_0 73 = .ok (.iload_n 1, 1) := by decide +kernel
theorem d_Book_read_0_74 : decode b_Book_read_0 74 = .ok (.laload, 1) := by decide +kernel
theorem d_Book_read_0_75 : decode b_Book_read_0 75 = .ok (.lreturn, 1) := by decide +kernel
set_option maxHeartbeats 4000000 in
set_option maxRecDepth 100000 in
theorem c_Book_read_0_x (l : Launch) {dA : FieldType → ClassId} {D : va_G} {al : Nat → Nat} {ext : mv_Sh} {sk sv : Nat → Nat} (hi : mv_inj (mg dA D al ext)) (σ : mv_H) (t9 i9 : Int32) (th n k w : Nat) (g : Gh) (hS : ST 74 th n k g σ) (hD : DY 74 th w σ) (hw : w ≤ 12000) (hK : WK 74 th σ t9 i9) : mv_C l y_Book_read_0 (Cond.code y_Book_read_0 b_Book_read_0 4 (Option.some Jvm.ClassFile.FieldType.long) :: ma) ({ frames := 0, cells := 0, slots := 0, locals := 0 }) (mg dA D al ext) (mK sk sv) [.ref (al 74), .int t9, .int i9] σ (mv_Rl (fun v σ1 => σ1 = σ)) := by
  refine mv_C.ofV (cc := b_Book_read_0) (nL := 4) (ret := (Option.some Jvm.ClassFile.FieldType.long)) (by decide +kernel) rfl hi (Nat.le_of_ble_eq_true rfl) ?_
  intro p e s m below meth c B hNs hr hnm hno
  have hD1 := hD.1
  have hK2 := hK.2.1
  have hK3 := hK.2.2.1
  have hth := hS.2.2.2.2.1
  have lp : ∀ (nn : Nat) (k9 : Int32) (q0 : k9.toInt < w) (q1 : -1 ≤ k9.toInt), (k9.toInt + 1).toNat < nn → mv_V p l e ({ frames := 0, cells := 0, slots := 0, locals := 0 }) s m ([.ref (al 74), .int t9, .int i9] : List Value).toArray below meth c (mg dA D al ext) 4 0 0 (mv_Q (mg dA D al ext) below s 0 0 (mv_Rl (fun v σ1 => σ1 = σ))) σ 7 [(3, .int k9), (0, .ref (al 74)), (1, .int t9), (2, .int i9)] [] := by
    intro nn
    induction nn with
    | zero => intro k9 q0 q1 hm; exact absurd hm (Nat.not_lt_zero _)
    | succ nn ih =>
      intro k9 q0 q1 hm
      refine mv_iload_n (pc := 7) B d_Book_read_0_7 rfl 0 rfl ?_
      refine mv_if_lt (pc := 8) (tgt := 44) B d_Book_read_0_8 rfl (fun h8 => ?_) (fun h8 => ?_)
      · skip
        refine mv_aload_n (pc := 44) B d_Book_read_0_44 rfl 1 rfl ?_
        refine mv_getR (pc := 45) (ci := 12) (C := R_Book) (T := F_Book) (N := 65) B 15 rfl rfl (by decide) i_Book (B.2.2.2.1 _ k_1858) rfl (hS.1 _ 15 _ rfl) d_Book_read_0_45 ?_
        refine mv_iload_n (pc := 48) B d_Book_read_0_48 rfl 2 rfl ?_
        refine mv_zald (pc := 49) B rfl (i32_in hK.1 (show t9.toInt < 4100 by omega)) d_Book_read_0_49 ?_
        refine mv_if_eq (pc := 50) (tgt := 69) B d_Book_read_0_50 rfl (fun h50 => ?_) (fun h50 => ?_)
        · skip
          refine mv_aload_n (pc := 69) B d_Book_read_0_69 rfl 1 rfl ?_
          refine mv_getR (pc := 70) (ci := 12) (C := R_Book) (T := F_Book) (N := 65) B 55 rfl rfl (by decide) i_Book (B.2.2.2.1 _ k_1904) rfl (hS.1 _ 55 _ rfl) d_Book_read_0_70 ?_
          refine mv_iload_n (pc := 73) B d_Book_read_0_73 rfl 2 rfl ?_
          refine mv_lald (pc := 74) B rfl (i32_in hK.1 (show t9.toInt < 4100 by omega)) d_Book_read_0_74 ?_
          exact mv_lret (pc := 75) B hr d_Book_read_0_75 (Nat.le_refl _) (Nat.le_refl _) ⟨_, rfl, rfl⟩
        · skip
          have hin : 0 ≤ (mv_a σ 79 t9.toNatClampNeg).toInt + i9.toInt ∧ (mv_a σ 79 t9.toNatClampNeg).toInt + i9.toInt < 65536 ∧ 0 ≤ (mv_a σ 79 t9.toNatClampNeg).toInt := hK.in hS h50
          refine mv_aload_n (pc := 53) B d_Book_read_0_53 rfl 1 rfl ?_
          refine mv_getR (pc := 54) (ci := 12) (C := R_Book) (T := F_Book) (N := 65) B 56 rfl rfl (by decide) i_Book (B.2.2.2.1 _ k_1905) rfl (hS.1 _ 56 _ rfl) d_Book_read_0_54 ?_
          refine mv_aload_n (pc := 57) B d_Book_read_0_57 rfl 1 rfl ?_
          refine mv_getR (pc := 58) (ci := 12) (C := R_Book) (T := F_Book) (N := 65) B 14 rfl rfl (by decide) i_Book (B.2.2.2.1 _ k_1857) rfl (hS.1 _ 14 _ rfl) d_Book_read_0_58 ?_
          refine mv_iload_n (pc := 61) B d_Book_read_0_61 rfl 2 rfl ?_
          refine mv_iald (pc := 62) B rfl (i32_in hK.1 (show t9.toInt < 4100 by omega)) d_Book_read_0_62 ?_
          refine mv_iload_n (pc := 63) B d_Book_read_0_63 rfl 3 rfl ?_
          refine mv_iadd (pc := 64) B d_Book_read_0_64 ?_
          refine mv_topi (fun y64 ey64 => ?_)
          have fy64 := i32_addE ey64 (by (try simp only [Int32.reduceToInt]); omega) (by (try simp only [Int32.reduceToInt]); omega)
          try simp only [Int32.reduceToInt] at fy64
          refine mv_lald (pc := 65) B rfl (i32_in (show 0 ≤ y64.toInt by omega) (show y64.toInt < 65536 by omega)) d_Book_read_0_65 ?_
          refine mv_goto (pc := 66) (tgt := 75) B d_Book_read_0_66 rfl ?_
          exact mv_lret (pc := 75) B hr d_Book_read_0_75 (Nat.le_refl _) (Nat.le_refl _) ⟨_, rfl, rfl⟩
      · skip
        have hk0 : ¬ k9.toInt < 0 := fun z => h8 (Int32.lt_iff_toInt_lt.mpr z)
        have w2 : (k9 + -1).toInt = k9.toInt - 1 := by rw [i32_add (x := k9) (y := -1) (by show -2147483648 ≤ k9.toInt + -1; omega) (by show k9.toInt + -1 < 2147483648; omega)]; show k9.toInt + -1 = _; omega
        refine mv_aload_n (pc := 11) B d_Book_read_0_11 rfl 1 rfl ?_
        refine mv_getR (pc := 12) (ci := 12) (C := R_Book) (T := F_Book) (N := 65) B 57 rfl rfl (by decide) i_Book (B.2.2.2.1 _ k_1906) rfl (hS.1 _ 57 _ rfl) d_Book_read_0_12 ?_
        refine mv_iload_n (pc := 15) B d_Book_read_0_15 rfl 0 rfl ?_
        refine mv_iald (pc := 16) B rfl (i32_in (show 0 ≤ k9.toInt by omega) (show k9.toInt < 12000 by omega)) d_Book_read_0_16 ?_
        refine mv_iload_n (pc := 17) B d_Book_read_0_17 rfl 2 rfl ?_
        refine mv_icmp_ne (pc := 18) (tgt := 38) B d_Book_read_0_18 rfl (fun h18 => ?_) (fun h18 => ?_)
        · skip
          refine mv_iinc (pc := 38) (j := 0) (v := -1) B d_Book_read_0_38 rfl (by decide) (by decide) rfl ?_
          refine mv_goto (pc := 41) (tgt := 7) B d_Book_read_0_41 rfl ?_
          refine mv_lpick [0, 1, 2, 3] rfl ?_
          exact ih _ (by omega) (by omega) (by omega)
        · skip
          refine mv_aload_n (pc := 21) B d_Book_read_0_21 rfl 1 rfl ?_
          refine mv_getR (pc := 22) (ci := 12) (C := R_Book) (T := F_Book) (N := 65) B 58 rfl rfl (by decide) i_Book (B.2.2.2.1 _ k_1907) rfl (hS.1 _ 58 _ rfl) d_Book_read_0_22 ?_
          refine mv_iload_n (pc := 25) B d_Book_read_0_25 rfl 0 rfl ?_
          refine mv_iald (pc := 26) B rfl (i32_in (show 0 ≤ k9.toInt by omega) (show k9.toInt < 12000 by omega)) d_Book_read_0_26 ?_
          refine mv_iload_n (pc := 27) B d_Book_read_0_27 rfl 3 rfl ?_
          refine mv_icmp_ne (pc := 28) (tgt := 38) B d_Book_read_0_28 rfl (fun h28 => ?_) (fun h28 => ?_)
          · skip
            refine mv_iinc (pc := 38) (j := 0) (v := -1) B d_Book_read_0_38 rfl (by decide) (by decide) rfl ?_
            refine mv_goto (pc := 41) (tgt := 7) B d_Book_read_0_41 rfl ?_
            refine mv_lpick [0, 1, 2, 3] rfl ?_
            exact ih _ (by omega) (by omega) (by omega)
          · skip
            refine mv_aload_n (pc := 31) B d_Book_read_0_31 rfl 1 rfl ?_
            refine mv_getR (pc := 32) (ci := 12) (C := R_Book) (T := F_Book) (N := 65) B 60 rfl rfl (by decide) i_Book (B.2.2.2.1 _ k_1909) rfl (hS.1 _ 60 _ rfl) d_Book_read_0_32 ?_
            refine mv_iload_n (pc := 35) B d_Book_read_0_35 rfl 0 rfl ?_
            refine mv_lald (pc := 36) B rfl (i32_in (show 0 ≤ k9.toInt by omega) (show k9.toInt < 12000 by omega)) d_Book_read_0_36 ?_
            exact mv_lret (pc := 37) B hr d_Book_read_0_37 (Nat.le_refl _) (Nat.le_refl _) ⟨_, rfl, rfl⟩
  refine mv_aload_n (pc := 0) B d_Book_read_0_0 rfl 0 rfl ?_
  refine mv_getI (pc := 1) (ci := 12) (C := R_Book) (T := F_Book) (N := 65) B 61 rfl rfl (by decide) i_Book (B.2.2.2.1 _ k_1910) rfl d_Book_read_0_1 ?_
  refine mv_iconst (pc := 4) (v := 1) B d_Book_read_0_4 (by decide) ?_
  refine mv_isub (pc := 5) B d_Book_read_0_5 ?_
  refine mv_topi (fun y5 ey5 => ?_)
  have fy5 := i32_subE ey5 (by (try simp only [Int32.reduceToInt]); omega) (by (try simp only [Int32.reduceToInt]); omega)
  try simp only [Int32.reduceToInt] at fy5
  refine mv_istore_n (pc := 6) B d_Book_read_0_6 rfl (by decide) rfl ?_
  refine mv_lpick [0, 1, 2, 3] rfl ?_
  exact lp _ _ (by omega) (by omega) (Nat.lt_succ_self _)
set_option maxHeartbeats 4000000 in
set_option maxRecDepth 100000 in
theorem c_Book_read_0_y (l : Launch) {dA : FieldType → ClassId} {D : va_G} {al : Nat → Nat} {ext : mv_Sh} {sk sv : Nat → Nat} (hi : mv_inj (mg dA D al ext)) (σ : mv_H) (t9 i9 : Int32) (th n k w : Nat) (g : Gh) (hS : ST 108 th n k g σ) (hD : DY 108 th w σ) (hw : w ≤ 12000) (hK : WK 108 th σ t9 i9) : mv_C l y_Book_read_0 (Cond.code y_Book_read_0 b_Book_read_0 4 (Option.some Jvm.ClassFile.FieldType.long) :: ma) ({ frames := 0, cells := 0, slots := 0, locals := 0 }) (mg dA D al ext) (mK sk sv) [.ref (al 108), .int t9, .int i9] σ (mv_Rl (fun v σ1 => σ1 = σ)) := by
  refine mv_C.ofV (cc := b_Book_read_0) (nL := 4) (ret := (Option.some Jvm.ClassFile.FieldType.long)) (by decide +kernel) rfl hi (Nat.le_of_ble_eq_true rfl) ?_
  intro p e s m below meth c B hNs hr hnm hno
  have hD1 := hD.1
  have hK2 := hK.2.1
  have hK3 := hK.2.2.1
  have hth := hS.2.2.2.2.1
  have lp : ∀ (nn : Nat) (k9 : Int32) (q0 : k9.toInt < w) (q1 : -1 ≤ k9.toInt), (k9.toInt + 1).toNat < nn → mv_V p l e ({ frames := 0, cells := 0, slots := 0, locals := 0 }) s m ([.ref (al 108), .int t9, .int i9] : List Value).toArray below meth c (mg dA D al ext) 4 0 0 (mv_Q (mg dA D al ext) below s 0 0 (mv_Rl (fun v σ1 => σ1 = σ))) σ 7 [(3, .int k9), (0, .ref (al 108)), (1, .int t9), (2, .int i9)] [] := by
    intro nn
    induction nn with
    | zero => intro k9 q0 q1 hm; exact absurd hm (Nat.not_lt_zero _)
    | succ nn ih =>
      intro k9 q0 q1 hm
      refine mv_iload_n (pc := 7) B d_Book_read_0_7 rfl 0 rfl ?_
      refine mv_if_lt (pc := 8) (tgt := 44) B d_Book_read_0_8 rfl (fun h8 => ?_) (fun h8 => ?_)
      · skip
        refine mv_aload_n (pc := 44) B d_Book_read_0_44 rfl 1 rfl ?_
        refine mv_getR (pc := 45) (ci := 12) (C := R_Book) (T := F_Book) (N := 65) B 15 rfl rfl (by decide) i_Book (B.2.2.2.1 _ k_1858) rfl (hS.1 _ 15 _ rfl) d_Book_read_0_45 ?_
        refine mv_iload_n (pc := 48) B d_Book_read_0_48 rfl 2 rfl ?_
        refine mv_zald (pc := 49) B rfl (i32_in hK.1 (show t9.toInt < 4100 by omega)) d_Book_read_0_49 ?_
        refine mv_if_eq (pc := 50) (tgt := 69) B d_Book_read_0_50 rfl (fun h50 => ?_) (fun h50 => ?_)
        · skip
          refine mv_aload_n (pc := 69) B d_Book_read_0_69 rfl 1 rfl ?_
          refine mv_getR (pc := 70) (ci := 12) (C := R_Book) (T := F_Book) (N := 65) B 55 rfl rfl (by decide) i_Book (B.2.2.2.1 _ k_1904) rfl (hS.1 _ 55 _ rfl) d_Book_read_0_70 ?_
          refine mv_iload_n (pc := 73) B d_Book_read_0_73 rfl 2 rfl ?_
          refine mv_lald (pc := 74) B rfl (i32_in hK.1 (show t9.toInt < 4100 by omega)) d_Book_read_0_74 ?_
          exact mv_lret (pc := 75) B hr d_Book_read_0_75 (Nat.le_refl _) (Nat.le_refl _) ⟨_, rfl, rfl⟩
        · skip
          have hin : 0 ≤ (mv_a σ 113 t9.toNatClampNeg).toInt + i9.toInt ∧ (mv_a σ 113 t9.toNatClampNeg).toInt + i9.toInt < 65536 ∧ 0 ≤ (mv_a σ 113 t9.toNatClampNeg).toInt := hK.in hS h50
          refine mv_aload_n (pc := 53) B d_Book_read_0_53 rfl 1 rfl ?_
          refine mv_getR (pc := 54) (ci := 12) (C := R_Book) (T := F_Book) (N := 65) B 56 rfl rfl (by decide) i_Book (B.2.2.2.1 _ k_1905) rfl (hS.1 _ 56 _ rfl) d_Book_read_0_54 ?_
          refine mv_aload_n (pc := 57) B d_Book_read_0_57 rfl 1 rfl ?_
          refine mv_getR (pc := 58) (ci := 12) (C := R_Book) (T := F_Book) (N := 65) B 14 rfl rfl (by decide) i_Book (B.2.2.2.1 _ k_1857) rfl (hS.1 _ 14 _ rfl) d_Book_read_0_58 ?_
          refine mv_iload_n (pc := 61) B d_Book_read_0_61 rfl 2 rfl ?_
          refine mv_iald (pc := 62) B rfl (i32_in hK.1 (show t9.toInt < 4100 by omega)) d_Book_read_0_62 ?_
          refine mv_iload_n (pc := 63) B d_Book_read_0_63 rfl 3 rfl ?_
          refine mv_iadd (pc := 64) B d_Book_read_0_64 ?_
          refine mv_topi (fun y64 ey64 => ?_)
          have fy64 := i32_addE ey64 (by (try simp only [Int32.reduceToInt]); omega) (by (try simp only [Int32.reduceToInt]); omega)
          try simp only [Int32.reduceToInt] at fy64
          refine mv_lald (pc := 65) B rfl (i32_in (show 0 ≤ y64.toInt by omega) (show y64.toInt < 65536 by omega)) d_Book_read_0_65 ?_
          refine mv_goto (pc := 66) (tgt := 75) B d_Book_read_0_66 rfl ?_
          exact mv_lret (pc := 75) B hr d_Book_read_0_75 (Nat.le_refl _) (Nat.le_refl _) ⟨_, rfl, rfl⟩
      · skip
        have hk0 : ¬ k9.toInt < 0 := fun z => h8 (Int32.lt_iff_toInt_lt.mpr z)
        have w2 : (k9 + -1).toInt = k9.toInt - 1 := by rw [i32_add (x := k9) (y := -1) (by show -2147483648 ≤ k9.toInt + -1; omega) (by show k9.toInt + -1 < 2147483648; omega)]; show k9.toInt + -1 = _; omega
        refine mv_aload_n (pc := 11) B d_Book_read_0_11 rfl 1 rfl ?_
        refine mv_getR (pc := 12) (ci := 12) (C := R_Book) (T := F_Book) (N := 65) B 57 rfl rfl (by decide) i_Book (B.2.2.2.1 _ k_1906) rfl (hS.1 _ 57 _ rfl) d_Book_read_0_12 ?_
        refine mv_iload_n (pc := 15) B d_Book_read_0_15 rfl 0 rfl ?_
        refine mv_iald (pc := 16) B rfl (i32_in (show 0 ≤ k9.toInt by omega) (show k9.toInt < 12000 by omega)) d_Book_read_0_16 ?_
        refine mv_iload_n (pc := 17) B d_Book_read_0_17 rfl 2 rfl ?_
        refine mv_icmp_ne (pc := 18) (tgt := 38) B d_Book_read_0_18 rfl (fun h18 => ?_) (fun h18 => ?_)
        · skip
          refine mv_iinc (pc := 38) (j := 0) (v := -1) B d_Book_read_0_38 rfl (by decide) (by decide) rfl ?_
          refine mv_goto (pc := 41) (tgt := 7) B d_Book_read_0_41 rfl ?_
          refine mv_lpick [0, 1, 2, 3] rfl ?_
          exact ih _ (by omega) (by omega) (by omega)
        · skip
          refine mv_aload_n (pc := 21) B d_Book_read_0_21 rfl 1 rfl ?_
          refine mv_getR (pc := 22) (ci := 12) (C := R_Book) (T := F_Book) (N := 65) B 58 rfl rfl (by decide) i_Book (B.2.2.2.1 _ k_1907) rfl (hS.1 _ 58 _ rfl) d_Book_read_0_22 ?_
          refine mv_iload_n (pc := 25) B d_Book_read_0_25 rfl 0 rfl ?_
          refine mv_iald (pc := 26) B rfl (i32_in (show 0 ≤ k9.toInt by omega) (show k9.toInt < 12000 by omega)) d_Book_read_0_26 ?_
          refine mv_iload_n (pc := 27) B d_Book_read_0_27 rfl 3 rfl ?_
          refine mv_icmp_ne (pc := 28) (tgt := 38) B d_Book_read_0_28 rfl (fun h28 => ?_) (fun h28 => ?_)
          · skip
            refine mv_iinc (pc := 38) (j := 0) (v := -1) B d_Book_read_0_38 rfl (by decide) (by decide) rfl ?_
            refine mv_goto (pc := 41) (tgt := 7) B d_Book_read_0_41 rfl ?_
            refine mv_lpick [0, 1, 2, 3] rfl ?_
            exact ih _ (by omega) (by omega) (by omega)
          · skip
            refine mv_aload_n (pc := 31) B d_Book_read_0_31 rfl 1 rfl ?_
            refine mv_getR (pc := 32) (ci := 12) (C := R_Book) (T := F_Book) (N := 65) B 60 rfl rfl (by decide) i_Book (B.2.2.2.1 _ k_1909) rfl (hS.1 _ 60 _ rfl) d_Book_read_0_32 ?_
            refine mv_iload_n (pc := 35) B d_Book_read_0_35 rfl 0 rfl ?_
            refine mv_lald (pc := 36) B rfl (i32_in (show 0 ≤ k9.toInt by omega) (show k9.toInt < 12000 by omega)) d_Book_read_0_36 ?_
            exact mv_lret (pc := 37) B hr d_Book_read_0_37 (Nat.le_refl _) (Nat.le_refl _) ⟨_, rfl, rfl⟩
  refine mv_aload_n (pc := 0) B d_Book_read_0_0 rfl 0 rfl ?_
  refine mv_getI (pc := 1) (ci := 12) (C := R_Book) (T := F_Book) (N := 65) B 61 rfl rfl (by decide) i_Book (B.2.2.2.1 _ k_1910) rfl d_Book_read_0_1 ?_
  refine mv_iconst (pc := 4) (v := 1) B d_Book_read_0_4 (by decide) ?_
  refine mv_isub (pc := 5) B d_Book_read_0_5 ?_
  refine mv_topi (fun y5 ey5 => ?_)
  have fy5 := i32_subE ey5 (by (try simp only [Int32.reduceToInt]); omega) (by (try simp only [Int32.reduceToInt]); omega)
  try simp only [Int32.reduceToInt] at fy5
  refine mv_istore_n (pc := 6) B d_Book_read_0_6 rfl (by decide) rfl ?_
  refine mv_lpick [0, 1, 2, 3] rfl ?_
  exact lp _ _ (by omega) (by omega) (Nat.lt_succ_self _)
/-- what write changes -/
def WF (B : Nat) : mv_H → mv_H → Prop := Fx (fun o k => o = B ∧ k = 61) (fun _ _ => False) (fun o _ => o = B + 29 ∨ o = B + 30) (fun o => o = B + 32)
theorem WF.df {B : Nat} {σ τ : mv_H} (h : WF B σ τ) : DF B σ τ := h.up (fun o k z => by omega) (fun o k z => z) (fun o k z => by omega) (fun o z => by omega)
theorem DY.write {B th w : Nat} {σ T : mv_H} {t i : Int32} {v : Int64} (h : DY B th w σ) (hw : w < 12000) (hK : WK B th σ t i) (e : T = mv_si (mv_sb (mv_sa (mv_sa σ (B + 29) (mv_i σ B 61).toNatClampNeg t) (B + 30) (mv_i σ B 61).toNatClampNeg i) (B + 32) (mv_i σ B 61).toNatClampNeg v) B 61 (mv_i σ B 61 + 1)) : DY B th (w + 1) T ∧ WF B σ T := by
  subst e
  obtain ⟨h1, h2⟩ := h
  have hc : (mv_i σ B 61).toNatClampNeg = w := by have := i32_cl (x := mv_i σ B 61) (by omega); omega
  have ea : ∀ o j, ¬ ((o = B + 29 ∨ o = B + 30) ∧ j = w) → mv_a (mv_si (mv_sb (mv_sa (mv_sa σ (B + 29) (mv_i σ B 61).toNatClampNeg t) (B + 30) (mv_i σ B 61).toNatClampNeg i) (B + 32) (mv_i σ B 61).toNatClampNeg v) B 61 (mv_i σ B 61 + 1)) o j = mv_a σ o j := fun o j q => by
    show mv_u (mv_u _ _ _ _) _ _ _ o j = _
    rw [mv_u_ne _ _ (by omega), mv_u_ne _ _ (by omega)]
  refine ⟨⟨?_, fun j hj => ?_⟩, Fx.si (Fx.sb (Fx.sa (Fx.sa Fx.rf ?_) ?_) ?_) ?_⟩
  · rw [mv_si_s, i32_inc (by omega)]
    omega
  · have e4 : ∀ j, mv_a (mv_si (mv_sb (mv_sa (mv_sa σ (B + 29) (mv_i σ B 61).toNatClampNeg t) (B + 30) (mv_i σ B 61).toNatClampNeg i) (B + 32) (mv_i σ B 61).toNatClampNeg v) B 61 (mv_i σ B 61 + 1)) (B + 4) j = mv_a σ (B + 4) j := fun j => ea _ _ (by omega)
    by_cases z : j = w
    · subst z
      have x1 : mv_a (mv_si (mv_sb (mv_sa (mv_sa σ (B + 29) (mv_i σ B 61).toNatClampNeg t) (B + 30) (mv_i σ B 61).toNatClampNeg i) (B + 32) (mv_i σ B 61).toNatClampNeg v) B 61 (mv_i σ B 61 + 1)) (B + 29) j = t := by
        show mv_u (mv_u _ _ _ _) _ _ _ _ _ = _
        rw [mv_u_ne _ _ (by omega), hc, mv_u_same]
      have x2 : mv_a (mv_si (mv_sb (mv_sa (mv_sa σ (B + 29) (mv_i σ B 61).toNatClampNeg t) (B + 30) (mv_i σ B 61).toNatClampNeg i) (B + 32) (mv_i σ B 61).toNatClampNeg v) B 61 (mv_i σ B 61 + 1)) (B + 30) j = i := by
        show mv_u (mv_u _ _ _ _) _ _ _ _ _ = _
        rw [hc, mv_u_same]
      rw [x1, x2]
      exact hK.fr e4
    · rw [ea _ _ (by omega), ea _ _ (by omega)]
      exact (h2 j (by omega)).fr e4
  · exact Or.inl rfl
  · exact Or.inr rfl
  · exact rfl
  · exact ⟨rfl, rfl⟩
def y_Book_write : MethodName := ⟨"MachineLoomModel$Book", "write", "(IIJ)V"⟩
abbrev b_Book_write : ByteArray := prog_15_method_59_code
theorem kc_Book_write : Cond.code y_Book_write b_Book_write 5 (Option.none : Option Jvm.ClassFile.FieldType) ∈ ma := ma_of (tb_11 _ (List.mem_of_getElem? (i := 145) rfl)) rfl
theorem d_Book_write_0 : decode b_Book_write 0 = .ok (.aload_n 0, 1) := by decide +kernel
theorem d_Book_write_1 : decode b_Book_write 1 = .ok (.getfield 36, 3) := by decide +kernel
theorem d_Book_write_4 : decode b_Book_write 4 = .ok (.iload_n 1, 1) := by decide +kernel
theorem d_Book_write_5 : decode b_Book_write 5 = .ok (.baload, 1) := by decide +kernel
theorem d_Book_write_6 : decode b_Book_write 6 = .ok (.ifCond .eq (8), 3) := by decide +kernel
theorem d_Book_write_9 : decode b_Book_write 9 = .ok (.iload_n 2, 1) := by decide +kernel
theorem d_Book_write_10 : decode b_Book_write 10 = .ok (.ifCond .ne (4), 3) := by decide +kernel
theorem d_Book_write_13 : decode b_Book_write 13 = .ok (.return_, 1) := by decide +kernel
theorem d_Book_write_14 : decode b_Book_write 14 = .ok (.aload_n 0, 1) := by decide +kernel
theorem d_Book_write_15 : decode b_Book_write 15 = .ok (.getfield 117, 3) := by decide +kernel
theorem d_Book_write_18 : decode b_Book_write 18 = .ok (.aload_n 0, 1) := by decide +kernel
theorem d_Book_write_19 : decode b_Book_write 19 = .ok (.getfield 441, 3) := by decide +kernel
theorem d_Book_write_22 : decode b_Book_write 22 = .ok (.iload_n 1, 1) := by decide +kernel
theorem d_Book_write_23 : decode b_Book_write 23 = .ok (.iastore, 1) := by decide +kernel
theorem d_Book_write_24 : decode b_Book_write 24 = .ok (.aload_n 0, 1) := by decide +kernel
theorem d_Book_write_25 : decode b_Book_write 25 = .ok (.getfield 120, 3) := by decide +kernel
theorem d_Book_write_28 : decode b_Book_write 28 = .ok (.aload_n 0, 1) := by decide +kernel
theorem d_Book_write_29 : decode b_Book_write 29 = .ok (.getfield 441, 3) := by decide +kernel
theorem d_Book_write_32 : decode b_Book_write 32 = .ok (.iload_n 2, 1) := by decide +kernel
theorem d_Book_write_33 : decode b_Book_write 33 = .ok (.iastore, 1) := by decide +kernel
theorem d_Book_write_34 : decode b_Book_write 34 = .ok (.aload_n 0, 1) := by decide +kernel
theorem d_Book_write_35 : decode b_Book_write 35 = .ok (.getfield 126, 3) := by decide +kernel
theorem d_Book_write_38 : decode b_Book_write 38 = .ok (.aload_n 0, 1) := by decide +kernel
theorem d_Book_write_39 : decode b_Book_write 39 = .ok (.getfield 441, 3) := by decide +kernel
theorem d_Book_write_42 : decode b_Book_write 42 = .ok (.lload_n 3, 1) := by decide +kernel
theorem d_Book_write_43 : decode b_Book_write 43 = .ok (.aload_n 0, 1) := by decide +kernel
theorem d_Book_write_44 : decode b_Book_write 44 = .ok (.getfield 23, 3) := by decide +kernel
theorem d_Book_write_47 : decode b_Book_write 47 = .ok (.iload_n 1, 1) := by decide +kernel
theorem d_Book_write_48 : decode b_Book_write 48 = .ok (.iaload, 1) := by decide +kernel
theorem d_Book_write_49 : decode b_Book_write 49 = .ok (.invokestatic 444, 3) := by decide +kernel
theorem d_Book_write_52 : decode b_Book_write 52 = .ok (.lastore, 1) := by decide +kernel
theorem d_Book_write_53 : decode b_Book_write 53 = .ok (.aload_n 0, 1) := by decide +kernel
theorem d_Book_write_54 : decode b_Book_write 54 = .ok (.dup, 1) := by decide +kernel
theorem d_Book_write_55 : decode b_Book_write 55 = .ok (.getfield 441, 3) := by decide +kernel
theorem d_Book_write_58 : decode b_Book_write 58 = .ok (.iconst 1, 1) := by decide +kernel
theorem d_Book_write_59 : decode b_Book_write 59 = .ok (.iadd, 1) := by decide +kernel
theorem d_Book_write_60 : decode b_Book_write 60 = .ok (.putfield 441, 3) := by decide +kernel
theorem d_Book_write_63 : decode b_Book_write 63 = .ok (.return_, 1) := by decide +kernel
set_option maxHeartbeats 4000000 in
set_option maxRecDepth 100000 in
theorem c_Book_write_x (l : Launch) {dA : FieldType → ClassId} {D : va_G} {al : Nat → Nat} {ext : mv_Sh} {sk sv : Nat → Nat} (hi : mv_inj (mg dA D al ext)) (σ : mv_H) (t9 i9 : Int32) (v9 : Int64) (th n k w : Nat) (g : Gh) (hS : ST 74 th n k g σ) (hD : DY 74 th w σ) (hw : w < 12000) (hK : WK 74 th σ t9 i9) : mv_C l y_Book_write (Cond.code y_Book_write b_Book_write 5 (Option.none : Option Jvm.ClassFile.FieldType) :: ma) ({ frames := 1, cells := 0, slots := 0, locals := 22 }) (mg dA D al ext) (mK sk sv) [.ref (al 74), .int t9, .int i9, .long v9] σ (mv_Rv (fun σ1 => ∃ w1, DY 74 th w1 σ1 ∧ w ≤ w1 ∧ w1 ≤ w + 1 ∧ WF 74 σ σ1)) := by
  refine mv_C.ofV (cc := b_Book_write) (nL := 5) (ret := (Option.none : Option Jvm.ClassFile.FieldType)) (by decide +kernel) rfl hi (Nat.le_of_ble_eq_true rfl) ?_
  intro p e s m below meth c B hNs hr hnm hno
  have hD1 := hD.1
  have hK2 := hK.2.1
  have hth := hS.2.2.2.2.1
  refine mv_aload_n (pc := 0) B d_Book_write_0 rfl 0 rfl ?_
  refine mv_getR (pc := 1) (ci := 12) (C := R_Book) (T := F_Book) (N := 65) B 16 rfl rfl (by decide) i_Book (B.2.2.2.1 _ k_1859) rfl (hS.1 _ 16 _ rfl) d_Book_write_1 ?_
  refine mv_iload_n (pc := 4) B d_Book_write_4 rfl 1 rfl ?_
  refine mv_zald (pc := 5) B rfl (i32_in hK.1 (show t9.toInt < 4100 by omega)) d_Book_write_5 ?_
  refine mv_if_eq (pc := 6) (tgt := 14) B d_Book_write_6 rfl (fun h6 => ?_) (fun h6 => ?_)
  · skip
    refine mv_aload_n (pc := 14) B d_Book_write_14 rfl 0 rfl ?_
    refine mv_getR (pc := 15) (ci := 12) (C := R_Book) (T := F_Book) (N := 65) B 57 rfl rfl (by decide) i_Book (B.2.2.2.1 _ k_1906) rfl (hS.1 _ 57 _ rfl) d_Book_write_15 ?_
    refine mv_aload_n (pc := 18) B d_Book_write_18 rfl 0 rfl ?_
    refine mv_getI (pc := 19) (ci := 12) (C := R_Book) (T := F_Book) (N := 65) B 61 rfl rfl (by decide) i_Book (B.2.2.2.1 _ k_1910) rfl d_Book_write_19 ?_
    refine mv_iload_n (pc := 22) B d_Book_write_22 rfl 1 rfl ?_
    refine mv_iast (pc := 23) B rfl (i32_in (x := mv_i σ 74 61) (by omega) (by omega)) d_Book_write_23 ?_
    refine mv_aload_n (pc := 24) B d_Book_write_24 rfl 0 rfl ?_
    refine mv_getR (pc := 25) (ci := 12) (C := R_Book) (T := F_Book) (N := 65) B 58 rfl rfl (by decide) i_Book (B.2.2.2.1 _ k_1907) rfl (hS.1 _ 58 _ rfl) d_Book_write_25 ?_
    refine mv_aload_n (pc := 28) B d_Book_write_28 rfl 0 rfl ?_
    refine mv_getI (pc := 29) (ci := 12) (C := R_Book) (T := F_Book) (N := 65) B 61 rfl rfl (by decide) i_Book (B.2.2.2.1 _ k_1910) rfl d_Book_write_29 ?_
    refine mv_iload_n (pc := 32) B d_Book_write_32 rfl 2 rfl ?_
    refine mv_iast (pc := 33) B rfl (i32_in (x := mv_i σ 74 61) (by omega) (by omega)) d_Book_write_33 ?_
    refine mv_aload_n (pc := 34) B d_Book_write_34 rfl 0 rfl ?_
    refine mv_getR (pc := 35) (ci := 12) (C := R_Book) (T := F_Book) (N := 65) B 60 rfl rfl (by decide) i_Book (B.2.2.2.1 _ k_1909) rfl (hS.1 _ 60 _ rfl) d_Book_write_35 ?_
    refine mv_aload_n (pc := 38) B d_Book_write_38 rfl 0 rfl ?_
    refine mv_getI (pc := 39) (ci := 12) (C := R_Book) (T := F_Book) (N := 65) B 61 rfl rfl (by decide) i_Book (B.2.2.2.1 _ k_1910) rfl d_Book_write_39 ?_
    refine mv_lload_n (pc := 42) B d_Book_write_42 rfl 3 rfl ?_
    refine mv_aload_n (pc := 43) B d_Book_write_43 rfl 0 rfl ?_
    refine mv_getR (pc := 44) (ci := 12) (C := R_Book) (T := F_Book) (N := 65) B 12 rfl rfl (by decide) i_Book (B.2.2.2.1 _ k_1855) rfl (hS.1 _ 12 _ rfl) d_Book_write_44 ?_
    refine mv_iload_n (pc := 47) B d_Book_write_47 rfl 1 rfl ?_
    refine mv_iald (pc := 48) B rfl (i32_in hK.1 (show t9.toInt < 4100 by omega)) d_Book_write_48 ?_
    refine mv_callSl (pc := 49) (n := 2) B (mK_ok sk sv) hNs (c_Book_cut l hi _ _ _) rfl (ma_goodc kc_Book_cut) (B.2.2.2.1 _ k_2427) (B.2.2.2.1 _ k_2428) (B.2.2.2.1 _ k_13) ⟨by decide +kernel, by decide +kernel, by decide +kernel⟩ rfl d_Book_write_49 rfl (Nat.le_of_ble_eq_true rfl) ⟨by decide, by decide⟩ ⟨by decide, by decide⟩ ⟨by decide, by decide⟩ (mv_noH hno _) (fun v49 σ49 h49 => ?_)
    have e49 := h49.symm
    subst e49
    refine mv_last (pc := 52) B rfl (i32_in (x := mv_i σ 74 61) (by omega) (by omega)) d_Book_write_52 ?_
    refine mv_aload_n (pc := 53) B d_Book_write_53 rfl 0 rfl ?_
    refine mv_dup (pc := 54) B d_Book_write_54 rfl ?_
    refine mv_getI (pc := 55) (ci := 12) (C := R_Book) (T := F_Book) (N := 65) B 61 rfl rfl (by decide) i_Book (B.2.2.2.1 _ k_1910) rfl d_Book_write_55 ?_
    refine mv_iconst (pc := 58) (v := 1) B d_Book_write_58 (by decide) ?_
    refine mv_iadd (pc := 59) B d_Book_write_59 ?_
    refine mv_putI (pc := 60) (ci := 12) (C := R_Book) (T := F_Book) (N := 65) B 61 rfl rfl (by decide) i_Book t_Book_ok n_Book (B.2.2.2.1 _ k_1910) rfl rfl rfl rfl d_Book_write_60 ?_
    exact mv_vret (pc := 63) B hr d_Book_write_63 (Nat.le_refl _) (Nat.le_refl _) ⟨rfl, w + 1, (hD.write hw hK rfl).1, by omega, Nat.le_refl _, (hD.write hw hK rfl).2⟩
  · skip
    refine mv_iload_n (pc := 9) B d_Book_write_9 rfl 2 rfl ?_
    refine mv_if_ne (pc := 10) (tgt := 14) B d_Book_write_10 rfl (fun h10 => ?_) (fun h10 => ?_)
    · skip
      refine mv_aload_n (pc := 14) B d_Book_write_14 rfl 0 rfl ?_
      refine mv_getR (pc := 15) (ci := 12) (C := R_Book) (T := F_Book) (N := 65) B 57 rfl rfl (by decide) i_Book (B.2.2.2.1 _ k_1906) rfl (hS.1 _ 57 _ rfl) d_Book_write_15 ?_
      refine mv_aload_n (pc := 18) B d_Book_write_18 rfl 0 rfl ?_
      refine mv_getI (pc := 19) (ci := 12) (C := R_Book) (T := F_Book) (N := 65) B 61 rfl rfl (by decide) i_Book (B.2.2.2.1 _ k_1910) rfl d_Book_write_19 ?_
      refine mv_iload_n (pc := 22) B d_Book_write_22 rfl 1 rfl ?_
      refine mv_iast (pc := 23) B rfl (i32_in (x := mv_i σ 74 61) (by omega) (by omega)) d_Book_write_23 ?_
      refine mv_aload_n (pc := 24) B d_Book_write_24 rfl 0 rfl ?_
      refine mv_getR (pc := 25) (ci := 12) (C := R_Book) (T := F_Book) (N := 65) B 58 rfl rfl (by decide) i_Book (B.2.2.2.1 _ k_1907) rfl (hS.1 _ 58 _ rfl) d_Book_write_25 ?_
      refine mv_aload_n (pc := 28) B d_Book_write_28 rfl 0 rfl ?_
      refine mv_getI (pc := 29) (ci := 12) (C := R_Book) (T := F_Book) (N := 65) B 61 rfl rfl (by decide) i_Book (B.2.2.2.1 _ k_1910) rfl d_Book_write_29 ?_
      refine mv_iload_n (pc := 32) B d_Book_write_32 rfl 2 rfl ?_
      refine mv_iast (pc := 33) B rfl (i32_in (x := mv_i σ 74 61) (by omega) (by omega)) d_Book_write_33 ?_
      refine mv_aload_n (pc := 34) B d_Book_write_34 rfl 0 rfl ?_
      refine mv_getR (pc := 35) (ci := 12) (C := R_Book) (T := F_Book) (N := 65) B 60 rfl rfl (by decide) i_Book (B.2.2.2.1 _ k_1909) rfl (hS.1 _ 60 _ rfl) d_Book_write_35 ?_
      refine mv_aload_n (pc := 38) B d_Book_write_38 rfl 0 rfl ?_
      refine mv_getI (pc := 39) (ci := 12) (C := R_Book) (T := F_Book) (N := 65) B 61 rfl rfl (by decide) i_Book (B.2.2.2.1 _ k_1910) rfl d_Book_write_39 ?_
      refine mv_lload_n (pc := 42) B d_Book_write_42 rfl 3 rfl ?_
      refine mv_aload_n (pc := 43) B d_Book_write_43 rfl 0 rfl ?_
      refine mv_getR (pc := 44) (ci := 12) (C := R_Book) (T := F_Book) (N := 65) B 12 rfl rfl (by decide) i_Book (B.2.2.2.1 _ k_1855) rfl (hS.1 _ 12 _ rfl) d_Book_write_44 ?_
      refine mv_iload_n (pc := 47) B d_Book_write_47 rfl 1 rfl ?_
      refine mv_iald (pc := 48) B rfl (i32_in hK.1 (show t9.toInt < 4100 by omega)) d_Book_write_48 ?_
      refine mv_callSl (pc := 49) (n := 2) B (mK_ok sk sv) hNs (c_Book_cut l hi _ _ _) rfl (ma_goodc kc_Book_cut) (B.2.2.2.1 _ k_2427) (B.2.2.2.1 _ k_2428) (B.2.2.2.1 _ k_13) ⟨by decide +kernel, by decide +kernel, by decide +kernel⟩ rfl d_Book_write_49 rfl (Nat.le_of_ble_eq_true rfl) ⟨by decide, by decide⟩ ⟨by decide, by decide⟩ ⟨by decide, by decide⟩ (mv_noH hno _) (fun v49 σ49 h49 => ?_)
      have e49 := h49.symm
      subst e49
      refine mv_last (pc := 52) B rfl (i32_in (x := mv_i σ 74 61) (by omega) (by omega)) d_Book_write_52 ?_
      refine mv_aload_n (pc := 53) B d_Book_write_53 rfl 0 rfl ?_
      refine mv_dup (pc := 54) B d_Book_write_54 rfl ?_
      refine mv_getI (pc := 55) (ci := 12) (C := R_Book) (T := F_Book) (N := 65) B 61 rfl rfl (by decide) i_Book (B.2.2.2.1 _ k_1910) rfl d_Book_write_55 ?_
      refine mv_iconst (pc := 58) (v := 1) B d_Book_write_58 (by decide) ?_
      refine mv_iadd (pc := 59) B d_Book_write_59 ?_
      refine mv_putI (pc := 60) (ci := 12) (C := R_Book) (T := F_Book) (N := 65) B 61 rfl rfl (by decide) i_Book t_Book_ok n_Book (B.2.2.2.1 _ k_1910) rfl rfl rfl rfl d_Book_write_60 ?_
      exact mv_vret (pc := 63) B hr d_Book_write_63 (Nat.le_refl _) (Nat.le_refl _) ⟨rfl, w + 1, (hD.write hw hK rfl).1, by omega, Nat.le_refl _, (hD.write hw hK rfl).2⟩
    · skip
      exact mv_vret (pc := 13) B hr d_Book_write_13 (Nat.le_refl _) (Nat.le_refl _) ⟨rfl, w, hD, Nat.le_refl _, by omega, Fx.rf⟩
set_option maxHeartbeats 4000000 in
set_option maxRecDepth 100000 in
theorem c_Book_write_y (l : Launch) {dA : FieldType → ClassId} {D : va_G} {al : Nat → Nat} {ext : mv_Sh} {sk sv : Nat → Nat} (hi : mv_inj (mg dA D al ext)) (σ : mv_H) (t9 i9 : Int32) (v9 : Int64) (th n k w : Nat) (g : Gh) (hS : ST 108 th n k g σ) (hD : DY 108 th w σ) (hw : w < 12000) (hK : WK 108 th σ t9 i9) : mv_C l y_Book_write (Cond.code y_Book_write b_Book_write 5 (Option.none : Option Jvm.ClassFile.FieldType) :: ma) ({ frames := 1, cells := 0, slots := 0, locals := 22 }) (mg dA D al ext) (mK sk sv) [.ref (al 108), .int t9, .int i9, .long v9] σ (mv_Rv (fun σ1 => ∃ w1, DY 108 th w1 σ1 ∧ w ≤ w1 ∧ w1 ≤ w + 1 ∧ WF 108 σ σ1)) := by
  refine mv_C.ofV (cc := b_Book_write) (nL := 5) (ret := (Option.none : Option Jvm.ClassFile.FieldType)) (by decide +kernel) rfl hi (Nat.le_of_ble_eq_true rfl) ?_
  intro p e s m below meth c B hNs hr hnm hno
  have hD1 := hD.1
  have hK2 := hK.2.1
  have hth := hS.2.2.2.2.1
  refine mv_aload_n (pc := 0) B d_Book_write_0 rfl 0 rfl ?_
  refine mv_getR (pc := 1) (ci := 12) (C := R_Book) (T := F_Book) (N := 65) B 16 rfl rfl (by decide) i_Book (B.2.2.2.1 _ k_1859) rfl (hS.1 _ 16 _ rfl) d_Book_write_1 ?_
  refine mv_iload_n (pc := 4) B d_Book_write_4 rfl 1 rfl ?_
  refine mv_zald (pc := 5) B rfl (i32_in hK.1 (show t9.toInt < 4100 by omega)) d_Book_write_5 ?_
  refine mv_if_eq (pc := 6) (tgt := 14) B d_Book_write_6 rfl (fun h6 => ?_) (fun h6 => ?_)
  · skip
    refine mv_aload_n (pc := 14) B d_Book_write_14 rfl 0 rfl ?_
    refine mv_getR (pc := 15) (ci := 12) (C := R_Book) (T := F_Book) (N := 65) B 57 rfl rfl (by decide) i_Book (B.2.2.2.1 _ k_1906) rfl (hS.1 _ 57 _ rfl) d_Book_write_15 ?_
    refine mv_aload_n (pc := 18) B d_Book_write_18 rfl 0 rfl ?_
    refine mv_getI (pc := 19) (ci := 12) (C := R_Book) (T := F_Book) (N := 65) B 61 rfl rfl (by decide) i_Book (B.2.2.2.1 _ k_1910) rfl d_Book_write_19 ?_
    refine mv_iload_n (pc := 22) B d_Book_write_22 rfl 1 rfl ?_
    refine mv_iast (pc := 23) B rfl (i32_in (x := mv_i σ 108 61) (by omega) (by omega)) d_Book_write_23 ?_
    refine mv_aload_n (pc := 24) B d_Book_write_24 rfl 0 rfl ?_
    refine mv_getR (pc := 25) (ci := 12) (C := R_Book) (T := F_Book) (N := 65) B 58 rfl rfl (by decide) i_Book (B.2.2.2.1 _ k_1907) rfl (hS.1 _ 58 _ rfl) d_Book_write_25 ?_
    refine mv_aload_n (pc := 28) B d_Book_write_28 rfl 0 rfl ?_
    refine mv_getI (pc := 29) (ci := 12) (C := R_Book) (T := F_Book) (N := 65) B 61 rfl rfl (by decide) i_Book (B.2.2.2.1 _ k_1910) rfl d_Book_write_29 ?_
    refine mv_iload_n (pc := 32) B d_Book_write_32 rfl 2 rfl ?_
    refine mv_iast (pc := 33) B rfl (i32_in (x := mv_i σ 108 61) (by omega) (by omega)) d_Book_write_33 ?_
    refine mv_aload_n (pc := 34) B d_Book_write_34 rfl 0 rfl ?_
    refine mv_getR (pc := 35) (ci := 12) (C := R_Book) (T := F_Book) (N := 65) B 60 rfl rfl (by decide) i_Book (B.2.2.2.1 _ k_1909) rfl (hS.1 _ 60 _ rfl) d_Book_write_35 ?_
    refine mv_aload_n (pc := 38) B d_Book_write_38 rfl 0 rfl ?_
    refine mv_getI (pc := 39) (ci := 12) (C := R_Book) (T := F_Book) (N := 65) B 61 rfl rfl (by decide) i_Book (B.2.2.2.1 _ k_1910) rfl d_Book_write_39 ?_
    refine mv_lload_n (pc := 42) B d_Book_write_42 rfl 3 rfl ?_
    refine mv_aload_n (pc := 43) B d_Book_write_43 rfl 0 rfl ?_
    refine mv_getR (pc := 44) (ci := 12) (C := R_Book) (T := F_Book) (N := 65) B 12 rfl rfl (by decide) i_Book (B.2.2.2.1 _ k_1855) rfl (hS.1 _ 12 _ rfl) d_Book_write_44 ?_
    refine mv_iload_n (pc := 47) B d_Book_write_47 rfl 1 rfl ?_
    refine mv_iald (pc := 48) B rfl (i32_in hK.1 (show t9.toInt < 4100 by omega)) d_Book_write_48 ?_
    refine mv_callSl (pc := 49) (n := 2) B (mK_ok sk sv) hNs (c_Book_cut l hi _ _ _) rfl (ma_goodc kc_Book_cut) (B.2.2.2.1 _ k_2427) (B.2.2.2.1 _ k_2428) (B.2.2.2.1 _ k_13) ⟨by decide +kernel, by decide +kernel, by decide +kernel⟩ rfl d_Book_write_49 rfl (Nat.le_of_ble_eq_true rfl) ⟨by decide, by decide⟩ ⟨by decide, by decide⟩ ⟨by decide, by decide⟩ (mv_noH hno _) (fun v49 σ49 h49 => ?_)
    have e49 := h49.symm
    subst e49
    refine mv_last (pc := 52) B rfl (i32_in (x := mv_i σ 108 61) (by omega) (by omega)) d_Book_write_52 ?_
    refine mv_aload_n (pc := 53) B d_Book_write_53 rfl 0 rfl ?_
    refine mv_dup (pc := 54) B d_Book_write_54 rfl ?_
    refine mv_getI (pc := 55) (ci := 12) (C := R_Book) (T := F_Book) (N := 65) B 61 rfl rfl (by decide) i_Book (B.2.2.2.1 _ k_1910) rfl d_Book_write_55 ?_
    refine mv_iconst (pc := 58) (v := 1) B d_Book_write_58 (by decide) ?_
    refine mv_iadd (pc := 59) B d_Book_write_59 ?_
    refine mv_putI (pc := 60) (ci := 12) (C := R_Book) (T := F_Book) (N := 65) B 61 rfl rfl (by decide) i_Book t_Book_ok n_Book (B.2.2.2.1 _ k_1910) rfl rfl rfl rfl d_Book_write_60 ?_
    exact mv_vret (pc := 63) B hr d_Book_write_63 (Nat.le_refl _) (Nat.le_refl _) ⟨rfl, w + 1, (hD.write hw hK rfl).1, by omega, Nat.le_refl _, (hD.write hw hK rfl).2⟩
  · skip
    refine mv_iload_n (pc := 9) B d_Book_write_9 rfl 2 rfl ?_
    refine mv_if_ne (pc := 10) (tgt := 14) B d_Book_write_10 rfl (fun h10 => ?_) (fun h10 => ?_)
    · skip
      refine mv_aload_n (pc := 14) B d_Book_write_14 rfl 0 rfl ?_
      refine mv_getR (pc := 15) (ci := 12) (C := R_Book) (T := F_Book) (N := 65) B 57 rfl rfl (by decide) i_Book (B.2.2.2.1 _ k_1906) rfl (hS.1 _ 57 _ rfl) d_Book_write_15 ?_
      refine mv_aload_n (pc := 18) B d_Book_write_18 rfl 0 rfl ?_
      refine mv_getI (pc := 19) (ci := 12) (C := R_Book) (T := F_Book) (N := 65) B 61 rfl rfl (by decide) i_Book (B.2.2.2.1 _ k_1910) rfl d_Book_write_19 ?_
      refine mv_iload_n (pc := 22) B d_Book_write_22 rfl 1 rfl ?_
      refine mv_iast (pc := 23) B rfl (i32_in (x := mv_i σ 108 61) (by omega) (by omega)) d_Book_write_23 ?_
      refine mv_aload_n (pc := 24) B d_Book_write_24 rfl 0 rfl ?_
      refine mv_getR (pc := 25) (ci := 12) (C := R_Book) (T := F_Book) (N := 65) B 58 rfl rfl (by decide) i_Book (B.2.2.2.1 _ k_1907) rfl (hS.1 _ 58 _ rfl) d_Book_write_25 ?_
      refine mv_aload_n (pc := 28) B d_Book_write_28 rfl 0 rfl ?_
      refine mv_getI (pc := 29) (ci := 12) (C := R_Book) (T := F_Book) (N := 65) B 61 rfl rfl (by decide) i_Book (B.2.2.2.1 _ k_1910) rfl d_Book_write_29 ?_
      refine mv_iload_n (pc := 32) B d_Book_write_32 rfl 2 rfl ?_
      refine mv_iast (pc := 33) B rfl (i32_in (x := mv_i σ 108 61) (by omega) (by omega)) d_Book_write_33 ?_
      refine mv_aload_n (pc := 34) B d_Book_write_34 rfl 0 rfl ?_
      refine mv_getR (pc := 35) (ci := 12) (C := R_Book) (T := F_Book) (N := 65) B 60 rfl rfl (by decide) i_Book (B.2.2.2.1 _ k_1909) rfl (hS.1 _ 60 _ rfl) d_Book_write_35 ?_
      refine mv_aload_n (pc := 38) B d_Book_write_38 rfl 0 rfl ?_
      refine mv_getI (pc := 39) (ci := 12) (C := R_Book) (T := F_Book) (N := 65) B 61 rfl rfl (by decide) i_Book (B.2.2.2.1 _ k_1910) rfl d_Book_write_39 ?_
      refine mv_lload_n (pc := 42) B d_Book_write_42 rfl 3 rfl ?_
      refine mv_aload_n (pc := 43) B d_Book_write_43 rfl 0 rfl ?_
      refine mv_getR (pc := 44) (ci := 12) (C := R_Book) (T := F_Book) (N := 65) B 12 rfl rfl (by decide) i_Book (B.2.2.2.1 _ k_1855) rfl (hS.1 _ 12 _ rfl) d_Book_write_44 ?_
      refine mv_iload_n (pc := 47) B d_Book_write_47 rfl 1 rfl ?_
      refine mv_iald (pc := 48) B rfl (i32_in hK.1 (show t9.toInt < 4100 by omega)) d_Book_write_48 ?_
      refine mv_callSl (pc := 49) (n := 2) B (mK_ok sk sv) hNs (c_Book_cut l hi _ _ _) rfl (ma_goodc kc_Book_cut) (B.2.2.2.1 _ k_2427) (B.2.2.2.1 _ k_2428) (B.2.2.2.1 _ k_13) ⟨by decide +kernel, by decide +kernel, by decide +kernel⟩ rfl d_Book_write_49 rfl (Nat.le_of_ble_eq_true rfl) ⟨by decide, by decide⟩ ⟨by decide, by decide⟩ ⟨by decide, by decide⟩ (mv_noH hno _) (fun v49 σ49 h49 => ?_)
      have e49 := h49.symm
      subst e49
      refine mv_last (pc := 52) B rfl (i32_in (x := mv_i σ 108 61) (by omega) (by omega)) d_Book_write_52 ?_
      refine mv_aload_n (pc := 53) B d_Book_write_53 rfl 0 rfl ?_
      refine mv_dup (pc := 54) B d_Book_write_54 rfl ?_
      refine mv_getI (pc := 55) (ci := 12) (C := R_Book) (T := F_Book) (N := 65) B 61 rfl rfl (by decide) i_Book (B.2.2.2.1 _ k_1910) rfl d_Book_write_55 ?_
      refine mv_iconst (pc := 58) (v := 1) B d_Book_write_58 (by decide) ?_
      refine mv_iadd (pc := 59) B d_Book_write_59 ?_
      refine mv_putI (pc := 60) (ci := 12) (C := R_Book) (T := F_Book) (N := 65) B 61 rfl rfl (by decide) i_Book t_Book_ok n_Book (B.2.2.2.1 _ k_1910) rfl rfl rfl rfl d_Book_write_60 ?_
      exact mv_vret (pc := 63) B hr d_Book_write_63 (Nat.le_refl _) (Nat.le_refl _) ⟨rfl, w + 1, (hD.write hw hK rfl).1, by omega, Nat.le_refl _, (hD.write hw hK rfl).2⟩
    · skip
      exact mv_vret (pc := 13) B hr d_Book_write_13 (Nat.le_refl _) (Nat.le_refl _) ⟨rfl, w, hD, Nat.le_refl _, by omega, Fx.rf⟩
theorem l2i_in {x : Int64} {c : Int32} (h1 : (0 : Int64).toInt ≤ x.toInt) (h2 : x.toInt ≤ (c - 1).toInt64.toInt) (hc : 0 ≤ c.toInt) : 0 ≤ x.toInt32.toInt ∧ x.toInt32.toInt < c.toInt := by
  have h0 : (0 : Int) ≤ x.toInt := h1
  have e1 : (c - 1).toInt = c.toInt - 1 := i32_sub (x := c) (y := 1) (by show -2147483648 ≤ c.toInt - 1; omega) (by have := i32_rng c; show c.toInt - 1 < 2147483648; omega)
  rw [lg_toInt, e1] at h2
  have := i32_rng c
  have := l2i_nn (x := x) h0 (by omega)
  omega
def y_Book_cell : MethodName := ⟨"MachineLoomModel$Book", "cell", "(IJ)J"⟩
abbrev b_Book_cell : ByteArray := prog_15_method_66_code
theorem kc_Book_cell : Cond.code y_Book_cell b_Book_cell 4 (Option.some Jvm.ClassFile.FieldType.long) ∈ ma := ma_of (tb_11 _ (List.mem_of_getElem? (i := 115) rfl)) rfl
theorem k_1902 : (Jvm.Cond.fieldLink "MachineLoomModel$Book" (502 : Nat) "MachineLoomModel$Book" "trap" "I") ∈ ma := ma_of (tb_8 _ (List.mem_of_getElem? (i := 222) rfl)) rfl
theorem k_2508 : (Jvm.Cond.methodLink "MachineLoomModel$Book" (477 : Nat) ({ cls := "MachineLoomModel$Book", name := "read", desc := "(II)J" } : Jvm.MethodName)) ∈ ma := ma_of (tb_11 _ (List.mem_of_getElem? (i := 108) rfl)) rfl
theorem k_2510 : (Jvm.Cond.instanceMethod ({ cls := "MachineLoomModel$Book", name := "read", desc := "(II)J" } : Jvm.MethodName)) ∈ ma := ma_of (tb_11 _ (List.mem_of_getElem? (i := 110) rfl)) rfl
theorem ks_133 : Cond.selects "MachineLoomModel$Book" ⟨"MachineLoomModel$Book", "read", "(II)J"⟩ ⟨"MachineLoomModel$Book", "read", "(II)J"⟩ ∈ ma := ma_sel 133 rfl rfl
theorem d_Book_cell_0 : decode b_Book_cell 0 = .ok (.lload_n 2, 1) := by decide +kernel
theorem d_Book_cell_1 : decode b_Book_cell 1 = .ok (.lconst 0, 1) := by decide +kernel
theorem d_Book_cell_2 : decode b_Book_cell 2 = .ok (.aload_n 0, 1) := by decide +kernel
theorem d_Book_cell_3 : decode b_Book_cell 3 = .ok (.getfield 26, 3) := by decide +kernel
theorem d_Book_cell_6 : decode b_Book_cell 6 = .ok (.iload_n 1, 1) := by decide +kernel
theorem d_Book_cell_7 : decode b_Book_cell 7 = .ok (.iaload, 1) := by decide +kernel
theorem d_Book_cell_8 : decode b_Book_cell 8 = .ok (.iconst 1, 1) := by decide +kernel
theorem d_Book_cell_9 : decode b_Book_cell 9 = .ok (.isub, 1) := by decide +kernel
theorem d_Book_cell_10 : decode b_Book_cell 10 = .ok (.i2l, 1) := by decide +kernel
theorem d_Book_cell_11 : decode b_Book_cell 11 = .ok (.invokestatic 296, 3) := by decide +kernel
theorem d_Book_cell_14 : decode b_Book_cell 14 = .ok (.ifCond .eq (11), 3) := by decide +kernel
theorem d_Book_cell_17 : decode b_Book_cell 17 = .ok (.aload_n 0, 1) := by decide +kernel
theorem d_Book_cell_18 : decode b_Book_cell 18 = .ok (.iload_n 1, 1) := by decide +kernel
theorem d_Book_cell_19 : decode b_Book_cell 19 = .ok (.lload_n 2, 1) := by decide +kernel
theorem d_Book_cell_20 : decode b_Book_cell 20 = .ok (.l2i, 1) := by decide +kernel
theorem d_Book_cell_21 : decode b_Book_cell 21 = .ok (.invokevirtual 477, 3) := by decide +kernel
theorem d_Book_cell_24 : decode b_Book_cell 24 = .ok (.lreturn, 1) := by decide +kernel
theorem d_Book_cell_25 : decode b_Book_cell 25 = .ok (.aload_n 0, 1) := by decide +kernel
theorem d_Book_cell_26 : decode b_Book_cell 26 = .ok (.getfield 502, 3) := by decide +kernel
theorem d_Book_cell_29 : decode b_Book_cell 29 = .ok (.ifCond .ne (9), 3) := by decide +kernel
theorem d_Book_cell_32 : decode b_Book_cell 32 = .ok (.aload_n 0, 1) := by decide +kernel
theorem d_Book_cell_33 : decode b_Book_cell 33 = .ok (.bipush (-3), 2) := by decide +kernel
theorem d_Book_cell_35 : decode b_Book_cell 35 = .ok (.putfield 502, 3) := by decide +kernel
theorem d_Book_cell_38 : decode b_Book_cell 38 = .ok (.lconst 0, 1) := by decide +kernel
theorem d_Book_cell_39 : decode b_Book_cell 39 = .ok (.lreturn, 1) := by decide +kernel
set_option maxHeartbeats 4000000 in
set_option maxRecDepth 100000 in
theorem c_Book_cell_x (l : Launch) {dA : FieldType → ClassId} {D : va_G} {al : Nat → Nat} {ext : mv_Sh} {sk sv : Nat → Nat} (hi : mv_inj (mg dA D al ext)) (σ : mv_H) (t9 : Int32) (i9 : Int64) (th n k w : Nat) (g : Gh) (hS : ST 74 th n k g σ) (hD : DY 74 th w σ) (hw : w ≤ 12000) (ht0 : 0 ≤ t9.toInt) (ht1 : t9.toInt < th) : mv_C l y_Book_cell (Cond.code y_Book_cell b_Book_cell 4 (Option.some Jvm.ClassFile.FieldType.long) :: ma) ({ frames := 1, cells := 0, slots := 0, locals := 25 }) (mg dA D al ext) (mK sk sv) [.ref (al 74), .int t9, .long i9] σ (mv_Rl (fun v σ1 => EB 74 40000 σ σ1 ∧ mv_i σ1 74 62 = mv_i σ 74 62)) := by
  refine mv_C.ofV (cc := b_Book_cell) (nL := 4) (ret := (Option.some Jvm.ClassFile.FieldType.long)) (by decide +kernel) rfl hi (Nat.le_of_ble_eq_true rfl) ?_
  intro p e s m below meth c B hNs hr hnm hno
  have hth := hS.2.2.2.2.1
  have hc9 := i32_cl ht0
  have hcell : 0 ≤ (mv_a σ 78 t9.toNatClampNeg).toInt := (hS.2.2.2.2.2.1 t9.toNatClampNeg (by omega)).2.1.1
  refine mv_lload_n (pc := 0) B d_Book_cell_0 rfl 2 rfl ?_
  refine mv_lconst (pc := 1) (v := 0) B d_Book_cell_1 (by decide) ?_
  refine mv_aload_n (pc := 2) B d_Book_cell_2 rfl 0 rfl ?_
  refine mv_getR (pc := 3) (ci := 12) (C := R_Book) (T := F_Book) (N := 65) B 13 rfl rfl (by decide) i_Book (B.2.2.2.1 _ k_1856) rfl (hS.1 _ 13 _ rfl) d_Book_cell_3 ?_
  refine mv_iload_n (pc := 6) B d_Book_cell_6 rfl 1 rfl ?_
  refine mv_iald (pc := 7) B rfl (i32_in ht0 (show t9.toInt < 4100 by omega)) d_Book_cell_7 ?_
  refine mv_iconst (pc := 8) (v := 1) B d_Book_cell_8 (by decide) ?_
  refine mv_isub (pc := 9) B d_Book_cell_9 ?_
  refine mv_i2l (pc := 10) B d_Book_cell_10 ?_
  refine mv_callSNi (pc := 11) (n := 3) B (mK_ok sk sv) hNs (c_Model_in l hi _ _ _ _) rfl (ma_goodc kc_Model_in) (va_Nw.use rfl (hNs.1 _ (List.mem_of_getElem? (i := 7) rfl))) (B.2.2.2.1 _ k_2208) (B.2.2.2.1 _ k_12) ⟨by decide +kernel, by decide +kernel, by decide +kernel⟩ rfl d_Book_cell_11 rfl (Nat.le_of_ble_eq_true rfl) ⟨by decide, by decide⟩ ⟨by decide, by decide⟩ ⟨by decide, by decide⟩ (mv_noH hno _) (fun v11 σ11 h11 => ?_)
  obtain ⟨e11, z11⟩ := h11
  have e11 := e11.symm
  subst e11
  refine mv_if_eq (pc := 14) (tgt := 25) B d_Book_cell_14 rfl (fun h14 => ?_) (fun h14 => ?_)
  · skip
    refine mv_aload_n (pc := 25) B d_Book_cell_25 rfl 0 rfl ?_
    refine mv_getI (pc := 26) (ci := 12) (C := R_Book) (T := F_Book) (N := 65) B 53 rfl rfl (by decide) i_Book (B.2.2.2.1 _ k_1902) rfl d_Book_cell_26 ?_
    refine mv_if_ne (pc := 29) (tgt := 38) B d_Book_cell_29 rfl (fun h29 => ?_) (fun h29 => ?_)
    · skip
      refine mv_lconst (pc := 38) (v := 0) B d_Book_cell_38 (by decide) ?_
      exact mv_lret (pc := 39) B hr d_Book_cell_39 (Nat.le_refl _) (Nat.le_refl _) ⟨_, rfl, by first | exact Fx.rf | exact Fx.rf.si ⟨rfl, Or.inl rfl⟩, rfl⟩
    · skip
      refine mv_aload_n (pc := 32) B d_Book_cell_32 rfl 0 rfl ?_
      refine mv_bipush (pc := 33) (v := -3) B d_Book_cell_33 (by decide) ?_
      refine mv_putI (pc := 35) (ci := 12) (C := R_Book) (T := F_Book) (N := 65) B 53 rfl rfl (by decide) i_Book t_Book_ok n_Book (B.2.2.2.1 _ k_1902) rfl rfl rfl rfl d_Book_cell_35 ?_
      refine mv_lconst (pc := 38) (v := 0) B d_Book_cell_38 (by decide) ?_
      exact mv_lret (pc := 39) B hr d_Book_cell_39 (Nat.le_refl _) (Nat.le_refl _) ⟨_, rfl, by first | exact Fx.rf | exact Fx.rf.si ⟨rfl, Or.inl rfl⟩, rfl⟩
  · skip
    have z12 := z11.resolve_left h14
    have z13 := l2i_in z12.2.1 z12.2.2 hcell
    have hK : WK 74 th σ t9 i9.toInt32 := ⟨ht0, ht1, z13.1, Or.inl z13.2⟩
    refine mv_aload_n (pc := 17) B d_Book_cell_17 rfl 0 rfl ?_
    refine mv_iload_n (pc := 18) B d_Book_cell_18 rfl 1 rfl ?_
    refine mv_lload_n (pc := 19) B d_Book_cell_19 rfl 2 rfl ?_
    refine mv_l2i (pc := 20) B d_Book_cell_20 ?_
    refine mv_callVl (pc := 21) (n := 2) (ci := 12) (C := R_Book) B (mK_ok sk sv) hNs rfl rfl (c_Book_read_0_x l hi _ _ _ th n k w g hS hD hw hK) rfl (ma_goodc kc_Book_read_0) (B.2.2.2.1 _ k_2508) (B.2.2.2.1 _ k_2510) (B.2.2.2.1 _ ks_133) (B.2.2.2.1 _ k_13) ⟨by decide +kernel, by decide +kernel, by decide +kernel⟩ rfl d_Book_cell_21 rfl (Nat.le_of_ble_eq_true rfl) ⟨by decide, by decide⟩ ⟨by decide, by decide⟩ ⟨by decide, by decide⟩ (mv_noH hno _) (fun v21 σ21 h21 => ?_)
    have e21 := h21.symm
    subst e21
    exact mv_lret (pc := 24) B hr d_Book_cell_24 (Nat.le_refl _) (Nat.le_refl _) ⟨_, rfl, Fx.rf, rfl⟩
set_option maxHeartbeats 4000000 in
set_option maxRecDepth 100000 in
theorem c_Book_cell_y (l : Launch) {dA : FieldType → ClassId} {D : va_G} {al : Nat → Nat} {ext : mv_Sh} {sk sv : Nat → Nat} (hi : mv_inj (mg dA D al ext)) (σ : mv_H) (t9 : Int32) (i9 : Int64) (th n k w : Nat) (g : Gh) (hS : ST 108 th n k g σ) (hD : DY 108 th w σ) (hw : w ≤ 12000) (ht0 : 0 ≤ t9.toInt) (ht1 : t9.toInt < th) : mv_C l y_Book_cell (Cond.code y_Book_cell b_Book_cell 4 (Option.some Jvm.ClassFile.FieldType.long) :: ma) ({ frames := 1, cells := 0, slots := 0, locals := 25 }) (mg dA D al ext) (mK sk sv) [.ref (al 108), .int t9, .long i9] σ (mv_Rl (fun v σ1 => EB 108 40000 σ σ1 ∧ mv_i σ1 108 62 = mv_i σ 108 62)) := by
  refine mv_C.ofV (cc := b_Book_cell) (nL := 4) (ret := (Option.some Jvm.ClassFile.FieldType.long)) (by decide +kernel) rfl hi (Nat.le_of_ble_eq_true rfl) ?_
  intro p e s m below meth c B hNs hr hnm hno
  have hth := hS.2.2.2.2.1
  have hc9 := i32_cl ht0
  have hcell : 0 ≤ (mv_a σ 112 t9.toNatClampNeg).toInt := (hS.2.2.2.2.2.1 t9.toNatClampNeg (by omega)).2.1.1
  refine mv_lload_n (pc := 0) B d_Book_cell_0 rfl 2 rfl ?_
  refine mv_lconst (pc := 1) (v := 0) B d_Book_cell_1 (by decide) ?_
  refine mv_aload_n (pc := 2) B d_Book_cell_2 rfl 0 rfl ?_
  refine mv_getR (pc := 3) (ci := 12) (C := R_Book) (T := F_Book) (N := 65) B 13 rfl rfl (by decide) i_Book (B.2.2.2.1 _ k_1856) rfl (hS.1 _ 13 _ rfl) d_Book_cell_3 ?_
  refine mv_iload_n (pc := 6) B d_Book_cell_6 rfl 1 rfl ?_
  refine mv_iald (pc := 7) B rfl (i32_in ht0 (show t9.toInt < 4100 by omega)) d_Book_cell_7 ?_
  refine mv_iconst (pc := 8) (v := 1) B d_Book_cell_8 (by decide) ?_
  refine mv_isub (pc := 9) B d_Book_cell_9 ?_
  refine mv_i2l (pc := 10) B d_Book_cell_10 ?_
  refine mv_callSNi (pc := 11) (n := 3) B (mK_ok sk sv) hNs (c_Model_in l hi _ _ _ _) rfl (ma_goodc kc_Model_in) (va_Nw.use rfl (hNs.1 _ (List.mem_of_getElem? (i := 7) rfl))) (B.2.2.2.1 _ k_2208) (B.2.2.2.1 _ k_12) ⟨by decide +kernel, by decide +kernel, by decide +kernel⟩ rfl d_Book_cell_11 rfl (Nat.le_of_ble_eq_true rfl) ⟨by decide, by decide⟩ ⟨by decide, by decide⟩ ⟨by decide, by decide⟩ (mv_noH hno _) (fun v11 σ11 h11 => ?_)
  obtain ⟨e11, z11⟩ := h11
  have e11 := e11.symm
  subst e11
  refine mv_if_eq (pc := 14) (tgt := 25) B d_Book_cell_14 rfl (fun h14 => ?_) (fun h14 => ?_)
  · skip
    refine mv_aload_n (pc := 25) B d_Book_cell_25 rfl 0 rfl ?_
    refine mv_getI (pc := 26) (ci := 12) (C := R_Book) (T := F_Book) (N := 65) B 53 rfl rfl (by decide) i_Book (B.2.2.2.1 _ k_1902) rfl d_Book_cell_26 ?_
    refine mv_if_ne (pc := 29) (tgt := 38) B d_Book_cell_29 rfl (fun h29 => ?_) (fun h29 => ?_)
    · skip
      refine mv_lconst (pc := 38) (v := 0) B d_Book_cell_38 (by decide) ?_
      exact mv_lret (pc := 39) B hr d_Book_cell_39 (Nat.le_refl _) (Nat.le_refl _) ⟨_, rfl, by first | exact Fx.rf | exact Fx.rf.si ⟨rfl, Or.inl rfl⟩, rfl⟩
    · skip
      refine mv_aload_n (pc := 32) B d_Book_cell_32 rfl 0 rfl ?_
      refine mv_bipush (pc := 33) (v := -3) B d_Book_cell_33 (by decide) ?_
      refine mv_putI (pc := 35) (ci := 12) (C := R_Book) (T := F_Book) (N := 65) B 53 rfl rfl (by decide) i_Book t_Book_ok n_Book (B.2.2.2.1 _ k_1902) rfl rfl rfl rfl d_Book_cell_35 ?_
      refine mv_lconst (pc := 38) (v := 0) B d_Book_cell_38 (by decide) ?_
      exact mv_lret (pc := 39) B hr d_Book_cell_39 (Nat.le_refl _) (Nat.le_refl _) ⟨_, rfl, by first | exact Fx.rf | exact Fx.rf.si ⟨rfl, Or.inl rfl⟩, rfl⟩
  · skip
    have z12 := z11.resolve_left h14
    have z13 := l2i_in z12.2.1 z12.2.2 hcell
    have hK : WK 108 th σ t9 i9.toInt32 := ⟨ht0, ht1, z13.1, Or.inl z13.2⟩
    refine mv_aload_n (pc := 17) B d_Book_cell_17 rfl 0 rfl ?_
    refine mv_iload_n (pc := 18) B d_Book_cell_18 rfl 1 rfl ?_
    refine mv_lload_n (pc := 19) B d_Book_cell_19 rfl 2 rfl ?_
    refine mv_l2i (pc := 20) B d_Book_cell_20 ?_
    refine mv_callVl (pc := 21) (n := 2) (ci := 12) (C := R_Book) B (mK_ok sk sv) hNs rfl rfl (c_Book_read_0_y l hi _ _ _ th n k w g hS hD hw hK) rfl (ma_goodc kc_Book_read_0) (B.2.2.2.1 _ k_2508) (B.2.2.2.1 _ k_2510) (B.2.2.2.1 _ ks_133) (B.2.2.2.1 _ k_13) ⟨by decide +kernel, by decide +kernel, by decide +kernel⟩ rfl d_Book_cell_21 rfl (Nat.le_of_ble_eq_true rfl) ⟨by decide, by decide⟩ ⟨by decide, by decide⟩ ⟨by decide, by decide⟩ (mv_noH hno _) (fun v21 σ21 h21 => ?_)
    have e21 := h21.symm
    subst e21
    exact mv_lret (pc := 24) B hr d_Book_cell_24 (Nat.le_refl _) (Nat.le_refl _) ⟨_, rfl, Fx.rf, rfl⟩
def y_Book_field : MethodName := ⟨"MachineLoomModel$Book", "field", "(IIJ)J"⟩
abbrev b_Book_field : ByteArray := prog_15_method_67_code
theorem kc_Book_field : Cond.code y_Book_field b_Book_field 8 (Option.some Jvm.ClassFile.FieldType.long) ∈ ma := ma_of (tb_11 _ (List.mem_of_getElem? (i := 10) rfl)) rfl
theorem d_Book_field_0 : decode b_Book_field 0 = .ok (.lconst 0, 1) := by decide +kernel
theorem d_Book_field_1 : decode b_Book_field 1 = .ok (.lstore 5, 2) := by decide +kernel
theorem d_Book_field_3 : decode b_Book_field 3 = .ok (.iconst 0, 1) := by decide +kernel
theorem d_Book_field_4 : decode b_Book_field 4 = .ok (.istore 7, 2) := by decide +kernel
theorem d_Book_field_6 : decode b_Book_field 6 = .ok (.iload 7, 2) := by decide +kernel
theorem d_Book_field_8 : decode b_Book_field 8 = .ok (.aload_n 0, 1) := by decide +kernel
theorem d_Book_field_9 : decode b_Book_field 9 = .ok (.getfield 43, 3) := by decide +kernel
theorem d_Book_field_12 : decode b_Book_field 12 = .ok (.if_icmp .ge (47), 3) := by decide +kernel
theorem d_Book_field_15 : decode b_Book_field 15 = .ok (.aload_n 0, 1) := by decide +kernel
theorem d_Book_field_16 : decode b_Book_field 16 = .ok (.getfield 65, 3) := by decide +kernel
theorem d_Book_field_19 : decode b_Book_field 19 = .ok (.aload_n 0, 1) := by decide +kernel
theorem d_Book_field_20 : decode b_Book_field 20 = .ok (.getfield 55, 3) := by decide +kernel
theorem d_Book_field_23 : decode b_Book_field 23 = .ok (.iload_n 1, 1) := by decide +kernel
theorem d_Book_field_24 : decode b_Book_field 24 = .ok (.iaload, 1) := by decide +kernel
theorem d_Book_field_25 : decode b_Book_field 25 = .ok (.iload 7, 2) := by decide +kernel
theorem d_Book_field_27 : decode b_Book_field 27 = .ok (.iadd, 1) := by decide +kernel
theorem d_Book_field_28 : decode b_Book_field 28 = .ok (.baload, 1) := by decide +kernel
theorem d_Book_field_29 : decode b_Book_field 29 = .ok (.iload_n 2, 1) := by decide +kernel
theorem d_Book_field_30 : decode b_Book_field 30 = .ok (.if_icmp .ne (23), 3) := by decide +kernel
theorem d_Book_field_33 : decode b_Book_field 33 = .ok (.lload 5, 2) := by decide +kernel
theorem d_Book_field_35 : decode b_Book_field 35 = .ok (.iconst 1, 1) := by decide +kernel
theorem d_Book_field_36 : decode b_Book_field 36 = .ok (.lshl, 1) := by decide +kernel
theorem d_Book_field_37 : decode b_Book_field 37 = .ok (.lload_n 3, 1) := by decide +kernel
theorem d_Book_field_38 : decode b_Book_field 38 = .ok (.aload_n 0, 1) := by decide +kernel
theorem d_Book_field_39 : decode b_Book_field 39 = .ok (.getfield 43, 3) := by decide +kernel
theorem d_Book_field_42 : decode b_Book_field 42 = .ok (.iconst 1, 1) := by decide +kernel
theorem d_Book_field_43 : decode b_Book_field 43 = .ok (.isub, 1) := by decide +kernel
theorem d_Book_field_44 : decode b_Book_field 44 = .ok (.iload 7, 2) := by decide +kernel
theorem d_Book_field_46 : decode b_Book_field 46 = .ok (.isub, 1) := by decide +kernel
theorem d_Book_field_47 : decode b_Book_field 47 = .ok (.lushr, 1) := by decide +kernel
theorem d_Book_field_48 : decode b_Book_field 48 = .ok (.lconst 1, 1) := by decide +kernel
theorem d_Book_field_49 : decode b_Book_field 49 = .ok (.land, 1) := by decide +kernel
theorem d_Book_field_50 : decode b_Book_field 50 = .ok (.lor, 1) := by decide +kernel
theorem d_Book_field_51 : decode b_Book_field 51 = .ok (.lstore 5, 2) := by decide +kernel
theorem d_Book_field_53 : decode b_Book_field 53 = .ok (.iinc 7 (1), 3) := by decide +kernel
theorem d_Book_field_56 : decode b_Book_field 56 = .ok (.goto (-50), 3) := by decide +kernel
theorem d_Book_field_59 : decode b_Book_field 59 = .ok (.lload 5, 2) := by decide +kernel
theorem d_Book_field_61 : decode b_Book_field 61 = .ok (.lreturn, 1) := by decide +kernel
set_option maxHeartbeats 4000000 in
set_option maxRecDepth 100000 in
theorem c_Book_field_x (l : Launch) {dA : FieldType → ClassId} {D : va_G} {al : Nat → Nat} {ext : mv_Sh} {sk sv : Nat → Nat} (hi : mv_inj (mg dA D al ext)) (σ : mv_H) (o9 c9 : Int32) (w9 : Int64) (k : Nat) (hmr : mh (mv_r σ)) (hC : CO 74 k σ) (ho0 : 0 ≤ o9.toInt) (ho1 : o9.toInt < k) : mv_C l y_Book_field (Cond.code y_Book_field b_Book_field 8 (Option.some Jvm.ClassFile.FieldType.long) :: ma) ({ frames := 0, cells := 0, slots := 0, locals := 0 }) (mg dA D al ext) (mK sk sv) [.ref (al 74), .int o9, .int c9, .long w9] σ (mv_Rl (fun v σ1 => σ1 = σ)) := by
  refine mv_C.ofV (cc := b_Book_field) (nL := 8) (ret := (Option.some Jvm.ClassFile.FieldType.long)) (by decide +kernel) rfl hi (Nat.le_of_ble_eq_true rfl) ?_
  intro p e s m below meth c B hNs hr hnm hno
  obtain ⟨c1, c2, ⟨c3, c4⟩, c5⟩ := hC
  have ci : 0 ≤ (mv_a σ 84 o9.toNatClampNeg).toInt ∧ (mv_a σ 84 o9.toNatClampNeg).toInt + (mv_i σ 74 20).toInt ≤ 32768 := c5 o9.toNatClampNeg (by have := i32_cl ho0; omega)
  have lp : ∀ (nn : Nat) (i9 : Int32) (v9 : Int64) (q0 : 0 ≤ i9.toInt), (20000 - i9.toInt).toNat < nn → mv_V p l e ({ frames := 0, cells := 0, slots := 0, locals := 0 }) s m ([.ref (al 74), .int o9, .int c9, .long w9] : List Value).toArray below meth c (mg dA D al ext) 8 0 0 (mv_Q (mg dA D al ext) below s 0 0 (mv_Rl (fun v σ1 => σ1 = σ))) σ 6 [(7, .int i9), (5, .long v9), (0, .ref (al 74)), (1, .int o9), (2, .int c9), (3, .long w9)] [] := by
    intro nn
    induction nn with
    | zero => intro i9 v9 q0 hm; exact absurd hm (Nat.not_lt_zero _)
    | succ nn ih =>
      intro i9 v9 q0 hm
      refine mv_iload (pc := 6) B d_Book_field_6 0 rfl ?_
      refine mv_aload_n (pc := 8) B d_Book_field_8 rfl 2 rfl ?_
      refine mv_getI (pc := 9) (ci := 12) (C := R_Book) (T := F_Book) (N := 65) B 20 rfl rfl (by decide) i_Book (B.2.2.2.1 _ k_1865) rfl d_Book_field_9 ?_
      refine mv_icmp_ge (pc := 12) (tgt := 59) B d_Book_field_12 rfl (fun h12 => ?_) (fun h12 => ?_)
      · skip
        refine mv_lload (pc := 59) B d_Book_field_59 1 rfl ?_
        exact mv_lret (pc := 61) B hr d_Book_field_61 (Nat.le_refl _) (Nat.le_refl _) ⟨_, rfl, rfl⟩
      · skip
        rw [Int32.le_iff_toInt_le] at h12
        have w2 : (i9 + 1).toInt = i9.toInt + 1 := i32_inc (by omega)
        refine mv_aload_n (pc := 15) B d_Book_field_15 rfl 2 rfl ?_
        refine mv_getR (pc := 16) (ci := 12) (C := R_Book) (T := F_Book) (N := 65) B 28 rfl rfl (by decide) i_Book (B.2.2.2.1 _ k_1873) rfl (hmr _ 28 _ rfl) d_Book_field_16 ?_
        refine mv_aload_n (pc := 19) B d_Book_field_19 rfl 2 rfl ?_
        refine mv_getR (pc := 20) (ci := 12) (C := R_Book) (T := F_Book) (N := 65) B 25 rfl rfl (by decide) i_Book (B.2.2.2.1 _ k_1870) rfl (hmr _ 25 _ rfl) d_Book_field_20 ?_
        refine mv_iload_n (pc := 23) B d_Book_field_23 rfl 3 rfl ?_
        refine mv_iald (pc := 24) B rfl (i32_in ho0 (show o9.toInt < 4100 by omega)) d_Book_field_24 ?_
        refine mv_iload (pc := 25) B d_Book_field_25 0 rfl ?_
        refine mv_iadd (pc := 27) B d_Book_field_27 ?_
        refine mv_topi (fun y27 ey27 => ?_)
        have fy27 := i32_addE ey27 (by (try simp only [Int32.reduceToInt]); omega) (by (try simp only [Int32.reduceToInt]); omega)
        try simp only [Int32.reduceToInt] at fy27
        refine mv_bald (pc := 28) B rfl (i32_in (show 0 ≤ y27.toInt by omega) (show y27.toInt < 32768 by omega)) d_Book_field_28 ?_
        refine mv_iload_n (pc := 29) B d_Book_field_29 rfl 4 rfl ?_
        refine mv_icmp_ne (pc := 30) (tgt := 53) B d_Book_field_30 rfl (fun h30 => ?_) (fun h30 => ?_)
        · skip
          refine mv_iinc (pc := 53) (j := 0) (v := 1) B d_Book_field_53 rfl (by decide) (by decide) rfl ?_
          refine mv_goto (pc := 56) (tgt := 6) B d_Book_field_56 rfl ?_
          refine mv_lpick [0, 1, 2, 3, 4, 5] rfl ?_
          exact ih _ _ (by omega) (by omega)
        · skip
          refine mv_lload (pc := 33) B d_Book_field_33 1 rfl ?_
          refine mv_iconst (pc := 35) (v := 1) B d_Book_field_35 (by decide) ?_
          refine mv_lshl (pc := 36) B d_Book_field_36 ?_
          refine mv_lload_n (pc := 37) B d_Book_field_37 rfl 5 rfl ?_
          refine mv_aload_n (pc := 38) B d_Book_field_38 rfl 2 rfl ?_
          refine mv_getI (pc := 39) (ci := 12) (C := R_Book) (T := F_Book) (N := 65) B 20 rfl rfl (by decide) i_Book (B.2.2.2.1 _ k_1865) rfl d_Book_field_39 ?_
          refine mv_iconst (pc := 42) (v := 1) B d_Book_field_42 (by decide) ?_
          refine mv_isub (pc := 43) B d_Book_field_43 ?_
          refine mv_iload (pc := 44) B d_Book_field_44 0 rfl ?_
          refine mv_isub (pc := 46) B d_Book_field_46 ?_
          refine mv_lushr (pc := 47) B d_Book_field_47 ?_
          refine mv_lconst (pc := 48) (v := 1) B d_Book_field_48 (by decide) ?_
          refine mv_land (pc := 49) B d_Book_field_49 ?_
          refine mv_lor (pc := 50) B d_Book_field_50 ?_
          refine mv_lstore (pc := 51) B d_Book_field_51 (by decide) rfl ?_
          refine mv_iinc (pc := 53) (j := 1) (v := 1) B d_Book_field_53 rfl (by decide) (by decide) rfl ?_
          refine mv_goto (pc := 56) (tgt := 6) B d_Book_field_56 rfl ?_
          refine mv_lpick [0, 1, 2, 3, 4, 5] rfl ?_
          exact ih _ _ (by omega) (by omega)
  refine mv_lconst (pc := 0) (v := 0) B d_Book_field_0 (by decide) ?_
  refine mv_lstore (pc := 1) B d_Book_field_1 (by decide) rfl ?_
  refine mv_iconst (pc := 3) (v := 0) B d_Book_field_3 (by decide) ?_
  refine mv_istore (pc := 4) B d_Book_field_4 (by decide) rfl ?_
  refine mv_lpick [0, 1, 2, 3, 4, 5] rfl ?_
  exact lp _ _ _ (by decide) (Nat.lt_succ_self _)
set_option maxHeartbeats 4000000 in
set_option maxRecDepth 100000 in
theorem c_Book_field_y (l : Launch) {dA : FieldType → ClassId} {D : va_G} {al : Nat → Nat} {ext : mv_Sh} {sk sv : Nat → Nat} (hi : mv_inj (mg dA D al ext)) (σ : mv_H) (o9 c9 : Int32) (w9 : Int64) (k : Nat) (hmr : mh (mv_r σ)) (hC : CO 108 k σ) (ho0 : 0 ≤ o9.toInt) (ho1 : o9.toInt < k) : mv_C l y_Book_field (Cond.code y_Book_field b_Book_field 8 (Option.some Jvm.ClassFile.FieldType.long) :: ma) ({ frames := 0, cells := 0, slots := 0, locals := 0 }) (mg dA D al ext) (mK sk sv) [.ref (al 108), .int o9, .int c9, .long w9] σ (mv_Rl (fun v σ1 => σ1 = σ)) := by
  refine mv_C.ofV (cc := b_Book_field) (nL := 8) (ret := (Option.some Jvm.ClassFile.FieldType.long)) (by decide +kernel) rfl hi (Nat.le_of_ble_eq_true rfl) ?_
  intro p e s m below meth c B hNs hr hnm hno
  obtain ⟨c1, c2, ⟨c3, c4⟩, c5⟩ := hC
  have ci : 0 ≤ (mv_a σ 118 o9.toNatClampNeg).toInt ∧ (mv_a σ 118 o9.toNatClampNeg).toInt + (mv_i σ 108 20).toInt ≤ 32768 := c5 o9.toNatClampNeg (by have := i32_cl ho0; omega)
  have lp : ∀ (nn : Nat) (i9 : Int32) (v9 : Int64) (q0 : 0 ≤ i9.toInt), (20000 - i9.toInt).toNat < nn → mv_V p l e ({ frames := 0, cells := 0, slots := 0, locals := 0 }) s m ([.ref (al 108), .int o9, .int c9, .long w9] : List Value).toArray below meth c (mg dA D al ext) 8 0 0 (mv_Q (mg dA D al ext) below s 0 0 (mv_Rl (fun v σ1 => σ1 = σ))) σ 6 [(7, .int i9), (5, .long v9), (0, .ref (al 108)), (1, .int o9), (2, .int c9), (3, .long w9)] [] := by
    intro nn
    induction nn with
    | zero => intro i9 v9 q0 hm; exact absurd hm (Nat.not_lt_zero _)
    | succ nn ih =>
      intro i9 v9 q0 hm
      refine mv_iload (pc := 6) B d_Book_field_6 0 rfl ?_
      refine mv_aload_n (pc := 8) B d_Book_field_8 rfl 2 rfl ?_
      refine mv_getI (pc := 9) (ci := 12) (C := R_Book) (T := F_Book) (N := 65) B 20 rfl rfl (by decide) i_Book (B.2.2.2.1 _ k_1865) rfl d_Book_field_9 ?_
      refine mv_icmp_ge (pc := 12) (tgt := 59) B d_Book_field_12 rfl (fun h12 => ?_) (fun h12 => ?_)
      · skip
        refine mv_lload (pc := 59) B d_Book_field_59 1 rfl ?_
        exact mv_lret (pc := 61) B hr d_Book_field_61 (Nat.le_refl _) (Nat.le_refl _) ⟨_, rfl, rfl⟩
      · skip
        rw [Int32.le_iff_toInt_le] at h12
        have w2 : (i9 + 1).toInt = i9.toInt + 1 := i32_inc (by omega)
        refine mv_aload_n (pc := 15) B d_Book_field_15 rfl 2 rfl ?_
        refine mv_getR (pc := 16) (ci := 12) (C := R_Book) (T := F_Book) (N := 65) B 28 rfl rfl (by decide) i_Book (B.2.2.2.1 _ k_1873) rfl (hmr _ 28 _ rfl) d_Book_field_16 ?_
        refine mv_aload_n (pc := 19) B d_Book_field_19 rfl 2 rfl ?_
        refine mv_getR (pc := 20) (ci := 12) (C := R_Book) (T := F_Book) (N := 65) B 25 rfl rfl (by decide) i_Book (B.2.2.2.1 _ k_1870) rfl (hmr _ 25 _ rfl) d_Book_field_20 ?_
        refine mv_iload_n (pc := 23) B d_Book_field_23 rfl 3 rfl ?_
        refine mv_iald (pc := 24) B rfl (i32_in ho0 (show o9.toInt < 4100 by omega)) d_Book_field_24 ?_
        refine mv_iload (pc := 25) B d_Book_field_25 0 rfl ?_
        refine mv_iadd (pc := 27) B d_Book_field_27 ?_
        refine mv_topi (fun y27 ey27 => ?_)
        have fy27 := i32_addE ey27 (by (try simp only [Int32.reduceToInt]); omega) (by (try simp only [Int32.reduceToInt]); omega)
        try simp only [Int32.reduceToInt] at fy27
        refine mv_bald (pc := 28) B rfl (i32_in (show 0 ≤ y27.toInt by omega) (show y27.toInt < 32768 by omega)) d_Book_field_28 ?_
        refine mv_iload_n (pc := 29) B d_Book_field_29 rfl 4 rfl ?_
        refine mv_icmp_ne (pc := 30) (tgt := 53) B d_Book_field_30 rfl (fun h30 => ?_) (fun h30 => ?_)
        · skip
          refine mv_iinc (pc := 53) (j := 0) (v := 1) B d_Book_field_53 rfl (by decide) (by decide) rfl ?_
          refine mv_goto (pc := 56) (tgt := 6) B d_Book_field_56 rfl ?_
          refine mv_lpick [0, 1, 2, 3, 4, 5] rfl ?_
          exact ih _ _ (by omega) (by omega)
        · skip
          refine mv_lload (pc := 33) B d_Book_field_33 1 rfl ?_
          refine mv_iconst (pc := 35) (v := 1) B d_Book_field_35 (by decide) ?_
          refine mv_lshl (pc := 36) B d_Book_field_36 ?_
          refine mv_lload_n (pc := 37) B d_Book_field_37 rfl 5 rfl ?_
          refine mv_aload_n (pc := 38) B d_Book_field_38 rfl 2 rfl ?_
          refine mv_getI (pc := 39) (ci := 12) (C := R_Book) (T := F_Book) (N := 65) B 20 rfl rfl (by decide) i_Book (B.2.2.2.1 _ k_1865) rfl d_Book_field_39 ?_
          refine mv_iconst (pc := 42) (v := 1) B d_Book_field_42 (by decide) ?_
          refine mv_isub (pc := 43) B d_Book_field_43 ?_
          refine mv_iload (pc := 44) B d_Book_field_44 0 rfl ?_
          refine mv_isub (pc := 46) B d_Book_field_46 ?_
          refine mv_lushr (pc := 47) B d_Book_field_47 ?_
          refine mv_lconst (pc := 48) (v := 1) B d_Book_field_48 (by decide) ?_
          refine mv_land (pc := 49) B d_Book_field_49 ?_
          refine mv_lor (pc := 50) B d_Book_field_50 ?_
          refine mv_lstore (pc := 51) B d_Book_field_51 (by decide) rfl ?_
          refine mv_iinc (pc := 53) (j := 1) (v := 1) B d_Book_field_53 rfl (by decide) (by decide) rfl ?_
          refine mv_goto (pc := 56) (tgt := 6) B d_Book_field_56 rfl ?_
          refine mv_lpick [0, 1, 2, 3, 4, 5] rfl ?_
          exact ih _ _ (by omega) (by omega)
  refine mv_lconst (pc := 0) (v := 0) B d_Book_field_0 (by decide) ?_
  refine mv_lstore (pc := 1) B d_Book_field_1 (by decide) rfl ?_
  refine mv_iconst (pc := 3) (v := 0) B d_Book_field_3 (by decide) ?_
  refine mv_istore (pc := 4) B d_Book_field_4 (by decide) rfl ?_
  refine mv_lpick [0, 1, 2, 3, 4, 5] rfl ?_
  exact lp _ _ _ (by decide) (Nat.lt_succ_self _)
def y_Book_fits_1 : MethodName := ⟨"MachineLoomModel$Book", "fits", "(IJ)Z"⟩
abbrev b_Book_fits_1 : ByteArray := prog_15_method_71_code
theorem kc_Book_fits_1 : Cond.code y_Book_fits_1 b_Book_fits_1 6 (Option.some Jvm.ClassFile.FieldType.boolean) ∈ ma := ma_of (tb_10 _ (List.mem_of_getElem? (i := 217) rfl)) rfl
theorem d_Book_fits_1_0 : decode b_Book_fits_1 0 = .ok (.iconst 0, 1) := by decide +kernel
theorem d_Book_fits_1_1 : decode b_Book_fits_1 1 = .ok (.istore 4, 2) := by decide +kernel
theorem d_Book_fits_1_3 : decode b_Book_fits_1 3 = .ok (.iload 4, 2) := by decide +kernel
theorem d_Book_fits_1_5 : decode b_Book_fits_1 5 = .ok (.aload_n 0, 1) := by decide +kernel
theorem d_Book_fits_1_6 : decode b_Book_fits_1 6 = .ok (.getfield 43, 3) := by decide +kernel
theorem d_Book_fits_1_9 : decode b_Book_fits_1 9 = .ok (.if_icmp .ge (64), 3) := by decide +kernel
theorem d_Book_fits_1_12 : decode b_Book_fits_1 12 = .ok (.aload_n 0, 1) := by decide +kernel
theorem d_Book_fits_1_13 : decode b_Book_fits_1 13 = .ok (.getfield 65, 3) := by decide +kernel
theorem d_Book_fits_1_16 : decode b_Book_fits_1 16 = .ok (.aload_n 0, 1) := by decide +kernel
theorem d_Book_fits_1_17 : decode b_Book_fits_1 17 = .ok (.getfield 55, 3) := by decide +kernel
theorem d_Book_fits_1_20 : decode b_Book_fits_1 20 = .ok (.iload_n 1, 1) := by decide +kernel
theorem d_Book_fits_1_21 : decode b_Book_fits_1 21 = .ok (.iaload, 1) := by decide +kernel
theorem d_Book_fits_1_22 : decode b_Book_fits_1 22 = .ok (.iload 4, 2) := by decide +kernel
theorem d_Book_fits_1_24 : decode b_Book_fits_1 24 = .ok (.iadd, 1) := by decide +kernel
theorem d_Book_fits_1_25 : decode b_Book_fits_1 25 = .ok (.baload, 1) := by decide +kernel
theorem d_Book_fits_1_26 : decode b_Book_fits_1 26 = .ok (.istore 5, 2) := by decide +kernel
theorem d_Book_fits_1_28 : decode b_Book_fits_1 28 = .ok (.iload 5, 2) := by decide +kernel
theorem d_Book_fits_1_30 : decode b_Book_fits_1 30 = .ok (.bipush 48, 2) := by decide +kernel
theorem d_Book_fits_1_32 : decode b_Book_fits_1 32 = .ok (.if_icmp .eq (10), 3) := by decide +kernel
theorem d_Book_fits_1_35 : decode b_Book_fits_1 35 = .ok (.iload 5, 2) := by decide +kernel
theorem d_Book_fits_1_37 : decode b_Book_fits_1 37 = .ok (.bipush 49, 2) := by decide +kernel
theorem d_Book_fits_1_39 : decode b_Book_fits_1 39 = .ok (.if_icmp .ne (28), 3) := by decide +kernel
theorem d_Book_fits_1_42 : decode b_Book_fits_1 42 = .ok (.iload 5, 2) := by decide +kernel
theorem d_Book_fits_1_44 : decode b_Book_fits_1 44 = .ok (.bipush 48, 2) := by decide +kernel
theorem d_Book_fits_1_46 : decode b_Book_fits_1 46 = .ok (.isub, 1) := by decide +kernel
theorem d_Book_fits_1_47 : decode b_Book_fits_1 47 = .ok (.i2l, 1) := by decide +kernel
theorem d_Book_fits_1_48 : decode b_Book_fits_1 48 = .ok (.lload_n 2, 1) := by decide +kernel
theorem d_Book_fits_1_49 : decode b_Book_fits_1 49 = .ok (.aload_n 0, 1) := by decide +kernel
theorem d_Book_fits_1_50 : decode b_Book_fits_1 50 = .ok (.getfield 43, 3) := by decide +kernel
theorem d_Book_fits_1_53 : decode b_Book_fits_1 53 = .ok (.iconst 1, 1) := by decide +kernel
theorem d_Book_fits_1_54 : decode b_Book_fits_1 54 = .ok (.isub, 1) := by decide +kernel
theorem d_Book_fits_1_55 : decode b_Book_fits_1 55 = .ok (.iload 4, 2) := by decide +kernel
theorem d_Book_fits_1_57 : decode b_Book_fits_1 57 = .ok (.isub, 1) := by decide +kernel
theorem d_Book_fits_1_58 : decode b_Book_fits_1 58 = .ok (.lushr, 1) := by decide +kernel
theorem d_Book_fits_1_59 : decode b_Book_fits_1 59 = .ok (.lconst 1, 1) := by decide +kernel
theorem d_Book_fits_1_60 : decode b_Book_fits_1 60 = .ok (.land, 1) := by decide +kernel
theorem d_Book_fits_1_61 : decode b_Book_fits_1 61 = .ok (.lcmp, 1) := by decide +kernel
theorem d_Book_fits_1_62 : decode b_Book_fits_1 62 = .ok (.ifCond .eq (5), 3) := by decide +kernel
theorem d_Book_fits_1_65 : decode b_Book_fits_1 65 = .ok (.iconst 0, 1) := by decide +kernel
theorem d_Book_fits_1_66 : decode b_Book_fits_1 66 = .ok (.ireturn, 1) := by decide +kernel
theorem d_Book_fits_1_67 : decode b_Book_fits_1 67 = .ok (.iinc 4 (1), 3) := by decide +kernel
theorem d_Book_fits_1_70 : decode b_Book_fits_1 70 = .ok (.goto (-67), 3) := by decide +kernel
theorem d_Book_fits_1_73 : decode b_Book_fits_1 73 = .ok (.iconst 1, 1) := by decide +kernel
theorem d_Book_fits_1_74 : decode b_Book_fits_1 74 = .ok (.ireturn, 1) := by decide +kernel
set_option maxHeartbeats 4000000 in
set_option maxRecDepth 100000 in
theorem c_Book_fits_1_x (l : Launch) {dA : FieldType → ClassId} {D : va_G} {al : Nat → Nat} {ext : mv_Sh} {sk sv : Nat → Nat} (hi : mv_inj (mg dA D al ext)) (σ : mv_H) (o9 : Int32) (w9 : Int64) (k : Nat) (hmr : mh (mv_r σ)) (hC : CO 74 k σ) (ho0 : 0 ≤ o9.toInt) (ho1 : o9.toInt < k) : mv_C l y_Book_fits_1 (Cond.code y_Book_fits_1 b_Book_fits_1 6 (Option.some Jvm.ClassFile.FieldType.boolean) :: ma) ({ frames := 0, cells := 0, slots := 0, locals := 0 }) (mg dA D al ext) (mK sk sv) [.ref (al 74), .int o9, .long w9] σ (mv_Ri (fun v σ1 => σ1 = σ)) := by
  refine mv_C.ofV (cc := b_Book_fits_1) (nL := 6) (ret := (Option.some Jvm.ClassFile.FieldType.boolean)) (by decide +kernel) rfl hi (Nat.le_of_ble_eq_true rfl) ?_
  intro p e s m below meth c B hNs hr hnm hno
  obtain ⟨c1, c2, ⟨c3, c4⟩, c5⟩ := hC
  have ci : 0 ≤ (mv_a σ 84 o9.toNatClampNeg).toInt ∧ (mv_a σ 84 o9.toNatClampNeg).toInt + (mv_i σ 74 20).toInt ≤ 32768 := c5 o9.toNatClampNeg (by have := i32_cl ho0; omega)
  have lp : ∀ (nn : Nat) (i9 : Int32) (q0 : 0 ≤ i9.toInt), (20000 - i9.toInt).toNat < nn → mv_V p l e ({ frames := 0, cells := 0, slots := 0, locals := 0 }) s m ([.ref (al 74), .int o9, .long w9] : List Value).toArray below meth c (mg dA D al ext) 6 0 0 (mv_Q (mg dA D al ext) below s 0 0 (mv_Ri (fun v σ1 => σ1 = σ))) σ 3 [(4, .int i9), (0, .ref (al 74)), (1, .int o9), (2, .long w9)] [] := by
    intro nn
    induction nn with
    | zero => intro i9 q0 hm; exact absurd hm (Nat.not_lt_zero _)
    | succ nn ih =>
      intro i9 q0 hm
      refine mv_iload (pc := 3) B d_Book_fits_1_3 0 rfl ?_
      refine mv_aload_n (pc := 5) B d_Book_fits_1_5 rfl 1 rfl ?_
      refine mv_getI (pc := 6) (ci := 12) (C := R_Book) (T := F_Book) (N := 65) B 20 rfl rfl (by decide) i_Book (B.2.2.2.1 _ k_1865) rfl d_Book_fits_1_6 ?_
      refine mv_icmp_ge (pc := 9) (tgt := 73) B d_Book_fits_1_9 rfl (fun h9 => ?_) (fun h9 => ?_)
      · skip
        refine mv_iconst (pc := 73) (v := 1) B d_Book_fits_1_73 (by decide) ?_
        exact mv_iret (pc := 74) B hr rfl d_Book_fits_1_74 (Nat.le_refl _) (Nat.le_refl _) ⟨_, rfl, rfl⟩
      · skip
        rw [Int32.le_iff_toInt_le] at h9
        have w2 : (i9 + 1).toInt = i9.toInt + 1 := i32_inc (by omega)
        refine mv_aload_n (pc := 12) B d_Book_fits_1_12 rfl 1 rfl ?_
        refine mv_getR (pc := 13) (ci := 12) (C := R_Book) (T := F_Book) (N := 65) B 28 rfl rfl (by decide) i_Book (B.2.2.2.1 _ k_1873) rfl (hmr _ 28 _ rfl) d_Book_fits_1_13 ?_
        refine mv_aload_n (pc := 16) B d_Book_fits_1_16 rfl 1 rfl ?_
        refine mv_getR (pc := 17) (ci := 12) (C := R_Book) (T := F_Book) (N := 65) B 25 rfl rfl (by decide) i_Book (B.2.2.2.1 _ k_1870) rfl (hmr _ 25 _ rfl) d_Book_fits_1_17 ?_
        refine mv_iload_n (pc := 20) B d_Book_fits_1_20 rfl 2 rfl ?_
        refine mv_iald (pc := 21) B rfl (i32_in ho0 (show o9.toInt < 4100 by omega)) d_Book_fits_1_21 ?_
        refine mv_iload (pc := 22) B d_Book_fits_1_22 0 rfl ?_
        refine mv_iadd (pc := 24) B d_Book_fits_1_24 ?_
        refine mv_topi (fun y24 ey24 => ?_)
        have fy24 := i32_addE ey24 (by (try simp only [Int32.reduceToInt]); omega) (by (try simp only [Int32.reduceToInt]); omega)
        try simp only [Int32.reduceToInt] at fy24
        refine mv_bald (pc := 25) B rfl (i32_in (show 0 ≤ y24.toInt by omega) (show y24.toInt < 32768 by omega)) d_Book_fits_1_25 ?_
        refine mv_istore (pc := 26) B d_Book_fits_1_26 (by decide) rfl ?_
        refine mv_iload (pc := 28) B d_Book_fits_1_28 0 rfl ?_
        refine mv_bipush (pc := 30) (v := 48) B d_Book_fits_1_30 (by decide) ?_
        refine mv_icmp_eq (pc := 32) (tgt := 42) B d_Book_fits_1_32 rfl (fun h32 => ?_) (fun h32 => ?_)
        · skip
          refine mv_iload (pc := 42) B d_Book_fits_1_42 0 rfl ?_
          refine mv_bipush (pc := 44) (v := 48) B d_Book_fits_1_44 (by decide) ?_
          refine mv_isub (pc := 46) B d_Book_fits_1_46 ?_
          refine mv_i2l (pc := 47) B d_Book_fits_1_47 ?_
          refine mv_lload_n (pc := 48) B d_Book_fits_1_48 rfl 4 rfl ?_
          refine mv_aload_n (pc := 49) B d_Book_fits_1_49 rfl 2 rfl ?_
          refine mv_getI (pc := 50) (ci := 12) (C := R_Book) (T := F_Book) (N := 65) B 20 rfl rfl (by decide) i_Book (B.2.2.2.1 _ k_1865) rfl d_Book_fits_1_50 ?_
          refine mv_iconst (pc := 53) (v := 1) B d_Book_fits_1_53 (by decide) ?_
          refine mv_isub (pc := 54) B d_Book_fits_1_54 ?_
          refine mv_iload (pc := 55) B d_Book_fits_1_55 1 rfl ?_
          refine mv_isub (pc := 57) B d_Book_fits_1_57 ?_
          refine mv_lushr (pc := 58) B d_Book_fits_1_58 ?_
          refine mv_lconst (pc := 59) (v := 1) B d_Book_fits_1_59 (by decide) ?_
          refine mv_land (pc := 60) B d_Book_fits_1_60 ?_
          refine mv_lcmp (pc := 61) B d_Book_fits_1_61 ?_
          refine mv_if_eq (pc := 62) (tgt := 67) B d_Book_fits_1_62 rfl (fun h62 => ?_) (fun h62 => ?_)
          · skip
            refine mv_iinc (pc := 67) (j := 1) (v := 1) B d_Book_fits_1_67 rfl (by decide) (by decide) rfl ?_
            refine mv_goto (pc := 70) (tgt := 3) B d_Book_fits_1_70 rfl ?_
            refine mv_lpick [0, 2, 3, 4] rfl ?_
            exact ih _ (by omega) (by omega)
          · skip
            refine mv_iconst (pc := 65) (v := 0) B d_Book_fits_1_65 (by decide) ?_
            exact mv_iret (pc := 66) B hr rfl d_Book_fits_1_66 (Nat.le_refl _) (Nat.le_refl _) ⟨_, rfl, rfl⟩
        · skip
          refine mv_iload (pc := 35) B d_Book_fits_1_35 0 rfl ?_
          refine mv_bipush (pc := 37) (v := 49) B d_Book_fits_1_37 (by decide) ?_
          refine mv_icmp_ne (pc := 39) (tgt := 67) B d_Book_fits_1_39 rfl (fun h39 => ?_) (fun h39 => ?_)
          · skip
            refine mv_iinc (pc := 67) (j := 1) (v := 1) B d_Book_fits_1_67 rfl (by decide) (by decide) rfl ?_
            refine mv_goto (pc := 70) (tgt := 3) B d_Book_fits_1_70 rfl ?_
            refine mv_lpick [0, 2, 3, 4] rfl ?_
            exact ih _ (by omega) (by omega)
          · skip
            refine mv_iload (pc := 42) B d_Book_fits_1_42 0 rfl ?_
            refine mv_bipush (pc := 44) (v := 48) B d_Book_fits_1_44 (by decide) ?_
            refine mv_isub (pc := 46) B d_Book_fits_1_46 ?_
            refine mv_i2l (pc := 47) B d_Book_fits_1_47 ?_
            refine mv_lload_n (pc := 48) B d_Book_fits_1_48 rfl 4 rfl ?_
            refine mv_aload_n (pc := 49) B d_Book_fits_1_49 rfl 2 rfl ?_
            refine mv_getI (pc := 50) (ci := 12) (C := R_Book) (T := F_Book) (N := 65) B 20 rfl rfl (by decide) i_Book (B.2.2.2.1 _ k_1865) rfl d_Book_fits_1_50 ?_
            refine mv_iconst (pc := 53) (v := 1) B d_Book_fits_1_53 (by decide) ?_
            refine mv_isub (pc := 54) B d_Book_fits_1_54 ?_
            refine mv_iload (pc := 55) B d_Book_fits_1_55 1 rfl ?_
            refine mv_isub (pc := 57) B d_Book_fits_1_57 ?_
            refine mv_lushr (pc := 58) B d_Book_fits_1_58 ?_
            refine mv_lconst (pc := 59) (v := 1) B d_Book_fits_1_59 (by decide) ?_
            refine mv_land (pc := 60) B d_Book_fits_1_60 ?_
            refine mv_lcmp (pc := 61) B d_Book_fits_1_61 ?_
            refine mv_if_eq (pc := 62) (tgt := 67) B d_Book_fits_1_62 rfl (fun h62 => ?_) (fun h62 => ?_)
            · skip
              refine mv_iinc (pc := 67) (j := 1) (v := 1) B d_Book_fits_1_67 rfl (by decide) (by decide) rfl ?_
              refine mv_goto (pc := 70) (tgt := 3) B d_Book_fits_1_70 rfl ?_
              refine mv_lpick [0, 2, 3, 4] rfl ?_
              exact ih _ (by omega) (by omega)
            · skip
              refine mv_iconst (pc := 65) (v := 0) B d_Book_fits_1_65 (by decide) ?_
              exact mv_iret (pc := 66) B hr rfl d_Book_fits_1_66 (Nat.le_refl _) (Nat.le_refl _) ⟨_, rfl, rfl⟩
  refine mv_iconst (pc := 0) (v := 0) B d_Book_fits_1_0 (by decide) ?_
  refine mv_istore (pc := 1) B d_Book_fits_1_1 (by decide) rfl ?_
  refine mv_lpick [0, 1, 2, 3] rfl ?_
  exact lp _ _ (by decide) (Nat.lt_succ_self _)
set_option maxHeartbeats 4000000 in
set_option maxRecDepth 100000 in
theorem c_Book_fits_1_y (l : Launch) {dA : FieldType → ClassId} {D : va_G} {al : Nat → Nat} {ext : mv_Sh} {sk sv : Nat → Nat} (hi : mv_inj (mg dA D al ext)) (σ : mv_H) (o9 : Int32) (w9 : Int64) (k : Nat) (hmr : mh (mv_r σ)) (hC : CO 108 k σ) (ho0 : 0 ≤ o9.toInt) (ho1 : o9.toInt < k) : mv_C l y_Book_fits_1 (Cond.code y_Book_fits_1 b_Book_fits_1 6 (Option.some Jvm.ClassFile.FieldType.boolean) :: ma) ({ frames := 0, cells := 0, slots := 0, locals := 0 }) (mg dA D al ext) (mK sk sv) [.ref (al 108), .int o9, .long w9] σ (mv_Ri (fun v σ1 => σ1 = σ)) := by
  refine mv_C.ofV (cc := b_Book_fits_1) (nL := 6) (ret := (Option.some Jvm.ClassFile.FieldType.boolean)) (by decide +kernel) rfl hi (Nat.le_of_ble_eq_true rfl) ?_
  intro p e s m below meth c B hNs hr hnm hno
  obtain ⟨c1, c2, ⟨c3, c4⟩, c5⟩ := hC
  have ci : 0 ≤ (mv_a σ 118 o9.toNatClampNeg).toInt ∧ (mv_a σ 118 o9.toNatClampNeg).toInt + (mv_i σ 108 20).toInt ≤ 32768 := c5 o9.toNatClampNeg (by have := i32_cl ho0; omega)
  have lp : ∀ (nn : Nat) (i9 : Int32) (q0 : 0 ≤ i9.toInt), (20000 - i9.toInt).toNat < nn → mv_V p l e ({ frames := 0, cells := 0, slots := 0, locals := 0 }) s m ([.ref (al 108), .int o9, .long w9] : List Value).toArray below meth c (mg dA D al ext) 6 0 0 (mv_Q (mg dA D al ext) below s 0 0 (mv_Ri (fun v σ1 => σ1 = σ))) σ 3 [(4, .int i9), (0, .ref (al 108)), (1, .int o9), (2, .long w9)] [] := by
    intro nn
    induction nn with
    | zero => intro i9 q0 hm; exact absurd hm (Nat.not_lt_zero _)
    | succ nn ih =>
      intro i9 q0 hm
      refine mv_iload (pc := 3) B d_Book_fits_1_3 0 rfl ?_
      refine mv_aload_n (pc := 5) B d_Book_fits_1_5 rfl 1 rfl ?_
      refine mv_getI (pc := 6) (ci := 12) (C := R_Book) (T := F_Book) (N := 65) B 20 rfl rfl (by decide) i_Book (B.2.2.2.1 _ k_1865) rfl d_Book_fits_1_6 ?_
      refine mv_icmp_ge (pc := 9) (tgt := 73) B d_Book_fits_1_9 rfl (fun h9 => ?_) (fun h9 => ?_)
      · skip
        refine mv_iconst (pc := 73) (v := 1) B d_Book_fits_1_73 (by decide) ?_
        exact mv_iret (pc := 74) B hr rfl d_Book_fits_1_74 (Nat.le_refl _) (Nat.le_refl _) ⟨_, rfl, rfl⟩
      · skip
        rw [Int32.le_iff_toInt_le] at h9
        have w2 : (i9 + 1).toInt = i9.toInt + 1 := i32_inc (by omega)
        refine mv_aload_n (pc := 12) B d_Book_fits_1_12 rfl 1 rfl ?_
        refine mv_getR (pc := 13) (ci := 12) (C := R_Book) (T := F_Book) (N := 65) B 28 rfl rfl (by decide) i_Book (B.2.2.2.1 _ k_1873) rfl (hmr _ 28 _ rfl) d_Book_fits_1_13 ?_
        refine mv_aload_n (pc := 16) B d_Book_fits_1_16 rfl 1 rfl ?_
        refine mv_getR (pc := 17) (ci := 12) (C := R_Book) (T := F_Book) (N := 65) B 25 rfl rfl (by decide) i_Book (B.2.2.2.1 _ k_1870) rfl (hmr _ 25 _ rfl) d_Book_fits_1_17 ?_
        refine mv_iload_n (pc := 20) B d_Book_fits_1_20 rfl 2 rfl ?_
        refine mv_iald (pc := 21) B rfl (i32_in ho0 (show o9.toInt < 4100 by omega)) d_Book_fits_1_21 ?_
        refine mv_iload (pc := 22) B d_Book_fits_1_22 0 rfl ?_
        refine mv_iadd (pc := 24) B d_Book_fits_1_24 ?_
        refine mv_topi (fun y24 ey24 => ?_)
        have fy24 := i32_addE ey24 (by (try simp only [Int32.reduceToInt]); omega) (by (try simp only [Int32.reduceToInt]); omega)
        try simp only [Int32.reduceToInt] at fy24
        refine mv_bald (pc := 25) B rfl (i32_in (show 0 ≤ y24.toInt by omega) (show y24.toInt < 32768 by omega)) d_Book_fits_1_25 ?_
        refine mv_istore (pc := 26) B d_Book_fits_1_26 (by decide) rfl ?_
        refine mv_iload (pc := 28) B d_Book_fits_1_28 0 rfl ?_
        refine mv_bipush (pc := 30) (v := 48) B d_Book_fits_1_30 (by decide) ?_
        refine mv_icmp_eq (pc := 32) (tgt := 42) B d_Book_fits_1_32 rfl (fun h32 => ?_) (fun h32 => ?_)
        · skip
          refine mv_iload (pc := 42) B d_Book_fits_1_42 0 rfl ?_
          refine mv_bipush (pc := 44) (v := 48) B d_Book_fits_1_44 (by decide) ?_
          refine mv_isub (pc := 46) B d_Book_fits_1_46 ?_
          refine mv_i2l (pc := 47) B d_Book_fits_1_47 ?_
          refine mv_lload_n (pc := 48) B d_Book_fits_1_48 rfl 4 rfl ?_
          refine mv_aload_n (pc := 49) B d_Book_fits_1_49 rfl 2 rfl ?_
          refine mv_getI (pc := 50) (ci := 12) (C := R_Book) (T := F_Book) (N := 65) B 20 rfl rfl (by decide) i_Book (B.2.2.2.1 _ k_1865) rfl d_Book_fits_1_50 ?_
          refine mv_iconst (pc := 53) (v := 1) B d_Book_fits_1_53 (by decide) ?_
          refine mv_isub (pc := 54) B d_Book_fits_1_54 ?_
          refine mv_iload (pc := 55) B d_Book_fits_1_55 1 rfl ?_
          refine mv_isub (pc := 57) B d_Book_fits_1_57 ?_
          refine mv_lushr (pc := 58) B d_Book_fits_1_58 ?_
          refine mv_lconst (pc := 59) (v := 1) B d_Book_fits_1_59 (by decide) ?_
          refine mv_land (pc := 60) B d_Book_fits_1_60 ?_
          refine mv_lcmp (pc := 61) B d_Book_fits_1_61 ?_
          refine mv_if_eq (pc := 62) (tgt := 67) B d_Book_fits_1_62 rfl (fun h62 => ?_) (fun h62 => ?_)
          · skip
            refine mv_iinc (pc := 67) (j := 1) (v := 1) B d_Book_fits_1_67 rfl (by decide) (by decide) rfl ?_
            refine mv_goto (pc := 70) (tgt := 3) B d_Book_fits_1_70 rfl ?_
            refine mv_lpick [0, 2, 3, 4] rfl ?_
            exact ih _ (by omega) (by omega)
          · skip
            refine mv_iconst (pc := 65) (v := 0) B d_Book_fits_1_65 (by decide) ?_
            exact mv_iret (pc := 66) B hr rfl d_Book_fits_1_66 (Nat.le_refl _) (Nat.le_refl _) ⟨_, rfl, rfl⟩
        · skip
          refine mv_iload (pc := 35) B d_Book_fits_1_35 0 rfl ?_
          refine mv_bipush (pc := 37) (v := 49) B d_Book_fits_1_37 (by decide) ?_
          refine mv_icmp_ne (pc := 39) (tgt := 67) B d_Book_fits_1_39 rfl (fun h39 => ?_) (fun h39 => ?_)
          · skip
            refine mv_iinc (pc := 67) (j := 1) (v := 1) B d_Book_fits_1_67 rfl (by decide) (by decide) rfl ?_
            refine mv_goto (pc := 70) (tgt := 3) B d_Book_fits_1_70 rfl ?_
            refine mv_lpick [0, 2, 3, 4] rfl ?_
            exact ih _ (by omega) (by omega)
          · skip
            refine mv_iload (pc := 42) B d_Book_fits_1_42 0 rfl ?_
            refine mv_bipush (pc := 44) (v := 48) B d_Book_fits_1_44 (by decide) ?_
            refine mv_isub (pc := 46) B d_Book_fits_1_46 ?_
            refine mv_i2l (pc := 47) B d_Book_fits_1_47 ?_
            refine mv_lload_n (pc := 48) B d_Book_fits_1_48 rfl 4 rfl ?_
            refine mv_aload_n (pc := 49) B d_Book_fits_1_49 rfl 2 rfl ?_
            refine mv_getI (pc := 50) (ci := 12) (C := R_Book) (T := F_Book) (N := 65) B 20 rfl rfl (by decide) i_Book (B.2.2.2.1 _ k_1865) rfl d_Book_fits_1_50 ?_
            refine mv_iconst (pc := 53) (v := 1) B d_Book_fits_1_53 (by decide) ?_
            refine mv_isub (pc := 54) B d_Book_fits_1_54 ?_
            refine mv_iload (pc := 55) B d_Book_fits_1_55 1 rfl ?_
            refine mv_isub (pc := 57) B d_Book_fits_1_57 ?_
            refine mv_lushr (pc := 58) B d_Book_fits_1_58 ?_
            refine mv_lconst (pc := 59) (v := 1) B d_Book_fits_1_59 (by decide) ?_
            refine mv_land (pc := 60) B d_Book_fits_1_60 ?_
            refine mv_lcmp (pc := 61) B d_Book_fits_1_61 ?_
            refine mv_if_eq (pc := 62) (tgt := 67) B d_Book_fits_1_62 rfl (fun h62 => ?_) (fun h62 => ?_)
            · skip
              refine mv_iinc (pc := 67) (j := 1) (v := 1) B d_Book_fits_1_67 rfl (by decide) (by decide) rfl ?_
              refine mv_goto (pc := 70) (tgt := 3) B d_Book_fits_1_70 rfl ?_
              refine mv_lpick [0, 2, 3, 4] rfl ?_
              exact ih _ (by omega) (by omega)
            · skip
              refine mv_iconst (pc := 65) (v := 0) B d_Book_fits_1_65 (by decide) ?_
              exact mv_iret (pc := 66) B hr rfl d_Book_fits_1_66 (Nat.le_refl _) (Nat.le_refl _) ⟨_, rfl, rfl⟩
  refine mv_iconst (pc := 0) (v := 0) B d_Book_fits_1_0 (by decide) ?_
  refine mv_istore (pc := 1) B d_Book_fits_1_1 (by decide) rfl ?_
  refine mv_lpick [0, 1, 2, 3] rfl ?_
  exact lp _ _ (by decide) (Nat.lt_succ_self _)
def y_Book_hasField : MethodName := ⟨"MachineLoomModel$Book", "hasField", "(II)Z"⟩
abbrev b_Book_hasField : ByteArray := prog_15_method_79_code
theorem kc_Book_hasField : Cond.code y_Book_hasField b_Book_hasField 4 (Option.some Jvm.ClassFile.FieldType.boolean) ∈ ma := ma_of (tb_11 _ (List.mem_of_getElem? (i := 6) rfl)) rfl
theorem d_Book_hasField_0 : decode b_Book_hasField 0 = .ok (.iconst 0, 1) := by decide +kernel
theorem d_Book_hasField_1 : decode b_Book_hasField 1 = .ok (.istore_n 3, 1) := by decide +kernel
theorem d_Book_hasField_2 : decode b_Book_hasField 2 = .ok (.iload_n 3, 1) := by decide +kernel
theorem d_Book_hasField_3 : decode b_Book_hasField 3 = .ok (.aload_n 0, 1) := by decide +kernel
theorem d_Book_hasField_4 : decode b_Book_hasField 4 = .ok (.getfield 43, 3) := by decide +kernel
theorem d_Book_hasField_7 : decode b_Book_hasField 7 = .ok (.if_icmp .ge (41), 3) := by decide +kernel
theorem d_Book_hasField_10 : decode b_Book_hasField 10 = .ok (.aload_n 0, 1) := by decide +kernel
theorem d_Book_hasField_11 : decode b_Book_hasField 11 = .ok (.getfield 65, 3) := by decide +kernel
theorem d_Book_hasField_14 : decode b_Book_hasField 14 = .ok (.aload_n 0, 1) := by decide +kernel
theorem d_Book_hasField_15 : decode b_Book_hasField 15 = .ok (.getfield 55, 3) := by decide +kernel
theorem d_Book_hasField_18 : decode b_Book_hasField 18 = .ok (.iload_n 1, 1) := by decide +kernel
theorem d_Book_hasField_19 : decode b_Book_hasField 19 = .ok (.iaload, 1) := by decide +kernel
theorem d_Book_hasField_20 : decode b_Book_hasField 20 = .ok (.iload_n 3, 1) := by decide +kernel
theorem d_Book_hasField_21 : decode b_Book_hasField 21 = .ok (.iadd, 1) := by decide +kernel
theorem d_Book_hasField_22 : decode b_Book_hasField 22 = .ok (.baload, 1) := by decide +kernel
theorem d_Book_hasField_23 : decode b_Book_hasField 23 = .ok (.iload_n 2, 1) := by decide +kernel
theorem d_Book_hasField_24 : decode b_Book_hasField 24 = .ok (.if_icmp .ne (18), 3) := by decide +kernel
theorem d_Book_hasField_27 : decode b_Book_hasField 27 = .ok (.iload_n 2, 1) := by decide +kernel
theorem d_Book_hasField_28 : decode b_Book_hasField 28 = .ok (.invokestatic 165, 3) := by decide +kernel
theorem d_Book_hasField_31 : decode b_Book_hasField 31 = .ok (.ifCond .eq (11), 3) := by decide +kernel
theorem d_Book_hasField_34 : decode b_Book_hasField 34 = .ok (.iload_n 2, 1) := by decide +kernel
theorem d_Book_hasField_35 : decode b_Book_hasField 35 = .ok (.bipush 95, 2) := by decide +kernel
theorem d_Book_hasField_37 : decode b_Book_hasField 37 = .ok (.if_icmp .eq (5), 3) := by decide +kernel
theorem d_Book_hasField_40 : decode b_Book_hasField 40 = .ok (.iconst 1, 1) := by decide +kernel
theorem d_Book_hasField_41 : decode b_Book_hasField 41 = .ok (.ireturn, 1) := by decide +kernel
theorem d_Book_hasField_42 : decode b_Book_hasField 42 = .ok (.iinc 3 (1), 3) := by decide +kernel
theorem d_Book_hasField_45 : decode b_Book_hasField 45 = .ok (.goto (-43), 3) := by decide +kernel
theorem d_Book_hasField_48 : decode b_Book_hasField 48 = .ok (.iconst 0, 1) := by decide +kernel
theorem d_Book_hasField_49 : decode b_Book_hasField 49 = .ok (.ireturn, 1) := by decide +kernel
set_option maxHeartbeats 4000000 in
set_option maxRecDepth 100000 in
theorem c_Book_hasField_x (l : Launch) {dA : FieldType → ClassId} {D : va_G} {al : Nat → Nat} {ext : mv_Sh} {sk sv : Nat → Nat} (hi : mv_inj (mg dA D al ext)) (σ : mv_H) (o9 c9 : Int32) (k : Nat) (hmr : mh (mv_r σ)) (hC : CO 74 k σ) (ho0 : 0 ≤ o9.toInt) (ho1 : o9.toInt < k) : mv_C l y_Book_hasField (Cond.code y_Book_hasField b_Book_hasField 4 (Option.some Jvm.ClassFile.FieldType.boolean) :: ma) ({ frames := 1, cells := 0, slots := 0, locals := 20 }) (mg dA D al ext) (mK sk sv) [.ref (al 74), .int o9, .int c9] σ (mv_Ri (fun v σ1 => σ1 = σ)) := by
  refine mv_C.ofV (cc := b_Book_hasField) (nL := 4) (ret := (Option.some Jvm.ClassFile.FieldType.boolean)) (by decide +kernel) rfl hi (Nat.le_of_ble_eq_true rfl) ?_
  intro p e s m below meth c B hNs hr hnm hno
  obtain ⟨c1, c2, ⟨c3, c4⟩, c5⟩ := hC
  have ci : 0 ≤ (mv_a σ 84 o9.toNatClampNeg).toInt ∧ (mv_a σ 84 o9.toNatClampNeg).toInt + (mv_i σ 74 20).toInt ≤ 32768 := c5 o9.toNatClampNeg (by have := i32_cl ho0; omega)
  have lp : ∀ (nn : Nat) (i9 : Int32) (q0 : 0 ≤ i9.toInt), (20000 - i9.toInt).toNat < nn → mv_V p l e ({ frames := 1, cells := 0, slots := 0, locals := 20 }) s m ([.ref (al 74), .int o9, .int c9] : List Value).toArray below meth c (mg dA D al ext) 4 0 0 (mv_Q (mg dA D al ext) below s 0 0 (mv_Ri (fun v σ1 => σ1 = σ))) σ 2 [(3, .int i9), (0, .ref (al 74)), (1, .int o9), (2, .int c9)] [] := by
    intro nn
    induction nn with
    | zero => intro i9 q0 hm; exact absurd hm (Nat.not_lt_zero _)
    | succ nn ih =>
      intro i9 q0 hm
      refine mv_iload_n (pc := 2) B d_Book_hasField_2 rfl 0 rfl ?_
      refine mv_aload_n (pc := 3) B d_Book_hasField_3 rfl 1 rfl ?_
      refine mv_getI (pc := 4) (ci := 12) (C := R_Book) (T := F_Book) (N := 65) B 20 rfl rfl (by decide) i_Book (B.2.2.2.1 _ k_1865) rfl d_Book_hasField_4 ?_
      refine mv_icmp_ge (pc := 7) (tgt := 48) B d_Book_hasField_7 rfl (fun h7 => ?_) (fun h7 => ?_)
      · skip
        refine mv_iconst (pc := 48) (v := 0) B d_Book_hasField_48 (by decide) ?_
        exact mv_iret (pc := 49) B hr rfl d_Book_hasField_49 (Nat.le_refl _) (Nat.le_refl _) ⟨_, rfl, rfl⟩
      · skip
        rw [Int32.le_iff_toInt_le] at h7
        have w2 : (i9 + 1).toInt = i9.toInt + 1 := i32_inc (by omega)
        refine mv_aload_n (pc := 10) B d_Book_hasField_10 rfl 1 rfl ?_
        refine mv_getR (pc := 11) (ci := 12) (C := R_Book) (T := F_Book) (N := 65) B 28 rfl rfl (by decide) i_Book (B.2.2.2.1 _ k_1873) rfl (hmr _ 28 _ rfl) d_Book_hasField_11 ?_
        refine mv_aload_n (pc := 14) B d_Book_hasField_14 rfl 1 rfl ?_
        refine mv_getR (pc := 15) (ci := 12) (C := R_Book) (T := F_Book) (N := 65) B 25 rfl rfl (by decide) i_Book (B.2.2.2.1 _ k_1870) rfl (hmr _ 25 _ rfl) d_Book_hasField_15 ?_
        refine mv_iload_n (pc := 18) B d_Book_hasField_18 rfl 2 rfl ?_
        refine mv_iald (pc := 19) B rfl (i32_in ho0 (show o9.toInt < 4100 by omega)) d_Book_hasField_19 ?_
        refine mv_iload_n (pc := 20) B d_Book_hasField_20 rfl 0 rfl ?_
        refine mv_iadd (pc := 21) B d_Book_hasField_21 ?_
        refine mv_topi (fun y21 ey21 => ?_)
        have fy21 := i32_addE ey21 (by (try simp only [Int32.reduceToInt]); omega) (by (try simp only [Int32.reduceToInt]); omega)
        try simp only [Int32.reduceToInt] at fy21
        refine mv_bald (pc := 22) B rfl (i32_in (show 0 ≤ y21.toInt by omega) (show y21.toInt < 32768 by omega)) d_Book_hasField_22 ?_
        refine mv_iload_n (pc := 23) B d_Book_hasField_23 rfl 3 rfl ?_
        refine mv_icmp_ne (pc := 24) (tgt := 42) B d_Book_hasField_24 rfl (fun h24 => ?_) (fun h24 => ?_)
        · skip
          refine mv_iinc (pc := 42) (j := 0) (v := 1) B d_Book_hasField_42 rfl (by decide) (by decide) rfl ?_
          refine mv_goto (pc := 45) (tgt := 2) B d_Book_hasField_45 rfl ?_
          refine mv_lpick [0, 1, 2, 3] rfl ?_
          exact ih _ (by omega) (by omega)
        · skip
          refine mv_iload_n (pc := 27) B d_Book_hasField_27 rfl 3 rfl ?_
          refine mv_callSi (pc := 28) (n := 1) B (mK_ok sk sv) hNs (c_Book_letter l hi _ _) rfl (ma_goodc kc_Book_letter) (B.2.2.2.1 _ k_2126) (B.2.2.2.1 _ k_2127) (B.2.2.2.1 _ k_13) ⟨by decide +kernel, by decide +kernel, by decide +kernel⟩ rfl d_Book_hasField_28 rfl (Nat.le_of_ble_eq_true rfl) ⟨by decide, by decide⟩ ⟨by decide, by decide⟩ ⟨by decide, by decide⟩ (mv_noH hno _) (fun v28 σ28 h28 => ?_)
          obtain ⟨e28, -⟩ := h28
          have e28 := e28.symm
          subst e28
          refine mv_if_eq (pc := 31) (tgt := 42) B d_Book_hasField_31 rfl (fun h31 => ?_) (fun h31 => ?_)
          · skip
            refine mv_iinc (pc := 42) (j := 0) (v := 1) B d_Book_hasField_42 rfl (by decide) (by decide) rfl ?_
            refine mv_goto (pc := 45) (tgt := 2) B d_Book_hasField_45 rfl ?_
            refine mv_lpick [0, 1, 2, 3] rfl ?_
            exact ih _ (by omega) (by omega)
          · skip
            refine mv_iload_n (pc := 34) B d_Book_hasField_34 rfl 3 rfl ?_
            refine mv_bipush (pc := 35) (v := 95) B d_Book_hasField_35 (by decide) ?_
            refine mv_icmp_eq (pc := 37) (tgt := 42) B d_Book_hasField_37 rfl (fun h37 => ?_) (fun h37 => ?_)
            · skip
              refine mv_iinc (pc := 42) (j := 0) (v := 1) B d_Book_hasField_42 rfl (by decide) (by decide) rfl ?_
              refine mv_goto (pc := 45) (tgt := 2) B d_Book_hasField_45 rfl ?_
              refine mv_lpick [0, 1, 2, 3] rfl ?_
              exact ih _ (by omega) (by omega)
            · skip
              refine mv_iconst (pc := 40) (v := 1) B d_Book_hasField_40 (by decide) ?_
              exact mv_iret (pc := 41) B hr rfl d_Book_hasField_41 (Nat.le_refl _) (Nat.le_refl _) ⟨_, rfl, rfl⟩
  refine mv_iconst (pc := 0) (v := 0) B d_Book_hasField_0 (by decide) ?_
  refine mv_istore_n (pc := 1) B d_Book_hasField_1 rfl (by decide) rfl ?_
  refine mv_lpick [0, 1, 2, 3] rfl ?_
  exact lp _ _ (by decide) (Nat.lt_succ_self _)
set_option maxHeartbeats 4000000 in
set_option maxRecDepth 100000 in
theorem c_Book_hasField_y (l : Launch) {dA : FieldType → ClassId} {D : va_G} {al : Nat → Nat} {ext : mv_Sh} {sk sv : Nat → Nat} (hi : mv_inj (mg dA D al ext)) (σ : mv_H) (o9 c9 : Int32) (k : Nat) (hmr : mh (mv_r σ)) (hC : CO 108 k σ) (ho0 : 0 ≤ o9.toInt) (ho1 : o9.toInt < k) : mv_C l y_Book_hasField (Cond.code y_Book_hasField b_Book_hasField 4 (Option.some Jvm.ClassFile.FieldType.boolean) :: ma) ({ frames := 1, cells := 0, slots := 0, locals := 20 }) (mg dA D al ext) (mK sk sv) [.ref (al 108), .int o9, .int c9] σ (mv_Ri (fun v σ1 => σ1 = σ)) := by
  refine mv_C.ofV (cc := b_Book_hasField) (nL := 4) (ret := (Option.some Jvm.ClassFile.FieldType.boolean)) (by decide +kernel) rfl hi (Nat.le_of_ble_eq_true rfl) ?_
  intro p e s m below meth c B hNs hr hnm hno
  obtain ⟨c1, c2, ⟨c3, c4⟩, c5⟩ := hC
  have ci : 0 ≤ (mv_a σ 118 o9.toNatClampNeg).toInt ∧ (mv_a σ 118 o9.toNatClampNeg).toInt + (mv_i σ 108 20).toInt ≤ 32768 := c5 o9.toNatClampNeg (by have := i32_cl ho0; omega)
  have lp : ∀ (nn : Nat) (i9 : Int32) (q0 : 0 ≤ i9.toInt), (20000 - i9.toInt).toNat < nn → mv_V p l e ({ frames := 1, cells := 0, slots := 0, locals := 20 }) s m ([.ref (al 108), .int o9, .int c9] : List Value).toArray below meth c (mg dA D al ext) 4 0 0 (mv_Q (mg dA D al ext) below s 0 0 (mv_Ri (fun v σ1 => σ1 = σ))) σ 2 [(3, .int i9), (0, .ref (al 108)), (1, .int o9), (2, .int c9)] [] := by
    intro nn
    induction nn with
    | zero => intro i9 q0 hm; exact absurd hm (Nat.not_lt_zero _)
    | succ nn ih =>
      intro i9 q0 hm
      refine mv_iload_n (pc := 2) B d_Book_hasField_2 rfl 0 rfl ?_
      refine mv_aload_n (pc := 3) B d_Book_hasField_3 rfl 1 rfl ?_
      refine mv_getI (pc := 4) (ci := 12) (C := R_Book) (T := F_Book) (N := 65) B 20 rfl rfl (by decide) i_Book (B.2.2.2.1 _ k_1865) rfl d_Book_hasField_4 ?_
      refine mv_icmp_ge (pc := 7) (tgt := 48) B d_Book_hasField_7 rfl (fun h7 => ?_) (fun h7 => ?_)
      · skip
        refine mv_iconst (pc := 48) (v := 0) B d_Book_hasField_48 (by decide) ?_
        exact mv_iret (pc := 49) B hr rfl d_Book_hasField_49 (Nat.le_refl _) (Nat.le_refl _) ⟨_, rfl, rfl⟩
      · skip
        rw [Int32.le_iff_toInt_le] at h7
        have w2 : (i9 + 1).toInt = i9.toInt + 1 := i32_inc (by omega)
        refine mv_aload_n (pc := 10) B d_Book_hasField_10 rfl 1 rfl ?_
        refine mv_getR (pc := 11) (ci := 12) (C := R_Book) (T := F_Book) (N := 65) B 28 rfl rfl (by decide) i_Book (B.2.2.2.1 _ k_1873) rfl (hmr _ 28 _ rfl) d_Book_hasField_11 ?_
        refine mv_aload_n (pc := 14) B d_Book_hasField_14 rfl 1 rfl ?_
        refine mv_getR (pc := 15) (ci := 12) (C := R_Book) (T := F_Book) (N := 65) B 25 rfl rfl (by decide) i_Book (B.2.2.2.1 _ k_1870) rfl (hmr _ 25 _ rfl) d_Book_hasField_15 ?_
        refine mv_iload_n (pc := 18) B d_Book_hasField_18 rfl 2 rfl ?_
        refine mv_iald (pc := 19) B rfl (i32_in ho0 (show o9.toInt < 4100 by omega)) d_Book_hasField_19 ?_
        refine mv_iload_n (pc := 20) B d_Book_hasField_20 rfl 0 rfl ?_
        refine mv_iadd (pc := 21) B d_Book_hasField_21 ?_
        refine mv_topi (fun y21 ey21 => ?_)
        have fy21 := i32_addE ey21 (by (try simp only [Int32.reduceToInt]); omega) (by (try simp only [Int32.reduceToInt]); omega)
        try simp only [Int32.reduceToInt] at fy21
        refine mv_bald (pc := 22) B rfl (i32_in (show 0 ≤ y21.toInt by omega) (show y21.toInt < 32768 by omega)) d_Book_hasField_22 ?_
        refine mv_iload_n (pc := 23) B d_Book_hasField_23 rfl 3 rfl ?_
        refine mv_icmp_ne (pc := 24) (tgt := 42) B d_Book_hasField_24 rfl (fun h24 => ?_) (fun h24 => ?_)
        · skip
          refine mv_iinc (pc := 42) (j := 0) (v := 1) B d_Book_hasField_42 rfl (by decide) (by decide) rfl ?_
          refine mv_goto (pc := 45) (tgt := 2) B d_Book_hasField_45 rfl ?_
          refine mv_lpick [0, 1, 2, 3] rfl ?_
          exact ih _ (by omega) (by omega)
        · skip
          refine mv_iload_n (pc := 27) B d_Book_hasField_27 rfl 3 rfl ?_
          refine mv_callSi (pc := 28) (n := 1) B (mK_ok sk sv) hNs (c_Book_letter l hi _ _) rfl (ma_goodc kc_Book_letter) (B.2.2.2.1 _ k_2126) (B.2.2.2.1 _ k_2127) (B.2.2.2.1 _ k_13) ⟨by decide +kernel, by decide +kernel, by decide +kernel⟩ rfl d_Book_hasField_28 rfl (Nat.le_of_ble_eq_true rfl) ⟨by decide, by decide⟩ ⟨by decide, by decide⟩ ⟨by decide, by decide⟩ (mv_noH hno _) (fun v28 σ28 h28 => ?_)
          obtain ⟨e28, -⟩ := h28
          have e28 := e28.symm
          subst e28
          refine mv_if_eq (pc := 31) (tgt := 42) B d_Book_hasField_31 rfl (fun h31 => ?_) (fun h31 => ?_)
          · skip
            refine mv_iinc (pc := 42) (j := 0) (v := 1) B d_Book_hasField_42 rfl (by decide) (by decide) rfl ?_
            refine mv_goto (pc := 45) (tgt := 2) B d_Book_hasField_45 rfl ?_
            refine mv_lpick [0, 1, 2, 3] rfl ?_
            exact ih _ (by omega) (by omega)
          · skip
            refine mv_iload_n (pc := 34) B d_Book_hasField_34 rfl 3 rfl ?_
            refine mv_bipush (pc := 35) (v := 95) B d_Book_hasField_35 (by decide) ?_
            refine mv_icmp_eq (pc := 37) (tgt := 42) B d_Book_hasField_37 rfl (fun h37 => ?_) (fun h37 => ?_)
            · skip
              refine mv_iinc (pc := 42) (j := 0) (v := 1) B d_Book_hasField_42 rfl (by decide) (by decide) rfl ?_
              refine mv_goto (pc := 45) (tgt := 2) B d_Book_hasField_45 rfl ?_
              refine mv_lpick [0, 1, 2, 3] rfl ?_
              exact ih _ (by omega) (by omega)
            · skip
              refine mv_iconst (pc := 40) (v := 1) B d_Book_hasField_40 (by decide) ?_
              exact mv_iret (pc := 41) B hr rfl d_Book_hasField_41 (Nat.le_refl _) (Nat.le_refl _) ⟨_, rfl, rfl⟩
  refine mv_iconst (pc := 0) (v := 0) B d_Book_hasField_0 (by decide) ?_
  refine mv_istore_n (pc := 1) B d_Book_hasField_1 rfl (by decide) rfl ?_
  refine mv_lpick [0, 1, 2, 3] rfl ?_
  exact lp _ _ (by decide) (Nat.lt_succ_self _)
def y_Book_decode : MethodName := ⟨"MachineLoomModel$Book", "decode", "(J)I"⟩
abbrev b_Book_decode : ByteArray := prog_15_method_72_code
theorem kc_Book_decode : Cond.code y_Book_decode b_Book_decode 5 (Option.some Jvm.ClassFile.FieldType.int) ∈ ma := ma_of (tb_10 _ (List.mem_of_getElem? (i := 213) rfl)) rfl
theorem k_2374 : (Jvm.Cond.methodLink "MachineLoomModel$Book" (517 : Nat) ({ cls := "MachineLoomModel$Book", name := "fits", desc := "(IJ)Z" } : Jvm.MethodName)) ∈ ma := ma_of (tb_10 _ (List.mem_of_getElem? (i := 214) rfl)) rfl
theorem k_2375 : (Jvm.Cond.instanceMethod ({ cls := "MachineLoomModel$Book", name := "fits", desc := "(IJ)Z" } : Jvm.MethodName)) ∈ ma := ma_of (tb_10 _ (List.mem_of_getElem? (i := 215) rfl)) rfl
theorem k_2376 : (Jvm.Cond.selects "MachineLoomModel$Book" ({ cls := "MachineLoomModel$Book", name := "fits", desc := "(IJ)Z" } : Jvm.MethodName) ({ cls := "MachineLoomModel$Book", name := "fits", desc := "(IJ)Z" } : Jvm.MethodName)) ∈ ma := ma_of (tb_10 _ (List.mem_of_getElem? (i := 216) rfl)) rfl
theorem k_1912 : (Jvm.Cond.fieldLink "MachineLoomModel$Book" (485 : Nat) "MachineLoomModel$Book" "current" "I") ∈ ma := ma_of (tb_8 _ (List.mem_of_getElem? (i := 232) rfl)) rfl
theorem d_Book_decode_0 : decode b_Book_decode 0 = .ok (.iconst 0, 1) := by decide +kernel
theorem d_Book_decode_1 : decode b_Book_decode 1 = .ok (.istore_n 3, 1) := by decide +kernel
theorem d_Book_decode_2 : decode b_Book_decode 2 = .ok (.aload_n 0, 1) := by decide +kernel
theorem d_Book_decode_3 : decode b_Book_decode 3 = .ok (.iconst (-1), 1) := by decide +kernel
theorem d_Book_decode_4 : decode b_Book_decode 4 = .ok (.putfield 485, 3) := by decide +kernel
theorem d_Book_decode_7 : decode b_Book_decode 7 = .ok (.iconst 0, 1) := by decide +kernel
theorem d_Book_decode_8 : decode b_Book_decode 8 = .ok (.istore 4, 2) := by decide +kernel
theorem d_Book_decode_10 : decode b_Book_decode 10 = .ok (.iload 4, 2) := by decide +kernel
theorem d_Book_decode_12 : decode b_Book_decode 12 = .ok (.aload_n 0, 1) := by decide +kernel
theorem d_Book_decode_13 : decode b_Book_decode 13 = .ok (.getfield 238, 3) := by decide +kernel
theorem d_Book_decode_16 : decode b_Book_decode 16 = .ok (.if_icmp .ge (35), 3) := by decide +kernel
theorem d_Book_decode_19 : decode b_Book_decode 19 = .ok (.aload_n 0, 1) := by decide +kernel
theorem d_Book_decode_20 : decode b_Book_decode 20 = .ok (.iload 4, 2) := by decide +kernel
theorem d_Book_decode_22 : decode b_Book_decode 22 = .ok (.lload_n 1, 1) := by decide +kernel
theorem d_Book_decode_23 : decode b_Book_decode 23 = .ok (.invokevirtual 517, 3) := by decide +kernel
theorem d_Book_decode_26 : decode b_Book_decode 26 = .ok (.ifCond .ne (6), 3) := by decide +kernel
theorem d_Book_decode_29 : decode b_Book_decode 29 = .ok (.goto (16), 3) := by decide +kernel
theorem d_Book_decode_32 : decode b_Book_decode 32 = .ok (.iload_n 3, 1) := by decide +kernel
theorem d_Book_decode_33 : decode b_Book_decode 33 = .ok (.ifCond .ne (9), 3) := by decide +kernel
theorem d_Book_decode_36 : decode b_Book_decode 36 = .ok (.aload_n 0, 1) := by decide +kernel
theorem d_Book_decode_37 : decode b_Book_decode 37 = .ok (.iload 4, 2) := by decide +kernel
theorem d_Book_decode_39 : decode b_Book_decode 39 = .ok (.putfield 485, 3) := by decide +kernel
theorem d_Book_decode_42 : decode b_Book_decode 42 = .ok (.iinc 3 (1), 3) := by decide +kernel
theorem d_Book_decode_45 : decode b_Book_decode 45 = .ok (.iinc 4 (1), 3) := by decide +kernel
theorem d_Book_decode_48 : decode b_Book_decode 48 = .ok (.goto (-38), 3) := by decide +kernel
theorem d_Book_decode_51 : decode b_Book_decode 51 = .ok (.iload_n 3, 1) := by decide +kernel
theorem d_Book_decode_52 : decode b_Book_decode 52 = .ok (.ireturn, 1) := by decide +kernel
set_option maxHeartbeats 4000000 in
set_option maxRecDepth 100000 in
theorem c_Book_decode_x (l : Launch) {dA : FieldType → ClassId} {D : va_G} {al : Nat → Nat} {ext : mv_Sh} {sk sv : Nat → Nat} (hi : mv_inj (mg dA D al ext)) (σ : mv_H) (w9 : Int64) (k : Nat) (hmr : mh (mv_r σ)) (hC : CO 74 k σ) : mv_C l y_Book_decode (Cond.code y_Book_decode b_Book_decode 5 (Option.some Jvm.ClassFile.FieldType.int) :: ma) ({ frames := 1, cells := 0, slots := 0, locals := 25 }) (mg dA D al ext) (mK sk sv) [.ref (al 74), .long w9] σ (mv_Ri (fun v σ1 => MB 74 σ σ1 ∧ (mv_i σ1 74 63 = -1 ∨ (0 ≤ (mv_i σ1 74 63).toInt ∧ (mv_i σ1 74 63).toInt < k)))) := by
  refine mv_C.ofV (cc := b_Book_decode) (nL := 5) (ret := (Option.some Jvm.ClassFile.FieldType.int)) (by decide +kernel) rfl hi (Nat.le_of_ble_eq_true rfl) ?_
  intro p e s m below meth c B hNs hr hnm hno
  have lp : ∀ (nn : Nat) (τ : mv_H) (i9 : Int32) (n9 : Int32) (hF : MB 74 σ τ) (hc9 : mv_i τ 74 63 = -1 ∨ (0 ≤ (mv_i τ 74 63).toInt ∧ (mv_i τ 74 63).toInt < k)) (q0 : 0 ≤ i9.toInt), (20000 - i9.toInt).toNat < nn → mv_V p l e ({ frames := 1, cells := 0, slots := 0, locals := 25 }) s m ([.ref (al 74), .long w9] : List Value).toArray below meth c (mg dA D al ext) 5 0 0 (mv_Q (mg dA D al ext) below s 0 0 (mv_Ri (fun v σ1 => MB 74 σ σ1 ∧ (mv_i σ1 74 63 = -1 ∨ (0 ≤ (mv_i σ1 74 63).toInt ∧ (mv_i σ1 74 63).toInt < k))))) τ 10 [(4, .int i9), (3, .int n9), (0, .ref (al 74)), (1, .long w9)] [] := by
    intro nn
    induction nn with
    | zero => intro τ i9 n9 hF hc9 q0 hm; exact absurd hm (Nat.not_lt_zero _)
    | succ nn ih =>
      intro τ i9 n9 hF hc9 q0 hm
      have hmt : mh (mv_r τ) := by rw [hF.2.2.1]; exact hmr
      have hCt : CO 74 k τ := hC.fr (hF.1 _ _ (by omega)) (hF.1 _ _ (by omega)) (fun j => hF.2.2.2.1 _ _ (by omega))
      refine mv_iload (pc := 10) B d_Book_decode_10 0 rfl ?_
      refine mv_aload_n (pc := 12) B d_Book_decode_12 rfl 2 rfl ?_
      refine mv_getI (pc := 13) (ci := 12) (C := R_Book) (T := F_Book) (N := 65) B 29 rfl rfl (by decide) i_Book (B.2.2.2.1 _ k_1874) rfl d_Book_decode_13 ?_
      refine mv_icmp_ge (pc := 16) (tgt := 51) B d_Book_decode_16 rfl (fun h16 => ?_) (fun h16 => ?_)
      · skip
        refine mv_iload_n (pc := 51) B d_Book_decode_51 rfl 1 rfl ?_
        exact mv_iret (pc := 52) B hr rfl d_Book_decode_52 (Nat.le_refl _) (Nat.le_refl _) ⟨_, rfl, hF, hc9⟩
      · skip
        rw [Int32.le_iff_toInt_le] at h16
        have hk1 := hCt.1
        have hk2 := hCt.2.1
        have w2 : (i9 + 1).toInt = i9.toInt + 1 := i32_inc (by omega)
        refine mv_aload_n (pc := 19) B d_Book_decode_19 rfl 2 rfl ?_
        refine mv_iload (pc := 20) B d_Book_decode_20 0 rfl ?_
        refine mv_lload_n (pc := 22) B d_Book_decode_22 rfl 3 rfl ?_
        refine mv_callVi (pc := 23) (n := 2) (ci := 12) (C := R_Book) B (mK_ok sk sv) hNs rfl rfl (c_Book_fits_1_x l hi _ _ _ k hmt hCt q0 (by omega)) rfl (ma_goodc kc_Book_fits_1) (B.2.2.2.1 _ k_2374) (B.2.2.2.1 _ k_2375) (B.2.2.2.1 _ k_2376) (B.2.2.2.1 _ k_13) ⟨by decide +kernel, by decide +kernel, by decide +kernel⟩ rfl d_Book_decode_23 rfl (Nat.le_of_ble_eq_true rfl) ⟨by decide, by decide⟩ ⟨by decide, by decide⟩ ⟨by decide, by decide⟩ (mv_noH hno _) (fun v23 σ23 h23 => ?_)
        have e23 := h23.symm
        subst e23
        refine mv_if_ne (pc := 26) (tgt := 32) B d_Book_decode_26 rfl (fun h26 => ?_) (fun h26 => ?_)
        · skip
          refine mv_iload_n (pc := 32) B d_Book_decode_32 rfl 1 rfl ?_
          refine mv_if_ne (pc := 33) (tgt := 42) B d_Book_decode_33 rfl (fun h33 => ?_) (fun h33 => ?_)
          · skip
            refine mv_iinc (pc := 42) (j := 1) (v := 1) B d_Book_decode_42 rfl (by decide) (by decide) rfl ?_
            refine mv_iinc (pc := 45) (j := 1) (v := 1) B d_Book_decode_45 rfl (by decide) (by decide) rfl ?_
            refine mv_goto (pc := 48) (tgt := 10) B d_Book_decode_48 rfl ?_
            refine mv_lpick [0, 1, 2, 3] rfl ?_
            exact ih _ _ _ hF hc9 (by omega) (by omega)
          · skip
            refine mv_aload_n (pc := 36) B d_Book_decode_36 rfl 2 rfl ?_
            refine mv_iload (pc := 37) B d_Book_decode_37 0 rfl ?_
            refine mv_putI (pc := 39) (ci := 12) (C := R_Book) (T := F_Book) (N := 65) B 63 rfl rfl (by decide) i_Book t_Book_ok n_Book (B.2.2.2.1 _ k_1912) rfl rfl rfl rfl d_Book_decode_39 ?_
            refine mv_iinc (pc := 42) (j := 1) (v := 1) B d_Book_decode_42 rfl (by decide) (by decide) rfl ?_
            refine mv_iinc (pc := 45) (j := 1) (v := 1) B d_Book_decode_45 rfl (by decide) (by decide) rfl ?_
            refine mv_goto (pc := 48) (tgt := 10) B d_Book_decode_48 rfl ?_
            refine mv_lpick [0, 1, 2, 3] rfl ?_
            exact ih _ _ _ (hF.si ⟨rfl, Or.inr (Or.inr (Or.inr rfl))⟩) (Or.inr (by show 0 ≤ i9.toInt ∧ i9.toInt < k; omega)) (by omega) (by omega)
        · skip
          refine mv_goto (pc := 29) (tgt := 45) B d_Book_decode_29 rfl ?_
          refine mv_iinc (pc := 45) (j := 0) (v := 1) B d_Book_decode_45 rfl (by decide) (by decide) rfl ?_
          refine mv_goto (pc := 48) (tgt := 10) B d_Book_decode_48 rfl ?_
          refine mv_lpick [0, 1, 2, 3] rfl ?_
          exact ih _ _ _ hF hc9 (by omega) (by omega)
  refine mv_iconst (pc := 0) (v := 0) B d_Book_decode_0 (by decide) ?_
  refine mv_istore_n (pc := 1) B d_Book_decode_1 rfl (by decide) rfl ?_
  refine mv_aload_n (pc := 2) B d_Book_decode_2 rfl 1 rfl ?_
  refine mv_iconst (pc := 3) (v := -1) B d_Book_decode_3 (by decide) ?_
  refine mv_putI (pc := 4) (ci := 12) (C := R_Book) (T := F_Book) (N := 65) B 63 rfl rfl (by decide) i_Book t_Book_ok n_Book (B.2.2.2.1 _ k_1912) rfl rfl rfl rfl d_Book_decode_4 ?_
  refine mv_iconst (pc := 7) (v := 0) B d_Book_decode_7 (by decide) ?_
  refine mv_istore (pc := 8) B d_Book_decode_8 (by decide) rfl ?_
  refine mv_lpick [0, 1, 2, 3] rfl ?_
  exact lp _ _ _ _ (Fx.rf.si ⟨rfl, Or.inr (Or.inr (Or.inr rfl))⟩) (Or.inl rfl) (by decide) (Nat.lt_succ_self _)
set_option maxHeartbeats 4000000 in
set_option maxRecDepth 100000 in
theorem c_Book_decode_y (l : Launch) {dA : FieldType → ClassId} {D : va_G} {al : Nat → Nat} {ext : mv_Sh} {sk sv : Nat → Nat} (hi : mv_inj (mg dA D al ext)) (σ : mv_H) (w9 : Int64) (k : Nat) (hmr : mh (mv_r σ)) (hC : CO 108 k σ) : mv_C l y_Book_decode (Cond.code y_Book_decode b_Book_decode 5 (Option.some Jvm.ClassFile.FieldType.int) :: ma) ({ frames := 1, cells := 0, slots := 0, locals := 25 }) (mg dA D al ext) (mK sk sv) [.ref (al 108), .long w9] σ (mv_Ri (fun v σ1 => MB 108 σ σ1 ∧ (mv_i σ1 108 63 = -1 ∨ (0 ≤ (mv_i σ1 108 63).toInt ∧ (mv_i σ1 108 63).toInt < k)))) := by
  refine mv_C.ofV (cc := b_Book_decode) (nL := 5) (ret := (Option.some Jvm.ClassFile.FieldType.int)) (by decide +kernel) rfl hi (Nat.le_of_ble_eq_true rfl) ?_
  intro p e s m below meth c B hNs hr hnm hno
  have lp : ∀ (nn : Nat) (τ : mv_H) (i9 : Int32) (n9 : Int32) (hF : MB 108 σ τ) (hc9 : mv_i τ 108 63 = -1 ∨ (0 ≤ (mv_i τ 108 63).toInt ∧ (mv_i τ 108 63).toInt < k)) (q0 : 0 ≤ i9.toInt), (20000 - i9.toInt).toNat < nn → mv_V p l e ({ frames := 1, cells := 0, slots := 0, locals := 25 }) s m ([.ref (al 108), .long w9] : List Value).toArray below meth c (mg dA D al ext) 5 0 0 (mv_Q (mg dA D al ext) below s 0 0 (mv_Ri (fun v σ1 => MB 108 σ σ1 ∧ (mv_i σ1 108 63 = -1 ∨ (0 ≤ (mv_i σ1 108 63).toInt ∧ (mv_i σ1 108 63).toInt < k))))) τ 10 [(4, .int i9), (3, .int n9), (0, .ref (al 108)), (1, .long w9)] [] := by
    intro nn
    induction nn with
    | zero => intro τ i9 n9 hF hc9 q0 hm; exact absurd hm (Nat.not_lt_zero _)
    | succ nn ih =>
      intro τ i9 n9 hF hc9 q0 hm
      have hmt : mh (mv_r τ) := by rw [hF.2.2.1]; exact hmr
      have hCt : CO 108 k τ := hC.fr (hF.1 _ _ (by omega)) (hF.1 _ _ (by omega)) (fun j => hF.2.2.2.1 _ _ (by omega))
      refine mv_iload (pc := 10) B d_Book_decode_10 0 rfl ?_
      refine mv_aload_n (pc := 12) B d_Book_decode_12 rfl 2 rfl ?_
      refine mv_getI (pc := 13) (ci := 12) (C := R_Book) (T := F_Book) (N := 65) B 29 rfl rfl (by decide) i_Book (B.2.2.2.1 _ k_1874) rfl d_Book_decode_13 ?_
      refine mv_icmp_ge (pc := 16) (tgt := 51) B d_Book_decode_16 rfl (fun h16 => ?_) (fun h16 => ?_)
      · skip
        refine mv_iload_n (pc := 51) B d_Book_decode_51 rfl 1 rfl ?_
        exact mv_iret (pc := 52) B hr rfl d_Book_decode_52 (Nat.le_refl _) (Nat.le_refl _) ⟨_, rfl, hF, hc9⟩
      · skip
        rw [Int32.le_iff_toInt_le] at h16
        have hk1 := hCt.1
        have hk2 := hCt.2.1
        have w2 : (i9 + 1).toInt = i9.toInt + 1 := i32_inc (by omega)
        refine mv_aload_n (pc := 19) B d_Book_decode_19 rfl 2 rfl ?_
        refine mv_iload (pc := 20) B d_Book_decode_20 0 rfl ?_
        refine mv_lload_n (pc := 22) B d_Book_decode_22 rfl 3 rfl ?_
        refine mv_callVi (pc := 23) (n := 2) (ci := 12) (C := R_Book) B (mK_ok sk sv) hNs rfl rfl (c_Book_fits_1_y l hi _ _ _ k hmt hCt q0 (by omega)) rfl (ma_goodc kc_Book_fits_1) (B.2.2.2.1 _ k_2374) (B.2.2.2.1 _ k_2375) (B.2.2.2.1 _ k_2376) (B.2.2.2.1 _ k_13) ⟨by decide +kernel, by decide +kernel, by decide +kernel⟩ rfl d_Book_decode_23 rfl (Nat.le_of_ble_eq_true rfl) ⟨by decide, by decide⟩ ⟨by decide, by decide⟩ ⟨by decide, by decide⟩ (mv_noH hno _) (fun v23 σ23 h23 => ?_)
        have e23 := h23.symm
        subst e23
        refine mv_if_ne (pc := 26) (tgt := 32) B d_Book_decode_26 rfl (fun h26 => ?_) (fun h26 => ?_)
        · skip
          refine mv_iload_n (pc := 32) B d_Book_decode_32 rfl 1 rfl ?_
          refine mv_if_ne (pc := 33) (tgt := 42) B d_Book_decode_33 rfl (fun h33 => ?_) (fun h33 => ?_)
          · skip
            refine mv_iinc (pc := 42) (j := 1) (v := 1) B d_Book_decode_42 rfl (by decide) (by decide) rfl ?_
            refine mv_iinc (pc := 45) (j := 1) (v := 1) B d_Book_decode_45 rfl (by decide) (by decide) rfl ?_
            refine mv_goto (pc := 48) (tgt := 10) B d_Book_decode_48 rfl ?_
            refine mv_lpick [0, 1, 2, 3] rfl ?_
            exact ih _ _ _ hF hc9 (by omega) (by omega)
          · skip
            refine mv_aload_n (pc := 36) B d_Book_decode_36 rfl 2 rfl ?_
            refine mv_iload (pc := 37) B d_Book_decode_37 0 rfl ?_
            refine mv_putI (pc := 39) (ci := 12) (C := R_Book) (T := F_Book) (N := 65) B 63 rfl rfl (by decide) i_Book t_Book_ok n_Book (B.2.2.2.1 _ k_1912) rfl rfl rfl rfl d_Book_decode_39 ?_
            refine mv_iinc (pc := 42) (j := 1) (v := 1) B d_Book_decode_42 rfl (by decide) (by decide) rfl ?_
            refine mv_iinc (pc := 45) (j := 1) (v := 1) B d_Book_decode_45 rfl (by decide) (by decide) rfl ?_
            refine mv_goto (pc := 48) (tgt := 10) B d_Book_decode_48 rfl ?_
            refine mv_lpick [0, 1, 2, 3] rfl ?_
            exact ih _ _ _ (hF.si ⟨rfl, Or.inr (Or.inr (Or.inr rfl))⟩) (Or.inr (by show 0 ≤ i9.toInt ∧ i9.toInt < k; omega)) (by omega) (by omega)
        · skip
          refine mv_goto (pc := 29) (tgt := 45) B d_Book_decode_29 rfl ?_
          refine mv_iinc (pc := 45) (j := 0) (v := 1) B d_Book_decode_45 rfl (by decide) (by decide) rfl ?_
          refine mv_goto (pc := 48) (tgt := 10) B d_Book_decode_48 rfl ?_
          refine mv_lpick [0, 1, 2, 3] rfl ?_
          exact ih _ _ _ hF hc9 (by omega) (by omega)
  refine mv_iconst (pc := 0) (v := 0) B d_Book_decode_0 (by decide) ?_
  refine mv_istore_n (pc := 1) B d_Book_decode_1 rfl (by decide) rfl ?_
  refine mv_aload_n (pc := 2) B d_Book_decode_2 rfl 1 rfl ?_
  refine mv_iconst (pc := 3) (v := -1) B d_Book_decode_3 (by decide) ?_
  refine mv_putI (pc := 4) (ci := 12) (C := R_Book) (T := F_Book) (N := 65) B 63 rfl rfl (by decide) i_Book t_Book_ok n_Book (B.2.2.2.1 _ k_1912) rfl rfl rfl rfl d_Book_decode_4 ?_
  refine mv_iconst (pc := 7) (v := 0) B d_Book_decode_7 (by decide) ?_
  refine mv_istore (pc := 8) B d_Book_decode_8 (by decide) rfl ?_
  refine mv_lpick [0, 1, 2, 3] rfl ?_
  exact lp _ _ _ _ (Fx.rf.si ⟨rfl, Or.inr (Or.inr (Or.inr rfl))⟩) (Or.inl rfl) (by decide) (Nat.lt_succ_self _)
def y_Book_op : MethodName := ⟨"MachineLoomModel$Book", "op", "()I"⟩
abbrev b_Book_op : ByteArray := prog_15_method_73_code
theorem kc_Book_op : Cond.code y_Book_op b_Book_op 1 (Option.some Jvm.ClassFile.FieldType.int) ∈ ma := ma_of (tb_10 _ (List.mem_of_getElem? (i := 221) rfl)) rfl
theorem d_Book_op_0 : decode b_Book_op 0 = .ok (.aload_n 0, 1) := by decide +kernel
theorem d_Book_op_1 : decode b_Book_op 1 = .ok (.getfield 485, 3) := by decide +kernel
theorem d_Book_op_4 : decode b_Book_op 4 = .ok (.ireturn, 1) := by decide +kernel
set_option maxHeartbeats 4000000 in
set_option maxRecDepth 100000 in
theorem c_Book_op_x (l : Launch) {dA : FieldType → ClassId} {D : va_G} {al : Nat → Nat} {ext : mv_Sh} {sk sv : Nat → Nat} (hi : mv_inj (mg dA D al ext)) (σ : mv_H)  : mv_C l y_Book_op (Cond.code y_Book_op b_Book_op 1 (Option.some Jvm.ClassFile.FieldType.int) :: ma) ({ frames := 0, cells := 0, slots := 0, locals := 0 }) (mg dA D al ext) (mK sk sv) [.ref (al 74)] σ (mv_Ri (fun v σ1 => σ1 = σ)) := by
  refine mv_C.ofV (cc := b_Book_op) (nL := 1) (ret := (Option.some Jvm.ClassFile.FieldType.int)) (by decide +kernel) rfl hi (Nat.le_of_ble_eq_true rfl) ?_
  intro p e s m below meth c B hNs hr hnm hno
  refine mv_aload_n (pc := 0) B d_Book_op_0 rfl 0 rfl ?_
  refine mv_getI (pc := 1) (ci := 12) (C := R_Book) (T := F_Book) (N := 65) B 63 rfl rfl (by decide) i_Book (B.2.2.2.1 _ k_1912) rfl d_Book_op_1 ?_
  exact mv_iret (pc := 4) B hr rfl d_Book_op_4 (Nat.le_refl _) (Nat.le_refl _) ⟨_, rfl, rfl⟩
set_option maxHeartbeats 4000000 in
set_option maxRecDepth 100000 in
theorem c_Book_op_y (l : Launch) {dA : FieldType → ClassId} {D : va_G} {al : Nat → Nat} {ext : mv_Sh} {sk sv : Nat → Nat} (hi : mv_inj (mg dA D al ext)) (σ : mv_H)  : mv_C l y_Book_op (Cond.code y_Book_op b_Book_op 1 (Option.some Jvm.ClassFile.FieldType.int) :: ma) ({ frames := 0, cells := 0, slots := 0, locals := 0 }) (mg dA D al ext) (mK sk sv) [.ref (al 108)] σ (mv_Ri (fun v σ1 => σ1 = σ)) := by
  refine mv_C.ofV (cc := b_Book_op) (nL := 1) (ret := (Option.some Jvm.ClassFile.FieldType.int)) (by decide +kernel) rfl hi (Nat.le_of_ble_eq_true rfl) ?_
  intro p e s m below meth c B hNs hr hnm hno
  refine mv_aload_n (pc := 0) B d_Book_op_0 rfl 0 rfl ?_
  refine mv_getI (pc := 1) (ci := 12) (C := R_Book) (T := F_Book) (N := 65) B 63 rfl rfl (by decide) i_Book (B.2.2.2.1 _ k_1912) rfl d_Book_op_1 ?_
  exact mv_iret (pc := 4) B hr rfl d_Book_op_4 (Nat.le_refl _) (Nat.le_refl _) ⟨_, rfl, rfl⟩
def y_Book_fetched : MethodName := ⟨"MachineLoomModel$Book", "fetched", "()J"⟩
abbrev b_Book_fetched : ByteArray := prog_15_method_76_code
theorem kc_Book_fetched : Cond.code y_Book_fetched b_Book_fetched 1 (Option.some Jvm.ClassFile.FieldType.long) ∈ ma := ma_of (tb_11 _ (List.mem_of_getElem? (i := 173) rfl)) rfl
theorem k_1913 : (Jvm.Cond.fieldLink "MachineLoomModel$Book" (520 : Nat) "MachineLoomModel$Book" "fetched" "J") ∈ ma := ma_of (tb_8 _ (List.mem_of_getElem? (i := 233) rfl)) rfl
theorem d_Book_fetched_0 : decode b_Book_fetched 0 = .ok (.aload_n 0, 1) := by decide +kernel
theorem d_Book_fetched_1 : decode b_Book_fetched 1 = .ok (.getfield 520, 3) := by decide +kernel
theorem d_Book_fetched_4 : decode b_Book_fetched 4 = .ok (.lreturn, 1) := by decide +kernel
set_option maxHeartbeats 4000000 in
set_option maxRecDepth 100000 in
theorem c_Book_fetched_x (l : Launch) {dA : FieldType → ClassId} {D : va_G} {al : Nat → Nat} {ext : mv_Sh} {sk sv : Nat → Nat} (hi : mv_inj (mg dA D al ext)) (σ : mv_H)  : mv_C l y_Book_fetched (Cond.code y_Book_fetched b_Book_fetched 1 (Option.some Jvm.ClassFile.FieldType.long) :: ma) ({ frames := 0, cells := 0, slots := 0, locals := 0 }) (mg dA D al ext) (mK sk sv) [.ref (al 74)] σ (mv_Rl (fun v σ1 => σ1 = σ)) := by
  refine mv_C.ofV (cc := b_Book_fetched) (nL := 1) (ret := (Option.some Jvm.ClassFile.FieldType.long)) (by decide +kernel) rfl hi (Nat.le_of_ble_eq_true rfl) ?_
  intro p e s m below meth c B hNs hr hnm hno
  refine mv_aload_n (pc := 0) B d_Book_fetched_0 rfl 0 rfl ?_
  refine mv_getL (pc := 1) (ci := 12) (C := R_Book) (T := F_Book) (N := 65) B 64 rfl rfl (by decide) i_Book (B.2.2.2.1 _ k_1913) rfl d_Book_fetched_1 ?_
  exact mv_lret (pc := 4) B hr d_Book_fetched_4 (Nat.le_refl _) (Nat.le_refl _) ⟨_, rfl, rfl⟩
set_option maxHeartbeats 4000000 in
set_option maxRecDepth 100000 in
theorem c_Book_fetched_y (l : Launch) {dA : FieldType → ClassId} {D : va_G} {al : Nat → Nat} {ext : mv_Sh} {sk sv : Nat → Nat} (hi : mv_inj (mg dA D al ext)) (σ : mv_H)  : mv_C l y_Book_fetched (Cond.code y_Book_fetched b_Book_fetched 1 (Option.some Jvm.ClassFile.FieldType.long) :: ma) ({ frames := 0, cells := 0, slots := 0, locals := 0 }) (mg dA D al ext) (mK sk sv) [.ref (al 108)] σ (mv_Rl (fun v σ1 => σ1 = σ)) := by
  refine mv_C.ofV (cc := b_Book_fetched) (nL := 1) (ret := (Option.some Jvm.ClassFile.FieldType.long)) (by decide +kernel) rfl hi (Nat.le_of_ble_eq_true rfl) ?_
  intro p e s m below meth c B hNs hr hnm hno
  refine mv_aload_n (pc := 0) B d_Book_fetched_0 rfl 0 rfl ?_
  refine mv_getL (pc := 1) (ci := 12) (C := R_Book) (T := F_Book) (N := 65) B 64 rfl rfl (by decide) i_Book (B.2.2.2.1 _ k_1913) rfl d_Book_fetched_1 ?_
  exact mv_lret (pc := 4) B hr d_Book_fetched_4 (Nat.le_refl _) (Nat.le_refl _) ⟨_, rfl, rfl⟩
def y_Book_lengthOf : MethodName := ⟨"MachineLoomModel$Book", "lengthOf", "()I"⟩
abbrev b_Book_lengthOf : ByteArray := prog_15_method_82_code
theorem kc_Book_lengthOf : Cond.code y_Book_lengthOf b_Book_lengthOf 1 (Option.some Jvm.ClassFile.FieldType.int) ∈ ma := ma_of (tb_11 _ (List.mem_of_getElem? (i := 205) rfl)) rfl
theorem d_Book_lengthOf_0 : decode b_Book_lengthOf 0 = .ok (.aload_n 0, 1) := by decide +kernel
theorem d_Book_lengthOf_1 : decode b_Book_lengthOf 1 = .ok (.getfield 43, 3) := by decide +kernel
theorem d_Book_lengthOf_4 : decode b_Book_lengthOf 4 = .ok (.ireturn, 1) := by decide +kernel
set_option maxHeartbeats 4000000 in
set_option maxRecDepth 100000 in
theorem c_Book_lengthOf_x (l : Launch) {dA : FieldType → ClassId} {D : va_G} {al : Nat → Nat} {ext : mv_Sh} {sk sv : Nat → Nat} (hi : mv_inj (mg dA D al ext)) (σ : mv_H)  : mv_C l y_Book_lengthOf (Cond.code y_Book_lengthOf b_Book_lengthOf 1 (Option.some Jvm.ClassFile.FieldType.int) :: ma) ({ frames := 0, cells := 0, slots := 0, locals := 0 }) (mg dA D al ext) (mK sk sv) [.ref (al 74)] σ (mv_Ri (fun v σ1 => σ1 = σ)) := by
  refine mv_C.ofV (cc := b_Book_lengthOf) (nL := 1) (ret := (Option.some Jvm.ClassFile.FieldType.int)) (by decide +kernel) rfl hi (Nat.le_of_ble_eq_true rfl) ?_
  intro p e s m below meth c B hNs hr hnm hno
  refine mv_aload_n (pc := 0) B d_Book_lengthOf_0 rfl 0 rfl ?_
  refine mv_getI (pc := 1) (ci := 12) (C := R_Book) (T := F_Book) (N := 65) B 20 rfl rfl (by decide) i_Book (B.2.2.2.1 _ k_1865) rfl d_Book_lengthOf_1 ?_
  exact mv_iret (pc := 4) B hr rfl d_Book_lengthOf_4 (Nat.le_refl _) (Nat.le_refl _) ⟨_, rfl, rfl⟩
set_option maxHeartbeats 4000000 in
set_option maxRecDepth 100000 in
theorem c_Book_lengthOf_y (l : Launch) {dA : FieldType → ClassId} {D : va_G} {al : Nat → Nat} {ext : mv_Sh} {sk sv : Nat → Nat} (hi : mv_inj (mg dA D al ext)) (σ : mv_H)  : mv_C l y_Book_lengthOf (Cond.code y_Book_lengthOf b_Book_lengthOf 1 (Option.some Jvm.ClassFile.FieldType.int) :: ma) ({ frames := 0, cells := 0, slots := 0, locals := 0 }) (mg dA D al ext) (mK sk sv) [.ref (al 108)] σ (mv_Ri (fun v σ1 => σ1 = σ)) := by
  refine mv_C.ofV (cc := b_Book_lengthOf) (nL := 1) (ret := (Option.some Jvm.ClassFile.FieldType.int)) (by decide +kernel) rfl hi (Nat.le_of_ble_eq_true rfl) ?_
  intro p e s m below meth c B hNs hr hnm hno
  refine mv_aload_n (pc := 0) B d_Book_lengthOf_0 rfl 0 rfl ?_
  refine mv_getI (pc := 1) (ci := 12) (C := R_Book) (T := F_Book) (N := 65) B 20 rfl rfl (by decide) i_Book (B.2.2.2.1 _ k_1865) rfl d_Book_lengthOf_1 ?_
  exact mv_iret (pc := 4) B hr rfl d_Book_lengthOf_4 (Nat.le_refl _) (Nat.le_refl _) ⟨_, rfl, rfl⟩
def y_Book_cellsOfAll : MethodName := ⟨"MachineLoomModel$Book", "cellsOfAll", "()I"⟩
abbrev b_Book_cellsOfAll : ByteArray := prog_15_method_83_code
theorem kc_Book_cellsOfAll : Cond.code y_Book_cellsOfAll b_Book_cellsOfAll 1 (Option.some Jvm.ClassFile.FieldType.int) ∈ ma := ma_of (tb_11 _ (List.mem_of_getElem? (i := 210) rfl)) rfl
theorem d_Book_cellsOfAll_0 : decode b_Book_cellsOfAll 0 = .ok (.aload_n 0, 1) := by decide +kernel
theorem d_Book_cellsOfAll_1 : decode b_Book_cellsOfAll 1 = .ok (.getfield 367, 3) := by decide +kernel
theorem d_Book_cellsOfAll_4 : decode b_Book_cellsOfAll 4 = .ok (.ireturn, 1) := by decide +kernel
set_option maxHeartbeats 4000000 in
set_option maxRecDepth 100000 in
theorem c_Book_cellsOfAll_x (l : Launch) {dA : FieldType → ClassId} {D : va_G} {al : Nat → Nat} {ext : mv_Sh} {sk sv : Nat → Nat} (hi : mv_inj (mg dA D al ext)) (σ : mv_H)  : mv_C l y_Book_cellsOfAll (Cond.code y_Book_cellsOfAll b_Book_cellsOfAll 1 (Option.some Jvm.ClassFile.FieldType.int) :: ma) ({ frames := 0, cells := 0, slots := 0, locals := 0 }) (mg dA D al ext) (mK sk sv) [.ref (al 74)] σ (mv_Ri (fun v σ1 => σ1 = σ)) := by
  refine mv_C.ofV (cc := b_Book_cellsOfAll) (nL := 1) (ret := (Option.some Jvm.ClassFile.FieldType.int)) (by decide +kernel) rfl hi (Nat.le_of_ble_eq_true rfl) ?_
  intro p e s m below meth c B hNs hr hnm hno
  refine mv_aload_n (pc := 0) B d_Book_cellsOfAll_0 rfl 0 rfl ?_
  refine mv_getI (pc := 1) (ci := 12) (C := R_Book) (T := F_Book) (N := 65) B 19 rfl rfl (by decide) i_Book (B.2.2.2.1 _ k_1864) rfl d_Book_cellsOfAll_1 ?_
  exact mv_iret (pc := 4) B hr rfl d_Book_cellsOfAll_4 (Nat.le_refl _) (Nat.le_refl _) ⟨_, rfl, rfl⟩
set_option maxHeartbeats 4000000 in
set_option maxRecDepth 100000 in
theorem c_Book_cellsOfAll_y (l : Launch) {dA : FieldType → ClassId} {D : va_G} {al : Nat → Nat} {ext : mv_Sh} {sk sv : Nat → Nat} (hi : mv_inj (mg dA D al ext)) (σ : mv_H)  : mv_C l y_Book_cellsOfAll (Cond.code y_Book_cellsOfAll b_Book_cellsOfAll 1 (Option.some Jvm.ClassFile.FieldType.int) :: ma) ({ frames := 0, cells := 0, slots := 0, locals := 0 }) (mg dA D al ext) (mK sk sv) [.ref (al 108)] σ (mv_Ri (fun v σ1 => σ1 = σ)) := by
  refine mv_C.ofV (cc := b_Book_cellsOfAll) (nL := 1) (ret := (Option.some Jvm.ClassFile.FieldType.int)) (by decide +kernel) rfl hi (Nat.le_of_ble_eq_true rfl) ?_
  intro p e s m below meth c B hNs hr hnm hno
  refine mv_aload_n (pc := 0) B d_Book_cellsOfAll_0 rfl 0 rfl ?_
  refine mv_getI (pc := 1) (ci := 12) (C := R_Book) (T := F_Book) (N := 65) B 19 rfl rfl (by decide) i_Book (B.2.2.2.1 _ k_1864) rfl d_Book_cellsOfAll_1 ?_
  exact mv_iret (pc := 4) B hr rfl d_Book_cellsOfAll_4 (Nat.le_refl _) (Nat.le_refl _) ⟨_, rfl, rfl⟩
def y_Book_cellsOf : MethodName := ⟨"MachineLoomModel$Book", "cellsOf", "(I)I"⟩
abbrev b_Book_cellsOf : ByteArray := prog_15_method_80_code
theorem kc_Book_cellsOf : Cond.code y_Book_cellsOf b_Book_cellsOf 2 (Option.some Jvm.ClassFile.FieldType.int) ∈ ma := ma_of (tb_11 _ (List.mem_of_getElem? (i := 22) rfl)) rfl
theorem d_Book_cellsOf_0 : decode b_Book_cellsOf 0 = .ok (.aload_n 0, 1) := by decide +kernel
theorem d_Book_cellsOf_1 : decode b_Book_cellsOf 1 = .ok (.getfield 32, 3) := by decide +kernel
theorem d_Book_cellsOf_4 : decode b_Book_cellsOf 4 = .ok (.iload_n 1, 1) := by decide +kernel
theorem d_Book_cellsOf_5 : decode b_Book_cellsOf 5 = .ok (.baload, 1) := by decide +kernel
theorem d_Book_cellsOf_6 : decode b_Book_cellsOf 6 = .ok (.ifCond .eq (12), 3) := by decide +kernel
theorem d_Book_cellsOf_9 : decode b_Book_cellsOf 9 = .ok (.aload_n 0, 1) := by decide +kernel
theorem d_Book_cellsOf_10 : decode b_Book_cellsOf 10 = .ok (.getfield 26, 3) := by decide +kernel
theorem d_Book_cellsOf_13 : decode b_Book_cellsOf 13 = .ok (.iload_n 1, 1) := by decide +kernel
theorem d_Book_cellsOf_14 : decode b_Book_cellsOf 14 = .ok (.iaload, 1) := by decide +kernel
theorem d_Book_cellsOf_15 : decode b_Book_cellsOf 15 = .ok (.goto (4), 3) := by decide +kernel
theorem d_Book_cellsOf_18 : decode b_Book_cellsOf 18 = .ok (.iconst 0, 1) := by decide +kernel
theorem d_Book_cellsOf_19 : decode b_Book_cellsOf 19 = .ok (.ireturn, 1) := by decide +kernel
set_option maxHeartbeats 4000000 in
set_option maxRecDepth 100000 in
theorem c_Book_cellsOf_x (l : Launch) {dA : FieldType → ClassId} {D : va_G} {al : Nat → Nat} {ext : mv_Sh} {sk sv : Nat → Nat} (hi : mv_inj (mg dA D al ext)) (σ : mv_H) (t9 : Int32) (hmr : mh (mv_r σ)) (ht0 : 0 ≤ t9.toInt) (ht1 : t9.toInt < 64) : mv_C l y_Book_cellsOf (Cond.code y_Book_cellsOf b_Book_cellsOf 2 (Option.some Jvm.ClassFile.FieldType.int) :: ma) ({ frames := 0, cells := 0, slots := 0, locals := 0 }) (mg dA D al ext) (mK sk sv) [.ref (al 74), .int t9] σ (mv_Ri (fun v σ1 => σ1 = σ ∧ ((mv_a σ 80 t9.toNatClampNeg = 0 ∧ v = 0) ∨ (¬ mv_a σ 80 t9.toNatClampNeg = 0 ∧ v = mv_a σ 78 t9.toNatClampNeg)))) := by
  refine mv_C.ofV (cc := b_Book_cellsOf) (nL := 2) (ret := (Option.some Jvm.ClassFile.FieldType.int)) (by decide +kernel) rfl hi (Nat.le_of_ble_eq_true rfl) ?_
  intro p e s m below meth c B hNs hr hnm hno
  refine mv_aload_n (pc := 0) B d_Book_cellsOf_0 rfl 0 rfl ?_
  refine mv_getR (pc := 1) (ci := 12) (C := R_Book) (T := F_Book) (N := 65) B 15 rfl rfl (by decide) i_Book (B.2.2.2.1 _ k_1858) rfl (hmr _ 15 _ rfl) d_Book_cellsOf_1 ?_
  refine mv_iload_n (pc := 4) B d_Book_cellsOf_4 rfl 1 rfl ?_
  refine mv_zald (pc := 5) B rfl (i32_in ht0 (show t9.toInt < 4100 by omega)) d_Book_cellsOf_5 ?_
  refine mv_if_eq (pc := 6) (tgt := 18) B d_Book_cellsOf_6 rfl (fun h6 => ?_) (fun h6 => ?_)
  · skip
    refine mv_iconst (pc := 18) (v := 0) B d_Book_cellsOf_18 (by decide) ?_
    exact mv_iret (pc := 19) B hr rfl d_Book_cellsOf_19 (Nat.le_refl _) (Nat.le_refl _) ⟨_, rfl, rfl, by first | exact Or.inl ⟨h6, rfl⟩ | exact Or.inr ⟨h6, rfl⟩⟩
  · skip
    refine mv_aload_n (pc := 9) B d_Book_cellsOf_9 rfl 0 rfl ?_
    refine mv_getR (pc := 10) (ci := 12) (C := R_Book) (T := F_Book) (N := 65) B 13 rfl rfl (by decide) i_Book (B.2.2.2.1 _ k_1856) rfl (hmr _ 13 _ rfl) d_Book_cellsOf_10 ?_
    refine mv_iload_n (pc := 13) B d_Book_cellsOf_13 rfl 1 rfl ?_
    refine mv_iald (pc := 14) B rfl (i32_in ht0 (show t9.toInt < 4100 by omega)) d_Book_cellsOf_14 ?_
    refine mv_goto (pc := 15) (tgt := 19) B d_Book_cellsOf_15 rfl ?_
    exact mv_iret (pc := 19) B hr rfl d_Book_cellsOf_19 (Nat.le_refl _) (Nat.le_refl _) ⟨_, rfl, rfl, by first | exact Or.inl ⟨h6, rfl⟩ | exact Or.inr ⟨h6, rfl⟩⟩
set_option maxHeartbeats 4000000 in
set_option maxRecDepth 100000 in
theorem c_Book_cellsOf_y (l : Launch) {dA : FieldType → ClassId} {D : va_G} {al : Nat → Nat} {ext : mv_Sh} {sk sv : Nat → Nat} (hi : mv_inj (mg dA D al ext)) (σ : mv_H) (t9 : Int32) (hmr : mh (mv_r σ)) (ht0 : 0 ≤ t9.toInt) (ht1 : t9.toInt < 64) : mv_C l y_Book_cellsOf (Cond.code y_Book_cellsOf b_Book_cellsOf 2 (Option.some Jvm.ClassFile.FieldType.int) :: ma) ({ frames := 0, cells := 0, slots := 0, locals := 0 }) (mg dA D al ext) (mK sk sv) [.ref (al 108), .int t9] σ (mv_Ri (fun v σ1 => σ1 = σ ∧ ((mv_a σ 114 t9.toNatClampNeg = 0 ∧ v = 0) ∨ (¬ mv_a σ 114 t9.toNatClampNeg = 0 ∧ v = mv_a σ 112 t9.toNatClampNeg)))) := by
  refine mv_C.ofV (cc := b_Book_cellsOf) (nL := 2) (ret := (Option.some Jvm.ClassFile.FieldType.int)) (by decide +kernel) rfl hi (Nat.le_of_ble_eq_true rfl) ?_
  intro p e s m below meth c B hNs hr hnm hno
  refine mv_aload_n (pc := 0) B d_Book_cellsOf_0 rfl 0 rfl ?_
  refine mv_getR (pc := 1) (ci := 12) (C := R_Book) (T := F_Book) (N := 65) B 15 rfl rfl (by decide) i_Book (B.2.2.2.1 _ k_1858) rfl (hmr _ 15 _ rfl) d_Book_cellsOf_1 ?_
  refine mv_iload_n (pc := 4) B d_Book_cellsOf_4 rfl 1 rfl ?_
  refine mv_zald (pc := 5) B rfl (i32_in ht0 (show t9.toInt < 4100 by omega)) d_Book_cellsOf_5 ?_
  refine mv_if_eq (pc := 6) (tgt := 18) B d_Book_cellsOf_6 rfl (fun h6 => ?_) (fun h6 => ?_)
  · skip
    refine mv_iconst (pc := 18) (v := 0) B d_Book_cellsOf_18 (by decide) ?_
    exact mv_iret (pc := 19) B hr rfl d_Book_cellsOf_19 (Nat.le_refl _) (Nat.le_refl _) ⟨_, rfl, rfl, by first | exact Or.inl ⟨h6, rfl⟩ | exact Or.inr ⟨h6, rfl⟩⟩
  · skip
    refine mv_aload_n (pc := 9) B d_Book_cellsOf_9 rfl 0 rfl ?_
    refine mv_getR (pc := 10) (ci := 12) (C := R_Book) (T := F_Book) (N := 65) B 13 rfl rfl (by decide) i_Book (B.2.2.2.1 _ k_1856) rfl (hmr _ 13 _ rfl) d_Book_cellsOf_10 ?_
    refine mv_iload_n (pc := 13) B d_Book_cellsOf_13 rfl 1 rfl ?_
    refine mv_iald (pc := 14) B rfl (i32_in ht0 (show t9.toInt < 4100 by omega)) d_Book_cellsOf_14 ?_
    refine mv_goto (pc := 15) (tgt := 19) B d_Book_cellsOf_15 rfl ?_
    exact mv_iret (pc := 19) B hr rfl d_Book_cellsOf_19 (Nat.le_refl _) (Nat.le_refl _) ⟨_, rfl, rfl, by first | exact Or.inl ⟨h6, rfl⟩ | exact Or.inr ⟨h6, rfl⟩⟩
def y_Book_widthOf : MethodName := ⟨"MachineLoomModel$Book", "widthOf", "(I)I"⟩
abbrev b_Book_widthOf : ByteArray := prog_15_method_81_code
theorem kc_Book_widthOf : Cond.code y_Book_widthOf b_Book_widthOf 2 (Option.some Jvm.ClassFile.FieldType.int) ∈ ma := ma_of (tb_11 _ (List.mem_of_getElem? (i := 185) rfl)) rfl
theorem d_Book_widthOf_0 : decode b_Book_widthOf 0 = .ok (.aload_n 0, 1) := by decide +kernel
theorem d_Book_widthOf_1 : decode b_Book_widthOf 1 = .ok (.getfield 23, 3) := by decide +kernel
theorem d_Book_widthOf_4 : decode b_Book_widthOf 4 = .ok (.iload_n 1, 1) := by decide +kernel
theorem d_Book_widthOf_5 : decode b_Book_widthOf 5 = .ok (.iaload, 1) := by decide +kernel
theorem d_Book_widthOf_6 : decode b_Book_widthOf 6 = .ok (.ireturn, 1) := by decide +kernel
set_option maxHeartbeats 4000000 in
set_option maxRecDepth 100000 in
theorem c_Book_widthOf_x (l : Launch) {dA : FieldType → ClassId} {D : va_G} {al : Nat → Nat} {ext : mv_Sh} {sk sv : Nat → Nat} (hi : mv_inj (mg dA D al ext)) (σ : mv_H) (t9 : Int32) (hmr : mh (mv_r σ)) (ht0 : 0 ≤ t9.toInt) (ht1 : t9.toInt < 64) : mv_C l y_Book_widthOf (Cond.code y_Book_widthOf b_Book_widthOf 2 (Option.some Jvm.ClassFile.FieldType.int) :: ma) ({ frames := 0, cells := 0, slots := 0, locals := 0 }) (mg dA D al ext) (mK sk sv) [.ref (al 74), .int t9] σ (mv_Ri (fun v σ1 => σ1 = σ)) := by
  refine mv_C.ofV (cc := b_Book_widthOf) (nL := 2) (ret := (Option.some Jvm.ClassFile.FieldType.int)) (by decide +kernel) rfl hi (Nat.le_of_ble_eq_true rfl) ?_
  intro p e s m below meth c B hNs hr hnm hno
  refine mv_aload_n (pc := 0) B d_Book_widthOf_0 rfl 0 rfl ?_
  refine mv_getR (pc := 1) (ci := 12) (C := R_Book) (T := F_Book) (N := 65) B 12 rfl rfl (by decide) i_Book (B.2.2.2.1 _ k_1855) rfl (hmr _ 12 _ rfl) d_Book_widthOf_1 ?_
  refine mv_iload_n (pc := 4) B d_Book_widthOf_4 rfl 1 rfl ?_
  refine mv_iald (pc := 5) B rfl (i32_in ht0 (show t9.toInt < 4100 by omega)) d_Book_widthOf_5 ?_
  exact mv_iret (pc := 6) B hr rfl d_Book_widthOf_6 (Nat.le_refl _) (Nat.le_refl _) ⟨_, rfl, rfl⟩
set_option maxHeartbeats 4000000 in
set_option maxRecDepth 100000 in
theorem c_Book_widthOf_y (l : Launch) {dA : FieldType → ClassId} {D : va_G} {al : Nat → Nat} {ext : mv_Sh} {sk sv : Nat → Nat} (hi : mv_inj (mg dA D al ext)) (σ : mv_H) (t9 : Int32) (hmr : mh (mv_r σ)) (ht0 : 0 ≤ t9.toInt) (ht1 : t9.toInt < 64) : mv_C l y_Book_widthOf (Cond.code y_Book_widthOf b_Book_widthOf 2 (Option.some Jvm.ClassFile.FieldType.int) :: ma) ({ frames := 0, cells := 0, slots := 0, locals := 0 }) (mg dA D al ext) (mK sk sv) [.ref (al 108), .int t9] σ (mv_Ri (fun v σ1 => σ1 = σ)) := by
  refine mv_C.ofV (cc := b_Book_widthOf) (nL := 2) (ret := (Option.some Jvm.ClassFile.FieldType.int)) (by decide +kernel) rfl hi (Nat.le_of_ble_eq_true rfl) ?_
  intro p e s m below meth c B hNs hr hnm hno
  refine mv_aload_n (pc := 0) B d_Book_widthOf_0 rfl 0 rfl ?_
  refine mv_getR (pc := 1) (ci := 12) (C := R_Book) (T := F_Book) (N := 65) B 12 rfl rfl (by decide) i_Book (B.2.2.2.1 _ k_1855) rfl (hmr _ 12 _ rfl) d_Book_widthOf_1 ?_
  refine mv_iload_n (pc := 4) B d_Book_widthOf_4 rfl 1 rfl ?_
  refine mv_iald (pc := 5) B rfl (i32_in ht0 (show t9.toInt < 4100 by omega)) d_Book_widthOf_5 ?_
  exact mv_iret (pc := 6) B hr rfl d_Book_widthOf_6 (Nat.le_refl _) (Nat.le_refl _) ⟨_, rfl, rfl⟩
def y_Book_peek : MethodName := ⟨"MachineLoomModel$Book", "peek", "(II)J"⟩
abbrev b_Book_peek : ByteArray := prog_15_method_85_code
theorem kc_Book_peek : Cond.code y_Book_peek b_Book_peek 3 (Option.some Jvm.ClassFile.FieldType.long) ∈ ma := ma_of (tb_11 _ (List.mem_of_getElem? (i := 41) rfl)) rfl
theorem d_Book_peek_0 : decode b_Book_peek 0 = .ok (.aload_n 0, 1) := by decide +kernel
theorem d_Book_peek_1 : decode b_Book_peek 1 = .ok (.getfield 32, 3) := by decide +kernel
theorem d_Book_peek_4 : decode b_Book_peek 4 = .ok (.iload_n 1, 1) := by decide +kernel
theorem d_Book_peek_5 : decode b_Book_peek 5 = .ok (.baload, 1) := by decide +kernel
theorem d_Book_peek_6 : decode b_Book_peek 6 = .ok (.ifCond .eq (19), 3) := by decide +kernel
theorem d_Book_peek_9 : decode b_Book_peek 9 = .ok (.aload_n 0, 1) := by decide +kernel
theorem d_Book_peek_10 : decode b_Book_peek 10 = .ok (.getfield 114, 3) := by decide +kernel
theorem d_Book_peek_13 : decode b_Book_peek 13 = .ok (.aload_n 0, 1) := by decide +kernel
theorem d_Book_peek_14 : decode b_Book_peek 14 = .ok (.getfield 29, 3) := by decide +kernel
theorem d_Book_peek_17 : decode b_Book_peek 17 = .ok (.iload_n 1, 1) := by decide +kernel
theorem d_Book_peek_18 : decode b_Book_peek 18 = .ok (.iaload, 1) := by decide +kernel
theorem d_Book_peek_19 : decode b_Book_peek 19 = .ok (.iload_n 2, 1) := by decide +kernel
theorem d_Book_peek_20 : decode b_Book_peek 20 = .ok (.iadd, 1) := by decide +kernel
theorem d_Book_peek_21 : decode b_Book_peek 21 = .ok (.laload, 1) := by decide +kernel
theorem d_Book_peek_22 : decode b_Book_peek 22 = .ok (.goto (9), 3) := by decide +kernel
theorem d_Book_peek_25 : decode b_Book_peek 25 = .ok (.aload_n 0, 1) := by decide +kernel
theorem d_Book_peek_26 : decode b_Book_peek 26 = .ok (.getfield 110, 3) := by decide +kernel
theorem d_Book_peek_29 : decode b_Book_peek 29 = .ok (.iload_n 1, 1) := by decide +kernel
theorem d_Book_peek_30 : decode b_Book_peek 30 = .ok (.laload, 1) := by decide +kernel
theorem d_Book_peek_31 : decode b_Book_peek 31 = .ok (.lreturn, 1) := by decide +kernel
set_option maxHeartbeats 4000000 in
set_option maxRecDepth 100000 in
theorem c_Book_peek_x (l : Launch) {dA : FieldType → ClassId} {D : va_G} {al : Nat → Nat} {ext : mv_Sh} {sk sv : Nat → Nat} (hi : mv_inj (mg dA D al ext)) (σ : mv_H) (t9 i9 : Int32) (hmr : mh (mv_r σ)) (ht0 : 0 ≤ t9.toInt) (ht1 : t9.toInt < 64) (hin : ¬ mv_a σ 80 t9.toNatClampNeg = 0 → 0 ≤ (mv_a σ 79 t9.toNatClampNeg).toInt ∧ (mv_a σ 79 t9.toNatClampNeg).toInt + i9.toInt < 65536 ∧ 0 ≤ i9.toInt) : mv_C l y_Book_peek (Cond.code y_Book_peek b_Book_peek 3 (Option.some Jvm.ClassFile.FieldType.long) :: ma) ({ frames := 0, cells := 0, slots := 0, locals := 0 }) (mg dA D al ext) (mK sk sv) [.ref (al 74), .int t9, .int i9] σ (mv_Rl (fun v σ1 => σ1 = σ)) := by
  refine mv_C.ofV (cc := b_Book_peek) (nL := 3) (ret := (Option.some Jvm.ClassFile.FieldType.long)) (by decide +kernel) rfl hi (Nat.le_of_ble_eq_true rfl) ?_
  intro p e s m below meth c B hNs hr hnm hno
  refine mv_aload_n (pc := 0) B d_Book_peek_0 rfl 0 rfl ?_
  refine mv_getR (pc := 1) (ci := 12) (C := R_Book) (T := F_Book) (N := 65) B 15 rfl rfl (by decide) i_Book (B.2.2.2.1 _ k_1858) rfl (hmr _ 15 _ rfl) d_Book_peek_1 ?_
  refine mv_iload_n (pc := 4) B d_Book_peek_4 rfl 1 rfl ?_
  refine mv_zald (pc := 5) B rfl (i32_in ht0 (show t9.toInt < 4100 by omega)) d_Book_peek_5 ?_
  refine mv_if_eq (pc := 6) (tgt := 25) B d_Book_peek_6 rfl (fun h6 => ?_) (fun h6 => ?_)
  · skip
    refine mv_aload_n (pc := 25) B d_Book_peek_25 rfl 0 rfl ?_
    refine mv_getR (pc := 26) (ci := 12) (C := R_Book) (T := F_Book) (N := 65) B 55 rfl rfl (by decide) i_Book (B.2.2.2.1 _ k_1904) rfl (hmr _ 55 _ rfl) d_Book_peek_26 ?_
    refine mv_iload_n (pc := 29) B d_Book_peek_29 rfl 1 rfl ?_
    refine mv_lald (pc := 30) B rfl (i32_in ht0 (show t9.toInt < 4100 by omega)) d_Book_peek_30 ?_
    exact mv_lret (pc := 31) B hr d_Book_peek_31 (Nat.le_refl _) (Nat.le_refl _) ⟨_, rfl, rfl⟩
  · skip
    have hin := hin h6
    refine mv_aload_n (pc := 9) B d_Book_peek_9 rfl 0 rfl ?_
    refine mv_getR (pc := 10) (ci := 12) (C := R_Book) (T := F_Book) (N := 65) B 56 rfl rfl (by decide) i_Book (B.2.2.2.1 _ k_1905) rfl (hmr _ 56 _ rfl) d_Book_peek_10 ?_
    refine mv_aload_n (pc := 13) B d_Book_peek_13 rfl 0 rfl ?_
    refine mv_getR (pc := 14) (ci := 12) (C := R_Book) (T := F_Book) (N := 65) B 14 rfl rfl (by decide) i_Book (B.2.2.2.1 _ k_1857) rfl (hmr _ 14 _ rfl) d_Book_peek_14 ?_
    refine mv_iload_n (pc := 17) B d_Book_peek_17 rfl 1 rfl ?_
    refine mv_iald (pc := 18) B rfl (i32_in ht0 (show t9.toInt < 4100 by omega)) d_Book_peek_18 ?_
    refine mv_iload_n (pc := 19) B d_Book_peek_19 rfl 2 rfl ?_
    refine mv_iadd (pc := 20) B d_Book_peek_20 ?_
    refine mv_topi (fun y20 ey20 => ?_)
    have fy20 := i32_addE ey20 (by (try simp only [Int32.reduceToInt]); omega) (by (try simp only [Int32.reduceToInt]); omega)
    try simp only [Int32.reduceToInt] at fy20
    refine mv_lald (pc := 21) B rfl (i32_in (show 0 ≤ y20.toInt by omega) (show y20.toInt < 65536 by omega)) d_Book_peek_21 ?_
    refine mv_goto (pc := 22) (tgt := 31) B d_Book_peek_22 rfl ?_
    exact mv_lret (pc := 31) B hr d_Book_peek_31 (Nat.le_refl _) (Nat.le_refl _) ⟨_, rfl, rfl⟩
set_option maxHeartbeats 4000000 in
set_option maxRecDepth 100000 in
theorem c_Book_peek_y (l : Launch) {dA : FieldType → ClassId} {D : va_G} {al : Nat → Nat} {ext : mv_Sh} {sk sv : Nat → Nat} (hi : mv_inj (mg dA D al ext)) (σ : mv_H) (t9 i9 : Int32) (hmr : mh (mv_r σ)) (ht0 : 0 ≤ t9.toInt) (ht1 : t9.toInt < 64) (hin : ¬ mv_a σ 114 t9.toNatClampNeg = 0 → 0 ≤ (mv_a σ 113 t9.toNatClampNeg).toInt ∧ (mv_a σ 113 t9.toNatClampNeg).toInt + i9.toInt < 65536 ∧ 0 ≤ i9.toInt) : mv_C l y_Book_peek (Cond.code y_Book_peek b_Book_peek 3 (Option.some Jvm.ClassFile.FieldType.long) :: ma) ({ frames := 0, cells := 0, slots := 0, locals := 0 }) (mg dA D al ext) (mK sk sv) [.ref (al 108), .int t9, .int i9] σ (mv_Rl (fun v σ1 => σ1 = σ)) := by
  refine mv_C.ofV (cc := b_Book_peek) (nL := 3) (ret := (Option.some Jvm.ClassFile.FieldType.long)) (by decide +kernel) rfl hi (Nat.le_of_ble_eq_true rfl) ?_
  intro p e s m below meth c B hNs hr hnm hno
  refine mv_aload_n (pc := 0) B d_Book_peek_0 rfl 0 rfl ?_
  refine mv_getR (pc := 1) (ci := 12) (C := R_Book) (T := F_Book) (N := 65) B 15 rfl rfl (by decide) i_Book (B.2.2.2.1 _ k_1858) rfl (hmr _ 15 _ rfl) d_Book_peek_1 ?_
  refine mv_iload_n (pc := 4) B d_Book_peek_4 rfl 1 rfl ?_
  refine mv_zald (pc := 5) B rfl (i32_in ht0 (show t9.toInt < 4100 by omega)) d_Book_peek_5 ?_
  refine mv_if_eq (pc := 6) (tgt := 25) B d_Book_peek_6 rfl (fun h6 => ?_) (fun h6 => ?_)
  · skip
    refine mv_aload_n (pc := 25) B d_Book_peek_25 rfl 0 rfl ?_
    refine mv_getR (pc := 26) (ci := 12) (C := R_Book) (T := F_Book) (N := 65) B 55 rfl rfl (by decide) i_Book (B.2.2.2.1 _ k_1904) rfl (hmr _ 55 _ rfl) d_Book_peek_26 ?_
    refine mv_iload_n (pc := 29) B d_Book_peek_29 rfl 1 rfl ?_
    refine mv_lald (pc := 30) B rfl (i32_in ht0 (show t9.toInt < 4100 by omega)) d_Book_peek_30 ?_
    exact mv_lret (pc := 31) B hr d_Book_peek_31 (Nat.le_refl _) (Nat.le_refl _) ⟨_, rfl, rfl⟩
  · skip
    have hin := hin h6
    refine mv_aload_n (pc := 9) B d_Book_peek_9 rfl 0 rfl ?_
    refine mv_getR (pc := 10) (ci := 12) (C := R_Book) (T := F_Book) (N := 65) B 56 rfl rfl (by decide) i_Book (B.2.2.2.1 _ k_1905) rfl (hmr _ 56 _ rfl) d_Book_peek_10 ?_
    refine mv_aload_n (pc := 13) B d_Book_peek_13 rfl 0 rfl ?_
    refine mv_getR (pc := 14) (ci := 12) (C := R_Book) (T := F_Book) (N := 65) B 14 rfl rfl (by decide) i_Book (B.2.2.2.1 _ k_1857) rfl (hmr _ 14 _ rfl) d_Book_peek_14 ?_
    refine mv_iload_n (pc := 17) B d_Book_peek_17 rfl 1 rfl ?_
    refine mv_iald (pc := 18) B rfl (i32_in ht0 (show t9.toInt < 4100 by omega)) d_Book_peek_18 ?_
    refine mv_iload_n (pc := 19) B d_Book_peek_19 rfl 2 rfl ?_
    refine mv_iadd (pc := 20) B d_Book_peek_20 ?_
    refine mv_topi (fun y20 ey20 => ?_)
    have fy20 := i32_addE ey20 (by (try simp only [Int32.reduceToInt]); omega) (by (try simp only [Int32.reduceToInt]); omega)
    try simp only [Int32.reduceToInt] at fy20
    refine mv_lald (pc := 21) B rfl (i32_in (show 0 ≤ y20.toInt by omega) (show y20.toInt < 65536 by omega)) d_Book_peek_21 ?_
    refine mv_goto (pc := 22) (tgt := 31) B d_Book_peek_22 rfl ?_
    exact mv_lret (pc := 31) B hr d_Book_peek_31 (Nat.le_refl _) (Nat.le_refl _) ⟨_, rfl, rfl⟩
def y_Book_poke : MethodName := ⟨"MachineLoomModel$Book", "poke", "(IIJ)V"⟩
abbrev b_Book_poke : ByteArray := prog_15_method_84_code
theorem kc_Book_poke : Cond.code y_Book_poke b_Book_poke 5 (Option.none : Option Jvm.ClassFile.FieldType) ∈ ma := ma_of (tb_11 _ (List.mem_of_getElem? (i := 26) rfl)) rfl
theorem d_Book_poke_0 : decode b_Book_poke 0 = .ok (.aload_n 0, 1) := by decide +kernel
theorem d_Book_poke_1 : decode b_Book_poke 1 = .ok (.getfield 32, 3) := by decide +kernel
theorem d_Book_poke_4 : decode b_Book_poke 4 = .ok (.iload_n 1, 1) := by decide +kernel
theorem d_Book_poke_5 : decode b_Book_poke 5 = .ok (.baload, 1) := by decide +kernel
theorem d_Book_poke_6 : decode b_Book_poke 6 = .ok (.ifCond .ne (22), 3) := by decide +kernel
theorem d_Book_poke_9 : decode b_Book_poke 9 = .ok (.aload_n 0, 1) := by decide +kernel
theorem d_Book_poke_10 : decode b_Book_poke 10 = .ok (.getfield 110, 3) := by decide +kernel
theorem d_Book_poke_13 : decode b_Book_poke 13 = .ok (.iload_n 1, 1) := by decide +kernel
theorem d_Book_poke_14 : decode b_Book_poke 14 = .ok (.lload_n 3, 1) := by decide +kernel
theorem d_Book_poke_15 : decode b_Book_poke 15 = .ok (.aload_n 0, 1) := by decide +kernel
theorem d_Book_poke_16 : decode b_Book_poke 16 = .ok (.getfield 23, 3) := by decide +kernel
theorem d_Book_poke_19 : decode b_Book_poke 19 = .ok (.iload_n 1, 1) := by decide +kernel
theorem d_Book_poke_20 : decode b_Book_poke 20 = .ok (.iaload, 1) := by decide +kernel
theorem d_Book_poke_21 : decode b_Book_poke 21 = .ok (.invokestatic 444, 3) := by decide +kernel
theorem d_Book_poke_24 : decode b_Book_poke 24 = .ok (.lastore, 1) := by decide +kernel
theorem d_Book_poke_25 : decode b_Book_poke 25 = .ok (.goto (39), 3) := by decide +kernel
theorem d_Book_poke_28 : decode b_Book_poke 28 = .ok (.aload_n 0, 1) := by decide +kernel
theorem d_Book_poke_29 : decode b_Book_poke 29 = .ok (.getfield 36, 3) := by decide +kernel
theorem d_Book_poke_32 : decode b_Book_poke 32 = .ok (.iload_n 1, 1) := by decide +kernel
theorem d_Book_poke_33 : decode b_Book_poke 33 = .ok (.baload, 1) := by decide +kernel
theorem d_Book_poke_34 : decode b_Book_poke 34 = .ok (.ifCond .eq (7), 3) := by decide +kernel
theorem d_Book_poke_37 : decode b_Book_poke 37 = .ok (.iload_n 2, 1) := by decide +kernel
theorem d_Book_poke_38 : decode b_Book_poke 38 = .ok (.ifCond .le (26), 3) := by decide +kernel
theorem d_Book_poke_41 : decode b_Book_poke 41 = .ok (.aload_n 0, 1) := by decide +kernel
theorem d_Book_poke_42 : decode b_Book_poke 42 = .ok (.getfield 114, 3) := by decide +kernel
theorem d_Book_poke_45 : decode b_Book_poke 45 = .ok (.aload_n 0, 1) := by decide +kernel
theorem d_Book_poke_46 : decode b_Book_poke 46 = .ok (.getfield 29, 3) := by decide +kernel
theorem d_Book_poke_49 : decode b_Book_poke 49 = .ok (.iload_n 1, 1) := by decide +kernel
theorem d_Book_poke_50 : decode b_Book_poke 50 = .ok (.iaload, 1) := by decide +kernel
theorem d_Book_poke_51 : decode b_Book_poke 51 = .ok (.iload_n 2, 1) := by decide +kernel
theorem d_Book_poke_52 : decode b_Book_poke 52 = .ok (.iadd, 1) := by decide +kernel
theorem d_Book_poke_53 : decode b_Book_poke 53 = .ok (.lload_n 3, 1) := by decide +kernel
theorem d_Book_poke_54 : decode b_Book_poke 54 = .ok (.aload_n 0, 1) := by decide +kernel
theorem d_Book_poke_55 : decode b_Book_poke 55 = .ok (.getfield 23, 3) := by decide +kernel
theorem d_Book_poke_58 : decode b_Book_poke 58 = .ok (.iload_n 1, 1) := by decide +kernel
theorem d_Book_poke_59 : decode b_Book_poke 59 = .ok (.iaload, 1) := by decide +kernel
theorem d_Book_poke_60 : decode b_Book_poke 60 = .ok (.invokestatic 444, 3) := by decide +kernel
theorem d_Book_poke_63 : decode b_Book_poke 63 = .ok (.lastore, 1) := by decide +kernel
theorem d_Book_poke_64 : decode b_Book_poke 64 = .ok (.return_, 1) := by decide +kernel
set_option maxHeartbeats 4000000 in
set_option maxRecDepth 100000 in
theorem c_Book_poke_x (l : Launch) {dA : FieldType → ClassId} {D : va_G} {al : Nat → Nat} {ext : mv_Sh} {sk sv : Nat → Nat} (hi : mv_inj (mg dA D al ext)) (σ : mv_H) (t9 i9 : Int32) (v9 : Int64) (hmr : mh (mv_r σ)) (ht0 : 0 ≤ t9.toInt) (ht1 : t9.toInt < 64) (hin : ¬ mv_a σ 80 t9.toNatClampNeg = 0 → 0 ≤ (mv_a σ 79 t9.toNatClampNeg).toInt ∧ (mv_a σ 79 t9.toNatClampNeg).toInt + i9.toInt < 65536 ∧ 0 ≤ i9.toInt) : mv_C l y_Book_poke (Cond.code y_Book_poke b_Book_poke 5 (Option.none : Option Jvm.ClassFile.FieldType) :: ma) ({ frames := 1, cells := 0, slots := 0, locals := 22 }) (mg dA D al ext) (mK sk sv) [.ref (al 74), .int t9, .int i9, .long v9] σ (mv_Rv (fun σ1 => MB 74 σ σ1)) := by
  refine mv_C.ofV (cc := b_Book_poke) (nL := 5) (ret := (Option.none : Option Jvm.ClassFile.FieldType)) (by decide +kernel) rfl hi (Nat.le_of_ble_eq_true rfl) ?_
  intro p e s m below meth c B hNs hr hnm hno
  refine mv_aload_n (pc := 0) B d_Book_poke_0 rfl 0 rfl ?_
  refine mv_getR (pc := 1) (ci := 12) (C := R_Book) (T := F_Book) (N := 65) B 15 rfl rfl (by decide) i_Book (B.2.2.2.1 _ k_1858) rfl (hmr _ 15 _ rfl) d_Book_poke_1 ?_
  refine mv_iload_n (pc := 4) B d_Book_poke_4 rfl 1 rfl ?_
  refine mv_zald (pc := 5) B rfl (i32_in ht0 (show t9.toInt < 4100 by omega)) d_Book_poke_5 ?_
  refine mv_if_ne (pc := 6) (tgt := 28) B d_Book_poke_6 rfl (fun h6 => ?_) (fun h6 => ?_)
  · skip
    have hin := hin h6
    refine mv_aload_n (pc := 28) B d_Book_poke_28 rfl 0 rfl ?_
    refine mv_getR (pc := 29) (ci := 12) (C := R_Book) (T := F_Book) (N := 65) B 16 rfl rfl (by decide) i_Book (B.2.2.2.1 _ k_1859) rfl (hmr _ 16 _ rfl) d_Book_poke_29 ?_
    refine mv_iload_n (pc := 32) B d_Book_poke_32 rfl 1 rfl ?_
    refine mv_zald (pc := 33) B rfl (i32_in ht0 (show t9.toInt < 4100 by omega)) d_Book_poke_33 ?_
    refine mv_if_eq (pc := 34) (tgt := 41) B d_Book_poke_34 rfl (fun h34 => ?_) (fun h34 => ?_)
    · skip
      refine mv_aload_n (pc := 41) B d_Book_poke_41 rfl 0 rfl ?_
      refine mv_getR (pc := 42) (ci := 12) (C := R_Book) (T := F_Book) (N := 65) B 56 rfl rfl (by decide) i_Book (B.2.2.2.1 _ k_1905) rfl (hmr _ 56 _ rfl) d_Book_poke_42 ?_
      refine mv_aload_n (pc := 45) B d_Book_poke_45 rfl 0 rfl ?_
      refine mv_getR (pc := 46) (ci := 12) (C := R_Book) (T := F_Book) (N := 65) B 14 rfl rfl (by decide) i_Book (B.2.2.2.1 _ k_1857) rfl (hmr _ 14 _ rfl) d_Book_poke_46 ?_
      refine mv_iload_n (pc := 49) B d_Book_poke_49 rfl 1 rfl ?_
      refine mv_iald (pc := 50) B rfl (i32_in ht0 (show t9.toInt < 4100 by omega)) d_Book_poke_50 ?_
      refine mv_iload_n (pc := 51) B d_Book_poke_51 rfl 2 rfl ?_
      refine mv_iadd (pc := 52) B d_Book_poke_52 ?_
      refine mv_topi (fun y52 ey52 => ?_)
      have fy52 := i32_addE ey52 (by (try simp only [Int32.reduceToInt]); omega) (by (try simp only [Int32.reduceToInt]); omega)
      try simp only [Int32.reduceToInt] at fy52
      refine mv_lload_n (pc := 53) B d_Book_poke_53 rfl 3 rfl ?_
      refine mv_aload_n (pc := 54) B d_Book_poke_54 rfl 0 rfl ?_
      refine mv_getR (pc := 55) (ci := 12) (C := R_Book) (T := F_Book) (N := 65) B 12 rfl rfl (by decide) i_Book (B.2.2.2.1 _ k_1855) rfl (hmr _ 12 _ rfl) d_Book_poke_55 ?_
      refine mv_iload_n (pc := 58) B d_Book_poke_58 rfl 1 rfl ?_
      refine mv_iald (pc := 59) B rfl (i32_in ht0 (show t9.toInt < 4100 by omega)) d_Book_poke_59 ?_
      refine mv_callSl (pc := 60) (n := 2) B (mK_ok sk sv) hNs (c_Book_cut l hi _ _ _) rfl (ma_goodc kc_Book_cut) (B.2.2.2.1 _ k_2427) (B.2.2.2.1 _ k_2428) (B.2.2.2.1 _ k_13) ⟨by decide +kernel, by decide +kernel, by decide +kernel⟩ rfl d_Book_poke_60 rfl (Nat.le_of_ble_eq_true rfl) ⟨by decide, by decide⟩ ⟨by decide, by decide⟩ ⟨by decide, by decide⟩ (mv_noH hno _) (fun v60 σ60 h60 => ?_)
      have e60 := h60.symm
      subst e60
      refine mv_last (pc := 63) B rfl (i32_in (show 0 ≤ y52.toInt by omega) (show y52.toInt < 65536 by omega)) d_Book_poke_63 ?_
      exact mv_vret (pc := 64) B hr d_Book_poke_64 (Nat.le_refl _) (Nat.le_refl _) ⟨rfl, by first | exact Fx.rf | exact Fx.rf.sb (Or.inr (Or.inl rfl)) | exact Fx.rf.sb (Or.inr (Or.inr (Or.inl rfl)))⟩
    · skip
      refine mv_iload_n (pc := 37) B d_Book_poke_37 rfl 2 rfl ?_
      refine mv_if_le (pc := 38) (tgt := 64) B d_Book_poke_38 rfl (fun h38 => ?_) (fun h38 => ?_)
      · skip
        exact mv_vret (pc := 64) B hr d_Book_poke_64 (Nat.le_refl _) (Nat.le_refl _) ⟨rfl, by first | exact Fx.rf | exact Fx.rf.sb (Or.inr (Or.inl rfl)) | exact Fx.rf.sb (Or.inr (Or.inr (Or.inl rfl)))⟩
      · skip
        refine mv_aload_n (pc := 41) B d_Book_poke_41 rfl 0 rfl ?_
        refine mv_getR (pc := 42) (ci := 12) (C := R_Book) (T := F_Book) (N := 65) B 56 rfl rfl (by decide) i_Book (B.2.2.2.1 _ k_1905) rfl (hmr _ 56 _ rfl) d_Book_poke_42 ?_
        refine mv_aload_n (pc := 45) B d_Book_poke_45 rfl 0 rfl ?_
        refine mv_getR (pc := 46) (ci := 12) (C := R_Book) (T := F_Book) (N := 65) B 14 rfl rfl (by decide) i_Book (B.2.2.2.1 _ k_1857) rfl (hmr _ 14 _ rfl) d_Book_poke_46 ?_
        refine mv_iload_n (pc := 49) B d_Book_poke_49 rfl 1 rfl ?_
        refine mv_iald (pc := 50) B rfl (i32_in ht0 (show t9.toInt < 4100 by omega)) d_Book_poke_50 ?_
        refine mv_iload_n (pc := 51) B d_Book_poke_51 rfl 2 rfl ?_
        refine mv_iadd (pc := 52) B d_Book_poke_52 ?_
        refine mv_topi (fun y52 ey52 => ?_)
        have fy52 := i32_addE ey52 (by (try simp only [Int32.reduceToInt]); omega) (by (try simp only [Int32.reduceToInt]); omega)
        try simp only [Int32.reduceToInt] at fy52
        refine mv_lload_n (pc := 53) B d_Book_poke_53 rfl 3 rfl ?_
        refine mv_aload_n (pc := 54) B d_Book_poke_54 rfl 0 rfl ?_
        refine mv_getR (pc := 55) (ci := 12) (C := R_Book) (T := F_Book) (N := 65) B 12 rfl rfl (by decide) i_Book (B.2.2.2.1 _ k_1855) rfl (hmr _ 12 _ rfl) d_Book_poke_55 ?_
        refine mv_iload_n (pc := 58) B d_Book_poke_58 rfl 1 rfl ?_
        refine mv_iald (pc := 59) B rfl (i32_in ht0 (show t9.toInt < 4100 by omega)) d_Book_poke_59 ?_
        refine mv_callSl (pc := 60) (n := 2) B (mK_ok sk sv) hNs (c_Book_cut l hi _ _ _) rfl (ma_goodc kc_Book_cut) (B.2.2.2.1 _ k_2427) (B.2.2.2.1 _ k_2428) (B.2.2.2.1 _ k_13) ⟨by decide +kernel, by decide +kernel, by decide +kernel⟩ rfl d_Book_poke_60 rfl (Nat.le_of_ble_eq_true rfl) ⟨by decide, by decide⟩ ⟨by decide, by decide⟩ ⟨by decide, by decide⟩ (mv_noH hno _) (fun v60 σ60 h60 => ?_)
        have e60 := h60.symm
        subst e60
        refine mv_last (pc := 63) B rfl (i32_in (show 0 ≤ y52.toInt by omega) (show y52.toInt < 65536 by omega)) d_Book_poke_63 ?_
        exact mv_vret (pc := 64) B hr d_Book_poke_64 (Nat.le_refl _) (Nat.le_refl _) ⟨rfl, by first | exact Fx.rf | exact Fx.rf.sb (Or.inr (Or.inl rfl)) | exact Fx.rf.sb (Or.inr (Or.inr (Or.inl rfl)))⟩
  · skip
    refine mv_aload_n (pc := 9) B d_Book_poke_9 rfl 0 rfl ?_
    refine mv_getR (pc := 10) (ci := 12) (C := R_Book) (T := F_Book) (N := 65) B 55 rfl rfl (by decide) i_Book (B.2.2.2.1 _ k_1904) rfl (hmr _ 55 _ rfl) d_Book_poke_10 ?_
    refine mv_iload_n (pc := 13) B d_Book_poke_13 rfl 1 rfl ?_
    refine mv_lload_n (pc := 14) B d_Book_poke_14 rfl 3 rfl ?_
    refine mv_aload_n (pc := 15) B d_Book_poke_15 rfl 0 rfl ?_
    refine mv_getR (pc := 16) (ci := 12) (C := R_Book) (T := F_Book) (N := 65) B 12 rfl rfl (by decide) i_Book (B.2.2.2.1 _ k_1855) rfl (hmr _ 12 _ rfl) d_Book_poke_16 ?_
    refine mv_iload_n (pc := 19) B d_Book_poke_19 rfl 1 rfl ?_
    refine mv_iald (pc := 20) B rfl (i32_in ht0 (show t9.toInt < 4100 by omega)) d_Book_poke_20 ?_
    refine mv_callSl (pc := 21) (n := 2) B (mK_ok sk sv) hNs (c_Book_cut l hi _ _ _) rfl (ma_goodc kc_Book_cut) (B.2.2.2.1 _ k_2427) (B.2.2.2.1 _ k_2428) (B.2.2.2.1 _ k_13) ⟨by decide +kernel, by decide +kernel, by decide +kernel⟩ rfl d_Book_poke_21 rfl (Nat.le_of_ble_eq_true rfl) ⟨by decide, by decide⟩ ⟨by decide, by decide⟩ ⟨by decide, by decide⟩ (mv_noH hno _) (fun v21 σ21 h21 => ?_)
    have e21 := h21.symm
    subst e21
    refine mv_last (pc := 24) B rfl (i32_in ht0 (show t9.toInt < 4100 by omega)) d_Book_poke_24 ?_
    refine mv_goto (pc := 25) (tgt := 64) B d_Book_poke_25 rfl ?_
    exact mv_vret (pc := 64) B hr d_Book_poke_64 (Nat.le_refl _) (Nat.le_refl _) ⟨rfl, by first | exact Fx.rf | exact Fx.rf.sb (Or.inr (Or.inl rfl)) | exact Fx.rf.sb (Or.inr (Or.inr (Or.inl rfl)))⟩
set_option maxHeartbeats 4000000 in
set_option maxRecDepth 100000 in
theorem c_Book_poke_y (l : Launch) {dA : FieldType → ClassId} {D : va_G} {al : Nat → Nat} {ext : mv_Sh} {sk sv : Nat → Nat} (hi : mv_inj (mg dA D al ext)) (σ : mv_H) (t9 i9 : Int32) (v9 : Int64) (hmr : mh (mv_r σ)) (ht0 : 0 ≤ t9.toInt) (ht1 : t9.toInt < 64) (hin : ¬ mv_a σ 114 t9.toNatClampNeg = 0 → 0 ≤ (mv_a σ 113 t9.toNatClampNeg).toInt ∧ (mv_a σ 113 t9.toNatClampNeg).toInt + i9.toInt < 65536 ∧ 0 ≤ i9.toInt) : mv_C l y_Book_poke (Cond.code y_Book_poke b_Book_poke 5 (Option.none : Option Jvm.ClassFile.FieldType) :: ma) ({ frames := 1, cells := 0, slots := 0, locals := 22 }) (mg dA D al ext) (mK sk sv) [.ref (al 108), .int t9, .int i9, .long v9] σ (mv_Rv (fun σ1 => MB 108 σ σ1)) := by
  refine mv_C.ofV (cc := b_Book_poke) (nL := 5) (ret := (Option.none : Option Jvm.ClassFile.FieldType)) (by decide +kernel) rfl hi (Nat.le_of_ble_eq_true rfl) ?_
  intro p e s m below meth c B hNs hr hnm hno
  refine mv_aload_n (pc := 0) B d_Book_poke_0 rfl 0 rfl ?_
  refine mv_getR (pc := 1) (ci := 12) (C := R_Book) (T := F_Book) (N := 65) B 15 rfl rfl (by decide) i_Book (B.2.2.2.1 _ k_1858) rfl (hmr _ 15 _ rfl) d_Book_poke_1 ?_
  refine mv_iload_n (pc := 4) B d_Book_poke_4 rfl 1 rfl ?_
  refine mv_zald (pc := 5) B rfl (i32_in ht0 (show t9.toInt < 4100 by omega)) d_Book_poke_5 ?_
  refine mv_if_ne (pc := 6) (tgt := 28) B d_Book_poke_6 rfl (fun h6 => ?_) (fun h6 => ?_)
  · skip
    have hin := hin h6
    refine mv_aload_n (pc := 28) B d_Book_poke_28 rfl 0 rfl ?_
    refine mv_getR (pc := 29) (ci := 12) (C := R_Book) (T := F_Book) (N := 65) B 16 rfl rfl (by decide) i_Book (B.2.2.2.1 _ k_1859) rfl (hmr _ 16 _ rfl) d_Book_poke_29 ?_
    refine mv_iload_n (pc := 32) B d_Book_poke_32 rfl 1 rfl ?_
    refine mv_zald (pc := 33) B rfl (i32_in ht0 (show t9.toInt < 4100 by omega)) d_Book_poke_33 ?_
    refine mv_if_eq (pc := 34) (tgt := 41) B d_Book_poke_34 rfl (fun h34 => ?_) (fun h34 => ?_)
    · skip
      refine mv_aload_n (pc := 41) B d_Book_poke_41 rfl 0 rfl ?_
      refine mv_getR (pc := 42) (ci := 12) (C := R_Book) (T := F_Book) (N := 65) B 56 rfl rfl (by decide) i_Book (B.2.2.2.1 _ k_1905) rfl (hmr _ 56 _ rfl) d_Book_poke_42 ?_
      refine mv_aload_n (pc := 45) B d_Book_poke_45 rfl 0 rfl ?_
      refine mv_getR (pc := 46) (ci := 12) (C := R_Book) (T := F_Book) (N := 65) B 14 rfl rfl (by decide) i_Book (B.2.2.2.1 _ k_1857) rfl (hmr _ 14 _ rfl) d_Book_poke_46 ?_
      refine mv_iload_n (pc := 49) B d_Book_poke_49 rfl 1 rfl ?_
      refine mv_iald (pc := 50) B rfl (i32_in ht0 (show t9.toInt < 4100 by omega)) d_Book_poke_50 ?_
      refine mv_iload_n (pc := 51) B d_Book_poke_51 rfl 2 rfl ?_
      refine mv_iadd (pc := 52) B d_Book_poke_52 ?_
      refine mv_topi (fun y52 ey52 => ?_)
      have fy52 := i32_addE ey52 (by (try simp only [Int32.reduceToInt]); omega) (by (try simp only [Int32.reduceToInt]); omega)
      try simp only [Int32.reduceToInt] at fy52
      refine mv_lload_n (pc := 53) B d_Book_poke_53 rfl 3 rfl ?_
      refine mv_aload_n (pc := 54) B d_Book_poke_54 rfl 0 rfl ?_
      refine mv_getR (pc := 55) (ci := 12) (C := R_Book) (T := F_Book) (N := 65) B 12 rfl rfl (by decide) i_Book (B.2.2.2.1 _ k_1855) rfl (hmr _ 12 _ rfl) d_Book_poke_55 ?_
      refine mv_iload_n (pc := 58) B d_Book_poke_58 rfl 1 rfl ?_
      refine mv_iald (pc := 59) B rfl (i32_in ht0 (show t9.toInt < 4100 by omega)) d_Book_poke_59 ?_
      refine mv_callSl (pc := 60) (n := 2) B (mK_ok sk sv) hNs (c_Book_cut l hi _ _ _) rfl (ma_goodc kc_Book_cut) (B.2.2.2.1 _ k_2427) (B.2.2.2.1 _ k_2428) (B.2.2.2.1 _ k_13) ⟨by decide +kernel, by decide +kernel, by decide +kernel⟩ rfl d_Book_poke_60 rfl (Nat.le_of_ble_eq_true rfl) ⟨by decide, by decide⟩ ⟨by decide, by decide⟩ ⟨by decide, by decide⟩ (mv_noH hno _) (fun v60 σ60 h60 => ?_)
      have e60 := h60.symm
      subst e60
      refine mv_last (pc := 63) B rfl (i32_in (show 0 ≤ y52.toInt by omega) (show y52.toInt < 65536 by omega)) d_Book_poke_63 ?_
      exact mv_vret (pc := 64) B hr d_Book_poke_64 (Nat.le_refl _) (Nat.le_refl _) ⟨rfl, by first | exact Fx.rf | exact Fx.rf.sb (Or.inr (Or.inl rfl)) | exact Fx.rf.sb (Or.inr (Or.inr (Or.inl rfl)))⟩
    · skip
      refine mv_iload_n (pc := 37) B d_Book_poke_37 rfl 2 rfl ?_
      refine mv_if_le (pc := 38) (tgt := 64) B d_Book_poke_38 rfl (fun h38 => ?_) (fun h38 => ?_)
      · skip
        exact mv_vret (pc := 64) B hr d_Book_poke_64 (Nat.le_refl _) (Nat.le_refl _) ⟨rfl, by first | exact Fx.rf | exact Fx.rf.sb (Or.inr (Or.inl rfl)) | exact Fx.rf.sb (Or.inr (Or.inr (Or.inl rfl)))⟩
      · skip
        refine mv_aload_n (pc := 41) B d_Book_poke_41 rfl 0 rfl ?_
        refine mv_getR (pc := 42) (ci := 12) (C := R_Book) (T := F_Book) (N := 65) B 56 rfl rfl (by decide) i_Book (B.2.2.2.1 _ k_1905) rfl (hmr _ 56 _ rfl) d_Book_poke_42 ?_
        refine mv_aload_n (pc := 45) B d_Book_poke_45 rfl 0 rfl ?_
        refine mv_getR (pc := 46) (ci := 12) (C := R_Book) (T := F_Book) (N := 65) B 14 rfl rfl (by decide) i_Book (B.2.2.2.1 _ k_1857) rfl (hmr _ 14 _ rfl) d_Book_poke_46 ?_
        refine mv_iload_n (pc := 49) B d_Book_poke_49 rfl 1 rfl ?_
        refine mv_iald (pc := 50) B rfl (i32_in ht0 (show t9.toInt < 4100 by omega)) d_Book_poke_50 ?_
        refine mv_iload_n (pc := 51) B d_Book_poke_51 rfl 2 rfl ?_
        refine mv_iadd (pc := 52) B d_Book_poke_52 ?_
        refine mv_topi (fun y52 ey52 => ?_)
        have fy52 := i32_addE ey52 (by (try simp only [Int32.reduceToInt]); omega) (by (try simp only [Int32.reduceToInt]); omega)
        try simp only [Int32.reduceToInt] at fy52
        refine mv_lload_n (pc := 53) B d_Book_poke_53 rfl 3 rfl ?_
        refine mv_aload_n (pc := 54) B d_Book_poke_54 rfl 0 rfl ?_
        refine mv_getR (pc := 55) (ci := 12) (C := R_Book) (T := F_Book) (N := 65) B 12 rfl rfl (by decide) i_Book (B.2.2.2.1 _ k_1855) rfl (hmr _ 12 _ rfl) d_Book_poke_55 ?_
        refine mv_iload_n (pc := 58) B d_Book_poke_58 rfl 1 rfl ?_
        refine mv_iald (pc := 59) B rfl (i32_in ht0 (show t9.toInt < 4100 by omega)) d_Book_poke_59 ?_
        refine mv_callSl (pc := 60) (n := 2) B (mK_ok sk sv) hNs (c_Book_cut l hi _ _ _) rfl (ma_goodc kc_Book_cut) (B.2.2.2.1 _ k_2427) (B.2.2.2.1 _ k_2428) (B.2.2.2.1 _ k_13) ⟨by decide +kernel, by decide +kernel, by decide +kernel⟩ rfl d_Book_poke_60 rfl (Nat.le_of_ble_eq_true rfl) ⟨by decide, by decide⟩ ⟨by decide, by decide⟩ ⟨by decide, by decide⟩ (mv_noH hno _) (fun v60 σ60 h60 => ?_)
        have e60 := h60.symm
        subst e60
        refine mv_last (pc := 63) B rfl (i32_in (show 0 ≤ y52.toInt by omega) (show y52.toInt < 65536 by omega)) d_Book_poke_63 ?_
        exact mv_vret (pc := 64) B hr d_Book_poke_64 (Nat.le_refl _) (Nat.le_refl _) ⟨rfl, by first | exact Fx.rf | exact Fx.rf.sb (Or.inr (Or.inl rfl)) | exact Fx.rf.sb (Or.inr (Or.inr (Or.inl rfl)))⟩
  · skip
    refine mv_aload_n (pc := 9) B d_Book_poke_9 rfl 0 rfl ?_
    refine mv_getR (pc := 10) (ci := 12) (C := R_Book) (T := F_Book) (N := 65) B 55 rfl rfl (by decide) i_Book (B.2.2.2.1 _ k_1904) rfl (hmr _ 55 _ rfl) d_Book_poke_10 ?_
    refine mv_iload_n (pc := 13) B d_Book_poke_13 rfl 1 rfl ?_
    refine mv_lload_n (pc := 14) B d_Book_poke_14 rfl 3 rfl ?_
    refine mv_aload_n (pc := 15) B d_Book_poke_15 rfl 0 rfl ?_
    refine mv_getR (pc := 16) (ci := 12) (C := R_Book) (T := F_Book) (N := 65) B 12 rfl rfl (by decide) i_Book (B.2.2.2.1 _ k_1855) rfl (hmr _ 12 _ rfl) d_Book_poke_16 ?_
    refine mv_iload_n (pc := 19) B d_Book_poke_19 rfl 1 rfl ?_
    refine mv_iald (pc := 20) B rfl (i32_in ht0 (show t9.toInt < 4100 by omega)) d_Book_poke_20 ?_
    refine mv_callSl (pc := 21) (n := 2) B (mK_ok sk sv) hNs (c_Book_cut l hi _ _ _) rfl (ma_goodc kc_Book_cut) (B.2.2.2.1 _ k_2427) (B.2.2.2.1 _ k_2428) (B.2.2.2.1 _ k_13) ⟨by decide +kernel, by decide +kernel, by decide +kernel⟩ rfl d_Book_poke_21 rfl (Nat.le_of_ble_eq_true rfl) ⟨by decide, by decide⟩ ⟨by decide, by decide⟩ ⟨by decide, by decide⟩ (mv_noH hno _) (fun v21 σ21 h21 => ?_)
    have e21 := h21.symm
    subst e21
    refine mv_last (pc := 24) B rfl (i32_in ht0 (show t9.toInt < 4100 by omega)) d_Book_poke_24 ?_
    refine mv_goto (pc := 25) (tgt := 64) B d_Book_poke_25 rfl ?_
    exact mv_vret (pc := 64) B hr d_Book_poke_64 (Nat.le_refl _) (Nat.le_refl _) ⟨rfl, by first | exact Fx.rf | exact Fx.rf.sb (Or.inr (Or.inl rfl)) | exact Fx.rf.sb (Or.inr (Or.inr (Or.inl rfl)))⟩
