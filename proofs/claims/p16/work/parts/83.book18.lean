/-! the reference's Book: the value of an expression -/
/-- what an expression's value needs -/
def EP (B th n k w sp r : Nat) (g : Gh) (q : Nat) (σ : mv_H) : Prop := (ST B th n k g σ ∧ DY B th w σ ∧ w ≤ 12000) ∧ ((mv_i σ B 62).toInt = sp ∧ sp + q < 33000) ∧ q < n ∧ nS B σ q ≤ 12 ∧ g.1 q ≤ r
/-- what it leaves -/
def EO (B sp : Nat) (σ τ : mv_H) : Prop := EB B sp σ τ ∧ mv_i τ B 62 = mv_i σ B 62
theorem EO.rf {B sp : Nat} {σ : mv_H} : EO B sp σ σ := ⟨Fx.rf, rfl⟩
theorem EO.tr {B sp : Nat} {σ τ υ : mv_H} (h : EO B sp σ τ) (g : EO B sp τ υ) : EO B sp σ υ := ⟨h.1.tr g.1, g.2.trans h.2⟩
theorem EB.nd {B sp o j : Nat} {σ τ : mv_H} (h : EB B sp σ τ) (ho : ¬ o = B + 31) : mv_a τ o j = mv_a σ o j := h.2.2.2.1 _ _ (by omega)
theorem EP.mv {B th n k w sp r q : Nat} {g : Gh} {σ τ : mv_H} (h : EP B th n k w sp r g q σ) (f : EO B sp σ τ) : EP B th n k w sp r g q τ :=
  ⟨⟨h.1.1.df f.1.df, h.1.2.1.ef f.1, h.1.2.2⟩, by rw [f.2]; exact h.2.1, h.2.2.1, by show (mv_a τ (B + 18) q).toInt ≤ 12; rw [f.1.nd (by omega)]; exact h.2.2.2.1, h.2.2.2.2⟩
theorem ST.x {B th n k q : Nat} {g : Gh} {σ : mv_H} (h : ST B th n k g σ) (hq : q < n) (hs : nS B σ q ≤ 12) : XQ B th σ g.1 0 q := ((h.2.1 q (Nat.zero_le _) hq).1 hs).1
theorem EP.x {B th n k w sp r q : Nat} {g : Gh} {σ : mv_H} (h : EP B th n k w sp r g q σ) : XQ B th σ g.1 0 q := h.1.1.x h.2.2.1 h.2.2.2.1
theorem EP.child {B th n k w sp r q : Nat} {g : Gh} {σ : mv_H} {v : Int32} (h : EP B th n k w sp r g q σ) (hx : XC B σ g.1 0 q (g.1 q) v) : ∃ m : Nat, v.toInt = m ∧ m < q ∧ r - 1 + 1 = r ∧ EP B th n k w sp (r - 1) g m σ := by
  obtain ⟨m, a, -, b, c, d⟩ := hx
  obtain ⟨h1, h2, h3, h4, h5⟩ := h
  exact ⟨m, a, b, by omega, h1, ⟨h2.1, by omega⟩, by omega, d, by omega⟩
/-- the spine -/
def SP (B sp q r : Nat) (g : Gh) (τ : mv_H) (c : Nat) : Prop := ∀ i, i < c → ∃ u : Nat, (mv_a τ (B + 31) (sp + i)).toInt = u ∧ u + i ≤ q ∧ (nS B τ u = 7 ∨ nS B τ u = 8) ∧ g.1 u ≤ r
def ES (B th n k w sp q r : Nat) (g : Gh) (σ τ : mv_H) (c : Nat) : Prop := EB B sp σ τ ∧ (ST B th n k g τ ∧ DY B th w τ ∧ w ≤ 12000) ∧ (mv_i τ B 62).toInt = (sp + c : Nat) ∧ SP B sp q r g τ c ∧ sp + q < 33000 ∧ q < n
theorem ES.ep {B th n k w sp q r c m : Nat} {g : Gh} {σ τ : mv_H} (h : ES B th n k w sp q r g σ τ c) (hm : m + c ≤ q) (hs : nS B τ m ≤ 12) (hr : g.1 m ≤ r) : EP B th n k w (sp + c) r g m τ :=
  ⟨h.2.1, ⟨h.2.2.1, by have := h.2.2.2.2.1; omega⟩, by have := h.2.2.2.2.2; omega, hs, hr⟩
theorem ES.mv {B th n k w sp q r c : Nat} {g : Gh} {σ τ υ : mv_H} (h : ES B th n k w sp q r g σ τ c) (f : EO B (sp + c) τ υ) : ES B th n k w sp q r g σ υ c :=
  ⟨h.1.tr (f.1.lo (Nat.le_add_right _ _)), ⟨h.2.1.1.df f.1.df, h.2.1.2.1.ef f.1, h.2.1.2.2⟩, by rw [f.2]; exact h.2.2.1, fun i hi => by
    obtain ⟨u, a, b, c1, d⟩ := h.2.2.2.1 i hi
    refine ⟨u, by rw [f.1.2.2.2.1 _ _ (by omega)]; exact a, b, ?_, d⟩
    show (mv_a υ (B + 18) u).toInt = 7 ∨ (mv_a υ (B + 18) u).toInt = 8
    rw [f.1.nd (by omega)]
    exact c1, h.2.2.2.2⟩
theorem ES.push {B th n k w sp q r c m : Nat} {g : Gh} {σ τ T : mv_H} {v : Int32} (h : ES B th n k w sp q r g σ τ c) (hm : m + c ≤ q) (hs : nS B τ m = 7 ∨ nS B τ m = 8) (hr : g.1 m ≤ r) (hv : v.toInt = m) (e : T = mv_si (mv_sa τ (B + 31) (mv_i τ B 62).toNatClampNeg v) B 62 (mv_i τ B 62 + 1)) : ES B th n k w sp q r g σ T (c + 1) := by
  subst e
  obtain ⟨h1, h2, h3, h4, h5, h6⟩ := h
  have hc : (mv_i τ B 62).toNatClampNeg = sp + c := by have := i32_cl (x := mv_i τ B 62) (by omega); omega
  have f : EB B sp τ (mv_si (mv_sa τ (B + 31) (mv_i τ B 62).toNatClampNeg v) B 62 (mv_i τ B 62 + 1)) := by
    refine Fx.si (Fx.sa Fx.rf ?_) ?_
    · exact ⟨rfl, by omega⟩
    · exact ⟨rfl, Or.inr rfl⟩
  refine ⟨h1.tr f, ⟨h2.1.df f.df, h2.2.1.ef f, h2.2.2⟩, ?_, fun i hi => ?_, h5, h6⟩
  · rw [mv_si_s, i32_inc (by omega)]
    omega
  · have en : ∀ u, nS B (mv_si (mv_sa τ (B + 31) (mv_i τ B 62).toNatClampNeg v) B 62 (mv_i τ B 62 + 1)) u = nS B τ u := fun u => congrArg Int32.toInt (f.nd (by omega))
    by_cases z : i = c
    · subst z
      refine ⟨m, ?_, hm, by rw [en]; exact hs, hr⟩
      show Int32.toInt (mv_u _ _ _ _ _ _) = _
      rw [hc, mv_u_same]
      exact hv
    · obtain ⟨u, a, b, c1, d⟩ := h4 i (by omega)
      refine ⟨u, ?_, b, by rw [en]; exact c1, d⟩
      show Int32.toInt (mv_u _ _ _ _ _ _) = _
      rw [mv_u_ne _ _ (by omega)]
      exact a
theorem ES.pop {B th n k w sp q r c : Nat} {g : Gh} {σ τ T : mv_H} (h : ES B th n k w sp q r g σ τ (c + 1)) (e : T = mv_si τ B 62 (mv_i τ B 62 - 1)) : ∃ u : Nat, (mv_a T (B + 31) (mv_i T B 62).toNatClampNeg).toInt = u ∧ u + c ≤ q ∧ (nS B T u = 7 ∨ nS B T u = 8) ∧ g.1 u ≤ r ∧ ES B th n k w sp q r g σ T c := by
  subst e
  obtain ⟨h1, h2, h3, h4, h5, h6⟩ := h
  obtain ⟨u, a, b, c1, d⟩ := h4 c (Nat.lt_succ_self _)
  have f : EB B sp τ (mv_si τ B 62 (mv_i τ B 62 - 1)) := Fx.si Fx.rf ⟨rfl, Or.inr rfl⟩
  have w1 : (mv_i τ B 62 - 1).toInt = (sp + c : Nat) := by
    rw [i32_sub (x := mv_i τ B 62) (y := 1) (by show -2147483648 ≤ (mv_i τ B 62).toInt - 1; omega) (by show (mv_i τ B 62).toInt - 1 < 2147483648; omega)]
    show (mv_i τ B 62).toInt - 1 = _
    omega
  have w2 : (mv_i τ B 62 - 1).toNatClampNeg = sp + c := by have := i32_cl (x := mv_i τ B 62 - 1) (by omega); omega
  exact ⟨u, by rw [mv_si_s, w2]; exact a, b, c1, d, h1.tr f, ⟨h2.1.df f.df, h2.2.1.ef f, h2.2.2⟩, by rw [mv_si_s]; exact w1, fun i hi => h4 i (by omega), h5, h6⟩
theorem ES.rf {B th n k w sp q r : Nat} {g : Gh} {σ : mv_H} (h : EP B th n k w sp r g q σ) : ES B th n k w sp q r g σ σ 0 := ⟨Fx.rf, h.1, h.2.1.1, fun i hi => absurd hi (Nat.not_lt_zero _), h.2.1.2, h.2.2.1⟩
theorem ES.eo {B th n k w sp q r : Nat} {g : Gh} {σ τ : mv_H} (h : ES B th n k w sp q r g σ τ 0) (h0 : (mv_i σ B 62).toInt = sp) : EO B sp σ τ := ⟨h.1, Int32.toInt_inj.mp (by rw [h.2.2.1, h0]; rfl)⟩

def y_Book_eval : MethodName := ⟨"MachineLoomModel$Book", "eval", "(I)J"⟩
abbrev b_Book_eval : ByteArray := prog_15_method_62_code
theorem kc_Book_eval : Cond.code y_Book_eval b_Book_eval 6 (Option.some Jvm.ClassFile.FieldType.long) ∈ ma := ma_of (tb_11 _ (List.mem_of_getElem? (i := 103) rfl)) rfl
def y_Book_simple : MethodName := ⟨"MachineLoomModel$Book", "simple", "(I)J"⟩
abbrev b_Book_simple : ByteArray := prog_15_method_63_code
theorem kc_Book_simple : Cond.code y_Book_simple b_Book_simple 2 (Option.some Jvm.ClassFile.FieldType.long) ∈ ma := ma_of (tb_11 _ (List.mem_of_getElem? (i := 107) rfl)) rfl
def y_Book_row : MethodName := ⟨"MachineLoomModel$Book", "row", "(I)J"⟩
abbrev b_Book_row : ByteArray := prog_15_method_65_code
theorem kc_Book_row : Cond.code y_Book_row b_Book_row 7 (Option.some Jvm.ClassFile.FieldType.long) ∈ ma := ma_of (tb_11 _ (List.mem_of_getElem? (i := 124) rfl)) rfl
def EvE (l : Launch) (dA : FieldType → ClassId) (D : va_G) (al : Nat → Nat) (ext : mv_Sh) (sk sv : Nat → Nat) (B j : Nat) : Prop := ∀ (v : Int32) (σ : mv_H) (th n k w sp : Nat) (g : Gh) (q : Nat), v.toInt = q → EP B th n k w sp j g q σ → mv_C l y_Book_eval (Cond.code y_Book_eval b_Book_eval 6 (some .long) :: ma) { frames := 3 * j + 3, cells := 0, slots := 0, locals := 72 * j + 120 } (mg dA D al ext) (mK sk sv) [.ref (al B), .int v] σ (mv_Rl (fun _ σ1 => EO B sp σ σ1))
def EvS (l : Launch) (dA : FieldType → ClassId) (D : va_G) (al : Nat → Nat) (ext : mv_Sh) (sk sv : Nat → Nat) (B j : Nat) : Prop := ∀ (v : Int32) (σ : mv_H) (th n k w sp : Nat) (g : Gh) (q : Nat), v.toInt = q → EP B th n k w sp j g q σ → ¬ nS B σ q = 7 → ¬ nS B σ q = 8 → mv_C l y_Book_simple (Cond.code y_Book_simple b_Book_simple 2 (some .long) :: ma) { frames := 3 * j + 2, cells := 0, slots := 0, locals := 72 * j + 99 } (mg dA D al ext) (mK sk sv) [.ref (al B), .int v] σ (mv_Rl (fun _ σ1 => EO B sp σ σ1))
def EvR (l : Launch) (dA : FieldType → ClassId) (D : va_G) (al : Nat → Nat) (ext : mv_Sh) (sk sv : Nat → Nat) (B j : Nat) : Prop := ∀ (v : Int32) (σ : mv_H) (th n k w sp : Nat) (g : Gh) (q : Nat), XL B σ g.1 0 q (g.1 q) v → EP B th n k w sp j g q σ → mv_C l y_Book_row (Cond.code y_Book_row b_Book_row 7 (some .long) :: ma) { frames := 3 * j + 1, cells := 0, slots := 0, locals := 72 * j + 73 } (mg dA D al ext) (mK sk sv) [.ref (al B), .int v] σ (mv_Rl (fun _ σ1 => EO B sp σ σ1))
theorem k_2500 : (Jvm.Cond.methodLink "MachineLoomModel$Book" (470 : Nat) ({ cls := "MachineLoomModel$Book", name := "eval", desc := "(I)J" } : Jvm.MethodName)) ∈ ma := ma_of (tb_11 _ (List.mem_of_getElem? (i := 100) rfl)) rfl
theorem k_2502 : (Jvm.Cond.instanceMethod ({ cls := "MachineLoomModel$Book", name := "eval", desc := "(I)J" } : Jvm.MethodName)) ∈ ma := ma_of (tb_11 _ (List.mem_of_getElem? (i := 102) rfl)) rfl
theorem ks_131 : Cond.selects "MachineLoomModel$Book" ⟨"MachineLoomModel$Book", "eval", "(I)J"⟩ ⟨"MachineLoomModel$Book", "eval", "(I)J"⟩ ∈ ma := ma_sel 131 rfl rfl
theorem d_Book_row_0 : decode b_Book_row 0 = .ok (.lconst 0, 1) := by decide +kernel
theorem d_Book_row_1 : decode b_Book_row 1 = .ok (.lstore_n 2, 1) := by decide +kernel
theorem d_Book_row_2 : decode b_Book_row 2 = .ok (.iload_n 1, 1) := by decide +kernel
theorem d_Book_row_3 : decode b_Book_row 3 = .ok (.istore 4, 2) := by decide +kernel
theorem d_Book_row_5 : decode b_Book_row 5 = .ok (.iload 4, 2) := by decide +kernel
theorem d_Book_row_7 : decode b_Book_row 7 = .ok (.ifCond .lt (53), 3) := by decide +kernel
theorem d_Book_row_10 : decode b_Book_row 10 = .ok (.aload_n 0, 1) := by decide +kernel
theorem d_Book_row_11 : decode b_Book_row 11 = .ok (.iload 4, 2) := by decide +kernel
theorem d_Book_row_13 : decode b_Book_row 13 = .ok (.invokevirtual 470, 3) := by decide +kernel
theorem d_Book_row_16 : decode b_Book_row 16 = .ok (.lstore 5, 2) := by decide +kernel
theorem d_Book_row_18 : decode b_Book_row 18 = .ok (.aload_n 0, 1) := by decide +kernel
theorem d_Book_row_19 : decode b_Book_row 19 = .ok (.getfield 97, 3) := by decide +kernel
theorem d_Book_row_22 : decode b_Book_row 22 = .ok (.iload 4, 2) := by decide +kernel
theorem d_Book_row_24 : decode b_Book_row 24 = .ok (.iaload, 1) := by decide +kernel
theorem d_Book_row_25 : decode b_Book_row 25 = .ok (.bipush 64, 2) := by decide +kernel
theorem d_Book_row_27 : decode b_Book_row 27 = .ok (.if_icmp .ne (8), 3) := by decide +kernel
theorem d_Book_row_30 : decode b_Book_row 30 = .ok (.lload 5, 2) := by decide +kernel
theorem d_Book_row_32 : decode b_Book_row 32 = .ok (.goto (15), 3) := by decide +kernel
theorem d_Book_row_35 : decode b_Book_row 35 = .ok (.lload_n 2, 1) := by decide +kernel
theorem d_Book_row_36 : decode b_Book_row 36 = .ok (.aload_n 0, 1) := by decide +kernel
theorem d_Book_row_37 : decode b_Book_row 37 = .ok (.getfield 97, 3) := by decide +kernel
theorem d_Book_row_40 : decode b_Book_row 40 = .ok (.iload 4, 2) := by decide +kernel
theorem d_Book_row_42 : decode b_Book_row 42 = .ok (.iaload, 1) := by decide +kernel
theorem d_Book_row_43 : decode b_Book_row 43 = .ok (.lshl, 1) := by decide +kernel
theorem d_Book_row_44 : decode b_Book_row 44 = .ok (.lload 5, 2) := by decide +kernel
theorem d_Book_row_46 : decode b_Book_row 46 = .ok (.lor, 1) := by decide +kernel
theorem d_Book_row_47 : decode b_Book_row 47 = .ok (.lstore_n 2, 1) := by decide +kernel
theorem d_Book_row_48 : decode b_Book_row 48 = .ok (.aload_n 0, 1) := by decide +kernel
theorem d_Book_row_49 : decode b_Book_row 49 = .ok (.getfield 94, 3) := by decide +kernel
theorem d_Book_row_52 : decode b_Book_row 52 = .ok (.iload 4, 2) := by decide +kernel
theorem d_Book_row_54 : decode b_Book_row 54 = .ok (.iaload, 1) := by decide +kernel
theorem d_Book_row_55 : decode b_Book_row 55 = .ok (.istore 4, 2) := by decide +kernel
theorem d_Book_row_57 : decode b_Book_row 57 = .ok (.goto (-52), 3) := by decide +kernel
theorem d_Book_row_60 : decode b_Book_row 60 = .ok (.lload_n 2, 1) := by decide +kernel
theorem d_Book_row_61 : decode b_Book_row 61 = .ok (.lreturn, 1) := by decide +kernel
set_option maxHeartbeats 4000000 in
set_option maxRecDepth 100000 in
theorem c_Book_row_x (l : Launch) {dA : FieldType → ClassId} {D : va_G} {al : Nat → Nat} {ext : mv_Sh} {sk sv : Nat → Nat} (hi : mv_inj (mg dA D al ext)) (σ : mv_H) (v9 : Int32) (th n k w sp : Nat) (g : Gh) (q r : Nat) (hX0 : XL 74 σ g.1 0 q (g.1 q) v9) (hP : EP 74 th n k w sp r g q σ) (ih0 : ∀ j, j + 1 = r → EvE l dA D al ext sk sv 74 j) : mv_C l y_Book_row (Cond.code y_Book_row b_Book_row 7 (Option.some Jvm.ClassFile.FieldType.long) :: ma) ({ frames := 3 * r + 1, cells := 0, slots := 0, locals := 72 * r + 73 }) (mg dA D al ext) (mK sk sv) [.ref (al 74), .int v9] σ (mv_Rl (fun _ σ1 => EO 74 sp σ σ1)) := by
  refine mv_C.ofV (cc := b_Book_row) (nL := 7) (ret := (Option.some Jvm.ClassFile.FieldType.long)) (by decide +kernel) rfl hi (Nat.le_of_ble_eq_true rfl) ?_
  intro p e s m below meth c B hNs hr hnm hno
  obtain ⟨m0, hm1, -, hm2, hX⟩ := hX0
  have hE21 := hP.2.1.2
  have lp : ∀ (nn : Nat) (τ : mv_H) (x9 : Int32) (u9 : Int64) (z9 : Nat) (hF : EO 74 sp σ τ) (hEt : EP 74 th n k w sp r g q τ) (hx0 : x9.toInt = -1 ∨ ((m0 : Int) ≤ x9.toInt ∧ x9.toInt < q)) (hz9 : x9.toInt = -1 ∨ z9 + x9.toInt = 33000), z9 < nn → mv_V p l e ({ frames := 3 * r + 1, cells := 0, slots := 0, locals := 72 * r + 73 }) s m ([.ref (al 74), .int v9] : List Value).toArray below meth c (mg dA D al ext) 7 0 0 (mv_Q (mg dA D al ext) below s 0 0 (mv_Rl (fun _ σ1 => EO 74 sp σ σ1))) τ 5 [(4, .int x9), (2, .long u9), (0, .ref (al 74)), (1, .int v9)] [] := by
    intro nn
    induction nn with
    | zero => intro τ x9 u9 z9 hF hEt hx0 hz9 hm; exact absurd hm (Nat.not_lt_zero _)
    | succ nn ih =>
      intro τ x9 u9 z9 hF hEt hx0 hz9 hm
      have hXt : ∀ j, m0 ≤ j → j < q → nS 74 τ j ≤ 12 ∧ g.1 j < g.1 q ∧ (nF 74 τ j = -1 ∨ ((j : Int) < nF 74 τ j ∧ nF 74 τ j < q)) := fun j a b => by
        obtain ⟨y1, y2, y3⟩ := hX j a b
        show (mv_a τ (74 + 18) j).toInt ≤ 12 ∧ _ ∧ ((mv_a τ (74 + 22) j).toInt = -1 ∨ ((j : Int) < (mv_a τ (74 + 22) j).toInt ∧ (mv_a τ (74 + 22) j).toInt < q))
        rw [hF.1.nd (by omega), hF.1.nd (by omega)]
        exact ⟨y1, y2, y3⟩
      have hE21 := hEt.2.1.2
      have hE22 := hEt.2.2.1
      have hE23 := hEt.2.2.2.2
      refine mv_iload (pc := 5) B d_Book_row_5 0 rfl ?_
      refine mv_if_lt (pc := 7) (tgt := 60) B d_Book_row_7 rfl (fun h7 => ?_) (fun h7 => ?_)
      · skip
        refine mv_lload_n (pc := 60) B d_Book_row_60 rfl 1 rfl ?_
        exact mv_lret (pc := 61) B hr d_Book_row_61 (Nat.le_refl _) (Nat.le_refl _) ⟨_, rfl, hF⟩
      · skip
        have hx1 : ¬ x9.toInt < 0 := fun z => h7 (Int32.lt_iff_toInt_lt.mpr z)
        obtain ⟨j, hj, hj1, hj2⟩ : ∃ j : Nat, x9.toInt = j ∧ m0 ≤ j ∧ j < q := ⟨x9.toInt.toNat, by omega, by omega, by omega⟩
        have hcj : x9.toNatClampNeg = j := by have := i32_cl (x := x9) (by omega); omega
        obtain ⟨d1, d2, d3⟩ := hXt j hj1 hj2
        have hr1 : r - 1 + 1 = r := by omega
        refine mv_aload_n (pc := 10) B d_Book_row_10 rfl 2 rfl ?_
        refine mv_iload (pc := 11) B d_Book_row_11 0 rfl ?_
        refine mv_callVl (pc := 13) (n := 1) (ci := 12) (C := R_Book) B (mK_ok sk sv) hNs rfl rfl (ih0 (r - 1) hr1 x9 _ th n k w sp g j hj ⟨hEt.1, ⟨hEt.2.1.1, by omega⟩, by omega, d1, by omega⟩) rfl (ma_goodc kc_Book_eval) (B.2.2.2.1 _ k_2500) (B.2.2.2.1 _ k_2502) (B.2.2.2.1 _ ks_131) (B.2.2.2.1 _ k_13) ⟨by decide +kernel, by decide +kernel, by decide +kernel⟩ rfl d_Book_row_13 rfl (Nat.le_of_ble_eq_true rfl) ⟨by first | decide | (dsimp only; omega), by first | decide | (dsimp only; omega)⟩ ⟨Nat.le_refl _, Nat.le_refl _⟩ ⟨Nat.le_refl _, Nat.le_refl _⟩ (mv_noH hno _) (fun v13 σ13 h13 => ?_)
        have hF := hF.tr h13
        have hEt := hEt.mv h13
        refine mv_lstore (pc := 16) B d_Book_row_16 (by decide) rfl ?_
        refine mv_aload_n (pc := 18) B d_Book_row_18 rfl 3 rfl ?_
        refine mv_getR (pc := 19) (ci := 12) (C := R_Book) (T := F_Book) (N := 65) B 45 rfl rfl (by decide) i_Book (B.2.2.2.1 _ k_1894) rfl (hEt.1.1.1 _ 45 _ rfl) d_Book_row_19 ?_
        refine mv_iload (pc := 22) B d_Book_row_22 1 rfl ?_
        refine mv_iald (pc := 24) B rfl (i32_in (show 0 ≤ x9.toInt by omega) (show x9.toInt < 33000 by omega)) d_Book_row_24 ?_
        refine mv_bipush (pc := 25) (v := 64) B d_Book_row_25 (by decide) ?_
        refine mv_icmp_ne (pc := 27) (tgt := 35) B d_Book_row_27 rfl (fun h27 => ?_) (fun h27 => ?_)
        · skip
          refine mv_lload_n (pc := 35) B d_Book_row_35 rfl 2 rfl ?_
          refine mv_aload_n (pc := 36) B d_Book_row_36 rfl 3 rfl ?_
          refine mv_getR (pc := 37) (ci := 12) (C := R_Book) (T := F_Book) (N := 65) B 45 rfl rfl (by decide) i_Book (B.2.2.2.1 _ k_1894) rfl (hEt.1.1.1 _ 45 _ rfl) d_Book_row_37 ?_
          refine mv_iload (pc := 40) B d_Book_row_40 1 rfl ?_
          refine mv_iald (pc := 42) B rfl (i32_in (show 0 ≤ x9.toInt by omega) (show x9.toInt < 33000 by omega)) d_Book_row_42 ?_
          refine mv_lshl (pc := 43) B d_Book_row_43 ?_
          refine mv_lload (pc := 44) B d_Book_row_44 0 rfl ?_
          refine mv_lor (pc := 46) B d_Book_row_46 ?_
          refine mv_lstore_n (pc := 47) B d_Book_row_47 rfl (by decide) rfl ?_
          refine mv_aload_n (pc := 48) B d_Book_row_48 rfl 3 rfl ?_
          refine mv_getR (pc := 49) (ci := 12) (C := R_Book) (T := F_Book) (N := 65) B 44 rfl rfl (by decide) i_Book (B.2.2.2.1 _ k_1893) rfl (hEt.1.1.1 _ 44 _ rfl) d_Book_row_49 ?_
          refine mv_iload (pc := 52) B d_Book_row_52 2 rfl ?_
          refine mv_iald (pc := 54) B rfl (i32_in (show 0 ≤ x9.toInt by omega) (show x9.toInt < 33000 by omega)) d_Book_row_54 ?_
          refine mv_istore (pc := 55) B d_Book_row_55 (by decide) rfl ?_
          refine mv_goto (pc := 57) (tgt := 5) B d_Book_row_57 rfl ?_
          refine mv_lpick [0, 1, 3, 4] rfl ?_
          have d4 : (mv_a σ13 96 x9.toNatClampNeg).toInt = -1 ∨ ((j : Int) < (mv_a σ13 96 x9.toNatClampNeg).toInt ∧ (mv_a σ13 96 x9.toNatClampNeg).toInt < q) := by rw [h13.1.nd (show ¬ 96 = 74 + 31 by omega), hcj]; exact d3
          obtain ⟨z8, hz7, hz8⟩ : ∃ z8 : Nat, z8 < z9 ∧ ((mv_a σ13 96 x9.toNatClampNeg).toInt = -1 ∨ z8 + (mv_a σ13 96 x9.toNatClampNeg).toInt = 33000) := by
            rcases d4 with d4 | d4
            · exact ⟨0, by omega, Or.inl d4⟩
            · exact ⟨(33000 - (mv_a σ13 96 x9.toNatClampNeg).toInt).toNat, by omega, by omega⟩
          exact ih _ _ _ z8 hF hEt (by omega) hz8 (by omega)
        · skip
          refine mv_lload (pc := 30) B d_Book_row_30 0 rfl ?_
          refine mv_goto (pc := 32) (tgt := 47) B d_Book_row_32 rfl ?_
          refine mv_lstore_n (pc := 47) B d_Book_row_47 rfl (by decide) rfl ?_
          refine mv_aload_n (pc := 48) B d_Book_row_48 rfl 3 rfl ?_
          refine mv_getR (pc := 49) (ci := 12) (C := R_Book) (T := F_Book) (N := 65) B 44 rfl rfl (by decide) i_Book (B.2.2.2.1 _ k_1893) rfl (hEt.1.1.1 _ 44 _ rfl) d_Book_row_49 ?_
          refine mv_iload (pc := 52) B d_Book_row_52 2 rfl ?_
          refine mv_iald (pc := 54) B rfl (i32_in (show 0 ≤ x9.toInt by omega) (show x9.toInt < 33000 by omega)) d_Book_row_54 ?_
          refine mv_istore (pc := 55) B d_Book_row_55 (by decide) rfl ?_
          refine mv_goto (pc := 57) (tgt := 5) B d_Book_row_57 rfl ?_
          refine mv_lpick [0, 1, 3, 4] rfl ?_
          have d4 : (mv_a σ13 96 x9.toNatClampNeg).toInt = -1 ∨ ((j : Int) < (mv_a σ13 96 x9.toNatClampNeg).toInt ∧ (mv_a σ13 96 x9.toNatClampNeg).toInt < q) := by rw [h13.1.nd (show ¬ 96 = 74 + 31 by omega), hcj]; exact d3
          obtain ⟨z8, hz7, hz8⟩ : ∃ z8 : Nat, z8 < z9 ∧ ((mv_a σ13 96 x9.toNatClampNeg).toInt = -1 ∨ z8 + (mv_a σ13 96 x9.toNatClampNeg).toInt = 33000) := by
            rcases d4 with d4 | d4
            · exact ⟨0, by omega, Or.inl d4⟩
            · exact ⟨(33000 - (mv_a σ13 96 x9.toNatClampNeg).toInt).toNat, by omega, by omega⟩
          exact ih _ _ _ z8 hF hEt (by omega) hz8 (by omega)
  refine mv_lconst (pc := 0) (v := 0) B d_Book_row_0 (by decide) ?_
  refine mv_lstore_n (pc := 1) B d_Book_row_1 rfl (by decide) rfl ?_
  refine mv_iload_n (pc := 2) B d_Book_row_2 rfl 2 rfl ?_
  refine mv_istore (pc := 3) B d_Book_row_3 (by decide) rfl ?_
  refine mv_lpick [0, 1, 2, 3] rfl ?_
  exact lp _ _ _ _ (33000 - v9.toInt).toNat EO.rf hP (Or.inr (by omega)) (Or.inr (by omega)) (Nat.lt_succ_self _)
set_option maxHeartbeats 4000000 in
set_option maxRecDepth 100000 in
theorem c_Book_row_y (l : Launch) {dA : FieldType → ClassId} {D : va_G} {al : Nat → Nat} {ext : mv_Sh} {sk sv : Nat → Nat} (hi : mv_inj (mg dA D al ext)) (σ : mv_H) (v9 : Int32) (th n k w sp : Nat) (g : Gh) (q r : Nat) (hX0 : XL 108 σ g.1 0 q (g.1 q) v9) (hP : EP 108 th n k w sp r g q σ) (ih0 : ∀ j, j + 1 = r → EvE l dA D al ext sk sv 108 j) : mv_C l y_Book_row (Cond.code y_Book_row b_Book_row 7 (Option.some Jvm.ClassFile.FieldType.long) :: ma) ({ frames := 3 * r + 1, cells := 0, slots := 0, locals := 72 * r + 73 }) (mg dA D al ext) (mK sk sv) [.ref (al 108), .int v9] σ (mv_Rl (fun _ σ1 => EO 108 sp σ σ1)) := by
  refine mv_C.ofV (cc := b_Book_row) (nL := 7) (ret := (Option.some Jvm.ClassFile.FieldType.long)) (by decide +kernel) rfl hi (Nat.le_of_ble_eq_true rfl) ?_
  intro p e s m below meth c B hNs hr hnm hno
  obtain ⟨m0, hm1, -, hm2, hX⟩ := hX0
  have hE21 := hP.2.1.2
  have lp : ∀ (nn : Nat) (τ : mv_H) (x9 : Int32) (u9 : Int64) (z9 : Nat) (hF : EO 108 sp σ τ) (hEt : EP 108 th n k w sp r g q τ) (hx0 : x9.toInt = -1 ∨ ((m0 : Int) ≤ x9.toInt ∧ x9.toInt < q)) (hz9 : x9.toInt = -1 ∨ z9 + x9.toInt = 33000), z9 < nn → mv_V p l e ({ frames := 3 * r + 1, cells := 0, slots := 0, locals := 72 * r + 73 }) s m ([.ref (al 108), .int v9] : List Value).toArray below meth c (mg dA D al ext) 7 0 0 (mv_Q (mg dA D al ext) below s 0 0 (mv_Rl (fun _ σ1 => EO 108 sp σ σ1))) τ 5 [(4, .int x9), (2, .long u9), (0, .ref (al 108)), (1, .int v9)] [] := by
    intro nn
    induction nn with
    | zero => intro τ x9 u9 z9 hF hEt hx0 hz9 hm; exact absurd hm (Nat.not_lt_zero _)
    | succ nn ih =>
      intro τ x9 u9 z9 hF hEt hx0 hz9 hm
      have hXt : ∀ j, m0 ≤ j → j < q → nS 108 τ j ≤ 12 ∧ g.1 j < g.1 q ∧ (nF 108 τ j = -1 ∨ ((j : Int) < nF 108 τ j ∧ nF 108 τ j < q)) := fun j a b => by
        obtain ⟨y1, y2, y3⟩ := hX j a b
        show (mv_a τ (108 + 18) j).toInt ≤ 12 ∧ _ ∧ ((mv_a τ (108 + 22) j).toInt = -1 ∨ ((j : Int) < (mv_a τ (108 + 22) j).toInt ∧ (mv_a τ (108 + 22) j).toInt < q))
        rw [hF.1.nd (by omega), hF.1.nd (by omega)]
        exact ⟨y1, y2, y3⟩
      have hE21 := hEt.2.1.2
      have hE22 := hEt.2.2.1
      have hE23 := hEt.2.2.2.2
      refine mv_iload (pc := 5) B d_Book_row_5 0 rfl ?_
      refine mv_if_lt (pc := 7) (tgt := 60) B d_Book_row_7 rfl (fun h7 => ?_) (fun h7 => ?_)
      · skip
        refine mv_lload_n (pc := 60) B d_Book_row_60 rfl 1 rfl ?_
        exact mv_lret (pc := 61) B hr d_Book_row_61 (Nat.le_refl _) (Nat.le_refl _) ⟨_, rfl, hF⟩
      · skip
        have hx1 : ¬ x9.toInt < 0 := fun z => h7 (Int32.lt_iff_toInt_lt.mpr z)
        obtain ⟨j, hj, hj1, hj2⟩ : ∃ j : Nat, x9.toInt = j ∧ m0 ≤ j ∧ j < q := ⟨x9.toInt.toNat, by omega, by omega, by omega⟩
        have hcj : x9.toNatClampNeg = j := by have := i32_cl (x := x9) (by omega); omega
        obtain ⟨d1, d2, d3⟩ := hXt j hj1 hj2
        have hr1 : r - 1 + 1 = r := by omega
        refine mv_aload_n (pc := 10) B d_Book_row_10 rfl 2 rfl ?_
        refine mv_iload (pc := 11) B d_Book_row_11 0 rfl ?_
        refine mv_callVl (pc := 13) (n := 1) (ci := 12) (C := R_Book) B (mK_ok sk sv) hNs rfl rfl (ih0 (r - 1) hr1 x9 _ th n k w sp g j hj ⟨hEt.1, ⟨hEt.2.1.1, by omega⟩, by omega, d1, by omega⟩) rfl (ma_goodc kc_Book_eval) (B.2.2.2.1 _ k_2500) (B.2.2.2.1 _ k_2502) (B.2.2.2.1 _ ks_131) (B.2.2.2.1 _ k_13) ⟨by decide +kernel, by decide +kernel, by decide +kernel⟩ rfl d_Book_row_13 rfl (Nat.le_of_ble_eq_true rfl) ⟨by first | decide | (dsimp only; omega), by first | decide | (dsimp only; omega)⟩ ⟨Nat.le_refl _, Nat.le_refl _⟩ ⟨Nat.le_refl _, Nat.le_refl _⟩ (mv_noH hno _) (fun v13 σ13 h13 => ?_)
        have hF := hF.tr h13
        have hEt := hEt.mv h13
        refine mv_lstore (pc := 16) B d_Book_row_16 (by decide) rfl ?_
        refine mv_aload_n (pc := 18) B d_Book_row_18 rfl 3 rfl ?_
        refine mv_getR (pc := 19) (ci := 12) (C := R_Book) (T := F_Book) (N := 65) B 45 rfl rfl (by decide) i_Book (B.2.2.2.1 _ k_1894) rfl (hEt.1.1.1 _ 45 _ rfl) d_Book_row_19 ?_
        refine mv_iload (pc := 22) B d_Book_row_22 1 rfl ?_
        refine mv_iald (pc := 24) B rfl (i32_in (show 0 ≤ x9.toInt by omega) (show x9.toInt < 33000 by omega)) d_Book_row_24 ?_
        refine mv_bipush (pc := 25) (v := 64) B d_Book_row_25 (by decide) ?_
        refine mv_icmp_ne (pc := 27) (tgt := 35) B d_Book_row_27 rfl (fun h27 => ?_) (fun h27 => ?_)
        · skip
          refine mv_lload_n (pc := 35) B d_Book_row_35 rfl 2 rfl ?_
          refine mv_aload_n (pc := 36) B d_Book_row_36 rfl 3 rfl ?_
          refine mv_getR (pc := 37) (ci := 12) (C := R_Book) (T := F_Book) (N := 65) B 45 rfl rfl (by decide) i_Book (B.2.2.2.1 _ k_1894) rfl (hEt.1.1.1 _ 45 _ rfl) d_Book_row_37 ?_
          refine mv_iload (pc := 40) B d_Book_row_40 1 rfl ?_
          refine mv_iald (pc := 42) B rfl (i32_in (show 0 ≤ x9.toInt by omega) (show x9.toInt < 33000 by omega)) d_Book_row_42 ?_
          refine mv_lshl (pc := 43) B d_Book_row_43 ?_
          refine mv_lload (pc := 44) B d_Book_row_44 0 rfl ?_
          refine mv_lor (pc := 46) B d_Book_row_46 ?_
          refine mv_lstore_n (pc := 47) B d_Book_row_47 rfl (by decide) rfl ?_
          refine mv_aload_n (pc := 48) B d_Book_row_48 rfl 3 rfl ?_
          refine mv_getR (pc := 49) (ci := 12) (C := R_Book) (T := F_Book) (N := 65) B 44 rfl rfl (by decide) i_Book (B.2.2.2.1 _ k_1893) rfl (hEt.1.1.1 _ 44 _ rfl) d_Book_row_49 ?_
          refine mv_iload (pc := 52) B d_Book_row_52 2 rfl ?_
          refine mv_iald (pc := 54) B rfl (i32_in (show 0 ≤ x9.toInt by omega) (show x9.toInt < 33000 by omega)) d_Book_row_54 ?_
          refine mv_istore (pc := 55) B d_Book_row_55 (by decide) rfl ?_
          refine mv_goto (pc := 57) (tgt := 5) B d_Book_row_57 rfl ?_
          refine mv_lpick [0, 1, 3, 4] rfl ?_
          have d4 : (mv_a σ13 130 x9.toNatClampNeg).toInt = -1 ∨ ((j : Int) < (mv_a σ13 130 x9.toNatClampNeg).toInt ∧ (mv_a σ13 130 x9.toNatClampNeg).toInt < q) := by rw [h13.1.nd (show ¬ 130 = 108 + 31 by omega), hcj]; exact d3
          obtain ⟨z8, hz7, hz8⟩ : ∃ z8 : Nat, z8 < z9 ∧ ((mv_a σ13 130 x9.toNatClampNeg).toInt = -1 ∨ z8 + (mv_a σ13 130 x9.toNatClampNeg).toInt = 33000) := by
            rcases d4 with d4 | d4
            · exact ⟨0, by omega, Or.inl d4⟩
            · exact ⟨(33000 - (mv_a σ13 130 x9.toNatClampNeg).toInt).toNat, by omega, by omega⟩
          exact ih _ _ _ z8 hF hEt (by omega) hz8 (by omega)
        · skip
          refine mv_lload (pc := 30) B d_Book_row_30 0 rfl ?_
          refine mv_goto (pc := 32) (tgt := 47) B d_Book_row_32 rfl ?_
          refine mv_lstore_n (pc := 47) B d_Book_row_47 rfl (by decide) rfl ?_
          refine mv_aload_n (pc := 48) B d_Book_row_48 rfl 3 rfl ?_
          refine mv_getR (pc := 49) (ci := 12) (C := R_Book) (T := F_Book) (N := 65) B 44 rfl rfl (by decide) i_Book (B.2.2.2.1 _ k_1893) rfl (hEt.1.1.1 _ 44 _ rfl) d_Book_row_49 ?_
          refine mv_iload (pc := 52) B d_Book_row_52 2 rfl ?_
          refine mv_iald (pc := 54) B rfl (i32_in (show 0 ≤ x9.toInt by omega) (show x9.toInt < 33000 by omega)) d_Book_row_54 ?_
          refine mv_istore (pc := 55) B d_Book_row_55 (by decide) rfl ?_
          refine mv_goto (pc := 57) (tgt := 5) B d_Book_row_57 rfl ?_
          refine mv_lpick [0, 1, 3, 4] rfl ?_
          have d4 : (mv_a σ13 130 x9.toNatClampNeg).toInt = -1 ∨ ((j : Int) < (mv_a σ13 130 x9.toNatClampNeg).toInt ∧ (mv_a σ13 130 x9.toNatClampNeg).toInt < q) := by rw [h13.1.nd (show ¬ 130 = 108 + 31 by omega), hcj]; exact d3
          obtain ⟨z8, hz7, hz8⟩ : ∃ z8 : Nat, z8 < z9 ∧ ((mv_a σ13 130 x9.toNatClampNeg).toInt = -1 ∨ z8 + (mv_a σ13 130 x9.toNatClampNeg).toInt = 33000) := by
            rcases d4 with d4 | d4
            · exact ⟨0, by omega, Or.inl d4⟩
            · exact ⟨(33000 - (mv_a σ13 130 x9.toNatClampNeg).toInt).toNat, by omega, by omega⟩
          exact ih _ _ _ z8 hF hEt (by omega) hz8 (by omega)
  refine mv_lconst (pc := 0) (v := 0) B d_Book_row_0 (by decide) ?_
  refine mv_lstore_n (pc := 1) B d_Book_row_1 rfl (by decide) rfl ?_
  refine mv_iload_n (pc := 2) B d_Book_row_2 rfl 2 rfl ?_
  refine mv_istore (pc := 3) B d_Book_row_3 (by decide) rfl ?_
  refine mv_lpick [0, 1, 2, 3] rfl ?_
  exact lp _ _ _ _ (33000 - v9.toInt).toNat EO.rf hP (Or.inr (by omega)) (Or.inr (by omega)) (Nat.lt_succ_self _)
theorem k_2512 : (Jvm.Cond.methodLink "MachineLoomModel$Book" (481 : Nat) ({ cls := "MachineLoomModel$Book", name := "cell", desc := "(IJ)J" } : Jvm.MethodName)) ∈ ma := ma_of (tb_11 _ (List.mem_of_getElem? (i := 112) rfl)) rfl
theorem k_2514 : (Jvm.Cond.instanceMethod ({ cls := "MachineLoomModel$Book", name := "cell", desc := "(IJ)J" } : Jvm.MethodName)) ∈ ma := ma_of (tb_11 _ (List.mem_of_getElem? (i := 114) rfl)) rfl
theorem ks_134 : Cond.selects "MachineLoomModel$Book" ⟨"MachineLoomModel$Book", "cell", "(IJ)J"⟩ ⟨"MachineLoomModel$Book", "cell", "(IJ)J"⟩ ∈ ma := ma_sel 134 rfl rfl
theorem k_1901 : (Jvm.Cond.fieldLink "MachineLoomModel$Book" (488 : Nat) "MachineLoomModel$Book" "word" "J") ∈ ma := ma_of (tb_8 _ (List.mem_of_getElem? (i := 221) rfl)) rfl
theorem k_2516 : (Jvm.Cond.methodLink "MachineLoomModel$Book" (491 : Nat) ({ cls := "MachineLoomModel$Book", name := "field", desc := "(IIJ)J" } : Jvm.MethodName)) ∈ ma := ma_of (tb_11 _ (List.mem_of_getElem? (i := 116) rfl)) rfl
theorem k_2408 : (Jvm.Cond.instanceMethod ({ cls := "MachineLoomModel$Book", name := "field", desc := "(IIJ)J" } : Jvm.MethodName)) ∈ ma := ma_of (tb_11 _ (List.mem_of_getElem? (i := 8) rfl)) rfl
theorem k_2409 : (Jvm.Cond.selects "MachineLoomModel$Book" ({ cls := "MachineLoomModel$Book", name := "field", desc := "(IIJ)J" } : Jvm.MethodName) ({ cls := "MachineLoomModel$Book", name := "field", desc := "(IIJ)J" } : Jvm.MethodName)) ∈ ma := ma_of (tb_11 _ (List.mem_of_getElem? (i := 9) rfl)) rfl
theorem k_1903 : (Jvm.Cond.fieldLink "MachineLoomModel$Book" (107 : Nat) "MachineLoomModel$Book" "letValue" "[J") ∈ ma := ma_of (tb_8 _ (List.mem_of_getElem? (i := 223) rfl)) rfl
theorem k_2517 : (Jvm.Cond.methodLink "MachineLoomModel$Book" (495 : Nat) ({ cls := "MachineLoomModel$Book", name := "unaryValue", desc := "(IJI)J" } : Jvm.MethodName)) ∈ ma := ma_of (tb_11 _ (List.mem_of_getElem? (i := 117) rfl)) rfl
theorem k_2518 : (Jvm.Cond.static ({ cls := "MachineLoomModel$Book", name := "unaryValue", desc := "(IJI)J" } : Jvm.MethodName)) ∈ ma := ma_of (tb_11 _ (List.mem_of_getElem? (i := 118) rfl)) rfl
theorem k_2521 : (Jvm.Cond.methodLink "MachineLoomModel$Book" (499 : Nat) ({ cls := "MachineLoomModel$Book", name := "row", desc := "(I)J" } : Jvm.MethodName)) ∈ ma := ma_of (tb_11 _ (List.mem_of_getElem? (i := 121) rfl)) rfl
theorem k_2523 : (Jvm.Cond.instanceMethod ({ cls := "MachineLoomModel$Book", name := "row", desc := "(I)J" } : Jvm.MethodName)) ∈ ma := ma_of (tb_11 _ (List.mem_of_getElem? (i := 123) rfl)) rfl
theorem ks_135 : Cond.selects "MachineLoomModel$Book" ⟨"MachineLoomModel$Book", "row", "(I)J"⟩ ⟨"MachineLoomModel$Book", "row", "(I)J"⟩ ∈ ma := ma_sel 135 rfl rfl
theorem d_Book_simple_0 : decode b_Book_simple 0 = .ok (.aload_n 0, 1) := by decide +kernel
theorem d_Book_simple_1 : decode b_Book_simple 1 = .ok (.getfield 82, 3) := by decide +kernel
theorem d_Book_simple_4 : decode b_Book_simple 4 = .ok (.iload_n 1, 1) := by decide +kernel
theorem d_Book_simple_5 : decode b_Book_simple 5 = .ok (.iaload, 1) := by decide +kernel
theorem d_Book_simple_6 : decode b_Book_simple 6 = .ok (.tableswitch (239) (1) (11) #[58, 65, 77, 98, 117, 129, 239, 239, 155, 194, 205], 58) := by decide +kernel
theorem d_Book_simple_64 : decode b_Book_simple 64 = .ok (.aload_n 0, 1) := by decide +kernel
theorem d_Book_simple_65 : decode b_Book_simple 65 = .ok (.getfield 100, 3) := by decide +kernel
theorem d_Book_simple_68 : decode b_Book_simple 68 = .ok (.iload_n 1, 1) := by decide +kernel
theorem d_Book_simple_69 : decode b_Book_simple 69 = .ok (.laload, 1) := by decide +kernel
theorem d_Book_simple_70 : decode b_Book_simple 70 = .ok (.lreturn, 1) := by decide +kernel
theorem d_Book_simple_71 : decode b_Book_simple 71 = .ok (.aload_n 0, 1) := by decide +kernel
theorem d_Book_simple_72 : decode b_Book_simple 72 = .ok (.aload_n 0, 1) := by decide +kernel
theorem d_Book_simple_73 : decode b_Book_simple 73 = .ok (.getfield 85, 3) := by decide +kernel
theorem d_Book_simple_76 : decode b_Book_simple 76 = .ok (.iload_n 1, 1) := by decide +kernel
theorem d_Book_simple_77 : decode b_Book_simple 77 = .ok (.iaload, 1) := by decide +kernel
theorem d_Book_simple_78 : decode b_Book_simple 78 = .ok (.iconst 0, 1) := by decide +kernel
theorem d_Book_simple_79 : decode b_Book_simple 79 = .ok (.invokevirtual 477, 3) := by decide +kernel
theorem d_Book_simple_82 : decode b_Book_simple 82 = .ok (.lreturn, 1) := by decide +kernel
theorem d_Book_simple_83 : decode b_Book_simple 83 = .ok (.aload_n 0, 1) := by decide +kernel
theorem d_Book_simple_84 : decode b_Book_simple 84 = .ok (.aload_n 0, 1) := by decide +kernel
theorem d_Book_simple_85 : decode b_Book_simple 85 = .ok (.getfield 85, 3) := by decide +kernel
theorem d_Book_simple_88 : decode b_Book_simple 88 = .ok (.iload_n 1, 1) := by decide +kernel
theorem d_Book_simple_89 : decode b_Book_simple 89 = .ok (.iaload, 1) := by decide +kernel
theorem d_Book_simple_90 : decode b_Book_simple 90 = .ok (.aload_n 0, 1) := by decide +kernel
theorem d_Book_simple_91 : decode b_Book_simple 91 = .ok (.aload_n 0, 1) := by decide +kernel
theorem d_Book_simple_92 : decode b_Book_simple 92 = .ok (.getfield 88, 3) := by decide +kernel
theorem d_Book_simple_95 : decode b_Book_simple 95 = .ok (.iload_n 1, 1) := by decide +kernel
theorem d_Book_simple_96 : decode b_Book_simple 96 = .ok (.iaload, 1) := by decide +kernel
theorem d_Book_simple_97 : decode b_Book_simple 97 = .ok (.invokevirtual 470, 3) := by decide +kernel
theorem d_Book_simple_100 : decode b_Book_simple 100 = .ok (.invokevirtual 481, 3) := by decide +kernel
theorem d_Book_simple_103 : decode b_Book_simple 103 = .ok (.lreturn, 1) := by decide +kernel
theorem d_Book_simple_104 : decode b_Book_simple 104 = .ok (.aload_n 0, 1) := by decide +kernel
theorem d_Book_simple_105 : decode b_Book_simple 105 = .ok (.aload_n 0, 1) := by decide +kernel
theorem d_Book_simple_106 : decode b_Book_simple 106 = .ok (.getfield 485, 3) := by decide +kernel
theorem d_Book_simple_109 : decode b_Book_simple 109 = .ok (.aload_n 0, 1) := by decide +kernel
theorem d_Book_simple_110 : decode b_Book_simple 110 = .ok (.getfield 85, 3) := by decide +kernel
theorem d_Book_simple_113 : decode b_Book_simple 113 = .ok (.iload_n 1, 1) := by decide +kernel
theorem d_Book_simple_114 : decode b_Book_simple 114 = .ok (.iaload, 1) := by decide +kernel
theorem d_Book_simple_115 : decode b_Book_simple 115 = .ok (.aload_n 0, 1) := by decide +kernel
theorem d_Book_simple_116 : decode b_Book_simple 116 = .ok (.getfield 488, 3) := by decide +kernel
theorem d_Book_simple_119 : decode b_Book_simple 119 = .ok (.invokevirtual 491, 3) := by decide +kernel
theorem d_Book_simple_122 : decode b_Book_simple 122 = .ok (.lreturn, 1) := by decide +kernel
theorem d_Book_simple_123 : decode b_Book_simple 123 = .ok (.aload_n 0, 1) := by decide +kernel
theorem d_Book_simple_124 : decode b_Book_simple 124 = .ok (.getfield 107, 3) := by decide +kernel
theorem d_Book_simple_127 : decode b_Book_simple 127 = .ok (.aload_n 0, 1) := by decide +kernel
theorem d_Book_simple_128 : decode b_Book_simple 128 = .ok (.getfield 85, 3) := by decide +kernel
theorem d_Book_simple_131 : decode b_Book_simple 131 = .ok (.iload_n 1, 1) := by decide +kernel
theorem d_Book_simple_132 : decode b_Book_simple 132 = .ok (.iaload, 1) := by decide +kernel
theorem d_Book_simple_133 : decode b_Book_simple 133 = .ok (.laload, 1) := by decide +kernel
theorem d_Book_simple_134 : decode b_Book_simple 134 = .ok (.lreturn, 1) := by decide +kernel
theorem d_Book_simple_135 : decode b_Book_simple 135 = .ok (.aload_n 0, 1) := by decide +kernel
theorem d_Book_simple_136 : decode b_Book_simple 136 = .ok (.getfield 88, 3) := by decide +kernel
theorem d_Book_simple_139 : decode b_Book_simple 139 = .ok (.iload_n 1, 1) := by decide +kernel
theorem d_Book_simple_140 : decode b_Book_simple 140 = .ok (.iaload, 1) := by decide +kernel
theorem d_Book_simple_141 : decode b_Book_simple 141 = .ok (.aload_n 0, 1) := by decide +kernel
theorem d_Book_simple_142 : decode b_Book_simple 142 = .ok (.aload_n 0, 1) := by decide +kernel
theorem d_Book_simple_143 : decode b_Book_simple 143 = .ok (.getfield 85, 3) := by decide +kernel
theorem d_Book_simple_146 : decode b_Book_simple 146 = .ok (.iload_n 1, 1) := by decide +kernel
theorem d_Book_simple_147 : decode b_Book_simple 147 = .ok (.iaload, 1) := by decide +kernel
theorem d_Book_simple_148 : decode b_Book_simple 148 = .ok (.invokevirtual 470, 3) := by decide +kernel
theorem d_Book_simple_151 : decode b_Book_simple 151 = .ok (.aload_n 0, 1) := by decide +kernel
theorem d_Book_simple_152 : decode b_Book_simple 152 = .ok (.getfield 97, 3) := by decide +kernel
theorem d_Book_simple_155 : decode b_Book_simple 155 = .ok (.iload_n 1, 1) := by decide +kernel
theorem d_Book_simple_156 : decode b_Book_simple 156 = .ok (.iaload, 1) := by decide +kernel
theorem d_Book_simple_157 : decode b_Book_simple 157 = .ok (.invokestatic 495, 3) := by decide +kernel
theorem d_Book_simple_160 : decode b_Book_simple 160 = .ok (.lreturn, 1) := by decide +kernel
theorem d_Book_simple_161 : decode b_Book_simple 161 = .ok (.aload_n 0, 1) := by decide +kernel
theorem d_Book_simple_162 : decode b_Book_simple 162 = .ok (.aload_n 0, 1) := by decide +kernel
theorem d_Book_simple_163 : decode b_Book_simple 163 = .ok (.getfield 85, 3) := by decide +kernel
theorem d_Book_simple_166 : decode b_Book_simple 166 = .ok (.iload_n 1, 1) := by decide +kernel
theorem d_Book_simple_167 : decode b_Book_simple 167 = .ok (.iaload, 1) := by decide +kernel
theorem d_Book_simple_168 : decode b_Book_simple 168 = .ok (.invokevirtual 470, 3) := by decide +kernel
theorem d_Book_simple_171 : decode b_Book_simple 171 = .ok (.lconst 0, 1) := by decide +kernel
theorem d_Book_simple_172 : decode b_Book_simple 172 = .ok (.lcmp, 1) := by decide +kernel
theorem d_Book_simple_173 : decode b_Book_simple 173 = .ok (.ifCond .eq (16), 3) := by decide +kernel
theorem d_Book_simple_176 : decode b_Book_simple 176 = .ok (.aload_n 0, 1) := by decide +kernel
theorem d_Book_simple_177 : decode b_Book_simple 177 = .ok (.aload_n 0, 1) := by decide +kernel
theorem d_Book_simple_178 : decode b_Book_simple 178 = .ok (.getfield 88, 3) := by decide +kernel
theorem d_Book_simple_181 : decode b_Book_simple 181 = .ok (.iload_n 1, 1) := by decide +kernel
theorem d_Book_simple_182 : decode b_Book_simple 182 = .ok (.iaload, 1) := by decide +kernel
theorem d_Book_simple_183 : decode b_Book_simple 183 = .ok (.invokevirtual 470, 3) := by decide +kernel
theorem d_Book_simple_186 : decode b_Book_simple 186 = .ok (.goto (13), 3) := by decide +kernel
theorem d_Book_simple_189 : decode b_Book_simple 189 = .ok (.aload_n 0, 1) := by decide +kernel
theorem d_Book_simple_190 : decode b_Book_simple 190 = .ok (.aload_n 0, 1) := by decide +kernel
theorem d_Book_simple_191 : decode b_Book_simple 191 = .ok (.getfield 91, 3) := by decide +kernel
theorem d_Book_simple_194 : decode b_Book_simple 194 = .ok (.iload_n 1, 1) := by decide +kernel
theorem d_Book_simple_195 : decode b_Book_simple 195 = .ok (.iaload, 1) := by decide +kernel
theorem d_Book_simple_196 : decode b_Book_simple 196 = .ok (.invokevirtual 470, 3) := by decide +kernel
theorem d_Book_simple_199 : decode b_Book_simple 199 = .ok (.lreturn, 1) := by decide +kernel
theorem d_Book_simple_200 : decode b_Book_simple 200 = .ok (.aload_n 0, 1) := by decide +kernel
theorem d_Book_simple_201 : decode b_Book_simple 201 = .ok (.aload_n 0, 1) := by decide +kernel
theorem d_Book_simple_202 : decode b_Book_simple 202 = .ok (.getfield 85, 3) := by decide +kernel
theorem d_Book_simple_205 : decode b_Book_simple 205 = .ok (.iload_n 1, 1) := by decide +kernel
theorem d_Book_simple_206 : decode b_Book_simple 206 = .ok (.iaload, 1) := by decide +kernel
theorem d_Book_simple_207 : decode b_Book_simple 207 = .ok (.invokevirtual 499, 3) := by decide +kernel
theorem d_Book_simple_210 : decode b_Book_simple 210 = .ok (.lreturn, 1) := by decide +kernel
theorem d_Book_simple_211 : decode b_Book_simple 211 = .ok (.aload_n 0, 1) := by decide +kernel
theorem d_Book_simple_212 : decode b_Book_simple 212 = .ok (.aload_n 0, 1) := by decide +kernel
theorem d_Book_simple_213 : decode b_Book_simple 213 = .ok (.getfield 85, 3) := by decide +kernel
theorem d_Book_simple_216 : decode b_Book_simple 216 = .ok (.iload_n 1, 1) := by decide +kernel
theorem d_Book_simple_217 : decode b_Book_simple 217 = .ok (.iaload, 1) := by decide +kernel
theorem d_Book_simple_218 : decode b_Book_simple 218 = .ok (.invokevirtual 470, 3) := by decide +kernel
theorem d_Book_simple_221 : decode b_Book_simple 221 = .ok (.aload_n 0, 1) := by decide +kernel
theorem d_Book_simple_222 : decode b_Book_simple 222 = .ok (.getfield 97, 3) := by decide +kernel
theorem d_Book_simple_225 : decode b_Book_simple 225 = .ok (.aload_n 0, 1) := by decide +kernel
theorem d_Book_simple_226 : decode b_Book_simple 226 = .ok (.getfield 85, 3) := by decide +kernel
theorem d_Book_simple_229 : decode b_Book_simple 229 = .ok (.iload_n 1, 1) := by decide +kernel
theorem d_Book_simple_230 : decode b_Book_simple 230 = .ok (.iaload, 1) := by decide +kernel
theorem d_Book_simple_231 : decode b_Book_simple 231 = .ok (.iaload, 1) := by decide +kernel
theorem d_Book_simple_232 : decode b_Book_simple 232 = .ok (.invokestatic 448, 3) := by decide +kernel
theorem d_Book_simple_235 : decode b_Book_simple 235 = .ok (.aload_n 0, 1) := by decide +kernel
theorem d_Book_simple_236 : decode b_Book_simple 236 = .ok (.getfield 97, 3) := by decide +kernel
theorem d_Book_simple_239 : decode b_Book_simple 239 = .ok (.iload_n 1, 1) := by decide +kernel
theorem d_Book_simple_240 : decode b_Book_simple 240 = .ok (.iaload, 1) := by decide +kernel
theorem d_Book_simple_241 : decode b_Book_simple 241 = .ok (.invokestatic 444, 3) := by decide +kernel
theorem d_Book_simple_244 : decode b_Book_simple 244 = .ok (.lreturn, 1) := by decide +kernel
theorem d_Book_simple_245 : decode b_Book_simple 245 = .ok (.aload_n 0, 1) := by decide +kernel
theorem d_Book_simple_246 : decode b_Book_simple 246 = .ok (.aload_n 0, 1) := by decide +kernel
theorem d_Book_simple_247 : decode b_Book_simple 247 = .ok (.getfield 85, 3) := by decide +kernel
theorem d_Book_simple_250 : decode b_Book_simple 250 = .ok (.iload_n 1, 1) := by decide +kernel
theorem d_Book_simple_251 : decode b_Book_simple 251 = .ok (.iaload, 1) := by decide +kernel
theorem d_Book_simple_252 : decode b_Book_simple 252 = .ok (.invokevirtual 470, 3) := by decide +kernel
theorem d_Book_simple_255 : decode b_Book_simple 255 = .ok (.lreturn, 1) := by decide +kernel
set_option maxHeartbeats 4000000 in
set_option maxRecDepth 100000 in
theorem c_Book_simple_x (l : Launch) {dA : FieldType → ClassId} {D : va_G} {al : Nat → Nat} {ext : mv_Sh} {sk sv : Nat → Nat} (hi : mv_inj (mg dA D al ext)) (σ : mv_H) (v9 : Int32) (th n k w sp : Nat) (g : Gh) (q r : Nat) (hv : v9.toInt = q) (hP : EP 74 th n k w sp r g q σ) (hn7 : ¬ nS 74 σ q = 7) (hn8 : ¬ nS 74 σ q = 8) (ih0 : ∀ j, j + 1 = r → EvE l dA D al ext sk sv 74 j) (hR0 : EvR l dA D al ext sk sv 74 r) : mv_C l y_Book_simple (Cond.code y_Book_simple b_Book_simple 2 (Option.some Jvm.ClassFile.FieldType.long) :: ma) ({ frames := 3 * r + 2, cells := 0, slots := 0, locals := 72 * r + 99 }) (mg dA D al ext) (mK sk sv) [.ref (al 74), .int v9] σ (mv_Rl (fun _ σ1 => EO 74 sp σ σ1)) := by
  refine mv_C.ofV (cc := b_Book_simple) (nL := 2) (ret := (Option.some Jvm.ClassFile.FieldType.long)) (by decide +kernel) rfl hi (Nat.le_of_ble_eq_true rfl) ?_
  intro p e s m below meth c B hNs hr hnm hno
  have hX := hP.x
  have hE2 := hP.2.1.2
  have hE3 := hP.2.2.1
  have hcv : v9.toNatClampNeg = q := by have := i32_cl (x := v9) (by omega); omega
  have hC := hP.1.1.2.2.2.2.2.2.1
  have hcu := hP.1.1.2.2.2.2.2.2.2
  refine mv_aload_n (pc := 0) B d_Book_simple_0 rfl 0 rfl ?_
  refine mv_getR (pc := 1) (ci := 12) (C := R_Book) (T := F_Book) (N := 65) B 40 rfl rfl (by decide) i_Book (B.2.2.2.1 _ k_1889) rfl (hP.1.1.1 _ 40 _ rfl) d_Book_simple_1 ?_
  refine mv_iload_n (pc := 4) B d_Book_simple_4 rfl 1 rfl ?_
  refine mv_iald (pc := 5) B rfl (i32_in (show 0 ≤ v9.toInt by omega) (show v9.toInt < 33000 by omega)) d_Book_simple_5 ?_
  refine mv_tsw (pc := 6) B d_Book_simple_6 (by decide) (by decide) ?_
  refine ⟨fun h6 => ?_, fun h6n1 => ?_⟩
  · skip
    refine mv_aload_n (pc := 64) B d_Book_simple_64 rfl 0 rfl ?_
    refine mv_getR (pc := 65) (ci := 12) (C := R_Book) (T := F_Book) (N := 65) B 46 rfl rfl (by decide) i_Book (B.2.2.2.1 _ k_1895) rfl (hP.1.1.1 _ 46 _ rfl) d_Book_simple_65 ?_
    refine mv_iload_n (pc := 68) B d_Book_simple_68 rfl 1 rfl ?_
    refine mv_lald (pc := 69) B rfl (i32_in (show 0 ≤ v9.toInt by omega) (show v9.toInt < 33000 by omega)) d_Book_simple_69 ?_
    exact mv_lret (pc := 70) B hr d_Book_simple_70 (Nat.le_refl _) (Nat.le_refl _) ⟨_, rfl, EO.rf⟩
  refine ⟨fun h6 => ?_, fun h6n2 => ?_⟩
  · skip
    have hs : nS 74 σ q = 2 := by rw [hcv] at h6; exact h6.trans (by decide)
    have ht9 : 0 ≤ (mv_a σ 93 v9.toNatClampNeg).toInt ∧ (mv_a σ 93 v9.toNatClampNeg).toInt < th := by rw [hcv]; exact hX.2.1 hs
    have hK : WK 74 th σ (mv_a σ 93 v9.toNatClampNeg) 0 := ⟨ht9.1, ht9.2, by decide, Or.inr rfl⟩
    refine mv_aload_n (pc := 71) B d_Book_simple_71 rfl 0 rfl ?_
    refine mv_aload_n (pc := 72) B d_Book_simple_72 rfl 0 rfl ?_
    refine mv_getR (pc := 73) (ci := 12) (C := R_Book) (T := F_Book) (N := 65) B 41 rfl rfl (by decide) i_Book (B.2.2.2.1 _ k_1890) rfl (hP.1.1.1 _ 41 _ rfl) d_Book_simple_73 ?_
    refine mv_iload_n (pc := 76) B d_Book_simple_76 rfl 1 rfl ?_
    refine mv_iald (pc := 77) B rfl (i32_in (show 0 ≤ v9.toInt by omega) (show v9.toInt < 33000 by omega)) d_Book_simple_77 ?_
    refine mv_iconst (pc := 78) (v := 0) B d_Book_simple_78 (by decide) ?_
    refine mv_callVl (pc := 79) (n := 2) (ci := 12) (C := R_Book) B (mK_ok sk sv) hNs rfl rfl (c_Book_read_0_x l hi _ _ _ th n k w g hP.1.1 hP.1.2.1 hP.1.2.2 hK) rfl (ma_goodc kc_Book_read_0) (B.2.2.2.1 _ k_2508) (B.2.2.2.1 _ k_2510) (B.2.2.2.1 _ ks_133) (B.2.2.2.1 _ k_13) ⟨by decide +kernel, by decide +kernel, by decide +kernel⟩ rfl d_Book_simple_79 rfl (Nat.le_of_ble_eq_true rfl) ⟨by first | decide | (dsimp only; omega), by first | decide | (dsimp only; omega)⟩ ⟨Nat.le_refl _, Nat.le_refl _⟩ ⟨Nat.le_refl _, Nat.le_refl _⟩ (mv_noH hno _) (fun v79 σ79 h79 => ?_)
    have e79 := h79.symm
    subst e79
    exact mv_lret (pc := 82) B hr d_Book_simple_82 (Nat.le_refl _) (Nat.le_refl _) ⟨_, rfl, EO.rf⟩
  refine ⟨fun h6 => ?_, fun h6n3 => ?_⟩
  · skip
    have hs : nS 74 σ q = 3 := by rw [hcv] at h6; exact h6.trans (by decide)
    have ht9 : 0 ≤ (mv_a σ 93 v9.toNatClampNeg).toInt ∧ (mv_a σ 93 v9.toNatClampNeg).toInt < th := by rw [hcv]; exact (hX.2.2.1 hs).1
    obtain ⟨m97, e97, l97, r97, p97⟩ := hP.child (hX.2.2.1 hs).2
    have e97 : (mv_a σ 94 v9.toNatClampNeg).toInt = m97 := by rw [hcv]; exact e97
    refine mv_aload_n (pc := 83) B d_Book_simple_83 rfl 0 rfl ?_
    refine mv_aload_n (pc := 84) B d_Book_simple_84 rfl 0 rfl ?_
    refine mv_getR (pc := 85) (ci := 12) (C := R_Book) (T := F_Book) (N := 65) B 41 rfl rfl (by decide) i_Book (B.2.2.2.1 _ k_1890) rfl (hP.1.1.1 _ 41 _ rfl) d_Book_simple_85 ?_
    refine mv_iload_n (pc := 88) B d_Book_simple_88 rfl 1 rfl ?_
    refine mv_iald (pc := 89) B rfl (i32_in (show 0 ≤ v9.toInt by omega) (show v9.toInt < 33000 by omega)) d_Book_simple_89 ?_
    refine mv_aload_n (pc := 90) B d_Book_simple_90 rfl 0 rfl ?_
    refine mv_aload_n (pc := 91) B d_Book_simple_91 rfl 0 rfl ?_
    refine mv_getR (pc := 92) (ci := 12) (C := R_Book) (T := F_Book) (N := 65) B 42 rfl rfl (by decide) i_Book (B.2.2.2.1 _ k_1891) rfl (hP.1.1.1 _ 42 _ rfl) d_Book_simple_92 ?_
    refine mv_iload_n (pc := 95) B d_Book_simple_95 rfl 1 rfl ?_
    refine mv_iald (pc := 96) B rfl (i32_in (show 0 ≤ v9.toInt by omega) (show v9.toInt < 33000 by omega)) d_Book_simple_96 ?_
    refine mv_callVl (pc := 97) (n := 1) (ci := 12) (C := R_Book) B (mK_ok sk sv) hNs rfl rfl (ih0 (r - 1) r97 _ _ th n k w sp g m97 e97 p97) rfl (ma_goodc kc_Book_eval) (B.2.2.2.1 _ k_2500) (B.2.2.2.1 _ k_2502) (B.2.2.2.1 _ ks_131) (B.2.2.2.1 _ k_13) ⟨by decide +kernel, by decide +kernel, by decide +kernel⟩ rfl d_Book_simple_97 rfl (Nat.le_of_ble_eq_true rfl) ⟨by first | decide | (dsimp only; omega), by first | decide | (dsimp only; omega)⟩ ⟨Nat.le_refl _, Nat.le_refl _⟩ ⟨Nat.le_refl _, Nat.le_refl _⟩ (mv_noH hno _) (fun v97 σ97 h97 => ?_)
    refine mv_callVl (pc := 100) (n := 2) (ci := 12) (C := R_Book) B (mK_ok sk sv) hNs rfl rfl (c_Book_cell_x l hi _ _ _ th n k w g (hP.mv h97).1.1 (hP.mv h97).1.2.1 (hP.mv h97).1.2.2 ht9.1 ht9.2) rfl (ma_goodc kc_Book_cell) (B.2.2.2.1 _ k_2512) (B.2.2.2.1 _ k_2514) (B.2.2.2.1 _ ks_134) (B.2.2.2.1 _ k_13) ⟨by decide +kernel, by decide +kernel, by decide +kernel⟩ rfl d_Book_simple_100 rfl (Nat.le_of_ble_eq_true rfl) ⟨by first | decide | (dsimp only; omega), by first | decide | (dsimp only; omega)⟩ ⟨Nat.le_refl _, Nat.le_refl _⟩ ⟨Nat.le_refl _, Nat.le_refl _⟩ (mv_noH hno _) (fun v100 σ100 h100 => ?_)
    exact mv_lret (pc := 103) B hr d_Book_simple_103 (Nat.le_refl _) (Nat.le_refl _) ⟨_, rfl, h97.tr ⟨h100.1.lo (by omega), h100.2⟩⟩
  refine ⟨fun h6 => ?_, fun h6n4 => ?_⟩
  · skip
    have hs : nS 74 σ q = 4 := by rw [hcv] at h6; exact h6.trans (by decide)
    refine mv_aload_n (pc := 104) B d_Book_simple_104 rfl 0 rfl ?_
    refine mv_aload_n (pc := 105) B d_Book_simple_105 rfl 0 rfl ?_
    refine mv_getI (pc := 106) (ci := 12) (C := R_Book) (T := F_Book) (N := 65) B 63 rfl rfl (by decide) i_Book (B.2.2.2.1 _ k_1912) rfl d_Book_simple_106 ?_
    refine mv_aload_n (pc := 109) B d_Book_simple_109 rfl 0 rfl ?_
    refine mv_getR (pc := 110) (ci := 12) (C := R_Book) (T := F_Book) (N := 65) B 41 rfl rfl (by decide) i_Book (B.2.2.2.1 _ k_1890) rfl (hP.1.1.1 _ 41 _ rfl) d_Book_simple_110 ?_
    refine mv_iload_n (pc := 113) B d_Book_simple_113 rfl 1 rfl ?_
    refine mv_iald (pc := 114) B rfl (i32_in (show 0 ≤ v9.toInt by omega) (show v9.toInt < 33000 by omega)) d_Book_simple_114 ?_
    refine mv_aload_n (pc := 115) B d_Book_simple_115 rfl 0 rfl ?_
    refine mv_getL (pc := 116) (ci := 12) (C := R_Book) (T := F_Book) (N := 65) B 52 rfl rfl (by decide) i_Book (B.2.2.2.1 _ k_1901) rfl d_Book_simple_116 ?_
    refine mv_callVl (pc := 119) (n := 3) (ci := 12) (C := R_Book) B (mK_ok sk sv) hNs rfl rfl (c_Book_field_x l hi _ _ _ _ k hP.1.1.1 hC hcu.1 hcu.2) rfl (ma_goodc kc_Book_field) (B.2.2.2.1 _ k_2516) (B.2.2.2.1 _ k_2408) (B.2.2.2.1 _ k_2409) (B.2.2.2.1 _ k_13) ⟨by decide +kernel, by decide +kernel, by decide +kernel⟩ rfl d_Book_simple_119 rfl (Nat.le_of_ble_eq_true rfl) ⟨by first | decide | (dsimp only; omega), by first | decide | (dsimp only; omega)⟩ ⟨Nat.le_refl _, Nat.le_refl _⟩ ⟨Nat.le_refl _, Nat.le_refl _⟩ (mv_noH hno _) (fun v119 σ119 h119 => ?_)
    have e119 := h119.symm
    subst e119
    exact mv_lret (pc := 122) B hr d_Book_simple_122 (Nat.le_refl _) (Nat.le_refl _) ⟨_, rfl, EO.rf⟩
  refine ⟨fun h6 => ?_, fun h6n5 => ?_⟩
  · skip
    have hs : nS 74 σ q = 5 := by rw [hcv] at h6; exact h6.trans (by decide)
    have ht9 : 0 ≤ (mv_a σ 93 v9.toNatClampNeg).toInt ∧ (mv_a σ 93 v9.toNatClampNeg).toInt < 4100 := by rw [hcv]; exact hX.2.2.2.1 hs
    refine mv_aload_n (pc := 123) B d_Book_simple_123 rfl 0 rfl ?_
    refine mv_getR (pc := 124) (ci := 12) (C := R_Book) (T := F_Book) (N := 65) B 54 rfl rfl (by decide) i_Book (B.2.2.2.1 _ k_1903) rfl (hP.1.1.1 _ 54 _ rfl) d_Book_simple_124 ?_
    refine mv_aload_n (pc := 127) B d_Book_simple_127 rfl 0 rfl ?_
    refine mv_getR (pc := 128) (ci := 12) (C := R_Book) (T := F_Book) (N := 65) B 41 rfl rfl (by decide) i_Book (B.2.2.2.1 _ k_1890) rfl (hP.1.1.1 _ 41 _ rfl) d_Book_simple_128 ?_
    refine mv_iload_n (pc := 131) B d_Book_simple_131 rfl 1 rfl ?_
    refine mv_iald (pc := 132) B rfl (i32_in (show 0 ≤ v9.toInt by omega) (show v9.toInt < 33000 by omega)) d_Book_simple_132 ?_
    refine mv_lald (pc := 133) B rfl (i32_in ht9.1 ht9.2) d_Book_simple_133 ?_
    exact mv_lret (pc := 134) B hr d_Book_simple_134 (Nat.le_refl _) (Nat.le_refl _) ⟨_, rfl, EO.rf⟩
  refine ⟨fun h6 => ?_, fun h6n6 => ?_⟩
  · skip
    have hs : nS 74 σ q = 6 := by rw [hcv] at h6; exact h6.trans (by decide)
    obtain ⟨m148, e148, l148, r148, p148⟩ := hP.child (hX.2.2.2.2.1 (Or.inl hs))
    have e148 : (mv_a σ 93 v9.toNatClampNeg).toInt = m148 := by rw [hcv]; exact e148
    refine mv_aload_n (pc := 135) B d_Book_simple_135 rfl 0 rfl ?_
    refine mv_getR (pc := 136) (ci := 12) (C := R_Book) (T := F_Book) (N := 65) B 42 rfl rfl (by decide) i_Book (B.2.2.2.1 _ k_1891) rfl (hP.1.1.1 _ 42 _ rfl) d_Book_simple_136 ?_
    refine mv_iload_n (pc := 139) B d_Book_simple_139 rfl 1 rfl ?_
    refine mv_iald (pc := 140) B rfl (i32_in (show 0 ≤ v9.toInt by omega) (show v9.toInt < 33000 by omega)) d_Book_simple_140 ?_
    refine mv_aload_n (pc := 141) B d_Book_simple_141 rfl 0 rfl ?_
    refine mv_aload_n (pc := 142) B d_Book_simple_142 rfl 0 rfl ?_
    refine mv_getR (pc := 143) (ci := 12) (C := R_Book) (T := F_Book) (N := 65) B 41 rfl rfl (by decide) i_Book (B.2.2.2.1 _ k_1890) rfl (hP.1.1.1 _ 41 _ rfl) d_Book_simple_143 ?_
    refine mv_iload_n (pc := 146) B d_Book_simple_146 rfl 1 rfl ?_
    refine mv_iald (pc := 147) B rfl (i32_in (show 0 ≤ v9.toInt by omega) (show v9.toInt < 33000 by omega)) d_Book_simple_147 ?_
    refine mv_callVl (pc := 148) (n := 1) (ci := 12) (C := R_Book) B (mK_ok sk sv) hNs rfl rfl (ih0 (r - 1) r148 _ _ th n k w sp g m148 e148 p148) rfl (ma_goodc kc_Book_eval) (B.2.2.2.1 _ k_2500) (B.2.2.2.1 _ k_2502) (B.2.2.2.1 _ ks_131) (B.2.2.2.1 _ k_13) ⟨by decide +kernel, by decide +kernel, by decide +kernel⟩ rfl d_Book_simple_148 rfl (Nat.le_of_ble_eq_true rfl) ⟨by first | decide | (dsimp only; omega), by first | decide | (dsimp only; omega)⟩ ⟨Nat.le_refl _, Nat.le_refl _⟩ ⟨Nat.le_refl _, Nat.le_refl _⟩ (mv_noH hno _) (fun v148 σ148 h148 => ?_)
    have hP := hP.mv h148
    refine mv_aload_n (pc := 151) B d_Book_simple_151 rfl 0 rfl ?_
    refine mv_getR (pc := 152) (ci := 12) (C := R_Book) (T := F_Book) (N := 65) B 45 rfl rfl (by decide) i_Book (B.2.2.2.1 _ k_1894) rfl (hP.1.1.1 _ 45 _ rfl) d_Book_simple_152 ?_
    refine mv_iload_n (pc := 155) B d_Book_simple_155 rfl 1 rfl ?_
    refine mv_iald (pc := 156) B rfl (i32_in (show 0 ≤ v9.toInt by omega) (show v9.toInt < 33000 by omega)) d_Book_simple_156 ?_
    refine mv_callSl (pc := 157) (n := 3) B (mK_ok sk sv) hNs (c_Book_unaryValue l hi _ _ _ _) rfl (ma_goodc kc_Book_unaryValue) (B.2.2.2.1 _ k_2517) (B.2.2.2.1 _ k_2518) (B.2.2.2.1 _ k_13) ⟨by decide +kernel, by decide +kernel, by decide +kernel⟩ rfl d_Book_simple_157 rfl (Nat.le_of_ble_eq_true rfl) ⟨by first | decide | (dsimp only; omega), by first | decide | (dsimp only; omega)⟩ ⟨Nat.le_refl _, Nat.le_refl _⟩ ⟨Nat.le_refl _, Nat.le_refl _⟩ (mv_noH hno _) (fun v157 σ157 h157 => ?_)
    have e157 := h157.symm
    subst e157
    exact mv_lret (pc := 160) B hr d_Book_simple_160 (Nat.le_refl _) (Nat.le_refl _) ⟨_, rfl, h148⟩
  refine ⟨fun h6 => ?_, fun h6n7 => ?_⟩
  · skip
    exact absurd (show nS 74 σ q = 7 by rw [hcv] at h6; exact h6.trans (by decide)) hn7
  refine ⟨fun h6 => ?_, fun h6n8 => ?_⟩
  · skip
    exact absurd (show nS 74 σ q = 8 by rw [hcv] at h6; exact h6.trans (by decide)) hn8
  refine ⟨fun h6 => ?_, fun h6n9 => ?_⟩
  · skip
    have hs : nS 74 σ q = 9 := by rw [hcv] at h6; exact h6.trans (by decide)
    obtain ⟨m168, e168, l168, r168, p168⟩ := hP.child (hX.2.2.2.2.2.2.2.1 hs).1
    have e168 : (mv_a σ 93 v9.toNatClampNeg).toInt = m168 := by rw [hcv]; exact e168
    refine mv_aload_n (pc := 161) B d_Book_simple_161 rfl 0 rfl ?_
    refine mv_aload_n (pc := 162) B d_Book_simple_162 rfl 0 rfl ?_
    refine mv_getR (pc := 163) (ci := 12) (C := R_Book) (T := F_Book) (N := 65) B 41 rfl rfl (by decide) i_Book (B.2.2.2.1 _ k_1890) rfl (hP.1.1.1 _ 41 _ rfl) d_Book_simple_163 ?_
    refine mv_iload_n (pc := 166) B d_Book_simple_166 rfl 1 rfl ?_
    refine mv_iald (pc := 167) B rfl (i32_in (show 0 ≤ v9.toInt by omega) (show v9.toInt < 33000 by omega)) d_Book_simple_167 ?_
    refine mv_callVl (pc := 168) (n := 1) (ci := 12) (C := R_Book) B (mK_ok sk sv) hNs rfl rfl (ih0 (r - 1) r168 _ _ th n k w sp g m168 e168 p168) rfl (ma_goodc kc_Book_eval) (B.2.2.2.1 _ k_2500) (B.2.2.2.1 _ k_2502) (B.2.2.2.1 _ ks_131) (B.2.2.2.1 _ k_13) ⟨by decide +kernel, by decide +kernel, by decide +kernel⟩ rfl d_Book_simple_168 rfl (Nat.le_of_ble_eq_true rfl) ⟨by first | decide | (dsimp only; omega), by first | decide | (dsimp only; omega)⟩ ⟨Nat.le_refl _, Nat.le_refl _⟩ ⟨Nat.le_refl _, Nat.le_refl _⟩ (mv_noH hno _) (fun v168 σ168 h168 => ?_)
    have hP := hP.mv h168
    have hX := hP.x
    have hs : nS 74 σ168 q = 9 := by show (mv_a σ168 (74 + 18) q).toInt = 9; rw [h168.1.nd (by omega)]; exact hs
    obtain ⟨m183, e183, l183, r183, p183⟩ := hP.child (hX.2.2.2.2.2.2.2.1 hs).2.1
    have e183 : (mv_a σ168 94 v9.toNatClampNeg).toInt = m183 := by rw [hcv]; exact e183
    obtain ⟨m196, e196, l196, r196, p196⟩ := hP.child (hX.2.2.2.2.2.2.2.1 hs).2.2
    have e196 : (mv_a σ168 95 v9.toNatClampNeg).toInt = m196 := by rw [hcv]; exact e196
    refine mv_lconst (pc := 171) (v := 0) B d_Book_simple_171 (by decide) ?_
    refine mv_lcmp (pc := 172) B d_Book_simple_172 ?_
    refine mv_if_eq (pc := 173) (tgt := 189) B d_Book_simple_173 rfl (fun h173 => ?_) (fun h173 => ?_)
    · skip
      refine mv_aload_n (pc := 189) B d_Book_simple_189 rfl 0 rfl ?_
      refine mv_aload_n (pc := 190) B d_Book_simple_190 rfl 0 rfl ?_
      refine mv_getR (pc := 191) (ci := 12) (C := R_Book) (T := F_Book) (N := 65) B 43 rfl rfl (by decide) i_Book (B.2.2.2.1 _ k_1892) rfl (hP.1.1.1 _ 43 _ rfl) d_Book_simple_191 ?_
      refine mv_iload_n (pc := 194) B d_Book_simple_194 rfl 1 rfl ?_
      refine mv_iald (pc := 195) B rfl (i32_in (show 0 ≤ v9.toInt by omega) (show v9.toInt < 33000 by omega)) d_Book_simple_195 ?_
      refine mv_callVl (pc := 196) (n := 1) (ci := 12) (C := R_Book) B (mK_ok sk sv) hNs rfl rfl (ih0 (r - 1) r196 _ _ th n k w sp g m196 e196 p196) rfl (ma_goodc kc_Book_eval) (B.2.2.2.1 _ k_2500) (B.2.2.2.1 _ k_2502) (B.2.2.2.1 _ ks_131) (B.2.2.2.1 _ k_13) ⟨by decide +kernel, by decide +kernel, by decide +kernel⟩ rfl d_Book_simple_196 rfl (Nat.le_of_ble_eq_true rfl) ⟨by first | decide | (dsimp only; omega), by first | decide | (dsimp only; omega)⟩ ⟨Nat.le_refl _, Nat.le_refl _⟩ ⟨Nat.le_refl _, Nat.le_refl _⟩ (mv_noH hno _) (fun v196 σ196 h196 => ?_)
      exact mv_lret (pc := 199) B hr d_Book_simple_199 (Nat.le_refl _) (Nat.le_refl _) ⟨_, rfl, by first | exact h168.tr h183 | exact h168.tr h196⟩
    · skip
      refine mv_aload_n (pc := 176) B d_Book_simple_176 rfl 0 rfl ?_
      refine mv_aload_n (pc := 177) B d_Book_simple_177 rfl 0 rfl ?_
      refine mv_getR (pc := 178) (ci := 12) (C := R_Book) (T := F_Book) (N := 65) B 42 rfl rfl (by decide) i_Book (B.2.2.2.1 _ k_1891) rfl (hP.1.1.1 _ 42 _ rfl) d_Book_simple_178 ?_
      refine mv_iload_n (pc := 181) B d_Book_simple_181 rfl 1 rfl ?_
      refine mv_iald (pc := 182) B rfl (i32_in (show 0 ≤ v9.toInt by omega) (show v9.toInt < 33000 by omega)) d_Book_simple_182 ?_
      refine mv_callVl (pc := 183) (n := 1) (ci := 12) (C := R_Book) B (mK_ok sk sv) hNs rfl rfl (ih0 (r - 1) r183 _ _ th n k w sp g m183 e183 p183) rfl (ma_goodc kc_Book_eval) (B.2.2.2.1 _ k_2500) (B.2.2.2.1 _ k_2502) (B.2.2.2.1 _ ks_131) (B.2.2.2.1 _ k_13) ⟨by decide +kernel, by decide +kernel, by decide +kernel⟩ rfl d_Book_simple_183 rfl (Nat.le_of_ble_eq_true rfl) ⟨by first | decide | (dsimp only; omega), by first | decide | (dsimp only; omega)⟩ ⟨Nat.le_refl _, Nat.le_refl _⟩ ⟨Nat.le_refl _, Nat.le_refl _⟩ (mv_noH hno _) (fun v183 σ183 h183 => ?_)
      refine mv_goto (pc := 186) (tgt := 199) B d_Book_simple_186 rfl ?_
      exact mv_lret (pc := 199) B hr d_Book_simple_199 (Nat.le_refl _) (Nat.le_refl _) ⟨_, rfl, by first | exact h168.tr h183 | exact h168.tr h196⟩
  refine ⟨fun h6 => ?_, fun h6n10 => ?_⟩
  · skip
    have hs : nS 74 σ q = 10 := by rw [hcv] at h6; exact h6.trans (by decide)
    have hXL : XL 74 σ g.1 0 q (g.1 q) (mv_a σ 93 v9.toNatClampNeg) := by rw [hcv]; exact hX.2.2.2.2.2.2.2.2 hs
    refine mv_aload_n (pc := 200) B d_Book_simple_200 rfl 0 rfl ?_
    refine mv_aload_n (pc := 201) B d_Book_simple_201 rfl 0 rfl ?_
    refine mv_getR (pc := 202) (ci := 12) (C := R_Book) (T := F_Book) (N := 65) B 41 rfl rfl (by decide) i_Book (B.2.2.2.1 _ k_1890) rfl (hP.1.1.1 _ 41 _ rfl) d_Book_simple_202 ?_
    refine mv_iload_n (pc := 205) B d_Book_simple_205 rfl 1 rfl ?_
    refine mv_iald (pc := 206) B rfl (i32_in (show 0 ≤ v9.toInt by omega) (show v9.toInt < 33000 by omega)) d_Book_simple_206 ?_
    refine mv_callVl (pc := 207) (n := 1) (ci := 12) (C := R_Book) B (mK_ok sk sv) hNs rfl rfl (hR0 _ _ th n k w sp g q hXL hP) rfl (ma_goodc kc_Book_row) (B.2.2.2.1 _ k_2521) (B.2.2.2.1 _ k_2523) (B.2.2.2.1 _ ks_135) (B.2.2.2.1 _ k_13) ⟨by decide +kernel, by decide +kernel, by decide +kernel⟩ rfl d_Book_simple_207 rfl (Nat.le_of_ble_eq_true rfl) ⟨by first | decide | (dsimp only; omega), by first | decide | (dsimp only; omega)⟩ ⟨Nat.le_refl _, Nat.le_refl _⟩ ⟨Nat.le_refl _, Nat.le_refl _⟩ (mv_noH hno _) (fun v207 σ207 h207 => ?_)
    exact mv_lret (pc := 210) B hr d_Book_simple_210 (Nat.le_refl _) (Nat.le_refl _) ⟨_, rfl, h207⟩
  refine ⟨fun h6 => ?_, fun h6n11 => ?_⟩
  · skip
    have hs : nS 74 σ q = 11 := by rw [hcv] at h6; exact h6.trans (by decide)
    obtain ⟨m218, e218, l218, r218, p218⟩ := hP.child (hX.2.2.2.2.1 (Or.inr (Or.inl hs)))
    have e218 : (mv_a σ 93 v9.toNatClampNeg).toInt = m218 := by rw [hcv]; exact e218
    refine mv_aload_n (pc := 211) B d_Book_simple_211 rfl 0 rfl ?_
    refine mv_aload_n (pc := 212) B d_Book_simple_212 rfl 0 rfl ?_
    refine mv_getR (pc := 213) (ci := 12) (C := R_Book) (T := F_Book) (N := 65) B 41 rfl rfl (by decide) i_Book (B.2.2.2.1 _ k_1890) rfl (hP.1.1.1 _ 41 _ rfl) d_Book_simple_213 ?_
    refine mv_iload_n (pc := 216) B d_Book_simple_216 rfl 1 rfl ?_
    refine mv_iald (pc := 217) B rfl (i32_in (show 0 ≤ v9.toInt by omega) (show v9.toInt < 33000 by omega)) d_Book_simple_217 ?_
    refine mv_callVl (pc := 218) (n := 1) (ci := 12) (C := R_Book) B (mK_ok sk sv) hNs rfl rfl (ih0 (r - 1) r218 _ _ th n k w sp g m218 e218 p218) rfl (ma_goodc kc_Book_eval) (B.2.2.2.1 _ k_2500) (B.2.2.2.1 _ k_2502) (B.2.2.2.1 _ ks_131) (B.2.2.2.1 _ k_13) ⟨by decide +kernel, by decide +kernel, by decide +kernel⟩ rfl d_Book_simple_218 rfl (Nat.le_of_ble_eq_true rfl) ⟨by first | decide | (dsimp only; omega), by first | decide | (dsimp only; omega)⟩ ⟨Nat.le_refl _, Nat.le_refl _⟩ ⟨Nat.le_refl _, Nat.le_refl _⟩ (mv_noH hno _) (fun v218 σ218 h218 => ?_)
    have hP := hP.mv h218
    have eA : mv_a σ218 93 v9.toNatClampNeg = mv_a σ 93 v9.toNatClampNeg := h218.1.nd (by omega)
    refine mv_aload_n (pc := 221) B d_Book_simple_221 rfl 0 rfl ?_
    refine mv_getR (pc := 222) (ci := 12) (C := R_Book) (T := F_Book) (N := 65) B 45 rfl rfl (by decide) i_Book (B.2.2.2.1 _ k_1894) rfl (hP.1.1.1 _ 45 _ rfl) d_Book_simple_222 ?_
    refine mv_aload_n (pc := 225) B d_Book_simple_225 rfl 0 rfl ?_
    refine mv_getR (pc := 226) (ci := 12) (C := R_Book) (T := F_Book) (N := 65) B 41 rfl rfl (by decide) i_Book (B.2.2.2.1 _ k_1890) rfl (hP.1.1.1 _ 41 _ rfl) d_Book_simple_226 ?_
    refine mv_iload_n (pc := 229) B d_Book_simple_229 rfl 1 rfl ?_
    refine mv_iald (pc := 230) B rfl (i32_in (show 0 ≤ v9.toInt by omega) (show v9.toInt < 33000 by omega)) d_Book_simple_230 ?_
    refine mv_iald (pc := 231) B rfl (i32_in (by rw [eA]; omega) (by rw [eA]; omega)) d_Book_simple_231 ?_
    refine mv_callSl (pc := 232) (n := 2) B (mK_ok sk sv) hNs (c_Book_signed l hi _ _ _) rfl (ma_goodc kc_Book_signed) (B.2.2.2.1 _ k_2525) (B.2.2.2.1 _ k_2526) (B.2.2.2.1 _ k_13) ⟨by decide +kernel, by decide +kernel, by decide +kernel⟩ rfl d_Book_simple_232 rfl (Nat.le_of_ble_eq_true rfl) ⟨by first | decide | (dsimp only; omega), by first | decide | (dsimp only; omega)⟩ ⟨Nat.le_refl _, Nat.le_refl _⟩ ⟨Nat.le_refl _, Nat.le_refl _⟩ (mv_noH hno _) (fun v232 σ232 h232 => ?_)
    have e232 := h232.symm
    subst e232
    refine mv_aload_n (pc := 235) B d_Book_simple_235 rfl 0 rfl ?_
    refine mv_getR (pc := 236) (ci := 12) (C := R_Book) (T := F_Book) (N := 65) B 45 rfl rfl (by decide) i_Book (B.2.2.2.1 _ k_1894) rfl (hP.1.1.1 _ 45 _ rfl) d_Book_simple_236 ?_
    refine mv_iload_n (pc := 239) B d_Book_simple_239 rfl 1 rfl ?_
    refine mv_iald (pc := 240) B rfl (i32_in (show 0 ≤ v9.toInt by omega) (show v9.toInt < 33000 by omega)) d_Book_simple_240 ?_
    refine mv_callSl (pc := 241) (n := 2) B (mK_ok sk sv) hNs (c_Book_cut l hi _ _ _) rfl (ma_goodc kc_Book_cut) (B.2.2.2.1 _ k_2427) (B.2.2.2.1 _ k_2428) (B.2.2.2.1 _ k_13) ⟨by decide +kernel, by decide +kernel, by decide +kernel⟩ rfl d_Book_simple_241 rfl (Nat.le_of_ble_eq_true rfl) ⟨by first | decide | (dsimp only; omega), by first | decide | (dsimp only; omega)⟩ ⟨Nat.le_refl _, Nat.le_refl _⟩ ⟨Nat.le_refl _, Nat.le_refl _⟩ (mv_noH hno _) (fun v241 σ241 h241 => ?_)
    have e241 := h241.symm
    subst e241
    exact mv_lret (pc := 244) B hr d_Book_simple_244 (Nat.le_refl _) (Nat.le_refl _) ⟨_, rfl, h218⟩
  show mv_V _ _ _ _ _ _ _ _ _ _ _ _ _ _ _ _ 245 _ _
  have hs : nS 74 σ q = 12 := by
    have z1 : ¬ nS 74 σ q = 1 := fun z => h6n1 (by rw [hcv]; exact z.trans (by decide))
    have z2 : ¬ nS 74 σ q = 2 := fun z => h6n2 (by rw [hcv]; exact z.trans (by decide))
    have z3 : ¬ nS 74 σ q = 3 := fun z => h6n3 (by rw [hcv]; exact z.trans (by decide))
    have z4 : ¬ nS 74 σ q = 4 := fun z => h6n4 (by rw [hcv]; exact z.trans (by decide))
    have z5 : ¬ nS 74 σ q = 5 := fun z => h6n5 (by rw [hcv]; exact z.trans (by decide))
    have z6 : ¬ nS 74 σ q = 6 := fun z => h6n6 (by rw [hcv]; exact z.trans (by decide))
    have z9 : ¬ nS 74 σ q = 9 := fun z => h6n9 (by rw [hcv]; exact z.trans (by decide))
    have z10 : ¬ nS 74 σ q = 10 := fun z => h6n10 (by rw [hcv]; exact z.trans (by decide))
    have z11 : ¬ nS 74 σ q = 11 := fun z => h6n11 (by rw [hcv]; exact z.trans (by decide))
    have z7 : ¬ nS 74 σ q = 7 := hn7
    have z8 : ¬ nS 74 σ q = 8 := hn8
    have z0 := hX.1
    omega
  obtain ⟨m252, e252, l252, r252, p252⟩ := hP.child (hX.2.2.2.2.1 (Or.inr (Or.inr hs)))
  have e252 : (mv_a σ 93 v9.toNatClampNeg).toInt = m252 := by rw [hcv]; exact e252
  refine mv_aload_n (pc := 245) B d_Book_simple_245 rfl 0 rfl ?_
  refine mv_aload_n (pc := 246) B d_Book_simple_246 rfl 0 rfl ?_
  refine mv_getR (pc := 247) (ci := 12) (C := R_Book) (T := F_Book) (N := 65) B 41 rfl rfl (by decide) i_Book (B.2.2.2.1 _ k_1890) rfl (hP.1.1.1 _ 41 _ rfl) d_Book_simple_247 ?_
  refine mv_iload_n (pc := 250) B d_Book_simple_250 rfl 1 rfl ?_
  refine mv_iald (pc := 251) B rfl (i32_in (show 0 ≤ v9.toInt by omega) (show v9.toInt < 33000 by omega)) d_Book_simple_251 ?_
  refine mv_callVl (pc := 252) (n := 1) (ci := 12) (C := R_Book) B (mK_ok sk sv) hNs rfl rfl (ih0 (r - 1) r252 _ _ th n k w sp g m252 e252 p252) rfl (ma_goodc kc_Book_eval) (B.2.2.2.1 _ k_2500) (B.2.2.2.1 _ k_2502) (B.2.2.2.1 _ ks_131) (B.2.2.2.1 _ k_13) ⟨by decide +kernel, by decide +kernel, by decide +kernel⟩ rfl d_Book_simple_252 rfl (Nat.le_of_ble_eq_true rfl) ⟨by first | decide | (dsimp only; omega), by first | decide | (dsimp only; omega)⟩ ⟨Nat.le_refl _, Nat.le_refl _⟩ ⟨Nat.le_refl _, Nat.le_refl _⟩ (mv_noH hno _) (fun v252 σ252 h252 => ?_)
  exact mv_lret (pc := 255) B hr d_Book_simple_255 (Nat.le_refl _) (Nat.le_refl _) ⟨_, rfl, h252⟩
set_option maxHeartbeats 4000000 in
set_option maxRecDepth 100000 in
theorem c_Book_simple_y (l : Launch) {dA : FieldType → ClassId} {D : va_G} {al : Nat → Nat} {ext : mv_Sh} {sk sv : Nat → Nat} (hi : mv_inj (mg dA D al ext)) (σ : mv_H) (v9 : Int32) (th n k w sp : Nat) (g : Gh) (q r : Nat) (hv : v9.toInt = q) (hP : EP 108 th n k w sp r g q σ) (hn7 : ¬ nS 108 σ q = 7) (hn8 : ¬ nS 108 σ q = 8) (ih0 : ∀ j, j + 1 = r → EvE l dA D al ext sk sv 108 j) (hR0 : EvR l dA D al ext sk sv 108 r) : mv_C l y_Book_simple (Cond.code y_Book_simple b_Book_simple 2 (Option.some Jvm.ClassFile.FieldType.long) :: ma) ({ frames := 3 * r + 2, cells := 0, slots := 0, locals := 72 * r + 99 }) (mg dA D al ext) (mK sk sv) [.ref (al 108), .int v9] σ (mv_Rl (fun _ σ1 => EO 108 sp σ σ1)) := by
  refine mv_C.ofV (cc := b_Book_simple) (nL := 2) (ret := (Option.some Jvm.ClassFile.FieldType.long)) (by decide +kernel) rfl hi (Nat.le_of_ble_eq_true rfl) ?_
  intro p e s m below meth c B hNs hr hnm hno
  have hX := hP.x
  have hE2 := hP.2.1.2
  have hE3 := hP.2.2.1
  have hcv : v9.toNatClampNeg = q := by have := i32_cl (x := v9) (by omega); omega
  have hC := hP.1.1.2.2.2.2.2.2.1
  have hcu := hP.1.1.2.2.2.2.2.2.2
  refine mv_aload_n (pc := 0) B d_Book_simple_0 rfl 0 rfl ?_
  refine mv_getR (pc := 1) (ci := 12) (C := R_Book) (T := F_Book) (N := 65) B 40 rfl rfl (by decide) i_Book (B.2.2.2.1 _ k_1889) rfl (hP.1.1.1 _ 40 _ rfl) d_Book_simple_1 ?_
  refine mv_iload_n (pc := 4) B d_Book_simple_4 rfl 1 rfl ?_
  refine mv_iald (pc := 5) B rfl (i32_in (show 0 ≤ v9.toInt by omega) (show v9.toInt < 33000 by omega)) d_Book_simple_5 ?_
  refine mv_tsw (pc := 6) B d_Book_simple_6 (by decide) (by decide) ?_
  refine ⟨fun h6 => ?_, fun h6n1 => ?_⟩
  · skip
    refine mv_aload_n (pc := 64) B d_Book_simple_64 rfl 0 rfl ?_
    refine mv_getR (pc := 65) (ci := 12) (C := R_Book) (T := F_Book) (N := 65) B 46 rfl rfl (by decide) i_Book (B.2.2.2.1 _ k_1895) rfl (hP.1.1.1 _ 46 _ rfl) d_Book_simple_65 ?_
    refine mv_iload_n (pc := 68) B d_Book_simple_68 rfl 1 rfl ?_
    refine mv_lald (pc := 69) B rfl (i32_in (show 0 ≤ v9.toInt by omega) (show v9.toInt < 33000 by omega)) d_Book_simple_69 ?_
    exact mv_lret (pc := 70) B hr d_Book_simple_70 (Nat.le_refl _) (Nat.le_refl _) ⟨_, rfl, EO.rf⟩
  refine ⟨fun h6 => ?_, fun h6n2 => ?_⟩
  · skip
    have hs : nS 108 σ q = 2 := by rw [hcv] at h6; exact h6.trans (by decide)
    have ht9 : 0 ≤ (mv_a σ 127 v9.toNatClampNeg).toInt ∧ (mv_a σ 127 v9.toNatClampNeg).toInt < th := by rw [hcv]; exact hX.2.1 hs
    have hK : WK 108 th σ (mv_a σ 127 v9.toNatClampNeg) 0 := ⟨ht9.1, ht9.2, by decide, Or.inr rfl⟩
    refine mv_aload_n (pc := 71) B d_Book_simple_71 rfl 0 rfl ?_
    refine mv_aload_n (pc := 72) B d_Book_simple_72 rfl 0 rfl ?_
    refine mv_getR (pc := 73) (ci := 12) (C := R_Book) (T := F_Book) (N := 65) B 41 rfl rfl (by decide) i_Book (B.2.2.2.1 _ k_1890) rfl (hP.1.1.1 _ 41 _ rfl) d_Book_simple_73 ?_
    refine mv_iload_n (pc := 76) B d_Book_simple_76 rfl 1 rfl ?_
    refine mv_iald (pc := 77) B rfl (i32_in (show 0 ≤ v9.toInt by omega) (show v9.toInt < 33000 by omega)) d_Book_simple_77 ?_
    refine mv_iconst (pc := 78) (v := 0) B d_Book_simple_78 (by decide) ?_
    refine mv_callVl (pc := 79) (n := 2) (ci := 12) (C := R_Book) B (mK_ok sk sv) hNs rfl rfl (c_Book_read_0_y l hi _ _ _ th n k w g hP.1.1 hP.1.2.1 hP.1.2.2 hK) rfl (ma_goodc kc_Book_read_0) (B.2.2.2.1 _ k_2508) (B.2.2.2.1 _ k_2510) (B.2.2.2.1 _ ks_133) (B.2.2.2.1 _ k_13) ⟨by decide +kernel, by decide +kernel, by decide +kernel⟩ rfl d_Book_simple_79 rfl (Nat.le_of_ble_eq_true rfl) ⟨by first | decide | (dsimp only; omega), by first | decide | (dsimp only; omega)⟩ ⟨Nat.le_refl _, Nat.le_refl _⟩ ⟨Nat.le_refl _, Nat.le_refl _⟩ (mv_noH hno _) (fun v79 σ79 h79 => ?_)
    have e79 := h79.symm
    subst e79
    exact mv_lret (pc := 82) B hr d_Book_simple_82 (Nat.le_refl _) (Nat.le_refl _) ⟨_, rfl, EO.rf⟩
  refine ⟨fun h6 => ?_, fun h6n3 => ?_⟩
  · skip
    have hs : nS 108 σ q = 3 := by rw [hcv] at h6; exact h6.trans (by decide)
    have ht9 : 0 ≤ (mv_a σ 127 v9.toNatClampNeg).toInt ∧ (mv_a σ 127 v9.toNatClampNeg).toInt < th := by rw [hcv]; exact (hX.2.2.1 hs).1
    obtain ⟨m97, e97, l97, r97, p97⟩ := hP.child (hX.2.2.1 hs).2
    have e97 : (mv_a σ 128 v9.toNatClampNeg).toInt = m97 := by rw [hcv]; exact e97
    refine mv_aload_n (pc := 83) B d_Book_simple_83 rfl 0 rfl ?_
    refine mv_aload_n (pc := 84) B d_Book_simple_84 rfl 0 rfl ?_
    refine mv_getR (pc := 85) (ci := 12) (C := R_Book) (T := F_Book) (N := 65) B 41 rfl rfl (by decide) i_Book (B.2.2.2.1 _ k_1890) rfl (hP.1.1.1 _ 41 _ rfl) d_Book_simple_85 ?_
    refine mv_iload_n (pc := 88) B d_Book_simple_88 rfl 1 rfl ?_
    refine mv_iald (pc := 89) B rfl (i32_in (show 0 ≤ v9.toInt by omega) (show v9.toInt < 33000 by omega)) d_Book_simple_89 ?_
    refine mv_aload_n (pc := 90) B d_Book_simple_90 rfl 0 rfl ?_
    refine mv_aload_n (pc := 91) B d_Book_simple_91 rfl 0 rfl ?_
    refine mv_getR (pc := 92) (ci := 12) (C := R_Book) (T := F_Book) (N := 65) B 42 rfl rfl (by decide) i_Book (B.2.2.2.1 _ k_1891) rfl (hP.1.1.1 _ 42 _ rfl) d_Book_simple_92 ?_
    refine mv_iload_n (pc := 95) B d_Book_simple_95 rfl 1 rfl ?_
    refine mv_iald (pc := 96) B rfl (i32_in (show 0 ≤ v9.toInt by omega) (show v9.toInt < 33000 by omega)) d_Book_simple_96 ?_
    refine mv_callVl (pc := 97) (n := 1) (ci := 12) (C := R_Book) B (mK_ok sk sv) hNs rfl rfl (ih0 (r - 1) r97 _ _ th n k w sp g m97 e97 p97) rfl (ma_goodc kc_Book_eval) (B.2.2.2.1 _ k_2500) (B.2.2.2.1 _ k_2502) (B.2.2.2.1 _ ks_131) (B.2.2.2.1 _ k_13) ⟨by decide +kernel, by decide +kernel, by decide +kernel⟩ rfl d_Book_simple_97 rfl (Nat.le_of_ble_eq_true rfl) ⟨by first | decide | (dsimp only; omega), by first | decide | (dsimp only; omega)⟩ ⟨Nat.le_refl _, Nat.le_refl _⟩ ⟨Nat.le_refl _, Nat.le_refl _⟩ (mv_noH hno _) (fun v97 σ97 h97 => ?_)
    refine mv_callVl (pc := 100) (n := 2) (ci := 12) (C := R_Book) B (mK_ok sk sv) hNs rfl rfl (c_Book_cell_y l hi _ _ _ th n k w g (hP.mv h97).1.1 (hP.mv h97).1.2.1 (hP.mv h97).1.2.2 ht9.1 ht9.2) rfl (ma_goodc kc_Book_cell) (B.2.2.2.1 _ k_2512) (B.2.2.2.1 _ k_2514) (B.2.2.2.1 _ ks_134) (B.2.2.2.1 _ k_13) ⟨by decide +kernel, by decide +kernel, by decide +kernel⟩ rfl d_Book_simple_100 rfl (Nat.le_of_ble_eq_true rfl) ⟨by first | decide | (dsimp only; omega), by first | decide | (dsimp only; omega)⟩ ⟨Nat.le_refl _, Nat.le_refl _⟩ ⟨Nat.le_refl _, Nat.le_refl _⟩ (mv_noH hno _) (fun v100 σ100 h100 => ?_)
    exact mv_lret (pc := 103) B hr d_Book_simple_103 (Nat.le_refl _) (Nat.le_refl _) ⟨_, rfl, h97.tr ⟨h100.1.lo (by omega), h100.2⟩⟩
  refine ⟨fun h6 => ?_, fun h6n4 => ?_⟩
  · skip
    have hs : nS 108 σ q = 4 := by rw [hcv] at h6; exact h6.trans (by decide)
    refine mv_aload_n (pc := 104) B d_Book_simple_104 rfl 0 rfl ?_
    refine mv_aload_n (pc := 105) B d_Book_simple_105 rfl 0 rfl ?_
    refine mv_getI (pc := 106) (ci := 12) (C := R_Book) (T := F_Book) (N := 65) B 63 rfl rfl (by decide) i_Book (B.2.2.2.1 _ k_1912) rfl d_Book_simple_106 ?_
    refine mv_aload_n (pc := 109) B d_Book_simple_109 rfl 0 rfl ?_
    refine mv_getR (pc := 110) (ci := 12) (C := R_Book) (T := F_Book) (N := 65) B 41 rfl rfl (by decide) i_Book (B.2.2.2.1 _ k_1890) rfl (hP.1.1.1 _ 41 _ rfl) d_Book_simple_110 ?_
    refine mv_iload_n (pc := 113) B d_Book_simple_113 rfl 1 rfl ?_
    refine mv_iald (pc := 114) B rfl (i32_in (show 0 ≤ v9.toInt by omega) (show v9.toInt < 33000 by omega)) d_Book_simple_114 ?_
    refine mv_aload_n (pc := 115) B d_Book_simple_115 rfl 0 rfl ?_
    refine mv_getL (pc := 116) (ci := 12) (C := R_Book) (T := F_Book) (N := 65) B 52 rfl rfl (by decide) i_Book (B.2.2.2.1 _ k_1901) rfl d_Book_simple_116 ?_
    refine mv_callVl (pc := 119) (n := 3) (ci := 12) (C := R_Book) B (mK_ok sk sv) hNs rfl rfl (c_Book_field_y l hi _ _ _ _ k hP.1.1.1 hC hcu.1 hcu.2) rfl (ma_goodc kc_Book_field) (B.2.2.2.1 _ k_2516) (B.2.2.2.1 _ k_2408) (B.2.2.2.1 _ k_2409) (B.2.2.2.1 _ k_13) ⟨by decide +kernel, by decide +kernel, by decide +kernel⟩ rfl d_Book_simple_119 rfl (Nat.le_of_ble_eq_true rfl) ⟨by first | decide | (dsimp only; omega), by first | decide | (dsimp only; omega)⟩ ⟨Nat.le_refl _, Nat.le_refl _⟩ ⟨Nat.le_refl _, Nat.le_refl _⟩ (mv_noH hno _) (fun v119 σ119 h119 => ?_)
    have e119 := h119.symm
    subst e119
    exact mv_lret (pc := 122) B hr d_Book_simple_122 (Nat.le_refl _) (Nat.le_refl _) ⟨_, rfl, EO.rf⟩
  refine ⟨fun h6 => ?_, fun h6n5 => ?_⟩
  · skip
    have hs : nS 108 σ q = 5 := by rw [hcv] at h6; exact h6.trans (by decide)
    have ht9 : 0 ≤ (mv_a σ 127 v9.toNatClampNeg).toInt ∧ (mv_a σ 127 v9.toNatClampNeg).toInt < 4100 := by rw [hcv]; exact hX.2.2.2.1 hs
    refine mv_aload_n (pc := 123) B d_Book_simple_123 rfl 0 rfl ?_
    refine mv_getR (pc := 124) (ci := 12) (C := R_Book) (T := F_Book) (N := 65) B 54 rfl rfl (by decide) i_Book (B.2.2.2.1 _ k_1903) rfl (hP.1.1.1 _ 54 _ rfl) d_Book_simple_124 ?_
    refine mv_aload_n (pc := 127) B d_Book_simple_127 rfl 0 rfl ?_
    refine mv_getR (pc := 128) (ci := 12) (C := R_Book) (T := F_Book) (N := 65) B 41 rfl rfl (by decide) i_Book (B.2.2.2.1 _ k_1890) rfl (hP.1.1.1 _ 41 _ rfl) d_Book_simple_128 ?_
    refine mv_iload_n (pc := 131) B d_Book_simple_131 rfl 1 rfl ?_
    refine mv_iald (pc := 132) B rfl (i32_in (show 0 ≤ v9.toInt by omega) (show v9.toInt < 33000 by omega)) d_Book_simple_132 ?_
    refine mv_lald (pc := 133) B rfl (i32_in ht9.1 ht9.2) d_Book_simple_133 ?_
    exact mv_lret (pc := 134) B hr d_Book_simple_134 (Nat.le_refl _) (Nat.le_refl _) ⟨_, rfl, EO.rf⟩
  refine ⟨fun h6 => ?_, fun h6n6 => ?_⟩
  · skip
    have hs : nS 108 σ q = 6 := by rw [hcv] at h6; exact h6.trans (by decide)
    obtain ⟨m148, e148, l148, r148, p148⟩ := hP.child (hX.2.2.2.2.1 (Or.inl hs))
    have e148 : (mv_a σ 127 v9.toNatClampNeg).toInt = m148 := by rw [hcv]; exact e148
    refine mv_aload_n (pc := 135) B d_Book_simple_135 rfl 0 rfl ?_
    refine mv_getR (pc := 136) (ci := 12) (C := R_Book) (T := F_Book) (N := 65) B 42 rfl rfl (by decide) i_Book (B.2.2.2.1 _ k_1891) rfl (hP.1.1.1 _ 42 _ rfl) d_Book_simple_136 ?_
    refine mv_iload_n (pc := 139) B d_Book_simple_139 rfl 1 rfl ?_
    refine mv_iald (pc := 140) B rfl (i32_in (show 0 ≤ v9.toInt by omega) (show v9.toInt < 33000 by omega)) d_Book_simple_140 ?_
    refine mv_aload_n (pc := 141) B d_Book_simple_141 rfl 0 rfl ?_
    refine mv_aload_n (pc := 142) B d_Book_simple_142 rfl 0 rfl ?_
    refine mv_getR (pc := 143) (ci := 12) (C := R_Book) (T := F_Book) (N := 65) B 41 rfl rfl (by decide) i_Book (B.2.2.2.1 _ k_1890) rfl (hP.1.1.1 _ 41 _ rfl) d_Book_simple_143 ?_
    refine mv_iload_n (pc := 146) B d_Book_simple_146 rfl 1 rfl ?_
    refine mv_iald (pc := 147) B rfl (i32_in (show 0 ≤ v9.toInt by omega) (show v9.toInt < 33000 by omega)) d_Book_simple_147 ?_
    refine mv_callVl (pc := 148) (n := 1) (ci := 12) (C := R_Book) B (mK_ok sk sv) hNs rfl rfl (ih0 (r - 1) r148 _ _ th n k w sp g m148 e148 p148) rfl (ma_goodc kc_Book_eval) (B.2.2.2.1 _ k_2500) (B.2.2.2.1 _ k_2502) (B.2.2.2.1 _ ks_131) (B.2.2.2.1 _ k_13) ⟨by decide +kernel, by decide +kernel, by decide +kernel⟩ rfl d_Book_simple_148 rfl (Nat.le_of_ble_eq_true rfl) ⟨by first | decide | (dsimp only; omega), by first | decide | (dsimp only; omega)⟩ ⟨Nat.le_refl _, Nat.le_refl _⟩ ⟨Nat.le_refl _, Nat.le_refl _⟩ (mv_noH hno _) (fun v148 σ148 h148 => ?_)
    have hP := hP.mv h148
    refine mv_aload_n (pc := 151) B d_Book_simple_151 rfl 0 rfl ?_
    refine mv_getR (pc := 152) (ci := 12) (C := R_Book) (T := F_Book) (N := 65) B 45 rfl rfl (by decide) i_Book (B.2.2.2.1 _ k_1894) rfl (hP.1.1.1 _ 45 _ rfl) d_Book_simple_152 ?_
    refine mv_iload_n (pc := 155) B d_Book_simple_155 rfl 1 rfl ?_
    refine mv_iald (pc := 156) B rfl (i32_in (show 0 ≤ v9.toInt by omega) (show v9.toInt < 33000 by omega)) d_Book_simple_156 ?_
    refine mv_callSl (pc := 157) (n := 3) B (mK_ok sk sv) hNs (c_Book_unaryValue l hi _ _ _ _) rfl (ma_goodc kc_Book_unaryValue) (B.2.2.2.1 _ k_2517) (B.2.2.2.1 _ k_2518) (B.2.2.2.1 _ k_13) ⟨by decide +kernel, by decide +kernel, by decide +kernel⟩ rfl d_Book_simple_157 rfl (Nat.le_of_ble_eq_true rfl) ⟨by first | decide | (dsimp only; omega), by first | decide | (dsimp only; omega)⟩ ⟨Nat.le_refl _, Nat.le_refl _⟩ ⟨Nat.le_refl _, Nat.le_refl _⟩ (mv_noH hno _) (fun v157 σ157 h157 => ?_)
    have e157 := h157.symm
    subst e157
    exact mv_lret (pc := 160) B hr d_Book_simple_160 (Nat.le_refl _) (Nat.le_refl _) ⟨_, rfl, h148⟩
  refine ⟨fun h6 => ?_, fun h6n7 => ?_⟩
  · skip
    exact absurd (show nS 108 σ q = 7 by rw [hcv] at h6; exact h6.trans (by decide)) hn7
  refine ⟨fun h6 => ?_, fun h6n8 => ?_⟩
  · skip
    exact absurd (show nS 108 σ q = 8 by rw [hcv] at h6; exact h6.trans (by decide)) hn8
  refine ⟨fun h6 => ?_, fun h6n9 => ?_⟩
  · skip
    have hs : nS 108 σ q = 9 := by rw [hcv] at h6; exact h6.trans (by decide)
    obtain ⟨m168, e168, l168, r168, p168⟩ := hP.child (hX.2.2.2.2.2.2.2.1 hs).1
    have e168 : (mv_a σ 127 v9.toNatClampNeg).toInt = m168 := by rw [hcv]; exact e168
    refine mv_aload_n (pc := 161) B d_Book_simple_161 rfl 0 rfl ?_
    refine mv_aload_n (pc := 162) B d_Book_simple_162 rfl 0 rfl ?_
    refine mv_getR (pc := 163) (ci := 12) (C := R_Book) (T := F_Book) (N := 65) B 41 rfl rfl (by decide) i_Book (B.2.2.2.1 _ k_1890) rfl (hP.1.1.1 _ 41 _ rfl) d_Book_simple_163 ?_
    refine mv_iload_n (pc := 166) B d_Book_simple_166 rfl 1 rfl ?_
    refine mv_iald (pc := 167) B rfl (i32_in (show 0 ≤ v9.toInt by omega) (show v9.toInt < 33000 by omega)) d_Book_simple_167 ?_
    refine mv_callVl (pc := 168) (n := 1) (ci := 12) (C := R_Book) B (mK_ok sk sv) hNs rfl rfl (ih0 (r - 1) r168 _ _ th n k w sp g m168 e168 p168) rfl (ma_goodc kc_Book_eval) (B.2.2.2.1 _ k_2500) (B.2.2.2.1 _ k_2502) (B.2.2.2.1 _ ks_131) (B.2.2.2.1 _ k_13) ⟨by decide +kernel, by decide +kernel, by decide +kernel⟩ rfl d_Book_simple_168 rfl (Nat.le_of_ble_eq_true rfl) ⟨by first | decide | (dsimp only; omega), by first | decide | (dsimp only; omega)⟩ ⟨Nat.le_refl _, Nat.le_refl _⟩ ⟨Nat.le_refl _, Nat.le_refl _⟩ (mv_noH hno _) (fun v168 σ168 h168 => ?_)
    have hP := hP.mv h168
    have hX := hP.x
    have hs : nS 108 σ168 q = 9 := by show (mv_a σ168 (108 + 18) q).toInt = 9; rw [h168.1.nd (by omega)]; exact hs
    obtain ⟨m183, e183, l183, r183, p183⟩ := hP.child (hX.2.2.2.2.2.2.2.1 hs).2.1
    have e183 : (mv_a σ168 128 v9.toNatClampNeg).toInt = m183 := by rw [hcv]; exact e183
    obtain ⟨m196, e196, l196, r196, p196⟩ := hP.child (hX.2.2.2.2.2.2.2.1 hs).2.2
    have e196 : (mv_a σ168 129 v9.toNatClampNeg).toInt = m196 := by rw [hcv]; exact e196
    refine mv_lconst (pc := 171) (v := 0) B d_Book_simple_171 (by decide) ?_
    refine mv_lcmp (pc := 172) B d_Book_simple_172 ?_
    refine mv_if_eq (pc := 173) (tgt := 189) B d_Book_simple_173 rfl (fun h173 => ?_) (fun h173 => ?_)
    · skip
      refine mv_aload_n (pc := 189) B d_Book_simple_189 rfl 0 rfl ?_
      refine mv_aload_n (pc := 190) B d_Book_simple_190 rfl 0 rfl ?_
      refine mv_getR (pc := 191) (ci := 12) (C := R_Book) (T := F_Book) (N := 65) B 43 rfl rfl (by decide) i_Book (B.2.2.2.1 _ k_1892) rfl (hP.1.1.1 _ 43 _ rfl) d_Book_simple_191 ?_
      refine mv_iload_n (pc := 194) B d_Book_simple_194 rfl 1 rfl ?_
      refine mv_iald (pc := 195) B rfl (i32_in (show 0 ≤ v9.toInt by omega) (show v9.toInt < 33000 by omega)) d_Book_simple_195 ?_
      refine mv_callVl (pc := 196) (n := 1) (ci := 12) (C := R_Book) B (mK_ok sk sv) hNs rfl rfl (ih0 (r - 1) r196 _ _ th n k w sp g m196 e196 p196) rfl (ma_goodc kc_Book_eval) (B.2.2.2.1 _ k_2500) (B.2.2.2.1 _ k_2502) (B.2.2.2.1 _ ks_131) (B.2.2.2.1 _ k_13) ⟨by decide +kernel, by decide +kernel, by decide +kernel⟩ rfl d_Book_simple_196 rfl (Nat.le_of_ble_eq_true rfl) ⟨by first | decide | (dsimp only; omega), by first | decide | (dsimp only; omega)⟩ ⟨Nat.le_refl _, Nat.le_refl _⟩ ⟨Nat.le_refl _, Nat.le_refl _⟩ (mv_noH hno _) (fun v196 σ196 h196 => ?_)
      exact mv_lret (pc := 199) B hr d_Book_simple_199 (Nat.le_refl _) (Nat.le_refl _) ⟨_, rfl, by first | exact h168.tr h183 | exact h168.tr h196⟩
    · skip
      refine mv_aload_n (pc := 176) B d_Book_simple_176 rfl 0 rfl ?_
      refine mv_aload_n (pc := 177) B d_Book_simple_177 rfl 0 rfl ?_
      refine mv_getR (pc := 178) (ci := 12) (C := R_Book) (T := F_Book) (N := 65) B 42 rfl rfl (by decide) i_Book (B.2.2.2.1 _ k_1891) rfl (hP.1.1.1 _ 42 _ rfl) d_Book_simple_178 ?_
      refine mv_iload_n (pc := 181) B d_Book_simple_181 rfl 1 rfl ?_
      refine mv_iald (pc := 182) B rfl (i32_in (show 0 ≤ v9.toInt by omega) (show v9.toInt < 33000 by omega)) d_Book_simple_182 ?_
      refine mv_callVl (pc := 183) (n := 1) (ci := 12) (C := R_Book) B (mK_ok sk sv) hNs rfl rfl (ih0 (r - 1) r183 _ _ th n k w sp g m183 e183 p183) rfl (ma_goodc kc_Book_eval) (B.2.2.2.1 _ k_2500) (B.2.2.2.1 _ k_2502) (B.2.2.2.1 _ ks_131) (B.2.2.2.1 _ k_13) ⟨by decide +kernel, by decide +kernel, by decide +kernel⟩ rfl d_Book_simple_183 rfl (Nat.le_of_ble_eq_true rfl) ⟨by first | decide | (dsimp only; omega), by first | decide | (dsimp only; omega)⟩ ⟨Nat.le_refl _, Nat.le_refl _⟩ ⟨Nat.le_refl _, Nat.le_refl _⟩ (mv_noH hno _) (fun v183 σ183 h183 => ?_)
      refine mv_goto (pc := 186) (tgt := 199) B d_Book_simple_186 rfl ?_
      exact mv_lret (pc := 199) B hr d_Book_simple_199 (Nat.le_refl _) (Nat.le_refl _) ⟨_, rfl, by first | exact h168.tr h183 | exact h168.tr h196⟩
  refine ⟨fun h6 => ?_, fun h6n10 => ?_⟩
  · skip
    have hs : nS 108 σ q = 10 := by rw [hcv] at h6; exact h6.trans (by decide)
    have hXL : XL 108 σ g.1 0 q (g.1 q) (mv_a σ 127 v9.toNatClampNeg) := by rw [hcv]; exact hX.2.2.2.2.2.2.2.2 hs
    refine mv_aload_n (pc := 200) B d_Book_simple_200 rfl 0 rfl ?_
    refine mv_aload_n (pc := 201) B d_Book_simple_201 rfl 0 rfl ?_
    refine mv_getR (pc := 202) (ci := 12) (C := R_Book) (T := F_Book) (N := 65) B 41 rfl rfl (by decide) i_Book (B.2.2.2.1 _ k_1890) rfl (hP.1.1.1 _ 41 _ rfl) d_Book_simple_202 ?_
    refine mv_iload_n (pc := 205) B d_Book_simple_205 rfl 1 rfl ?_
    refine mv_iald (pc := 206) B rfl (i32_in (show 0 ≤ v9.toInt by omega) (show v9.toInt < 33000 by omega)) d_Book_simple_206 ?_
    refine mv_callVl (pc := 207) (n := 1) (ci := 12) (C := R_Book) B (mK_ok sk sv) hNs rfl rfl (hR0 _ _ th n k w sp g q hXL hP) rfl (ma_goodc kc_Book_row) (B.2.2.2.1 _ k_2521) (B.2.2.2.1 _ k_2523) (B.2.2.2.1 _ ks_135) (B.2.2.2.1 _ k_13) ⟨by decide +kernel, by decide +kernel, by decide +kernel⟩ rfl d_Book_simple_207 rfl (Nat.le_of_ble_eq_true rfl) ⟨by first | decide | (dsimp only; omega), by first | decide | (dsimp only; omega)⟩ ⟨Nat.le_refl _, Nat.le_refl _⟩ ⟨Nat.le_refl _, Nat.le_refl _⟩ (mv_noH hno _) (fun v207 σ207 h207 => ?_)
    exact mv_lret (pc := 210) B hr d_Book_simple_210 (Nat.le_refl _) (Nat.le_refl _) ⟨_, rfl, h207⟩
  refine ⟨fun h6 => ?_, fun h6n11 => ?_⟩
  · skip
    have hs : nS 108 σ q = 11 := by rw [hcv] at h6; exact h6.trans (by decide)
    obtain ⟨m218, e218, l218, r218, p218⟩ := hP.child (hX.2.2.2.2.1 (Or.inr (Or.inl hs)))
    have e218 : (mv_a σ 127 v9.toNatClampNeg).toInt = m218 := by rw [hcv]; exact e218
    refine mv_aload_n (pc := 211) B d_Book_simple_211 rfl 0 rfl ?_
    refine mv_aload_n (pc := 212) B d_Book_simple_212 rfl 0 rfl ?_
    refine mv_getR (pc := 213) (ci := 12) (C := R_Book) (T := F_Book) (N := 65) B 41 rfl rfl (by decide) i_Book (B.2.2.2.1 _ k_1890) rfl (hP.1.1.1 _ 41 _ rfl) d_Book_simple_213 ?_
    refine mv_iload_n (pc := 216) B d_Book_simple_216 rfl 1 rfl ?_
    refine mv_iald (pc := 217) B rfl (i32_in (show 0 ≤ v9.toInt by omega) (show v9.toInt < 33000 by omega)) d_Book_simple_217 ?_
    refine mv_callVl (pc := 218) (n := 1) (ci := 12) (C := R_Book) B (mK_ok sk sv) hNs rfl rfl (ih0 (r - 1) r218 _ _ th n k w sp g m218 e218 p218) rfl (ma_goodc kc_Book_eval) (B.2.2.2.1 _ k_2500) (B.2.2.2.1 _ k_2502) (B.2.2.2.1 _ ks_131) (B.2.2.2.1 _ k_13) ⟨by decide +kernel, by decide +kernel, by decide +kernel⟩ rfl d_Book_simple_218 rfl (Nat.le_of_ble_eq_true rfl) ⟨by first | decide | (dsimp only; omega), by first | decide | (dsimp only; omega)⟩ ⟨Nat.le_refl _, Nat.le_refl _⟩ ⟨Nat.le_refl _, Nat.le_refl _⟩ (mv_noH hno _) (fun v218 σ218 h218 => ?_)
    have hP := hP.mv h218
    have eA : mv_a σ218 127 v9.toNatClampNeg = mv_a σ 127 v9.toNatClampNeg := h218.1.nd (by omega)
    refine mv_aload_n (pc := 221) B d_Book_simple_221 rfl 0 rfl ?_
    refine mv_getR (pc := 222) (ci := 12) (C := R_Book) (T := F_Book) (N := 65) B 45 rfl rfl (by decide) i_Book (B.2.2.2.1 _ k_1894) rfl (hP.1.1.1 _ 45 _ rfl) d_Book_simple_222 ?_
    refine mv_aload_n (pc := 225) B d_Book_simple_225 rfl 0 rfl ?_
    refine mv_getR (pc := 226) (ci := 12) (C := R_Book) (T := F_Book) (N := 65) B 41 rfl rfl (by decide) i_Book (B.2.2.2.1 _ k_1890) rfl (hP.1.1.1 _ 41 _ rfl) d_Book_simple_226 ?_
    refine mv_iload_n (pc := 229) B d_Book_simple_229 rfl 1 rfl ?_
    refine mv_iald (pc := 230) B rfl (i32_in (show 0 ≤ v9.toInt by omega) (show v9.toInt < 33000 by omega)) d_Book_simple_230 ?_
    refine mv_iald (pc := 231) B rfl (i32_in (by rw [eA]; omega) (by rw [eA]; omega)) d_Book_simple_231 ?_
    refine mv_callSl (pc := 232) (n := 2) B (mK_ok sk sv) hNs (c_Book_signed l hi _ _ _) rfl (ma_goodc kc_Book_signed) (B.2.2.2.1 _ k_2525) (B.2.2.2.1 _ k_2526) (B.2.2.2.1 _ k_13) ⟨by decide +kernel, by decide +kernel, by decide +kernel⟩ rfl d_Book_simple_232 rfl (Nat.le_of_ble_eq_true rfl) ⟨by first | decide | (dsimp only; omega), by first | decide | (dsimp only; omega)⟩ ⟨Nat.le_refl _, Nat.le_refl _⟩ ⟨Nat.le_refl _, Nat.le_refl _⟩ (mv_noH hno _) (fun v232 σ232 h232 => ?_)
    have e232 := h232.symm
    subst e232
    refine mv_aload_n (pc := 235) B d_Book_simple_235 rfl 0 rfl ?_
    refine mv_getR (pc := 236) (ci := 12) (C := R_Book) (T := F_Book) (N := 65) B 45 rfl rfl (by decide) i_Book (B.2.2.2.1 _ k_1894) rfl (hP.1.1.1 _ 45 _ rfl) d_Book_simple_236 ?_
    refine mv_iload_n (pc := 239) B d_Book_simple_239 rfl 1 rfl ?_
    refine mv_iald (pc := 240) B rfl (i32_in (show 0 ≤ v9.toInt by omega) (show v9.toInt < 33000 by omega)) d_Book_simple_240 ?_
    refine mv_callSl (pc := 241) (n := 2) B (mK_ok sk sv) hNs (c_Book_cut l hi _ _ _) rfl (ma_goodc kc_Book_cut) (B.2.2.2.1 _ k_2427) (B.2.2.2.1 _ k_2428) (B.2.2.2.1 _ k_13) ⟨by decide +kernel, by decide +kernel, by decide +kernel⟩ rfl d_Book_simple_241 rfl (Nat.le_of_ble_eq_true rfl) ⟨by first | decide | (dsimp only; omega), by first | decide | (dsimp only; omega)⟩ ⟨Nat.le_refl _, Nat.le_refl _⟩ ⟨Nat.le_refl _, Nat.le_refl _⟩ (mv_noH hno _) (fun v241 σ241 h241 => ?_)
    have e241 := h241.symm
    subst e241
    exact mv_lret (pc := 244) B hr d_Book_simple_244 (Nat.le_refl _) (Nat.le_refl _) ⟨_, rfl, h218⟩
  show mv_V _ _ _ _ _ _ _ _ _ _ _ _ _ _ _ _ 245 _ _
  have hs : nS 108 σ q = 12 := by
    have z1 : ¬ nS 108 σ q = 1 := fun z => h6n1 (by rw [hcv]; exact z.trans (by decide))
    have z2 : ¬ nS 108 σ q = 2 := fun z => h6n2 (by rw [hcv]; exact z.trans (by decide))
    have z3 : ¬ nS 108 σ q = 3 := fun z => h6n3 (by rw [hcv]; exact z.trans (by decide))
    have z4 : ¬ nS 108 σ q = 4 := fun z => h6n4 (by rw [hcv]; exact z.trans (by decide))
    have z5 : ¬ nS 108 σ q = 5 := fun z => h6n5 (by rw [hcv]; exact z.trans (by decide))
    have z6 : ¬ nS 108 σ q = 6 := fun z => h6n6 (by rw [hcv]; exact z.trans (by decide))
    have z9 : ¬ nS 108 σ q = 9 := fun z => h6n9 (by rw [hcv]; exact z.trans (by decide))
    have z10 : ¬ nS 108 σ q = 10 := fun z => h6n10 (by rw [hcv]; exact z.trans (by decide))
    have z11 : ¬ nS 108 σ q = 11 := fun z => h6n11 (by rw [hcv]; exact z.trans (by decide))
    have z7 : ¬ nS 108 σ q = 7 := hn7
    have z8 : ¬ nS 108 σ q = 8 := hn8
    have z0 := hX.1
    omega
  obtain ⟨m252, e252, l252, r252, p252⟩ := hP.child (hX.2.2.2.2.1 (Or.inr (Or.inr hs)))
  have e252 : (mv_a σ 127 v9.toNatClampNeg).toInt = m252 := by rw [hcv]; exact e252
  refine mv_aload_n (pc := 245) B d_Book_simple_245 rfl 0 rfl ?_
  refine mv_aload_n (pc := 246) B d_Book_simple_246 rfl 0 rfl ?_
  refine mv_getR (pc := 247) (ci := 12) (C := R_Book) (T := F_Book) (N := 65) B 41 rfl rfl (by decide) i_Book (B.2.2.2.1 _ k_1890) rfl (hP.1.1.1 _ 41 _ rfl) d_Book_simple_247 ?_
  refine mv_iload_n (pc := 250) B d_Book_simple_250 rfl 1 rfl ?_
  refine mv_iald (pc := 251) B rfl (i32_in (show 0 ≤ v9.toInt by omega) (show v9.toInt < 33000 by omega)) d_Book_simple_251 ?_
  refine mv_callVl (pc := 252) (n := 1) (ci := 12) (C := R_Book) B (mK_ok sk sv) hNs rfl rfl (ih0 (r - 1) r252 _ _ th n k w sp g m252 e252 p252) rfl (ma_goodc kc_Book_eval) (B.2.2.2.1 _ k_2500) (B.2.2.2.1 _ k_2502) (B.2.2.2.1 _ ks_131) (B.2.2.2.1 _ k_13) ⟨by decide +kernel, by decide +kernel, by decide +kernel⟩ rfl d_Book_simple_252 rfl (Nat.le_of_ble_eq_true rfl) ⟨by first | decide | (dsimp only; omega), by first | decide | (dsimp only; omega)⟩ ⟨Nat.le_refl _, Nat.le_refl _⟩ ⟨Nat.le_refl _, Nat.le_refl _⟩ (mv_noH hno _) (fun v252 σ252 h252 => ?_)
  exact mv_lret (pc := 255) B hr d_Book_simple_255 (Nat.le_refl _) (Nat.le_refl _) ⟨_, rfl, h252⟩
theorem k_1911 : (Jvm.Cond.fieldLink "MachineLoomModel$Book" (463 : Nat) "MachineLoomModel$Book" "spineTop" "I") ∈ ma := ma_of (tb_8 _ (List.mem_of_getElem? (i := 231) rfl)) rfl
theorem k_1908 : (Jvm.Cond.fieldLink "MachineLoomModel$Book" (123 : Nat) "MachineLoomModel$Book" "spine" "[I") ∈ ma := ma_of (tb_8 _ (List.mem_of_getElem? (i := 228) rfl)) rfl
theorem k_2528 : (Jvm.Cond.methodLink "MachineLoomModel$Book" (473 : Nat) ({ cls := "MachineLoomModel$Book", name := "apply", desc := "(IJJI)J" } : Jvm.MethodName)) ∈ ma := ma_of (tb_11 _ (List.mem_of_getElem? (i := 128) rfl)) rfl
theorem k_2530 : (Jvm.Cond.instanceMethod ({ cls := "MachineLoomModel$Book", name := "apply", desc := "(IJJI)J" } : Jvm.MethodName)) ∈ ma := ma_of (tb_11 _ (List.mem_of_getElem? (i := 130) rfl)) rfl
theorem ks_136 : Cond.selects "MachineLoomModel$Book" ⟨"MachineLoomModel$Book", "apply", "(IJJI)J"⟩ ⟨"MachineLoomModel$Book", "apply", "(IJJI)J"⟩ ∈ ma := ma_sel 136 rfl rfl
theorem k_2504 : (Jvm.Cond.methodLink "MachineLoomModel$Book" (466 : Nat) ({ cls := "MachineLoomModel$Book", name := "simple", desc := "(I)J" } : Jvm.MethodName)) ∈ ma := ma_of (tb_11 _ (List.mem_of_getElem? (i := 104) rfl)) rfl
theorem k_2506 : (Jvm.Cond.instanceMethod ({ cls := "MachineLoomModel$Book", name := "simple", desc := "(I)J" } : Jvm.MethodName)) ∈ ma := ma_of (tb_11 _ (List.mem_of_getElem? (i := 106) rfl)) rfl
theorem ks_132 : Cond.selects "MachineLoomModel$Book" ⟨"MachineLoomModel$Book", "simple", "(I)J"⟩ ⟨"MachineLoomModel$Book", "simple", "(I)J"⟩ ∈ ma := ma_sel 132 rfl rfl
theorem d_Book_eval_0 : decode b_Book_eval 0 = .ok (.aload_n 0, 1) := by decide +kernel
theorem d_Book_eval_1 : decode b_Book_eval 1 = .ok (.getfield 463, 3) := by decide +kernel
theorem d_Book_eval_4 : decode b_Book_eval 4 = .ok (.istore_n 2, 1) := by decide +kernel
theorem d_Book_eval_5 : decode b_Book_eval 5 = .ok (.iload_n 1, 1) := by decide +kernel
theorem d_Book_eval_6 : decode b_Book_eval 6 = .ok (.istore_n 3, 1) := by decide +kernel
theorem d_Book_eval_7 : decode b_Book_eval 7 = .ok (.aload_n 0, 1) := by decide +kernel
theorem d_Book_eval_8 : decode b_Book_eval 8 = .ok (.getfield 82, 3) := by decide +kernel
theorem d_Book_eval_11 : decode b_Book_eval 11 = .ok (.iload_n 3, 1) := by decide +kernel
theorem d_Book_eval_12 : decode b_Book_eval 12 = .ok (.iaload, 1) := by decide +kernel
theorem d_Book_eval_13 : decode b_Book_eval 13 = .ok (.bipush 7, 2) := by decide +kernel
theorem d_Book_eval_15 : decode b_Book_eval 15 = .ok (.if_icmp .eq (14), 3) := by decide +kernel
theorem d_Book_eval_18 : decode b_Book_eval 18 = .ok (.aload_n 0, 1) := by decide +kernel
theorem d_Book_eval_19 : decode b_Book_eval 19 = .ok (.getfield 82, 3) := by decide +kernel
theorem d_Book_eval_22 : decode b_Book_eval 22 = .ok (.iload_n 3, 1) := by decide +kernel
theorem d_Book_eval_23 : decode b_Book_eval 23 = .ok (.iaload, 1) := by decide +kernel
theorem d_Book_eval_24 : decode b_Book_eval 24 = .ok (.bipush 8, 2) := by decide +kernel
theorem d_Book_eval_26 : decode b_Book_eval 26 = .ok (.if_icmp .ne (33), 3) := by decide +kernel
theorem d_Book_eval_29 : decode b_Book_eval 29 = .ok (.aload_n 0, 1) := by decide +kernel
theorem d_Book_eval_30 : decode b_Book_eval 30 = .ok (.getfield 123, 3) := by decide +kernel
theorem d_Book_eval_33 : decode b_Book_eval 33 = .ok (.aload_n 0, 1) := by decide +kernel
theorem d_Book_eval_34 : decode b_Book_eval 34 = .ok (.getfield 463, 3) := by decide +kernel
theorem d_Book_eval_37 : decode b_Book_eval 37 = .ok (.iload_n 3, 1) := by decide +kernel
theorem d_Book_eval_38 : decode b_Book_eval 38 = .ok (.iastore, 1) := by decide +kernel
theorem d_Book_eval_39 : decode b_Book_eval 39 = .ok (.aload_n 0, 1) := by decide +kernel
theorem d_Book_eval_40 : decode b_Book_eval 40 = .ok (.dup, 1) := by decide +kernel
theorem d_Book_eval_41 : decode b_Book_eval 41 = .ok (.getfield 463, 3) := by decide +kernel
theorem d_Book_eval_44 : decode b_Book_eval 44 = .ok (.iconst 1, 1) := by decide +kernel
theorem d_Book_eval_45 : decode b_Book_eval 45 = .ok (.iadd, 1) := by decide +kernel
theorem d_Book_eval_46 : decode b_Book_eval 46 = .ok (.putfield 463, 3) := by decide +kernel
theorem d_Book_eval_49 : decode b_Book_eval 49 = .ok (.aload_n 0, 1) := by decide +kernel
theorem d_Book_eval_50 : decode b_Book_eval 50 = .ok (.getfield 85, 3) := by decide +kernel
theorem d_Book_eval_53 : decode b_Book_eval 53 = .ok (.iload_n 3, 1) := by decide +kernel
theorem d_Book_eval_54 : decode b_Book_eval 54 = .ok (.iaload, 1) := by decide +kernel
theorem d_Book_eval_55 : decode b_Book_eval 55 = .ok (.istore_n 3, 1) := by decide +kernel
theorem d_Book_eval_56 : decode b_Book_eval 56 = .ok (.goto (-49), 3) := by decide +kernel
theorem d_Book_eval_59 : decode b_Book_eval 59 = .ok (.aload_n 0, 1) := by decide +kernel
theorem d_Book_eval_60 : decode b_Book_eval 60 = .ok (.iload_n 3, 1) := by decide +kernel
theorem d_Book_eval_61 : decode b_Book_eval 61 = .ok (.invokevirtual 466, 3) := by decide +kernel
theorem d_Book_eval_64 : decode b_Book_eval 64 = .ok (.lstore 4, 2) := by decide +kernel
theorem d_Book_eval_66 : decode b_Book_eval 66 = .ok (.aload_n 0, 1) := by decide +kernel
theorem d_Book_eval_67 : decode b_Book_eval 67 = .ok (.getfield 463, 3) := by decide +kernel
theorem d_Book_eval_70 : decode b_Book_eval 70 = .ok (.iload_n 2, 1) := by decide +kernel
theorem d_Book_eval_71 : decode b_Book_eval 71 = .ok (.if_icmp .le (104), 3) := by decide +kernel
theorem d_Book_eval_74 : decode b_Book_eval 74 = .ok (.aload_n 0, 1) := by decide +kernel
theorem d_Book_eval_75 : decode b_Book_eval 75 = .ok (.dup, 1) := by decide +kernel
theorem d_Book_eval_76 : decode b_Book_eval 76 = .ok (.getfield 463, 3) := by decide +kernel
theorem d_Book_eval_79 : decode b_Book_eval 79 = .ok (.iconst 1, 1) := by decide +kernel
theorem d_Book_eval_80 : decode b_Book_eval 80 = .ok (.isub, 1) := by decide +kernel
theorem d_Book_eval_81 : decode b_Book_eval 81 = .ok (.putfield 463, 3) := by decide +kernel
theorem d_Book_eval_84 : decode b_Book_eval 84 = .ok (.aload_n 0, 1) := by decide +kernel
theorem d_Book_eval_85 : decode b_Book_eval 85 = .ok (.getfield 123, 3) := by decide +kernel
theorem d_Book_eval_88 : decode b_Book_eval 88 = .ok (.aload_n 0, 1) := by decide +kernel
theorem d_Book_eval_89 : decode b_Book_eval 89 = .ok (.getfield 463, 3) := by decide +kernel
theorem d_Book_eval_92 : decode b_Book_eval 92 = .ok (.iaload, 1) := by decide +kernel
theorem d_Book_eval_93 : decode b_Book_eval 93 = .ok (.istore_n 3, 1) := by decide +kernel
theorem d_Book_eval_94 : decode b_Book_eval 94 = .ok (.aload_n 0, 1) := by decide +kernel
theorem d_Book_eval_95 : decode b_Book_eval 95 = .ok (.getfield 82, 3) := by decide +kernel
theorem d_Book_eval_98 : decode b_Book_eval 98 = .ok (.iload_n 3, 1) := by decide +kernel
theorem d_Book_eval_99 : decode b_Book_eval 99 = .ok (.iaload, 1) := by decide +kernel
theorem d_Book_eval_100 : decode b_Book_eval 100 = .ok (.bipush 8, 2) := by decide +kernel
theorem d_Book_eval_102 : decode b_Book_eval 102 = .ok (.if_icmp .ne (26), 3) := by decide +kernel
theorem d_Book_eval_105 : decode b_Book_eval 105 = .ok (.lload 4, 2) := by decide +kernel
theorem d_Book_eval_107 : decode b_Book_eval 107 = .ok (.aload_n 0, 1) := by decide +kernel
theorem d_Book_eval_108 : decode b_Book_eval 108 = .ok (.getfield 91, 3) := by decide +kernel
theorem d_Book_eval_111 : decode b_Book_eval 111 = .ok (.iload_n 3, 1) := by decide +kernel
theorem d_Book_eval_112 : decode b_Book_eval 112 = .ok (.iaload, 1) := by decide +kernel
theorem d_Book_eval_113 : decode b_Book_eval 113 = .ok (.lushr, 1) := by decide +kernel
theorem d_Book_eval_114 : decode b_Book_eval 114 = .ok (.aload_n 0, 1) := by decide +kernel
theorem d_Book_eval_115 : decode b_Book_eval 115 = .ok (.getfield 97, 3) := by decide +kernel
theorem d_Book_eval_118 : decode b_Book_eval 118 = .ok (.iload_n 3, 1) := by decide +kernel
theorem d_Book_eval_119 : decode b_Book_eval 119 = .ok (.iaload, 1) := by decide +kernel
theorem d_Book_eval_120 : decode b_Book_eval 120 = .ok (.invokestatic 444, 3) := by decide +kernel
theorem d_Book_eval_123 : decode b_Book_eval 123 = .ok (.lstore 4, 2) := by decide +kernel
theorem d_Book_eval_125 : decode b_Book_eval 125 = .ok (.goto (-59), 3) := by decide +kernel
theorem d_Book_eval_128 : decode b_Book_eval 128 = .ok (.aload_n 0, 1) := by decide +kernel
theorem d_Book_eval_129 : decode b_Book_eval 129 = .ok (.aload_n 0, 1) := by decide +kernel
theorem d_Book_eval_130 : decode b_Book_eval 130 = .ok (.getfield 91, 3) := by decide +kernel
theorem d_Book_eval_133 : decode b_Book_eval 133 = .ok (.iload_n 3, 1) := by decide +kernel
theorem d_Book_eval_134 : decode b_Book_eval 134 = .ok (.iaload, 1) := by decide +kernel
theorem d_Book_eval_135 : decode b_Book_eval 135 = .ok (.lload 4, 2) := by decide +kernel
theorem d_Book_eval_137 : decode b_Book_eval 137 = .ok (.aload_n 0, 1) := by decide +kernel
theorem d_Book_eval_138 : decode b_Book_eval 138 = .ok (.aload_n 0, 1) := by decide +kernel
theorem d_Book_eval_139 : decode b_Book_eval 139 = .ok (.getfield 88, 3) := by decide +kernel
theorem d_Book_eval_142 : decode b_Book_eval 142 = .ok (.iload_n 3, 1) := by decide +kernel
theorem d_Book_eval_143 : decode b_Book_eval 143 = .ok (.iaload, 1) := by decide +kernel
theorem d_Book_eval_144 : decode b_Book_eval 144 = .ok (.invokevirtual 470, 3) := by decide +kernel
theorem d_Book_eval_147 : decode b_Book_eval 147 = .ok (.aload_n 0, 1) := by decide +kernel
theorem d_Book_eval_148 : decode b_Book_eval 148 = .ok (.getfield 97, 3) := by decide +kernel
theorem d_Book_eval_151 : decode b_Book_eval 151 = .ok (.aload_n 0, 1) := by decide +kernel
theorem d_Book_eval_152 : decode b_Book_eval 152 = .ok (.getfield 85, 3) := by decide +kernel
theorem d_Book_eval_155 : decode b_Book_eval 155 = .ok (.iload_n 3, 1) := by decide +kernel
theorem d_Book_eval_156 : decode b_Book_eval 156 = .ok (.iaload, 1) := by decide +kernel
theorem d_Book_eval_157 : decode b_Book_eval 157 = .ok (.iaload, 1) := by decide +kernel
theorem d_Book_eval_158 : decode b_Book_eval 158 = .ok (.invokevirtual 473, 3) := by decide +kernel
theorem d_Book_eval_161 : decode b_Book_eval 161 = .ok (.aload_n 0, 1) := by decide +kernel
theorem d_Book_eval_162 : decode b_Book_eval 162 = .ok (.getfield 97, 3) := by decide +kernel
theorem d_Book_eval_165 : decode b_Book_eval 165 = .ok (.iload_n 3, 1) := by decide +kernel
theorem d_Book_eval_166 : decode b_Book_eval 166 = .ok (.iaload, 1) := by decide +kernel
theorem d_Book_eval_167 : decode b_Book_eval 167 = .ok (.invokestatic 444, 3) := by decide +kernel
theorem d_Book_eval_170 : decode b_Book_eval 170 = .ok (.lstore 4, 2) := by decide +kernel
theorem d_Book_eval_172 : decode b_Book_eval 172 = .ok (.goto (-106), 3) := by decide +kernel
theorem d_Book_eval_175 : decode b_Book_eval 175 = .ok (.lload 4, 2) := by decide +kernel
theorem d_Book_eval_177 : decode b_Book_eval 177 = .ok (.lreturn, 1) := by decide +kernel
set_option maxHeartbeats 4000000 in
set_option maxRecDepth 100000 in
theorem c_Book_eval_x (l : Launch) {dA : FieldType → ClassId} {D : va_G} {al : Nat → Nat} {ext : mv_Sh} {sk sv : Nat → Nat} (hi : mv_inj (mg dA D al ext)) (σ : mv_H) (v9 : Int32) (th n k w sp : Nat) (g : Gh) (q r : Nat) (hv : v9.toInt = q) (hP : EP 74 th n k w sp r g q σ) (ih0 : ∀ j, j + 1 = r → EvE l dA D al ext sk sv 74 j) (hS0 : EvS l dA D al ext sk sv 74 r) : mv_C l y_Book_eval (Cond.code y_Book_eval b_Book_eval 6 (Option.some Jvm.ClassFile.FieldType.long) :: ma) ({ frames := 3 * r + 3, cells := 0, slots := 0, locals := 72 * r + 120 }) (mg dA D al ext) (mK sk sv) [.ref (al 74), .int v9] σ (mv_Rl (fun _ σ1 => EO 74 sp σ σ1)) := by
  refine mv_C.ofV (cc := b_Book_eval) (nL := 6) (ret := (Option.some Jvm.ClassFile.FieldType.long)) (by decide +kernel) rfl hi (Nat.le_of_ble_eq_true rfl) ?_
  intro p e s m below meth c B hNs hr hnm hno
  have hsp := hP.2.1.1
  have lp2 : ∀ (nn : Nat) (τ : mv_H) (c9 : Nat) (u9 : Int64) (hS : ES 74 th n k w sp q r g σ τ c9), c9 < nn → mv_V p l e ({ frames := 3 * r + 3, cells := 0, slots := 0, locals := 72 * r + 120 }) s m ([.ref (al 74), .int v9] : List Value).toArray below meth c (mg dA D al ext) 6 0 0 (mv_Q (mg dA D al ext) below s 0 0 (mv_Rl (fun _ σ1 => EO 74 sp σ σ1))) τ 66 [(4, .long u9), (0, .ref (al 74)), (2, .int (mv_i σ 74 62))] [] := by
    intro nn
    induction nn with
    | zero => intro τ c9 u9 hS hm; exact absurd hm (Nat.not_lt_zero _)
    | succ nn ih =>
      intro τ c9 u9 hS hm
      refine mv_aload_n (pc := 66) B d_Book_eval_66 rfl 1 rfl ?_
      refine mv_getI (pc := 67) (ci := 12) (C := R_Book) (T := F_Book) (N := 65) B 62 rfl rfl (by decide) i_Book (B.2.2.2.1 _ k_1911) rfl d_Book_eval_67 ?_
      refine mv_iload_n (pc := 70) B d_Book_eval_70 rfl 2 rfl ?_
      refine mv_icmp_le (pc := 71) (tgt := 175) B d_Book_eval_71 rfl (fun h71 => ?_) (fun h71 => ?_)
      · skip
        have hc0 : c9 = 0 := by
          have z1 : (mv_i τ 74 62).toInt ≤ (mv_i σ 74 62).toInt := Int32.le_iff_toInt_le.mp h71
          rw [hS.2.2.1, hsp] at z1
          omega
        subst hc0
        refine mv_lload (pc := 175) B d_Book_eval_175 0 rfl ?_
        exact mv_lret (pc := 177) B hr d_Book_eval_177 (Nat.le_refl _) (Nat.le_refl _) ⟨_, rfl, hS.eo hsp⟩
      · skip
        obtain ⟨c8, rfl⟩ : ∃ c8, c9 = c8 + 1 := Nat.exists_eq_succ_of_ne_zero (fun z => h71 (Int32.le_iff_toInt_le.mpr (by rw [hS.2.2.1, hsp, z]; exact Int.le_refl _)))
        refine mv_aload_n (pc := 74) B d_Book_eval_74 rfl 1 rfl ?_
        refine mv_dup (pc := 75) B d_Book_eval_75 rfl ?_
        refine mv_getI (pc := 76) (ci := 12) (C := R_Book) (T := F_Book) (N := 65) B 62 rfl rfl (by decide) i_Book (B.2.2.2.1 _ k_1911) rfl d_Book_eval_76 ?_
        refine mv_iconst (pc := 79) (v := 1) B d_Book_eval_79 (by decide) ?_
        refine mv_isub (pc := 80) B d_Book_eval_80 ?_
        refine mv_putI (pc := 81) (ci := 12) (C := R_Book) (T := F_Book) (N := 65) B 62 rfl rfl (by decide) i_Book t_Book_ok n_Book (B.2.2.2.1 _ k_1911) rfl rfl rfl rfl d_Book_eval_81 ?_
        refine mv_gen (fun S84 eS84 => ?_)
        obtain ⟨u8, hu1, hu2, hu3, hu4, hS⟩ := hS.pop (T := S84) eS84
        have hs1 := hS.2.2.2.2.1
        clear eS84
        refine mv_aload_n (pc := 84) B d_Book_eval_84 rfl 1 rfl ?_
        refine mv_getR (pc := 85) (ci := 12) (C := R_Book) (T := F_Book) (N := 65) B 59 rfl rfl (by decide) i_Book (B.2.2.2.1 _ k_1908) rfl (hS.2.1.1.1 _ 59 _ rfl) d_Book_eval_85 ?_
        refine mv_aload_n (pc := 88) B d_Book_eval_88 rfl 1 rfl ?_
        refine mv_getI (pc := 89) (ci := 12) (C := R_Book) (T := F_Book) (N := 65) B 62 rfl rfl (by decide) i_Book (B.2.2.2.1 _ k_1911) rfl d_Book_eval_89 ?_
        refine mv_iald (pc := 92) B rfl (i32_in (x := mv_i S84 74 62) (by have := hS.2.2.1; omega) (by have := hS.2.2.1; omega)) d_Book_eval_92 ?_
        refine mv_topi (fun n8 en8 => ?_)
        have hu1 : n8.toInt = u8 := by rw [en8]; exact hu1
        clear en8
        have hc8 : n8.toNatClampNeg = u8 := by have := i32_cl (x := n8) (by omega); omega
        refine mv_istore_n (pc := 93) B d_Book_eval_93 rfl (by decide) rfl ?_
        refine mv_aload_n (pc := 94) B d_Book_eval_94 rfl 2 rfl ?_
        refine mv_getR (pc := 95) (ci := 12) (C := R_Book) (T := F_Book) (N := 65) B 40 rfl rfl (by decide) i_Book (B.2.2.2.1 _ k_1889) rfl (hS.2.1.1.1 _ 40 _ rfl) d_Book_eval_95 ?_
        refine mv_iload_n (pc := 98) B d_Book_eval_98 rfl 0 rfl ?_
        refine mv_iald (pc := 99) B rfl (i32_in (show 0 ≤ n8.toInt by omega) (show n8.toInt < 33000 by omega)) d_Book_eval_99 ?_
        refine mv_bipush (pc := 100) (v := 8) B d_Book_eval_100 (by decide) ?_
        refine mv_icmp_ne (pc := 102) (tgt := 128) B d_Book_eval_102 rfl (fun h102 => ?_) (fun h102 => ?_)
        · skip
          have hs7 : nS 74 S84 u8 = 7 := hu3.resolve_right (fun z => h102 (by rw [hc8]; exact Int32.toInt_inj.mp z))
          have hPu := hS.ep hu2 (by omega) hu4
          obtain ⟨⟨ma, ea, -, la, -, -⟩, hxb⟩ := hPu.x.2.2.2.2.2.1 hs7
          obtain ⟨mb, eb, lb, rb, pb⟩ := hPu.child hxb
          have eb : (mv_a S84 94 n8.toNatClampNeg).toInt = mb := by rw [hc8]; exact eb
          have ea : (mv_a S84 93 n8.toNatClampNeg).toInt = ma := by rw [hc8]; exact ea
          refine mv_aload_n (pc := 128) B d_Book_eval_128 rfl 2 rfl ?_
          refine mv_aload_n (pc := 129) B d_Book_eval_129 rfl 2 rfl ?_
          refine mv_getR (pc := 130) (ci := 12) (C := R_Book) (T := F_Book) (N := 65) B 43 rfl rfl (by decide) i_Book (B.2.2.2.1 _ k_1892) rfl (hS.2.1.1.1 _ 43 _ rfl) d_Book_eval_130 ?_
          refine mv_iload_n (pc := 133) B d_Book_eval_133 rfl 0 rfl ?_
          refine mv_iald (pc := 134) B rfl (i32_in (show 0 ≤ n8.toInt by omega) (show n8.toInt < 33000 by omega)) d_Book_eval_134 ?_
          refine mv_lload (pc := 135) B d_Book_eval_135 1 rfl ?_
          refine mv_aload_n (pc := 137) B d_Book_eval_137 rfl 2 rfl ?_
          refine mv_aload_n (pc := 138) B d_Book_eval_138 rfl 2 rfl ?_
          refine mv_getR (pc := 139) (ci := 12) (C := R_Book) (T := F_Book) (N := 65) B 42 rfl rfl (by decide) i_Book (B.2.2.2.1 _ k_1891) rfl (hS.2.1.1.1 _ 42 _ rfl) d_Book_eval_139 ?_
          refine mv_iload_n (pc := 142) B d_Book_eval_142 rfl 0 rfl ?_
          refine mv_iald (pc := 143) B rfl (i32_in (show 0 ≤ n8.toInt by omega) (show n8.toInt < 33000 by omega)) d_Book_eval_143 ?_
          refine mv_callVl (pc := 144) (n := 1) (ci := 12) (C := R_Book) B (mK_ok sk sv) hNs rfl rfl (ih0 (r - 1) rb _ _ th n k w (sp + c8) g mb eb pb) rfl (ma_goodc kc_Book_eval) (B.2.2.2.1 _ k_2500) (B.2.2.2.1 _ k_2502) (B.2.2.2.1 _ ks_131) (B.2.2.2.1 _ k_13) ⟨by decide +kernel, by decide +kernel, by decide +kernel⟩ rfl d_Book_eval_144 rfl (Nat.le_of_ble_eq_true rfl) ⟨by first | decide | (dsimp only; omega), by first | decide | (dsimp only; omega)⟩ ⟨Nat.le_refl _, Nat.le_refl _⟩ ⟨Nat.le_refl _, Nat.le_refl _⟩ (mv_noH hno _) (fun v144 σ144 h144 => ?_)
          have hS := hS.mv h144
          have eA : mv_a σ144 93 n8.toNatClampNeg = mv_a S84 93 n8.toNatClampNeg := h144.1.nd (by omega)
          refine mv_aload_n (pc := 147) B d_Book_eval_147 rfl 2 rfl ?_
          refine mv_getR (pc := 148) (ci := 12) (C := R_Book) (T := F_Book) (N := 65) B 45 rfl rfl (by decide) i_Book (B.2.2.2.1 _ k_1894) rfl (hS.2.1.1.1 _ 45 _ rfl) d_Book_eval_148 ?_
          refine mv_aload_n (pc := 151) B d_Book_eval_151 rfl 2 rfl ?_
          refine mv_getR (pc := 152) (ci := 12) (C := R_Book) (T := F_Book) (N := 65) B 41 rfl rfl (by decide) i_Book (B.2.2.2.1 _ k_1890) rfl (hS.2.1.1.1 _ 41 _ rfl) d_Book_eval_152 ?_
          refine mv_iload_n (pc := 155) B d_Book_eval_155 rfl 0 rfl ?_
          refine mv_iald (pc := 156) B rfl (i32_in (show 0 ≤ n8.toInt by omega) (show n8.toInt < 33000 by omega)) d_Book_eval_156 ?_
          refine mv_iald (pc := 157) B rfl (i32_in (by rw [eA]; omega) (by rw [eA]; omega)) d_Book_eval_157 ?_
          refine mv_callVl (pc := 158) (n := 4) (ci := 12) (C := R_Book) B (mK_ok sk sv) hNs rfl rfl (c_Book_apply_x l hi _ _ _ _ _) rfl (ma_goodc kc_Book_apply) (B.2.2.2.1 _ k_2528) (B.2.2.2.1 _ k_2530) (B.2.2.2.1 _ ks_136) (B.2.2.2.1 _ k_13) ⟨by decide +kernel, by decide +kernel, by decide +kernel⟩ rfl d_Book_eval_158 rfl (Nat.le_of_ble_eq_true rfl) ⟨by first | decide | (dsimp only; omega), by first | decide | (dsimp only; omega)⟩ ⟨Nat.le_refl _, Nat.le_refl _⟩ ⟨Nat.le_refl _, Nat.le_refl _⟩ (mv_noH hno _) (fun v158 σ158 h158 => ?_)
          have e158 := h158.symm
          subst e158
          refine mv_aload_n (pc := 161) B d_Book_eval_161 rfl 2 rfl ?_
          refine mv_getR (pc := 162) (ci := 12) (C := R_Book) (T := F_Book) (N := 65) B 45 rfl rfl (by decide) i_Book (B.2.2.2.1 _ k_1894) rfl (hS.2.1.1.1 _ 45 _ rfl) d_Book_eval_162 ?_
          refine mv_iload_n (pc := 165) B d_Book_eval_165 rfl 0 rfl ?_
          refine mv_iald (pc := 166) B rfl (i32_in (show 0 ≤ n8.toInt by omega) (show n8.toInt < 33000 by omega)) d_Book_eval_166 ?_
          refine mv_callSl (pc := 167) (n := 2) B (mK_ok sk sv) hNs (c_Book_cut l hi _ _ _) rfl (ma_goodc kc_Book_cut) (B.2.2.2.1 _ k_2427) (B.2.2.2.1 _ k_2428) (B.2.2.2.1 _ k_13) ⟨by decide +kernel, by decide +kernel, by decide +kernel⟩ rfl d_Book_eval_167 rfl (Nat.le_of_ble_eq_true rfl) ⟨by first | decide | (dsimp only; omega), by first | decide | (dsimp only; omega)⟩ ⟨Nat.le_refl _, Nat.le_refl _⟩ ⟨Nat.le_refl _, Nat.le_refl _⟩ (mv_noH hno _) (fun v167 σ167 h167 => ?_)
          have e167 := h167.symm
          subst e167
          refine mv_lstore (pc := 170) B d_Book_eval_170 (by decide) rfl ?_
          refine mv_goto (pc := 172) (tgt := 66) B d_Book_eval_172 rfl ?_
          refine mv_lpick [0, 2, 3] rfl ?_
          exact ih _ _ _ hS (by omega)
        · skip
          refine mv_lload (pc := 105) B d_Book_eval_105 1 rfl ?_
          refine mv_aload_n (pc := 107) B d_Book_eval_107 rfl 2 rfl ?_
          refine mv_getR (pc := 108) (ci := 12) (C := R_Book) (T := F_Book) (N := 65) B 43 rfl rfl (by decide) i_Book (B.2.2.2.1 _ k_1892) rfl (hS.2.1.1.1 _ 43 _ rfl) d_Book_eval_108 ?_
          refine mv_iload_n (pc := 111) B d_Book_eval_111 rfl 0 rfl ?_
          refine mv_iald (pc := 112) B rfl (i32_in (show 0 ≤ n8.toInt by omega) (show n8.toInt < 33000 by omega)) d_Book_eval_112 ?_
          refine mv_lushr (pc := 113) B d_Book_eval_113 ?_
          refine mv_aload_n (pc := 114) B d_Book_eval_114 rfl 2 rfl ?_
          refine mv_getR (pc := 115) (ci := 12) (C := R_Book) (T := F_Book) (N := 65) B 45 rfl rfl (by decide) i_Book (B.2.2.2.1 _ k_1894) rfl (hS.2.1.1.1 _ 45 _ rfl) d_Book_eval_115 ?_
          refine mv_iload_n (pc := 118) B d_Book_eval_118 rfl 0 rfl ?_
          refine mv_iald (pc := 119) B rfl (i32_in (show 0 ≤ n8.toInt by omega) (show n8.toInt < 33000 by omega)) d_Book_eval_119 ?_
          refine mv_callSl (pc := 120) (n := 2) B (mK_ok sk sv) hNs (c_Book_cut l hi _ _ _) rfl (ma_goodc kc_Book_cut) (B.2.2.2.1 _ k_2427) (B.2.2.2.1 _ k_2428) (B.2.2.2.1 _ k_13) ⟨by decide +kernel, by decide +kernel, by decide +kernel⟩ rfl d_Book_eval_120 rfl (Nat.le_of_ble_eq_true rfl) ⟨by first | decide | (dsimp only; omega), by first | decide | (dsimp only; omega)⟩ ⟨Nat.le_refl _, Nat.le_refl _⟩ ⟨Nat.le_refl _, Nat.le_refl _⟩ (mv_noH hno _) (fun v120 σ120 h120 => ?_)
          have e120 := h120.symm
          subst e120
          refine mv_lstore (pc := 123) B d_Book_eval_123 (by decide) rfl ?_
          refine mv_goto (pc := 125) (tgt := 66) B d_Book_eval_125 rfl ?_
          refine mv_lpick [0, 2, 3] rfl ?_
          exact ih _ _ _ hS (by omega)
  have lp1 : ∀ (nn : Nat) (τ : mv_H) (c9 : Nat) (m9 : Nat) (x9 : Int32) (hS : ES 74 th n k w sp q r g σ τ c9) (hx9 : x9.toInt = m9) (hmc : m9 + c9 ≤ q) (hms : nS 74 τ m9 ≤ 12) (hmr : g.1 m9 ≤ r), m9 < nn → mv_V p l e ({ frames := 3 * r + 3, cells := 0, slots := 0, locals := 72 * r + 120 }) s m ([.ref (al 74), .int v9] : List Value).toArray below meth c (mg dA D al ext) 6 0 0 (mv_Q (mg dA D al ext) below s 0 0 (mv_Rl (fun _ σ1 => EO 74 sp σ σ1))) τ 7 [(3, .int x9), (0, .ref (al 74)), (1, .int v9), (2, .int (mv_i σ 74 62))] [] := by
    intro nn
    induction nn with
    | zero => intro τ c9 m9 x9 hS hx9 hmc hms hmr hm; exact absurd hm (Nat.not_lt_zero _)
    | succ nn ih =>
      intro τ c9 m9 x9 hS hx9 hmc hms hmr hm
      have hE1 := hS.2.2.2.2.1
      have hE2 := hS.2.2.2.2.2
      have hcx : x9.toNatClampNeg = m9 := by have := i32_cl (x := x9) (by omega); omega
      have j29 : ∀  (hs : nS 74 τ m9 = 7 ∨ nS 74 τ m9 = 8), mv_V p l e ({ frames := 3 * r + 3, cells := 0, slots := 0, locals := 72 * r + 120 }) s m ([.ref (al 74), .int v9] : List Value).toArray below meth c (mg dA D al ext) 6 0 0 (mv_Q (mg dA D al ext) below s 0 0 (mv_Rl (fun _ σ1 => EO 74 sp σ σ1))) τ 29 [(3, .int x9), (0, .ref (al 74)), (1, .int v9), (2, .int (mv_i σ 74 62))] [] := by
        intro hs
        refine mv_aload_n (pc := 29) B d_Book_eval_29 rfl 1 rfl ?_
        refine mv_getR (pc := 30) (ci := 12) (C := R_Book) (T := F_Book) (N := 65) B 59 rfl rfl (by decide) i_Book (B.2.2.2.1 _ k_1908) rfl (hS.2.1.1.1 _ 59 _ rfl) d_Book_eval_30 ?_
        refine mv_aload_n (pc := 33) B d_Book_eval_33 rfl 1 rfl ?_
        refine mv_getI (pc := 34) (ci := 12) (C := R_Book) (T := F_Book) (N := 65) B 62 rfl rfl (by decide) i_Book (B.2.2.2.1 _ k_1911) rfl d_Book_eval_34 ?_
        refine mv_iload_n (pc := 37) B d_Book_eval_37 rfl 0 rfl ?_
        refine mv_iast (pc := 38) B rfl (i32_in (x := mv_i τ 74 62) (by have := hS.2.2.1; omega) (by have := hS.2.2.1; omega)) d_Book_eval_38 ?_
        refine mv_aload_n (pc := 39) B d_Book_eval_39 rfl 1 rfl ?_
        refine mv_dup (pc := 40) B d_Book_eval_40 rfl ?_
        refine mv_getI (pc := 41) (ci := 12) (C := R_Book) (T := F_Book) (N := 65) B 62 rfl rfl (by decide) i_Book (B.2.2.2.1 _ k_1911) rfl d_Book_eval_41 ?_
        refine mv_iconst (pc := 44) (v := 1) B d_Book_eval_44 (by decide) ?_
        refine mv_iadd (pc := 45) B d_Book_eval_45 ?_
        refine mv_putI (pc := 46) (ci := 12) (C := R_Book) (T := F_Book) (N := 65) B 62 rfl rfl (by decide) i_Book t_Book_ok n_Book (B.2.2.2.1 _ k_1911) rfl rfl rfl rfl d_Book_eval_46 ?_
        refine mv_gen (fun S49 eS49 => ?_)
        have hP0 := hS.ep hmc (by omega) hmr
        have hx0 : XC 74 τ g.1 0 m9 (g.1 m9 + 1) (mv_a τ 93 m9) := by
          rcases hs with z | z
          · exact (hP0.x.2.2.2.2.2.1 z).1
          · exact hP0.x.2.2.2.2.2.2.1 z
        obtain ⟨m8, e8, -, l8, r8, s8⟩ := hx0
        have hS := hS.push hmc hs hmr hx9 eS49
        have e9 : ∀ o j, ¬ o = 105 → mv_a S49 o j = mv_a τ o j := fun o j z => by
          rw [eS49]
          exact mv_u_ne _ _ (fun y => z y.1)
        clear eS49
        refine mv_aload_n (pc := 49) B d_Book_eval_49 rfl 1 rfl ?_
        refine mv_getR (pc := 50) (ci := 12) (C := R_Book) (T := F_Book) (N := 65) B 41 rfl rfl (by decide) i_Book (B.2.2.2.1 _ k_1890) rfl (hS.2.1.1.1 _ 41 _ rfl) d_Book_eval_50 ?_
        refine mv_iload_n (pc := 53) B d_Book_eval_53 rfl 0 rfl ?_
        refine mv_iald (pc := 54) B rfl (i32_in (show 0 ≤ x9.toInt by omega) (show x9.toInt < 33000 by omega)) d_Book_eval_54 ?_
        refine mv_istore_n (pc := 55) B d_Book_eval_55 rfl (by decide) rfl ?_
        refine mv_goto (pc := 56) (tgt := 7) B d_Book_eval_56 rfl ?_
        refine mv_lpick [0, 1, 2, 3] rfl ?_
        exact ih _ _ _ _ hS (by rw [e9 _ _ (by omega), hcx]; exact e8) (by omega) (by show (mv_a S49 92 m8).toInt ≤ 12; rw [e9 _ _ (by omega)]; exact s8) (by omega) (by omega)
      refine mv_aload_n (pc := 7) B d_Book_eval_7 rfl 1 rfl ?_
      refine mv_getR (pc := 8) (ci := 12) (C := R_Book) (T := F_Book) (N := 65) B 40 rfl rfl (by decide) i_Book (B.2.2.2.1 _ k_1889) rfl (hS.2.1.1.1 _ 40 _ rfl) d_Book_eval_8 ?_
      refine mv_iload_n (pc := 11) B d_Book_eval_11 rfl 0 rfl ?_
      refine mv_iald (pc := 12) B rfl (i32_in (show 0 ≤ x9.toInt by omega) (show x9.toInt < 33000 by omega)) d_Book_eval_12 ?_
      refine mv_bipush (pc := 13) (v := 7) B d_Book_eval_13 (by decide) ?_
      refine mv_icmp_eq (pc := 15) (tgt := 29) B d_Book_eval_15 rfl (fun h15 => ?_) (fun h15 => ?_)
      · skip
        have hs : nS 74 τ m9 = 7 ∨ nS 74 τ m9 = 8 := Or.inl (by have z : mv_a τ 92 x9.toNatClampNeg = 7 := h15; rw [hcx] at z; show (mv_a τ 92 m9).toInt = 7; rw [z]; rfl)
        refine mv_lpick [0, 1, 2, 3] rfl ?_
        exact j29 hs
      · skip
        refine mv_aload_n (pc := 18) B d_Book_eval_18 rfl 1 rfl ?_
        refine mv_getR (pc := 19) (ci := 12) (C := R_Book) (T := F_Book) (N := 65) B 40 rfl rfl (by decide) i_Book (B.2.2.2.1 _ k_1889) rfl (hS.2.1.1.1 _ 40 _ rfl) d_Book_eval_19 ?_
        refine mv_iload_n (pc := 22) B d_Book_eval_22 rfl 0 rfl ?_
        refine mv_iald (pc := 23) B rfl (i32_in (show 0 ≤ x9.toInt by omega) (show x9.toInt < 33000 by omega)) d_Book_eval_23 ?_
        refine mv_bipush (pc := 24) (v := 8) B d_Book_eval_24 (by decide) ?_
        refine mv_icmp_ne (pc := 26) (tgt := 59) B d_Book_eval_26 rfl (fun h26 => ?_) (fun h26 => ?_)
        · skip
          have n7 : ¬ nS 74 τ m9 = 7 := fun z => h15 (by rw [hcx]; exact Int32.toInt_inj.mp z)
          have n8 : ¬ nS 74 τ m9 = 8 := fun z => h26 (by rw [hcx]; exact Int32.toInt_inj.mp z)
          refine mv_aload_n (pc := 59) B d_Book_eval_59 rfl 1 rfl ?_
          refine mv_iload_n (pc := 60) B d_Book_eval_60 rfl 0 rfl ?_
          refine mv_callVl (pc := 61) (n := 1) (ci := 12) (C := R_Book) B (mK_ok sk sv) hNs rfl rfl (hS0 _ _ th n k w (sp + c9) g m9 hx9 (hS.ep hmc (by omega) hmr) n7 n8) rfl (ma_goodc kc_Book_simple) (B.2.2.2.1 _ k_2504) (B.2.2.2.1 _ k_2506) (B.2.2.2.1 _ ks_132) (B.2.2.2.1 _ k_13) ⟨by decide +kernel, by decide +kernel, by decide +kernel⟩ rfl d_Book_eval_61 rfl (Nat.le_of_ble_eq_true rfl) ⟨by first | decide | (dsimp only; omega), by first | decide | (dsimp only; omega)⟩ ⟨Nat.le_refl _, Nat.le_refl _⟩ ⟨Nat.le_refl _, Nat.le_refl _⟩ (mv_noH hno _) (fun v61 σ61 h61 => ?_)
          refine mv_lstore (pc := 64) B d_Book_eval_64 (by decide) rfl ?_
          refine mv_lpick [0, 2, 4] rfl ?_
          exact lp2 _ _ _ _ (hS.mv h61) (Nat.lt_succ_self _)
        · skip
          have hs : nS 74 τ m9 = 7 ∨ nS 74 τ m9 = 8 := Or.inr (by have z : mv_a τ 92 x9.toNatClampNeg = 8 := h26; rw [hcx] at z; show (mv_a τ 92 m9).toInt = 8; rw [z]; rfl)
          refine mv_lpick [0, 1, 2, 3] rfl ?_
          exact j29 hs
  refine mv_aload_n (pc := 0) B d_Book_eval_0 rfl 0 rfl ?_
  refine mv_getI (pc := 1) (ci := 12) (C := R_Book) (T := F_Book) (N := 65) B 62 rfl rfl (by decide) i_Book (B.2.2.2.1 _ k_1911) rfl d_Book_eval_1 ?_
  refine mv_istore_n (pc := 4) B d_Book_eval_4 rfl (by decide) rfl ?_
  refine mv_iload_n (pc := 5) B d_Book_eval_5 rfl 2 rfl ?_
  refine mv_istore_n (pc := 6) B d_Book_eval_6 rfl (by decide) rfl ?_
  refine mv_lpick [0, 2, 3, 1] rfl ?_
  exact lp1 _ _ _ _ _ (ES.rf hP) hv (by omega) hP.2.2.2.1 hP.2.2.2.2 (Nat.lt_succ_self _)
set_option maxHeartbeats 4000000 in
set_option maxRecDepth 100000 in
theorem c_Book_eval_y (l : Launch) {dA : FieldType → ClassId} {D : va_G} {al : Nat → Nat} {ext : mv_Sh} {sk sv : Nat → Nat} (hi : mv_inj (mg dA D al ext)) (σ : mv_H) (v9 : Int32) (th n k w sp : Nat) (g : Gh) (q r : Nat) (hv : v9.toInt = q) (hP : EP 108 th n k w sp r g q σ) (ih0 : ∀ j, j + 1 = r → EvE l dA D al ext sk sv 108 j) (hS0 : EvS l dA D al ext sk sv 108 r) : mv_C l y_Book_eval (Cond.code y_Book_eval b_Book_eval 6 (Option.some Jvm.ClassFile.FieldType.long) :: ma) ({ frames := 3 * r + 3, cells := 0, slots := 0, locals := 72 * r + 120 }) (mg dA D al ext) (mK sk sv) [.ref (al 108), .int v9] σ (mv_Rl (fun _ σ1 => EO 108 sp σ σ1)) := by
  refine mv_C.ofV (cc := b_Book_eval) (nL := 6) (ret := (Option.some Jvm.ClassFile.FieldType.long)) (by decide +kernel) rfl hi (Nat.le_of_ble_eq_true rfl) ?_
  intro p e s m below meth c B hNs hr hnm hno
  have hsp := hP.2.1.1
  have lp2 : ∀ (nn : Nat) (τ : mv_H) (c9 : Nat) (u9 : Int64) (hS : ES 108 th n k w sp q r g σ τ c9), c9 < nn → mv_V p l e ({ frames := 3 * r + 3, cells := 0, slots := 0, locals := 72 * r + 120 }) s m ([.ref (al 108), .int v9] : List Value).toArray below meth c (mg dA D al ext) 6 0 0 (mv_Q (mg dA D al ext) below s 0 0 (mv_Rl (fun _ σ1 => EO 108 sp σ σ1))) τ 66 [(4, .long u9), (0, .ref (al 108)), (2, .int (mv_i σ 108 62))] [] := by
    intro nn
    induction nn with
    | zero => intro τ c9 u9 hS hm; exact absurd hm (Nat.not_lt_zero _)
    | succ nn ih =>
      intro τ c9 u9 hS hm
      refine mv_aload_n (pc := 66) B d_Book_eval_66 rfl 1 rfl ?_
      refine mv_getI (pc := 67) (ci := 12) (C := R_Book) (T := F_Book) (N := 65) B 62 rfl rfl (by decide) i_Book (B.2.2.2.1 _ k_1911) rfl d_Book_eval_67 ?_
      refine mv_iload_n (pc := 70) B d_Book_eval_70 rfl 2 rfl ?_
      refine mv_icmp_le (pc := 71) (tgt := 175) B d_Book_eval_71 rfl (fun h71 => ?_) (fun h71 => ?_)
      · skip
        have hc0 : c9 = 0 := by
          have z1 : (mv_i τ 108 62).toInt ≤ (mv_i σ 108 62).toInt := Int32.le_iff_toInt_le.mp h71
          rw [hS.2.2.1, hsp] at z1
          omega
        subst hc0
        refine mv_lload (pc := 175) B d_Book_eval_175 0 rfl ?_
        exact mv_lret (pc := 177) B hr d_Book_eval_177 (Nat.le_refl _) (Nat.le_refl _) ⟨_, rfl, hS.eo hsp⟩
      · skip
        obtain ⟨c8, rfl⟩ : ∃ c8, c9 = c8 + 1 := Nat.exists_eq_succ_of_ne_zero (fun z => h71 (Int32.le_iff_toInt_le.mpr (by rw [hS.2.2.1, hsp, z]; exact Int.le_refl _)))
        refine mv_aload_n (pc := 74) B d_Book_eval_74 rfl 1 rfl ?_
        refine mv_dup (pc := 75) B d_Book_eval_75 rfl ?_
        refine mv_getI (pc := 76) (ci := 12) (C := R_Book) (T := F_Book) (N := 65) B 62 rfl rfl (by decide) i_Book (B.2.2.2.1 _ k_1911) rfl d_Book_eval_76 ?_
        refine mv_iconst (pc := 79) (v := 1) B d_Book_eval_79 (by decide) ?_
        refine mv_isub (pc := 80) B d_Book_eval_80 ?_
        refine mv_putI (pc := 81) (ci := 12) (C := R_Book) (T := F_Book) (N := 65) B 62 rfl rfl (by decide) i_Book t_Book_ok n_Book (B.2.2.2.1 _ k_1911) rfl rfl rfl rfl d_Book_eval_81 ?_
        refine mv_gen (fun S84 eS84 => ?_)
        obtain ⟨u8, hu1, hu2, hu3, hu4, hS⟩ := hS.pop (T := S84) eS84
        have hs1 := hS.2.2.2.2.1
        clear eS84
        refine mv_aload_n (pc := 84) B d_Book_eval_84 rfl 1 rfl ?_
        refine mv_getR (pc := 85) (ci := 12) (C := R_Book) (T := F_Book) (N := 65) B 59 rfl rfl (by decide) i_Book (B.2.2.2.1 _ k_1908) rfl (hS.2.1.1.1 _ 59 _ rfl) d_Book_eval_85 ?_
        refine mv_aload_n (pc := 88) B d_Book_eval_88 rfl 1 rfl ?_
        refine mv_getI (pc := 89) (ci := 12) (C := R_Book) (T := F_Book) (N := 65) B 62 rfl rfl (by decide) i_Book (B.2.2.2.1 _ k_1911) rfl d_Book_eval_89 ?_
        refine mv_iald (pc := 92) B rfl (i32_in (x := mv_i S84 108 62) (by have := hS.2.2.1; omega) (by have := hS.2.2.1; omega)) d_Book_eval_92 ?_
        refine mv_topi (fun n8 en8 => ?_)
        have hu1 : n8.toInt = u8 := by rw [en8]; exact hu1
        clear en8
        have hc8 : n8.toNatClampNeg = u8 := by have := i32_cl (x := n8) (by omega); omega
        refine mv_istore_n (pc := 93) B d_Book_eval_93 rfl (by decide) rfl ?_
        refine mv_aload_n (pc := 94) B d_Book_eval_94 rfl 2 rfl ?_
        refine mv_getR (pc := 95) (ci := 12) (C := R_Book) (T := F_Book) (N := 65) B 40 rfl rfl (by decide) i_Book (B.2.2.2.1 _ k_1889) rfl (hS.2.1.1.1 _ 40 _ rfl) d_Book_eval_95 ?_
        refine mv_iload_n (pc := 98) B d_Book_eval_98 rfl 0 rfl ?_
        refine mv_iald (pc := 99) B rfl (i32_in (show 0 ≤ n8.toInt by omega) (show n8.toInt < 33000 by omega)) d_Book_eval_99 ?_
        refine mv_bipush (pc := 100) (v := 8) B d_Book_eval_100 (by decide) ?_
        refine mv_icmp_ne (pc := 102) (tgt := 128) B d_Book_eval_102 rfl (fun h102 => ?_) (fun h102 => ?_)
        · skip
          have hs7 : nS 108 S84 u8 = 7 := hu3.resolve_right (fun z => h102 (by rw [hc8]; exact Int32.toInt_inj.mp z))
          have hPu := hS.ep hu2 (by omega) hu4
          obtain ⟨⟨ma, ea, -, la, -, -⟩, hxb⟩ := hPu.x.2.2.2.2.2.1 hs7
          obtain ⟨mb, eb, lb, rb, pb⟩ := hPu.child hxb
          have eb : (mv_a S84 128 n8.toNatClampNeg).toInt = mb := by rw [hc8]; exact eb
          have ea : (mv_a S84 127 n8.toNatClampNeg).toInt = ma := by rw [hc8]; exact ea
          refine mv_aload_n (pc := 128) B d_Book_eval_128 rfl 2 rfl ?_
          refine mv_aload_n (pc := 129) B d_Book_eval_129 rfl 2 rfl ?_
          refine mv_getR (pc := 130) (ci := 12) (C := R_Book) (T := F_Book) (N := 65) B 43 rfl rfl (by decide) i_Book (B.2.2.2.1 _ k_1892) rfl (hS.2.1.1.1 _ 43 _ rfl) d_Book_eval_130 ?_
          refine mv_iload_n (pc := 133) B d_Book_eval_133 rfl 0 rfl ?_
          refine mv_iald (pc := 134) B rfl (i32_in (show 0 ≤ n8.toInt by omega) (show n8.toInt < 33000 by omega)) d_Book_eval_134 ?_
          refine mv_lload (pc := 135) B d_Book_eval_135 1 rfl ?_
          refine mv_aload_n (pc := 137) B d_Book_eval_137 rfl 2 rfl ?_
          refine mv_aload_n (pc := 138) B d_Book_eval_138 rfl 2 rfl ?_
          refine mv_getR (pc := 139) (ci := 12) (C := R_Book) (T := F_Book) (N := 65) B 42 rfl rfl (by decide) i_Book (B.2.2.2.1 _ k_1891) rfl (hS.2.1.1.1 _ 42 _ rfl) d_Book_eval_139 ?_
          refine mv_iload_n (pc := 142) B d_Book_eval_142 rfl 0 rfl ?_
          refine mv_iald (pc := 143) B rfl (i32_in (show 0 ≤ n8.toInt by omega) (show n8.toInt < 33000 by omega)) d_Book_eval_143 ?_
          refine mv_callVl (pc := 144) (n := 1) (ci := 12) (C := R_Book) B (mK_ok sk sv) hNs rfl rfl (ih0 (r - 1) rb _ _ th n k w (sp + c8) g mb eb pb) rfl (ma_goodc kc_Book_eval) (B.2.2.2.1 _ k_2500) (B.2.2.2.1 _ k_2502) (B.2.2.2.1 _ ks_131) (B.2.2.2.1 _ k_13) ⟨by decide +kernel, by decide +kernel, by decide +kernel⟩ rfl d_Book_eval_144 rfl (Nat.le_of_ble_eq_true rfl) ⟨by first | decide | (dsimp only; omega), by first | decide | (dsimp only; omega)⟩ ⟨Nat.le_refl _, Nat.le_refl _⟩ ⟨Nat.le_refl _, Nat.le_refl _⟩ (mv_noH hno _) (fun v144 σ144 h144 => ?_)
          have hS := hS.mv h144
          have eA : mv_a σ144 127 n8.toNatClampNeg = mv_a S84 127 n8.toNatClampNeg := h144.1.nd (by omega)
          refine mv_aload_n (pc := 147) B d_Book_eval_147 rfl 2 rfl ?_
          refine mv_getR (pc := 148) (ci := 12) (C := R_Book) (T := F_Book) (N := 65) B 45 rfl rfl (by decide) i_Book (B.2.2.2.1 _ k_1894) rfl (hS.2.1.1.1 _ 45 _ rfl) d_Book_eval_148 ?_
          refine mv_aload_n (pc := 151) B d_Book_eval_151 rfl 2 rfl ?_
          refine mv_getR (pc := 152) (ci := 12) (C := R_Book) (T := F_Book) (N := 65) B 41 rfl rfl (by decide) i_Book (B.2.2.2.1 _ k_1890) rfl (hS.2.1.1.1 _ 41 _ rfl) d_Book_eval_152 ?_
          refine mv_iload_n (pc := 155) B d_Book_eval_155 rfl 0 rfl ?_
          refine mv_iald (pc := 156) B rfl (i32_in (show 0 ≤ n8.toInt by omega) (show n8.toInt < 33000 by omega)) d_Book_eval_156 ?_
          refine mv_iald (pc := 157) B rfl (i32_in (by rw [eA]; omega) (by rw [eA]; omega)) d_Book_eval_157 ?_
          refine mv_callVl (pc := 158) (n := 4) (ci := 12) (C := R_Book) B (mK_ok sk sv) hNs rfl rfl (c_Book_apply_y l hi _ _ _ _ _) rfl (ma_goodc kc_Book_apply) (B.2.2.2.1 _ k_2528) (B.2.2.2.1 _ k_2530) (B.2.2.2.1 _ ks_136) (B.2.2.2.1 _ k_13) ⟨by decide +kernel, by decide +kernel, by decide +kernel⟩ rfl d_Book_eval_158 rfl (Nat.le_of_ble_eq_true rfl) ⟨by first | decide | (dsimp only; omega), by first | decide | (dsimp only; omega)⟩ ⟨Nat.le_refl _, Nat.le_refl _⟩ ⟨Nat.le_refl _, Nat.le_refl _⟩ (mv_noH hno _) (fun v158 σ158 h158 => ?_)
          have e158 := h158.symm
          subst e158
          refine mv_aload_n (pc := 161) B d_Book_eval_161 rfl 2 rfl ?_
          refine mv_getR (pc := 162) (ci := 12) (C := R_Book) (T := F_Book) (N := 65) B 45 rfl rfl (by decide) i_Book (B.2.2.2.1 _ k_1894) rfl (hS.2.1.1.1 _ 45 _ rfl) d_Book_eval_162 ?_
          refine mv_iload_n (pc := 165) B d_Book_eval_165 rfl 0 rfl ?_
          refine mv_iald (pc := 166) B rfl (i32_in (show 0 ≤ n8.toInt by omega) (show n8.toInt < 33000 by omega)) d_Book_eval_166 ?_
          refine mv_callSl (pc := 167) (n := 2) B (mK_ok sk sv) hNs (c_Book_cut l hi _ _ _) rfl (ma_goodc kc_Book_cut) (B.2.2.2.1 _ k_2427) (B.2.2.2.1 _ k_2428) (B.2.2.2.1 _ k_13) ⟨by decide +kernel, by decide +kernel, by decide +kernel⟩ rfl d_Book_eval_167 rfl (Nat.le_of_ble_eq_true rfl) ⟨by first | decide | (dsimp only; omega), by first | decide | (dsimp only; omega)⟩ ⟨Nat.le_refl _, Nat.le_refl _⟩ ⟨Nat.le_refl _, Nat.le_refl _⟩ (mv_noH hno _) (fun v167 σ167 h167 => ?_)
          have e167 := h167.symm
          subst e167
          refine mv_lstore (pc := 170) B d_Book_eval_170 (by decide) rfl ?_
          refine mv_goto (pc := 172) (tgt := 66) B d_Book_eval_172 rfl ?_
          refine mv_lpick [0, 2, 3] rfl ?_
          exact ih _ _ _ hS (by omega)
        · skip
          refine mv_lload (pc := 105) B d_Book_eval_105 1 rfl ?_
          refine mv_aload_n (pc := 107) B d_Book_eval_107 rfl 2 rfl ?_
          refine mv_getR (pc := 108) (ci := 12) (C := R_Book) (T := F_Book) (N := 65) B 43 rfl rfl (by decide) i_Book (B.2.2.2.1 _ k_1892) rfl (hS.2.1.1.1 _ 43 _ rfl) d_Book_eval_108 ?_
          refine mv_iload_n (pc := 111) B d_Book_eval_111 rfl 0 rfl ?_
          refine mv_iald (pc := 112) B rfl (i32_in (show 0 ≤ n8.toInt by omega) (show n8.toInt < 33000 by omega)) d_Book_eval_112 ?_
          refine mv_lushr (pc := 113) B d_Book_eval_113 ?_
          refine mv_aload_n (pc := 114) B d_Book_eval_114 rfl 2 rfl ?_
          refine mv_getR (pc := 115) (ci := 12) (C := R_Book) (T := F_Book) (N := 65) B 45 rfl rfl (by decide) i_Book (B.2.2.2.1 _ k_1894) rfl (hS.2.1.1.1 _ 45 _ rfl) d_Book_eval_115 ?_
          refine mv_iload_n (pc := 118) B d_Book_eval_118 rfl 0 rfl ?_
          refine mv_iald (pc := 119) B rfl (i32_in (show 0 ≤ n8.toInt by omega) (show n8.toInt < 33000 by omega)) d_Book_eval_119 ?_
          refine mv_callSl (pc := 120) (n := 2) B (mK_ok sk sv) hNs (c_Book_cut l hi _ _ _) rfl (ma_goodc kc_Book_cut) (B.2.2.2.1 _ k_2427) (B.2.2.2.1 _ k_2428) (B.2.2.2.1 _ k_13) ⟨by decide +kernel, by decide +kernel, by decide +kernel⟩ rfl d_Book_eval_120 rfl (Nat.le_of_ble_eq_true rfl) ⟨by first | decide | (dsimp only; omega), by first | decide | (dsimp only; omega)⟩ ⟨Nat.le_refl _, Nat.le_refl _⟩ ⟨Nat.le_refl _, Nat.le_refl _⟩ (mv_noH hno _) (fun v120 σ120 h120 => ?_)
          have e120 := h120.symm
          subst e120
          refine mv_lstore (pc := 123) B d_Book_eval_123 (by decide) rfl ?_
          refine mv_goto (pc := 125) (tgt := 66) B d_Book_eval_125 rfl ?_
          refine mv_lpick [0, 2, 3] rfl ?_
          exact ih _ _ _ hS (by omega)
  have lp1 : ∀ (nn : Nat) (τ : mv_H) (c9 : Nat) (m9 : Nat) (x9 : Int32) (hS : ES 108 th n k w sp q r g σ τ c9) (hx9 : x9.toInt = m9) (hmc : m9 + c9 ≤ q) (hms : nS 108 τ m9 ≤ 12) (hmr : g.1 m9 ≤ r), m9 < nn → mv_V p l e ({ frames := 3 * r + 3, cells := 0, slots := 0, locals := 72 * r + 120 }) s m ([.ref (al 108), .int v9] : List Value).toArray below meth c (mg dA D al ext) 6 0 0 (mv_Q (mg dA D al ext) below s 0 0 (mv_Rl (fun _ σ1 => EO 108 sp σ σ1))) τ 7 [(3, .int x9), (0, .ref (al 108)), (1, .int v9), (2, .int (mv_i σ 108 62))] [] := by
    intro nn
    induction nn with
    | zero => intro τ c9 m9 x9 hS hx9 hmc hms hmr hm; exact absurd hm (Nat.not_lt_zero _)
    | succ nn ih =>
      intro τ c9 m9 x9 hS hx9 hmc hms hmr hm
      have hE1 := hS.2.2.2.2.1
      have hE2 := hS.2.2.2.2.2
      have hcx : x9.toNatClampNeg = m9 := by have := i32_cl (x := x9) (by omega); omega
      have j29 : ∀  (hs : nS 108 τ m9 = 7 ∨ nS 108 τ m9 = 8), mv_V p l e ({ frames := 3 * r + 3, cells := 0, slots := 0, locals := 72 * r + 120 }) s m ([.ref (al 108), .int v9] : List Value).toArray below meth c (mg dA D al ext) 6 0 0 (mv_Q (mg dA D al ext) below s 0 0 (mv_Rl (fun _ σ1 => EO 108 sp σ σ1))) τ 29 [(3, .int x9), (0, .ref (al 108)), (1, .int v9), (2, .int (mv_i σ 108 62))] [] := by
        intro hs
        refine mv_aload_n (pc := 29) B d_Book_eval_29 rfl 1 rfl ?_
        refine mv_getR (pc := 30) (ci := 12) (C := R_Book) (T := F_Book) (N := 65) B 59 rfl rfl (by decide) i_Book (B.2.2.2.1 _ k_1908) rfl (hS.2.1.1.1 _ 59 _ rfl) d_Book_eval_30 ?_
        refine mv_aload_n (pc := 33) B d_Book_eval_33 rfl 1 rfl ?_
        refine mv_getI (pc := 34) (ci := 12) (C := R_Book) (T := F_Book) (N := 65) B 62 rfl rfl (by decide) i_Book (B.2.2.2.1 _ k_1911) rfl d_Book_eval_34 ?_
        refine mv_iload_n (pc := 37) B d_Book_eval_37 rfl 0 rfl ?_
        refine mv_iast (pc := 38) B rfl (i32_in (x := mv_i τ 108 62) (by have := hS.2.2.1; omega) (by have := hS.2.2.1; omega)) d_Book_eval_38 ?_
        refine mv_aload_n (pc := 39) B d_Book_eval_39 rfl 1 rfl ?_
        refine mv_dup (pc := 40) B d_Book_eval_40 rfl ?_
        refine mv_getI (pc := 41) (ci := 12) (C := R_Book) (T := F_Book) (N := 65) B 62 rfl rfl (by decide) i_Book (B.2.2.2.1 _ k_1911) rfl d_Book_eval_41 ?_
        refine mv_iconst (pc := 44) (v := 1) B d_Book_eval_44 (by decide) ?_
        refine mv_iadd (pc := 45) B d_Book_eval_45 ?_
        refine mv_putI (pc := 46) (ci := 12) (C := R_Book) (T := F_Book) (N := 65) B 62 rfl rfl (by decide) i_Book t_Book_ok n_Book (B.2.2.2.1 _ k_1911) rfl rfl rfl rfl d_Book_eval_46 ?_
        refine mv_gen (fun S49 eS49 => ?_)
        have hP0 := hS.ep hmc (by omega) hmr
        have hx0 : XC 108 τ g.1 0 m9 (g.1 m9 + 1) (mv_a τ 127 m9) := by
          rcases hs with z | z
          · exact (hP0.x.2.2.2.2.2.1 z).1
          · exact hP0.x.2.2.2.2.2.2.1 z
        obtain ⟨m8, e8, -, l8, r8, s8⟩ := hx0
        have hS := hS.push hmc hs hmr hx9 eS49
        have e9 : ∀ o j, ¬ o = 139 → mv_a S49 o j = mv_a τ o j := fun o j z => by
          rw [eS49]
          exact mv_u_ne _ _ (fun y => z y.1)
        clear eS49
        refine mv_aload_n (pc := 49) B d_Book_eval_49 rfl 1 rfl ?_
        refine mv_getR (pc := 50) (ci := 12) (C := R_Book) (T := F_Book) (N := 65) B 41 rfl rfl (by decide) i_Book (B.2.2.2.1 _ k_1890) rfl (hS.2.1.1.1 _ 41 _ rfl) d_Book_eval_50 ?_
        refine mv_iload_n (pc := 53) B d_Book_eval_53 rfl 0 rfl ?_
        refine mv_iald (pc := 54) B rfl (i32_in (show 0 ≤ x9.toInt by omega) (show x9.toInt < 33000 by omega)) d_Book_eval_54 ?_
        refine mv_istore_n (pc := 55) B d_Book_eval_55 rfl (by decide) rfl ?_
        refine mv_goto (pc := 56) (tgt := 7) B d_Book_eval_56 rfl ?_
        refine mv_lpick [0, 1, 2, 3] rfl ?_
        exact ih _ _ _ _ hS (by rw [e9 _ _ (by omega), hcx]; exact e8) (by omega) (by show (mv_a S49 126 m8).toInt ≤ 12; rw [e9 _ _ (by omega)]; exact s8) (by omega) (by omega)
      refine mv_aload_n (pc := 7) B d_Book_eval_7 rfl 1 rfl ?_
      refine mv_getR (pc := 8) (ci := 12) (C := R_Book) (T := F_Book) (N := 65) B 40 rfl rfl (by decide) i_Book (B.2.2.2.1 _ k_1889) rfl (hS.2.1.1.1 _ 40 _ rfl) d_Book_eval_8 ?_
      refine mv_iload_n (pc := 11) B d_Book_eval_11 rfl 0 rfl ?_
      refine mv_iald (pc := 12) B rfl (i32_in (show 0 ≤ x9.toInt by omega) (show x9.toInt < 33000 by omega)) d_Book_eval_12 ?_
      refine mv_bipush (pc := 13) (v := 7) B d_Book_eval_13 (by decide) ?_
      refine mv_icmp_eq (pc := 15) (tgt := 29) B d_Book_eval_15 rfl (fun h15 => ?_) (fun h15 => ?_)
      · skip
        have hs : nS 108 τ m9 = 7 ∨ nS 108 τ m9 = 8 := Or.inl (by have z : mv_a τ 126 x9.toNatClampNeg = 7 := h15; rw [hcx] at z; show (mv_a τ 126 m9).toInt = 7; rw [z]; rfl)
        refine mv_lpick [0, 1, 2, 3] rfl ?_
        exact j29 hs
      · skip
        refine mv_aload_n (pc := 18) B d_Book_eval_18 rfl 1 rfl ?_
        refine mv_getR (pc := 19) (ci := 12) (C := R_Book) (T := F_Book) (N := 65) B 40 rfl rfl (by decide) i_Book (B.2.2.2.1 _ k_1889) rfl (hS.2.1.1.1 _ 40 _ rfl) d_Book_eval_19 ?_
        refine mv_iload_n (pc := 22) B d_Book_eval_22 rfl 0 rfl ?_
        refine mv_iald (pc := 23) B rfl (i32_in (show 0 ≤ x9.toInt by omega) (show x9.toInt < 33000 by omega)) d_Book_eval_23 ?_
        refine mv_bipush (pc := 24) (v := 8) B d_Book_eval_24 (by decide) ?_
        refine mv_icmp_ne (pc := 26) (tgt := 59) B d_Book_eval_26 rfl (fun h26 => ?_) (fun h26 => ?_)
        · skip
          have n7 : ¬ nS 108 τ m9 = 7 := fun z => h15 (by rw [hcx]; exact Int32.toInt_inj.mp z)
          have n8 : ¬ nS 108 τ m9 = 8 := fun z => h26 (by rw [hcx]; exact Int32.toInt_inj.mp z)
          refine mv_aload_n (pc := 59) B d_Book_eval_59 rfl 1 rfl ?_
          refine mv_iload_n (pc := 60) B d_Book_eval_60 rfl 0 rfl ?_
          refine mv_callVl (pc := 61) (n := 1) (ci := 12) (C := R_Book) B (mK_ok sk sv) hNs rfl rfl (hS0 _ _ th n k w (sp + c9) g m9 hx9 (hS.ep hmc (by omega) hmr) n7 n8) rfl (ma_goodc kc_Book_simple) (B.2.2.2.1 _ k_2504) (B.2.2.2.1 _ k_2506) (B.2.2.2.1 _ ks_132) (B.2.2.2.1 _ k_13) ⟨by decide +kernel, by decide +kernel, by decide +kernel⟩ rfl d_Book_eval_61 rfl (Nat.le_of_ble_eq_true rfl) ⟨by first | decide | (dsimp only; omega), by first | decide | (dsimp only; omega)⟩ ⟨Nat.le_refl _, Nat.le_refl _⟩ ⟨Nat.le_refl _, Nat.le_refl _⟩ (mv_noH hno _) (fun v61 σ61 h61 => ?_)
          refine mv_lstore (pc := 64) B d_Book_eval_64 (by decide) rfl ?_
          refine mv_lpick [0, 2, 4] rfl ?_
          exact lp2 _ _ _ _ (hS.mv h61) (Nat.lt_succ_self _)
        · skip
          have hs : nS 108 τ m9 = 7 ∨ nS 108 τ m9 = 8 := Or.inr (by have z : mv_a τ 126 x9.toNatClampNeg = 8 := h26; rw [hcx] at z; show (mv_a τ 126 m9).toInt = 8; rw [z]; rfl)
          refine mv_lpick [0, 1, 2, 3] rfl ?_
          exact j29 hs
  refine mv_aload_n (pc := 0) B d_Book_eval_0 rfl 0 rfl ?_
  refine mv_getI (pc := 1) (ci := 12) (C := R_Book) (T := F_Book) (N := 65) B 62 rfl rfl (by decide) i_Book (B.2.2.2.1 _ k_1911) rfl d_Book_eval_1 ?_
  refine mv_istore_n (pc := 4) B d_Book_eval_4 rfl (by decide) rfl ?_
  refine mv_iload_n (pc := 5) B d_Book_eval_5 rfl 2 rfl ?_
  refine mv_istore_n (pc := 6) B d_Book_eval_6 rfl (by decide) rfl ?_
  refine mv_lpick [0, 2, 3, 1] rfl ?_
  exact lp1 _ _ _ _ _ (ES.rf hP) hv (by omega) hP.2.2.2.1 hP.2.2.2.2 (Nat.lt_succ_self _)
theorem ev_x (l : Launch) {dA : FieldType → ClassId} {D : va_G} {al : Nat → Nat} {ext : mv_Sh} {sk sv : Nat → Nat} (hi : mv_inj (mg dA D al ext)) (r : Nat) (ih0 : ∀ j, j + 1 = r → EvE l dA D al ext sk sv 74 j) : EvE l dA D al ext sk sv 74 r := by
  have hR : EvR l dA D al ext sk sv 74 r := fun v σ th n k w sp g q hX hP => c_Book_row_x l hi σ v th n k w sp g q r hX hP ih0
  have hS : EvS l dA D al ext sk sv 74 r := fun v σ th n k w sp g q hv hP h7 h8 => c_Book_simple_x l hi σ v th n k w sp g q r hv hP h7 h8 ih0 hR
  exact fun v σ th n k w sp g q hv hP => c_Book_eval_x l hi σ v th n k w sp g q r hv hP ih0 hS
theorem c_Book_value_x (l : Launch) {dA : FieldType → ClassId} {D : va_G} {al : Nat → Nat} {ext : mv_Sh} {sk sv : Nat → Nat} (hi : mv_inj (mg dA D al ext)) : ∀ r, EvE l dA D al ext sk sv 74 r := by
  intro r
  induction r with
  | zero => exact ev_x l hi 0 (fun j h => absurd h (Nat.succ_ne_zero _))
  | succ r ih => exact ev_x l hi (r + 1) (fun j h => by
      have e : j = r := by omega
      subst e
      exact ih)
theorem ev_y (l : Launch) {dA : FieldType → ClassId} {D : va_G} {al : Nat → Nat} {ext : mv_Sh} {sk sv : Nat → Nat} (hi : mv_inj (mg dA D al ext)) (r : Nat) (ih0 : ∀ j, j + 1 = r → EvE l dA D al ext sk sv 108 j) : EvE l dA D al ext sk sv 108 r := by
  have hR : EvR l dA D al ext sk sv 108 r := fun v σ th n k w sp g q hX hP => c_Book_row_y l hi σ v th n k w sp g q r hX hP ih0
  have hS : EvS l dA D al ext sk sv 108 r := fun v σ th n k w sp g q hv hP h7 h8 => c_Book_simple_y l hi σ v th n k w sp g q r hv hP h7 h8 ih0 hR
  exact fun v σ th n k w sp g q hv hP => c_Book_eval_y l hi σ v th n k w sp g q r hv hP ih0 hS
theorem c_Book_value_y (l : Launch) {dA : FieldType → ClassId} {D : va_G} {al : Nat → Nat} {ext : mv_Sh} {sk sv : Nat → Nat} (hi : mv_inj (mg dA D al ext)) : ∀ r, EvE l dA D al ext sk sv 108 r := by
  intro r
  induction r with
  | zero => exact ev_y l hi 0 (fun j h => absurd h (Nat.succ_ne_zero _))
  | succ r ih => exact ev_y l hi (r + 1) (fun j h => by
      have e : j = r := by omega
      subst e
      exact ih)
