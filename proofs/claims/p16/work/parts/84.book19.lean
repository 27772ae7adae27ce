/-! the reference's Book: the body of an op -/
theorem DF.nd {B o j : Nat} {σ τ : mv_H} (h : DF B σ τ) (ho : ¬ (B + 29 ≤ o ∧ o ≤ B + 31)) : mv_a τ o j = mv_a σ o j := h.2.2.2.1 _ _ ho
theorem DY.fr {B th w : Nat} {σ τ : mv_H} (h : DY B th w σ) (e1 : mv_i τ B 61 = mv_i σ B 61) (e : ∀ o j, (o = B + 4 ∨ o = B + 29 ∨ o = B + 30) → mv_a τ o j = mv_a σ o j) : DY B th w τ := ⟨by rw [e1]; exact h.1, fun j hj => by rw [e _ _ (by omega), e _ _ (by omega)]; exact (h.2 j hj).fr (fun i => e _ _ (by omega))⟩
/-- as the body runs: w writes so far -/
def RT (B th n k : Nat) (g : Gh) (σ τ : mv_H) (w : Nat) : Prop := DF B σ τ ∧ ST B th n k g τ ∧ DY B th w τ ∧ (mv_i τ B 62).toInt = 0
section RTX
variable {B th n k w : Nat} {g : Gh} {σ τ υ : mv_H}
theorem RT.ev (h : RT B th n k g σ τ w) (f : EO B 0 τ υ) : RT B th n k g σ υ w := ⟨h.1.tr f.1.df, h.2.1.df f.1.df, h.2.2.1.ef f.1, by rw [f.2]; exact h.2.2.2⟩
theorem RT.ep {lo q : Nat} {v : Int32} (h : RT B th n k g σ τ w) (hw : w ≤ 12000) (hq : q ≤ n) (hx : SX B τ lo q v) : ∃ m : Nat, v.toInt = m ∧ EP B th n k w 0 629 g m τ := by
  obtain ⟨m, a, -, b, c⟩ := hx
  exact ⟨m, a, ⟨h.2.1, h.2.2.1, hw⟩, ⟨h.2.2.2, by have := h.2.1.2.2.1; omega⟩, by omega, c, ((h.2.1.2.1 m (Nat.zero_le _) (by omega)).1 c).2⟩
theorem RT.sq {q : Nat} (h : RT B th n k g σ τ w) (hq : q < n) (hs : 14 ≤ nS B τ q) : SQ B th τ g 0 q ∧ g.1 q ≤ 61 ∧ nI9 B τ q < n := (h.2.1.2.1 q (Nat.zero_le _) hq).2.1 (by omega)
theorem RT.let {j : Nat} {x : Int64} (h : RT B th n k g σ τ w) : RT B th n k g σ (mv_sb τ (B + 26) j x) w := by
  have f : DF B τ (mv_sb τ (B + 26) j x) := Fx.sb Fx.rf (Or.inl rfl)
  exact ⟨h.1.tr f, h.2.1.df f, h.2.2.1.fr rfl (fun _ _ _ => rfl), h.2.2.2⟩
theorem RT.trap {x : Int32} (h : RT B th n k g σ τ w) : RT B th n k g σ (mv_si τ B 53 x) w := by
  have f : DF B τ (mv_si τ B 53 x) := Fx.si Fx.rf ⟨rfl, Or.inl rfl⟩
  exact ⟨h.1.tr f, h.2.1.df f, h.2.2.1.fr (mv_si_o _ _ (by omega)) (fun _ _ _ => rfl), by rw [mv_si_o _ _ (by omega)]; exact h.2.2.2⟩
theorem RT.wr {w1 : Nat} (h : RT B th n k g σ τ w) (d : DY B th w1 υ) (f : WF B τ υ) : RT B th n k g σ υ w1 := ⟨h.1.tr f.df, h.2.1.df f.df, d, by rw [f.1 _ _ (by omega)]; exact h.2.2.2⟩
theorem RT.rf (h : ST B th n k g σ) (d : DY B th w σ) (hz : (mv_i σ B 62).toInt = 0) : RT B th n k g σ σ w := ⟨Fx.rf, h, d, hz⟩
theorem RT.tr {w' : Nat} (h : RT B th n k g σ τ w) (f : RT B th n k g τ υ w') : RT B th n k g σ υ w' := ⟨h.1.tr f.1, f.2⟩
theorem RT.at (h : RT B th n k g σ τ w) : RT B th n k g τ τ w := ⟨Fx.rf, h.2⟩
theorem CLO.df {lo hi H : Nat} (h : CLO B σ lo hi H) (f : DF B σ τ) : CLO B τ lo hi H := h.fr (fun o j _ _ _ _ => f.nd (by omega))
theorem CLO.lo {lo lo' hi H : Nat} (h : CLO B σ lo hi H) (hl : lo ≤ lo') : CLO B σ lo' hi H := fun m a b => h m (by omega) b
theorem nS.df {q : Nat} (f : DF B σ τ) : nS B τ q = nS B σ q := congrArg Int32.toInt (f.nd (by omega))
theorem nI9.df {q : Nat} (f : DF B σ τ) : nI9 B τ q = nI9 B σ q := congrArg Int32.toInt (f.nd (by omega))
/-- a block may be run: its first statement t, or none; it writes below H -/
def RB (B n r w H : Nat) (g : Gh) (σ : mv_H) (v : Int32) : Prop := H ≤ n ∧ ((v.toInt = -1 ∧ w ≤ H) ∨ ∃ t : Nat, v.toInt = t ∧ t < H ∧ 14 ≤ nS B σ t ∧ g.2 t ≤ t ∧ g.1 t < r ∧ CLO B σ (g.2 t) H H ∧ w ≤ g.2 t)
theorem RB.df {r H : Nat} {v : Int32} (h : RB B n r w H g σ v) (f : DF B σ τ) : RB B n r w H g τ v := by
  obtain ⟨h0, h | ⟨t, a, b, c, d, e1, f1, h1⟩⟩ := h
  · exact ⟨h0, Or.inl h⟩
  · exact ⟨h0, Or.inr ⟨t, a, b, by rw [nS.df f]; exact c, d, e1, f1.df f, h1⟩⟩
/-- an if may be run -/
def IB (B n r w H : Nat) (g : Gh) (σ : mv_H) (s : Nat) : Prop := H ≤ n ∧ s < H ∧ nS B σ s = 18 ∧ g.1 s < r ∧ nI9 B σ s < H ∧ CLO B σ (s + 1) H H ∧ w ≤ g.2 s
theorem IB.df {r H s : Nat} (h : IB B n r w H g σ s) (f : DF B σ τ) : IB B n r w H g τ s := ⟨h.1, h.2.1, by rw [nS.df f]; exact h.2.2.1, h.2.2.2.1, by rw [nI9.df f]; exact h.2.2.2.2.1, h.2.2.2.2.2.1.df f, h.2.2.2.2.2.2⟩
/-- the body of an if -/
theorem IB.body {r H s : Nat} (h : IB B n r w H g τ s) (hT : RT B th n k g σ τ w) : RB B n (r - 1) w s g τ (mv_a τ (B + 20) s) := by
  obtain ⟨h1, h2, h3, h4, h5, h6, h7⟩ := h
  obtain ⟨⟨q1, q2, q3, -, -, -, q4, -⟩, -, -⟩ := hT.sq (q := s) (by omega) (by omega)
  refine ⟨by omega, ?_⟩
  rcases (q4 h3).2.1 with z | ⟨t, a, b1, b2, b3, b4, b5, b6⟩
  · exact Or.inl ⟨z, by omega⟩
  · exact Or.inr ⟨t, a, b1, b2, b5, by omega, b6, by omega⟩
/-- what follows its else -/
theorem IB.else {r H s : Nat} (h : IB B n r w H g τ s) (hT : RT B th n k g σ τ w) : ((mv_a τ (B + 21) s).toInt = -1 ∨ ∃ t : Nat, (mv_a τ (B + 21) s).toInt = t ∧ s < t ∧ t < H ∧ 14 ≤ nS B τ t ∧ (¬ mv_a τ (B + 25) s = 0 → IB B n r w H g τ t)) ∧ (((mv_a τ (B + 21) s).toInt = -1 ∨ mv_a τ (B + 25) s = 0 ∨ ¬ nS B τ (mv_a τ (B + 21) s).toNatClampNeg = 18) → RB B n (r - 1) w H g τ (mv_a τ (B + 21) s)) := by
  obtain ⟨h1, h2, h3, h4, h5, h6, h7⟩ := h
  obtain ⟨⟨q1, q2, q3, -, -, -, q4, -⟩, -, -⟩ := hT.sq (q := s) (by omega) (by omega)
  have h5 : (mv_a τ (B + 21) s).toInt < H := h5
  rcases (q4 h3).2.2 with z | ⟨t, a, b1, b2, b3, b4, b5⟩
  · exact ⟨Or.inl z, fun _ => ⟨h1, Or.inl ⟨z, by omega⟩⟩⟩
  · refine ⟨Or.inr ⟨t, a, by omega, by omega, b3, fun y => ?_⟩, fun y => ⟨h1, Or.inr ⟨t, a, by omega, b3, b2, ?_, h6.lo (by omega), by omega⟩⟩⟩
    · obtain ⟨c1, c2⟩ := b4 y
      exact ⟨h1, by omega, c1, by omega, (h6 t (by omega) (by omega) b3).2, h6.lo (by omega), by omega⟩
    · have hc := i32_cl (x := mv_a τ (B + 21) s) (by omega)
      have hc : (mv_a τ (B + 21) s).toNatClampNeg = t := by omega
      by_cases z : mv_a τ (B + 25) s = 0
      · have := b5 z
        omega
      · have := (b4 z).1
        rw [hc] at y
        rcases y with y | y | y
        · omega
        · exact absurd y z
        · exact absurd this y
/-- the next statement -/
theorem RB.next {r H s w' : Nat} (hT : RT B th n k g σ τ w) (hH : H ≤ n) (hs : s < H) (h14 : 14 ≤ nS B τ s) (hb : g.2 s ≤ s) (hr : g.1 s < r) (hC : CLO B τ (g.2 s) H H) : ∃ H' : Nat, H' ≤ H ∧ s < H' ∧ nI9 B τ s < H' ∧ CLO B τ (s + 1) H' H' ∧ ∀ w', w' ≤ H' → (nF B τ s = -1 ∧ w' ≤ H) ∨ ∃ t : Nat, nF B τ s = t ∧ s < t ∧ t < H ∧ 14 ≤ nS B τ t ∧ g.2 t ≤ t ∧ g.1 t < r ∧ CLO B τ (g.2 t) H H ∧ w' ≤ g.2 t := by
  obtain ⟨⟨q1, q2, q3, -, -, -, -, q5⟩, -, -⟩ := hT.sq (q := s) (by omega) h14
  have c := hC s hb hs h14
  rcases q5 with z | ⟨t, a, b1, b2, b3, b4, b5, b6⟩
  · exact ⟨H, Nat.le_refl _, hs, c.2, hC.lo (by omega), fun w' hw => Or.inl ⟨z, hw⟩⟩
  · exact ⟨g.2 t, by omega, b1, b5, b6, fun w' hw => Or.inr ⟨t, a, by omega, by omega, b3, b2, by omega, hC.lo (by omega), hw⟩⟩
end RTX

def y_Book_setCell : MethodName := ⟨"MachineLoomModel$Book", "setCell", "(I)V"⟩
abbrev b_Book_setCell : ByteArray := prog_15_method_69_code
theorem kc_Book_setCell : Cond.code y_Book_setCell b_Book_setCell 6 (Option.none : Option Jvm.ClassFile.FieldType) ∈ ma := ma_of (tb_11 _ (List.mem_of_getElem? (i := 149) rfl)) rfl
def y_Book_branch : MethodName := ⟨"MachineLoomModel$Book", "branch", "(I)V"⟩
abbrev b_Book_branch : ByteArray := prog_15_method_70_code
theorem kc_Book_branch : Cond.code y_Book_branch b_Book_branch 5 (Option.none : Option Jvm.ClassFile.FieldType) ∈ ma := ma_of (tb_11 _ (List.mem_of_getElem? (i := 153) rfl)) rfl
def y_Book_run : MethodName := ⟨"MachineLoomModel$Book", "run", "(I)V"⟩
abbrev b_Book_run : ByteArray := prog_15_method_68_code
theorem kc_Book_run : Cond.code y_Book_run b_Book_run 5 (Option.none : Option Jvm.ClassFile.FieldType) ∈ ma := ma_of (tb_11 _ (List.mem_of_getElem? (i := 99) rfl)) rfl
def RvR (l : Launch) (dA : FieldType → ClassId) (D : va_G) (al : Nat → Nat) (ext : mv_Sh) (sk sv : Nat → Nat) (B j : Nat) : Prop := ∀ (v : Int32) (σ : mv_H) (th n k w H : Nat) (g : Gh), RB B n j w H g σ v → RT B th n k g σ σ w → mv_C l y_Book_run (Cond.code y_Book_run b_Book_run 5 none :: ma) { frames := 2 * j + 1892, cells := 0, slots := 0, locals := 60 * j + 45488 } (mg dA D al ext) (mK sk sv) [.ref (al B), .int v] σ (mv_Rv (fun σ1 => ∃ w1, w1 ≤ H ∧ RT B th n k g σ σ1 w1))
def RvB (l : Launch) (dA : FieldType → ClassId) (D : va_G) (al : Nat → Nat) (ext : mv_Sh) (sk sv : Nat → Nat) (B j : Nat) : Prop := ∀ (v : Int32) (σ : mv_H) (th n k w H : Nat) (g : Gh) (s : Nat), v.toInt = s → IB B n j w H g σ s → RT B th n k g σ σ w → mv_C l y_Book_branch (Cond.code y_Book_branch b_Book_branch 5 none :: ma) { frames := 2 * j + 1891, cells := 0, slots := 0, locals := 60 * j + 45458 } (mg dA D al ext) (mK sk sv) [.ref (al B), .int v] σ (mv_Rv (fun σ1 => ∃ w1, w1 ≤ H ∧ RT B th n k g σ σ1 w1))
theorem k_2542 : (Jvm.Cond.methodLink "MachineLoomModel$Book" (504 : Nat) ({ cls := "MachineLoomModel$Book", name := "write", desc := "(IIJ)V" } : Jvm.MethodName)) ∈ ma := ma_of (tb_11 _ (List.mem_of_getElem? (i := 142) rfl)) rfl
theorem k_2544 : (Jvm.Cond.instanceMethod ({ cls := "MachineLoomModel$Book", name := "write", desc := "(IIJ)V" } : Jvm.MethodName)) ∈ ma := ma_of (tb_11 _ (List.mem_of_getElem? (i := 144) rfl)) rfl
theorem ks_137 : Cond.selects "MachineLoomModel$Book" ⟨"MachineLoomModel$Book", "write", "(IIJ)V"⟩ ⟨"MachineLoomModel$Book", "write", "(IIJ)V"⟩ ∈ ma := ma_sel 137 rfl rfl
theorem d_Book_setCell_0 : decode b_Book_setCell 0 = .ok (.aload_n 0, 1) := by decide +kernel
theorem d_Book_setCell_1 : decode b_Book_setCell 1 = .ok (.aload_n 0, 1) := by decide +kernel
theorem d_Book_setCell_2 : decode b_Book_setCell 2 = .ok (.getfield 91, 3) := by decide +kernel
theorem d_Book_setCell_5 : decode b_Book_setCell 5 = .ok (.iload_n 1, 1) := by decide +kernel
theorem d_Book_setCell_6 : decode b_Book_setCell 6 = .ok (.iaload, 1) := by decide +kernel
theorem d_Book_setCell_7 : decode b_Book_setCell 7 = .ok (.invokevirtual 470, 3) := by decide +kernel
theorem d_Book_setCell_10 : decode b_Book_setCell 10 = .ok (.lstore_n 2, 1) := by decide +kernel
theorem d_Book_setCell_11 : decode b_Book_setCell 11 = .ok (.aload_n 0, 1) := by decide +kernel
theorem d_Book_setCell_12 : decode b_Book_setCell 12 = .ok (.getfield 502, 3) := by decide +kernel
theorem d_Book_setCell_15 : decode b_Book_setCell 15 = .ok (.ifCond .ne (31), 3) := by decide +kernel
theorem d_Book_setCell_18 : decode b_Book_setCell 18 = .ok (.lload_n 2, 1) := by decide +kernel
theorem d_Book_setCell_19 : decode b_Book_setCell 19 = .ok (.lconst 0, 1) := by decide +kernel
theorem d_Book_setCell_20 : decode b_Book_setCell 20 = .ok (.aload_n 0, 1) := by decide +kernel
theorem d_Book_setCell_21 : decode b_Book_setCell 21 = .ok (.getfield 26, 3) := by decide +kernel
theorem d_Book_setCell_24 : decode b_Book_setCell 24 = .ok (.aload_n 0, 1) := by decide +kernel
theorem d_Book_setCell_25 : decode b_Book_setCell 25 = .ok (.getfield 85, 3) := by decide +kernel
theorem d_Book_setCell_28 : decode b_Book_setCell 28 = .ok (.iload_n 1, 1) := by decide +kernel
theorem d_Book_setCell_29 : decode b_Book_setCell 29 = .ok (.iaload, 1) := by decide +kernel
theorem d_Book_setCell_30 : decode b_Book_setCell 30 = .ok (.iaload, 1) := by decide +kernel
theorem d_Book_setCell_31 : decode b_Book_setCell 31 = .ok (.iconst 1, 1) := by decide +kernel
theorem d_Book_setCell_32 : decode b_Book_setCell 32 = .ok (.isub, 1) := by decide +kernel
theorem d_Book_setCell_33 : decode b_Book_setCell 33 = .ok (.i2l, 1) := by decide +kernel
theorem d_Book_setCell_34 : decode b_Book_setCell 34 = .ok (.invokestatic 296, 3) := by decide +kernel
theorem d_Book_setCell_37 : decode b_Book_setCell 37 = .ok (.ifCond .ne (9), 3) := by decide +kernel
theorem d_Book_setCell_40 : decode b_Book_setCell 40 = .ok (.aload_n 0, 1) := by decide +kernel
theorem d_Book_setCell_41 : decode b_Book_setCell 41 = .ok (.bipush (-3), 2) := by decide +kernel
theorem d_Book_setCell_43 : decode b_Book_setCell 43 = .ok (.putfield 502, 3) := by decide +kernel
theorem d_Book_setCell_46 : decode b_Book_setCell 46 = .ok (.aload_n 0, 1) := by decide +kernel
theorem d_Book_setCell_47 : decode b_Book_setCell 47 = .ok (.getfield 502, 3) := by decide +kernel
theorem d_Book_setCell_50 : decode b_Book_setCell 50 = .ok (.ifCond .eq (4), 3) := by decide +kernel
theorem d_Book_setCell_53 : decode b_Book_setCell 53 = .ok (.return_, 1) := by decide +kernel
theorem d_Book_setCell_54 : decode b_Book_setCell 54 = .ok (.aload_n 0, 1) := by decide +kernel
theorem d_Book_setCell_55 : decode b_Book_setCell 55 = .ok (.aload_n 0, 1) := by decide +kernel
theorem d_Book_setCell_56 : decode b_Book_setCell 56 = .ok (.getfield 88, 3) := by decide +kernel
theorem d_Book_setCell_59 : decode b_Book_setCell 59 = .ok (.iload_n 1, 1) := by decide +kernel
theorem d_Book_setCell_60 : decode b_Book_setCell 60 = .ok (.iaload, 1) := by decide +kernel
theorem d_Book_setCell_61 : decode b_Book_setCell 61 = .ok (.invokevirtual 470, 3) := by decide +kernel
theorem d_Book_setCell_64 : decode b_Book_setCell 64 = .ok (.lstore 4, 2) := by decide +kernel
theorem d_Book_setCell_66 : decode b_Book_setCell 66 = .ok (.aload_n 0, 1) := by decide +kernel
theorem d_Book_setCell_67 : decode b_Book_setCell 67 = .ok (.getfield 502, 3) := by decide +kernel
theorem d_Book_setCell_70 : decode b_Book_setCell 70 = .ok (.ifCond .ne (17), 3) := by decide +kernel
theorem d_Book_setCell_73 : decode b_Book_setCell 73 = .ok (.aload_n 0, 1) := by decide +kernel
theorem d_Book_setCell_74 : decode b_Book_setCell 74 = .ok (.aload_n 0, 1) := by decide +kernel
theorem d_Book_setCell_75 : decode b_Book_setCell 75 = .ok (.getfield 85, 3) := by decide +kernel
theorem d_Book_setCell_78 : decode b_Book_setCell 78 = .ok (.iload_n 1, 1) := by decide +kernel
theorem d_Book_setCell_79 : decode b_Book_setCell 79 = .ok (.iaload, 1) := by decide +kernel
theorem d_Book_setCell_80 : decode b_Book_setCell 80 = .ok (.lload_n 2, 1) := by decide +kernel
theorem d_Book_setCell_81 : decode b_Book_setCell 81 = .ok (.l2i, 1) := by decide +kernel
theorem d_Book_setCell_82 : decode b_Book_setCell 82 = .ok (.lload 4, 2) := by decide +kernel
theorem d_Book_setCell_84 : decode b_Book_setCell 84 = .ok (.invokevirtual 504, 3) := by decide +kernel
theorem d_Book_setCell_87 : decode b_Book_setCell 87 = .ok (.return_, 1) := by decide +kernel
set_option maxHeartbeats 4000000 in
set_option maxRecDepth 100000 in
theorem c_Book_setCell_x (l : Launch) {dA : FieldType → ClassId} {D : va_G} {al : Nat → Nat} {ext : mv_Sh} {sk sv : Nat → Nat} (hi : mv_inj (mg dA D al ext)) (σ : mv_H) (v9 : Int32) (th n k w : Nat) (g : Gh) (q : Nat) (hv : v9.toInt = q) (hsn : q < n) (hs : nS 74 σ q = 16) (hw : w ≤ q) (hT : RT 74 th n k g σ σ w) : mv_C l y_Book_setCell (Cond.code y_Book_setCell b_Book_setCell 6 (Option.none : Option Jvm.ClassFile.FieldType) :: ma) ({ frames := 1891, cells := 0, slots := 0, locals := 45448 }) (mg dA D al ext) (mK sk sv) [.ref (al 74), .int v9] σ (mv_Rv (fun σ1 => ∃ w1, w1 ≤ w + 1 ∧ RT 74 th n k g σ σ1 w1)) := by
  refine mv_C.ofV (cc := b_Book_setCell) (nL := 6) (ret := (Option.none : Option Jvm.ClassFile.FieldType)) (by decide +kernel) rfl hi (Nat.le_of_ble_eq_true rfl) ?_
  intro p e s m below meth c B hNs hr hnm hno
  have hn9 := hT.2.1.2.2.1
  have hw12 : w ≤ 12000 := by omega
  have hcv : v9.toNatClampNeg = q := by have := i32_cl (x := v9) (by omega); omega
  have hQ := (hT.sq hsn (by omega)).1
  have hth := hT.2.1.2.2.2.2.1
  obtain ⟨m7, e7, p7⟩ := hT.ep hw12 (Nat.le_of_lt hsn) (hQ.2.2.2.2.2.1 hs)
  have e7 : (mv_a σ 95 v9.toNatClampNeg).toInt = m7 := by rw [hcv]; exact e7
  refine mv_aload_n (pc := 0) B d_Book_setCell_0 rfl 0 rfl ?_
  refine mv_aload_n (pc := 1) B d_Book_setCell_1 rfl 0 rfl ?_
  refine mv_getR (pc := 2) (ci := 12) (C := R_Book) (T := F_Book) (N := 65) B 43 rfl rfl (by decide) i_Book (B.2.2.2.1 _ k_1892) rfl (hT.2.1.1 _ 43 _ rfl) d_Book_setCell_2 ?_
  refine mv_iload_n (pc := 5) B d_Book_setCell_5 rfl 1 rfl ?_
  refine mv_iald (pc := 6) B rfl (i32_in (show 0 ≤ v9.toInt by omega) (show v9.toInt < 33000 by omega)) d_Book_setCell_6 ?_
  refine mv_callVl (pc := 7) (n := 1) (ci := 12) (C := R_Book) B (mK_ok sk sv) hNs rfl rfl (c_Book_value_x l hi 629 _ _ th n k _ 0 g m7 e7 p7) rfl (ma_goodc kc_Book_eval) (B.2.2.2.1 _ k_2500) (B.2.2.2.1 _ k_2502) (B.2.2.2.1 _ ks_131) (B.2.2.2.1 _ k_13) ⟨by decide +kernel, by decide +kernel, by decide +kernel⟩ rfl d_Book_setCell_7 rfl (Nat.le_of_ble_eq_true rfl) ⟨by first | decide | (dsimp only; omega), by first | decide | (dsimp only; omega)⟩ ⟨Nat.le_refl _, Nat.le_refl _⟩ ⟨Nat.le_refl _, Nat.le_refl _⟩ (mv_noH hno _) (fun v7 σ7 h7 => ?_)
  have hT := hT.ev h7
  have hf := hT.1
  have eA : mv_a σ7 93 v9.toNatClampNeg = mv_a σ 93 v9.toNatClampNeg := hf.nd (by omega)
  have ht9 : 0 ≤ (mv_a σ7 93 v9.toNatClampNeg).toInt ∧ (mv_a σ7 93 v9.toNatClampNeg).toInt < th := by rw [eA, hcv]; exact (hQ.2.2.2.2.1 (Or.inr hs)).1
  refine mv_lstore_n (pc := 10) B d_Book_setCell_10 rfl (by decide) rfl ?_
  refine mv_aload_n (pc := 11) B d_Book_setCell_11 rfl 1 rfl ?_
  refine mv_getI (pc := 12) (ci := 12) (C := R_Book) (T := F_Book) (N := 65) B 53 rfl rfl (by decide) i_Book (B.2.2.2.1 _ k_1902) rfl d_Book_setCell_12 ?_
  refine mv_if_ne (pc := 15) (tgt := 46) B d_Book_setCell_15 rfl (fun h15 => ?_) (fun h15 => ?_)
  · skip
    refine mv_aload_n (pc := 46) B d_Book_setCell_46 rfl 1 rfl ?_
    refine mv_getI (pc := 47) (ci := 12) (C := R_Book) (T := F_Book) (N := 65) B 53 rfl rfl (by decide) i_Book (B.2.2.2.1 _ k_1902) rfl d_Book_setCell_47 ?_
    refine mv_if_eq (pc := 50) (tgt := 54) B d_Book_setCell_50 rfl (fun h50 => ?_) (fun h50 => ?_)
    · skip
      exact absurd h50 h15
    · skip
      exact mv_vret (pc := 53) B hr d_Book_setCell_53 (Nat.le_refl _) (Nat.le_refl _) ⟨rfl, w, by omega, by first | exact hT | exact hT.trap⟩
  · skip
    refine mv_lload_n (pc := 18) B d_Book_setCell_18 rfl 0 rfl ?_
    refine mv_lconst (pc := 19) (v := 0) B d_Book_setCell_19 (by decide) ?_
    refine mv_aload_n (pc := 20) B d_Book_setCell_20 rfl 1 rfl ?_
    refine mv_getR (pc := 21) (ci := 12) (C := R_Book) (T := F_Book) (N := 65) B 13 rfl rfl (by decide) i_Book (B.2.2.2.1 _ k_1856) rfl (hT.2.1.1 _ 13 _ rfl) d_Book_setCell_21 ?_
    refine mv_aload_n (pc := 24) B d_Book_setCell_24 rfl 1 rfl ?_
    refine mv_getR (pc := 25) (ci := 12) (C := R_Book) (T := F_Book) (N := 65) B 41 rfl rfl (by decide) i_Book (B.2.2.2.1 _ k_1890) rfl (hT.2.1.1 _ 41 _ rfl) d_Book_setCell_25 ?_
    refine mv_iload_n (pc := 28) B d_Book_setCell_28 rfl 2 rfl ?_
    refine mv_iald (pc := 29) B rfl (i32_in (show 0 ≤ v9.toInt by omega) (show v9.toInt < 33000 by omega)) d_Book_setCell_29 ?_
    refine mv_iald (pc := 30) B rfl (i32_in ht9.1 (show (mv_a σ7 93 v9.toNatClampNeg).toInt < 4100 by omega)) d_Book_setCell_30 ?_
    refine mv_iconst (pc := 31) (v := 1) B d_Book_setCell_31 (by decide) ?_
    refine mv_isub (pc := 32) B d_Book_setCell_32 ?_
    refine mv_i2l (pc := 33) B d_Book_setCell_33 ?_
    refine mv_callSNi (pc := 34) (n := 3) B (mK_ok sk sv) hNs (c_Model_in l hi _ _ _ _) rfl (ma_goodc kc_Model_in) (va_Nw.use rfl (hNs.1 _ (List.mem_of_getElem? (i := 7) rfl))) (B.2.2.2.1 _ k_2208) (B.2.2.2.1 _ k_12) ⟨by decide +kernel, by decide +kernel, by decide +kernel⟩ rfl d_Book_setCell_34 rfl (Nat.le_of_ble_eq_true rfl) ⟨by first | decide | (dsimp only; omega), by first | decide | (dsimp only; omega)⟩ ⟨Nat.le_refl _, Nat.le_refl _⟩ ⟨Nat.le_refl _, Nat.le_refl _⟩ (mv_noH hno _) (fun v34 σ34 h34 => ?_)
    obtain ⟨e34, z34⟩ := h34
    have e34 := e34.symm
    subst e34
    refine mv_if_ne (pc := 37) (tgt := 46) B d_Book_setCell_37 rfl (fun h37 => ?_) (fun h37 => ?_)
    · skip
      have z35 := z34.resolve_left h37
      have hcell : 0 ≤ (mv_a σ7 78 (mv_a σ7 93 v9.toNatClampNeg).toNatClampNeg).toInt := (hT.2.1.2.2.2.2.2.1 _ (by have := i32_cl ht9.1; omega)).2.1.1
      have z36 := l2i_in z35.2.1 z35.2.2 hcell
      have hK7 : WK 74 th σ7 (mv_a σ7 93 v9.toNatClampNeg) v7.toInt32 := ⟨ht9.1, ht9.2, z36.1, Or.inl z36.2⟩
      refine mv_aload_n (pc := 46) B d_Book_setCell_46 rfl 1 rfl ?_
      refine mv_getI (pc := 47) (ci := 12) (C := R_Book) (T := F_Book) (N := 65) B 53 rfl rfl (by decide) i_Book (B.2.2.2.1 _ k_1902) rfl d_Book_setCell_47 ?_
      refine mv_if_eq (pc := 50) (tgt := 54) B d_Book_setCell_50 rfl (fun h50 => ?_) (fun h50 => ?_)
      · skip
        have hs : nS 74 σ7 q = 16 := by rw [nS.df hf]; exact hs
        have hQ := (hT.sq hsn (by omega)).1
        obtain ⟨m61, e61, p61⟩ := hT.ep hw12 (Nat.le_of_lt hsn) ((hQ.2.2.2.2.1 (Or.inr hs)).2)
        have e61 : (mv_a σ7 94 v9.toNatClampNeg).toInt = m61 := by rw [hcv]; exact e61
        refine mv_aload_n (pc := 54) B d_Book_setCell_54 rfl 1 rfl ?_
        refine mv_aload_n (pc := 55) B d_Book_setCell_55 rfl 1 rfl ?_
        refine mv_getR (pc := 56) (ci := 12) (C := R_Book) (T := F_Book) (N := 65) B 42 rfl rfl (by decide) i_Book (B.2.2.2.1 _ k_1891) rfl (hT.2.1.1 _ 42 _ rfl) d_Book_setCell_56 ?_
        refine mv_iload_n (pc := 59) B d_Book_setCell_59 rfl 2 rfl ?_
        refine mv_iald (pc := 60) B rfl (i32_in (show 0 ≤ v9.toInt by omega) (show v9.toInt < 33000 by omega)) d_Book_setCell_60 ?_
        refine mv_callVl (pc := 61) (n := 1) (ci := 12) (C := R_Book) B (mK_ok sk sv) hNs rfl rfl (c_Book_value_x l hi 629 _ _ th n k _ 0 g m61 e61 p61) rfl (ma_goodc kc_Book_eval) (B.2.2.2.1 _ k_2500) (B.2.2.2.1 _ k_2502) (B.2.2.2.1 _ ks_131) (B.2.2.2.1 _ k_13) ⟨by decide +kernel, by decide +kernel, by decide +kernel⟩ rfl d_Book_setCell_61 rfl (Nat.le_of_ble_eq_true rfl) ⟨by first | decide | (dsimp only; omega), by first | decide | (dsimp only; omega)⟩ ⟨Nat.le_refl _, Nat.le_refl _⟩ ⟨Nat.le_refl _, Nat.le_refl _⟩ (mv_noH hno _) (fun v61 σ61 h61 => ?_)
        have hT := hT.ev h61
        have hf := h61.1.df
        have eA : mv_a σ61 93 v9.toNatClampNeg = mv_a σ7 93 v9.toNatClampNeg := hf.nd (by omega)
        have ht9 : 0 ≤ (mv_a σ61 93 v9.toNatClampNeg).toInt ∧ (mv_a σ61 93 v9.toNatClampNeg).toInt < th := by rw [eA, hcv]; exact (hQ.2.2.2.2.1 (Or.inr hs)).1
        have hK : WK 74 th σ61 (mv_a σ61 93 v9.toNatClampNeg) v7.toInt32 := by
          have e9 : mv_a σ61 93 v9.toNatClampNeg = mv_a σ7 93 v9.toNatClampNeg := h61.1.nd (by omega)
          rw [e9]
          exact hK7.fr (fun j => h61.1.nd (by omega))
        refine mv_lstore (pc := 64) B d_Book_setCell_64 (by decide) rfl ?_
        refine mv_aload_n (pc := 66) B d_Book_setCell_66 rfl 2 rfl ?_
        refine mv_getI (pc := 67) (ci := 12) (C := R_Book) (T := F_Book) (N := 65) B 53 rfl rfl (by decide) i_Book (B.2.2.2.1 _ k_1902) rfl d_Book_setCell_67 ?_
        refine mv_if_ne (pc := 70) (tgt := 87) B d_Book_setCell_70 rfl (fun h70 => ?_) (fun h70 => ?_)
        · skip
          exact mv_vret (pc := 87) B hr d_Book_setCell_87 (Nat.le_refl _) (Nat.le_refl _) ⟨rfl, by first | exact ⟨w, by omega, hT⟩ | exact ⟨w84, by omega, hT⟩⟩
        · skip
          refine mv_aload_n (pc := 73) B d_Book_setCell_73 rfl 2 rfl ?_
          refine mv_aload_n (pc := 74) B d_Book_setCell_74 rfl 2 rfl ?_
          refine mv_getR (pc := 75) (ci := 12) (C := R_Book) (T := F_Book) (N := 65) B 41 rfl rfl (by decide) i_Book (B.2.2.2.1 _ k_1890) rfl (hT.2.1.1 _ 41 _ rfl) d_Book_setCell_75 ?_
          refine mv_iload_n (pc := 78) B d_Book_setCell_78 rfl 3 rfl ?_
          refine mv_iald (pc := 79) B rfl (i32_in (show 0 ≤ v9.toInt by omega) (show v9.toInt < 33000 by omega)) d_Book_setCell_79 ?_
          refine mv_lload_n (pc := 80) B d_Book_setCell_80 rfl 1 rfl ?_
          refine mv_l2i (pc := 81) B d_Book_setCell_81 ?_
          refine mv_lload (pc := 82) B d_Book_setCell_82 0 rfl ?_
          refine mv_callVv (pc := 84) (n := 3) (ci := 12) (C := R_Book) B (mK_ok sk sv) hNs rfl rfl (c_Book_write_x l hi _ _ _ _ th n k w g hT.2.1 hT.2.2.1 (by omega) hK) rfl (ma_goodc kc_Book_write) (B.2.2.2.1 _ k_2542) (B.2.2.2.1 _ k_2544) (B.2.2.2.1 _ ks_137) (B.2.2.2.1 _ k_13) ⟨by decide +kernel, by decide +kernel, by decide +kernel⟩ rfl d_Book_setCell_84 rfl (Nat.le_of_ble_eq_true rfl) ⟨by first | decide | (dsimp only; omega), by first | decide | (dsimp only; omega)⟩ ⟨Nat.le_refl _, Nat.le_refl _⟩ ⟨Nat.le_refl _, Nat.le_refl _⟩ (mv_noH hno _) (fun σ84 h84 => ?_)
          obtain ⟨w84, d84, a84, b84, f84⟩ := h84
          have hT := hT.wr d84 f84
          exact mv_vret (pc := 87) B hr d_Book_setCell_87 (Nat.le_refl _) (Nat.le_refl _) ⟨rfl, by first | exact ⟨w, by omega, hT⟩ | exact ⟨w84, by omega, hT⟩⟩
      · skip
        exact mv_vret (pc := 53) B hr d_Book_setCell_53 (Nat.le_refl _) (Nat.le_refl _) ⟨rfl, w, by omega, by first | exact hT | exact hT.trap⟩
    · skip
      refine mv_aload_n (pc := 40) B d_Book_setCell_40 rfl 1 rfl ?_
      refine mv_bipush (pc := 41) (v := -3) B d_Book_setCell_41 (by decide) ?_
      refine mv_putI (pc := 43) (ci := 12) (C := R_Book) (T := F_Book) (N := 65) B 53 rfl rfl (by decide) i_Book t_Book_ok n_Book (B.2.2.2.1 _ k_1902) rfl rfl rfl rfl d_Book_setCell_43 ?_
      refine mv_aload_n (pc := 46) B d_Book_setCell_46 rfl 1 rfl ?_
      refine mv_getI (pc := 47) (ci := 12) (C := R_Book) (T := F_Book) (N := 65) B 53 rfl rfl (by decide) i_Book (B.2.2.2.1 _ k_1902) rfl d_Book_setCell_47 ?_
      refine mv_if_eq (pc := 50) (tgt := 54) B d_Book_setCell_50 rfl (fun h50 => ?_) (fun h50 => ?_)
      · skip
        exact absurd h50 (by rw [mv_si_s]; decide)
      · skip
        exact mv_vret (pc := 53) B hr d_Book_setCell_53 (Nat.le_refl _) (Nat.le_refl _) ⟨rfl, w, by omega, by first | exact hT | exact hT.trap⟩
set_option maxHeartbeats 4000000 in
set_option maxRecDepth 100000 in
theorem c_Book_setCell_y (l : Launch) {dA : FieldType → ClassId} {D : va_G} {al : Nat → Nat} {ext : mv_Sh} {sk sv : Nat → Nat} (hi : mv_inj (mg dA D al ext)) (σ : mv_H) (v9 : Int32) (th n k w : Nat) (g : Gh) (q : Nat) (hv : v9.toInt = q) (hsn : q < n) (hs : nS 108 σ q = 16) (hw : w ≤ q) (hT : RT 108 th n k g σ σ w) : mv_C l y_Book_setCell (Cond.code y_Book_setCell b_Book_setCell 6 (Option.none : Option Jvm.ClassFile.FieldType) :: ma) ({ frames := 1891, cells := 0, slots := 0, locals := 45448 }) (mg dA D al ext) (mK sk sv) [.ref (al 108), .int v9] σ (mv_Rv (fun σ1 => ∃ w1, w1 ≤ w + 1 ∧ RT 108 th n k g σ σ1 w1)) := by
  refine mv_C.ofV (cc := b_Book_setCell) (nL := 6) (ret := (Option.none : Option Jvm.ClassFile.FieldType)) (by decide +kernel) rfl hi (Nat.le_of_ble_eq_true rfl) ?_
  intro p e s m below meth c B hNs hr hnm hno
  have hn9 := hT.2.1.2.2.1
  have hw12 : w ≤ 12000 := by omega
  have hcv : v9.toNatClampNeg = q := by have := i32_cl (x := v9) (by omega); omega
  have hQ := (hT.sq hsn (by omega)).1
  have hth := hT.2.1.2.2.2.2.1
  obtain ⟨m7, e7, p7⟩ := hT.ep hw12 (Nat.le_of_lt hsn) (hQ.2.2.2.2.2.1 hs)
  have e7 : (mv_a σ 129 v9.toNatClampNeg).toInt = m7 := by rw [hcv]; exact e7
  refine mv_aload_n (pc := 0) B d_Book_setCell_0 rfl 0 rfl ?_
  refine mv_aload_n (pc := 1) B d_Book_setCell_1 rfl 0 rfl ?_
  refine mv_getR (pc := 2) (ci := 12) (C := R_Book) (T := F_Book) (N := 65) B 43 rfl rfl (by decide) i_Book (B.2.2.2.1 _ k_1892) rfl (hT.2.1.1 _ 43 _ rfl) d_Book_setCell_2 ?_
  refine mv_iload_n (pc := 5) B d_Book_setCell_5 rfl 1 rfl ?_
  refine mv_iald (pc := 6) B rfl (i32_in (show 0 ≤ v9.toInt by omega) (show v9.toInt < 33000 by omega)) d_Book_setCell_6 ?_
  refine mv_callVl (pc := 7) (n := 1) (ci := 12) (C := R_Book) B (mK_ok sk sv) hNs rfl rfl (c_Book_value_y l hi 629 _ _ th n k _ 0 g m7 e7 p7) rfl (ma_goodc kc_Book_eval) (B.2.2.2.1 _ k_2500) (B.2.2.2.1 _ k_2502) (B.2.2.2.1 _ ks_131) (B.2.2.2.1 _ k_13) ⟨by decide +kernel, by decide +kernel, by decide +kernel⟩ rfl d_Book_setCell_7 rfl (Nat.le_of_ble_eq_true rfl) ⟨by first | decide | (dsimp only; omega), by first | decide | (dsimp only; omega)⟩ ⟨Nat.le_refl _, Nat.le_refl _⟩ ⟨Nat.le_refl _, Nat.le_refl _⟩ (mv_noH hno _) (fun v7 σ7 h7 => ?_)
  have hT := hT.ev h7
  have hf := hT.1
  have eA : mv_a σ7 127 v9.toNatClampNeg = mv_a σ 127 v9.toNatClampNeg := hf.nd (by omega)
  have ht9 : 0 ≤ (mv_a σ7 127 v9.toNatClampNeg).toInt ∧ (mv_a σ7 127 v9.toNatClampNeg).toInt < th := by rw [eA, hcv]; exact (hQ.2.2.2.2.1 (Or.inr hs)).1
  refine mv_lstore_n (pc := 10) B d_Book_setCell_10 rfl (by decide) rfl ?_
  refine mv_aload_n (pc := 11) B d_Book_setCell_11 rfl 1 rfl ?_
  refine mv_getI (pc := 12) (ci := 12) (C := R_Book) (T := F_Book) (N := 65) B 53 rfl rfl (by decide) i_Book (B.2.2.2.1 _ k_1902) rfl d_Book_setCell_12 ?_
  refine mv_if_ne (pc := 15) (tgt := 46) B d_Book_setCell_15 rfl (fun h15 => ?_) (fun h15 => ?_)
  · skip
    refine mv_aload_n (pc := 46) B d_Book_setCell_46 rfl 1 rfl ?_
    refine mv_getI (pc := 47) (ci := 12) (C := R_Book) (T := F_Book) (N := 65) B 53 rfl rfl (by decide) i_Book (B.2.2.2.1 _ k_1902) rfl d_Book_setCell_47 ?_
    refine mv_if_eq (pc := 50) (tgt := 54) B d_Book_setCell_50 rfl (fun h50 => ?_) (fun h50 => ?_)
    · skip
      exact absurd h50 h15
    · skip
      exact mv_vret (pc := 53) B hr d_Book_setCell_53 (Nat.le_refl _) (Nat.le_refl _) ⟨rfl, w, by omega, by first | exact hT | exact hT.trap⟩
  · skip
    refine mv_lload_n (pc := 18) B d_Book_setCell_18 rfl 0 rfl ?_
    refine mv_lconst (pc := 19) (v := 0) B d_Book_setCell_19 (by decide) ?_
    refine mv_aload_n (pc := 20) B d_Book_setCell_20 rfl 1 rfl ?_
    refine mv_getR (pc := 21) (ci := 12) (C := R_Book) (T := F_Book) (N := 65) B 13 rfl rfl (by decide) i_Book (B.2.2.2.1 _ k_1856) rfl (hT.2.1.1 _ 13 _ rfl) d_Book_setCell_21 ?_
    refine mv_aload_n (pc := 24) B d_Book_setCell_24 rfl 1 rfl ?_
    refine mv_getR (pc := 25) (ci := 12) (C := R_Book) (T := F_Book) (N := 65) B 41 rfl rfl (by decide) i_Book (B.2.2.2.1 _ k_1890) rfl (hT.2.1.1 _ 41 _ rfl) d_Book_setCell_25 ?_
    refine mv_iload_n (pc := 28) B d_Book_setCell_28 rfl 2 rfl ?_
    refine mv_iald (pc := 29) B rfl (i32_in (show 0 ≤ v9.toInt by omega) (show v9.toInt < 33000 by omega)) d_Book_setCell_29 ?_
    refine mv_iald (pc := 30) B rfl (i32_in ht9.1 (show (mv_a σ7 127 v9.toNatClampNeg).toInt < 4100 by omega)) d_Book_setCell_30 ?_
    refine mv_iconst (pc := 31) (v := 1) B d_Book_setCell_31 (by decide) ?_
    refine mv_isub (pc := 32) B d_Book_setCell_32 ?_
    refine mv_i2l (pc := 33) B d_Book_setCell_33 ?_
    refine mv_callSNi (pc := 34) (n := 3) B (mK_ok sk sv) hNs (c_Model_in l hi _ _ _ _) rfl (ma_goodc kc_Model_in) (va_Nw.use rfl (hNs.1 _ (List.mem_of_getElem? (i := 7) rfl))) (B.2.2.2.1 _ k_2208) (B.2.2.2.1 _ k_12) ⟨by decide +kernel, by decide +kernel, by decide +kernel⟩ rfl d_Book_setCell_34 rfl (Nat.le_of_ble_eq_true rfl) ⟨by first | decide | (dsimp only; omega), by first | decide | (dsimp only; omega)⟩ ⟨Nat.le_refl _, Nat.le_refl _⟩ ⟨Nat.le_refl _, Nat.le_refl _⟩ (mv_noH hno _) (fun v34 σ34 h34 => ?_)
    obtain ⟨e34, z34⟩ := h34
    have e34 := e34.symm
    subst e34
    refine mv_if_ne (pc := 37) (tgt := 46) B d_Book_setCell_37 rfl (fun h37 => ?_) (fun h37 => ?_)
    · skip
      have z35 := z34.resolve_left h37
      have hcell : 0 ≤ (mv_a σ7 112 (mv_a σ7 127 v9.toNatClampNeg).toNatClampNeg).toInt := (hT.2.1.2.2.2.2.2.1 _ (by have := i32_cl ht9.1; omega)).2.1.1
      have z36 := l2i_in z35.2.1 z35.2.2 hcell
      have hK7 : WK 108 th σ7 (mv_a σ7 127 v9.toNatClampNeg) v7.toInt32 := ⟨ht9.1, ht9.2, z36.1, Or.inl z36.2⟩
      refine mv_aload_n (pc := 46) B d_Book_setCell_46 rfl 1 rfl ?_
      refine mv_getI (pc := 47) (ci := 12) (C := R_Book) (T := F_Book) (N := 65) B 53 rfl rfl (by decide) i_Book (B.2.2.2.1 _ k_1902) rfl d_Book_setCell_47 ?_
      refine mv_if_eq (pc := 50) (tgt := 54) B d_Book_setCell_50 rfl (fun h50 => ?_) (fun h50 => ?_)
      · skip
        have hs : nS 108 σ7 q = 16 := by rw [nS.df hf]; exact hs
        have hQ := (hT.sq hsn (by omega)).1
        obtain ⟨m61, e61, p61⟩ := hT.ep hw12 (Nat.le_of_lt hsn) ((hQ.2.2.2.2.1 (Or.inr hs)).2)
        have e61 : (mv_a σ7 128 v9.toNatClampNeg).toInt = m61 := by rw [hcv]; exact e61
        refine mv_aload_n (pc := 54) B d_Book_setCell_54 rfl 1 rfl ?_
        refine mv_aload_n (pc := 55) B d_Book_setCell_55 rfl 1 rfl ?_
        refine mv_getR (pc := 56) (ci := 12) (C := R_Book) (T := F_Book) (N := 65) B 42 rfl rfl (by decide) i_Book (B.2.2.2.1 _ k_1891) rfl (hT.2.1.1 _ 42 _ rfl) d_Book_setCell_56 ?_
        refine mv_iload_n (pc := 59) B d_Book_setCell_59 rfl 2 rfl ?_
        refine mv_iald (pc := 60) B rfl (i32_in (show 0 ≤ v9.toInt by omega) (show v9.toInt < 33000 by omega)) d_Book_setCell_60 ?_
        refine mv_callVl (pc := 61) (n := 1) (ci := 12) (C := R_Book) B (mK_ok sk sv) hNs rfl rfl (c_Book_value_y l hi 629 _ _ th n k _ 0 g m61 e61 p61) rfl (ma_goodc kc_Book_eval) (B.2.2.2.1 _ k_2500) (B.2.2.2.1 _ k_2502) (B.2.2.2.1 _ ks_131) (B.2.2.2.1 _ k_13) ⟨by decide +kernel, by decide +kernel, by decide +kernel⟩ rfl d_Book_setCell_61 rfl (Nat.le_of_ble_eq_true rfl) ⟨by first | decide | (dsimp only; omega), by first | decide | (dsimp only; omega)⟩ ⟨Nat.le_refl _, Nat.le_refl _⟩ ⟨Nat.le_refl _, Nat.le_refl _⟩ (mv_noH hno _) (fun v61 σ61 h61 => ?_)
        have hT := hT.ev h61
        have hf := h61.1.df
        have eA : mv_a σ61 127 v9.toNatClampNeg = mv_a σ7 127 v9.toNatClampNeg := hf.nd (by omega)
        have ht9 : 0 ≤ (mv_a σ61 127 v9.toNatClampNeg).toInt ∧ (mv_a σ61 127 v9.toNatClampNeg).toInt < th := by rw [eA, hcv]; exact (hQ.2.2.2.2.1 (Or.inr hs)).1
        have hK : WK 108 th σ61 (mv_a σ61 127 v9.toNatClampNeg) v7.toInt32 := by
          have e9 : mv_a σ61 127 v9.toNatClampNeg = mv_a σ7 127 v9.toNatClampNeg := h61.1.nd (by omega)
          rw [e9]
          exact hK7.fr (fun j => h61.1.nd (by omega))
        refine mv_lstore (pc := 64) B d_Book_setCell_64 (by decide) rfl ?_
        refine mv_aload_n (pc := 66) B d_Book_setCell_66 rfl 2 rfl ?_
        refine mv_getI (pc := 67) (ci := 12) (C := R_Book) (T := F_Book) (N := 65) B 53 rfl rfl (by decide) i_Book (B.2.2.2.1 _ k_1902) rfl d_Book_setCell_67 ?_
        refine mv_if_ne (pc := 70) (tgt := 87) B d_Book_setCell_70 rfl (fun h70 => ?_) (fun h70 => ?_)
        · skip
          exact mv_vret (pc := 87) B hr d_Book_setCell_87 (Nat.le_refl _) (Nat.le_refl _) ⟨rfl, by first | exact ⟨w, by omega, hT⟩ | exact ⟨w84, by omega, hT⟩⟩
        · skip
          refine mv_aload_n (pc := 73) B d_Book_setCell_73 rfl 2 rfl ?_
          refine mv_aload_n (pc := 74) B d_Book_setCell_74 rfl 2 rfl ?_
          refine mv_getR (pc := 75) (ci := 12) (C := R_Book) (T := F_Book) (N := 65) B 41 rfl rfl (by decide) i_Book (B.2.2.2.1 _ k_1890) rfl (hT.2.1.1 _ 41 _ rfl) d_Book_setCell_75 ?_
          refine mv_iload_n (pc := 78) B d_Book_setCell_78 rfl 3 rfl ?_
          refine mv_iald (pc := 79) B rfl (i32_in (show 0 ≤ v9.toInt by omega) (show v9.toInt < 33000 by omega)) d_Book_setCell_79 ?_
          refine mv_lload_n (pc := 80) B d_Book_setCell_80 rfl 1 rfl ?_
          refine mv_l2i (pc := 81) B d_Book_setCell_81 ?_
          refine mv_lload (pc := 82) B d_Book_setCell_82 0 rfl ?_
          refine mv_callVv (pc := 84) (n := 3) (ci := 12) (C := R_Book) B (mK_ok sk sv) hNs rfl rfl (c_Book_write_y l hi _ _ _ _ th n k w g hT.2.1 hT.2.2.1 (by omega) hK) rfl (ma_goodc kc_Book_write) (B.2.2.2.1 _ k_2542) (B.2.2.2.1 _ k_2544) (B.2.2.2.1 _ ks_137) (B.2.2.2.1 _ k_13) ⟨by decide +kernel, by decide +kernel, by decide +kernel⟩ rfl d_Book_setCell_84 rfl (Nat.le_of_ble_eq_true rfl) ⟨by first | decide | (dsimp only; omega), by first | decide | (dsimp only; omega)⟩ ⟨Nat.le_refl _, Nat.le_refl _⟩ ⟨Nat.le_refl _, Nat.le_refl _⟩ (mv_noH hno _) (fun σ84 h84 => ?_)
          obtain ⟨w84, d84, a84, b84, f84⟩ := h84
          have hT := hT.wr d84 f84
          exact mv_vret (pc := 87) B hr d_Book_setCell_87 (Nat.le_refl _) (Nat.le_refl _) ⟨rfl, by first | exact ⟨w, by omega, hT⟩ | exact ⟨w84, by omega, hT⟩⟩
      · skip
        exact mv_vret (pc := 53) B hr d_Book_setCell_53 (Nat.le_refl _) (Nat.le_refl _) ⟨rfl, w, by omega, by first | exact hT | exact hT.trap⟩
    · skip
      refine mv_aload_n (pc := 40) B d_Book_setCell_40 rfl 1 rfl ?_
      refine mv_bipush (pc := 41) (v := -3) B d_Book_setCell_41 (by decide) ?_
      refine mv_putI (pc := 43) (ci := 12) (C := R_Book) (T := F_Book) (N := 65) B 53 rfl rfl (by decide) i_Book t_Book_ok n_Book (B.2.2.2.1 _ k_1902) rfl rfl rfl rfl d_Book_setCell_43 ?_
      refine mv_aload_n (pc := 46) B d_Book_setCell_46 rfl 1 rfl ?_
      refine mv_getI (pc := 47) (ci := 12) (C := R_Book) (T := F_Book) (N := 65) B 53 rfl rfl (by decide) i_Book (B.2.2.2.1 _ k_1902) rfl d_Book_setCell_47 ?_
      refine mv_if_eq (pc := 50) (tgt := 54) B d_Book_setCell_50 rfl (fun h50 => ?_) (fun h50 => ?_)
      · skip
        exact absurd h50 (by rw [mv_si_s]; decide)
      · skip
        exact mv_vret (pc := 53) B hr d_Book_setCell_53 (Nat.le_refl _) (Nat.le_refl _) ⟨rfl, w, by omega, by first | exact hT | exact hT.trap⟩
theorem k_2496 : (Jvm.Cond.methodLink "MachineLoomModel$Book" (514 : Nat) ({ cls := "MachineLoomModel$Book", name := "run", desc := "(I)V" } : Jvm.MethodName)) ∈ ma := ma_of (tb_11 _ (List.mem_of_getElem? (i := 96) rfl)) rfl
theorem k_2498 : (Jvm.Cond.instanceMethod ({ cls := "MachineLoomModel$Book", name := "run", desc := "(I)V" } : Jvm.MethodName)) ∈ ma := ma_of (tb_11 _ (List.mem_of_getElem? (i := 98) rfl)) rfl
theorem ks_130 : Cond.selects "MachineLoomModel$Book" ⟨"MachineLoomModel$Book", "run", "(I)V"⟩ ⟨"MachineLoomModel$Book", "run", "(I)V"⟩ ∈ ma := ma_sel 130 rfl rfl
theorem d_Book_branch_0 : decode b_Book_branch 0 = .ok (.iload_n 1, 1) := by decide +kernel
theorem d_Book_branch_1 : decode b_Book_branch 1 = .ok (.istore_n 2, 1) := by decide +kernel
theorem d_Book_branch_2 : decode b_Book_branch 2 = .ok (.iload_n 2, 1) := by decide +kernel
theorem d_Book_branch_3 : decode b_Book_branch 3 = .ok (.ifCond .lt (94), 3) := by decide +kernel
theorem d_Book_branch_6 : decode b_Book_branch 6 = .ok (.aload_n 0, 1) := by decide +kernel
theorem d_Book_branch_7 : decode b_Book_branch 7 = .ok (.aload_n 0, 1) := by decide +kernel
theorem d_Book_branch_8 : decode b_Book_branch 8 = .ok (.getfield 85, 3) := by decide +kernel
theorem d_Book_branch_11 : decode b_Book_branch 11 = .ok (.iload_n 2, 1) := by decide +kernel
theorem d_Book_branch_12 : decode b_Book_branch 12 = .ok (.iaload, 1) := by decide +kernel
theorem d_Book_branch_13 : decode b_Book_branch 13 = .ok (.invokevirtual 470, 3) := by decide +kernel
theorem d_Book_branch_16 : decode b_Book_branch 16 = .ok (.lconst 0, 1) := by decide +kernel
theorem d_Book_branch_17 : decode b_Book_branch 17 = .ok (.lcmp, 1) := by decide +kernel
theorem d_Book_branch_18 : decode b_Book_branch 18 = .ok (.ifCond .eq (7), 3) := by decide +kernel
theorem d_Book_branch_21 : decode b_Book_branch 21 = .ok (.iconst 1, 1) := by decide +kernel
theorem d_Book_branch_22 : decode b_Book_branch 22 = .ok (.goto (4), 3) := by decide +kernel
theorem d_Book_branch_25 : decode b_Book_branch 25 = .ok (.iconst 0, 1) := by decide +kernel
theorem d_Book_branch_26 : decode b_Book_branch 26 = .ok (.istore_n 3, 1) := by decide +kernel
theorem d_Book_branch_27 : decode b_Book_branch 27 = .ok (.aload_n 0, 1) := by decide +kernel
theorem d_Book_branch_28 : decode b_Book_branch 28 = .ok (.getfield 502, 3) := by decide +kernel
theorem d_Book_branch_31 : decode b_Book_branch 31 = .ok (.ifCond .eq (4), 3) := by decide +kernel
theorem d_Book_branch_34 : decode b_Book_branch 34 = .ok (.return_, 1) := by decide +kernel
theorem d_Book_branch_35 : decode b_Book_branch 35 = .ok (.iload_n 3, 1) := by decide +kernel
theorem d_Book_branch_36 : decode b_Book_branch 36 = .ok (.ifCond .eq (14), 3) := by decide +kernel
theorem d_Book_branch_39 : decode b_Book_branch 39 = .ok (.aload_n 0, 1) := by decide +kernel
theorem d_Book_branch_40 : decode b_Book_branch 40 = .ok (.aload_n 0, 1) := by decide +kernel
theorem d_Book_branch_41 : decode b_Book_branch 41 = .ok (.getfield 88, 3) := by decide +kernel
theorem d_Book_branch_44 : decode b_Book_branch 44 = .ok (.iload_n 2, 1) := by decide +kernel
theorem d_Book_branch_45 : decode b_Book_branch 45 = .ok (.iaload, 1) := by decide +kernel
theorem d_Book_branch_46 : decode b_Book_branch 46 = .ok (.invokevirtual 514, 3) := by decide +kernel
theorem d_Book_branch_49 : decode b_Book_branch 49 = .ok (.return_, 1) := by decide +kernel
theorem d_Book_branch_50 : decode b_Book_branch 50 = .ok (.aload_n 0, 1) := by decide +kernel
theorem d_Book_branch_51 : decode b_Book_branch 51 = .ok (.getfield 91, 3) := by decide +kernel
theorem d_Book_branch_54 : decode b_Book_branch 54 = .ok (.iload_n 2, 1) := by decide +kernel
theorem d_Book_branch_55 : decode b_Book_branch 55 = .ok (.iaload, 1) := by decide +kernel
theorem d_Book_branch_56 : decode b_Book_branch 56 = .ok (.istore 4, 2) := by decide +kernel
theorem d_Book_branch_58 : decode b_Book_branch 58 = .ok (.iload 4, 2) := by decide +kernel
theorem d_Book_branch_60 : decode b_Book_branch 60 = .ok (.ifCond .lt (24), 3) := by decide +kernel
theorem d_Book_branch_63 : decode b_Book_branch 63 = .ok (.aload_n 0, 1) := by decide +kernel
theorem d_Book_branch_64 : decode b_Book_branch 64 = .ok (.getfield 82, 3) := by decide +kernel
theorem d_Book_branch_67 : decode b_Book_branch 67 = .ok (.iload 4, 2) := by decide +kernel
theorem d_Book_branch_69 : decode b_Book_branch 69 = .ok (.iaload, 1) := by decide +kernel
theorem d_Book_branch_70 : decode b_Book_branch 70 = .ok (.bipush 18, 2) := by decide +kernel
theorem d_Book_branch_72 : decode b_Book_branch 72 = .ok (.if_icmp .ne (12), 3) := by decide +kernel
theorem d_Book_branch_75 : decode b_Book_branch 75 = .ok (.aload_n 0, 1) := by decide +kernel
theorem d_Book_branch_76 : decode b_Book_branch 76 = .ok (.getfield 104, 3) := by decide +kernel
theorem d_Book_branch_79 : decode b_Book_branch 79 = .ok (.iload_n 2, 1) := by decide +kernel
theorem d_Book_branch_80 : decode b_Book_branch 80 = .ok (.baload, 1) := by decide +kernel
theorem d_Book_branch_81 : decode b_Book_branch 81 = .ok (.ifCond .ne (10), 3) := by decide +kernel
theorem d_Book_branch_84 : decode b_Book_branch 84 = .ok (.aload_n 0, 1) := by decide +kernel
theorem d_Book_branch_85 : decode b_Book_branch 85 = .ok (.iload 4, 2) := by decide +kernel
theorem d_Book_branch_87 : decode b_Book_branch 87 = .ok (.invokevirtual 514, 3) := by decide +kernel
theorem d_Book_branch_90 : decode b_Book_branch 90 = .ok (.return_, 1) := by decide +kernel
theorem d_Book_branch_91 : decode b_Book_branch 91 = .ok (.iload 4, 2) := by decide +kernel
theorem d_Book_branch_93 : decode b_Book_branch 93 = .ok (.istore_n 2, 1) := by decide +kernel
theorem d_Book_branch_94 : decode b_Book_branch 94 = .ok (.goto (-92), 3) := by decide +kernel
set_option maxHeartbeats 4000000 in
set_option maxRecDepth 100000 in
theorem c_Book_branch_x (l : Launch) {dA : FieldType → ClassId} {D : va_G} {al : Nat → Nat} {ext : mv_Sh} {sk sv : Nat → Nat} (hi : mv_inj (mg dA D al ext)) (σ : mv_H) (v9 : Int32) (th n k w H : Nat) (g : Gh) (q r : Nat) (hv : v9.toInt = q) (hI : IB 74 n r w H g σ q) (hT : RT 74 th n k g σ σ w) (hR0 : ∀ j, j + 1 = r → RvR l dA D al ext sk sv 74 j) : mv_C l y_Book_branch (Cond.code y_Book_branch b_Book_branch 5 (Option.none : Option Jvm.ClassFile.FieldType) :: ma) ({ frames := 2 * r + 1891, cells := 0, slots := 0, locals := 60 * r + 45458 }) (mg dA D al ext) (mK sk sv) [.ref (al 74), .int v9] σ (mv_Rv (fun σ1 => ∃ w1, w1 ≤ H ∧ RT 74 th n k g σ σ1 w1)) := by
  refine mv_C.ofV (cc := b_Book_branch) (nL := 5) (ret := (Option.none : Option Jvm.ClassFile.FieldType)) (by decide +kernel) rfl hi (Nat.le_of_ble_eq_true rfl) ?_
  intro p e s m below meth c B hNs hr hnm hno
  have hn9 := hT.2.1.2.2.1
  have lp : ∀ (nn : Nat) (τ : mv_H) (w9 : Nat) (q9 : Nat) (x9 : Int32) (hx9 : x9.toInt = q9) (hT : RT 74 th n k g σ τ w9) (hI : IB 74 n r w9 H g τ q9), H - q9 < nn → mv_V p l e ({ frames := 2 * r + 1891, cells := 0, slots := 0, locals := 60 * r + 45458 }) s m ([.ref (al 74), .int v9] : List Value).toArray below meth c (mg dA D al ext) 5 0 0 (mv_Q (mg dA D al ext) below s 0 0 (mv_Rv (fun σ1 => ∃ w1, w1 ≤ H ∧ RT 74 th n k g σ σ1 w1))) τ 2 [(2, .int x9), (0, .ref (al 74)), (1, .int v9)] [] := by
    intro nn
    induction nn with
    | zero => intro τ w9 q9 x9 hx9 hT hI hm; exact absurd hm (Nat.not_lt_zero _)
    | succ nn ih =>
      intro τ w9 q9 x9 hx9 hT hI hm
      have hcx : x9.toNatClampNeg = q9 := by have := i32_cl (x := x9) (by omega); omega
      have hI1 := hI.1
      have hI2 := hI.2.1
      have hI3 := hI.2.2.2.2.2.2
      have hI4 := hI.2.2.2.1
      have hb9 := (hT.sq (q := q9) (by omega) (by rw [hI.2.2.1]; decide)).1.2.2.1
      have hr1 : r - 1 + 1 = r := by omega
      refine mv_iload_n (pc := 2) B d_Book_branch_2 rfl 0 rfl ?_
      refine mv_if_lt (pc := 3) (tgt := 97) B d_Book_branch_3 rfl (fun h3 => ?_) (fun h3 => ?_)
      · skip
        exact absurd (Int32.lt_iff_toInt_lt.mp h3) (by show ¬ x9.toInt < 0; omega)
      · skip
        have hQ := (hT.sq (q := q9) (by have := hI.1; omega) (by rw [hI.2.2.1]; decide)).1
        obtain ⟨m13, e13, p13⟩ := hT.ep (by omega) (by omega) (hQ.2.2.2.2.2.2.1 hI.2.2.1).1
        have e13 : (mv_a τ 93 x9.toNatClampNeg).toInt = m13 := by rw [hcx]; exact e13
        refine mv_aload_n (pc := 6) B d_Book_branch_6 rfl 1 rfl ?_
        refine mv_aload_n (pc := 7) B d_Book_branch_7 rfl 1 rfl ?_
        refine mv_getR (pc := 8) (ci := 12) (C := R_Book) (T := F_Book) (N := 65) B 41 rfl rfl (by decide) i_Book (B.2.2.2.1 _ k_1890) rfl (hT.2.1.1 _ 41 _ rfl) d_Book_branch_8 ?_
        refine mv_iload_n (pc := 11) B d_Book_branch_11 rfl 0 rfl ?_
        refine mv_iald (pc := 12) B rfl (i32_in (show 0 ≤ x9.toInt by omega) (show x9.toInt < 33000 by omega)) d_Book_branch_12 ?_
        refine mv_callVl (pc := 13) (n := 1) (ci := 12) (C := R_Book) B (mK_ok sk sv) hNs rfl rfl (c_Book_value_x l hi 629 _ _ th n k _ 0 g m13 e13 p13) rfl (ma_goodc kc_Book_eval) (B.2.2.2.1 _ k_2500) (B.2.2.2.1 _ k_2502) (B.2.2.2.1 _ ks_131) (B.2.2.2.1 _ k_13) ⟨by decide +kernel, by decide +kernel, by decide +kernel⟩ rfl d_Book_branch_13 rfl (Nat.le_of_ble_eq_true rfl) ⟨by first | decide | (dsimp only; omega), by first | decide | (dsimp only; omega)⟩ ⟨Nat.le_refl _, Nat.le_refl _⟩ ⟨Nat.le_refl _, Nat.le_refl _⟩ (mv_noH hno _) (fun v13 σ13 h13 => ?_)
        have hT := hT.ev h13
        have hI := hI.df h13.1.df
        have hbody : RB 74 n (r - 1) w9 q9 g σ13 (mv_a σ13 94 x9.toNatClampNeg) := by rw [hcx]; exact hI.body hT
        have hE := hI.else hT
        have j26 : ∀ (b9 : Int32) , mv_V p l e ({ frames := 2 * r + 1891, cells := 0, slots := 0, locals := 60 * r + 45458 }) s m ([.ref (al 74), .int v9] : List Value).toArray below meth c (mg dA D al ext) 5 0 0 (mv_Q (mg dA D al ext) below s 0 0 (mv_Rv (fun σ1 => ∃ w1, w1 ≤ H ∧ RT 74 th n k g σ σ1 w1))) σ13 26 [(2, .int x9), (0, .ref (al 74)), (1, .int v9)] [.int b9] := by
          intro b9
          refine mv_istore_n (pc := 26) B d_Book_branch_26 rfl (by decide) rfl ?_
          refine mv_aload_n (pc := 27) B d_Book_branch_27 rfl 2 rfl ?_
          refine mv_getI (pc := 28) (ci := 12) (C := R_Book) (T := F_Book) (N := 65) B 53 rfl rfl (by decide) i_Book (B.2.2.2.1 _ k_1902) rfl d_Book_branch_28 ?_
          refine mv_if_eq (pc := 31) (tgt := 35) B d_Book_branch_31 rfl (fun h31 => ?_) (fun h31 => ?_)
          · skip
            refine mv_iload_n (pc := 35) B d_Book_branch_35 rfl 0 rfl ?_
            refine mv_if_eq (pc := 36) (tgt := 50) B d_Book_branch_36 rfl (fun h36 => ?_) (fun h36 => ?_)
            · skip
              refine mv_aload_n (pc := 50) B d_Book_branch_50 rfl 2 rfl ?_
              refine mv_getR (pc := 51) (ci := 12) (C := R_Book) (T := F_Book) (N := 65) B 43 rfl rfl (by decide) i_Book (B.2.2.2.1 _ k_1892) rfl (hT.2.1.1 _ 43 _ rfl) d_Book_branch_51 ?_
              refine mv_iload_n (pc := 54) B d_Book_branch_54 rfl 1 rfl ?_
              refine mv_iald (pc := 55) B rfl (i32_in (show 0 ≤ x9.toInt by omega) (show x9.toInt < 33000 by omega)) d_Book_branch_55 ?_
              refine mv_topi (fun y9 ey9 => ?_)
              refine mv_istore (pc := 56) B d_Book_branch_56 (by decide) rfl ?_
              have hy : y9 = mv_a σ13 (74 + 21) q9 := by rw [← hcx]; exact ey9
              clear ey9
              refine mv_iload (pc := 58) B d_Book_branch_58 0 rfl ?_
              refine mv_if_lt (pc := 60) (tgt := 84) B d_Book_branch_60 rfl (fun h60 => ?_) (fun h60 => ?_)
              · skip
                have hrun := hE.2 (Or.inl (hE.1.resolve_right (fun ⟨t, z, _⟩ => by have z1 : y9.toInt < 0 := Int32.lt_iff_toInt_lt.mp h60; rw [hy, z] at z1; omega)))
                refine mv_aload_n (pc := 84) B d_Book_branch_84 rfl 3 rfl ?_
                refine mv_iload (pc := 85) B d_Book_branch_85 0 rfl ?_
                refine mv_callVv (pc := 87) (n := 1) (ci := 12) (C := R_Book) B (mK_ok sk sv) hNs rfl rfl (hR0 (r - 1) hr1 _ _ th n k w9 H g (by rw [hy]; exact hrun) hT.at) rfl (ma_goodc kc_Book_run) (B.2.2.2.1 _ k_2496) (B.2.2.2.1 _ k_2498) (B.2.2.2.1 _ ks_130) (B.2.2.2.1 _ k_13) ⟨by decide +kernel, by decide +kernel, by decide +kernel⟩ rfl d_Book_branch_87 rfl (Nat.le_of_ble_eq_true rfl) ⟨by first | decide | (dsimp only; omega), by first | decide | (dsimp only; omega)⟩ ⟨Nat.le_refl _, Nat.le_refl _⟩ ⟨Nat.le_refl _, Nat.le_refl _⟩ (mv_noH hno _) (fun σ87 h87 => ?_)
                obtain ⟨w87, a87, g87⟩ := h87
                have hT := hT.tr g87
                exact mv_vret (pc := 90) B hr d_Book_branch_90 (Nat.le_refl _) (Nat.le_refl _) ⟨rfl, w87, a87, hT⟩
              · skip
                have hy0 : ¬ y9.toInt < 0 := fun z => h60 (Int32.lt_iff_toInt_lt.mpr z)
                obtain ⟨t8, et, st8, lt8, nt8, it8⟩ := hE.1.resolve_left (fun z => hy0 (by rw [hy, z]; decide))
                rw [← hy] at et
                have hcy : y9.toNatClampNeg = t8 := by have := i32_cl (x := y9) (by omega); omega
                refine mv_aload_n (pc := 63) B d_Book_branch_63 rfl 3 rfl ?_
                refine mv_getR (pc := 64) (ci := 12) (C := R_Book) (T := F_Book) (N := 65) B 40 rfl rfl (by decide) i_Book (B.2.2.2.1 _ k_1889) rfl (hT.2.1.1 _ 40 _ rfl) d_Book_branch_64 ?_
                refine mv_iload (pc := 67) B d_Book_branch_67 0 rfl ?_
                refine mv_iald (pc := 69) B rfl (i32_in (show 0 ≤ y9.toInt by omega) (show y9.toInt < 33000 by omega)) d_Book_branch_69 ?_
                refine mv_bipush (pc := 70) (v := 18) B d_Book_branch_70 (by decide) ?_
                refine mv_icmp_ne (pc := 72) (tgt := 84) B d_Book_branch_72 rfl (fun h72 => ?_) (fun h72 => ?_)
                · skip
                  have hrun := hE.2 (Or.inr (Or.inr (fun z => h72 (by rw [← hy] at z; exact Int32.toInt_inj.mp z))))
                  refine mv_aload_n (pc := 84) B d_Book_branch_84 rfl 3 rfl ?_
                  refine mv_iload (pc := 85) B d_Book_branch_85 0 rfl ?_
                  refine mv_callVv (pc := 87) (n := 1) (ci := 12) (C := R_Book) B (mK_ok sk sv) hNs rfl rfl (hR0 (r - 1) hr1 _ _ th n k w9 H g (by rw [hy]; exact hrun) hT.at) rfl (ma_goodc kc_Book_run) (B.2.2.2.1 _ k_2496) (B.2.2.2.1 _ k_2498) (B.2.2.2.1 _ ks_130) (B.2.2.2.1 _ k_13) ⟨by decide +kernel, by decide +kernel, by decide +kernel⟩ rfl d_Book_branch_87 rfl (Nat.le_of_ble_eq_true rfl) ⟨by first | decide | (dsimp only; omega), by first | decide | (dsimp only; omega)⟩ ⟨Nat.le_refl _, Nat.le_refl _⟩ ⟨Nat.le_refl _, Nat.le_refl _⟩ (mv_noH hno _) (fun σ87 h87 => ?_)
                  obtain ⟨w87, a87, g87⟩ := h87
                  have hT := hT.tr g87
                  exact mv_vret (pc := 90) B hr d_Book_branch_90 (Nat.le_refl _) (Nat.le_refl _) ⟨rfl, w87, a87, hT⟩
                · skip
                  refine mv_aload_n (pc := 75) B d_Book_branch_75 rfl 3 rfl ?_
                  refine mv_getR (pc := 76) (ci := 12) (C := R_Book) (T := F_Book) (N := 65) B 47 rfl rfl (by decide) i_Book (B.2.2.2.1 _ k_1896) rfl (hT.2.1.1 _ 47 _ rfl) d_Book_branch_76 ?_
                  refine mv_iload_n (pc := 79) B d_Book_branch_79 rfl 2 rfl ?_
                  refine mv_zald (pc := 80) B rfl (i32_in (show 0 ≤ x9.toInt by omega) (show x9.toInt < 33000 by omega)) d_Book_branch_80 ?_
                  refine mv_if_ne (pc := 81) (tgt := 91) B d_Book_branch_81 rfl (fun h81 => ?_) (fun h81 => ?_)
                  · skip
                    refine mv_iload (pc := 91) B d_Book_branch_91 0 rfl ?_
                    refine mv_istore_n (pc := 93) B d_Book_branch_93 rfl (by decide) rfl ?_
                    refine mv_goto (pc := 94) (tgt := 2) B d_Book_branch_94 rfl ?_
                    refine mv_lpick [0, 3, 4] rfl ?_
                    have hI8 := it8 (by rw [← hcx]; exact h81)
                    clear it8 hE
                    exact ih _ _ _ _ et hT hI8 (by omega)
                  · skip
                    have hrun := hE.2 (Or.inr (Or.inl (by rw [← hcx]; exact h81)))
                    refine mv_aload_n (pc := 84) B d_Book_branch_84 rfl 3 rfl ?_
                    refine mv_iload (pc := 85) B d_Book_branch_85 0 rfl ?_
                    refine mv_callVv (pc := 87) (n := 1) (ci := 12) (C := R_Book) B (mK_ok sk sv) hNs rfl rfl (hR0 (r - 1) hr1 _ _ th n k w9 H g (by rw [hy]; exact hrun) hT.at) rfl (ma_goodc kc_Book_run) (B.2.2.2.1 _ k_2496) (B.2.2.2.1 _ k_2498) (B.2.2.2.1 _ ks_130) (B.2.2.2.1 _ k_13) ⟨by decide +kernel, by decide +kernel, by decide +kernel⟩ rfl d_Book_branch_87 rfl (Nat.le_of_ble_eq_true rfl) ⟨by first | decide | (dsimp only; omega), by first | decide | (dsimp only; omega)⟩ ⟨Nat.le_refl _, Nat.le_refl _⟩ ⟨Nat.le_refl _, Nat.le_refl _⟩ (mv_noH hno _) (fun σ87 h87 => ?_)
                    obtain ⟨w87, a87, g87⟩ := h87
                    have hT := hT.tr g87
                    exact mv_vret (pc := 90) B hr d_Book_branch_90 (Nat.le_refl _) (Nat.le_refl _) ⟨rfl, w87, a87, hT⟩
            · skip
              refine mv_aload_n (pc := 39) B d_Book_branch_39 rfl 2 rfl ?_
              refine mv_aload_n (pc := 40) B d_Book_branch_40 rfl 2 rfl ?_
              refine mv_getR (pc := 41) (ci := 12) (C := R_Book) (T := F_Book) (N := 65) B 42 rfl rfl (by decide) i_Book (B.2.2.2.1 _ k_1891) rfl (hT.2.1.1 _ 42 _ rfl) d_Book_branch_41 ?_
              refine mv_iload_n (pc := 44) B d_Book_branch_44 rfl 1 rfl ?_
              refine mv_iald (pc := 45) B rfl (i32_in (show 0 ≤ x9.toInt by omega) (show x9.toInt < 33000 by omega)) d_Book_branch_45 ?_
              refine mv_callVv (pc := 46) (n := 1) (ci := 12) (C := R_Book) B (mK_ok sk sv) hNs rfl rfl (hR0 (r - 1) hr1 _ _ th n k w9 q9 g hbody hT.at) rfl (ma_goodc kc_Book_run) (B.2.2.2.1 _ k_2496) (B.2.2.2.1 _ k_2498) (B.2.2.2.1 _ ks_130) (B.2.2.2.1 _ k_13) ⟨by decide +kernel, by decide +kernel, by decide +kernel⟩ rfl d_Book_branch_46 rfl (Nat.le_of_ble_eq_true rfl) ⟨by first | decide | (dsimp only; omega), by first | decide | (dsimp only; omega)⟩ ⟨Nat.le_refl _, Nat.le_refl _⟩ ⟨Nat.le_refl _, Nat.le_refl _⟩ (mv_noH hno _) (fun σ46 h46 => ?_)
              obtain ⟨w46, a46, g46⟩ := h46
              have hT := hT.tr g46
              exact mv_vret (pc := 49) B hr d_Book_branch_49 (Nat.le_refl _) (Nat.le_refl _) ⟨rfl, w46, by omega, hT⟩
          · skip
            exact mv_vret (pc := 34) B hr d_Book_branch_34 (Nat.le_refl _) (Nat.le_refl _) ⟨rfl, w9, by omega, hT⟩
        refine mv_lconst (pc := 16) (v := 0) B d_Book_branch_16 (by decide) ?_
        refine mv_lcmp (pc := 17) B d_Book_branch_17 ?_
        refine mv_if_eq (pc := 18) (tgt := 25) B d_Book_branch_18 rfl (fun h18 => ?_) (fun h18 => ?_)
        · skip
          refine mv_iconst (pc := 25) (v := 0) B d_Book_branch_25 (by decide) ?_
          refine mv_lpick [0, 1, 2] rfl ?_
          exact j26 _
        · skip
          refine mv_iconst (pc := 21) (v := 1) B d_Book_branch_21 (by decide) ?_
          refine mv_goto (pc := 22) (tgt := 26) B d_Book_branch_22 rfl ?_
          refine mv_lpick [0, 1, 2] rfl ?_
          exact j26 _
  refine mv_iload_n (pc := 0) B d_Book_branch_0 rfl 1 rfl ?_
  refine mv_istore_n (pc := 1) B d_Book_branch_1 rfl (by decide) rfl ?_
  refine mv_lpick [0, 1, 2] rfl ?_
  exact lp _ _ _ _ _ hv hT hI (Nat.lt_succ_self _)
set_option maxHeartbeats 4000000 in
set_option maxRecDepth 100000 in
theorem c_Book_branch_y (l : Launch) {dA : FieldType → ClassId} {D : va_G} {al : Nat → Nat} {ext : mv_Sh} {sk sv : Nat → Nat} (hi : mv_inj (mg dA D al ext)) (σ : mv_H) (v9 : Int32) (th n k w H : Nat) (g : Gh) (q r : Nat) (hv : v9.toInt = q) (hI : IB 108 n r w H g σ q) (hT : RT 108 th n k g σ σ w) (hR0 : ∀ j, j + 1 = r → RvR l dA D al ext sk sv 108 j) : mv_C l y_Book_branch (Cond.code y_Book_branch b_Book_branch 5 (Option.none : Option Jvm.ClassFile.FieldType) :: ma) ({ frames := 2 * r + 1891, cells := 0, slots := 0, locals := 60 * r + 45458 }) (mg dA D al ext) (mK sk sv) [.ref (al 108), .int v9] σ (mv_Rv (fun σ1 => ∃ w1, w1 ≤ H ∧ RT 108 th n k g σ σ1 w1)) := by
  refine mv_C.ofV (cc := b_Book_branch) (nL := 5) (ret := (Option.none : Option Jvm.ClassFile.FieldType)) (by decide +kernel) rfl hi (Nat.le_of_ble_eq_true rfl) ?_
  intro p e s m below meth c B hNs hr hnm hno
  have hn9 := hT.2.1.2.2.1
  have lp : ∀ (nn : Nat) (τ : mv_H) (w9 : Nat) (q9 : Nat) (x9 : Int32) (hx9 : x9.toInt = q9) (hT : RT 108 th n k g σ τ w9) (hI : IB 108 n r w9 H g τ q9), H - q9 < nn → mv_V p l e ({ frames := 2 * r + 1891, cells := 0, slots := 0, locals := 60 * r + 45458 }) s m ([.ref (al 108), .int v9] : List Value).toArray below meth c (mg dA D al ext) 5 0 0 (mv_Q (mg dA D al ext) below s 0 0 (mv_Rv (fun σ1 => ∃ w1, w1 ≤ H ∧ RT 108 th n k g σ σ1 w1))) τ 2 [(2, .int x9), (0, .ref (al 108)), (1, .int v9)] [] := by
    intro nn
    induction nn with
    | zero => intro τ w9 q9 x9 hx9 hT hI hm; exact absurd hm (Nat.not_lt_zero _)
    | succ nn ih =>
      intro τ w9 q9 x9 hx9 hT hI hm
      have hcx : x9.toNatClampNeg = q9 := by have := i32_cl (x := x9) (by omega); omega
      have hI1 := hI.1
      have hI2 := hI.2.1
      have hI3 := hI.2.2.2.2.2.2
      have hI4 := hI.2.2.2.1
      have hb9 := (hT.sq (q := q9) (by omega) (by rw [hI.2.2.1]; decide)).1.2.2.1
      have hr1 : r - 1 + 1 = r := by omega
      refine mv_iload_n (pc := 2) B d_Book_branch_2 rfl 0 rfl ?_
      refine mv_if_lt (pc := 3) (tgt := 97) B d_Book_branch_3 rfl (fun h3 => ?_) (fun h3 => ?_)
      · skip
        exact absurd (Int32.lt_iff_toInt_lt.mp h3) (by show ¬ x9.toInt < 0; omega)
      · skip
        have hQ := (hT.sq (q := q9) (by have := hI.1; omega) (by rw [hI.2.2.1]; decide)).1
        obtain ⟨m13, e13, p13⟩ := hT.ep (by omega) (by omega) (hQ.2.2.2.2.2.2.1 hI.2.2.1).1
        have e13 : (mv_a τ 127 x9.toNatClampNeg).toInt = m13 := by rw [hcx]; exact e13
        refine mv_aload_n (pc := 6) B d_Book_branch_6 rfl 1 rfl ?_
        refine mv_aload_n (pc := 7) B d_Book_branch_7 rfl 1 rfl ?_
        refine mv_getR (pc := 8) (ci := 12) (C := R_Book) (T := F_Book) (N := 65) B 41 rfl rfl (by decide) i_Book (B.2.2.2.1 _ k_1890) rfl (hT.2.1.1 _ 41 _ rfl) d_Book_branch_8 ?_
        refine mv_iload_n (pc := 11) B d_Book_branch_11 rfl 0 rfl ?_
        refine mv_iald (pc := 12) B rfl (i32_in (show 0 ≤ x9.toInt by omega) (show x9.toInt < 33000 by omega)) d_Book_branch_12 ?_
        refine mv_callVl (pc := 13) (n := 1) (ci := 12) (C := R_Book) B (mK_ok sk sv) hNs rfl rfl (c_Book_value_y l hi 629 _ _ th n k _ 0 g m13 e13 p13) rfl (ma_goodc kc_Book_eval) (B.2.2.2.1 _ k_2500) (B.2.2.2.1 _ k_2502) (B.2.2.2.1 _ ks_131) (B.2.2.2.1 _ k_13) ⟨by decide +kernel, by decide +kernel, by decide +kernel⟩ rfl d_Book_branch_13 rfl (Nat.le_of_ble_eq_true rfl) ⟨by first | decide | (dsimp only; omega), by first | decide | (dsimp only; omega)⟩ ⟨Nat.le_refl _, Nat.le_refl _⟩ ⟨Nat.le_refl _, Nat.le_refl _⟩ (mv_noH hno _) (fun v13 σ13 h13 => ?_)
        have hT := hT.ev h13
        have hI := hI.df h13.1.df
        have hbody : RB 108 n (r - 1) w9 q9 g σ13 (mv_a σ13 128 x9.toNatClampNeg) := by rw [hcx]; exact hI.body hT
        have hE := hI.else hT
        have j26 : ∀ (b9 : Int32) , mv_V p l e ({ frames := 2 * r + 1891, cells := 0, slots := 0, locals := 60 * r + 45458 }) s m ([.ref (al 108), .int v9] : List Value).toArray below meth c (mg dA D al ext) 5 0 0 (mv_Q (mg dA D al ext) below s 0 0 (mv_Rv (fun σ1 => ∃ w1, w1 ≤ H ∧ RT 108 th n k g σ σ1 w1))) σ13 26 [(2, .int x9), (0, .ref (al 108)), (1, .int v9)] [.int b9] := by
          intro b9
          refine mv_istore_n (pc := 26) B d_Book_branch_26 rfl (by decide) rfl ?_
          refine mv_aload_n (pc := 27) B d_Book_branch_27 rfl 2 rfl ?_
          refine mv_getI (pc := 28) (ci := 12) (C := R_Book) (T := F_Book) (N := 65) B 53 rfl rfl (by decide) i_Book (B.2.2.2.1 _ k_1902) rfl d_Book_branch_28 ?_
          refine mv_if_eq (pc := 31) (tgt := 35) B d_Book_branch_31 rfl (fun h31 => ?_) (fun h31 => ?_)
          · skip
            refine mv_iload_n (pc := 35) B d_Book_branch_35 rfl 0 rfl ?_
            refine mv_if_eq (pc := 36) (tgt := 50) B d_Book_branch_36 rfl (fun h36 => ?_) (fun h36 => ?_)
            · skip
              refine mv_aload_n (pc := 50) B d_Book_branch_50 rfl 2 rfl ?_
              refine mv_getR (pc := 51) (ci := 12) (C := R_Book) (T := F_Book) (N := 65) B 43 rfl rfl (by decide) i_Book (B.2.2.2.1 _ k_1892) rfl (hT.2.1.1 _ 43 _ rfl) d_Book_branch_51 ?_
              refine mv_iload_n (pc := 54) B d_Book_branch_54 rfl 1 rfl ?_
              refine mv_iald (pc := 55) B rfl (i32_in (show 0 ≤ x9.toInt by omega) (show x9.toInt < 33000 by omega)) d_Book_branch_55 ?_
              refine mv_topi (fun y9 ey9 => ?_)
              refine mv_istore (pc := 56) B d_Book_branch_56 (by decide) rfl ?_
              have hy : y9 = mv_a σ13 (108 + 21) q9 := by rw [← hcx]; exact ey9
              clear ey9
              refine mv_iload (pc := 58) B d_Book_branch_58 0 rfl ?_
              refine mv_if_lt (pc := 60) (tgt := 84) B d_Book_branch_60 rfl (fun h60 => ?_) (fun h60 => ?_)
              · skip
                have hrun := hE.2 (Or.inl (hE.1.resolve_right (fun ⟨t, z, _⟩ => by have z1 : y9.toInt < 0 := Int32.lt_iff_toInt_lt.mp h60; rw [hy, z] at z1; omega)))
                refine mv_aload_n (pc := 84) B d_Book_branch_84 rfl 3 rfl ?_
                refine mv_iload (pc := 85) B d_Book_branch_85 0 rfl ?_
                refine mv_callVv (pc := 87) (n := 1) (ci := 12) (C := R_Book) B (mK_ok sk sv) hNs rfl rfl (hR0 (r - 1) hr1 _ _ th n k w9 H g (by rw [hy]; exact hrun) hT.at) rfl (ma_goodc kc_Book_run) (B.2.2.2.1 _ k_2496) (B.2.2.2.1 _ k_2498) (B.2.2.2.1 _ ks_130) (B.2.2.2.1 _ k_13) ⟨by decide +kernel, by decide +kernel, by decide +kernel⟩ rfl d_Book_branch_87 rfl (Nat.le_of_ble_eq_true rfl) ⟨by first | decide | (dsimp only; omega), by first | decide | (dsimp only; omega)⟩ ⟨Nat.le_refl _, Nat.le_refl _⟩ ⟨Nat.le_refl _, Nat.le_refl _⟩ (mv_noH hno _) (fun σ87 h87 => ?_)
                obtain ⟨w87, a87, g87⟩ := h87
                have hT := hT.tr g87
                exact mv_vret (pc := 90) B hr d_Book_branch_90 (Nat.le_refl _) (Nat.le_refl _) ⟨rfl, w87, a87, hT⟩
              · skip
                have hy0 : ¬ y9.toInt < 0 := fun z => h60 (Int32.lt_iff_toInt_lt.mpr z)
                obtain ⟨t8, et, st8, lt8, nt8, it8⟩ := hE.1.resolve_left (fun z => hy0 (by rw [hy, z]; decide))
                rw [← hy] at et
                have hcy : y9.toNatClampNeg = t8 := by have := i32_cl (x := y9) (by omega); omega
                refine mv_aload_n (pc := 63) B d_Book_branch_63 rfl 3 rfl ?_
                refine mv_getR (pc := 64) (ci := 12) (C := R_Book) (T := F_Book) (N := 65) B 40 rfl rfl (by decide) i_Book (B.2.2.2.1 _ k_1889) rfl (hT.2.1.1 _ 40 _ rfl) d_Book_branch_64 ?_
                refine mv_iload (pc := 67) B d_Book_branch_67 0 rfl ?_
                refine mv_iald (pc := 69) B rfl (i32_in (show 0 ≤ y9.toInt by omega) (show y9.toInt < 33000 by omega)) d_Book_branch_69 ?_
                refine mv_bipush (pc := 70) (v := 18) B d_Book_branch_70 (by decide) ?_
                refine mv_icmp_ne (pc := 72) (tgt := 84) B d_Book_branch_72 rfl (fun h72 => ?_) (fun h72 => ?_)
                · skip
                  have hrun := hE.2 (Or.inr (Or.inr (fun z => h72 (by rw [← hy] at z; exact Int32.toInt_inj.mp z))))
                  refine mv_aload_n (pc := 84) B d_Book_branch_84 rfl 3 rfl ?_
                  refine mv_iload (pc := 85) B d_Book_branch_85 0 rfl ?_
                  refine mv_callVv (pc := 87) (n := 1) (ci := 12) (C := R_Book) B (mK_ok sk sv) hNs rfl rfl (hR0 (r - 1) hr1 _ _ th n k w9 H g (by rw [hy]; exact hrun) hT.at) rfl (ma_goodc kc_Book_run) (B.2.2.2.1 _ k_2496) (B.2.2.2.1 _ k_2498) (B.2.2.2.1 _ ks_130) (B.2.2.2.1 _ k_13) ⟨by decide +kernel, by decide +kernel, by decide +kernel⟩ rfl d_Book_branch_87 rfl (Nat.le_of_ble_eq_true rfl) ⟨by first | decide | (dsimp only; omega), by first | decide | (dsimp only; omega)⟩ ⟨Nat.le_refl _, Nat.le_refl _⟩ ⟨Nat.le_refl _, Nat.le_refl _⟩ (mv_noH hno _) (fun σ87 h87 => ?_)
                  obtain ⟨w87, a87, g87⟩ := h87
                  have hT := hT.tr g87
                  exact mv_vret (pc := 90) B hr d_Book_branch_90 (Nat.le_refl _) (Nat.le_refl _) ⟨rfl, w87, a87, hT⟩
                · skip
                  refine mv_aload_n (pc := 75) B d_Book_branch_75 rfl 3 rfl ?_
                  refine mv_getR (pc := 76) (ci := 12) (C := R_Book) (T := F_Book) (N := 65) B 47 rfl rfl (by decide) i_Book (B.2.2.2.1 _ k_1896) rfl (hT.2.1.1 _ 47 _ rfl) d_Book_branch_76 ?_
                  refine mv_iload_n (pc := 79) B d_Book_branch_79 rfl 2 rfl ?_
                  refine mv_zald (pc := 80) B rfl (i32_in (show 0 ≤ x9.toInt by omega) (show x9.toInt < 33000 by omega)) d_Book_branch_80 ?_
                  refine mv_if_ne (pc := 81) (tgt := 91) B d_Book_branch_81 rfl (fun h81 => ?_) (fun h81 => ?_)
                  · skip
                    refine mv_iload (pc := 91) B d_Book_branch_91 0 rfl ?_
                    refine mv_istore_n (pc := 93) B d_Book_branch_93 rfl (by decide) rfl ?_
                    refine mv_goto (pc := 94) (tgt := 2) B d_Book_branch_94 rfl ?_
                    refine mv_lpick [0, 3, 4] rfl ?_
                    have hI8 := it8 (by rw [← hcx]; exact h81)
                    clear it8 hE
                    exact ih _ _ _ _ et hT hI8 (by omega)
                  · skip
                    have hrun := hE.2 (Or.inr (Or.inl (by rw [← hcx]; exact h81)))
                    refine mv_aload_n (pc := 84) B d_Book_branch_84 rfl 3 rfl ?_
                    refine mv_iload (pc := 85) B d_Book_branch_85 0 rfl ?_
                    refine mv_callVv (pc := 87) (n := 1) (ci := 12) (C := R_Book) B (mK_ok sk sv) hNs rfl rfl (hR0 (r - 1) hr1 _ _ th n k w9 H g (by rw [hy]; exact hrun) hT.at) rfl (ma_goodc kc_Book_run) (B.2.2.2.1 _ k_2496) (B.2.2.2.1 _ k_2498) (B.2.2.2.1 _ ks_130) (B.2.2.2.1 _ k_13) ⟨by decide +kernel, by decide +kernel, by decide +kernel⟩ rfl d_Book_branch_87 rfl (Nat.le_of_ble_eq_true rfl) ⟨by first | decide | (dsimp only; omega), by first | decide | (dsimp only; omega)⟩ ⟨Nat.le_refl _, Nat.le_refl _⟩ ⟨Nat.le_refl _, Nat.le_refl _⟩ (mv_noH hno _) (fun σ87 h87 => ?_)
                    obtain ⟨w87, a87, g87⟩ := h87
                    have hT := hT.tr g87
                    exact mv_vret (pc := 90) B hr d_Book_branch_90 (Nat.le_refl _) (Nat.le_refl _) ⟨rfl, w87, a87, hT⟩
            · skip
              refine mv_aload_n (pc := 39) B d_Book_branch_39 rfl 2 rfl ?_
              refine mv_aload_n (pc := 40) B d_Book_branch_40 rfl 2 rfl ?_
              refine mv_getR (pc := 41) (ci := 12) (C := R_Book) (T := F_Book) (N := 65) B 42 rfl rfl (by decide) i_Book (B.2.2.2.1 _ k_1891) rfl (hT.2.1.1 _ 42 _ rfl) d_Book_branch_41 ?_
              refine mv_iload_n (pc := 44) B d_Book_branch_44 rfl 1 rfl ?_
              refine mv_iald (pc := 45) B rfl (i32_in (show 0 ≤ x9.toInt by omega) (show x9.toInt < 33000 by omega)) d_Book_branch_45 ?_
              refine mv_callVv (pc := 46) (n := 1) (ci := 12) (C := R_Book) B (mK_ok sk sv) hNs rfl rfl (hR0 (r - 1) hr1 _ _ th n k w9 q9 g hbody hT.at) rfl (ma_goodc kc_Book_run) (B.2.2.2.1 _ k_2496) (B.2.2.2.1 _ k_2498) (B.2.2.2.1 _ ks_130) (B.2.2.2.1 _ k_13) ⟨by decide +kernel, by decide +kernel, by decide +kernel⟩ rfl d_Book_branch_46 rfl (Nat.le_of_ble_eq_true rfl) ⟨by first | decide | (dsimp only; omega), by first | decide | (dsimp only; omega)⟩ ⟨Nat.le_refl _, Nat.le_refl _⟩ ⟨Nat.le_refl _, Nat.le_refl _⟩ (mv_noH hno _) (fun σ46 h46 => ?_)
              obtain ⟨w46, a46, g46⟩ := h46
              have hT := hT.tr g46
              exact mv_vret (pc := 49) B hr d_Book_branch_49 (Nat.le_refl _) (Nat.le_refl _) ⟨rfl, w46, by omega, hT⟩
          · skip
            exact mv_vret (pc := 34) B hr d_Book_branch_34 (Nat.le_refl _) (Nat.le_refl _) ⟨rfl, w9, by omega, hT⟩
        refine mv_lconst (pc := 16) (v := 0) B d_Book_branch_16 (by decide) ?_
        refine mv_lcmp (pc := 17) B d_Book_branch_17 ?_
        refine mv_if_eq (pc := 18) (tgt := 25) B d_Book_branch_18 rfl (fun h18 => ?_) (fun h18 => ?_)
        · skip
          refine mv_iconst (pc := 25) (v := 0) B d_Book_branch_25 (by decide) ?_
          refine mv_lpick [0, 1, 2] rfl ?_
          exact j26 _
        · skip
          refine mv_iconst (pc := 21) (v := 1) B d_Book_branch_21 (by decide) ?_
          refine mv_goto (pc := 22) (tgt := 26) B d_Book_branch_22 rfl ?_
          refine mv_lpick [0, 1, 2] rfl ?_
          exact j26 _
  refine mv_iload_n (pc := 0) B d_Book_branch_0 rfl 1 rfl ?_
  refine mv_istore_n (pc := 1) B d_Book_branch_1 rfl (by decide) rfl ?_
  refine mv_lpick [0, 1, 2] rfl ?_
  exact lp _ _ _ _ _ hv hT hI (Nat.lt_succ_self _)
theorem k_2546 : (Jvm.Cond.methodLink "MachineLoomModel$Book" (508 : Nat) ({ cls := "MachineLoomModel$Book", name := "setCell", desc := "(I)V" } : Jvm.MethodName)) ∈ ma := ma_of (tb_11 _ (List.mem_of_getElem? (i := 146) rfl)) rfl
theorem k_2548 : (Jvm.Cond.instanceMethod ({ cls := "MachineLoomModel$Book", name := "setCell", desc := "(I)V" } : Jvm.MethodName)) ∈ ma := ma_of (tb_11 _ (List.mem_of_getElem? (i := 148) rfl)) rfl
theorem ks_138 : Cond.selects "MachineLoomModel$Book" ⟨"MachineLoomModel$Book", "setCell", "(I)V"⟩ ⟨"MachineLoomModel$Book", "setCell", "(I)V"⟩ ∈ ma := ma_sel 138 rfl rfl
theorem k_2550 : (Jvm.Cond.methodLink "MachineLoomModel$Book" (511 : Nat) ({ cls := "MachineLoomModel$Book", name := "branch", desc := "(I)V" } : Jvm.MethodName)) ∈ ma := ma_of (tb_11 _ (List.mem_of_getElem? (i := 150) rfl)) rfl
theorem k_2552 : (Jvm.Cond.instanceMethod ({ cls := "MachineLoomModel$Book", name := "branch", desc := "(I)V" } : Jvm.MethodName)) ∈ ma := ma_of (tb_11 _ (List.mem_of_getElem? (i := 152) rfl)) rfl
theorem ks_139 : Cond.selects "MachineLoomModel$Book" ⟨"MachineLoomModel$Book", "branch", "(I)V"⟩ ⟨"MachineLoomModel$Book", "branch", "(I)V"⟩ ∈ ma := ma_sel 139 rfl rfl
theorem d_Book_run_0 : decode b_Book_run 0 = .ok (.iload_n 1, 1) := by decide +kernel
theorem d_Book_run_1 : decode b_Book_run 1 = .ok (.istore_n 2, 1) := by decide +kernel
theorem d_Book_run_2 : decode b_Book_run 2 = .ok (.iload_n 2, 1) := by decide +kernel
theorem d_Book_run_3 : decode b_Book_run 3 = .ok (.ifCond .lt (138), 3) := by decide +kernel
theorem d_Book_run_6 : decode b_Book_run 6 = .ok (.aload_n 0, 1) := by decide +kernel
theorem d_Book_run_7 : decode b_Book_run 7 = .ok (.getfield 502, 3) := by decide +kernel
theorem d_Book_run_10 : decode b_Book_run 10 = .ok (.ifCond .ne (131), 3) := by decide +kernel
theorem d_Book_run_13 : decode b_Book_run 13 = .ok (.aload_n 0, 1) := by decide +kernel
theorem d_Book_run_14 : decode b_Book_run 14 = .ok (.getfield 82, 3) := by decide +kernel
theorem d_Book_run_17 : decode b_Book_run 17 = .ok (.iload_n 2, 1) := by decide +kernel
theorem d_Book_run_18 : decode b_Book_run 18 = .ok (.iaload, 1) := by decide +kernel
theorem d_Book_run_19 : decode b_Book_run 19 = .ok (.tableswitch (107) (14) (17) #[29, 53, 86, 94], 29) := by decide +kernel
theorem d_Book_run_48 : decode b_Book_run 48 = .ok (.aload_n 0, 1) := by decide +kernel
theorem d_Book_run_49 : decode b_Book_run 49 = .ok (.getfield 107, 3) := by decide +kernel
theorem d_Book_run_52 : decode b_Book_run 52 = .ok (.aload_n 0, 1) := by decide +kernel
theorem d_Book_run_53 : decode b_Book_run 53 = .ok (.getfield 85, 3) := by decide +kernel
theorem d_Book_run_56 : decode b_Book_run 56 = .ok (.iload_n 2, 1) := by decide +kernel
theorem d_Book_run_57 : decode b_Book_run 57 = .ok (.iaload, 1) := by decide +kernel
theorem d_Book_run_58 : decode b_Book_run 58 = .ok (.aload_n 0, 1) := by decide +kernel
theorem d_Book_run_59 : decode b_Book_run 59 = .ok (.aload_n 0, 1) := by decide +kernel
theorem d_Book_run_60 : decode b_Book_run 60 = .ok (.getfield 88, 3) := by decide +kernel
theorem d_Book_run_63 : decode b_Book_run 63 = .ok (.iload_n 2, 1) := by decide +kernel
theorem d_Book_run_64 : decode b_Book_run 64 = .ok (.iaload, 1) := by decide +kernel
theorem d_Book_run_65 : decode b_Book_run 65 = .ok (.invokevirtual 470, 3) := by decide +kernel
theorem d_Book_run_68 : decode b_Book_run 68 = .ok (.lastore, 1) := by decide +kernel
theorem d_Book_run_69 : decode b_Book_run 69 = .ok (.goto (62), 3) := by decide +kernel
theorem d_Book_run_72 : decode b_Book_run 72 = .ok (.aload_n 0, 1) := by decide +kernel
theorem d_Book_run_73 : decode b_Book_run 73 = .ok (.aload_n 0, 1) := by decide +kernel
theorem d_Book_run_74 : decode b_Book_run 74 = .ok (.getfield 88, 3) := by decide +kernel
theorem d_Book_run_77 : decode b_Book_run 77 = .ok (.iload_n 2, 1) := by decide +kernel
theorem d_Book_run_78 : decode b_Book_run 78 = .ok (.iaload, 1) := by decide +kernel
theorem d_Book_run_79 : decode b_Book_run 79 = .ok (.invokevirtual 470, 3) := by decide +kernel
theorem d_Book_run_82 : decode b_Book_run 82 = .ok (.lstore_n 3, 1) := by decide +kernel
theorem d_Book_run_83 : decode b_Book_run 83 = .ok (.aload_n 0, 1) := by decide +kernel
theorem d_Book_run_84 : decode b_Book_run 84 = .ok (.getfield 502, 3) := by decide +kernel
theorem d_Book_run_87 : decode b_Book_run 87 = .ok (.ifCond .ne (44), 3) := by decide +kernel
theorem d_Book_run_90 : decode b_Book_run 90 = .ok (.aload_n 0, 1) := by decide +kernel
theorem d_Book_run_91 : decode b_Book_run 91 = .ok (.aload_n 0, 1) := by decide +kernel
theorem d_Book_run_92 : decode b_Book_run 92 = .ok (.getfield 85, 3) := by decide +kernel
theorem d_Book_run_95 : decode b_Book_run 95 = .ok (.iload_n 2, 1) := by decide +kernel
theorem d_Book_run_96 : decode b_Book_run 96 = .ok (.iaload, 1) := by decide +kernel
theorem d_Book_run_97 : decode b_Book_run 97 = .ok (.iconst 0, 1) := by decide +kernel
theorem d_Book_run_98 : decode b_Book_run 98 = .ok (.lload_n 3, 1) := by decide +kernel
theorem d_Book_run_99 : decode b_Book_run 99 = .ok (.invokevirtual 504, 3) := by decide +kernel
theorem d_Book_run_102 : decode b_Book_run 102 = .ok (.goto (29), 3) := by decide +kernel
theorem d_Book_run_105 : decode b_Book_run 105 = .ok (.aload_n 0, 1) := by decide +kernel
theorem d_Book_run_106 : decode b_Book_run 106 = .ok (.iload_n 2, 1) := by decide +kernel
theorem d_Book_run_107 : decode b_Book_run 107 = .ok (.invokevirtual 508, 3) := by decide +kernel
theorem d_Book_run_110 : decode b_Book_run 110 = .ok (.goto (21), 3) := by decide +kernel
theorem d_Book_run_113 : decode b_Book_run 113 = .ok (.aload_n 0, 1) := by decide +kernel
theorem d_Book_run_114 : decode b_Book_run 114 = .ok (.aload_n 0, 1) := by decide +kernel
theorem d_Book_run_115 : decode b_Book_run 115 = .ok (.getfield 85, 3) := by decide +kernel
theorem d_Book_run_118 : decode b_Book_run 118 = .ok (.iload_n 2, 1) := by decide +kernel
theorem d_Book_run_119 : decode b_Book_run 119 = .ok (.iaload, 1) := by decide +kernel
theorem d_Book_run_120 : decode b_Book_run 120 = .ok (.putfield 502, 3) := by decide +kernel
theorem d_Book_run_123 : decode b_Book_run 123 = .ok (.goto (8), 3) := by decide +kernel
theorem d_Book_run_126 : decode b_Book_run 126 = .ok (.aload_n 0, 1) := by decide +kernel
theorem d_Book_run_127 : decode b_Book_run 127 = .ok (.iload_n 2, 1) := by decide +kernel
theorem d_Book_run_128 : decode b_Book_run 128 = .ok (.invokevirtual 511, 3) := by decide +kernel
theorem d_Book_run_131 : decode b_Book_run 131 = .ok (.aload_n 0, 1) := by decide +kernel
theorem d_Book_run_132 : decode b_Book_run 132 = .ok (.getfield 94, 3) := by decide +kernel
theorem d_Book_run_135 : decode b_Book_run 135 = .ok (.iload_n 2, 1) := by decide +kernel
theorem d_Book_run_136 : decode b_Book_run 136 = .ok (.iaload, 1) := by decide +kernel
theorem d_Book_run_137 : decode b_Book_run 137 = .ok (.istore_n 2, 1) := by decide +kernel
theorem d_Book_run_138 : decode b_Book_run 138 = .ok (.goto (-136), 3) := by decide +kernel
theorem d_Book_run_141 : decode b_Book_run 141 = .ok (.return_, 1) := by decide +kernel
set_option maxHeartbeats 4000000 in
set_option maxRecDepth 100000 in
theorem c_Book_run_x (l : Launch) {dA : FieldType → ClassId} {D : va_G} {al : Nat → Nat} {ext : mv_Sh} {sk sv : Nat → Nat} (hi : mv_inj (mg dA D al ext)) (σ : mv_H) (v9 : Int32) (th n k w H : Nat) (g : Gh) (r : Nat) (hI : RB 74 n r w H g σ v9) (hT : RT 74 th n k g σ σ w) (hB0 : RvB l dA D al ext sk sv 74 r) : mv_C l y_Book_run (Cond.code y_Book_run b_Book_run 5 (Option.none : Option Jvm.ClassFile.FieldType) :: ma) ({ frames := 2 * r + 1892, cells := 0, slots := 0, locals := 60 * r + 45488 }) (mg dA D al ext) (mK sk sv) [.ref (al 74), .int v9] σ (mv_Rv (fun σ1 => ∃ w1, w1 ≤ H ∧ RT 74 th n k g σ σ1 w1)) := by
  refine mv_C.ofV (cc := b_Book_run) (nL := 5) (ret := (Option.none : Option Jvm.ClassFile.FieldType)) (by decide +kernel) rfl hi (Nat.le_of_ble_eq_true rfl) ?_
  intro p e s m below meth c B hNs hr hnm hno
  have hn9 := hT.2.1.2.2.1
  have hv0 : v9.toInt = -1 ∨ (0 ≤ v9.toInt ∧ v9.toInt < n) := by
    obtain ⟨z0, z | ⟨t, _, _, _⟩⟩ := hI
    · exact Or.inl z.1
    · exact Or.inr (by omega)
  have lp : ∀ (nn : Nat) (τ : mv_H) (w9 : Nat) (x9 : Int32) (z9 : Nat) (hT : RT 74 th n k g σ τ w9) (hI : RB 74 n r w9 H g τ x9) (hz : x9.toInt = -1 ∨ z9 + x9.toInt = 33000), z9 < nn → mv_V p l e ({ frames := 2 * r + 1892, cells := 0, slots := 0, locals := 60 * r + 45488 }) s m ([.ref (al 74), .int v9] : List Value).toArray below meth c (mg dA D al ext) 5 0 0 (mv_Q (mg dA D al ext) below s 0 0 (mv_Rv (fun σ1 => ∃ w1, w1 ≤ H ∧ RT 74 th n k g σ σ1 w1))) τ 2 [(2, .int x9), (0, .ref (al 74)), (1, .int v9)] [] := by
    intro nn
    induction nn with
    | zero => intro τ w9 x9 z9 hT hI hz hm; exact absurd hm (Nat.not_lt_zero _)
    | succ nn ih =>
      intro τ w9 x9 z9 hT hI hz hm
      have hwH : w9 ≤ H := by
        rcases hI.2 with z | ⟨t, _, _, _, _, _, _, _⟩
        · exact z.2
        · omega
      refine mv_iload_n (pc := 2) B d_Book_run_2 rfl 0 rfl ?_
      refine mv_if_lt (pc := 3) (tgt := 141) B d_Book_run_3 rfl (fun h3 => ?_) (fun h3 => ?_)
      · skip
        exact mv_vret (pc := 141) B hr d_Book_run_141 (Nat.le_refl _) (Nat.le_refl _) ⟨rfl, w9, hwH, hT⟩
      · skip
        have hx0 : ¬ x9.toInt < 0 := fun z => h3 (Int32.lt_iff_toInt_lt.mpr z)
        obtain ⟨q9, hq9, hqH, hq14, hqb, hqr, hqC, hqw⟩ := hI.2.resolve_left (fun z => hx0 (by rw [z.1]; decide))
        have hcx : x9.toNatClampNeg = q9 := by have := i32_cl (x := x9) (by omega); omega
        have hH := hI.1
        have hQ := (hT.sq (q := q9) (by omega) hq14).1
        have hz9 := hz.resolve_left (fun z => hx0 (by rw [z]; decide))
        obtain ⟨H9, n1, n2, n3, n4, n5⟩ := RB.next (w' := 0) hT hH hqH hq14 hqb hqr hqC
        refine mv_aload_n (pc := 6) B d_Book_run_6 rfl 1 rfl ?_
        refine mv_getI (pc := 7) (ci := 12) (C := R_Book) (T := F_Book) (N := 65) B 53 rfl rfl (by decide) i_Book (B.2.2.2.1 _ k_1902) rfl d_Book_run_7 ?_
        refine mv_if_ne (pc := 10) (tgt := 141) B d_Book_run_10 rfl (fun h10 => ?_) (fun h10 => ?_)
        · skip
          exact mv_vret (pc := 141) B hr d_Book_run_141 (Nat.le_refl _) (Nat.le_refl _) ⟨rfl, w9, hwH, hT⟩
        · skip
          have j131 : ∀ (ρ9 : mv_H) (w8 : Nat) (hT : RT 74 th n k g σ ρ9 w8) (hf9 : DF 74 τ ρ9) (hw8 : w8 ≤ H9), mv_V p l e ({ frames := 2 * r + 1892, cells := 0, slots := 0, locals := 60 * r + 45488 }) s m ([.ref (al 74), .int v9] : List Value).toArray below meth c (mg dA D al ext) 5 0 0 (mv_Q (mg dA D al ext) below s 0 0 (mv_Rv (fun σ1 => ∃ w1, w1 ≤ H ∧ RT 74 th n k g σ σ1 w1))) ρ9 131 [(2, .int x9), (0, .ref (al 74)), (1, .int v9)] [] := by
            intro ρ9 w8 hT hf9 hw8
            refine mv_aload_n (pc := 131) B d_Book_run_131 rfl 1 rfl ?_
            refine mv_getR (pc := 132) (ci := 12) (C := R_Book) (T := F_Book) (N := 65) B 44 rfl rfl (by decide) i_Book (B.2.2.2.1 _ k_1893) rfl (hT.2.1.1 _ 44 _ rfl) d_Book_run_132 ?_
            refine mv_iload_n (pc := 135) B d_Book_run_135 rfl 0 rfl ?_
            refine mv_iald (pc := 136) B rfl (i32_in (show 0 ≤ x9.toInt by omega) (show x9.toInt < 33000 by omega)) d_Book_run_136 ?_
            refine mv_istore_n (pc := 137) B d_Book_run_137 rfl (by decide) rfl ?_
            refine mv_goto (pc := 138) (tgt := 2) B d_Book_run_138 rfl ?_
            refine mv_lpick [0, 1, 2] rfl ?_
            have eF : (mv_a ρ9 96 x9.toNatClampNeg) = mv_a τ (74 + 22) q9 := by rw [← hcx]; exact hf9.nd (by omega)
            obtain ⟨z8, y1, y2, y3⟩ : ∃ z8 : Nat, z8 < z9 ∧ ((mv_a ρ9 96 x9.toNatClampNeg).toInt = -1 ∨ z8 + (mv_a ρ9 96 x9.toNatClampNeg).toInt = 33000) ∧ RB 74 n r w8 H g ρ9 (mv_a ρ9 96 x9.toNatClampNeg) := by
              rw [eF]
              rcases n5 w8 hw8 with y | ⟨t, b1, b2, b3, b4, b5, b6, b7, b8⟩
              · exact ⟨0, by omega, Or.inl y.1, hH, Or.inl y⟩
              · have b1 : (mv_a τ (74 + 22) q9).toInt = t := b1
                exact ⟨33000 - t, by omega, by omega, RB.df (σ := τ) ⟨hH, Or.inr ⟨t, b1, b3, b4, b5, b6, b7, b8⟩⟩ hf9⟩
            exact ih _ _ _ z8 hT y3 y2 (by omega)
          refine mv_aload_n (pc := 13) B d_Book_run_13 rfl 1 rfl ?_
          refine mv_getR (pc := 14) (ci := 12) (C := R_Book) (T := F_Book) (N := 65) B 40 rfl rfl (by decide) i_Book (B.2.2.2.1 _ k_1889) rfl (hT.2.1.1 _ 40 _ rfl) d_Book_run_14 ?_
          refine mv_iload_n (pc := 17) B d_Book_run_17 rfl 0 rfl ?_
          refine mv_iald (pc := 18) B rfl (i32_in (show 0 ≤ x9.toInt by omega) (show x9.toInt < 33000 by omega)) d_Book_run_18 ?_
          refine mv_tsw (pc := 19) B d_Book_run_19 (by decide) (by decide) ?_
          refine ⟨fun h19 => ?_, fun h19n14 => ?_⟩
          · skip
            have hs : nS 74 τ q9 = 14 := by rw [hcx] at h19; exact h19.trans (by decide)
            have ht9 : 0 ≤ (mv_a τ 93 x9.toNatClampNeg).toInt ∧ (mv_a τ 93 x9.toNatClampNeg).toInt < 4100 := by rw [hcx]; exact (hQ.2.2.2.1 hs).1
            obtain ⟨m65, e65, p65⟩ := hT.ep (by omega) (by omega) ((hQ.2.2.2.1 hs).2)
            have e65 : (mv_a τ 94 x9.toNatClampNeg).toInt = m65 := by rw [hcx]; exact e65
            refine mv_aload_n (pc := 48) B d_Book_run_48 rfl 1 rfl ?_
            refine mv_getR (pc := 49) (ci := 12) (C := R_Book) (T := F_Book) (N := 65) B 54 rfl rfl (by decide) i_Book (B.2.2.2.1 _ k_1903) rfl (hT.2.1.1 _ 54 _ rfl) d_Book_run_49 ?_
            refine mv_aload_n (pc := 52) B d_Book_run_52 rfl 1 rfl ?_
            refine mv_getR (pc := 53) (ci := 12) (C := R_Book) (T := F_Book) (N := 65) B 41 rfl rfl (by decide) i_Book (B.2.2.2.1 _ k_1890) rfl (hT.2.1.1 _ 41 _ rfl) d_Book_run_53 ?_
            refine mv_iload_n (pc := 56) B d_Book_run_56 rfl 0 rfl ?_
            refine mv_iald (pc := 57) B rfl (i32_in (show 0 ≤ x9.toInt by omega) (show x9.toInt < 33000 by omega)) d_Book_run_57 ?_
            refine mv_aload_n (pc := 58) B d_Book_run_58 rfl 1 rfl ?_
            refine mv_aload_n (pc := 59) B d_Book_run_59 rfl 1 rfl ?_
            refine mv_getR (pc := 60) (ci := 12) (C := R_Book) (T := F_Book) (N := 65) B 42 rfl rfl (by decide) i_Book (B.2.2.2.1 _ k_1891) rfl (hT.2.1.1 _ 42 _ rfl) d_Book_run_60 ?_
            refine mv_iload_n (pc := 63) B d_Book_run_63 rfl 0 rfl ?_
            refine mv_iald (pc := 64) B rfl (i32_in (show 0 ≤ x9.toInt by omega) (show x9.toInt < 33000 by omega)) d_Book_run_64 ?_
            refine mv_callVl (pc := 65) (n := 1) (ci := 12) (C := R_Book) B (mK_ok sk sv) hNs rfl rfl (c_Book_value_x l hi 629 _ _ th n k _ 0 g m65 e65 p65) rfl (ma_goodc kc_Book_eval) (B.2.2.2.1 _ k_2500) (B.2.2.2.1 _ k_2502) (B.2.2.2.1 _ ks_131) (B.2.2.2.1 _ k_13) ⟨by decide +kernel, by decide +kernel, by decide +kernel⟩ rfl d_Book_run_65 rfl (Nat.le_of_ble_eq_true rfl) ⟨by first | decide | (dsimp only; omega), by first | decide | (dsimp only; omega)⟩ ⟨Nat.le_refl _, Nat.le_refl _⟩ ⟨Nat.le_refl _, Nat.le_refl _⟩ (mv_noH hno _) (fun v65 σ65 h65 => ?_)
            have hT := hT.ev h65
            have f9 := h65.1.df
            refine mv_last (pc := 68) B rfl (i32_in ht9.1 ht9.2) d_Book_run_68 ?_
            refine mv_goto (pc := 69) (tgt := 131) B d_Book_run_69 rfl ?_
            refine mv_lpick [0, 1, 2] rfl ?_
            exact j131 _ w9 hT.let (f9.tr (Fx.sb Fx.rf (Or.inl rfl))) (by omega)
          refine ⟨fun h19 => ?_, fun h19n15 => ?_⟩
          · skip
            have hs : nS 74 τ q9 = 15 := by rw [hcx] at h19; exact h19.trans (by decide)
            obtain ⟨m79, e79, p79⟩ := hT.ep (by omega) (by omega) ((hQ.2.2.2.2.1 (Or.inl hs)).2)
            have e79 : (mv_a τ 94 x9.toNatClampNeg).toInt = m79 := by rw [hcx]; exact e79
            refine mv_aload_n (pc := 72) B d_Book_run_72 rfl 1 rfl ?_
            refine mv_aload_n (pc := 73) B d_Book_run_73 rfl 1 rfl ?_
            refine mv_getR (pc := 74) (ci := 12) (C := R_Book) (T := F_Book) (N := 65) B 42 rfl rfl (by decide) i_Book (B.2.2.2.1 _ k_1891) rfl (hT.2.1.1 _ 42 _ rfl) d_Book_run_74 ?_
            refine mv_iload_n (pc := 77) B d_Book_run_77 rfl 0 rfl ?_
            refine mv_iald (pc := 78) B rfl (i32_in (show 0 ≤ x9.toInt by omega) (show x9.toInt < 33000 by omega)) d_Book_run_78 ?_
            refine mv_callVl (pc := 79) (n := 1) (ci := 12) (C := R_Book) B (mK_ok sk sv) hNs rfl rfl (c_Book_value_x l hi 629 _ _ th n k _ 0 g m79 e79 p79) rfl (ma_goodc kc_Book_eval) (B.2.2.2.1 _ k_2500) (B.2.2.2.1 _ k_2502) (B.2.2.2.1 _ ks_131) (B.2.2.2.1 _ k_13) ⟨by decide +kernel, by decide +kernel, by decide +kernel⟩ rfl d_Book_run_79 rfl (Nat.le_of_ble_eq_true rfl) ⟨by first | decide | (dsimp only; omega), by first | decide | (dsimp only; omega)⟩ ⟨Nat.le_refl _, Nat.le_refl _⟩ ⟨Nat.le_refl _, Nat.le_refl _⟩ (mv_noH hno _) (fun v79 σ79 h79 => ?_)
            have hT := hT.ev h79
            have f9 := h79.1.df
            have ht9 : 0 ≤ (mv_a σ79 93 x9.toNatClampNeg).toInt ∧ (mv_a σ79 93 x9.toNatClampNeg).toInt < th := by rw [h79.1.nd (by omega), hcx]; exact (hQ.2.2.2.2.1 (Or.inl hs)).1
            have hK : WK 74 th σ79 (mv_a σ79 93 x9.toNatClampNeg) 0 := ⟨ht9.1, ht9.2, by decide, Or.inr rfl⟩
            refine mv_lstore_n (pc := 82) B d_Book_run_82 rfl (by decide) rfl ?_
            refine mv_aload_n (pc := 83) B d_Book_run_83 rfl 2 rfl ?_
            refine mv_getI (pc := 84) (ci := 12) (C := R_Book) (T := F_Book) (N := 65) B 53 rfl rfl (by decide) i_Book (B.2.2.2.1 _ k_1902) rfl d_Book_run_84 ?_
            refine mv_if_ne (pc := 87) (tgt := 131) B d_Book_run_87 rfl (fun h87 => ?_) (fun h87 => ?_)
            · skip
              refine mv_lpick [1, 2, 3] rfl ?_
              exact j131 _ w9 hT f9 (by omega)
            · skip
              refine mv_aload_n (pc := 90) B d_Book_run_90 rfl 2 rfl ?_
              refine mv_aload_n (pc := 91) B d_Book_run_91 rfl 2 rfl ?_
              refine mv_getR (pc := 92) (ci := 12) (C := R_Book) (T := F_Book) (N := 65) B 41 rfl rfl (by decide) i_Book (B.2.2.2.1 _ k_1890) rfl (hT.2.1.1 _ 41 _ rfl) d_Book_run_92 ?_
              refine mv_iload_n (pc := 95) B d_Book_run_95 rfl 1 rfl ?_
              refine mv_iald (pc := 96) B rfl (i32_in (show 0 ≤ x9.toInt by omega) (show x9.toInt < 33000 by omega)) d_Book_run_96 ?_
              refine mv_iconst (pc := 97) (v := 0) B d_Book_run_97 (by decide) ?_
              refine mv_lload_n (pc := 98) B d_Book_run_98 rfl 0 rfl ?_
              refine mv_callVv (pc := 99) (n := 3) (ci := 12) (C := R_Book) B (mK_ok sk sv) hNs rfl rfl (c_Book_write_x l hi _ _ _ _ th n k w9 g hT.2.1 hT.2.2.1 (by omega) hK) rfl (ma_goodc kc_Book_write) (B.2.2.2.1 _ k_2542) (B.2.2.2.1 _ k_2544) (B.2.2.2.1 _ ks_137) (B.2.2.2.1 _ k_13) ⟨by decide +kernel, by decide +kernel, by decide +kernel⟩ rfl d_Book_run_99 rfl (Nat.le_of_ble_eq_true rfl) ⟨by first | decide | (dsimp only; omega), by first | decide | (dsimp only; omega)⟩ ⟨Nat.le_refl _, Nat.le_refl _⟩ ⟨Nat.le_refl _, Nat.le_refl _⟩ (mv_noH hno _) (fun σ99 h99 => ?_)
              obtain ⟨w99, d99, a99, b99, f99⟩ := h99
              have hT := hT.wr d99 f99
              have f9 := f9.tr f99.df
              refine mv_goto (pc := 102) (tgt := 131) B d_Book_run_102 rfl ?_
              refine mv_lpick [1, 2, 3] rfl ?_
              exact j131 _ w99 hT f9 (by omega)
          refine ⟨fun h19 => ?_, fun h19n16 => ?_⟩
          · skip
            have hs : nS 74 τ q9 = 16 := by rw [hcx] at h19; exact h19.trans (by decide)
            refine mv_aload_n (pc := 105) B d_Book_run_105 rfl 1 rfl ?_
            refine mv_iload_n (pc := 106) B d_Book_run_106 rfl 0 rfl ?_
            refine mv_callVv (pc := 107) (n := 1) (ci := 12) (C := R_Book) B (mK_ok sk sv) hNs rfl rfl (c_Book_setCell_x l hi _ _ th n k w9 g q9 hq9 (by omega) hs (by omega) hT.at) rfl (ma_goodc kc_Book_setCell) (B.2.2.2.1 _ k_2546) (B.2.2.2.1 _ k_2548) (B.2.2.2.1 _ ks_138) (B.2.2.2.1 _ k_13) ⟨by decide +kernel, by decide +kernel, by decide +kernel⟩ rfl d_Book_run_107 rfl (Nat.le_of_ble_eq_true rfl) ⟨by first | decide | (dsimp only; omega), by first | decide | (dsimp only; omega)⟩ ⟨Nat.le_refl _, Nat.le_refl _⟩ ⟨Nat.le_refl _, Nat.le_refl _⟩ (mv_noH hno _) (fun σ107 h107 => ?_)
            have hf0 := h107
            obtain ⟨w107, a107, g107⟩ := h107
            have hT := hT.tr g107
            have f9 := g107.1
            refine mv_goto (pc := 110) (tgt := 131) B d_Book_run_110 rfl ?_
            refine mv_lpick [0, 1, 2] rfl ?_
            exact j131 _ w107 hT f9 (by omega)
          refine ⟨fun h19 => ?_, fun h19n17 => ?_⟩
          · skip
            have hs : nS 74 τ q9 = 17 := by rw [hcx] at h19; exact h19.trans (by decide)
            refine mv_aload_n (pc := 113) B d_Book_run_113 rfl 1 rfl ?_
            refine mv_aload_n (pc := 114) B d_Book_run_114 rfl 1 rfl ?_
            refine mv_getR (pc := 115) (ci := 12) (C := R_Book) (T := F_Book) (N := 65) B 41 rfl rfl (by decide) i_Book (B.2.2.2.1 _ k_1890) rfl (hT.2.1.1 _ 41 _ rfl) d_Book_run_115 ?_
            refine mv_iload_n (pc := 118) B d_Book_run_118 rfl 0 rfl ?_
            refine mv_iald (pc := 119) B rfl (i32_in (show 0 ≤ x9.toInt by omega) (show x9.toInt < 33000 by omega)) d_Book_run_119 ?_
            refine mv_putI (pc := 120) (ci := 12) (C := R_Book) (T := F_Book) (N := 65) B 53 rfl rfl (by decide) i_Book t_Book_ok n_Book (B.2.2.2.1 _ k_1902) rfl rfl rfl rfl d_Book_run_120 ?_
            refine mv_goto (pc := 123) (tgt := 131) B d_Book_run_123 rfl ?_
            refine mv_lpick [0, 1, 2] rfl ?_
            exact j131 _ w9 hT.trap (Fx.si Fx.rf ⟨rfl, Or.inl rfl⟩) (by omega)
          show mv_V _ _ _ _ _ _ _ _ _ _ _ _ _ _ _ _ 126 _ _
          have hs : nS 74 τ q9 = 18 := by
            have z14 : ¬ nS 74 τ q9 = 14 := fun z => h19n14 (by rw [hcx]; exact z.trans (by decide))
            have z15 : ¬ nS 74 τ q9 = 15 := fun z => h19n15 (by rw [hcx]; exact z.trans (by decide))
            have z16 : ¬ nS 74 τ q9 = 16 := fun z => h19n16 (by rw [hcx]; exact z.trans (by decide))
            have z17 : ¬ nS 74 τ q9 = 17 := fun z => h19n17 (by rw [hcx]; exact z.trans (by decide))
            have z0 := hQ.1
            omega
          refine mv_aload_n (pc := 126) B d_Book_run_126 rfl 1 rfl ?_
          refine mv_iload_n (pc := 127) B d_Book_run_127 rfl 0 rfl ?_
          refine mv_callVv (pc := 128) (n := 1) (ci := 12) (C := R_Book) B (mK_ok sk sv) hNs rfl rfl (hB0 _ _ th n k w9 H9 g q9 hq9 ⟨by omega, n2, hs, hqr, n3, n4, hqw⟩ hT.at) rfl (ma_goodc kc_Book_branch) (B.2.2.2.1 _ k_2550) (B.2.2.2.1 _ k_2552) (B.2.2.2.1 _ ks_139) (B.2.2.2.1 _ k_13) ⟨by decide +kernel, by decide +kernel, by decide +kernel⟩ rfl d_Book_run_128 rfl (Nat.le_of_ble_eq_true rfl) ⟨by first | decide | (dsimp only; omega), by first | decide | (dsimp only; omega)⟩ ⟨Nat.le_refl _, Nat.le_refl _⟩ ⟨Nat.le_refl _, Nat.le_refl _⟩ (mv_noH hno _) (fun σ128 h128 => ?_)
          obtain ⟨w128, a128, g128⟩ := h128
          have hT := hT.tr g128
          have f9 := g128.1
          refine mv_lpick [0, 1, 2] rfl ?_
          exact j131 _ w128 hT f9 (by omega)
  refine mv_iload_n (pc := 0) B d_Book_run_0 rfl 1 rfl ?_
  refine mv_istore_n (pc := 1) B d_Book_run_1 rfl (by decide) rfl ?_
  refine mv_lpick [0, 1, 2] rfl ?_
  exact lp _ _ _ _ (33000 - v9.toInt).toNat hT hI (by omega) (Nat.lt_succ_self _)
set_option maxHeartbeats 4000000 in
set_option maxRecDepth 100000 in
theorem c_Book_run_y (l : Launch) {dA : FieldType → ClassId} {D : va_G} {al : Nat → Nat} {ext : mv_Sh} {sk sv : Nat → Nat} (hi : mv_inj (mg dA D al ext)) (σ : mv_H) (v9 : Int32) (th n k w H : Nat) (g : Gh) (r : Nat) (hI : RB 108 n r w H g σ v9) (hT : RT 108 th n k g σ σ w) (hB0 : RvB l dA D al ext sk sv 108 r) : mv_C l y_Book_run (Cond.code y_Book_run b_Book_run 5 (Option.none : Option Jvm.ClassFile.FieldType) :: ma) ({ frames := 2 * r + 1892, cells := 0, slots := 0, locals := 60 * r + 45488 }) (mg dA D al ext) (mK sk sv) [.ref (al 108), .int v9] σ (mv_Rv (fun σ1 => ∃ w1, w1 ≤ H ∧ RT 108 th n k g σ σ1 w1)) := by
  refine mv_C.ofV (cc := b_Book_run) (nL := 5) (ret := (Option.none : Option Jvm.ClassFile.FieldType)) (by decide +kernel) rfl hi (Nat.le_of_ble_eq_true rfl) ?_
  intro p e s m below meth c B hNs hr hnm hno
  have hn9 := hT.2.1.2.2.1
  have hv0 : v9.toInt = -1 ∨ (0 ≤ v9.toInt ∧ v9.toInt < n) := by
    obtain ⟨z0, z | ⟨t, _, _, _⟩⟩ := hI
    · exact Or.inl z.1
    · exact Or.inr (by omega)
  have lp : ∀ (nn : Nat) (τ : mv_H) (w9 : Nat) (x9 : Int32) (z9 : Nat) (hT : RT 108 th n k g σ τ w9) (hI : RB 108 n r w9 H g τ x9) (hz : x9.toInt = -1 ∨ z9 + x9.toInt = 33000), z9 < nn → mv_V p l e ({ frames := 2 * r + 1892, cells := 0, slots := 0, locals := 60 * r + 45488 }) s m ([.ref (al 108), .int v9] : List Value).toArray below meth c (mg dA D al ext) 5 0 0 (mv_Q (mg dA D al ext) below s 0 0 (mv_Rv (fun σ1 => ∃ w1, w1 ≤ H ∧ RT 108 th n k g σ σ1 w1))) τ 2 [(2, .int x9), (0, .ref (al 108)), (1, .int v9)] [] := by
    intro nn
    induction nn with
    | zero => intro τ w9 x9 z9 hT hI hz hm; exact absurd hm (Nat.not_lt_zero _)
    | succ nn ih =>
      intro τ w9 x9 z9 hT hI hz hm
      have hwH : w9 ≤ H := by
        rcases hI.2 with z | ⟨t, _, _, _, _, _, _, _⟩
        · exact z.2
        · omega
      refine mv_iload_n (pc := 2) B d_Book_run_2 rfl 0 rfl ?_
      refine mv_if_lt (pc := 3) (tgt := 141) B d_Book_run_3 rfl (fun h3 => ?_) (fun h3 => ?_)
      · skip
        exact mv_vret (pc := 141) B hr d_Book_run_141 (Nat.le_refl _) (Nat.le_refl _) ⟨rfl, w9, hwH, hT⟩
      · skip
        have hx0 : ¬ x9.toInt < 0 := fun z => h3 (Int32.lt_iff_toInt_lt.mpr z)
        obtain ⟨q9, hq9, hqH, hq14, hqb, hqr, hqC, hqw⟩ := hI.2.resolve_left (fun z => hx0 (by rw [z.1]; decide))
        have hcx : x9.toNatClampNeg = q9 := by have := i32_cl (x := x9) (by omega); omega
        have hH := hI.1
        have hQ := (hT.sq (q := q9) (by omega) hq14).1
        have hz9 := hz.resolve_left (fun z => hx0 (by rw [z]; decide))
        obtain ⟨H9, n1, n2, n3, n4, n5⟩ := RB.next (w' := 0) hT hH hqH hq14 hqb hqr hqC
        refine mv_aload_n (pc := 6) B d_Book_run_6 rfl 1 rfl ?_
        refine mv_getI (pc := 7) (ci := 12) (C := R_Book) (T := F_Book) (N := 65) B 53 rfl rfl (by decide) i_Book (B.2.2.2.1 _ k_1902) rfl d_Book_run_7 ?_
        refine mv_if_ne (pc := 10) (tgt := 141) B d_Book_run_10 rfl (fun h10 => ?_) (fun h10 => ?_)
        · skip
          exact mv_vret (pc := 141) B hr d_Book_run_141 (Nat.le_refl _) (Nat.le_refl _) ⟨rfl, w9, hwH, hT⟩
        · skip
          have j131 : ∀ (ρ9 : mv_H) (w8 : Nat) (hT : RT 108 th n k g σ ρ9 w8) (hf9 : DF 108 τ ρ9) (hw8 : w8 ≤ H9), mv_V p l e ({ frames := 2 * r + 1892, cells := 0, slots := 0, locals := 60 * r + 45488 }) s m ([.ref (al 108), .int v9] : List Value).toArray below meth c (mg dA D al ext) 5 0 0 (mv_Q (mg dA D al ext) below s 0 0 (mv_Rv (fun σ1 => ∃ w1, w1 ≤ H ∧ RT 108 th n k g σ σ1 w1))) ρ9 131 [(2, .int x9), (0, .ref (al 108)), (1, .int v9)] [] := by
            intro ρ9 w8 hT hf9 hw8
            refine mv_aload_n (pc := 131) B d_Book_run_131 rfl 1 rfl ?_
            refine mv_getR (pc := 132) (ci := 12) (C := R_Book) (T := F_Book) (N := 65) B 44 rfl rfl (by decide) i_Book (B.2.2.2.1 _ k_1893) rfl (hT.2.1.1 _ 44 _ rfl) d_Book_run_132 ?_
            refine mv_iload_n (pc := 135) B d_Book_run_135 rfl 0 rfl ?_
            refine mv_iald (pc := 136) B rfl (i32_in (show 0 ≤ x9.toInt by omega) (show x9.toInt < 33000 by omega)) d_Book_run_136 ?_
            refine mv_istore_n (pc := 137) B d_Book_run_137 rfl (by decide) rfl ?_
            refine mv_goto (pc := 138) (tgt := 2) B d_Book_run_138 rfl ?_
            refine mv_lpick [0, 1, 2] rfl ?_
            have eF : (mv_a ρ9 130 x9.toNatClampNeg) = mv_a τ (108 + 22) q9 := by rw [← hcx]; exact hf9.nd (by omega)
            obtain ⟨z8, y1, y2, y3⟩ : ∃ z8 : Nat, z8 < z9 ∧ ((mv_a ρ9 130 x9.toNatClampNeg).toInt = -1 ∨ z8 + (mv_a ρ9 130 x9.toNatClampNeg).toInt = 33000) ∧ RB 108 n r w8 H g ρ9 (mv_a ρ9 130 x9.toNatClampNeg) := by
              rw [eF]
              rcases n5 w8 hw8 with y | ⟨t, b1, b2, b3, b4, b5, b6, b7, b8⟩
              · exact ⟨0, by omega, Or.inl y.1, hH, Or.inl y⟩
              · have b1 : (mv_a τ (108 + 22) q9).toInt = t := b1
                exact ⟨33000 - t, by omega, by omega, RB.df (σ := τ) ⟨hH, Or.inr ⟨t, b1, b3, b4, b5, b6, b7, b8⟩⟩ hf9⟩
            exact ih _ _ _ z8 hT y3 y2 (by omega)
          refine mv_aload_n (pc := 13) B d_Book_run_13 rfl 1 rfl ?_
          refine mv_getR (pc := 14) (ci := 12) (C := R_Book) (T := F_Book) (N := 65) B 40 rfl rfl (by decide) i_Book (B.2.2.2.1 _ k_1889) rfl (hT.2.1.1 _ 40 _ rfl) d_Book_run_14 ?_
          refine mv_iload_n (pc := 17) B d_Book_run_17 rfl 0 rfl ?_
          refine mv_iald (pc := 18) B rfl (i32_in (show 0 ≤ x9.toInt by omega) (show x9.toInt < 33000 by omega)) d_Book_run_18 ?_
          refine mv_tsw (pc := 19) B d_Book_run_19 (by decide) (by decide) ?_
          refine ⟨fun h19 => ?_, fun h19n14 => ?_⟩
          · skip
            have hs : nS 108 τ q9 = 14 := by rw [hcx] at h19; exact h19.trans (by decide)
            have ht9 : 0 ≤ (mv_a τ 127 x9.toNatClampNeg).toInt ∧ (mv_a τ 127 x9.toNatClampNeg).toInt < 4100 := by rw [hcx]; exact (hQ.2.2.2.1 hs).1
            obtain ⟨m65, e65, p65⟩ := hT.ep (by omega) (by omega) ((hQ.2.2.2.1 hs).2)
            have e65 : (mv_a τ 128 x9.toNatClampNeg).toInt = m65 := by rw [hcx]; exact e65
            refine mv_aload_n (pc := 48) B d_Book_run_48 rfl 1 rfl ?_
            refine mv_getR (pc := 49) (ci := 12) (C := R_Book) (T := F_Book) (N := 65) B 54 rfl rfl (by decide) i_Book (B.2.2.2.1 _ k_1903) rfl (hT.2.1.1 _ 54 _ rfl) d_Book_run_49 ?_
            refine mv_aload_n (pc := 52) B d_Book_run_52 rfl 1 rfl ?_
            refine mv_getR (pc := 53) (ci := 12) (C := R_Book) (T := F_Book) (N := 65) B 41 rfl rfl (by decide) i_Book (B.2.2.2.1 _ k_1890) rfl (hT.2.1.1 _ 41 _ rfl) d_Book_run_53 ?_
            refine mv_iload_n (pc := 56) B d_Book_run_56 rfl 0 rfl ?_
            refine mv_iald (pc := 57) B rfl (i32_in (show 0 ≤ x9.toInt by omega) (show x9.toInt < 33000 by omega)) d_Book_run_57 ?_
            refine mv_aload_n (pc := 58) B d_Book_run_58 rfl 1 rfl ?_
            refine mv_aload_n (pc := 59) B d_Book_run_59 rfl 1 rfl ?_
            refine mv_getR (pc := 60) (ci := 12) (C := R_Book) (T := F_Book) (N := 65) B 42 rfl rfl (by decide) i_Book (B.2.2.2.1 _ k_1891) rfl (hT.2.1.1 _ 42 _ rfl) d_Book_run_60 ?_
            refine mv_iload_n (pc := 63) B d_Book_run_63 rfl 0 rfl ?_
            refine mv_iald (pc := 64) B rfl (i32_in (show 0 ≤ x9.toInt by omega) (show x9.toInt < 33000 by omega)) d_Book_run_64 ?_
            refine mv_callVl (pc := 65) (n := 1) (ci := 12) (C := R_Book) B (mK_ok sk sv) hNs rfl rfl (c_Book_value_y l hi 629 _ _ th n k _ 0 g m65 e65 p65) rfl (ma_goodc kc_Book_eval) (B.2.2.2.1 _ k_2500) (B.2.2.2.1 _ k_2502) (B.2.2.2.1 _ ks_131) (B.2.2.2.1 _ k_13) ⟨by decide +kernel, by decide +kernel, by decide +kernel⟩ rfl d_Book_run_65 rfl (Nat.le_of_ble_eq_true rfl) ⟨by first | decide | (dsimp only; omega), by first | decide | (dsimp only; omega)⟩ ⟨Nat.le_refl _, Nat.le_refl _⟩ ⟨Nat.le_refl _, Nat.le_refl _⟩ (mv_noH hno _) (fun v65 σ65 h65 => ?_)
            have hT := hT.ev h65
            have f9 := h65.1.df
            refine mv_last (pc := 68) B rfl (i32_in ht9.1 ht9.2) d_Book_run_68 ?_
            refine mv_goto (pc := 69) (tgt := 131) B d_Book_run_69 rfl ?_
            refine mv_lpick [0, 1, 2] rfl ?_
            exact j131 _ w9 hT.let (f9.tr (Fx.sb Fx.rf (Or.inl rfl))) (by omega)
          refine ⟨fun h19 => ?_, fun h19n15 => ?_⟩
          · skip
            have hs : nS 108 τ q9 = 15 := by rw [hcx] at h19; exact h19.trans (by decide)
            obtain ⟨m79, e79, p79⟩ := hT.ep (by omega) (by omega) ((hQ.2.2.2.2.1 (Or.inl hs)).2)
            have e79 : (mv_a τ 128 x9.toNatClampNeg).toInt = m79 := by rw [hcx]; exact e79
            refine mv_aload_n (pc := 72) B d_Book_run_72 rfl 1 rfl ?_
            refine mv_aload_n (pc := 73) B d_Book_run_73 rfl 1 rfl ?_
            refine mv_getR (pc := 74) (ci := 12) (C := R_Book) (T := F_Book) (N := 65) B 42 rfl rfl (by decide) i_Book (B.2.2.2.1 _ k_1891) rfl (hT.2.1.1 _ 42 _ rfl) d_Book_run_74 ?_
            refine mv_iload_n (pc := 77) B d_Book_run_77 rfl 0 rfl ?_
            refine mv_iald (pc := 78) B rfl (i32_in (show 0 ≤ x9.toInt by omega) (show x9.toInt < 33000 by omega)) d_Book_run_78 ?_
            refine mv_callVl (pc := 79) (n := 1) (ci := 12) (C := R_Book) B (mK_ok sk sv) hNs rfl rfl (c_Book_value_y l hi 629 _ _ th n k _ 0 g m79 e79 p79) rfl (ma_goodc kc_Book_eval) (B.2.2.2.1 _ k_2500) (B.2.2.2.1 _ k_2502) (B.2.2.2.1 _ ks_131) (B.2.2.2.1 _ k_13) ⟨by decide +kernel, by decide +kernel, by decide +kernel⟩ rfl d_Book_run_79 rfl (Nat.le_of_ble_eq_true rfl) ⟨by first | decide | (dsimp only; omega), by first | decide | (dsimp only; omega)⟩ ⟨Nat.le_refl _, Nat.le_refl _⟩ ⟨Nat.le_refl _, Nat.le_refl _⟩ (mv_noH hno _) (fun v79 σ79 h79 => ?_)
            have hT := hT.ev h79
            have f9 := h79.1.df
            have ht9 : 0 ≤ (mv_a σ79 127 x9.toNatClampNeg).toInt ∧ (mv_a σ79 127 x9.toNatClampNeg).toInt < th := by rw [h79.1.nd (by omega), hcx]; exact (hQ.2.2.2.2.1 (Or.inl hs)).1
            have hK : WK 108 th σ79 (mv_a σ79 127 x9.toNatClampNeg) 0 := ⟨ht9.1, ht9.2, by decide, Or.inr rfl⟩
            refine mv_lstore_n (pc := 82) B d_Book_run_82 rfl (by decide) rfl ?_
            refine mv_aload_n (pc := 83) B d_Book_run_83 rfl 2 rfl ?_
            refine mv_getI (pc := 84) (ci := 12) (C := R_Book) (T := F_Book) (N := 65) B 53 rfl rfl (by decide) i_Book (B.2.2.2.1 _ k_1902) rfl d_Book_run_84 ?_
            refine mv_if_ne (pc := 87) (tgt := 131) B d_Book_run_87 rfl (fun h87 => ?_) (fun h87 => ?_)
            · skip
              refine mv_lpick [1, 2, 3] rfl ?_
              exact j131 _ w9 hT f9 (by omega)
            · skip
              refine mv_aload_n (pc := 90) B d_Book_run_90 rfl 2 rfl ?_
              refine mv_aload_n (pc := 91) B d_Book_run_91 rfl 2 rfl ?_
              refine mv_getR (pc := 92) (ci := 12) (C := R_Book) (T := F_Book) (N := 65) B 41 rfl rfl (by decide) i_Book (B.2.2.2.1 _ k_1890) rfl (hT.2.1.1 _ 41 _ rfl) d_Book_run_92 ?_
              refine mv_iload_n (pc := 95) B d_Book_run_95 rfl 1 rfl ?_
              refine mv_iald (pc := 96) B rfl (i32_in (show 0 ≤ x9.toInt by omega) (show x9.toInt < 33000 by omega)) d_Book_run_96 ?_
              refine mv_iconst (pc := 97) (v := 0) B d_Book_run_97 (by decide) ?_
              refine mv_lload_n (pc := 98) B d_Book_run_98 rfl 0 rfl ?_
              refine mv_callVv (pc := 99) (n := 3) (ci := 12) (C := R_Book) B (mK_ok sk sv) hNs rfl rfl (c_Book_write_y l hi _ _ _ _ th n k w9 g hT.2.1 hT.2.2.1 (by omega) hK) rfl (ma_goodc kc_Book_write) (B.2.2.2.1 _ k_2542) (B.2.2.2.1 _ k_2544) (B.2.2.2.1 _ ks_137) (B.2.2.2.1 _ k_13) ⟨by decide +kernel, by decide +kernel, by decide +kernel⟩ rfl d_Book_run_99 rfl (Nat.le_of_ble_eq_true rfl) ⟨by first | decide | (dsimp only; omega), by first | decide | (dsimp only; omega)⟩ ⟨Nat.le_refl _, Nat.le_refl _⟩ ⟨Nat.le_refl _, Nat.le_refl _⟩ (mv_noH hno _) (fun σ99 h99 => ?_)
              obtain ⟨w99, d99, a99, b99, f99⟩ := h99
              have hT := hT.wr d99 f99
              have f9 := f9.tr f99.df
              refine mv_goto (pc := 102) (tgt := 131) B d_Book_run_102 rfl ?_
              refine mv_lpick [1, 2, 3] rfl ?_
              exact j131 _ w99 hT f9 (by omega)
          refine ⟨fun h19 => ?_, fun h19n16 => ?_⟩
          · skip
            have hs : nS 108 τ q9 = 16 := by rw [hcx] at h19; exact h19.trans (by decide)
            refine mv_aload_n (pc := 105) B d_Book_run_105 rfl 1 rfl ?_
            refine mv_iload_n (pc := 106) B d_Book_run_106 rfl 0 rfl ?_
            refine mv_callVv (pc := 107) (n := 1) (ci := 12) (C := R_Book) B (mK_ok sk sv) hNs rfl rfl (c_Book_setCell_y l hi _ _ th n k w9 g q9 hq9 (by omega) hs (by omega) hT.at) rfl (ma_goodc kc_Book_setCell) (B.2.2.2.1 _ k_2546) (B.2.2.2.1 _ k_2548) (B.2.2.2.1 _ ks_138) (B.2.2.2.1 _ k_13) ⟨by decide +kernel, by decide +kernel, by decide +kernel⟩ rfl d_Book_run_107 rfl (Nat.le_of_ble_eq_true rfl) ⟨by first | decide | (dsimp only; omega), by first | decide | (dsimp only; omega)⟩ ⟨Nat.le_refl _, Nat.le_refl _⟩ ⟨Nat.le_refl _, Nat.le_refl _⟩ (mv_noH hno _) (fun σ107 h107 => ?_)
            have hf0 := h107
            obtain ⟨w107, a107, g107⟩ := h107
            have hT := hT.tr g107
            have f9 := g107.1
            refine mv_goto (pc := 110) (tgt := 131) B d_Book_run_110 rfl ?_
            refine mv_lpick [0, 1, 2] rfl ?_
            exact j131 _ w107 hT f9 (by omega)
          refine ⟨fun h19 => ?_, fun h19n17 => ?_⟩
          · skip
            have hs : nS 108 τ q9 = 17 := by rw [hcx] at h19; exact h19.trans (by decide)
            refine mv_aload_n (pc := 113) B d_Book_run_113 rfl 1 rfl ?_
            refine mv_aload_n (pc := 114) B d_Book_run_114 rfl 1 rfl ?_
            refine mv_getR (pc := 115) (ci := 12) (C := R_Book) (T := F_Book) (N := 65) B 41 rfl rfl (by decide) i_Book (B.2.2.2.1 _ k_1890) rfl (hT.2.1.1 _ 41 _ rfl) d_Book_run_115 ?_
            refine mv_iload_n (pc := 118) B d_Book_run_118 rfl 0 rfl ?_
            refine mv_iald (pc := 119) B rfl (i32_in (show 0 ≤ x9.toInt by omega) (show x9.toInt < 33000 by omega)) d_Book_run_119 ?_
            refine mv_putI (pc := 120) (ci := 12) (C := R_Book) (T := F_Book) (N := 65) B 53 rfl rfl (by decide) i_Book t_Book_ok n_Book (B.2.2.2.1 _ k_1902) rfl rfl rfl rfl d_Book_run_120 ?_
            refine mv_goto (pc := 123) (tgt := 131) B d_Book_run_123 rfl ?_
            refine mv_lpick [0, 1, 2] rfl ?_
            exact j131 _ w9 hT.trap (Fx.si Fx.rf ⟨rfl, Or.inl rfl⟩) (by omega)
          show mv_V _ _ _ _ _ _ _ _ _ _ _ _ _ _ _ _ 126 _ _
          have hs : nS 108 τ q9 = 18 := by
            have z14 : ¬ nS 108 τ q9 = 14 := fun z => h19n14 (by rw [hcx]; exact z.trans (by decide))
            have z15 : ¬ nS 108 τ q9 = 15 := fun z => h19n15 (by rw [hcx]; exact z.trans (by decide))
            have z16 : ¬ nS 108 τ q9 = 16 := fun z => h19n16 (by rw [hcx]; exact z.trans (by decide))
            have z17 : ¬ nS 108 τ q9 = 17 := fun z => h19n17 (by rw [hcx]; exact z.trans (by decide))
            have z0 := hQ.1
            omega
          refine mv_aload_n (pc := 126) B d_Book_run_126 rfl 1 rfl ?_
          refine mv_iload_n (pc := 127) B d_Book_run_127 rfl 0 rfl ?_
          refine mv_callVv (pc := 128) (n := 1) (ci := 12) (C := R_Book) B (mK_ok sk sv) hNs rfl rfl (hB0 _ _ th n k w9 H9 g q9 hq9 ⟨by omega, n2, hs, hqr, n3, n4, hqw⟩ hT.at) rfl (ma_goodc kc_Book_branch) (B.2.2.2.1 _ k_2550) (B.2.2.2.1 _ k_2552) (B.2.2.2.1 _ ks_139) (B.2.2.2.1 _ k_13) ⟨by decide +kernel, by decide +kernel, by decide +kernel⟩ rfl d_Book_run_128 rfl (Nat.le_of_ble_eq_true rfl) ⟨by first | decide | (dsimp only; omega), by first | decide | (dsimp only; omega)⟩ ⟨Nat.le_refl _, Nat.le_refl _⟩ ⟨Nat.le_refl _, Nat.le_refl _⟩ (mv_noH hno _) (fun σ128 h128 => ?_)
          obtain ⟨w128, a128, g128⟩ := h128
          have hT := hT.tr g128
          have f9 := g128.1
          refine mv_lpick [0, 1, 2] rfl ?_
          exact j131 _ w128 hT f9 (by omega)
  refine mv_iload_n (pc := 0) B d_Book_run_0 rfl 1 rfl ?_
  refine mv_istore_n (pc := 1) B d_Book_run_1 rfl (by decide) rfl ?_
  refine mv_lpick [0, 1, 2] rfl ?_
  exact lp _ _ _ _ (33000 - v9.toInt).toNat hT hI (by omega) (Nat.lt_succ_self _)
theorem rv_x (l : Launch) {dA : FieldType → ClassId} {D : va_G} {al : Nat → Nat} {ext : mv_Sh} {sk sv : Nat → Nat} (hi : mv_inj (mg dA D al ext)) (r : Nat) (ih0 : ∀ j, j + 1 = r → RvR l dA D al ext sk sv 74 j) : RvR l dA D al ext sk sv 74 r := by
  have hB : RvB l dA D al ext sk sv 74 r := fun v σ th n k w H g s hv hI hT => c_Book_branch_x l hi σ v th n k w H g s r hv hI hT ih0
  exact fun v σ th n k w H g hI hT => c_Book_run_x l hi σ v th n k w H g r hI hT hB
theorem c_Book_body_x (l : Launch) {dA : FieldType → ClassId} {D : va_G} {al : Nat → Nat} {ext : mv_Sh} {sk sv : Nat → Nat} (hi : mv_inj (mg dA D al ext)) : ∀ r, RvR l dA D al ext sk sv 74 r := by
  intro r
  induction r with
  | zero => exact rv_x l hi 0 (fun j h => absurd h (Nat.succ_ne_zero _))
  | succ r ih => exact rv_x l hi (r + 1) (fun j h => by
      have e : j = r := by omega
      subst e
      exact ih)
theorem rv_y (l : Launch) {dA : FieldType → ClassId} {D : va_G} {al : Nat → Nat} {ext : mv_Sh} {sk sv : Nat → Nat} (hi : mv_inj (mg dA D al ext)) (r : Nat) (ih0 : ∀ j, j + 1 = r → RvR l dA D al ext sk sv 108 j) : RvR l dA D al ext sk sv 108 r := by
  have hB : RvB l dA D al ext sk sv 108 r := fun v σ th n k w H g s hv hI hT => c_Book_branch_y l hi σ v th n k w H g s r hv hI hT ih0
  exact fun v σ th n k w H g hI hT => c_Book_run_y l hi σ v th n k w H g r hI hT hB
theorem c_Book_body_y (l : Launch) {dA : FieldType → ClassId} {D : va_G} {al : Nat → Nat} {ext : mv_Sh} {sk sv : Nat → Nat} (hi : mv_inj (mg dA D al ext)) : ∀ r, RvR l dA D al ext sk sv 108 r := by
  intro r
  induction r with
  | zero => exact rv_y l hi 0 (fun j h => absurd h (Nat.succ_ne_zero _))
  | succ r ih => exact rv_y l hi (r + 1) (fun j h => by
      have e : j = r := by omega
      subst e
      exact ih)
