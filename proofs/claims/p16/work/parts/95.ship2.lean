/-! MachineLoom: ship -/
theorem mr_lt {o k v : Nat} (h : mr o k = some v) : (o < 143 ∧ v < 143) ∨ (o = 143 ∧ k = 0 ∧ v = 144) ∨ mp 145 o k = some v := by
  unfold mr at h
  split at h <;> dsimp only at h <;> first | (cases h; done) | (split at h <;> first | (cases h; exact Or.inl ⟨by decide, by decide⟩) | (cases h; exact Or.inr (Or.inl ⟨rfl, rfl, rfl⟩)) | (cases h; exact Or.inr (Or.inr rfl)) | cases h)
theorem mh_sf {σ : mv_H} (h : mh (mv_r σ)) : mh (mv_r (mv_sf σ)) := fun o k v e => by
  by_cases h1 : o < 143
  · rw [mv_sf_r h1, h o k v e]
    show some (shI v) = some v
    have h2 : v < 143 := by
      rcases mr_lt e with h | h | h
      · exact h.2
      · omega
      · unfold mp at h
        rw [if_neg (by omega), if_neg (by omega)] at h
        cases h
    rw [shI_lt h2]
  · exact (if_neg h1).trans e
/-- the reference's cells and the law's stay; names of cells that are not made give way -/
def GS (σ τ : mv_H) : Prop := (∀ o, 70 ≤ o → o ≤ 142 → mv_i τ o = mv_i σ o ∧ mv_l τ o = mv_l σ o ∧ (∀ k, mv_r τ o k = (mv_r σ o k).map shI) ∧ mv_a τ o = mv_a σ o ∧ mv_b τ o = mv_b σ o) ∧ mv_a τ 1 = mv_a σ 1
theorem GS.sf (σ : mv_H) : GS σ (mv_sf σ) := ⟨fun o h1 h2 => ⟨rfl, rfl, fun k => mv_sf_r (by omega) k, rfl, rfl⟩, rfl⟩
theorem GS.gf {σ τ υ : mv_H} (h : GS σ τ) (g : GF τ υ) : GS σ υ := ⟨fun o a b => by
  obtain ⟨h1, h2, h3, h4, h5⟩ := h.1 o a b
  obtain ⟨g1, g2, g3, g4, g5⟩ := g.1 o a b
  exact ⟨g1.trans h1, g2.trans h2, fun k => by rw [g3]; exact h3 k, g4.trans h4, g5.trans h5⟩, g.2.trans h.2⟩
theorem GF.nw {σ : mv_H} {n : Nat} (h : 142 < n) : GF σ (mv_nw σ n) := ⟨fun o a b => ⟨funext fun k => if_neg (by omega), funext fun k => if_neg (by omega), funext fun k => if_neg (by omega), funext fun k => if_neg (by omega), funext fun k => if_neg (by omega)⟩, funext fun k => if_neg (by omega)⟩
theorem PO_nw {P R M n : Nat} {σ : mv_H} (h : PO P R M σ) (hn : P + 15 < n) : PO P R M (mv_nw σ n) := h.fr (funext fun k => if_neg (by omega)) (fun j _ _ => funext fun k => if_neg (by omega)) (fun j _ => funext fun k => if_neg (by omega))
theorem In_nw {k n : Nat} {σ : mv_H} (h : In σ k) (hn : 2 ≤ n) : In (mv_nw σ n) k := h.fr (if_neg (by omega)) (funext fun k => if_neg (by omega))
theorem WP_nw {n : Nat} {σ : mv_H} (h : WP σ) (hn : 25 ≤ n) : WP (mv_nw σ n) := h.fr (funext fun k => if_neg (by omega)) (funext fun k => if_neg (by omega)) (funext fun k => if_neg (by omega)) (funext fun k => if_neg (by omega)) (funext fun k => if_neg (by omega)) (funext fun k => if_neg (by omega))
theorem mh_shp {σ : mv_H} (h : mh (mv_r σ)) : mh (mv_r (sg_Shipped (mv_nw σ 143))) := fun o k v e => by
  show mv_u (fun o k => if o = 144 then none else if o = 143 then none else mv_r σ o k) 143 0 (some 144) o k = some v
  by_cases z : o = 143 ∧ k = 0
  · obtain ⟨z1, z2⟩ := z
    subst z1; subst z2
    rw [mv_u_same]
    cases e; rfl
  · rw [mv_u_ne _ _ z]
    have h4 : ¬ o = 144 := fun z => by subst z; cases e
    have h3 : ¬ o = 143 := fun z3 => by
      rcases mr_lt e with h | h | h
      · omega
      · exact z ⟨h.1, h.2.1⟩
      · subst z3; cases h
    show (if o = 144 then none else if o = 143 then none else mv_r σ o k) = some v
    rw [if_neg h4, if_neg h3]
    exact h o k v e

theorem LC.sf {P R M k : Nat} {σ : mv_H} (h : LC [] σ P R M k) (hP : P = 32 ∨ P = 48) : LC [] (mv_sf σ) P R M k := by
  obtain ⟨h1, h2, h3, h4, h5, h6⟩ := h
  have em := mh_sf h3.1
  have e64 : mv_r (mv_sf σ) 64 0 = some P := by
    rw [mv_sf_r (by decide), h3.2.2]
    show some (shI P) = some P
    rw [shI_lt (by omega)]
  refine ⟨h1, h2.fr rfl rfl, ⟨em, ?_, e64⟩, h4.fr rfl rfl rfl rfl rfl rfl, h5.fr rfl (fun j a b => rfl) (fun _ _ => rfl), ?_⟩
  · rcases hP with rfl | rfl
    · exact Ph_a em
    · exact Ph_b em
  · rcases h6 with ⟨a, b⟩ | ⟨a, -⟩
    · exact Or.inl ⟨a, by rw [mv_sf_r (by decide), b]; rfl⟩
    · cases a
set_option maxRecDepth 100000 in
theorem prc_ph (σ : mv_H) : Ph 145 (mv_r (sg_Program_c (mv_nw σ 145))) := fun o k v e => by
  unfold mp at e
  split at e
  · rename_i q; subst q
    split at e <;> first | (cases e; rfl) | cases e
  · split at e
    · rename_i q; subst q
      split at e <;> first | (cases e; rfl) | cases e
    · cases e
/-- what making the shipped program leaves -/
theorem prc_o {σ : mv_H} {o : Nat} (h : o < 145) : mv_i (sg_Program_c (mv_nw σ 145)) o = mv_i σ o ∧ mv_l (sg_Program_c (mv_nw σ 145)) o = mv_l σ o ∧ mv_r (sg_Program_c (mv_nw σ 145)) o = mv_r σ o ∧ mv_a (sg_Program_c (mv_nw σ 145)) o = mv_a σ o ∧ mv_b (sg_Program_c (mv_nw σ 145)) o = mv_b σ o := by
  have n1 : ∀ (τ : mv_H) (n : Nat), 145 ≤ n → mv_i (mv_nw τ n) o = mv_i τ o := fun τ n q => funext fun k => if_neg (by omega)
  have n2 : ∀ (τ : mv_H) (n : Nat), 145 ≤ n → mv_l (mv_nw τ n) o = mv_l τ o := fun τ n q => funext fun k => if_neg (by omega)
  have n3 : ∀ (τ : mv_H) (n : Nat), 145 ≤ n → mv_r (mv_nw τ n) o = mv_r τ o := fun τ n q => funext fun k => if_neg (by omega)
  have n4 : ∀ (τ : mv_H) (n : Nat), 145 ≤ n → mv_a (mv_nw τ n) o = mv_a τ o := fun τ n q => funext fun k => if_neg (by omega)
  have n5 : ∀ (τ : mv_H) (n : Nat), 145 ≤ n → mv_b (mv_nw τ n) o = mv_b τ o := fun τ n q => funext fun k => if_neg (by omega)
  have s3 : ∀ (τ : mv_H) (n k : Nat) (v : Option Nat), 145 ≤ n → mv_r (mv_sr τ n k v) o = mv_r τ o := fun τ n k v q => mv_u_o _ _ (by omega)
  have s1 : ∀ (τ : mv_H) (n k : Nat) (v : Option Nat), mv_i (mv_sr τ n k v) o = mv_i τ o := fun τ n k v => rfl
  have s2 : ∀ (τ : mv_H) (n k : Nat) (v : Option Nat), mv_l (mv_sr τ n k v) o = mv_l τ o := fun τ n k v => rfl
  have s4 : ∀ (τ : mv_H) (n k : Nat) (v : Option Nat), mv_a (mv_sr τ n k v) o = mv_a τ o := fun τ n k v => rfl
  have s5 : ∀ (τ : mv_H) (n k : Nat) (v : Option Nat), mv_b (mv_sr τ n k v) o = mv_b τ o := fun τ n k v => rfl
  unfold sg_Program_c sg_Tree_c
  refine ⟨?_, ?_, ?_, ?_, ?_⟩
  · simp only [n1, s1, Nat.reduceLeDiff]
  · simp only [n2, s2, Nat.reduceLeDiff]
  · simp only [n3, s3, Nat.reduceLeDiff]
  · simp only [n4, s4, Nat.reduceLeDiff]
  · simp only [n5, s5, Nat.reduceLeDiff]
theorem gf_prc {σ : mv_H} : GF σ (sg_Program_c (mv_nw σ 145)) := ⟨fun o a b => prc_o (by omega), (prc_o (by decide)).2.2.2.1⟩

theorem sh_psi {τ1 τ2 ς : mv_H} {P9 k9 : Nat} (h0 : mh (mv_r ς)) (hm : mh (mv_r τ1)) (hI : In τ1 k9) (hW : WP τ1) (hF : ShF τ1 τ2) (hQ : ShQ τ2 96) :
    mh (mv_r (mv_sr (sg_Program_c (mv_nw τ2 145)) 0 8 (some 145))) ∧ Ph 145 (mv_r (mv_sr (sg_Program_c (mv_nw τ2 145)) 0 8 (some 145))) ∧ In (mv_sr (sg_Program_c (mv_nw τ2 145)) 0 8 (some 145)) k9 ∧ WP (mv_sr (sg_Program_c (mv_nw τ2 145)) 0 8 (some 145)) ∧ ShQ (mv_sr (sg_Program_c (mv_nw τ2 145)) 0 8 (some 145)) 96 ∧ TreeZ 145 (mv_sr (sg_Program_c (mv_nw τ2 145)) 0 8 (some 145)) ∧ mv_r (mv_sr (sg_Program_c (mv_nw τ2 145)) 0 8 (some 145)) 0 8 = some 145 := by
  have hm2 : mh (mv_r τ2) := by rw [hF.2.2.2.2]; exact hm
  have hm3 : mh (mv_r (sg_Program_c (mv_nw τ2 145))) := fun o k v e => by
    by_cases z : o < 145
    · rw [(prc_o z).2.2.1]
      exact hm2 o k v e
    · rcases mr_lt e with h | h | h
      · omega
      · omega
      · exact prc_ph τ2 o k v h
  have hI2 : In τ2 k9 := hI.fr (hF.1 _ _ (by omega)) (hF.2.1 _ (by omega))
  have hW2 : WP τ2 := hW.fr (hF.2.1 _ (by omega)) (hF.2.1 _ (by omega)) (hF.2.2.1 _ id) (funext fun k => hF.1 _ _ (by omega)) (hF.2.1 _ (by omega)) (hF.2.1 _ (by omega))
  refine ⟨mh_sr hm3 rfl, (prc_ph τ2).sr rfl, ?_, ?_, ?_, ⟨rfl, rfl, rfl⟩, mv_u_same (mv_r (sg_Program_c (mv_nw τ2 145))) 0 8 (some 145)⟩
  · exact (hI2.fr (by rw [(prc_o (by decide)).1]) ((prc_o (by decide)).2.2.2.1) : In (sg_Program_c (mv_nw τ2 145)) k9)
  · exact (hW2.fr (prc_o (by decide)).2.2.2.1 (prc_o (by decide)).2.2.2.1 (prc_o (by decide)).2.2.2.2 (prc_o (by decide)).1 (prc_o (by decide)).2.2.2.1 (prc_o (by decide)).2.2.2.1 : WP (sg_Program_c (mv_nw τ2 145)))
  · obtain ⟨q1, q2, q3, q4, q5⟩ := hQ
    have ei : mv_i (mv_sr (sg_Program_c (mv_nw τ2 145)) 0 8 (some 145)) 143 1 = mv_i τ2 143 1 := congrFun (prc_o (σ := τ2) (o := 143) (by decide)).1 1
    have ea : mv_a (mv_sr (sg_Program_c (mv_nw τ2 145)) 0 8 (some 145)) 144 = mv_a τ2 144 := (prc_o (σ := τ2) (o := 144) (by decide)).2.2.2.1
    refine ⟨?_, by rw [ei]; exact q2, by rw [ei]; exact q3, by rw [ea]; exact q4, by rw [ei, ea]; exact q5⟩
    show mv_u (mv_r (sg_Program_c (mv_nw τ2 145))) 0 8 (some 145) 143 0 = some 144
    rw [mv_u_ne _ _ (by omega), (prc_o (by decide)).2.2.1]
    exact q1
theorem txt_psi {τ2 : mv_H} (h : TXT τ2) : TXT (mv_sr (sg_Program_c (mv_nw τ2 145)) 0 8 (some 145)) := by
  have ei : mv_i (mv_sr (sg_Program_c (mv_nw τ2 145)) 0 8 (some 145)) 143 1 = mv_i τ2 143 1 := congrFun (prc_o (σ := τ2) (o := 143) (by decide)).1 1
  have ea : mv_a (mv_sr (sg_Program_c (mv_nw τ2 145)) 0 8 (some 145)) 144 = mv_a τ2 144 := (prc_o (σ := τ2) (o := 144) (by decide)).2.2.2.1
  exact ⟨ei.trans h.1, fun k v ek hk => by rw [ea]; exact h.2 k v ek hk⟩
theorem LC48 {ext : mv_Sh} {σ : mv_H} {R k : Nat} (h : LC ext σ 145 R 48 k) : mv_i σ 145 10 = 48 := by
  obtain ⟨-, -, -, -, ⟨th, sl, h1, h2, h3, h4⟩, -⟩ := h
  exact h4 rfl
theorem sh_woven {ψ τ : mv_H} {k9 : Nat} {v : Int32} (hI : In ψ k9) (hZ : TreeZ 145 ψ) (hm : mh (mv_r ψ)) (hp : Ph 145 (mv_r ψ)) (h8 : mv_r ψ 0 8 = some 145) (h : WV 145 8192 48 144 ψ v τ) (h48 : mv_i τ 145 10 = 48) :
    ∃ th sl, Th 145 τ th sl ∧ PO 145 8192 48 τ ∧ In τ k9 ∧ WP τ ∧ mh (mv_r τ) ∧ Ph 145 (mv_r τ) ∧ mv_r τ 0 8 = some 145 := by
  have f := h.vt
  obtain ⟨hW, th, sl, hT, h0, h1, hv⟩ := h
  have q : PQ 145 := Or.inr (Or.inr rfl)
  refine ⟨th, sl, hT, ⟨th, sl, ⟨hT, ?_⟩, h0, h1, fun _ => h48⟩, hI.fr (f.1 _ _ (by omega)) (f.2.1 _ (by omega)), hW, ?_, ?_, ?_⟩
  · rcases hv with ⟨-, g⟩ | ⟨-, -, g1, g2⟩
    · exact Or.inl ⟨(congrFun (g.2.1 (145 + 13) (by omega)) 0).trans hZ.1, (congrFun (g.2.1 (145 + 14) (by omega)) 0).trans hZ.2.1, (congrFun (g.2.1 (145 + 15) (by omega)) 0).trans hZ.2.2⟩
    · exact Or.inr ⟨g1, g2⟩
  · rw [f.2.2.2.2]
    exact mh_sr (mh_sr (mh_sr hm rfl) rfl) rfl
  · rw [f.2.2.2.2]
    exact Ph_sr q (Ph_sr q (Ph_sr q hp (by omega)) (by omega)) (by omega)
  · rw [f.2.2.2.2]
    exact wb_08.trans h8
theorem sh_q1 (ς : mv_H) : ShQ (sg_Shipped (mv_nw ς 143)) 0 := ⟨rfl, Int.le_refl 0, (show (0 : Int) ≤ 8192 by decide), fun j _ => ⟨(show -128 ≤ (0 : Int32).toInt by decide), (show (0 : Int32).toInt ≤ 127 by decide)⟩, Nat.le_refl 0⟩
theorem sh_i1 {ς : mv_H} {k9 : Nat} (hI : In ς k9) : In (sg_Shipped (mv_nw ς 143)) k9 := (In_nw (In_nw hI (n := 143) (by decide)) (n := 144) (by decide) : In (mv_nw (mv_nw ς 143) 144) k9)
theorem sh_w1 {ς : mv_H} (hW : WP ς) : WP (sg_Shipped (mv_nw ς 143)) := (WP_nw (WP_nw hW (n := 143) (by decide)) (n := 144) (by decide) : WP (mv_nw (mv_nw ς 143) 144))
theorem sh_k1 (ς : mv_H) : MKp ς (sg_Shipped (mv_nw ς 143)) := by
  have n1 : ∀ (τ : mv_H) (n : Nat), 143 ≤ n → mv_i (mv_nw τ n) 64 = mv_i τ 64 := fun τ n q => funext fun k => if_neg (by omega)
  have n5 : ∀ (τ : mv_H) (n : Nat), 143 ≤ n → mv_b (mv_nw τ n) 65 = mv_b τ 65 := fun τ n q => funext fun k => if_neg (by omega)
  refine ⟨fun k => ?_, ?_⟩
  · show mv_i (mv_nw (mv_nw ς 143) 144) 64 k = _
    rw [n1 _ _ (by omega), n1 _ _ (by omega)]
  · show mv_b (mv_nw (mv_nw ς 143) 144) 65 = _
    rw [n5 _ _ (by omega), n5 _ _ (by omega)]
theorem sh_k3 (τ : mv_H) : MKp τ (mv_sr (sg_Program_c (mv_nw τ 145)) 0 8 (some 145)) := ⟨fun k => congrFun (prc_o (σ := τ) (o := 64) (by decide)).1 k, (prc_o (σ := τ) (o := 65) (by decide)).2.2.2.2⟩
theorem sh_g1 (ς : mv_H) : GF ς (sg_Shipped (mv_nw ς 143)) := ((GF.nw (n := 143) (by decide)).tr (GF.nw (n := 144) (by decide))).tr (GF.sr (by decide))
theorem c_Shipped_write_q (l : Launch) {dA : FieldType → ClassId} {D : va_G} {al : Nat → Nat} {sk sv : Nat → Nat} (hi : mv_inj (mq dA D al 145)) (σ : mv_H) (hQ : ShQ σ 0) (h01 : mv_i σ 143 1 = 0) : mv_C l y_Shipped_write (Cond.code y_Shipped_write b_Shipped_write 1 (Option.none : Option Jvm.ClassFile.FieldType) :: ma) ({ frames := 8, cells := 0, slots := 0, locals := 174 }) (mq dA D al 145) (mK sk sv) [.ref (al 143)] σ (mv_Rv (fun σ1 => (ShF σ σ1 ∧ ShQ σ1 (96)) ∧ TXT σ1)) := by
  rw [mq_145] at hi ⊢
  exact c_Shipped_write_t l hi σ hQ h01
theorem c_Weaver_weave_q2 (l : Launch) {dA : FieldType → ClassId} {D : va_G} {al : Nat → Nat} {sk sv : Nat → Nat} (hi : mv_inj (mq dA D al 161)) (σ : mv_H) (len : Nat) (w : Int32) (hm : mh (mv_r σ)) (hq : Ph 145 (mv_r σ)) (hw : w.toInt = len) (hl1 : len ≤ 8192) (hby8 : ∀ i, i < 8192 → -128 ≤ (mv_a σ 144 i).toInt ∧ (mv_a σ 144 i).toInt ≤ 127) (hk0 : mv_a σ 4 0 = 0) (hp0 : 0 ≤ (mv_a σ 5 0).toInt) (hb0 : mv_b σ 6 0 = 0) (hNs0 : Ns σ) (hMt0 : Mt (mv_a σ 24)) (hM9 : qc (mv_a σ 144) len ≤ 96) (hT : TXT σ) (hw9 : w = mv_i σ 143 1) : mv_C l y_Weaver_weave (Cond.code y_Weaver_weave b_Weaver_weave 6 (Option.some Jvm.ClassFile.FieldType.boolean) :: ma) ({ frames := 7, cells := 0, slots := 0, locals := 176 }) (mq dA D al 161) (mK sk sv) [.ref (al 2), .ref (al 144), .int w, .ref (al 145)] σ (mv_Ri (fun v σ1 => WV 145 8192 48 144 σ v σ1 ∧ mv_i σ1 145 10 = 48 ∧ SHP σ1)) := by
  rw [mq_161] at hi ⊢
  exact c_Weaver_weave_t2 l hi σ len w hm hq hw hl1 hby8 hk0 hp0 hb0 hNs0 hMt0 hM9 hT hw9
theorem c_kl_Machine_load_q (l : Launch) {dA : FieldType → ClassId} {D : va_G} {al : Nat → Nat} {sk sv : Nat → Nat} (hi : mv_inj (mq dA D al 161)) (σ : mv_H) (hm : mh (mv_r σ)) (hq : Ph 145 (mv_r σ)) (th sl : Nat) (hT : Th 145 σ th sl) : mv_C l y_Machine_load (Cond.code y_Machine_load b_Machine_load 2 (Option.none : Option Jvm.ClassFile.FieldType) :: ma) ({ frames := 2, cells := 0, slots := 0, locals := 47 }) (mq dA D al 161) (mK sk sv) [.ref (al 64), .ref (al 145)] σ (mv_Rv (fun σ1 => (FM (mv_sr σ 64 0 (some 145)) σ1 ∧ Rf 145 (mv_r σ1)) ∧ σ1 = ldF 145 σ)) := by
  rw [mq_161] at hi ⊢
  exact c_kl_Machine_load_c l hi σ hm hq th sl hT
def y_Loom_ship : MethodName := ⟨"MachineLoom", "ship", "()I"⟩
abbrev b_Loom_ship : ByteArray := prog_1_method_6_code
theorem kc_Loom_ship : Cond.code y_Loom_ship b_Loom_ship 2 (Option.some Jvm.ClassFile.FieldType.int) ∈ ma := ma_of (tb_3 _ (List.mem_of_getElem? (i := 40) rfl)) rfl
theorem k_494 : (Jvm.Cond.fieldLink "MachineLoom" (108 : Nat) "MachineLoom" "shipped" "LMachineLoom$Program;") ∈ ma := ma_of (tb_3 _ (List.mem_of_getElem? (i := 14) rfl)) rfl
theorem k_521 : (Jvm.Cond.classLink "MachineLoom" (111 : Nat) "MachineLoom$Shipped") ∈ ma := ma_of (tb_3 _ (List.mem_of_getElem? (i := 41) rfl)) rfl
theorem k_522 : (Jvm.Cond.instantiable "MachineLoom$Shipped" (2 : Nat)) ∈ ma := ma_of (tb_3 _ (List.mem_of_getElem? (i := 42) rfl)) rfl
theorem k_524 : (Jvm.Cond.instanceMethod ({ cls := "MachineLoom$Shipped", name := "<init>", desc := "()V" } : Jvm.MethodName)) ∈ ma := ma_of (tb_3 _ (List.mem_of_getElem? (i := 44) rfl)) rfl
theorem k_536 : (Jvm.Cond.methodLink "MachineLoom" (114 : Nat) ({ cls := "MachineLoom$Shipped", name := "write", desc := "()V" } : Jvm.MethodName)) ∈ ma := ma_of (tb_3 _ (List.mem_of_getElem? (i := 56) rfl)) rfl
theorem k_537 : (Jvm.Cond.instanceMethod ({ cls := "MachineLoom$Shipped", name := "write", desc := "()V" } : Jvm.MethodName)) ∈ ma := ma_of (tb_3 _ (List.mem_of_getElem? (i := 57) rfl)) rfl
theorem k_538 : (Jvm.Cond.selects "MachineLoom$Shipped" ({ cls := "MachineLoom$Shipped", name := "write", desc := "()V" } : Jvm.MethodName) ({ cls := "MachineLoom$Shipped", name := "write", desc := "()V" } : Jvm.MethodName)) ∈ ma := ma_of (tb_3 _ (List.mem_of_getElem? (i := 58) rfl)) rfl
theorem k_528 : (Jvm.Cond.fieldLink "MachineLoom" (117 : Nat) "MachineLoom$Shipped" "row" "[B") ∈ ma := ma_of (tb_3 _ (List.mem_of_getElem? (i := 48) rfl)) rfl
theorem k_529 : (Jvm.Cond.fieldLink "MachineLoom" (120 : Nat) "MachineLoom$Shipped" "size" "I") ∈ ma := ma_of (tb_3 _ (List.mem_of_getElem? (i := 49) rfl)) rfl
theorem d_Loom_ship_0 : decode b_Loom_ship 0 = .ok (.aload_n 0, 1) := by decide +kernel
theorem d_Loom_ship_1 : decode b_Loom_ship 1 = .ok (.getfield 108, 3) := by decide +kernel
theorem d_Loom_ship_4 : decode b_Loom_ship 4 = .ok (.ifnonnull (51), 3) := by decide +kernel
theorem d_Loom_ship_7 : decode b_Loom_ship 7 = .ok (.new 111, 3) := by decide +kernel
theorem d_Loom_ship_10 : decode b_Loom_ship 10 = .ok (.dup, 1) := by decide +kernel
theorem d_Loom_ship_11 : decode b_Loom_ship 11 = .ok (.invokespecial 113, 3) := by decide +kernel
theorem d_Loom_ship_14 : decode b_Loom_ship 14 = .ok (.astore_n 1, 1) := by decide +kernel
theorem d_Loom_ship_15 : decode b_Loom_ship 15 = .ok (.aload_n 1, 1) := by decide +kernel
theorem d_Loom_ship_16 : decode b_Loom_ship 16 = .ok (.invokevirtual 114, 3) := by decide +kernel
theorem d_Loom_ship_19 : decode b_Loom_ship 19 = .ok (.aload_n 0, 1) := by decide +kernel
theorem d_Loom_ship_20 : decode b_Loom_ship 20 = .ok (.new 28, 3) := by decide +kernel
theorem d_Loom_ship_23 : decode b_Loom_ship 23 = .ok (.dup, 1) := by decide +kernel
theorem d_Loom_ship_24 : decode b_Loom_ship 24 = .ok (.sipush 8192, 3) := by decide +kernel
theorem d_Loom_ship_27 : decode b_Loom_ship 27 = .ok (.bipush 48, 2) := by decide +kernel
theorem d_Loom_ship_29 : decode b_Loom_ship 29 = .ok (.invokespecial 30, 3) := by decide +kernel
theorem d_Loom_ship_32 : decode b_Loom_ship 32 = .ok (.putfield 108, 3) := by decide +kernel
theorem d_Loom_ship_35 : decode b_Loom_ship 35 = .ok (.aload_n 0, 1) := by decide +kernel
theorem d_Loom_ship_36 : decode b_Loom_ship 36 = .ok (.getfield 24, 3) := by decide +kernel
theorem d_Loom_ship_39 : decode b_Loom_ship 39 = .ok (.aload_n 1, 1) := by decide +kernel
theorem d_Loom_ship_40 : decode b_Loom_ship 40 = .ok (.getfield 117, 3) := by decide +kernel
theorem d_Loom_ship_43 : decode b_Loom_ship 43 = .ok (.aload_n 1, 1) := by decide +kernel
theorem d_Loom_ship_44 : decode b_Loom_ship 44 = .ok (.getfield 120, 3) := by decide +kernel
theorem d_Loom_ship_47 : decode b_Loom_ship 47 = .ok (.aload_n 0, 1) := by decide +kernel
theorem d_Loom_ship_48 : decode b_Loom_ship 48 = .ok (.getfield 108, 3) := by decide +kernel
theorem d_Loom_ship_51 : decode b_Loom_ship 51 = .ok (.invokevirtual 77, 3) := by decide +kernel
theorem d_Loom_ship_54 : decode b_Loom_ship 54 = .ok (.pop, 1) := by decide +kernel
theorem d_Loom_ship_55 : decode b_Loom_ship 55 = .ok (.aload_n 0, 1) := by decide +kernel
theorem d_Loom_ship_56 : decode b_Loom_ship 56 = .ok (.getfield 57, 3) := by decide +kernel
theorem d_Loom_ship_59 : decode b_Loom_ship 59 = .ok (.aload_n 0, 1) := by decide +kernel
theorem d_Loom_ship_60 : decode b_Loom_ship 60 = .ok (.getfield 108, 3) := by decide +kernel
theorem d_Loom_ship_63 : decode b_Loom_ship 63 = .ok (.invokevirtual 102, 3) := by decide +kernel
theorem d_Loom_ship_66 : decode b_Loom_ship 66 = .ok (.aload_n 0, 1) := by decide +kernel
theorem d_Loom_ship_67 : decode b_Loom_ship 67 = .ok (.getfield 108, 3) := by decide +kernel
theorem d_Loom_ship_70 : decode b_Loom_ship 70 = .ok (.getfield 105, 3) := by decide +kernel
theorem d_Loom_ship_73 : decode b_Loom_ship 73 = .ok (.ireturn, 1) := by decide +kernel
set_option maxHeartbeats 1000000 in
set_option maxRecDepth 100000 in
theorem c_ship_new (l : Launch) {dA : FieldType → ClassId} {D : va_G} {al : Nat → Nat} {sk sv : Nat → Nat} (hi : mv_inj (mq dA D al 143)) (hlt : l.stackTraces = false) (σ : mv_H) (P9 R9 M9 k9 : Nat) (hP : P9 = 32 ∨ P9 = 48) (hC : LC [] σ P9 R9 M9 k9) : mv_CN l y_Loom_ship (Cond.code y_Loom_ship b_Loom_ship 2 (Option.some Jvm.ClassFile.FieldType.int) :: ma) ({ frames := 9, cells := 18, slots := 28413, locals := 201 }) dA D al 143 161 (mKt sk sv) [.ref (al 0)] σ (fun v9 σ9 => ∃ x : Int32, v9 = some (.int x) ∧ LC me σ9 145 8192 48 k9 ∧ GS σ σ9 ∧ x = 48 ∧ SHP σ9 ∧ LDz 145 σ σ9) := by
  refine mv_CN.ofV (cc := b_Loom_ship) (nL := 2) (ret := (Option.some Jvm.ClassFile.FieldType.int)) (by decide +kernel) rfl hi (Nat.le_of_ble_eq_true rfl) ?_
  intro p e s m args below meth c B hNs hr hnm hno
  refine mq_perm (w8 := mw) (π := shP) (πi := shI) B (mv_sf σ) (mw_le (by decide)) (mw_le (by decide)) (fun k hk => by rw [shP_lt hk]) (fun k hk => by rw [shP_lt hk]; exact hk) (fun k hk => by rw [shI_lt hk]; exact hk) shP_I (fun r hr => by rw [shP_lt hr, shI_lt hr]) (fun o ho => by rw [shP_lt ho]; exact ⟨rfl, rfl, fun k => mv_sf_r ho k, rfl, rfl⟩) (fun B => ?_)
  generalize hal : (fun k => al (shP k)) = al0 at B ⊢
  have hg : mq_gr al al0 143 143 s.heap.size := ⟨fun k hk => by rw [← hal]; show al (shP k) = al k; rw [shP_lt hk], fun k h1 h2 => absurd h2 (by omega)⟩
  have hNs := mq_K (mKt_ok sk sv) hg (by decide) (mw_le (by decide)) hNs
  rw [← hg.1 0 (by decide)]
  have hok := mv_sf_ok σ
  have hGS := GS.sf σ
  have hC := LC.sf hC hP
  have hMK : MKp σ (mv_sf σ) := ⟨fun _ => rfl, rfl⟩
  generalize mv_sf σ = ς at hok hGS hC hMK ⊢
  clear hal
  obtain ⟨hPP, hI, hR, hW, hPO, hLS⟩ := hC
  have h08 : mv_r ς 0 8 = none := by
    rcases hLS with h | h
    · exact h.2
    · exact absurd h.1 (fun z => nomatch z)
  refine mv_aload_n (pc := 0) B d_Loom_ship_0 rfl 0 rfl ?_
  refine mv_getN (pc := 1) (ci := 0) (C := R_Loom) (T := F_Loom) (N := 10) (o := 0) B 8 rfl rfl (by decide) i_Loom (B.2.2.2.1 _ k_494) rfl h08 d_Loom_ship_1 ?_
  refine mv_ifnnN (pc := 4) B d_Loom_ship_4 ?_
  refine mq_new (pc := 7) (ci := 10) (C := R_Shipped) (T := F_Shipped) (N := 2) (n2 := 144) B rfl (by decide) rfl hok rfl i_Shipped t_Shipped_ok (by decide) (B.2.2.2.1 _ k_521) (B.2.2.2.1 _ k_522) (B.2.2.2.1 _ k_35) (Nat.le_of_ble_eq_true rfl) (Nat.le_of_ble_eq_true rfl) d_Loom_ship_7 (fun al1 g1 B => ?_)
  have hok := hok.nw
  have hNs := mq_K (mKt_ok sk sv) g1 (by decide) (mw_le (by decide)) hNs
  have hg := hg.tr g1 (by decide)
  rw [← g1.1 0 (by decide)]
  refine mv_dup (pc := 10) B d_Loom_ship_10 rfl ?_
  refine mq_callIN (pc := 11) (na := 0) B (mKt_ok sk sv) hNs (by decide) (by decide) (nc_Shipped l B.2.2.2.2.2.1 hlt _ hok) rfl (ma_goodc kc_Shipped_init) (va_Nw.use rfl (hNs.1.1 _ (List.mem_of_getElem? (i := 4) rfl))) (B.2.2.2.1 _ k_524) (B.2.2.2.1 _ k_35) ⟨rfl, ⟨by decide +kernel, by decide +kernel⟩, by decide +kernel⟩ rfl d_Loom_ship_11 rfl (Nat.le_of_ble_eq_true rfl) ⟨by decide, by decide⟩ ⟨Nat.le_of_ble_eq_true rfl, Nat.le_of_ble_eq_true rfl⟩ (fun v9 al2 σ2 g2 B h9 => ?_)
  obtain ⟨rfl, rfl⟩ := h9
  have hok := ok_Shipped hok
  have hNs := mq_K (mKt_ok sk sv) g2 (by decide) (mw_le (by decide)) hNs
  have hg := hg.tr g2 (by decide)
  rw [← g2.1 0 (by decide)]
  rw [← g2.1 143 (by decide)]
  refine mv_astore_n (pc := 14) B d_Loom_ship_14 rfl (by decide) rfl ?_
  have hm1 : mh (mv_r (sg_Shipped (mv_nw ς 143))) := mh_shp hR.1
  have hQ1 := sh_q1 ς
  have hI1 := sh_i1 hI
  have hW1 := sh_w1 hW
  have hG1 := sh_g1 ς
  have hK1 := hMK.tr (sh_k1 ς)
  have h01 : mv_i (sg_Shipped (mv_nw ς 143)) 143 1 = 0 := rfl
  generalize sg_Shipped (mv_nw ς 143) = τ1 at hok hm1 hQ1 hI1 hW1 hG1 h01 hK1 ⊢
  refine mv_aload_n (pc := 15) B d_Loom_ship_15 rfl 0 rfl ?_
  refine mv_callVG (pc := 16) (na := 0) (ci := 10) (C := R_Shipped) (o := 143) B (mK_ok sk sv) hNs.1 rfl rfl (c_Shipped_write_q l B.2.2.2.2.2.1 _ hQ1 h01) rfl (ma_goodc kc_Shipped_write) (B.2.2.2.1 _ k_536) (B.2.2.2.1 _ k_537) (B.2.2.2.1 _ k_538) (B.2.2.2.1 _ k_35) ⟨by decide +kernel, by decide +kernel, by decide +kernel⟩ rfl d_Loom_ship_16 rfl (Nat.le_of_ble_eq_true rfl) ⟨by decide, by decide⟩ ⟨Nat.le_of_ble_eq_true rfl, Nat.le_of_ble_eq_true rfl⟩ (fun x9 τ9 h9 => by cases h9.1) (fun v9 τ2 h9 => ?_)
  obtain ⟨h8, ⟨hF2, hQ2⟩, hT2⟩ := h9
  cases h8
  have hok := mv_ok.r hok hF2.2.2.2.2
  have hK2 : MKp σ τ2 := hK1.tr ⟨fun k => hF2.1 _ _ (by omega), hF2.2.2.1 _ id⟩
  refine mv_aload_n (pc := 19) B d_Loom_ship_19 rfl 1 rfl ?_
  refine mq_new (pc := 20) (ci := 7) (C := R_Program) (T := F_Program) (N := 19) (n2 := 146) B rfl (by decide) rfl hok rfl i_Program t_Program_ok (by decide) (B.2.2.2.1 _ k_279) (B.2.2.2.1 _ k_280) (B.2.2.2.1 _ k_8) (Nat.le_of_ble_eq_true rfl) (Nat.le_of_ble_eq_true rfl) d_Loom_ship_20 (fun al3 g3 B => ?_)
  have hok := hok.nw
  have hNs := mq_K (mKt_ok sk sv) g3 (by decide) (mw_le (by decide)) hNs
  have hg := hg.tr g3 (by decide)
  rw [← g3.1 0 (by decide)]
  rw [← g3.1 143 (by decide)]
  refine mv_dup (pc := 23) B d_Loom_ship_23 rfl ?_
  refine mv_sipush (pc := 24) (v := 8192) B d_Loom_ship_24 (by decide) ?_
  refine mv_bipush (pc := 27) (v := 48) B d_Loom_ship_27 (by decide) ?_
  refine mq_callI (pc := 29) (na := 2) B (mKt_ok sk sv) hNs (by decide) (by decide) (nc_Program_c l B.2.2.2.2.2.1 hlt _ hok) rfl (ma_goodc kc_Program_init) (B.2.2.2.1 _ k_281) (B.2.2.2.1 _ k_282) (B.2.2.2.1 _ k_8) ⟨rfl, ⟨by decide +kernel, by decide +kernel⟩, by decide +kernel⟩ rfl d_Loom_ship_29 rfl (Nat.le_of_ble_eq_true rfl) ⟨by decide, by decide⟩ ⟨Nat.le_of_ble_eq_true rfl, Nat.le_of_ble_eq_true rfl⟩ (fun v9 al4 σ4 g4 B h9 => ?_)
  obtain ⟨rfl, rfl⟩ := h9
  have hok := ok_Program_c hok
  have hNs := mq_K (mKt_ok sk sv) g4 (by decide) (mw_le (by decide)) hNs
  have hg := hg.tr g4 (by decide)
  rw [← g4.1 0 (by decide)]
  rw [← g4.1 143 (by decide)]
  rw [← g4.1 145 (by decide)]
  refine mv_putR (pc := 32) (ci := 0) (C := R_Loom) (T := F_Loom) (N := 10) (o := 0) (r := 145) B 8 rfl rfl (by decide) i_Loom t_Loom_ok n_Loom (B.2.2.2.1 _ k_494) rfl rfl d_Loom_ship_32 ?_
  have hψ := sh_psi hR.1 (P9 := P9) hm1 hI1 hW1 hF2 hQ2
  have hT3 := txt_psi hT2
  have hK3 : MKp σ (mv_sr (sg_Program_c (mv_nw τ2 145)) 0 8 (some 145)) := hK2.tr (sh_k3 τ2)
  have hGψ : GS σ (mv_sr (sg_Program_c (mv_nw τ2 145)) 0 8 (some 145)) := (((hGS.gf hG1).gf (GF.fF hF2 (fun o k a b z => by omega) (fun o a b z => by omega) (fun o a b z => z) (fun z => by omega))).gf ((gf_prc (σ := τ2)).tr (GF.sr (by decide))))
  obtain ⟨hm3, hp3, hI3, hW3, hQ3, hZ3, h83⟩ := hψ
  generalize mv_sr (sg_Program_c (mv_nw τ2 145)) 0 8 (some 145) = ψ at hm3 hp3 hI3 hW3 hQ3 hZ3 h83 hGψ hT3 hK3 ⊢
  obtain ⟨ln, hln⟩ : ∃ ln : Nat, (mv_i ψ 143 1).toInt = ln := ⟨(mv_i ψ 143 1).toInt.toNat, by have := hQ3.2.1; omega⟩
  have hl8 : ln ≤ 8192 := by have := hQ3.2.2.1; omega
  have hlc : (mv_i ψ 143 1).toNatClampNeg = ln := by have := i32_cl hQ3.2.1; omega
  refine mv_aload_n (pc := 35) B d_Loom_ship_35 rfl 1 rfl ?_
  refine mv_getR (pc := 36) (ci := 0) (C := R_Loom) (T := F_Loom) (N := 10) (o := 0) (r := 2) B 5 rfl rfl (by decide) i_Loom (B.2.2.2.1 _ k_491) rfl (hm3 _ 5 _ rfl) d_Loom_ship_36 ?_
  refine mv_aload_n (pc := 39) B d_Loom_ship_39 rfl 0 rfl ?_
  refine mv_getR (pc := 40) (ci := 10) (C := R_Shipped) (T := F_Shipped) (N := 2) (o := 143) (r := 144) B 0 rfl rfl (by decide) i_Shipped (B.2.2.2.1 _ k_528) rfl hQ3.1 d_Loom_ship_40 ?_
  refine mv_aload_n (pc := 43) B d_Loom_ship_43 rfl 0 rfl ?_
  refine mv_getI (pc := 44) (ci := 10) (C := R_Shipped) (T := F_Shipped) (N := 2) (o := 143) B 1 rfl rfl (by decide) i_Shipped (B.2.2.2.1 _ k_529) rfl  d_Loom_ship_44 ?_
  refine mv_aload_n (pc := 47) B d_Loom_ship_47 rfl 1 rfl ?_
  refine mv_getR (pc := 48) (ci := 0) (C := R_Loom) (T := F_Loom) (N := 10) (o := 0) (r := 145) B 8 rfl rfl (by decide) i_Loom (B.2.2.2.1 _ k_494) rfl h83 d_Loom_ship_48 ?_
  refine mv_callVG (pc := 51) (na := 3) (ci := 1) (C := R_Weaver) (o := 2) B (mK_ok sk sv) hNs.1 rfl rfl (c_Weaver_weave_q2 l B.2.2.2.2.2.1 _ ln _ hm3 hp3 hln hl8 hQ3.2.2.2.1 hW3.1 hW3.2.1 hW3.2.2.1 hW3.2.2.2.1 hW3.2.2.2.2 (by have h7 := hQ3.2.2.2.2; rw [hlc] at h7; exact h7) hT3 rfl) rfl (ma_goodc kc_Weaver_weave) (B.2.2.2.1 _ k_776) (B.2.2.2.1 _ k_777) (B.2.2.2.1 _ k_778) (B.2.2.2.1 _ k_2) ⟨by decide +kernel, by decide +kernel, by decide +kernel⟩ rfl d_Loom_ship_51 rfl (Nat.le_of_ble_eq_true rfl) ⟨by decide, by decide⟩ ⟨Nat.le_of_ble_eq_true rfl, Nat.le_of_ble_eq_true rfl⟩ (fun x9 τ9 h9 => by obtain ⟨_, h9, _⟩ := h9; cases h9) (fun v9 τ4 h9 => ?_)
  obtain ⟨x9, h8, h9⟩ := h9
  cases h8
  obtain ⟨h9, h48, hSH⟩ := h9
  have hV := h9.vt
  have hK4 : MKp σ τ4 := hK3.tr ⟨fun k => hV.1 _ _ (by omega), hV.2.2.1 _ (by omega)⟩
  have hL := sh_woven hI3 hZ3 hm3 hp3 h83 h9 h48
  obtain ⟨th, sl, hTh, hPO4, hI4, hW4, hm4, hp4, h84⟩ := hL
  have hGψ := hGψ.gf (wb_gf (by decide) hV)
  refine mv_pop (pc := 54) B d_Loom_ship_54 rfl ?_
  refine mv_aload_n (pc := 55) B d_Loom_ship_55 rfl 1 rfl ?_
  refine mv_getR (pc := 56) (ci := 0) (C := R_Loom) (T := F_Loom) (N := 10) (o := 0) (r := 64) B 9 rfl rfl (by decide) i_Loom (B.2.2.2.1 _ k_495) rfl (hm4 _ 9 _ rfl) d_Loom_ship_56 ?_
  refine mv_aload_n (pc := 59) B d_Loom_ship_59 rfl 1 rfl ?_
  refine mv_getR (pc := 60) (ci := 0) (C := R_Loom) (T := F_Loom) (N := 10) (o := 0) (r := 145) B 8 rfl rfl (by decide) i_Loom (B.2.2.2.1 _ k_494) rfl h84 d_Loom_ship_60 ?_
  refine mv_callVG (pc := 63) (na := 1) (ci := 9) (C := R_Machine) (o := 64) B (mK_ok sk sv) hNs.1 rfl rfl (c_kl_Machine_load_q l B.2.2.2.2.2.1 _ hm4 hp4 th sl hTh) rfl (ma_goodc kc_Machine_load) (B.2.2.2.1 _ k_1549) (B.2.2.2.1 _ k_1550) (B.2.2.2.1 _ k_1551) (B.2.2.2.1 _ k_11) ⟨by decide +kernel, by decide +kernel, by decide +kernel⟩ rfl d_Loom_ship_63 rfl (Nat.le_of_ble_eq_true rfl) ⟨by decide, by decide⟩ ⟨Nat.le_of_ble_eq_true rfl, Nat.le_of_ble_eq_true rfl⟩ (fun x9 τ9 h9 => by cases h9.1) (fun v9 τ5 h9 => ?_)
  obtain ⟨h8, ⟨hF5, hR5⟩, hL5⟩ := h9
  cases h8
  have hLD : LDz 145 σ τ5 := LDz.of (Or.inr (Or.inr rfl)) hK4 hL5
  clear hL5
  have hN := bw_load (ext := me) (Or.inr (Or.inr rfl)) hI4 hW4 hPO4 (Or.inr ⟨rfl, h84, hp4, hPO4⟩) hF5 hR5
  have h85 : mv_r τ5 0 8 = some 145 := by
    rw [hF5.2.2.2.2]
    show mv_u (mv_r τ4) 64 0 (some 145) 0 8 = _
    rw [mv_u_ne _ _ (by omega)]
    exact h84
  refine mv_aload_n (pc := 66) B d_Loom_ship_66 rfl 1 rfl ?_
  refine mv_getR (pc := 67) (ci := 0) (C := R_Loom) (T := F_Loom) (N := 10) (o := 0) (r := 145) B 8 rfl rfl (by decide) i_Loom (B.2.2.2.1 _ k_494) rfl h85 d_Loom_ship_67 ?_
  refine mv_getI (pc := 70) (ci := 7) (C := R_Program) (T := F_Program) (N := 19) (o := 145) B 10 rfl rfl (by decide) i_Program (B.2.2.2.1 _ k_346) rfl  d_Loom_ship_70 ?_
  exact mq_iret (pc := 73) B hr rfl d_Loom_ship_73 (Nat.le_of_ble_eq_true rfl) (Nat.le_of_ble_eq_true rfl) hg ⟨_, rfl, hN.1, hGψ.gf hN.2, LC48 hN.1, hSH.fr (fun o a b => ⟨funext fun k => hF5.1 o k (by omega), hF5.2.1 o (by omega), hF5.2.2.1 o (by omega)⟩), hLD⟩
set_option maxHeartbeats 4000000 in
set_option maxRecDepth 100000 in
theorem c_Loom_ship_old (l : Launch) {dA : FieldType → ClassId} {D : va_G} {al : Nat → Nat} {sk sv : Nat → Nat} (hi : mv_inj (mg dA D al me)) (σ : mv_H) (hlt : l.stackTraces = false) (P9 R9 M9 k9 : Nat) (hC : LC me σ P9 R9 M9 k9) : mv_C l y_Loom_ship (Cond.code y_Loom_ship b_Loom_ship 2 (Option.some Jvm.ClassFile.FieldType.int) :: ma) ({ frames := 3, cells := 0, slots := 0, locals := 68 }) (mg dA D al me) (mKt sk sv) [.ref (al 0)] σ (mv_Ri (fun v σ1 => (LC me σ1 145 8192 48 k9 ∧ GF σ σ1) ∧ v = 48 ∧ (SHP σ → SHP σ1) ∧ LDz 145 σ σ1)) := by
  refine mv_C.ofV (cc := b_Loom_ship) (nL := 2) (ret := (Option.some Jvm.ClassFile.FieldType.int)) (by decide +kernel) rfl hi (Nat.le_of_ble_eq_true rfl) ?_
  intro p e s m below meth c B hNs hr hnm hno
  obtain ⟨hPP, hI, hR, hW, hPO, hLS⟩ := hC
  have hLS9 := hLS
  obtain ⟨h9, -⟩ | ⟨-, h08, hp, hPO9⟩ := hLS
  · cases h9
  obtain ⟨th, sl, hO, ho0, ho1⟩ := hPO9
  have hPO9 : PO 145 8192 48 σ := ⟨th, sl, hO, ho0, ho1⟩
  refine mv_aload_n (pc := 0) B d_Loom_ship_0 rfl 0 rfl ?_
  refine mv_getR (pc := 1) (ci := 0) (C := R_Loom) (T := F_Loom) (N := 10) B 8 rfl rfl (by decide) i_Loom (B.2.2.2.1 _ k_494) rfl h08 d_Loom_ship_1 ?_
  refine mv_ifnn (pc := 4) (tgt := 55) B d_Loom_ship_4 rfl ?_
  refine mv_aload_n (pc := 55) B d_Loom_ship_55 rfl 0 rfl ?_
  refine mv_getR (pc := 56) (ci := 0) (C := R_Loom) (T := F_Loom) (N := 10) B 9 rfl rfl (by decide) i_Loom (B.2.2.2.1 _ k_495) rfl (hR.1 _ 9 _ rfl) d_Loom_ship_56 ?_
  refine mv_aload_n (pc := 59) B d_Loom_ship_59 rfl 0 rfl ?_
  refine mv_getR (pc := 60) (ci := 0) (C := R_Loom) (T := F_Loom) (N := 10) B 8 rfl rfl (by decide) i_Loom (B.2.2.2.1 _ k_494) rfl h08 d_Loom_ship_60 ?_
  refine mv_callVv (pc := 63) (n := 1) (ci := 9) (C := R_Machine) B (mK_ok sk sv) hNs.1 rfl rfl (c_kl_Machine_load_c l hi _ hR.1 hp th sl hO.1) rfl (ma_goodc kc_Machine_load) (B.2.2.2.1 _ k_1549) (B.2.2.2.1 _ k_1550) (B.2.2.2.1 _ k_1551) (B.2.2.2.1 _ k_11) ⟨by decide +kernel, by decide +kernel, by decide +kernel⟩ rfl d_Loom_ship_63 rfl (Nat.le_of_ble_eq_true rfl) ⟨by decide, by decide⟩ ⟨by decide, by decide⟩ ⟨by decide, by decide⟩ (mv_noH hno _) (fun σ63 h63 => ?_)
  obtain ⟨h63, x63⟩ := h63
  have hLD : LDz 145 σ σ63 := LDz.of (Or.inr (Or.inr rfl)) MKp.rf x63
  clear x63
  have hN := bw_load (ext := me) (Or.inr (Or.inr rfl)) hI hW hPO9 hLS9 h63.1 h63.2
  have h08 : mv_r σ63 0 8 = some 145 := by
    rw [h63.1.2.2.2.2]
    show mv_u (mv_r σ) 64 0 (some 145) 0 8 = _
    rw [mv_u_ne _ _ (by omega)]
    exact h08
  refine mv_aload_n (pc := 66) B d_Loom_ship_66 rfl 0 rfl ?_
  refine mv_getR (pc := 67) (ci := 0) (C := R_Loom) (T := F_Loom) (N := 10) B 8 rfl rfl (by decide) i_Loom (B.2.2.2.1 _ k_494) rfl h08 d_Loom_ship_67 ?_
  refine mv_getI (pc := 70) (ci := 7) (C := R_Program) (T := F_Program) (N := 19) B 10 rfl rfl (by decide) i_Program (B.2.2.2.1 _ k_346) rfl d_Loom_ship_70 ?_
  exact mv_iret (pc := 73) B hr rfl d_Loom_ship_73 (Nat.le_refl _) (Nat.le_refl _) ⟨_, rfl, hN, LC48 hN.1, fun z => z.fr (fun o a b => ⟨funext fun k => h63.1.1 o k (by omega), h63.1.2.1 o (by omega), h63.1.2.2.1 o (by omega)⟩), hLD⟩
