/-! Weaver: beginIf, beginLet, beginAssignment -/
/-- what the beginning of an EXPR may change -/
abbrev EF : mv_H → mv_H → Prop := Fr (fun o k => (o = 3 ∧ 7 ≤ k ∧ k ≤ 9) ∨ o = 21 ∨ (o = 2 ∧ k ≠ 15) ∨ o = 22) (fun _ => False) (fun _ => False)
section EFS
variable {P M : Nat} {σ τ : mv_H}
theorem EF.wt (h : EF σ τ) : WT P σ τ := h.up (fun o k q => by omega) (fun o q => q.elim) (fun o q => q.elim)
theorem EF.of (h : EF σ τ) : OF P σ τ := h.up (fun o k q => by omega) (fun o q => q.elim) (fun o q => q.elim)
theorem EF.tk3 (h : EF σ τ) (a d w : Int32) : EF σ (tk3 τ a d w) := ((h.si (Or.inl ⟨rfl, by omega, by omega⟩)).si (Or.inl ⟨rfl, by omega, by omega⟩)).si (Or.inl ⟨rfl, by omega, by omega⟩)
theorem EF.tell (h : EF σ τ) (x y : Int32) : EF σ (ex_tell τ x y) := (h.si (Or.inr (Or.inl rfl))).si (Or.inr (Or.inl rfl))
theorem EF.w (h : EF σ τ) {k : Nat} (hk : k ≠ 15) (v : Int32) : EF σ (mv_si τ 2 k v) := h.si (Or.inr (Or.inr (Or.inl ⟨rfl, hk⟩)))
theorem EF.e (h : EF σ τ) (k : Nat) (v : Int32) : EF σ (mv_si τ 22 k v) := h.si (Or.inr (Or.inr (Or.inr rfl)))
/-- the beginning of an EXPR -/
def wx (σ : mv_H) (g : Int32) : mv_H := mv_si (mv_si (mv_si (mv_si σ 2 7 g) 22 8 0) 22 10 0) 2 6 2
theorem EF.wx (h : EF σ τ) (g : Int32) : EF σ (wx τ g) := (((h.w (by omega) g).e 8 0).e 10 0).w (by omega) 2
/-- as WS, with a chain that waits for its block -/
def WX (P : Nat) (σ : mv_H) (sz th s a ns no : Nat) (bl : List Bk) (ex : List Nat) (x : Int32) : Prop :=
  ((mv_i σ 3 7).toInt = a ∧ (mv_i σ 3 9).toInt < 0 ∧ (bl.length : Int) ≤ (mv_i σ 3 8).toInt ∧ (mv_i σ 3 8).toInt ≤ 60 ∧ a < sz ∧ s + 2 ≤ a ∧ 2 * ns + 2 ≤ a ∧ no ≤ nCd (mv_a σ 4) a) ∧ ((mv_i σ 2 15).toInt = bl.length ∧ BkR (mv_a σ 28) (mv_a σ 29) (mv_a σ 30) (mv_a σ 31) (mv_b σ (P + 10)) (mv_i σ 13 7).toInt bl ∧ Bo (mv_a σ (P + 9)) s (((-1 : Int32), ex) :: bl) ∧ Lk (mv_b σ (P + 10)) x.toInt ex ∧ ∀ y ∈ ex, ∀ b ∈ bl, ∀ y' ∈ b.2, y' < y) ∧ ((mv_i σ P 17).toInt = s ∧ nSet (mv_a σ (P + 9)) s = ns ∧ (mv_i σ 21 0 = 0 → ∃ hg, CS th s (mv_a σ (P + 9)) (mv_b σ (P + 10)) (mv_a σ (P + 7)) no (((-1 : Int32), ex) :: bl) hg 0))
theorem CS.nil {th s no x : Nat} {f : Nat → Int32} {g : Nat → Int64} {st : Nat → Int32} {bl : List Bk} {hg : Nat → Nat} (h : CS th s f g st no bl hg x) : CS th s f g st no (((-1 : Int32), []) :: bl) hg x := ⟨h.1, h.2.1, fun a q => (h.2.2.1 a q).elim (fun z => Or.inl z.tail) Or.inr, h.2.2.2.1.cons ⟨fun u hu => absurd (show (-1 : Int) = u from hu) (by omega), fun y hy => absurd hy List.not_mem_nil⟩, h.2.2.2.2⟩
theorem Bo.nil {f : Nat → Int32} {s : Nat} {bl : List Bk} (h : Bo f s bl) : Bo f s (((-1 : Int32), []) :: bl) := h.cons ⟨fun u hu => absurd (show (-1 : Int) = u from hu) (by omega), fun y hy => absurd hy List.not_mem_nil, by show (-1 : Int) ≤ (-1 : Int32).toInt; decide⟩
theorem WS.x {sz th s a ns no : Nat} {bl : List Bk} (h : WS P σ sz th s a ns no bl) : WX P σ sz th s a ns no bl [] (-1) := ⟨h.1, ⟨h.2.1.1, h.2.1.2.1, h.2.1.2.2.nil, rfl, fun y hy => absurd hy List.not_mem_nil⟩, h.2.2.1, h.2.2.2.1, fun q => by obtain ⟨hg, k⟩ := h.2.2.2.2 q; exact ⟨hg, k.nil⟩⟩
/-- an EXPR begins, in the state where it has begun -/
theorem WE.mk {n sz th s a ns no bs bd : Nat} {bl ol : List Bk} (hP : PQ P) (h7 : (mv_i τ 3 7).toInt = a) (h9 : (mv_i τ 3 9).toInt < 0) (h8 : (bd : Int) ≤ (mv_i τ 3 8).toInt) (h8b : (mv_i τ 3 8).toInt ≤ 60) (ha : a < sz) (hs : s + 3 ≤ a) (hn : 2 * ns + 2 ≤ a) (hn4 : mv_i τ 2 7 = 1 ∨ mv_i τ 2 7 = 2 ∨ mv_i τ 2 7 = 3 → 2 * ns + 4 ≤ a) (hno : no ≤ nCd (mv_a τ 4) a) (hM : Mt (mv_a τ 24)) (em : (mv_i τ 22 8).toInt = 0) (eh : (mv_i τ 22 10).toInt = 0)
    (hne : ¬ bl = []) (hb : (mv_i τ 2 15).toInt = bl.length) (hB : BkR (mv_a τ 28) (mv_a τ 29) (mv_a τ 30) (mv_a τ 31) (mv_b τ (P + 10)) (mv_i τ 13 7).toInt bl) (hO : Bo (mv_a τ (P + 9)) s ol) (hGl : Gl (mv_i τ 2 7) bs bd bl.length (mv_i τ 2 9).toInt n th (mv_i τ 13 9).toInt) (hGx : Gx (mv_i τ 2 7) (mv_b τ (P + 10)) (mv_i τ 2 10) bl ol) (hgt : mv_i τ 2 7 = 1 ∨ (0 ≤ (mv_i τ 2 8).toInt ∧ (mv_i τ 2 8).toInt < 32770)) (h17 : (mv_i τ P 17).toInt = s) (hns : nSet (mv_a τ (P + 9)) s = ns)
    (hC : mv_i τ 21 0 = 0 → (mv_i τ 2 7 = 4 ∨ 0 ≤ (mv_i τ 2 9).toInt) ∧ ∃ hg, CS th s (mv_a τ (P + 9)) (mv_b τ (P + 10)) (mv_a τ (P + 7)) no ol hg bs) : WE P τ n sz th no a 0 :=
  ⟨s, bs, bd, s, ns, mv_a τ (P + 9), mv_b τ (P + 10), bl, ol, [], ⟨XM.begin hP h17 hns hM hO hC em eh rfl rfl rfl rfl rfl, h7, h9, by show ((bd + 0 : Nat) : Int) ≤ _; omega, h8b, by show s + 0 + 3 ≤ a; omega, ha, fun m hm => absurd hm List.not_mem_nil⟩, ⟨hne, hb, hB, hO, hGl, hGx⟩, hgt, hn, hn4, hno⟩
/-- an EXPR that is no condition begins -/
theorem WE.of {n sz th s a a2 ns no bd : Nat} {bl : List Bk} (hP : PQ P) (h : WS P σ sz th s a ns no bl) (g : EF σ τ) (hne : ¬ bl = []) (hM : Mt (mv_a σ 24)) (h7 : (mv_i τ 3 7).toInt = a2) (h9 : (mv_i τ 3 9).toInt < 0) (h8 : (bd : Int) ≤ (mv_i τ 3 8).toInt) (h8b : (mv_i τ 3 8).toInt ≤ 60) (ha : a + 1 ≤ a2) (hz : a2 < sz) (hn4 : mv_i τ 2 7 = 1 ∨ mv_i τ 2 7 = 2 ∨ mv_i τ 2 7 = 3 → a + 2 ≤ a2) (em : (mv_i τ 22 8).toInt = 0) (eh : (mv_i τ 22 10).toInt = 0) (hGl : Gl (mv_i τ 2 7) 0 bd bl.length (mv_i τ 2 9).toInt n th (mv_i τ 13 9).toInt) (h4 : ¬ mv_i τ 2 7 = 4) (hgt : mv_i τ 2 7 = 1 ∨ (0 ≤ (mv_i τ 2 8).toInt ∧ (mv_i τ 2 8).toInt < 32770)) (hgi : mv_i τ 21 0 = 0 → mv_i σ 21 0 = 0 ∧ 0 ≤ (mv_i τ 2 9).toInt) : WE P τ n sz th no a2 0 := by
  obtain ⟨⟨k1, k2, k3, k4, k5, k6, k7, k8⟩, ⟨k9, k10, k11⟩, k12, k13, k14⟩ := h
  have hP0 := hP
  unfold PQ at hP
  have ea : mv_a τ = mv_a σ := funext fun o => g.2.1 o (fun q => q)
  have eb : mv_b τ = mv_b σ := funext fun o => g.2.2.1 o (fun q => q)
  have := nCd_mono (mv_a σ 4) (show a ≤ a2 by omega)
  refine WE.mk (s := s) (ns := ns) (bs := 0) (bd := bd) (bl := bl) (ol := bl) hP0 h7 h9 h8 h8b hz (by omega) (by omega) (fun q => by have := hn4 q; omega) (by rw [ea]; omega) (by rw [ea]; exact hM) em eh hne (by rw [g.1 2 15 (by omega)]; exact k9) (by rw [ea, eb, g.1 13 7 (by omega)]; exact k10) (by rw [ea]; exact k11) hGl (Or.inl ⟨h4, rfl⟩) hgt (by rw [g.1 P 17 (by omega)]; exact k12) (by rw [ea]; exact k13) (fun q => ?_)
  obtain ⟨q1, q2⟩ := hgi q
  rw [ea, eb]
  exact ⟨Or.inr q2, k14 q1⟩
/-- a condition begins -/
theorem WE.if {n sz th s a a2 ns no : Nat} {bl : List Bk} {ex : List Nat} {x : Int32} (hP : PQ P) (h : WX P σ sz th s a ns no bl ex x) (g : EF σ τ) (hne : ¬ bl = []) (hM : Mt (mv_a σ 24)) (h7 : (mv_i τ 3 7).toInt = a2) (h9 : (mv_i τ 3 9).toInt < 0) (h8 : (mv_i τ 3 8).toInt = (mv_i σ 3 8).toInt) (ha : a + 1 ≤ a2) (hz : a2 < sz) (em : (mv_i τ 22 8).toInt = 0) (eh : (mv_i τ 22 10).toInt = 0) (h4 : mv_i τ 2 7 = 4) (hx : mv_i τ 2 10 = x) (hgt : mv_i τ 2 7 = 1 ∨ (0 ≤ (mv_i τ 2 8).toInt ∧ (mv_i τ 2 8).toInt < 32770)) (hN : mv_i τ 21 0 = 0 → mv_i σ 21 0 = 0) : WE P τ n sz th no a2 0 := by
  obtain ⟨⟨k1, k2, k3, k4, k5, k6, k7, k8⟩, ⟨k9, k10, k11, k15, k16⟩, k12, k13, k14⟩ := h
  have hP0 := hP
  unfold PQ at hP
  have ea : mv_a τ = mv_a σ := funext fun o => g.2.1 o (fun q => q)
  have eb : mv_b τ = mv_b σ := funext fun o => g.2.2.1 o (fun q => q)
  have := nCd_mono (mv_a σ 4) (show a ≤ a2 by omega)
  refine WE.mk (s := s) (ns := ns) (bs := 0) (bd := bl.length) (bl := bl) (ol := ((-1 : Int32), ex) :: bl) hP0 h7 h9 (by omega) (by omega) hz (by omega) (by omega) (fun q => by rw [h4] at q; exact absurd q (by decide)) (by rw [ea]; omega) (by rw [ea]; exact hM) em eh hne (by rw [g.1 2 15 (by omega)]; exact k9) (by rw [ea, eb, g.1 13 7 (by omega)]; exact k10) (by rw [ea]; exact k11) (Or.inr (Or.inr (Or.inr (Or.inr ⟨h4, rfl, rfl⟩)))) (Or.inr ⟨h4, ex, rfl, by rw [eb, hx]; exact k15, k16⟩) hgt (by rw [g.1 P 17 (by omega)]; exact k12) (by rw [ea]; exact k13) (fun q => ?_)
  rw [ea, eb]
  exact ⟨Or.inl h4, k14 (hN q)⟩
end EFS
def y_Weaver_beginIf : MethodName := ⟨"MachineLoom$Weaver", "beginIf", "(I)V"⟩
abbrev b_Weaver_beginIf : ByteArray := prog_12_method_18_code
theorem kc_Weaver_beginIf : Cond.code y_Weaver_beginIf b_Weaver_beginIf 2 (Option.none : Option Jvm.ClassFile.FieldType) ∈ ma := ma_of (tb_6 _ (List.mem_of_getElem? (i := 191) rfl)) rfl
theorem k_238 : (Jvm.Cond.fieldLink "MachineLoom$Weaver" (281 : Nat) "MachineLoom$Weaver" "goalToken" "I") ∈ ma := ma_of (tb_1 _ (List.mem_of_getElem? (i := 238) rfl)) rfl
theorem k_240 : (Jvm.Cond.fieldLink "MachineLoom$Weaver" (284 : Nat) "MachineLoom$Weaver" "exits" "I") ∈ ma := ma_of (tb_2 _ (List.mem_of_getElem? (i := 0) rfl)) rfl
theorem k_1371 : (Jvm.Cond.methodLink "MachineLoom$Weaver" (287 : Nat) ({ cls := "MachineLoom$Weaver", name := "beginExpr", desc := "(I)V" } : Jvm.MethodName)) ∈ ma := ma_of (tb_6 _ (List.mem_of_getElem? (i := 171) rfl)) rfl
theorem k_1373 : (Jvm.Cond.instanceMethod ({ cls := "MachineLoom$Weaver", name := "beginExpr", desc := "(I)V" } : Jvm.MethodName)) ∈ ma := ma_of (tb_6 _ (List.mem_of_getElem? (i := 173) rfl)) rfl
theorem ks_44 : Cond.selects "MachineLoom$Weaver" ⟨"MachineLoom$Weaver", "beginExpr", "(I)V"⟩ ⟨"MachineLoom$Weaver", "beginExpr", "(I)V"⟩ ∈ ma := ma_sel 44 rfl rfl
theorem d_Weaver_beginIf_0 : decode b_Weaver_beginIf 0 = .ok (.aload_n 0, 1) := by decide +kernel
theorem d_Weaver_beginIf_1 : decode b_Weaver_beginIf 1 = .ok (.aload_n 0, 1) := by decide +kernel
theorem d_Weaver_beginIf_2 : decode b_Weaver_beginIf 2 = .ok (.getfield 12, 3) := by decide +kernel
theorem d_Weaver_beginIf_5 : decode b_Weaver_beginIf 5 = .ok (.sipush 209, 3) := by decide +kernel
theorem d_Weaver_beginIf_8 : decode b_Weaver_beginIf 8 = .ok (.invokevirtual 143, 3) := by decide +kernel
theorem d_Weaver_beginIf_11 : decode b_Weaver_beginIf 11 = .ok (.putfield 281, 3) := by decide +kernel
theorem d_Weaver_beginIf_14 : decode b_Weaver_beginIf 14 = .ok (.aload_n 0, 1) := by decide +kernel
theorem d_Weaver_beginIf_15 : decode b_Weaver_beginIf 15 = .ok (.iload_n 1, 1) := by decide +kernel
theorem d_Weaver_beginIf_16 : decode b_Weaver_beginIf 16 = .ok (.putfield 284, 3) := by decide +kernel
theorem d_Weaver_beginIf_19 : decode b_Weaver_beginIf 19 = .ok (.aload_n 0, 1) := by decide +kernel
theorem d_Weaver_beginIf_20 : decode b_Weaver_beginIf 20 = .ok (.iconst 4, 1) := by decide +kernel
theorem d_Weaver_beginIf_21 : decode b_Weaver_beginIf 21 = .ok (.invokevirtual 287, 3) := by decide +kernel
theorem d_Weaver_beginIf_24 : decode b_Weaver_beginIf 24 = .ok (.return_, 1) := by decide +kernel
set_option maxHeartbeats 4000000 in
set_option maxRecDepth 100000 in
theorem c_Weaver_beginIf_a (l : Launch) {dA : FieldType → ClassId} {D : va_G} {al : Nat → Nat} {ext : mv_Sh} {sk sv : Nat → Nat} (hi : mv_inj (mg dA D al ext)) (σ : mv_H) (x9 : Int32) {t tn len n z sz th sl s0 a ns no : Nat} (hG : WG 32 32768 512 ext σ t tn len n z sz) (hM : Mt (mv_a σ 24)) (hW : WN 32 512 σ n th sl no) {bl : List Bk} {ex : List Nat} (hS : WX 32 σ sz th s0 a ns no bl ex x9) (hne : ¬ bl = []) (hk3 : mv_a σ 4 (mv_i σ 3 7).toNatClampNeg = 209) : mv_C l y_Weaver_beginIf (Cond.code y_Weaver_beginIf b_Weaver_beginIf 2 (Option.none : Option Jvm.ClassFile.FieldType) :: ma) ({ frames := 2, cells := 0, slots := 0, locals := 42 }) (mg dA D al ext) (mK sk sv) [.ref (al 2), .int x9] σ (mv_Rv (fun σ1 => TP 32 512 σ σ1 n sz a)) := by
  refine mv_C.ofV (cc := b_Weaver_beginIf) (nL := 2) (ret := (Option.none : Option Jvm.ClassFile.FieldType)) (by decide +kernel) rfl hi (Nat.le_of_ble_eq_true rfl) ?_
  intro p e s m below meth c B hNs hr hnm hno
  have hP : PQ 32 := by unfold PQ; omega
  have hR := hG.1
  have ht2 := hG.2.1.2.2.2.2.2.2
  have hF : EF σ σ := Fr.rf
  have hN : mv_i σ 21 0 = 0 → mv_i σ 21 0 = 0 := fun q => q
  have hE := hG.2.2.1
  have hsz := hE.2.2.2.2.2
  have hsz2 := hE.2.2.2.1
  have hlen := hG.2.2.2.2.1
  have hlen2 := hG.2.2.2.2.2
  have t7 := hS.1.1
  have hw9 := hS.1.2.1
  have ha9 := hS.1.2.2.2.2.1
  have t9 : (mv_i σ 3 9).toInt = (mv_i σ 3 9).toInt := rfl
  have t8 : (mv_i σ 3 8).toInt = (mv_i σ 3 8).toInt := rfl
  have kp : mv_a σ 4 = mv_a σ 4 := rfl
  have k6 : mv_b σ 6 = mv_b σ 6 := rfl
  have hs5 := hS.1.2.2.2.2.2.1
  have hs6 := hS.1.2.2.2.2.2.2.1
  have hd8 := hS.1.2.2.1
  have hd9 := hS.1.2.2.2.1
  refine mv_aload_n (pc := 0) B d_Weaver_beginIf_0 rfl 0 rfl ?_
  refine mv_aload_n (pc := 1) B d_Weaver_beginIf_1 rfl 0 rfl ?_
  refine mv_getR (pc := 2) (ci := 1) (C := R_Weaver) (T := F_Weaver) (N := 16) B 0 rfl rfl (by decide) i_Weaver (B.2.2.2.1 _ k_228) rfl (hR.1 _ 0 _ rfl) d_Weaver_beginIf_2 ?_
  refine mv_sipush (pc := 5) (v := 209) B d_Weaver_beginIf_5 (by decide) ?_
  refine mv_callVi (pc := 8) (n := 1) (ci := 2) (C := R_Tokens) B (mK_ok sk sv) hNs rfl rfl (c_Tokens_takeN l hi _ _ hR.1 (hG.2.2.1.wt (hF.wt (P := 32)) hP ht2) (by omega) (by omega) (by decide)) rfl (ma_goodc kc_Tokens_take) (B.2.2.2.1 _ k_1266) (B.2.2.2.1 _ k_1267) (B.2.2.2.1 _ k_1268) (B.2.2.2.1 _ k_3) ⟨by decide +kernel, by decide +kernel, by decide +kernel⟩ rfl d_Weaver_beginIf_8 rfl (Nat.le_of_ble_eq_true rfl) ⟨by decide, by decide⟩ ⟨by decide, by decide⟩ ⟨by decide, by decide⟩ (mv_noH hno _) (fun v8 σ8 h8 => ?_)
  obtain ⟨a8, w8, e8, r8⟩ := h8
  have q8 := r8.1
  have z8 := fun q => (r8.2.1 q).1
  have y8 := And.intro r8.2.2.2.1 r8.2.2.2.2.1
  subst e8
  have hw8 := r8.2.2.1 hw9 hk3 trivial
  refine mv_gen (fun S11 eS11 => ?_)
  have hR : Rw 32 (mv_r S11) := by rw [eS11]; exact hR
  have hF : EF σ S11 := by rw [eS11]; exact hF.tk3 _ _ _
  have hN : mv_i S11 21 0 = 0 → mv_i σ 21 0 = 0 := by rw [eS11]; exact hN
  have t7 : (mv_i S11 3 7).toInt = a8.toInt := by rw [eS11]; rfl
  have t8 : (mv_i S11 3 8).toInt = (mv_i σ 3 8).toInt := by rw [eS11]; first | exact t8 | exact (sub_one (by omega)).trans (by omega) | exact (i32_inc (by omega)).trans (by omega)
  have t9 : (mv_i S11 3 9).toInt = w8.toInt := by rw [eS11]; rfl
  have kp := Eq.trans (show mv_a S11 4 = mv_a _ 4 by rw [eS11]; rfl) kp
  have k6 := Eq.trans (show mv_b S11 6 = mv_b _ 6 by rw [eS11]; rfl) k6
  clear eS11
  refine mv_putI (pc := 11) (ci := 1) (C := R_Weaver) (T := F_Weaver) (N := 16) B 8 rfl rfl (by decide) i_Weaver t_Weaver_ok n_Weaver (B.2.2.2.1 _ k_238) rfl rfl rfl rfl d_Weaver_beginIf_11 ?_
  refine mv_aload_n (pc := 14) B d_Weaver_beginIf_14 rfl 0 rfl ?_
  refine mv_iload_n (pc := 15) B d_Weaver_beginIf_15 rfl 1 rfl ?_
  refine mv_putI (pc := 16) (ci := 1) (C := R_Weaver) (T := F_Weaver) (N := 16) B 10 rfl rfl (by decide) i_Weaver t_Weaver_ok n_Weaver (B.2.2.2.1 _ k_240) rfl rfl rfl rfl d_Weaver_beginIf_16 ?_
  refine mv_aload_n (pc := 19) B d_Weaver_beginIf_19 rfl 0 rfl ?_
  refine mv_iconst (pc := 20) (v := 4) B d_Weaver_beginIf_20 (by decide) ?_
  refine mv_callVv (pc := 21) (n := 1) (ci := 1) (C := R_Weaver) B (mK_ok sk sv) hNs rfl rfl (c_Weaver_beginExpr l hi _ _ hR.1) rfl (ma_goodc kc_Weaver_beginExpr) (B.2.2.2.1 _ k_1371) (B.2.2.2.1 _ k_1373) (B.2.2.2.1 _ ks_44) (B.2.2.2.1 _ k_2) ⟨by decide +kernel, by decide +kernel, by decide +kernel⟩ rfl d_Weaver_beginIf_21 rfl (Nat.le_of_ble_eq_true rfl) ⟨by decide, by decide⟩ ⟨by decide, by decide⟩ ⟨by decide, by decide⟩ (mv_noH hno _) (fun σ21 h21 => ?_)
  subst h21
  refine mv_gen (fun S24 eS24 => ?_)
  have hR : Rw 32 (mv_r S24) := by rw [eS24]; exact hR
  have hF : EF σ S24 := by rw [eS24]; exact hF.w (by omega) _ |>.w (by omega) _ |>.wx _
  have hN : mv_i S24 21 0 = 0 → mv_i σ 21 0 = 0 := by rw [eS24]; exact hN
  have t7 := Eq.trans (congrArg Int32.toInt (show mv_i S24 3 7 = mv_i _ 3 7 by rw [eS24]; rfl)) t7
  have t8 := Eq.trans (congrArg Int32.toInt (show mv_i S24 3 8 = mv_i _ 3 8 by rw [eS24]; rfl)) t8
  have t9 := Eq.trans (congrArg Int32.toInt (show mv_i S24 3 9 = mv_i _ 3 9 by rw [eS24]; rfl)) t9
  have kp := Eq.trans (show mv_a S24 4 = mv_a _ 4 by rw [eS24]; rfl) kp
  have k6 := Eq.trans (show mv_b S24 6 = mv_b _ 6 by rw [eS24]; rfl) k6
  have hend : TP 32 512 σ S24 n sz a := ⟨hF.wt, by rw [hF.2.1 24 (fun q => q)]; exact hM, th, sl, no, hW.of hP hF.of, Or.inr ⟨a + 1, by omega, Or.inr (Or.inr (Or.inl ⟨by rw [eS24]; rfl, WE.if hP hS hF hne hM (by omega) (by omega) t8 (Nat.le_refl _) (by omega) (by rw [eS24]; rfl) (by rw [eS24]; rfl) (by rw [eS24]; rfl) (by rw [eS24]; rfl) (Or.inr (by rw [eS24]; exact ⟨y8.1, by show v8.toInt < 32770; omega⟩)) hN⟩))⟩⟩
  clear eS24
  exact mv_vret (pc := 24) B hr d_Weaver_beginIf_24 (Nat.le_refl _) (Nat.le_refl _) ⟨rfl, hend⟩
set_option maxHeartbeats 4000000 in
set_option maxRecDepth 100000 in
theorem c_Weaver_beginIf_b (l : Launch) {dA : FieldType → ClassId} {D : va_G} {al : Nat → Nat} {ext : mv_Sh} {sk sv : Nat → Nat} (hi : mv_inj (mg dA D al ext)) (σ : mv_H) (x9 : Int32) {t tn len n z sz th sl s0 a ns no : Nat} (hG : WG 48 32768 512 ext σ t tn len n z sz) (hM : Mt (mv_a σ 24)) (hW : WN 48 512 σ n th sl no) {bl : List Bk} {ex : List Nat} (hS : WX 48 σ sz th s0 a ns no bl ex x9) (hne : ¬ bl = []) (hk3 : mv_a σ 4 (mv_i σ 3 7).toNatClampNeg = 209) : mv_C l y_Weaver_beginIf (Cond.code y_Weaver_beginIf b_Weaver_beginIf 2 (Option.none : Option Jvm.ClassFile.FieldType) :: ma) ({ frames := 2, cells := 0, slots := 0, locals := 42 }) (mg dA D al ext) (mK sk sv) [.ref (al 2), .int x9] σ (mv_Rv (fun σ1 => TP 48 512 σ σ1 n sz a)) := by
  refine mv_C.ofV (cc := b_Weaver_beginIf) (nL := 2) (ret := (Option.none : Option Jvm.ClassFile.FieldType)) (by decide +kernel) rfl hi (Nat.le_of_ble_eq_true rfl) ?_
  intro p e s m below meth c B hNs hr hnm hno
  have hP : PQ 48 := by unfold PQ; omega
  have hR := hG.1
  have ht2 := hG.2.1.2.2.2.2.2.2
  have hF : EF σ σ := Fr.rf
  have hN : mv_i σ 21 0 = 0 → mv_i σ 21 0 = 0 := fun q => q
  have hE := hG.2.2.1
  have hsz := hE.2.2.2.2.2
  have hsz2 := hE.2.2.2.1
  have hlen := hG.2.2.2.2.1
  have hlen2 := hG.2.2.2.2.2
  have t7 := hS.1.1
  have hw9 := hS.1.2.1
  have ha9 := hS.1.2.2.2.2.1
  have t9 : (mv_i σ 3 9).toInt = (mv_i σ 3 9).toInt := rfl
  have t8 : (mv_i σ 3 8).toInt = (mv_i σ 3 8).toInt := rfl
  have kp : mv_a σ 4 = mv_a σ 4 := rfl
  have k6 : mv_b σ 6 = mv_b σ 6 := rfl
  have hs5 := hS.1.2.2.2.2.2.1
  have hs6 := hS.1.2.2.2.2.2.2.1
  have hd8 := hS.1.2.2.1
  have hd9 := hS.1.2.2.2.1
  refine mv_aload_n (pc := 0) B d_Weaver_beginIf_0 rfl 0 rfl ?_
  refine mv_aload_n (pc := 1) B d_Weaver_beginIf_1 rfl 0 rfl ?_
  refine mv_getR (pc := 2) (ci := 1) (C := R_Weaver) (T := F_Weaver) (N := 16) B 0 rfl rfl (by decide) i_Weaver (B.2.2.2.1 _ k_228) rfl (hR.1 _ 0 _ rfl) d_Weaver_beginIf_2 ?_
  refine mv_sipush (pc := 5) (v := 209) B d_Weaver_beginIf_5 (by decide) ?_
  refine mv_callVi (pc := 8) (n := 1) (ci := 2) (C := R_Tokens) B (mK_ok sk sv) hNs rfl rfl (c_Tokens_takeN l hi _ _ hR.1 (hG.2.2.1.wt (hF.wt (P := 48)) hP ht2) (by omega) (by omega) (by decide)) rfl (ma_goodc kc_Tokens_take) (B.2.2.2.1 _ k_1266) (B.2.2.2.1 _ k_1267) (B.2.2.2.1 _ k_1268) (B.2.2.2.1 _ k_3) ⟨by decide +kernel, by decide +kernel, by decide +kernel⟩ rfl d_Weaver_beginIf_8 rfl (Nat.le_of_ble_eq_true rfl) ⟨by decide, by decide⟩ ⟨by decide, by decide⟩ ⟨by decide, by decide⟩ (mv_noH hno _) (fun v8 σ8 h8 => ?_)
  obtain ⟨a8, w8, e8, r8⟩ := h8
  have q8 := r8.1
  have z8 := fun q => (r8.2.1 q).1
  have y8 := And.intro r8.2.2.2.1 r8.2.2.2.2.1
  subst e8
  have hw8 := r8.2.2.1 hw9 hk3 trivial
  refine mv_gen (fun S11 eS11 => ?_)
  have hR : Rw 48 (mv_r S11) := by rw [eS11]; exact hR
  have hF : EF σ S11 := by rw [eS11]; exact hF.tk3 _ _ _
  have hN : mv_i S11 21 0 = 0 → mv_i σ 21 0 = 0 := by rw [eS11]; exact hN
  have t7 : (mv_i S11 3 7).toInt = a8.toInt := by rw [eS11]; rfl
  have t8 : (mv_i S11 3 8).toInt = (mv_i σ 3 8).toInt := by rw [eS11]; first | exact t8 | exact (sub_one (by omega)).trans (by omega) | exact (i32_inc (by omega)).trans (by omega)
  have t9 : (mv_i S11 3 9).toInt = w8.toInt := by rw [eS11]; rfl
  have kp := Eq.trans (show mv_a S11 4 = mv_a _ 4 by rw [eS11]; rfl) kp
  have k6 := Eq.trans (show mv_b S11 6 = mv_b _ 6 by rw [eS11]; rfl) k6
  clear eS11
  refine mv_putI (pc := 11) (ci := 1) (C := R_Weaver) (T := F_Weaver) (N := 16) B 8 rfl rfl (by decide) i_Weaver t_Weaver_ok n_Weaver (B.2.2.2.1 _ k_238) rfl rfl rfl rfl d_Weaver_beginIf_11 ?_
  refine mv_aload_n (pc := 14) B d_Weaver_beginIf_14 rfl 0 rfl ?_
  refine mv_iload_n (pc := 15) B d_Weaver_beginIf_15 rfl 1 rfl ?_
  refine mv_putI (pc := 16) (ci := 1) (C := R_Weaver) (T := F_Weaver) (N := 16) B 10 rfl rfl (by decide) i_Weaver t_Weaver_ok n_Weaver (B.2.2.2.1 _ k_240) rfl rfl rfl rfl d_Weaver_beginIf_16 ?_
  refine mv_aload_n (pc := 19) B d_Weaver_beginIf_19 rfl 0 rfl ?_
  refine mv_iconst (pc := 20) (v := 4) B d_Weaver_beginIf_20 (by decide) ?_
  refine mv_callVv (pc := 21) (n := 1) (ci := 1) (C := R_Weaver) B (mK_ok sk sv) hNs rfl rfl (c_Weaver_beginExpr l hi _ _ hR.1) rfl (ma_goodc kc_Weaver_beginExpr) (B.2.2.2.1 _ k_1371) (B.2.2.2.1 _ k_1373) (B.2.2.2.1 _ ks_44) (B.2.2.2.1 _ k_2) ⟨by decide +kernel, by decide +kernel, by decide +kernel⟩ rfl d_Weaver_beginIf_21 rfl (Nat.le_of_ble_eq_true rfl) ⟨by decide, by decide⟩ ⟨by decide, by decide⟩ ⟨by decide, by decide⟩ (mv_noH hno _) (fun σ21 h21 => ?_)
  subst h21
  refine mv_gen (fun S24 eS24 => ?_)
  have hR : Rw 48 (mv_r S24) := by rw [eS24]; exact hR
  have hF : EF σ S24 := by rw [eS24]; exact hF.w (by omega) _ |>.w (by omega) _ |>.wx _
  have hN : mv_i S24 21 0 = 0 → mv_i σ 21 0 = 0 := by rw [eS24]; exact hN
  have t7 := Eq.trans (congrArg Int32.toInt (show mv_i S24 3 7 = mv_i _ 3 7 by rw [eS24]; rfl)) t7
  have t8 := Eq.trans (congrArg Int32.toInt (show mv_i S24 3 8 = mv_i _ 3 8 by rw [eS24]; rfl)) t8
  have t9 := Eq.trans (congrArg Int32.toInt (show mv_i S24 3 9 = mv_i _ 3 9 by rw [eS24]; rfl)) t9
  have kp := Eq.trans (show mv_a S24 4 = mv_a _ 4 by rw [eS24]; rfl) kp
  have k6 := Eq.trans (show mv_b S24 6 = mv_b _ 6 by rw [eS24]; rfl) k6
  have hend : TP 48 512 σ S24 n sz a := ⟨hF.wt, by rw [hF.2.1 24 (fun q => q)]; exact hM, th, sl, no, hW.of hP hF.of, Or.inr ⟨a + 1, by omega, Or.inr (Or.inr (Or.inl ⟨by rw [eS24]; rfl, WE.if hP hS hF hne hM (by omega) (by omega) t8 (Nat.le_refl _) (by omega) (by rw [eS24]; rfl) (by rw [eS24]; rfl) (by rw [eS24]; rfl) (by rw [eS24]; rfl) (Or.inr (by rw [eS24]; exact ⟨y8.1, by show v8.toInt < 32770; omega⟩)) hN⟩))⟩⟩
  clear eS24
  exact mv_vret (pc := 24) B hr d_Weaver_beginIf_24 (Nat.le_refl _) (Nat.le_refl _) ⟨rfl, hend⟩
set_option maxHeartbeats 4000000 in
set_option maxRecDepth 100000 in
theorem c_Weaver_beginIf_c (l : Launch) {dA : FieldType → ClassId} {D : va_G} {al : Nat → Nat} {sk sv : Nat → Nat} (hi : mv_inj (mg dA D al me)) (σ : mv_H) (x9 : Int32) {t tn len n z sz th sl s0 a ns no : Nat} (hG : WG 145 8192 48 me σ t tn len n z sz) (hM : Mt (mv_a σ 24)) (hW : WN 145 48 σ n th sl no) {bl : List Bk} {ex : List Nat} (hS : WX 145 σ sz th s0 a ns no bl ex x9) (hne : ¬ bl = []) (hk3 : mv_a σ 4 (mv_i σ 3 7).toNatClampNeg = 209) : mv_C l y_Weaver_beginIf (Cond.code y_Weaver_beginIf b_Weaver_beginIf 2 (Option.none : Option Jvm.ClassFile.FieldType) :: ma) ({ frames := 2, cells := 0, slots := 0, locals := 42 }) (mg dA D al me) (mK sk sv) [.ref (al 2), .int x9] σ (mv_Rv (fun σ1 => TP 145 48 σ σ1 n sz a)) := by
  refine mv_C.ofV (cc := b_Weaver_beginIf) (nL := 2) (ret := (Option.none : Option Jvm.ClassFile.FieldType)) (by decide +kernel) rfl hi (Nat.le_of_ble_eq_true rfl) ?_
  intro p e s m below meth c B hNs hr hnm hno
  have hP : PQ 145 := by unfold PQ; omega
  have hR := hG.1
  have ht2 := hG.2.1.2.2.2.2.2.2
  have hF : EF σ σ := Fr.rf
  have hN : mv_i σ 21 0 = 0 → mv_i σ 21 0 = 0 := fun q => q
  have hE := hG.2.2.1
  have hsz := hE.2.2.2.2.2
  have hsz2 := hE.2.2.2.1
  have hlen := hG.2.2.2.2.1
  have hlen2 := hG.2.2.2.2.2
  have t7 := hS.1.1
  have hw9 := hS.1.2.1
  have ha9 := hS.1.2.2.2.2.1
  have t9 : (mv_i σ 3 9).toInt = (mv_i σ 3 9).toInt := rfl
  have t8 : (mv_i σ 3 8).toInt = (mv_i σ 3 8).toInt := rfl
  have kp : mv_a σ 4 = mv_a σ 4 := rfl
  have k6 : mv_b σ 6 = mv_b σ 6 := rfl
  have hs5 := hS.1.2.2.2.2.2.1
  have hs6 := hS.1.2.2.2.2.2.2.1
  have hd8 := hS.1.2.2.1
  have hd9 := hS.1.2.2.2.1
  refine mv_aload_n (pc := 0) B d_Weaver_beginIf_0 rfl 0 rfl ?_
  refine mv_aload_n (pc := 1) B d_Weaver_beginIf_1 rfl 0 rfl ?_
  refine mv_getR (pc := 2) (ci := 1) (C := R_Weaver) (T := F_Weaver) (N := 16) B 0 rfl rfl (by decide) i_Weaver (B.2.2.2.1 _ k_228) rfl (hR.1 _ 0 _ rfl) d_Weaver_beginIf_2 ?_
  refine mv_sipush (pc := 5) (v := 209) B d_Weaver_beginIf_5 (by decide) ?_
  refine mv_callVi (pc := 8) (n := 1) (ci := 2) (C := R_Tokens) B (mK_ok sk sv) hNs rfl rfl (c_Tokens_takeN l hi _ _ hR.1 (hG.2.2.1.wt (hF.wt (P := 145)) hP ht2) (by omega) (by omega) (by decide)) rfl (ma_goodc kc_Tokens_take) (B.2.2.2.1 _ k_1266) (B.2.2.2.1 _ k_1267) (B.2.2.2.1 _ k_1268) (B.2.2.2.1 _ k_3) ⟨by decide +kernel, by decide +kernel, by decide +kernel⟩ rfl d_Weaver_beginIf_8 rfl (Nat.le_of_ble_eq_true rfl) ⟨by decide, by decide⟩ ⟨by decide, by decide⟩ ⟨by decide, by decide⟩ (mv_noH hno _) (fun v8 σ8 h8 => ?_)
  obtain ⟨a8, w8, e8, r8⟩ := h8
  have q8 := r8.1
  have z8 := fun q => (r8.2.1 q).1
  have y8 := And.intro r8.2.2.2.1 r8.2.2.2.2.1
  subst e8
  have hw8 := r8.2.2.1 hw9 hk3 trivial
  refine mv_gen (fun S11 eS11 => ?_)
  have hR : Rw 145 (mv_r S11) := by rw [eS11]; exact hR
  have hF : EF σ S11 := by rw [eS11]; exact hF.tk3 _ _ _
  have hN : mv_i S11 21 0 = 0 → mv_i σ 21 0 = 0 := by rw [eS11]; exact hN
  have t7 : (mv_i S11 3 7).toInt = a8.toInt := by rw [eS11]; rfl
  have t8 : (mv_i S11 3 8).toInt = (mv_i σ 3 8).toInt := by rw [eS11]; first | exact t8 | exact (sub_one (by omega)).trans (by omega) | exact (i32_inc (by omega)).trans (by omega)
  have t9 : (mv_i S11 3 9).toInt = w8.toInt := by rw [eS11]; rfl
  have kp := Eq.trans (show mv_a S11 4 = mv_a _ 4 by rw [eS11]; rfl) kp
  have k6 := Eq.trans (show mv_b S11 6 = mv_b _ 6 by rw [eS11]; rfl) k6
  clear eS11
  refine mv_putI (pc := 11) (ci := 1) (C := R_Weaver) (T := F_Weaver) (N := 16) B 8 rfl rfl (by decide) i_Weaver t_Weaver_ok n_Weaver (B.2.2.2.1 _ k_238) rfl rfl rfl rfl d_Weaver_beginIf_11 ?_
  refine mv_aload_n (pc := 14) B d_Weaver_beginIf_14 rfl 0 rfl ?_
  refine mv_iload_n (pc := 15) B d_Weaver_beginIf_15 rfl 1 rfl ?_
  refine mv_putI (pc := 16) (ci := 1) (C := R_Weaver) (T := F_Weaver) (N := 16) B 10 rfl rfl (by decide) i_Weaver t_Weaver_ok n_Weaver (B.2.2.2.1 _ k_240) rfl rfl rfl rfl d_Weaver_beginIf_16 ?_
  refine mv_aload_n (pc := 19) B d_Weaver_beginIf_19 rfl 0 rfl ?_
  refine mv_iconst (pc := 20) (v := 4) B d_Weaver_beginIf_20 (by decide) ?_
  refine mv_callVv (pc := 21) (n := 1) (ci := 1) (C := R_Weaver) B (mK_ok sk sv) hNs rfl rfl (c_Weaver_beginExpr l hi _ _ hR.1) rfl (ma_goodc kc_Weaver_beginExpr) (B.2.2.2.1 _ k_1371) (B.2.2.2.1 _ k_1373) (B.2.2.2.1 _ ks_44) (B.2.2.2.1 _ k_2) ⟨by decide +kernel, by decide +kernel, by decide +kernel⟩ rfl d_Weaver_beginIf_21 rfl (Nat.le_of_ble_eq_true rfl) ⟨by decide, by decide⟩ ⟨by decide, by decide⟩ ⟨by decide, by decide⟩ (mv_noH hno _) (fun σ21 h21 => ?_)
  subst h21
  refine mv_gen (fun S24 eS24 => ?_)
  have hR : Rw 145 (mv_r S24) := by rw [eS24]; exact hR
  have hF : EF σ S24 := by rw [eS24]; exact hF.w (by omega) _ |>.w (by omega) _ |>.wx _
  have hN : mv_i S24 21 0 = 0 → mv_i σ 21 0 = 0 := by rw [eS24]; exact hN
  have t7 := Eq.trans (congrArg Int32.toInt (show mv_i S24 3 7 = mv_i _ 3 7 by rw [eS24]; rfl)) t7
  have t8 := Eq.trans (congrArg Int32.toInt (show mv_i S24 3 8 = mv_i _ 3 8 by rw [eS24]; rfl)) t8
  have t9 := Eq.trans (congrArg Int32.toInt (show mv_i S24 3 9 = mv_i _ 3 9 by rw [eS24]; rfl)) t9
  have kp := Eq.trans (show mv_a S24 4 = mv_a _ 4 by rw [eS24]; rfl) kp
  have k6 := Eq.trans (show mv_b S24 6 = mv_b _ 6 by rw [eS24]; rfl) k6
  have hend : TP 145 48 σ S24 n sz a := ⟨hF.wt, by rw [hF.2.1 24 (fun q => q)]; exact hM, th, sl, no, hW.of hP hF.of, Or.inr ⟨a + 1, by omega, Or.inr (Or.inr (Or.inl ⟨by rw [eS24]; rfl, WE.if hP hS hF hne hM (by omega) (by omega) t8 (Nat.le_refl _) (by omega) (by rw [eS24]; rfl) (by rw [eS24]; rfl) (by rw [eS24]; rfl) (by rw [eS24]; rfl) (Or.inr (by rw [eS24]; exact ⟨y8.1, by show v8.toInt < 32770; omega⟩)) hN⟩))⟩⟩
  clear eS24
  exact mv_vret (pc := 24) B hr d_Weaver_beginIf_24 (Nat.le_refl _) (Nat.le_refl _) ⟨rfl, hend⟩
