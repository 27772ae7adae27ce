/-! the reference's read, exactly -/
theorem sb_of {x : Int32} (h : -128 ≤ x.toInt ∧ x.toInt ≤ 127) : x = sb (x &&& 255).toNatClampNeg := by
  have e := pk_and x (m := 255) 8 (by decide)
  have hl := Nat.mod_lt x.toBitVec.toNat (show 0 < 2 ^ 8 by decide)
  rw [e, cln (by omega)]
  apply Int32.toInt_inj.mp
  rw [sb_i (by omega)]
  have q : x.toInt = if 2 * x.toBitVec.toNat < 2 ^ 32 then (x.toBitVec.toNat : Int) else (x.toBitVec.toNat : Int) - ((2 ^ 32 : Nat) : Int) := BitVec.toInt_eq_toNat_cond x.toBitVec
  have hb := x.toBitVec.isLt
  split at q <;> split <;> omega
theorem byt_of {r : Nat → Int32} (h : ∀ i, i < 32768 → -128 ≤ (r i).toInt ∧ (r i).toInt ≤ 127) : ∀ p, p < 32768 → r p = sb ((r p) &&& 255).toNatClampNeg := fun p hp => sb_of (h p hp)
/-- a book's tables are s's -/
def SRt (B : Nat) (s : SI) (σ : mv_H) : Prop := mv_i σ B 20 = nI s.bits ∧ mv_i σ B 17 = nI s.tl.length ∧ mv_i σ B 19 = nI s.cells ∧ mv_i σ B 29 = nI s.ops.length ∧ s.ops.length ≤ 4000 ∧ (∀ i, i < s.ops.length → (s.ops.getD i ([], [])).2.length = s.bits ∧ ∃ c, mv_a σ (B + 10) i = nI c ∧ c + s.bits ≤ 32768 ∧ ∀ k, k < s.bits → mv_a σ (B + 13) (c + k) = sb ((s.ops.getD i ([], [])).2.getD k 0) ∧ (s.ops.getD i ([], [])).2.getD k 0 < 256) ∧ ∀ i, i < s.tl.length → i < 64 ∧ mv_a σ (B + 3) i = nI (s.tl.getD i (0, 0, false)).1 ∧ mv_a σ (B + 4) i = nI (s.tl.getD i (0, 0, false)).2.1 ∧ (mv_a σ (B + 6) i = 0 ↔ (s.tl.getD i (0, 0, false)).2.1 = 0)
theorem SRt.fr {B : Nat} {s : SI} {σ τ : mv_H} (h : SRt B s σ) (ei : ∀ k, (k = 20 ∨ k = 17 ∨ k = 19 ∨ k = 29) → mv_i τ B k = mv_i σ B k) (ea : ∀ i, i < 4100 → mv_a τ (B + 10) i = mv_a σ (B + 10) i) (ec : ∀ k, k < 32768 → mv_a τ (B + 13) k = mv_a σ (B + 13) k) (et : ∀ o k, (o = B + 3 ∨ o = B + 4 ∨ o = B + 6) → k < 4100 → mv_a τ o k = mv_a σ o k) : SRt B s τ := by
  obtain ⟨h1, h2, h3, h4, h5, h6, h7⟩ := h
  refine ⟨by rw [ei 20 (by omega)]; exact h1, by rw [ei 17 (by omega)]; exact h2, by rw [ei 19 (by omega)]; exact h3, by rw [ei 29 (by omega)]; exact h4, h5, fun i hi => ?_, fun i hi => ?_⟩
  · obtain ⟨a1, c, a2, a3, a4⟩ := h6 i hi
    exact ⟨a1, c, by rw [ea i (by omega)]; exact a2, a3, fun k hk => by rw [ec (c + k) (by omega)]; exact a4 k hk⟩
  · have hi4 := (h7 i hi).1
    rw [et (B + 3) i (by omega) (by omega), et (B + 4) i (by omega) (by omega), et (B + 6) i (by omega) (by omega)]
    exact h7 i hi
theorem IQq.sr {P N m j : Nat} {T : Nat → Nat} {s : SI} {h : mv_H} (Q : IQq P N T s true h m j) : SRt P s h := by
  obtain ⟨L, l1, l2, l3⟩ := Q.bt
  obtain ⟨c, c1, c2, c3⟩ := Q.ce
  have hov := Q.ov rfl
  have hl := hov.l
  have o5 := Q.o5
  have hc1 := Q.c1
  have hn10 := Q.n10
  have hbp : bp T N j ≤ N := (bp_bd Q.hb.te.1 Q.hb.te.2 j).1
  have hj : j ≤ N := Q.hb.gkn Q.gk
  refine ⟨by rw [l1, l3 rfl], by rw [Q.tc rfl]; exact Q.tr.t0, by rw [c1, c3 rfl], by rw [hl]; exact Q.o0, by omega, fun i hi => ?_, fun i hi => ⟨by have h1 := Q.tc rfl; have h2 := Q.tr.t1; omega, Q.tt rfl i hi⟩⟩
  obtain ⟨a1, a2, a3, a4⟩ := hov.c i (by omega)
  exact ⟨a1, _, a2, by omega, a4⟩
/-- what read answers -/
def XRw (B : Nat) (X : TX) (v : Int32) (σ : mv_H) : Prop := (v = 1 ∧ ∃ s, sOK X = some s ∧ SRt B s σ) ∨ (v = 0 ∧ sOK X = none)
/-- behind clash -/
def XJ (B : Nat) (X : TX) (σ : mv_H) : Prop := ((mv_i σ B 38).toInt ≤ 0 → ∃ s, sOK X = some s ∧ SRt B s σ) ∧ (¬ (mv_i σ B 38).toInt ≤ 0 → sOK X = none)
theorem sOK_n {X : TX} (h : sTx X = none) : sOK X = none := by
  unfold sOK
  rw [h]
  rfl
theorem rd_no {B : Nat} {X : TX} {b : Bool} {s : SI} {σ υ : mv_H} (hS : sTx X = on b (some s)) (fa : fz b (mv_i υ B 38)) (e : mv_i σ B 38 = mv_i υ B 38) (h : ¬ mv_i σ B 38 = 0) : XJ B X σ := by
  rw [e] at h
  have hb : b = false := by
    cases b with
    | false => rfl
    | true => exact absurd (fa.1.mp rfl) h
  subst hb
  have h0 := fa.2
  have h1 : ¬ (mv_i υ B 38).toInt = 0 := fun z => h (Int32.toInt_inj.mp (z.trans (show (0 : Int) = (0 : Int32).toInt by decide)))
  refine ⟨fun z => ?_, fun _ => sOK_n hS⟩
  rw [e] at z
  omega
theorem rd_cl {P N m j : Nat} {T : Nat → Nat} {s : SI} {h : mv_H} (Q : IQq P N T s true h m j) : ∃ g, f_Book_clash P h = some g ∧ ((aptL (s.ops.map Prod.snd) = true ∧ mv_i g P 38 = 0) ∨ (¬ aptL (s.ops.map Prod.snd) = true ∧ mv_i g P 38 = 7)) := by
  rcases cla_S Q with ⟨a, e⟩ | ⟨a, x, y, e⟩
  · exact ⟨h, e, Or.inl ⟨a, Q.fa.1.mp rfl⟩⟩
  · exact ⟨_, e, Or.inr ⟨a, (mv_u_ne (mv_i (mv_si (mv_si h P 37 x) P 38 7)) _ (by omega)).trans (mv_u_same (mv_i (mv_si h P 37 x)) P 38 _)⟩⟩
theorem rd_ye {B : Nat} {X : TX} {s : SI} {σ τ g : mv_H} (hS : sTx X = some s) (hg : (aptL (s.ops.map Prod.snd) = true ∧ mv_i g B 38 = 0) ∨ (¬ aptL (s.ops.map Prod.snd) = true ∧ mv_i g B 38 = 7)) (e : mv_i τ B 38 = mv_i g B 38) (h29 : SRt B s τ) : XJ B X τ := by
  rcases hg with ⟨a, z⟩ | ⟨a, z⟩
  · refine ⟨fun _ => ⟨s, ?_, h29⟩, fun w => absurd (show (mv_i τ B 38).toInt ≤ 0 by rw [e, z]; decide) w⟩
    unfold sOK
    rw [hS]
    exact if_pos a
  · refine ⟨fun w => absurd w (by rw [e, z]; decide), fun _ => ?_⟩
    unfold sOK
    rw [hS]
    exact if_neg a

set_option maxRecDepth 100000 in
set_option maxHeartbeats 4000000 in
theorem iq_rB_x {N m j j' : Nat} {T : Nat → Nat} {s : SI} {b : Bool} {h : mv_H} {v : Int64} (Q : IQq 74 N T s b h m j) : IQq 74 N T s b (rB 74 N h j' v) m j := by
  have ei : ∀ k, (k = 2 ∨ 8 ≤ k) → mv_i (rB 74 N h j' v) 74 k = mv_i h 74 k := fun k hk => by
    unfold rB rA tkR
    show mv_u (mv_u (mv_u (mv_u (mv_u (mv_i h) 74 3 _) 74 4 _) 74 5 _) 74 6 _) 74 7 _ 74 k = _
    rw [mv_u_ne _ _ (by omega), mv_u_ne _ _ (by omega), mv_u_ne _ _ (by omega), mv_u_ne _ _ (by omega), mv_u_ne _ _ (by omega)]
  have ea : mv_a (rB 74 N h j' v) = mv_a h := rfl
  have ec : ck (rB 74 N h j' v) N = ck h N := rfl
  have eb : byt7 (rB 74 N h j' v) = byt7 h := rfl
  unfold IQq HB at Q ⊢
  rw [ei 2 (by omega), ei 8 (by omega), ei 38 (by omega), ei 48 (by omega), ei 20 (by omega), ei 17 (by omega), ei 19 (by omega), ei 22 (by omega), ei 29 (by omega), ei 51 (by omega), ea, ec, eb]
  exact Q
theorem rd_tx_x {N : Nat} {T : Nat → Nat} {h : mv_H} (Q : T0q 74 N T h) : ∃ rv rg, f_Book_text_1 74 h = some (rv, rg) ∧ (rv = none → sTx (txT T N) = none) ∧ (∀ x, rv = some x → ∃ b s m j, sTx (txT T N) = on b (some s) ∧ IQq 74 N T s b rg m j) := by
  rcases txt_S Q with ⟨g, e1, s1⟩ | ⟨b, j, s, x, h', v', m, e1, s1, Q1⟩
  · exact ⟨none, g, e1, fun _ => s1, fun x w => by cases w⟩
  · exact ⟨some x, _, e1, (fun w => by cases w), fun _ _ => ⟨b, s, m, j, s1, iq_rB_x Q1⟩⟩

set_option maxRecDepth 100000 in
set_option maxHeartbeats 4000000 in
theorem iq_rB_y {N m j j' : Nat} {T : Nat → Nat} {s : SI} {b : Bool} {h : mv_H} {v : Int64} (Q : IQq 108 N T s b h m j) : IQq 108 N T s b (rB 108 N h j' v) m j := by
  have ei : ∀ k, (k = 2 ∨ 8 ≤ k) → mv_i (rB 108 N h j' v) 108 k = mv_i h 108 k := fun k hk => by
    unfold rB rA tkR
    show mv_u (mv_u (mv_u (mv_u (mv_u (mv_i h) 108 3 _) 108 4 _) 108 5 _) 108 6 _) 108 7 _ 108 k = _
    rw [mv_u_ne _ _ (by omega), mv_u_ne _ _ (by omega), mv_u_ne _ _ (by omega), mv_u_ne _ _ (by omega), mv_u_ne _ _ (by omega)]
  have ea : mv_a (rB 108 N h j' v) = mv_a h := rfl
  have ec : ck (rB 108 N h j' v) N = ck h N := rfl
  have eb : byt7 (rB 108 N h j' v) = byt7 h := rfl
  unfold IQq HB at Q ⊢
  rw [ei 2 (by omega), ei 8 (by omega), ei 38 (by omega), ei 48 (by omega), ei 20 (by omega), ei 17 (by omega), ei 19 (by omega), ei 22 (by omega), ei 29 (by omega), ei 51 (by omega), ea, ec, eb]
  exact Q
theorem rd_tx_y {N : Nat} {T : Nat → Nat} {h : mv_H} (Q : T0q 108 N T h) : ∃ rv rg, f_Book_text_1 108 h = some (rv, rg) ∧ (rv = none → sTx (txT T N) = none) ∧ (∀ x, rv = some x → ∃ b s m j, sTx (txT T N) = on b (some s) ∧ IQq 108 N T s b rg m j) := by
  rcases txt_S Q with ⟨g, e1, s1⟩ | ⟨b, j, s, x, h', v', m, e1, s1, Q1⟩
  · exact ⟨none, g, e1, fun _ => s1, fun x w => by cases w⟩
  · exact ⟨some x, _, e1, (fun w => by cases w), fun _ _ => ⟨b, s, m, j, s1, iq_rB_y Q1⟩⟩

set_option maxHeartbeats 4000000 in
set_option maxRecDepth 100000 in
theorem c_kb_Book_read_1_x (l : Launch) {dA : FieldType → ClassId} {D : va_G} {al : Nat → Nat} {ext : mv_Sh} {sk sv : Nat → Nat} (hi : mv_inj (mg dA D al ext)) (σ : mv_H) (n9 : Int32) (len : Nat) (hn9 : n9.toInt = len) (hl : len ≤ 10240) (hmr : mh (mv_r σ)) (hb7 : byt7 σ) : mv_C l y_Book_read_1 (Cond.codeWith y_Book_read_1 b_Book_read_1 5 (Option.some Jvm.ClassFile.FieldType.boolean) [((70 : Nat), (74 : Nat), (77 : Nat), (7 : Nat))] :: ma) ({ frames := 1084, cells := 0, slots := 0, locals := 65155 }) (mg dA D al ext) (mK sk sv) [.ref (al 74), .ref (al 71), .int n9] σ (mv_Ri (fun v σ1 => BF 74 (mv_sr σ 74 1 (some 71)) σ1 ∧ (v = 0 ∨ (v = 1 ∧ BG 74 σ1)) ∧ XRw 74 (txT (ck σ len) len) v σ1)) := by
  refine mv_C.ofVW (cc := b_Book_read_1) (nL := 5) (ret := (Option.some Jvm.ClassFile.FieldType.boolean)) (hh := [((70 : Nat), (74 : Nat), (77 : Nat), (7 : Nat))]) (by decide +kernel) rfl hi (Nat.le_of_ble_eq_true rfl) ?_
  intro p e s m below meth c B hNs hr hnm htab
  refine mv_aload_n (pc := 0) B d_Book_read_1_0 rfl 0 rfl ?_
  refine mv_aload_n (pc := 1) B d_Book_read_1_1 rfl 1 rfl ?_
  refine mv_putR (pc := 2) (ci := 12) (C := R_Book) (T := F_Book) (N := 65) B 1 rfl rfl (by decide) i_Book t_Book_ok n_Book (B.2.2.2.1 _ k_1844) rfl rfl d_Book_read_1_2 ?_
  refine mv_aload_n (pc := 5) B d_Book_read_1_5 rfl 0 rfl ?_
  refine mv_iload_n (pc := 6) B d_Book_read_1_6 rfl 2 rfl ?_
  refine mv_putI (pc := 7) (ci := 12) (C := R_Book) (T := F_Book) (N := 65) B 2 rfl rfl (by decide) i_Book t_Book_ok n_Book (B.2.2.2.1 _ k_1845) rfl rfl rfl rfl d_Book_read_1_7 ?_
  refine mv_aload_n (pc := 10) B d_Book_read_1_10 rfl 0 rfl ?_
  refine mv_iconst (pc := 11) (v := 0) B d_Book_read_1_11 (by decide) ?_
  refine mv_putI (pc := 12) (ci := 12) (C := R_Book) (T := F_Book) (N := 65) B 48 rfl rfl (by decide) i_Book t_Book_ok n_Book (B.2.2.2.1 _ k_1897) rfl rfl rfl rfl d_Book_read_1_12 ?_
  refine mv_aload_n (pc := 15) B d_Book_read_1_15 rfl 0 rfl ?_
  refine mv_iconst (pc := 16) (v := 0) B d_Book_read_1_16 (by decide) ?_
  refine mv_putI (pc := 17) (ci := 12) (C := R_Book) (T := F_Book) (N := 65) B 17 rfl rfl (by decide) i_Book t_Book_ok n_Book (B.2.2.2.1 _ k_1860) rfl rfl rfl rfl d_Book_read_1_17 ?_
  refine mv_aload_n (pc := 20) B d_Book_read_1_20 rfl 0 rfl ?_
  refine mv_iconst (pc := 21) (v := 0) B d_Book_read_1_21 (by decide) ?_
  refine mv_putI (pc := 22) (ci := 12) (C := R_Book) (T := F_Book) (N := 65) B 19 rfl rfl (by decide) i_Book t_Book_ok n_Book (B.2.2.2.1 _ k_1864) rfl rfl rfl rfl d_Book_read_1_22 ?_
  refine mv_aload_n (pc := 25) B d_Book_read_1_25 rfl 0 rfl ?_
  refine mv_iconst (pc := 26) (v := -1) B d_Book_read_1_26 (by decide) ?_
  refine mv_putI (pc := 27) (ci := 12) (C := R_Book) (T := F_Book) (N := 65) B 18 rfl rfl (by decide) i_Book t_Book_ok n_Book (B.2.2.2.1 _ k_1862) rfl rfl rfl rfl d_Book_read_1_27 ?_
  refine mv_aload_n (pc := 30) B d_Book_read_1_30 rfl 0 rfl ?_
  refine mv_iconst (pc := 31) (v := -1) B d_Book_read_1_31 (by decide) ?_
  refine mv_putI (pc := 32) (ci := 12) (C := R_Book) (T := F_Book) (N := 65) B 21 rfl rfl (by decide) i_Book t_Book_ok n_Book (B.2.2.2.1 _ k_1866) rfl rfl rfl rfl d_Book_read_1_32 ?_
  refine mv_aload_n (pc := 35) B d_Book_read_1_35 rfl 0 rfl ?_
  refine mv_iconst (pc := 36) (v := 0) B d_Book_read_1_36 (by decide) ?_
  refine mv_putI (pc := 37) (ci := 12) (C := R_Book) (T := F_Book) (N := 65) B 22 rfl rfl (by decide) i_Book t_Book_ok n_Book (B.2.2.2.1 _ k_1867) rfl rfl rfl rfl d_Book_read_1_37 ?_
  refine mv_aload_n (pc := 40) B d_Book_read_1_40 rfl 0 rfl ?_
  refine mv_iconst (pc := 41) (v := 0) B d_Book_read_1_41 (by decide) ?_
  refine mv_putI (pc := 42) (ci := 12) (C := R_Book) (T := F_Book) (N := 65) B 29 rfl rfl (by decide) i_Book t_Book_ok n_Book (B.2.2.2.1 _ k_1874) rfl rfl rfl rfl d_Book_read_1_42 ?_
  refine mv_aload_n (pc := 45) B d_Book_read_1_45 rfl 0 rfl ?_
  refine mv_iconst (pc := 46) (v := 0) B d_Book_read_1_46 (by decide) ?_
  refine mv_putI (pc := 47) (ci := 12) (C := R_Book) (T := F_Book) (N := 65) B 51 rfl rfl (by decide) i_Book t_Book_ok n_Book (B.2.2.2.1 _ k_1900) rfl rfl rfl rfl d_Book_read_1_47 ?_
  refine mv_aload_n (pc := 50) B d_Book_read_1_50 rfl 0 rfl ?_
  refine mv_iconst (pc := 51) (v := 0) B d_Book_read_1_51 (by decide) ?_
  refine mv_putI (pc := 52) (ci := 12) (C := R_Book) (T := F_Book) (N := 65) B 30 rfl rfl (by decide) i_Book t_Book_ok n_Book (B.2.2.2.1 _ k_1876) rfl rfl rfl rfl d_Book_read_1_52 ?_
  refine mv_aload_n (pc := 55) B d_Book_read_1_55 rfl 0 rfl ?_
  refine mv_iconst (pc := 56) (v := -1) B d_Book_read_1_56 (by decide) ?_
  refine mv_putI (pc := 57) (ci := 12) (C := R_Book) (T := F_Book) (N := 65) B 37 rfl rfl (by decide) i_Book t_Book_ok n_Book (B.2.2.2.1 _ k_1883) rfl rfl rfl rfl d_Book_read_1_57 ?_
  refine mv_aload_n (pc := 60) B d_Book_read_1_60 rfl 0 rfl ?_
  refine mv_iconst (pc := 61) (v := 0) B d_Book_read_1_61 (by decide) ?_
  refine mv_putI (pc := 62) (ci := 12) (C := R_Book) (T := F_Book) (N := 65) B 38 rfl rfl (by decide) i_Book t_Book_ok n_Book (B.2.2.2.1 _ k_1885) rfl rfl rfl rfl d_Book_read_1_62 ?_
  refine mv_aload_n (pc := 65) B d_Book_read_1_65 rfl 0 rfl ?_
  refine mv_iconst (pc := 66) (v := -1) B d_Book_read_1_66 (by decide) ?_
  refine mv_putI (pc := 67) (ci := 12) (C := R_Book) (T := F_Book) (N := 65) B 39 rfl rfl (by decide) i_Book t_Book_ok n_Book (B.2.2.2.1 _ k_1888) rfl rfl rfl rfl d_Book_read_1_67 ?_
  refine mv_gen (fun S70 eS70 => ?_)
  have hmS : mh (mv_r S70) := by rw [eS70]; exact hmr.sr (o := 74) (k := 1) (v := some 71) rfl
  have hR : Br 74 (mv_r S70) := ⟨hmS, by rw [eS70]; rfl⟩
  have hz : (mv_i S70 74 2).toInt = len := by rw [eS70]; exact hn9
  have k17 : mv_i S70 74 17 = 0 := by rw [eS70]; rfl
  have k48 : mv_i S70 74 48 = 0 := by rw [eS70]; rfl
  have k29 : mv_i S70 74 29 = 0 := by rw [eS70]; rfl
  have k51 : mv_i S70 74 51 = 0 := by rw [eS70]; rfl
  have k19 : mv_i S70 74 19 = 0 := by rw [eS70]; rfl
  have k18 : mv_i S70 74 18 = -1 := by rw [eS70]; rfl
  have k38 : mv_i S70 74 38 = 0 := by rw [eS70]; rfl
  have k22 : mv_i S70 74 22 = 0 := by rw [eS70]; rfl
  have hb : BF 74 (mv_sr σ 74 1 (some 71)) S70 := by rw [eS70]; exact (((((((((((((BF.rf.si ⟨by omega, by omega⟩).si ⟨by omega, by omega⟩).si ⟨by omega, by omega⟩).si ⟨by omega, by omega⟩).si ⟨by omega, by omega⟩).si ⟨by omega, by omega⟩).si ⟨by omega, by omega⟩).si ⟨by omega, by omega⟩).si ⟨by omega, by omega⟩).si ⟨by omega, by omega⟩).si ⟨by omega, by omega⟩).si ⟨by omega, by omega⟩).si ⟨by omega, by omega⟩)
  have ec70 : ck S70 len = ck σ len := by rw [eS70]; rfl
  have eb70 : byt7 S70 := by rw [eS70]; exact hb7
  obtain ⟨rv, rg, hf, hf0, hf1⟩ := rd_tx_x (N := len) (T := ck σ len) (h := S70) ⟨hz, hl, ec70, by decide, eb70, k38, k48, k17, k19, k22, k29, k51⟩
  clear eS70
  refine mv_aload_n (pc := 70) B d_Book_read_1_70 rfl 0 rfl ?_
  refine mv_callVCUv (pc := 71) (n := 0) (ci := 12) (C := R_Book) B (mK_ok sk sv) hNs rfl rfl (k_Book_text_1_x l hi _ len hR hz hl k17 k48 k29 k51 k19 k18 hf) rfl (ma_goodc kc_Book_text_1) (B.2.2.2.1 _ k_2110) (B.2.2.2.1 _ k_2112) (B.2.2.2.1 _ ks_79) (B.2.2.2.1 _ k_13) ⟨by decide +kernel, by decide +kernel, by decide +kernel⟩ rfl d_Book_read_1_71 rfl (Nat.le_of_ble_eq_true rfl) ⟨by decide, by decide⟩ ⟨by decide, by decide⟩  ?_ ?_
  · skip
    intro σ71 g71
    obtain ⟨g71, υ, ⟨hv9, -, -⟩, -⟩ := g71
    have hS9 := hf0 hv9
    refine ⟨77, mt_H.one B.2.2.1 htab (by decide) (by decide) (by decide) (B.2.2.2.1 _ k_1822) (mt_cast (B.2.2.2.1 _ k_1823)), ?_⟩
    refine mv_astore_n (pc := 77) B d_Book_read_1_77 rfl (by decide) rfl ?_
    refine mv_aload_n (pc := 78) B d_Book_read_1_78 rfl 1 rfl ?_
    refine mv_aload_n (pc := 79) B d_Book_read_1_79 rfl 0 rfl ?_
    refine mv_getI (pc := 80) (ci := 13) (C := R_Wrong) (T := F_Wrong) (N := 1) B 0 rfl rfl (by decide) i_Wrong (B.2.2.2.1 _ k_1835) rfl d_Book_read_1_80 ?_
    refine mv_putI (pc := 83) (ci := 12) (C := R_Book) (T := F_Book) (N := 65) B 37 rfl rfl (by decide) i_Book t_Book_ok n_Book (B.2.2.2.1 _ k_1883) rfl rfl rfl rfl d_Book_read_1_83 ?_
    refine mv_aload_n (pc := 86) B d_Book_read_1_86 rfl 1 rfl ?_
    refine mv_iconst (pc := 87) (v := 1) B d_Book_read_1_87 (by decide) ?_
    refine mv_putI (pc := 88) (ci := 12) (C := R_Book) (T := F_Book) (N := 65) B 38 rfl rfl (by decide) i_Book t_Book_ok n_Book (B.2.2.2.1 _ k_1885) rfl rfl rfl rfl d_Book_read_1_88 ?_
    refine mv_iconst (pc := 91) (v := 0) B d_Book_read_1_91 (by decide) ?_
    exact mv_iret (pc := 92) B hr rfl d_Book_read_1_92 (Nat.le_refl _) (Nat.le_refl _) ⟨_, rfl, ((hb.tr g71).si ⟨by omega, by omega⟩).si ⟨by omega, by omega⟩, Or.inl rfl, Or.inr ⟨rfl, sOK_n hS9⟩⟩
  intro σ71 h71
  obtain ⟨h71, υ, ⟨hv9, hg9, hr9⟩, hs9⟩ := h71
  have hA := hs9.ag
  obtain ⟨b9, s9, m9, j9, hS9, hQ9⟩ := hf1 _ hv9
  subst hg9
  have hi38 : mv_i σ71 74 38 = mv_i rg 74 38 := hA.i (o := 74) (k := 38) rfl (Nat.le_of_ble_eq_true rfl) rfl
  obtain ⟨th, n, k, cb, c1, c2, hZ⟩ := h71
  have hL := hZ.le
  have hmt : mh (mv_r σ71) := hZ.1.1.2.1.1
  refine mv_goto (pc := 74) (tgt := 93) B d_Book_read_1_74 rfl ?_
  have j104 : ∀ (τ : mv_H) (hF : CF 74 σ71 τ) (hz9 : (mv_i τ 74 38).toInt ≤ 0 → (mv_i σ71 74 38).toInt ≤ 0) (hx9 : XJ 74 (txT (ck σ len) len) τ), mv_V p l e ({ frames := 1084, cells := 0, slots := 0, locals := 65155 }) s m ([.ref (al 74), .ref (al 71), .int n9] : List Value).toArray below meth c (mg dA D al ext) 5 0 0 (mv_Q (mg dA D al ext) below s 0 0 (mv_Ri (fun v σ1 => BF 74 (mv_sr σ 74 1 (some 71)) σ1 ∧ (v = 0 ∨ (v = 1 ∧ BG 74 σ1)) ∧ XRw 74 (txT (ck σ len) len) v σ1))) τ 104 [(0, .ref (al 74))] [] := by
    intro τ hF hz9 hx9
    have hmt : mh (mv_r τ) := by rw [hF.2.2.1]; exact hmt
    have hmq := hmt
    refine mv_aload_n (pc := 104) B d_Book_read_1_104 rfl 0 rfl ?_
    refine mv_getI (pc := 105) (ci := 12) (C := R_Book) (T := F_Book) (N := 65) B 38 rfl rfl (by decide) i_Book (B.2.2.2.1 _ k_1885) rfl d_Book_read_1_105 ?_
    refine mv_if_le (pc := 108) (tgt := 113) B d_Book_read_1_108 rfl (fun h108 => ?_) (fun h108 => ?_)
    · skip
      have hG9 := hZ.C.2.2.2.2.2.2.2.2 (hz9 (Int32.le_iff_toInt_le.mp h108))
      have hcm : csum (mv_a σ71 78) th = (mv_i σ71 74 19).toInt := hG9.2.2.2.1
      have hg5 : ∀ t, t < th → 0 ≤ (mv_a σ71 78 t).toInt := fun t ht => (hG9.2.2.2.2 t ht).1
      have hcc := hZ.C.2.2.2.2.2.2.1
      have hthr : (mv_i τ 74 17).toInt = th := by rw [hF.1 _ _ (by omega)]; exact hZ.C.2.1
      have lp : ∀ (nn : Nat) (S : mv_H) (t9 : Int32) (s9 : Int32) (hV : VF 74 τ S) (hat : ∀ t, t < t9.toNatClampNeg → (mv_a S 79 t).toInt = csum (mv_a σ71 78) t) (hs9 : s9.toInt = csum (mv_a σ71 78) t9.toNatClampNeg) (q0 : 0 ≤ t9.toInt) (q1 : t9.toInt ≤ th), (20000 - t9.toInt).toNat < nn → mv_V p l e ({ frames := 1084, cells := 0, slots := 0, locals := 65155 }) s m ([.ref (al 74), .ref (al 71), .int n9] : List Value).toArray below meth c (mg dA D al ext) 5 0 0 (mv_Q (mg dA D al ext) below s 0 0 (mv_Ri (fun v σ1 => BF 74 (mv_sr σ 74 1 (some 71)) σ1 ∧ (v = 0 ∨ (v = 1 ∧ BG 74 σ1)) ∧ XRw 74 (txT (ck σ len) len) v σ1))) S 118 [(4, .int t9), (3, .int s9), (0, .ref (al 74))] [] := by
        intro nn
        induction nn with
        | zero => intro S t9 s9 hV hat hs9 q0 q1 hm; exact absurd hm (Nat.not_lt_zero _)
        | succ nn ih =>
          intro S t9 s9 hV hat hs9 q0 q1 hm
          have hmt : mh (mv_r S) := by rw [hV.2.2.1]; exact hmq
          refine mv_iload (pc := 118) B d_Book_read_1_118 0 rfl ?_
          refine mv_aload_n (pc := 120) B d_Book_read_1_120 rfl 2 rfl ?_
          refine mv_getI (pc := 121) (ci := 12) (C := R_Book) (T := F_Book) (N := 65) B 17 rfl rfl (by decide) i_Book (B.2.2.2.1 _ k_1860) rfl d_Book_read_1_121 ?_
          refine mv_icmp_ge (pc := 124) (tgt := 159) B d_Book_read_1_124 rfl (fun h124 => ?_) (fun h124 => ?_)
          · skip
            rw [Int32.le_iff_toInt_le] at h124
            have e17 : mv_i S 74 17 = mv_i τ 74 17 := hV.1 _ _ id
            rw [e17] at h124
            have hcl := i32_cl q0
            have hte : t9.toNatClampNeg = th := by omega
            rw [hte] at hat hs9
            have lq : ∀ (nn : Nat) (S : mv_H) (i9 : Int32) (hV : VF 74 τ S) (hat : ∀ t, t < th → (mv_a S 79 t).toInt = csum (mv_a σ71 78) t) (r0 : 0 ≤ i9.toInt), (70000 - i9.toInt).toNat < nn → mv_V p l e ({ frames := 1084, cells := 0, slots := 0, locals := 65155 }) s m ([.ref (al 74), .ref (al 71), .int n9] : List Value).toArray below meth c (mg dA D al ext) 5 0 0 (mv_Q (mg dA D al ext) below s 0 0 (mv_Ri (fun v σ1 => BF 74 (mv_sr σ 74 1 (some 71)) σ1 ∧ (v = 0 ∨ (v = 1 ∧ BG 74 σ1)) ∧ XRw 74 (txT (ck σ len) len) v σ1))) S 162 [(4, .int i9), (3, .int s9), (0, .ref (al 74))] [] := by
              intro nn
              induction nn with
              | zero => intro S i9 hV hat r0 hm; exact absurd hm (Nat.not_lt_zero _)
              | succ nn ih =>
                intro S i9 hV hat r0 hm
                have hmt : mh (mv_r S) := by rw [hV.2.2.1]; exact hmq
                refine mv_iload (pc := 162) B d_Book_read_1_162 0 rfl ?_
                refine mv_iload_n (pc := 164) B d_Book_read_1_164 rfl 1 rfl ?_
                refine mv_icmp_ge (pc := 165) (tgt := 182) B d_Book_read_1_165 rfl (fun h165 => ?_) (fun h165 => ?_)
                · skip
                  refine mv_iconst (pc := 182) (v := 1) B d_Book_read_1_182 (by decide) ?_
                  exact mv_iret (pc := 183) B hr rfl d_Book_read_1_183 (Nat.le_refl _) (Nat.le_refl _) ⟨_, rfl, ((hb.tr hZ.2.2.2.2.2.2).tr hF.bf).tr hV.bf, Or.inr ⟨rfl, BG.of hZ hG9 hF hV hat⟩, Or.inl ⟨rfl, by obtain ⟨s8, a8, b8⟩ := hx9.1 (Int32.le_iff_toInt_le.mp h108); exact ⟨s8, a8, b8.fr (fun k _ => hV.1 _ _ id) (fun i _ => hV.2.2.2.1 _ _ (by omega)) (fun i _ => hV.2.2.2.1 _ _ (by omega)) (fun o k ho _ => hV.2.2.2.1 _ _ (by omega))⟩⟩⟩
                · skip
                  rw [Int32.le_iff_toInt_le] at h165
                  have w4 : (i9 + 1).toInt = i9.toInt + 1 := i32_inc (by omega)
                  refine mv_aload_n (pc := 168) B d_Book_read_1_168 rfl 2 rfl ?_
                  refine mv_getR (pc := 169) (ci := 12) (C := R_Book) (T := F_Book) (N := 65) B 56 rfl rfl (by decide) i_Book (B.2.2.2.1 _ k_1905) rfl (hmt _ 56 _ rfl) d_Book_read_1_169 ?_
                  refine mv_iload (pc := 172) B d_Book_read_1_172 0 rfl ?_
                  refine mv_lconst (pc := 174) (v := 0) B d_Book_read_1_174 (by decide) ?_
                  refine mv_last (pc := 175) B rfl (i32_in r0 (show i9.toInt < 65536 by omega)) d_Book_read_1_175 ?_
                  refine mv_iinc (pc := 176) (j := 0) (v := 1) B d_Book_read_1_176 rfl (by decide) (by decide) rfl ?_
                  refine mv_goto (pc := 179) (tgt := 162) B d_Book_read_1_179 rfl ?_
                  refine mv_lpick [0, 1, 2] rfl ?_
                  exact ih _ _ (hV.sb (Or.inr rfl)) hat (by omega) (by omega)
            refine mv_iconst (pc := 159) (v := 0) B d_Book_read_1_159 (by decide) ?_
            refine mv_istore (pc := 160) B d_Book_read_1_160 (by decide) rfl ?_
            refine mv_lpick [0, 1, 2] rfl ?_
            exact lq _ _ _ hV hat (by decide) (Nat.lt_succ_self _)
          · skip
            rw [Int32.le_iff_toInt_le] at h124
            have e17 : mv_i S 74 17 = mv_i τ 74 17 := hV.1 _ _ id
            rw [e17] at h124
            have hcl := i32_cl q0
            have hme : mv_a S 78 t9.toNatClampNeg = mv_a σ71 78 t9.toNatClampNeg := (hV.2.2.2.1 _ _ (by omega)).trans (hF.2.2.2.1 _ _ id)
            have m1 := csum_mono hg5 t9.toNatClampNeg (by omega)
            have m2 := csum_mono hg5 (t9.toNatClampNeg + 1) (by omega)
            have e1 : csum (mv_a σ71 78) (t9.toNatClampNeg + 1) = csum (mv_a σ71 78) t9.toNatClampNeg + (mv_a σ71 78 t9.toNatClampNeg).toInt := rfl
            rw [← hme] at e1
            have w2 : (t9 + 1).toInt = t9.toInt + 1 := i32_inc (by omega)
            have hcl2 := i32_cl (x := t9 + 1) (by omega)
            have hc3 : (t9 + 1).toNatClampNeg = t9.toNatClampNeg + 1 := by omega
            refine mv_aload_n (pc := 127) B d_Book_read_1_127 rfl 2 rfl ?_
            refine mv_getR (pc := 128) (ci := 12) (C := R_Book) (T := F_Book) (N := 65) B 14 rfl rfl (by decide) i_Book (B.2.2.2.1 _ k_1857) rfl (hmt _ 14 _ rfl) d_Book_read_1_128 ?_
            refine mv_iload (pc := 131) B d_Book_read_1_131 0 rfl ?_
            refine mv_iload_n (pc := 133) B d_Book_read_1_133 rfl 1 rfl ?_
            refine mv_iast (pc := 134) B rfl (i32_in q0 (show t9.toInt < 4100 by omega)) d_Book_read_1_134 ?_
            refine mv_iload_n (pc := 135) B d_Book_read_1_135 rfl 1 rfl ?_
            refine mv_aload_n (pc := 136) B d_Book_read_1_136 rfl 2 rfl ?_
            refine mv_getR (pc := 137) (ci := 12) (C := R_Book) (T := F_Book) (N := 65) B 13 rfl rfl (by decide) i_Book (B.2.2.2.1 _ k_1856) rfl (hmt _ 13 _ rfl) d_Book_read_1_137 ?_
            refine mv_iload (pc := 140) B d_Book_read_1_140 0 rfl ?_
            refine mv_iald (pc := 142) B rfl (i32_in q0 (show t9.toInt < 4100 by omega)) d_Book_read_1_142 ?_
            refine mv_iadd (pc := 143) B d_Book_read_1_143 ?_
            refine mv_topi (fun y143 ey143 => ?_)
            have ey143 : y143 = s9 + mv_a S 78 t9.toNatClampNeg := ey143
            have fy143 := i32_addE ey143 (by (try simp only [Int32.reduceToInt]); omega) (by (try simp only [Int32.reduceToInt]); omega)
            try simp only [Int32.reduceToInt] at fy143
            refine mv_istore_n (pc := 144) B d_Book_read_1_144 rfl (by decide) rfl ?_
            refine mv_aload_n (pc := 145) B d_Book_read_1_145 rfl 2 rfl ?_
            refine mv_getR (pc := 146) (ci := 12) (C := R_Book) (T := F_Book) (N := 65) B 55 rfl rfl (by decide) i_Book (B.2.2.2.1 _ k_1904) rfl (hmt _ 55 _ rfl) d_Book_read_1_146 ?_
            refine mv_iload (pc := 149) B d_Book_read_1_149 1 rfl ?_
            refine mv_lconst (pc := 151) (v := 0) B d_Book_read_1_151 (by decide) ?_
            refine mv_last (pc := 152) B rfl (i32_in q0 (show t9.toInt < 4100 by omega)) d_Book_read_1_152 ?_
            refine mv_iinc (pc := 153) (j := 1) (v := 1) B d_Book_read_1_153 rfl (by decide) (by decide) rfl ?_
            refine mv_goto (pc := 156) (tgt := 118) B d_Book_read_1_156 rfl ?_
            refine mv_lpick [0, 1, 2] rfl ?_
            exact ih _ _ _ ((hV.sa (o := 79) rfl).sb (Or.inl rfl)) (fun j hj => by
              rw [hc3] at hj
              show Int32.toInt (mv_u (mv_a S) 79 t9.toNatClampNeg s9 79 j) = _
              by_cases z : j = t9.toNatClampNeg
              · subst z; rw [mv_u_same]; exact hs9
              · rw [mv_u_ne _ _ (by omega)]; exact hat j (by omega)) (by rw [hc3, e1, ← hs9]; exact fy143) (by omega) (by omega) (by omega)
      refine mv_iconst (pc := 113) (v := 0) B d_Book_read_1_113 (by decide) ?_
      refine mv_istore_n (pc := 114) B d_Book_read_1_114 rfl (by decide) rfl ?_
      refine mv_iconst (pc := 115) (v := 0) B d_Book_read_1_115 (by decide) ?_
      refine mv_istore (pc := 116) B d_Book_read_1_116 (by decide) rfl ?_
      refine mv_lpick [0, 1, 2] rfl ?_
      exact lp _ _ _ _ Fx.rf (fun t ht => absurd ht (Nat.not_lt_zero _)) rfl (by decide) (by show (0 : Int) ≤ _; omega) (Nat.lt_succ_self _)
    · skip
      refine mv_iconst (pc := 111) (v := 0) B d_Book_read_1_111 (by decide) ?_
      exact mv_iret (pc := 112) B hr rfl d_Book_read_1_112 (Nat.le_refl _) (Nat.le_refl _) ⟨_, rfl, (hb.tr hZ.2.2.2.2.2.2).tr hF.bf, Or.inl rfl, Or.inr ⟨rfl, hx9.2 (fun z => h108 (Int32.le_iff_toInt_le.mpr z))⟩⟩
  refine mv_aload_n (pc := 93) B d_Book_read_1_93 rfl 0 rfl ?_
  refine mv_getI (pc := 94) (ci := 12) (C := R_Book) (T := F_Book) (N := 65) B 38 rfl rfl (by decide) i_Book (B.2.2.2.1 _ k_1885) rfl d_Book_read_1_94 ?_
  refine mv_if_ne (pc := 97) (tgt := 104) B d_Book_read_1_97 rfl (fun h97 => ?_) (fun h97 => ?_)
  · skip
    have hx8 := rd_no hS9 hQ9.fa hi38 h97
    refine mv_lpick [0] rfl ?_
    exact j104 _ (by first | exact Fx.rf | exact hF) (by first | exact id | exact fun _ => by rw [h97]; decide) hx8
  · skip
    have hG9 := hZ.C.2.2.2.2.2.2.2.2 (by rw [h97]; decide)
    have hb9 : b9 = true := hQ9.fa.1.mpr (hi38.symm.trans h97)
    subst hb9
    obtain ⟨rg2, hcf, hcg⟩ := rd_cl hQ9
    refine mv_aload_n (pc := 100) B d_Book_read_1_100 rfl 0 rfl ?_
    refine mv_callVv (pc := 101) (n := 0) (ci := 12) (C := R_Book) B (mK_ok sk sv) hNs rfl rfl (mv_C.twov (c_Book_clash_x l hi _ k hmt (hG9.co hZ.C.2.2.2.1 (by omega) (by omega))) (hA.C (ch_Book_clash_x l hi _ (by rw [hr9]; exact hR) hcf))) rfl (ma_goodc kc_Book_clash) (B.2.2.2.1 _ k_2333) (B.2.2.2.1 _ k_2335) (B.2.2.2.1 _ ks_121) (B.2.2.2.1 _ k_13) ⟨by decide +kernel, by decide +kernel, by decide +kernel⟩ rfl d_Book_read_1_101 rfl (Nat.le_of_ble_eq_true rfl) ⟨by decide, by decide⟩ ⟨by decide, by decide⟩ ⟨by decide, by decide⟩ (mt_out htab (by decide)) (fun σ101 h101 => ?_)
    obtain ⟨hF, υ2, ⟨hg2, -⟩, hs2⟩ := h101
    subst hg2
    have hA2 := hs2.ag
    have hx8 := rd_ye (σ := σ71) (g := rg2) hS9 hcg (hA2.i (o := 74) (k := 38) rfl (Nat.le_of_ble_eq_true rfl) rfl) (hQ9.sr.fr (fun k hk => (hF.1 74 k (by omega)).trans (by rcases hk with rfl | rfl | rfl | rfl <;> exact hA.i (o := 74) rfl (Nat.le_of_ble_eq_true rfl) rfl)) (fun i hi => (hF.2.2.2.1 _ _ id).trans (hA.a (o := 84) (n := 4100) rfl (by decide) hi)) (fun i hi => (hF.2.2.2.1 _ _ id).trans (hA.a (o := 87) (n := 32768) rfl (by decide) hi)) (fun o k ho hk => (hF.2.2.2.1 _ _ id).trans (by rcases ho with rfl | rfl | rfl <;> exact hA.a (n := 4100) rfl (by decide) hk)))
    refine mv_lpick [0] rfl ?_
    exact j104 _ (by first | exact Fx.rf | exact hF) (by first | exact id | exact fun _ => by rw [h97]; decide) hx8
set_option maxHeartbeats 4000000 in
set_option maxRecDepth 100000 in
theorem c_kb_Book_read_1_y (l : Launch) {dA : FieldType → ClassId} {D : va_G} {al : Nat → Nat} {ext : mv_Sh} {sk sv : Nat → Nat} (hi : mv_inj (mg dA D al ext)) (σ : mv_H) (n9 : Int32) (len : Nat) (hn9 : n9.toInt = len) (hl : len ≤ 10240) (hmr : mh (mv_r σ)) (hb7 : byt7 σ) : mv_C l y_Book_read_1 (Cond.codeWith y_Book_read_1 b_Book_read_1 5 (Option.some Jvm.ClassFile.FieldType.boolean) [((70 : Nat), (74 : Nat), (77 : Nat), (7 : Nat))] :: ma) ({ frames := 1084, cells := 0, slots := 0, locals := 65155 }) (mg dA D al ext) (mK sk sv) [.ref (al 108), .ref (al 71), .int n9] σ (mv_Ri (fun v σ1 => BF 108 (mv_sr σ 108 1 (some 71)) σ1 ∧ (v = 0 ∨ (v = 1 ∧ BG 108 σ1)) ∧ XRw 108 (txT (ck σ len) len) v σ1)) := by
  refine mv_C.ofVW (cc := b_Book_read_1) (nL := 5) (ret := (Option.some Jvm.ClassFile.FieldType.boolean)) (hh := [((70 : Nat), (74 : Nat), (77 : Nat), (7 : Nat))]) (by decide +kernel) rfl hi (Nat.le_of_ble_eq_true rfl) ?_
  intro p e s m below meth c B hNs hr hnm htab
  refine mv_aload_n (pc := 0) B d_Book_read_1_0 rfl 0 rfl ?_
  refine mv_aload_n (pc := 1) B d_Book_read_1_1 rfl 1 rfl ?_
  refine mv_putR (pc := 2) (ci := 12) (C := R_Book) (T := F_Book) (N := 65) B 1 rfl rfl (by decide) i_Book t_Book_ok n_Book (B.2.2.2.1 _ k_1844) rfl rfl d_Book_read_1_2 ?_
  refine mv_aload_n (pc := 5) B d_Book_read_1_5 rfl 0 rfl ?_
  refine mv_iload_n (pc := 6) B d_Book_read_1_6 rfl 2 rfl ?_
  refine mv_putI (pc := 7) (ci := 12) (C := R_Book) (T := F_Book) (N := 65) B 2 rfl rfl (by decide) i_Book t_Book_ok n_Book (B.2.2.2.1 _ k_1845) rfl rfl rfl rfl d_Book_read_1_7 ?_
  refine mv_aload_n (pc := 10) B d_Book_read_1_10 rfl 0 rfl ?_
  refine mv_iconst (pc := 11) (v := 0) B d_Book_read_1_11 (by decide) ?_
  refine mv_putI (pc := 12) (ci := 12) (C := R_Book) (T := F_Book) (N := 65) B 48 rfl rfl (by decide) i_Book t_Book_ok n_Book (B.2.2.2.1 _ k_1897) rfl rfl rfl rfl d_Book_read_1_12 ?_
  refine mv_aload_n (pc := 15) B d_Book_read_1_15 rfl 0 rfl ?_
  refine mv_iconst (pc := 16) (v := 0) B d_Book_read_1_16 (by decide) ?_
  refine mv_putI (pc := 17) (ci := 12) (C := R_Book) (T := F_Book) (N := 65) B 17 rfl rfl (by decide) i_Book t_Book_ok n_Book (B.2.2.2.1 _ k_1860) rfl rfl rfl rfl d_Book_read_1_17 ?_
  refine mv_aload_n (pc := 20) B d_Book_read_1_20 rfl 0 rfl ?_
  refine mv_iconst (pc := 21) (v := 0) B d_Book_read_1_21 (by decide) ?_
  refine mv_putI (pc := 22) (ci := 12) (C := R_Book) (T := F_Book) (N := 65) B 19 rfl rfl (by decide) i_Book t_Book_ok n_Book (B.2.2.2.1 _ k_1864) rfl rfl rfl rfl d_Book_read_1_22 ?_
  refine mv_aload_n (pc := 25) B d_Book_read_1_25 rfl 0 rfl ?_
  refine mv_iconst (pc := 26) (v := -1) B d_Book_read_1_26 (by decide) ?_
  refine mv_putI (pc := 27) (ci := 12) (C := R_Book) (T := F_Book) (N := 65) B 18 rfl rfl (by decide) i_Book t_Book_ok n_Book (B.2.2.2.1 _ k_1862) rfl rfl rfl rfl d_Book_read_1_27 ?_
  refine mv_aload_n (pc := 30) B d_Book_read_1_30 rfl 0 rfl ?_
  refine mv_iconst (pc := 31) (v := -1) B d_Book_read_1_31 (by decide) ?_
  refine mv_putI (pc := 32) (ci := 12) (C := R_Book) (T := F_Book) (N := 65) B 21 rfl rfl (by decide) i_Book t_Book_ok n_Book (B.2.2.2.1 _ k_1866) rfl rfl rfl rfl d_Book_read_1_32 ?_
  refine mv_aload_n (pc := 35) B d_Book_read_1_35 rfl 0 rfl ?_
  refine mv_iconst (pc := 36) (v := 0) B d_Book_read_1_36 (by decide) ?_
  refine mv_putI (pc := 37) (ci := 12) (C := R_Book) (T := F_Book) (N := 65) B 22 rfl rfl (by decide) i_Book t_Book_ok n_Book (B.2.2.2.1 _ k_1867) rfl rfl rfl rfl d_Book_read_1_37 ?_
  refine mv_aload_n (pc := 40) B d_Book_read_1_40 rfl 0 rfl ?_
  refine mv_iconst (pc := 41) (v := 0) B d_Book_read_1_41 (by decide) ?_
  refine mv_putI (pc := 42) (ci := 12) (C := R_Book) (T := F_Book) (N := 65) B 29 rfl rfl (by decide) i_Book t_Book_ok n_Book (B.2.2.2.1 _ k_1874) rfl rfl rfl rfl d_Book_read_1_42 ?_
  refine mv_aload_n (pc := 45) B d_Book_read_1_45 rfl 0 rfl ?_
  refine mv_iconst (pc := 46) (v := 0) B d_Book_read_1_46 (by decide) ?_
  refine mv_putI (pc := 47) (ci := 12) (C := R_Book) (T := F_Book) (N := 65) B 51 rfl rfl (by decide) i_Book t_Book_ok n_Book (B.2.2.2.1 _ k_1900) rfl rfl rfl rfl d_Book_read_1_47 ?_
  refine mv_aload_n (pc := 50) B d_Book_read_1_50 rfl 0 rfl ?_
  refine mv_iconst (pc := 51) (v := 0) B d_Book_read_1_51 (by decide) ?_
  refine mv_putI (pc := 52) (ci := 12) (C := R_Book) (T := F_Book) (N := 65) B 30 rfl rfl (by decide) i_Book t_Book_ok n_Book (B.2.2.2.1 _ k_1876) rfl rfl rfl rfl d_Book_read_1_52 ?_
  refine mv_aload_n (pc := 55) B d_Book_read_1_55 rfl 0 rfl ?_
  refine mv_iconst (pc := 56) (v := -1) B d_Book_read_1_56 (by decide) ?_
  refine mv_putI (pc := 57) (ci := 12) (C := R_Book) (T := F_Book) (N := 65) B 37 rfl rfl (by decide) i_Book t_Book_ok n_Book (B.2.2.2.1 _ k_1883) rfl rfl rfl rfl d_Book_read_1_57 ?_
  refine mv_aload_n (pc := 60) B d_Book_read_1_60 rfl 0 rfl ?_
  refine mv_iconst (pc := 61) (v := 0) B d_Book_read_1_61 (by decide) ?_
  refine mv_putI (pc := 62) (ci := 12) (C := R_Book) (T := F_Book) (N := 65) B 38 rfl rfl (by decide) i_Book t_Book_ok n_Book (B.2.2.2.1 _ k_1885) rfl rfl rfl rfl d_Book_read_1_62 ?_
  refine mv_aload_n (pc := 65) B d_Book_read_1_65 rfl 0 rfl ?_
  refine mv_iconst (pc := 66) (v := -1) B d_Book_read_1_66 (by decide) ?_
  refine mv_putI (pc := 67) (ci := 12) (C := R_Book) (T := F_Book) (N := 65) B 39 rfl rfl (by decide) i_Book t_Book_ok n_Book (B.2.2.2.1 _ k_1888) rfl rfl rfl rfl d_Book_read_1_67 ?_
  refine mv_gen (fun S70 eS70 => ?_)
  have hmS : mh (mv_r S70) := by rw [eS70]; exact hmr.sr (o := 108) (k := 1) (v := some 71) rfl
  have hR : Br 108 (mv_r S70) := ⟨hmS, by rw [eS70]; rfl⟩
  have hz : (mv_i S70 108 2).toInt = len := by rw [eS70]; exact hn9
  have k17 : mv_i S70 108 17 = 0 := by rw [eS70]; rfl
  have k48 : mv_i S70 108 48 = 0 := by rw [eS70]; rfl
  have k29 : mv_i S70 108 29 = 0 := by rw [eS70]; rfl
  have k51 : mv_i S70 108 51 = 0 := by rw [eS70]; rfl
  have k19 : mv_i S70 108 19 = 0 := by rw [eS70]; rfl
  have k18 : mv_i S70 108 18 = -1 := by rw [eS70]; rfl
  have k38 : mv_i S70 108 38 = 0 := by rw [eS70]; rfl
  have k22 : mv_i S70 108 22 = 0 := by rw [eS70]; rfl
  have hb : BF 108 (mv_sr σ 108 1 (some 71)) S70 := by rw [eS70]; exact (((((((((((((BF.rf.si ⟨by omega, by omega⟩).si ⟨by omega, by omega⟩).si ⟨by omega, by omega⟩).si ⟨by omega, by omega⟩).si ⟨by omega, by omega⟩).si ⟨by omega, by omega⟩).si ⟨by omega, by omega⟩).si ⟨by omega, by omega⟩).si ⟨by omega, by omega⟩).si ⟨by omega, by omega⟩).si ⟨by omega, by omega⟩).si ⟨by omega, by omega⟩).si ⟨by omega, by omega⟩)
  have ec70 : ck S70 len = ck σ len := by rw [eS70]; rfl
  have eb70 : byt7 S70 := by rw [eS70]; exact hb7
  obtain ⟨rv, rg, hf, hf0, hf1⟩ := rd_tx_y (N := len) (T := ck σ len) (h := S70) ⟨hz, hl, ec70, by decide, eb70, k38, k48, k17, k19, k22, k29, k51⟩
  clear eS70
  refine mv_aload_n (pc := 70) B d_Book_read_1_70 rfl 0 rfl ?_
  refine mv_callVCUv (pc := 71) (n := 0) (ci := 12) (C := R_Book) B (mK_ok sk sv) hNs rfl rfl (k_Book_text_1_y l hi _ len hR hz hl k17 k48 k29 k51 k19 k18 hf) rfl (ma_goodc kc_Book_text_1) (B.2.2.2.1 _ k_2110) (B.2.2.2.1 _ k_2112) (B.2.2.2.1 _ ks_79) (B.2.2.2.1 _ k_13) ⟨by decide +kernel, by decide +kernel, by decide +kernel⟩ rfl d_Book_read_1_71 rfl (Nat.le_of_ble_eq_true rfl) ⟨by decide, by decide⟩ ⟨by decide, by decide⟩  ?_ ?_
  · skip
    intro σ71 g71
    obtain ⟨g71, υ, ⟨hv9, -, -⟩, -⟩ := g71
    have hS9 := hf0 hv9
    refine ⟨77, mt_H.one B.2.2.1 htab (by decide) (by decide) (by decide) (B.2.2.2.1 _ k_1822) (mt_cast (B.2.2.2.1 _ k_1823)), ?_⟩
    refine mv_astore_n (pc := 77) B d_Book_read_1_77 rfl (by decide) rfl ?_
    refine mv_aload_n (pc := 78) B d_Book_read_1_78 rfl 1 rfl ?_
    refine mv_aload_n (pc := 79) B d_Book_read_1_79 rfl 0 rfl ?_
    refine mv_getI (pc := 80) (ci := 13) (C := R_Wrong) (T := F_Wrong) (N := 1) B 0 rfl rfl (by decide) i_Wrong (B.2.2.2.1 _ k_1835) rfl d_Book_read_1_80 ?_
    refine mv_putI (pc := 83) (ci := 12) (C := R_Book) (T := F_Book) (N := 65) B 37 rfl rfl (by decide) i_Book t_Book_ok n_Book (B.2.2.2.1 _ k_1883) rfl rfl rfl rfl d_Book_read_1_83 ?_
    refine mv_aload_n (pc := 86) B d_Book_read_1_86 rfl 1 rfl ?_
    refine mv_iconst (pc := 87) (v := 1) B d_Book_read_1_87 (by decide) ?_
    refine mv_putI (pc := 88) (ci := 12) (C := R_Book) (T := F_Book) (N := 65) B 38 rfl rfl (by decide) i_Book t_Book_ok n_Book (B.2.2.2.1 _ k_1885) rfl rfl rfl rfl d_Book_read_1_88 ?_
    refine mv_iconst (pc := 91) (v := 0) B d_Book_read_1_91 (by decide) ?_
    exact mv_iret (pc := 92) B hr rfl d_Book_read_1_92 (Nat.le_refl _) (Nat.le_refl _) ⟨_, rfl, ((hb.tr g71).si ⟨by omega, by omega⟩).si ⟨by omega, by omega⟩, Or.inl rfl, Or.inr ⟨rfl, sOK_n hS9⟩⟩
  intro σ71 h71
  obtain ⟨h71, υ, ⟨hv9, hg9, hr9⟩, hs9⟩ := h71
  have hA := hs9.ag
  obtain ⟨b9, s9, m9, j9, hS9, hQ9⟩ := hf1 _ hv9
  subst hg9
  have hi38 : mv_i σ71 108 38 = mv_i rg 108 38 := hA.i (o := 108) (k := 38) rfl (Nat.le_of_ble_eq_true rfl) rfl
  obtain ⟨th, n, k, cb, c1, c2, hZ⟩ := h71
  have hL := hZ.le
  have hmt : mh (mv_r σ71) := hZ.1.1.2.1.1
  refine mv_goto (pc := 74) (tgt := 93) B d_Book_read_1_74 rfl ?_
  have j104 : ∀ (τ : mv_H) (hF : CF 108 σ71 τ) (hz9 : (mv_i τ 108 38).toInt ≤ 0 → (mv_i σ71 108 38).toInt ≤ 0) (hx9 : XJ 108 (txT (ck σ len) len) τ), mv_V p l e ({ frames := 1084, cells := 0, slots := 0, locals := 65155 }) s m ([.ref (al 108), .ref (al 71), .int n9] : List Value).toArray below meth c (mg dA D al ext) 5 0 0 (mv_Q (mg dA D al ext) below s 0 0 (mv_Ri (fun v σ1 => BF 108 (mv_sr σ 108 1 (some 71)) σ1 ∧ (v = 0 ∨ (v = 1 ∧ BG 108 σ1)) ∧ XRw 108 (txT (ck σ len) len) v σ1))) τ 104 [(0, .ref (al 108))] [] := by
    intro τ hF hz9 hx9
    have hmt : mh (mv_r τ) := by rw [hF.2.2.1]; exact hmt
    have hmq := hmt
    refine mv_aload_n (pc := 104) B d_Book_read_1_104 rfl 0 rfl ?_
    refine mv_getI (pc := 105) (ci := 12) (C := R_Book) (T := F_Book) (N := 65) B 38 rfl rfl (by decide) i_Book (B.2.2.2.1 _ k_1885) rfl d_Book_read_1_105 ?_
    refine mv_if_le (pc := 108) (tgt := 113) B d_Book_read_1_108 rfl (fun h108 => ?_) (fun h108 => ?_)
    · skip
      have hG9 := hZ.C.2.2.2.2.2.2.2.2 (hz9 (Int32.le_iff_toInt_le.mp h108))
      have hcm : csum (mv_a σ71 112) th = (mv_i σ71 108 19).toInt := hG9.2.2.2.1
      have hg5 : ∀ t, t < th → 0 ≤ (mv_a σ71 112 t).toInt := fun t ht => (hG9.2.2.2.2 t ht).1
      have hcc := hZ.C.2.2.2.2.2.2.1
      have hthr : (mv_i τ 108 17).toInt = th := by rw [hF.1 _ _ (by omega)]; exact hZ.C.2.1
      have lp : ∀ (nn : Nat) (S : mv_H) (t9 : Int32) (s9 : Int32) (hV : VF 108 τ S) (hat : ∀ t, t < t9.toNatClampNeg → (mv_a S 113 t).toInt = csum (mv_a σ71 112) t) (hs9 : s9.toInt = csum (mv_a σ71 112) t9.toNatClampNeg) (q0 : 0 ≤ t9.toInt) (q1 : t9.toInt ≤ th), (20000 - t9.toInt).toNat < nn → mv_V p l e ({ frames := 1084, cells := 0, slots := 0, locals := 65155 }) s m ([.ref (al 108), .ref (al 71), .int n9] : List Value).toArray below meth c (mg dA D al ext) 5 0 0 (mv_Q (mg dA D al ext) below s 0 0 (mv_Ri (fun v σ1 => BF 108 (mv_sr σ 108 1 (some 71)) σ1 ∧ (v = 0 ∨ (v = 1 ∧ BG 108 σ1)) ∧ XRw 108 (txT (ck σ len) len) v σ1))) S 118 [(4, .int t9), (3, .int s9), (0, .ref (al 108))] [] := by
        intro nn
        induction nn with
        | zero => intro S t9 s9 hV hat hs9 q0 q1 hm; exact absurd hm (Nat.not_lt_zero _)
        | succ nn ih =>
          intro S t9 s9 hV hat hs9 q0 q1 hm
          have hmt : mh (mv_r S) := by rw [hV.2.2.1]; exact hmq
          refine mv_iload (pc := 118) B d_Book_read_1_118 0 rfl ?_
          refine mv_aload_n (pc := 120) B d_Book_read_1_120 rfl 2 rfl ?_
          refine mv_getI (pc := 121) (ci := 12) (C := R_Book) (T := F_Book) (N := 65) B 17 rfl rfl (by decide) i_Book (B.2.2.2.1 _ k_1860) rfl d_Book_read_1_121 ?_
          refine mv_icmp_ge (pc := 124) (tgt := 159) B d_Book_read_1_124 rfl (fun h124 => ?_) (fun h124 => ?_)
          · skip
            rw [Int32.le_iff_toInt_le] at h124
            have e17 : mv_i S 108 17 = mv_i τ 108 17 := hV.1 _ _ id
            rw [e17] at h124
            have hcl := i32_cl q0
            have hte : t9.toNatClampNeg = th := by omega
            rw [hte] at hat hs9
            have lq : ∀ (nn : Nat) (S : mv_H) (i9 : Int32) (hV : VF 108 τ S) (hat : ∀ t, t < th → (mv_a S 113 t).toInt = csum (mv_a σ71 112) t) (r0 : 0 ≤ i9.toInt), (70000 - i9.toInt).toNat < nn → mv_V p l e ({ frames := 1084, cells := 0, slots := 0, locals := 65155 }) s m ([.ref (al 108), .ref (al 71), .int n9] : List Value).toArray below meth c (mg dA D al ext) 5 0 0 (mv_Q (mg dA D al ext) below s 0 0 (mv_Ri (fun v σ1 => BF 108 (mv_sr σ 108 1 (some 71)) σ1 ∧ (v = 0 ∨ (v = 1 ∧ BG 108 σ1)) ∧ XRw 108 (txT (ck σ len) len) v σ1))) S 162 [(4, .int i9), (3, .int s9), (0, .ref (al 108))] [] := by
              intro nn
              induction nn with
              | zero => intro S i9 hV hat r0 hm; exact absurd hm (Nat.not_lt_zero _)
              | succ nn ih =>
                intro S i9 hV hat r0 hm
                have hmt : mh (mv_r S) := by rw [hV.2.2.1]; exact hmq
                refine mv_iload (pc := 162) B d_Book_read_1_162 0 rfl ?_
                refine mv_iload_n (pc := 164) B d_Book_read_1_164 rfl 1 rfl ?_
                refine mv_icmp_ge (pc := 165) (tgt := 182) B d_Book_read_1_165 rfl (fun h165 => ?_) (fun h165 => ?_)
                · skip
                  refine mv_iconst (pc := 182) (v := 1) B d_Book_read_1_182 (by decide) ?_
                  exact mv_iret (pc := 183) B hr rfl d_Book_read_1_183 (Nat.le_refl _) (Nat.le_refl _) ⟨_, rfl, ((hb.tr hZ.2.2.2.2.2.2).tr hF.bf).tr hV.bf, Or.inr ⟨rfl, BG.of hZ hG9 hF hV hat⟩, Or.inl ⟨rfl, by obtain ⟨s8, a8, b8⟩ := hx9.1 (Int32.le_iff_toInt_le.mp h108); exact ⟨s8, a8, b8.fr (fun k _ => hV.1 _ _ id) (fun i _ => hV.2.2.2.1 _ _ (by omega)) (fun i _ => hV.2.2.2.1 _ _ (by omega)) (fun o k ho _ => hV.2.2.2.1 _ _ (by omega))⟩⟩⟩
                · skip
                  rw [Int32.le_iff_toInt_le] at h165
                  have w4 : (i9 + 1).toInt = i9.toInt + 1 := i32_inc (by omega)
                  refine mv_aload_n (pc := 168) B d_Book_read_1_168 rfl 2 rfl ?_
                  refine mv_getR (pc := 169) (ci := 12) (C := R_Book) (T := F_Book) (N := 65) B 56 rfl rfl (by decide) i_Book (B.2.2.2.1 _ k_1905) rfl (hmt _ 56 _ rfl) d_Book_read_1_169 ?_
                  refine mv_iload (pc := 172) B d_Book_read_1_172 0 rfl ?_
                  refine mv_lconst (pc := 174) (v := 0) B d_Book_read_1_174 (by decide) ?_
                  refine mv_last (pc := 175) B rfl (i32_in r0 (show i9.toInt < 65536 by omega)) d_Book_read_1_175 ?_
                  refine mv_iinc (pc := 176) (j := 0) (v := 1) B d_Book_read_1_176 rfl (by decide) (by decide) rfl ?_
                  refine mv_goto (pc := 179) (tgt := 162) B d_Book_read_1_179 rfl ?_
                  refine mv_lpick [0, 1, 2] rfl ?_
                  exact ih _ _ (hV.sb (Or.inr rfl)) hat (by omega) (by omega)
            refine mv_iconst (pc := 159) (v := 0) B d_Book_read_1_159 (by decide) ?_
            refine mv_istore (pc := 160) B d_Book_read_1_160 (by decide) rfl ?_
            refine mv_lpick [0, 1, 2] rfl ?_
            exact lq _ _ _ hV hat (by decide) (Nat.lt_succ_self _)
          · skip
            rw [Int32.le_iff_toInt_le] at h124
            have e17 : mv_i S 108 17 = mv_i τ 108 17 := hV.1 _ _ id
            rw [e17] at h124
            have hcl := i32_cl q0
            have hme : mv_a S 112 t9.toNatClampNeg = mv_a σ71 112 t9.toNatClampNeg := (hV.2.2.2.1 _ _ (by omega)).trans (hF.2.2.2.1 _ _ id)
            have m1 := csum_mono hg5 t9.toNatClampNeg (by omega)
            have m2 := csum_mono hg5 (t9.toNatClampNeg + 1) (by omega)
            have e1 : csum (mv_a σ71 112) (t9.toNatClampNeg + 1) = csum (mv_a σ71 112) t9.toNatClampNeg + (mv_a σ71 112 t9.toNatClampNeg).toInt := rfl
            rw [← hme] at e1
            have w2 : (t9 + 1).toInt = t9.toInt + 1 := i32_inc (by omega)
            have hcl2 := i32_cl (x := t9 + 1) (by omega)
            have hc3 : (t9 + 1).toNatClampNeg = t9.toNatClampNeg + 1 := by omega
            refine mv_aload_n (pc := 127) B d_Book_read_1_127 rfl 2 rfl ?_
            refine mv_getR (pc := 128) (ci := 12) (C := R_Book) (T := F_Book) (N := 65) B 14 rfl rfl (by decide) i_Book (B.2.2.2.1 _ k_1857) rfl (hmt _ 14 _ rfl) d_Book_read_1_128 ?_
            refine mv_iload (pc := 131) B d_Book_read_1_131 0 rfl ?_
            refine mv_iload_n (pc := 133) B d_Book_read_1_133 rfl 1 rfl ?_
            refine mv_iast (pc := 134) B rfl (i32_in q0 (show t9.toInt < 4100 by omega)) d_Book_read_1_134 ?_
            refine mv_iload_n (pc := 135) B d_Book_read_1_135 rfl 1 rfl ?_
            refine mv_aload_n (pc := 136) B d_Book_read_1_136 rfl 2 rfl ?_
            refine mv_getR (pc := 137) (ci := 12) (C := R_Book) (T := F_Book) (N := 65) B 13 rfl rfl (by decide) i_Book (B.2.2.2.1 _ k_1856) rfl (hmt _ 13 _ rfl) d_Book_read_1_137 ?_
            refine mv_iload (pc := 140) B d_Book_read_1_140 0 rfl ?_
            refine mv_iald (pc := 142) B rfl (i32_in q0 (show t9.toInt < 4100 by omega)) d_Book_read_1_142 ?_
            refine mv_iadd (pc := 143) B d_Book_read_1_143 ?_
            refine mv_topi (fun y143 ey143 => ?_)
            have ey143 : y143 = s9 + mv_a S 112 t9.toNatClampNeg := ey143
            have fy143 := i32_addE ey143 (by (try simp only [Int32.reduceToInt]); omega) (by (try simp only [Int32.reduceToInt]); omega)
            try simp only [Int32.reduceToInt] at fy143
            refine mv_istore_n (pc := 144) B d_Book_read_1_144 rfl (by decide) rfl ?_
            refine mv_aload_n (pc := 145) B d_Book_read_1_145 rfl 2 rfl ?_
            refine mv_getR (pc := 146) (ci := 12) (C := R_Book) (T := F_Book) (N := 65) B 55 rfl rfl (by decide) i_Book (B.2.2.2.1 _ k_1904) rfl (hmt _ 55 _ rfl) d_Book_read_1_146 ?_
            refine mv_iload (pc := 149) B d_Book_read_1_149 1 rfl ?_
            refine mv_lconst (pc := 151) (v := 0) B d_Book_read_1_151 (by decide) ?_
            refine mv_last (pc := 152) B rfl (i32_in q0 (show t9.toInt < 4100 by omega)) d_Book_read_1_152 ?_
            refine mv_iinc (pc := 153) (j := 1) (v := 1) B d_Book_read_1_153 rfl (by decide) (by decide) rfl ?_
            refine mv_goto (pc := 156) (tgt := 118) B d_Book_read_1_156 rfl ?_
            refine mv_lpick [0, 1, 2] rfl ?_
            exact ih _ _ _ ((hV.sa (o := 113) rfl).sb (Or.inl rfl)) (fun j hj => by
              rw [hc3] at hj
              show Int32.toInt (mv_u (mv_a S) 113 t9.toNatClampNeg s9 113 j) = _
              by_cases z : j = t9.toNatClampNeg
              · subst z; rw [mv_u_same]; exact hs9
              · rw [mv_u_ne _ _ (by omega)]; exact hat j (by omega)) (by rw [hc3, e1, ← hs9]; exact fy143) (by omega) (by omega) (by omega)
      refine mv_iconst (pc := 113) (v := 0) B d_Book_read_1_113 (by decide) ?_
      refine mv_istore_n (pc := 114) B d_Book_read_1_114 rfl (by decide) rfl ?_
      refine mv_iconst (pc := 115) (v := 0) B d_Book_read_1_115 (by decide) ?_
      refine mv_istore (pc := 116) B d_Book_read_1_116 (by decide) rfl ?_
      refine mv_lpick [0, 1, 2] rfl ?_
      exact lp _ _ _ _ Fx.rf (fun t ht => absurd ht (Nat.not_lt_zero _)) rfl (by decide) (by show (0 : Int) ≤ _; omega) (Nat.lt_succ_self _)
    · skip
      refine mv_iconst (pc := 111) (v := 0) B d_Book_read_1_111 (by decide) ?_
      exact mv_iret (pc := 112) B hr rfl d_Book_read_1_112 (Nat.le_refl _) (Nat.le_refl _) ⟨_, rfl, (hb.tr hZ.2.2.2.2.2.2).tr hF.bf, Or.inl rfl, Or.inr ⟨rfl, hx9.2 (fun z => h108 (Int32.le_iff_toInt_le.mpr z))⟩⟩
  refine mv_aload_n (pc := 93) B d_Book_read_1_93 rfl 0 rfl ?_
  refine mv_getI (pc := 94) (ci := 12) (C := R_Book) (T := F_Book) (N := 65) B 38 rfl rfl (by decide) i_Book (B.2.2.2.1 _ k_1885) rfl d_Book_read_1_94 ?_
  refine mv_if_ne (pc := 97) (tgt := 104) B d_Book_read_1_97 rfl (fun h97 => ?_) (fun h97 => ?_)
  · skip
    have hx8 := rd_no hS9 hQ9.fa hi38 h97
    refine mv_lpick [0] rfl ?_
    exact j104 _ (by first | exact Fx.rf | exact hF) (by first | exact id | exact fun _ => by rw [h97]; decide) hx8
  · skip
    have hG9 := hZ.C.2.2.2.2.2.2.2.2 (by rw [h97]; decide)
    have hb9 : b9 = true := hQ9.fa.1.mpr (hi38.symm.trans h97)
    subst hb9
    obtain ⟨rg2, hcf, hcg⟩ := rd_cl hQ9
    refine mv_aload_n (pc := 100) B d_Book_read_1_100 rfl 0 rfl ?_
    refine mv_callVv (pc := 101) (n := 0) (ci := 12) (C := R_Book) B (mK_ok sk sv) hNs rfl rfl (mv_C.twov (c_Book_clash_y l hi _ k hmt (hG9.co hZ.C.2.2.2.1 (by omega) (by omega))) (hA.C (ch_Book_clash_y l hi _ (by rw [hr9]; exact hR) hcf))) rfl (ma_goodc kc_Book_clash) (B.2.2.2.1 _ k_2333) (B.2.2.2.1 _ k_2335) (B.2.2.2.1 _ ks_121) (B.2.2.2.1 _ k_13) ⟨by decide +kernel, by decide +kernel, by decide +kernel⟩ rfl d_Book_read_1_101 rfl (Nat.le_of_ble_eq_true rfl) ⟨by decide, by decide⟩ ⟨by decide, by decide⟩ ⟨by decide, by decide⟩ (mt_out htab (by decide)) (fun σ101 h101 => ?_)
    obtain ⟨hF, υ2, ⟨hg2, -⟩, hs2⟩ := h101
    subst hg2
    have hA2 := hs2.ag
    have hx8 := rd_ye (σ := σ71) (g := rg2) hS9 hcg (hA2.i (o := 108) (k := 38) rfl (Nat.le_of_ble_eq_true rfl) rfl) (hQ9.sr.fr (fun k hk => (hF.1 108 k (by omega)).trans (by rcases hk with rfl | rfl | rfl | rfl <;> exact hA.i (o := 108) rfl (Nat.le_of_ble_eq_true rfl) rfl)) (fun i hi => (hF.2.2.2.1 _ _ id).trans (hA.a (o := 118) (n := 4100) rfl (by decide) hi)) (fun i hi => (hF.2.2.2.1 _ _ id).trans (hA.a (o := 121) (n := 32768) rfl (by decide) hi)) (fun o k ho hk => (hF.2.2.2.1 _ _ id).trans (by rcases ho with rfl | rfl | rfl <;> exact hA.a (n := 4100) rfl (by decide) hk)))
    refine mv_lpick [0] rfl ?_
    exact j104 _ (by first | exact Fx.rf | exact hF) (by first | exact id | exact fun _ => by rw [h97]; decide) hx8
