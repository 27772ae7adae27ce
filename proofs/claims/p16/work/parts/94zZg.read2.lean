/-! the reference's read: what it leaves of bodies, fetch, zeros -/
def XBk (B : Nat) (r : SI × LZ × List DnS) (σ : mv_H) : Prop := (r.1.tl.length ≤ 64 ∧ r.1.ops.length ≤ 4000) ∧ FEg B r.1 r.2.1 σ ∧ ZRg B r.1 σ ∧ BDg B r.1 r.2.2 σ 10240
theorem FEg.fr {B : Nat} {s : SI} {lz : LZ} {σ τ : mv_H} (h : FEg B s lz σ) (ei : ∀ k, (k = 18 ∨ k = 21) → mv_i τ B k = mv_i σ B k) : FEg B s lz τ := by
  unfold FEg at h ⊢
  rw [ei 18 (by omega), ei 21 (by omega)]
  exact h
theorem XBk.fr {B : Nat} {r : SI × LZ × List DnS} {σ τ : mv_H} (h : XBk B r σ) (ei : ∀ k, (k = 18 ∨ k = 21) → mv_i τ B k = mv_i σ B k) (ea : ∀ o k, (B + 18 ≤ o ∧ ¬ o = B + 24) → o ≤ B + 25 → k < 10240 → mv_a τ o k = mv_a σ o k) (eb : ∀ k, k < 10240 → mv_b τ (B + 24) k = mv_b σ (B + 24) k) (et : ∀ o k, (o = B + 3 ∨ o = B + 6 ∨ o = B + 7 ∨ o = B + 11) → k < 4100 → mv_a τ o k = mv_a σ o k) : XBk B r τ := by
  obtain ⟨⟨h0, h1⟩, h2, h3, h4, h5⟩ := h
  refine ⟨⟨h0, h1⟩, h2.fr ei, fun i hi => by rw [et (B + 7) i (by omega) (by omega)]; exact h3 i hi, h4, fun o ho => ?_⟩
  rw [et (B + 11) o (by omega) (by omega)]
  refine (h5 o ho).fr ⟨⟨fun k _ hk _ => ?_, fun k _ hk _ => ea _ k (by omega) (by omega) (by omega), fun o k a b => et o k (by omega) (by omega)⟩, fun o k a _ hk => ea o k (by omega) (by omega) hk, fun k _ hk => ea _ k (by omega) (by omega) hk, fun k hk => et _ k (by omega) (by omega)⟩ (Nat.le_refl _)
  exact ⟨ea _ k (by omega) (by omega) hk, ea _ k (by omega) (by omega) hk, ea _ k (by omega) (by omega) hk, ea _ k (by omega) (by omega) hk, ea _ k (by omega) (by omega) hk, eb k hk⟩
theorem XBk.cf {B : Nat} {r : SI × LZ × List DnS} {σ τ : mv_H} (h : XBk B r σ) (f : CF B σ τ) : XBk B r τ := h.fr (fun k hk => f.1 B k (by omega)) (fun o k _ _ _ => f.2.2.2.1 o k id) (fun k _ => by rw [f.2.2.2.2 (B + 24) id]) (fun o k _ _ => f.2.2.2.1 o k id)
theorem XBk.vf {B : Nat} {r : SI × LZ × List DnS} {σ τ : mv_H} (h : XBk B r σ) (f : VF B σ τ) : XBk B r τ := h.fr (fun k hk => f.1 B k id) (fun o k _ _ _ => f.2.2.2.1 o k (by omega)) (fun k _ => by rw [f.2.2.2.2 (B + 24) (by omega)]) (fun o k _ _ => f.2.2.2.1 o k (by omega))
theorem XBk.of {P N : Nat} {T : Nat → Nat} {r : SI × LZ × List DnS} {h : mv_H} {m j : Nat} (G : IGq P N T r.1 r.2.1 r.2.2 h m j) (v : Int64) (j' : Nat) : XBk P r (rB P N h j' v) := by
  obtain ⟨Q, TZ, FE, ZR, B1, B2⟩ := G
  have hl := (Q.ov rfl).l
  have o5 := Q.o5
  have hn10 := Q.n10
  have hj : j ≤ N := Q.hb.gkn Q.gk
  have hm := Q.mj
  have t1 := Q.tr.t1
  have tc := Q.tc rfl
  have X0 : XBk P r h := ⟨⟨by omega, by omega⟩, FE, ZR, B1, fun o ho => (B2 o ho).fr ⟨⟨fun _ _ _ _ => ⟨rfl, rfl, rfl, rfl, rfl, rfl⟩, fun _ _ _ _ => rfl, fun _ _ _ _ => rfl⟩, fun _ _ _ _ _ => rfl, fun _ _ _ => rfl, fun _ _ => rfl⟩ (by omega)⟩
  exact X0.fr (fun k hk => rB_o _ _ (by omega)) (fun _ _ _ _ _ => rfl) (fun _ _ => rfl) (fun _ _ _ _ => rfl)
/-- what read leaves where it says yes: places, zeros, bodies -/
def ZBw (B : Nat) (X : TX) (v : Int32) (σ : mv_H) : Prop := v = 1 → (∀ t : Nat, (t : Int) < (mv_i σ B 17).toInt → (mv_a σ (B + 5) t).toInt = csum (mv_a σ (B + 4)) t ∧ mv_b σ (B + 27) t = 0) ∧ (∀ th i : Nat, (mv_i σ B 17).toInt = th → (i : Int) < csum (mv_a σ (B + 4)) th → mv_b σ (B + 28) i = 0) ∧ ∀ r, tTx X = some r → XBk B r σ
theorem ZBw.of {B th : Nat} {X : TX} {v : Int32} {σ τ S : mv_H} (hF : CF B σ τ) (hV : VF B τ S) (hth : (mv_i τ B 17).toInt = th) (hat : ∀ t, t < th → (mv_a S (B + 5) t).toInt = csum (mv_a σ (B + 4)) t) (h7 : ∀ t, t < th → mv_b S (B + 27) t = 0) (h8 : ∀ i : Nat, (i : Int) < csum (mv_a σ (B + 4)) th → mv_b S (B + 28) i = 0) (hy : ∀ r, tTx X = some r → XBk B r τ) : ZBw B X v S := by
  intro _
  have e4 : mv_a S (B + 4) = mv_a σ (B + 4) := funext fun k => (hV.2.2.2.1 _ _ (by omega)).trans (hF.2.2.2.1 _ _ id)
  have e17 : (mv_i S B 17).toInt = th := by rw [hV.1 _ _ id]; exact hth
  rw [e4]
  refine ⟨fun t ht => ⟨hat t (by omega), h7 t (by omega)⟩, fun th' i h1 h2 => ?_, fun r hr => (hy r hr).vf hV⟩
  have : th' = th := by omega
  subst this
  exact h8 i h2

theorem XBk.ag_x {dA : FieldType → ClassId} {D : va_G} {al : Nat → Nat} {ext : mv_Sh} {r : SI × LZ × List DnS} {σ τ : mv_H} (h : XBk 74 r σ) (hA : mv_ag (mg dA D al ext) τ σ) : XBk 74 r τ :=
  h.fr (fun k hk => by rcases hk with rfl | rfl <;> exact hA.i (o := 74) rfl (Nat.le_of_ble_eq_true rfl) rfl) (fun o k h1 h2 hk => by
    rcases (show o = 74 + 18 ∨ o = 74 + 19 ∨ o = 74 + 20 ∨ o = 74 + 21 ∨ o = 74 + 22 ∨ o = 74 + 23 ∨ o = 74 + 25 by omega) with rfl | rfl | rfl | rfl | rfl | rfl | rfl
    · exact hA.a (n := 33000) rfl (by decide) (by omega)
    · exact hA.a (n := 33000) rfl (by decide) (by omega)
    · exact hA.a (n := 33000) rfl (by decide) (by omega)
    · exact hA.a (n := 33000) rfl (by decide) (by omega)
    · exact hA.a (n := 33000) rfl (by decide) (by omega)
    · exact hA.a (n := 33000) rfl (by decide) (by omega)
    · exact hA.a (n := 33000) rfl (by decide) (by omega)) (fun k hk => hA.b (n := 33000) rfl (by omega)) (fun o k ho hk => by rcases ho with rfl | rfl | rfl | rfl <;> exact hA.a (n := 4100) rfl (by decide) hk)
theorem rd_tz_x {N : Nat} {T : Nat → Nat} {h : mv_H} (Q : T0q 74 N T h) (i18 : mv_i h 74 18 = -1) (i21 : mv_i h 74 21 = -1) : ∃ rv rg, f_Book_text_1 74 h = some (rv, rg) ∧ (rv = none → sTx (txT T N) = none) ∧ (∀ x, rv = some x → ∃ b s m j, sTx (txT T N) = on b (some s) ∧ IQq 74 N T s b rg m j) ∧ ∀ r, tTx (txT T N) = some r → XBk 74 r rg := by
  obtain ⟨rv, rg, e1, e2, e3⟩ := rd_tx_x Q
  refine ⟨rv, rg, e1, e2, e3, fun r hr => ?_⟩
  obtain ⟨x, h', v', m', j', e4, G⟩ := txt_G Q i18 i21 hr
  rw [e1] at e4
  have e5 : rg = rB 74 N h' j' v' := congrArg Prod.snd (Option.some.inj e4)
  rw [e5]
  exact XBk.of G v' j'

theorem XBk.ag_y {dA : FieldType → ClassId} {D : va_G} {al : Nat → Nat} {ext : mv_Sh} {r : SI × LZ × List DnS} {σ τ : mv_H} (h : XBk 108 r σ) (hA : mv_ag (mg dA D al ext) τ σ) : XBk 108 r τ :=
  h.fr (fun k hk => by rcases hk with rfl | rfl <;> exact hA.i (o := 108) rfl (Nat.le_of_ble_eq_true rfl) rfl) (fun o k h1 h2 hk => by
    rcases (show o = 108 + 18 ∨ o = 108 + 19 ∨ o = 108 + 20 ∨ o = 108 + 21 ∨ o = 108 + 22 ∨ o = 108 + 23 ∨ o = 108 + 25 by omega) with rfl | rfl | rfl | rfl | rfl | rfl | rfl
    · exact hA.a (n := 33000) rfl (by decide) (by omega)
    · exact hA.a (n := 33000) rfl (by decide) (by omega)
    · exact hA.a (n := 33000) rfl (by decide) (by omega)
    · exact hA.a (n := 33000) rfl (by decide) (by omega)
    · exact hA.a (n := 33000) rfl (by decide) (by omega)
    · exact hA.a (n := 33000) rfl (by decide) (by omega)
    · exact hA.a (n := 33000) rfl (by decide) (by omega)) (fun k hk => hA.b (n := 33000) rfl (by omega)) (fun o k ho hk => by rcases ho with rfl | rfl | rfl | rfl <;> exact hA.a (n := 4100) rfl (by decide) hk)
theorem rd_tz_y {N : Nat} {T : Nat → Nat} {h : mv_H} (Q : T0q 108 N T h) (i18 : mv_i h 108 18 = -1) (i21 : mv_i h 108 21 = -1) : ∃ rv rg, f_Book_text_1 108 h = some (rv, rg) ∧ (rv = none → sTx (txT T N) = none) ∧ (∀ x, rv = some x → ∃ b s m j, sTx (txT T N) = on b (some s) ∧ IQq 108 N T s b rg m j) ∧ ∀ r, tTx (txT T N) = some r → XBk 108 r rg := by
  obtain ⟨rv, rg, e1, e2, e3⟩ := rd_tx_y Q
  refine ⟨rv, rg, e1, e2, e3, fun r hr => ?_⟩
  obtain ⟨x, h', v', m', j', e4, G⟩ := txt_G Q i18 i21 hr
  rw [e1] at e4
  have e5 : rg = rB 108 N h' j' v' := congrArg Prod.snd (Option.some.inj e4)
  rw [e5]
  exact XBk.of G v' j'

set_option maxHeartbeats 4000000 in
set_option maxRecDepth 100000 in
theorem c_kz_Book_read_1_x (l : Launch) {dA : FieldType → ClassId} {D : va_G} {al : Nat → Nat} {ext : mv_Sh} {sk sv : Nat → Nat} (hi : mv_inj (mg dA D al ext)) (σ : mv_H) (n9 : Int32) (len : Nat) (hn9 : n9.toInt = len) (hl : len ≤ 10240) (hmr : mh (mv_r σ)) (hb7 : byt7 σ) : mv_C l y_Book_read_1 (Cond.codeWith y_Book_read_1 b_Book_read_1 5 (Option.some Jvm.ClassFile.FieldType.boolean) [((70 : Nat), (74 : Nat), (77 : Nat), (7 : Nat))] :: ma) ({ frames := 1084, cells := 0, slots := 0, locals := 65155 }) (mg dA D al ext) (mK sk sv) [.ref (al 74), .ref (al 71), .int n9] σ (mv_Ri (fun v σ1 => BF 74 (mv_sr σ 74 1 (some 71)) σ1 ∧ (v = 0 ∨ (v = 1 ∧ BG 74 σ1)) ∧ XRw 74 (txT (ck σ len) len) v σ1 ∧ ZBw 74 (txT (ck σ len) len) v σ1)) := by
  refine mv_C.ofVW (cc := b_Book_read_1) (nL := 5) (ret := (Option.some Jvm.ClassFile.FieldType.boolean)) (hh := [((70 : Nat), (74 : Nat), (77 : Nat), (7 : Nat))]) (by decide +kernel) rfl hi (Nat.le_of_ble_eq_true rfl) ?_
  intro p e s m below meth c B hNs hr hnm htab
  refine mv_aload_n (pc := 0) B d_Book_read_1_0 rfl 0 rfl ?_
  refine mv_aload_n (pc := 1) B d_Book_read_1_1 rfl 1 rfl ?_
  refine mv_putR (pc := 2) (ci := 12) (C := R_Book) (T := F_Book) (N := 65) B 1 rfl rfl (by decide) i_Book t_Book_ok n_Book (B.2.2.2.1 _ k_1844) rfl rfl d_Book_read_1_2 ?_
  refine mv_aload_n (pc := 5) B d_Book_read_1_5 rfl 0 rfl ?_
  refine mv_iload_n (pc := 6) B d_Book_read_1_6 rfl 2 rfl ?_
  refine mv_putI (pc := 7) (ci := 12) (C := R_Book) (T := F_Book) (N := 65) B 2 rfl rfl (by decide) i_Book t_Book_ok n_Book (B.2.2.2.1 _ k_1845) rfl rfl rfl rfl d_Book_read_1_7 ?_
  refine mv_aload_n (pc := 10) B d_Book_read_1_10 rfl 0 rfl ?_
  refine mv_iconst (pc := 11) (v := 0) B d_Book_read_1_11 (by decide) ?_
  refine mv_putI (pc := 12) (ci := 12) (C := R_Book) (T := F_Book) (N := 65) B 48 rfl rfl (by decide) i_Book t_Book_ok n_Book (B.2.2.2.1 _ k_1897) rfl rfl rfl rfl d_Book_read_1_12 ?_
  refine mv_aload_n (pc := 15) B d_Book_read_1_15 rfl 0 rfl ?_
  refine mv_iconst (pc := 16) (v := 0) B d_Book_read_1_16 (by decide) ?_
  refine mv_putI (pc := 17) (ci := 12) (C := R_Book) (T := F_Book) (N := 65) B 17 rfl rfl (by decide) i_Book t_Book_ok n_Book (B.2.2.2.1 _ k_1860) rfl rfl rfl rfl d_Book_read_1_17 ?_
  refine mv_aload_n (pc := 20) B d_Book_read_1_20 rfl 0 rfl ?_
  refine mv_iconst (pc := 21) (v := 0) B d_Book_read_1_21 (by decide) ?_
  refine mv_putI (pc := 22) (ci := 12) (C := R_Book) (T := F_Book) (N := 65) B 19 rfl rfl (by decide) i_Book t_Book_ok n_Book (B.2.2.2.1 _ k_1864) rfl rfl rfl rfl d_Book_read_1_22 ?_
  refine mv_aload_n (pc := 25) B d_Book_read_1_25 rfl 0 rfl ?_
  refine mv_iconst (pc := 26) (v := -1) B d_Book_read_1_26 (by decide) ?_
  refine mv_putI (pc := 27) (ci := 12) (C := R_Book) (T := F_Book) (N := 65) B 18 rfl rfl (by decide) i_Book t_Book_ok n_Book (B.2.2.2.1 _ k_1862) rfl rfl rfl rfl d_Book_read_1_27 ?_
  refine mv_aload_n (pc := 30) B d_Book_read_1_30 rfl 0 rfl ?_
  refine mv_iconst (pc := 31) (v := -1) B d_Book_read_1_31 (by decide) ?_
  refine mv_putI (pc := 32) (ci := 12) (C := R_Book) (T := F_Book) (N := 65) B 21 rfl rfl (by decide) i_Book t_Book_ok n_Book (B.2.2.2.1 _ k_1866) rfl rfl rfl rfl d_Book_read_1_32 ?_
  refine mv_aload_n (pc := 35) B d_Book_read_1_35 rfl 0 rfl ?_
  refine mv_iconst (pc := 36) (v := 0) B d_Book_read_1_36 (by decide) ?_
  refine mv_putI (pc := 37) (ci := 12) (C := R_Book) (T := F_Book) (N := 65) B 22 rfl rfl (by decide) i_Book t_Book_ok n_Book (B.2.2.2.1 _ k_1867) rfl rfl rfl rfl d_Book_read_1_37 ?_
  refine mv_aload_n (pc := 40) B d_Book_read_1_40 rfl 0 rfl ?_
  refine mv_iconst (pc := 41) (v := 0) B d_Book_read_1_41 (by decide) ?_
  refine mv_putI (pc := 42) (ci := 12) (C := R_Book) (T := F_Book) (N := 65) B 29 rfl rfl (by decide) i_Book t_Book_ok n_Book (B.2.2.2.1 _ k_1874) rfl rfl rfl rfl d_Book_read_1_42 ?_
  refine mv_aload_n (pc := 45) B d_Book_read_1_45 rfl 0 rfl ?_
  refine mv_iconst (pc := 46) (v := 0) B d_Book_read_1_46 (by decide) ?_
  refine mv_putI (pc := 47) (ci := 12) (C := R_Book) (T := F_Book) (N := 65) B 51 rfl rfl (by decide) i_Book t_Book_ok n_Book (B.2.2.2.1 _ k_1900) rfl rfl rfl rfl d_Book_read_1_47 ?_
  refine mv_aload_n (pc := 50) B d_Book_read_1_50 rfl 0 rfl ?_
  refine mv_iconst (pc := 51) (v := 0) B d_Book_read_1_51 (by decide) ?_
  refine mv_putI (pc := 52) (ci := 12) (C := R_Book) (T := F_Book) (N := 65) B 30 rfl rfl (by decide) i_Book t_Book_ok n_Book (B.2.2.2.1 _ k_1876) rfl rfl rfl rfl d_Book_read_1_52 ?_
  refine mv_aload_n (pc := 55) B d_Book_read_1_55 rfl 0 rfl ?_
  refine mv_iconst (pc := 56) (v := -1) B d_Book_read_1_56 (by decide) ?_
  refine mv_putI (pc := 57) (ci := 12) (C := R_Book) (T := F_Book) (N := 65) B 37 rfl rfl (by decide) i_Book t_Book_ok n_Book (B.2.2.2.1 _ k_1883) rfl rfl rfl rfl d_Book_read_1_57 ?_
  refine mv_aload_n (pc := 60) B d_Book_read_1_60 rfl 0 rfl ?_
  refine mv_iconst (pc := 61) (v := 0) B d_Book_read_1_61 (by decide) ?_
  refine mv_putI (pc := 62) (ci := 12) (C := R_Book) (T := F_Book) (N := 65) B 38 rfl rfl (by decide) i_Book t_Book_ok n_Book (B.2.2.2.1 _ k_1885) rfl rfl rfl rfl d_Book_read_1_62 ?_
  refine mv_aload_n (pc := 65) B d_Book_read_1_65 rfl 0 rfl ?_
  refine mv_iconst (pc := 66) (v := -1) B d_Book_read_1_66 (by decide) ?_
  refine mv_putI (pc := 67) (ci := 12) (C := R_Book) (T := F_Book) (N := 65) B 39 rfl rfl (by decide) i_Book t_Book_ok n_Book (B.2.2.2.1 _ k_1888) rfl rfl rfl rfl d_Book_read_1_67 ?_
  refine mv_gen (fun S70 eS70 => ?_)
  have hmS : mh (mv_r S70) := by rw [eS70]; exact hmr.sr (o := 74) (k := 1) (v := some 71) rfl
  have hR : Br 74 (mv_r S70) := ⟨hmS, by rw [eS70]; rfl⟩
  have hz : (mv_i S70 74 2).toInt = len := by rw [eS70]; exact hn9
  have k17 : mv_i S70 74 17 = 0 := by rw [eS70]; rfl
  have k48 : mv_i S70 74 48 = 0 := by rw [eS70]; rfl
  have k29 : mv_i S70 74 29 = 0 := by rw [eS70]; rfl
  have k51 : mv_i S70 74 51 = 0 := by rw [eS70]; rfl
  have k19 : mv_i S70 74 19 = 0 := by rw [eS70]; rfl
  have k18 : mv_i S70 74 18 = -1 := by rw [eS70]; rfl
  have k21 : mv_i S70 74 21 = -1 := by rw [eS70]; rfl
  have k38 : mv_i S70 74 38 = 0 := by rw [eS70]; rfl
  have k22 : mv_i S70 74 22 = 0 := by rw [eS70]; rfl
  have hb : BF 74 (mv_sr σ 74 1 (some 71)) S70 := by rw [eS70]; exact (((((((((((((BF.rf.si ⟨by omega, by omega⟩).si ⟨by omega, by omega⟩).si ⟨by omega, by omega⟩).si ⟨by omega, by omega⟩).si ⟨by omega, by omega⟩).si ⟨by omega, by omega⟩).si ⟨by omega, by omega⟩).si ⟨by omega, by omega⟩).si ⟨by omega, by omega⟩).si ⟨by omega, by omega⟩).si ⟨by omega, by omega⟩).si ⟨by omega, by omega⟩).si ⟨by omega, by omega⟩)
  have ec70 : ck S70 len = ck σ len := by rw [eS70]; rfl
  have eb70 : byt7 S70 := by rw [eS70]; exact hb7
  obtain ⟨rv, rg, hf, hf0, hf1, hf2⟩ := rd_tz_x (N := len) (T := ck σ len) (h := S70) ⟨hz, hl, ec70, by decide, eb70, k38, k48, k17, k19, k22, k29, k51⟩ k18 k21
  clear eS70
  refine mv_aload_n (pc := 70) B d_Book_read_1_70 rfl 0 rfl ?_
  refine mv_callVCUv (pc := 71) (n := 0) (ci := 12) (C := R_Book) B (mK_ok sk sv) hNs rfl rfl (k_Book_text_1_x l hi _ len hR hz hl k17 k48 k29 k51 k19 k18 hf) rfl (ma_goodc kc_Book_text_1) (B.2.2.2.1 _ k_2110) (B.2.2.2.1 _ k_2112) (B.2.2.2.1 _ ks_79) (B.2.2.2.1 _ k_13) ⟨by decide +kernel, by decide +kernel, by decide +kernel⟩ rfl d_Book_read_1_71 rfl (Nat.le_of_ble_eq_true rfl) ⟨by decide, by decide⟩ ⟨by decide, by decide⟩  ?_ ?_
  · skip
    intro σ71 g71
    obtain ⟨g71, υ, ⟨hv9, -, -⟩, -⟩ := g71
    have hS9 := hf0 hv9
    refine ⟨77, mt_H.one B.2.2.1 htab (by decide) (by decide) (by decide) (B.2.2.2.1 _ k_1822) (mt_cast (B.2.2.2.1 _ k_1823)), ?_⟩
    refine mv_astore_n (pc := 77) B d_Book_read_1_77 rfl (by decide) rfl ?_
    refine mv_aload_n (pc := 78) B d_Book_read_1_78 rfl 1 rfl ?_
    refine mv_aload_n (pc := 79) B d_Book_read_1_79 rfl 0 rfl ?_
    refine mv_getI (pc := 80) (ci := 13) (C := R_Wrong) (T := F_Wrong) (N := 1) B 0 rfl rfl (by decide) i_Wrong (B.2.2.2.1 _ k_1835) rfl d_Book_read_1_80 ?_
    refine mv_putI (pc := 83) (ci := 12) (C := R_Book) (T := F_Book) (N := 65) B 37 rfl rfl (by decide) i_Book t_Book_ok n_Book (B.2.2.2.1 _ k_1883) rfl rfl rfl rfl d_Book_read_1_83 ?_
    refine mv_aload_n (pc := 86) B d_Book_read_1_86 rfl 1 rfl ?_
    refine mv_iconst (pc := 87) (v := 1) B d_Book_read_1_87 (by decide) ?_
    refine mv_putI (pc := 88) (ci := 12) (C := R_Book) (T := F_Book) (N := 65) B 38 rfl rfl (by decide) i_Book t_Book_ok n_Book (B.2.2.2.1 _ k_1885) rfl rfl rfl rfl d_Book_read_1_88 ?_
    refine mv_iconst (pc := 91) (v := 0) B d_Book_read_1_91 (by decide) ?_
    exact mv_iret (pc := 92) B hr rfl d_Book_read_1_92 (Nat.le_refl _) (Nat.le_refl _) ⟨_, rfl, ((hb.tr g71).si ⟨by omega, by omega⟩).si ⟨by omega, by omega⟩, Or.inl rfl, Or.inr ⟨rfl, sOK_n hS9⟩, fun w => absurd w (by decide)⟩
  intro σ71 h71
  obtain ⟨h71, υ, ⟨hv9, hg9, hr9⟩, hs9⟩ := h71
  have hA := hs9.ag
  obtain ⟨b9, s9, m9, j9, hS9, hQ9⟩ := hf1 _ hv9
  subst hg9
  have hy8 := fun r hr => (hf2 r hr).ag_x hA
  have hi38 : mv_i σ71 74 38 = mv_i rg 74 38 := hA.i (o := 74) (k := 38) rfl (Nat.le_of_ble_eq_true rfl) rfl
  obtain ⟨th, n, k, cb, c1, c2, hZ⟩ := h71
  have hL := hZ.le
  have hmt : mh (mv_r σ71) := hZ.1.1.2.1.1
  refine mv_goto (pc := 74) (tgt := 93) B d_Book_read_1_74 rfl ?_
  have j104 : ∀ (τ : mv_H) (hF : CF 74 σ71 τ) (hz9 : (mv_i τ 74 38).toInt ≤ 0 → (mv_i σ71 74 38).toInt ≤ 0) (hx9 : XJ 74 (txT (ck σ len) len) τ) (hy9 : ∀ r, tTx (txT (ck σ len) len) = some r → XBk 74 r τ), mv_V p l e ({ frames := 1084, cells := 0, slots := 0, locals := 65155 }) s m ([.ref (al 74), .ref (al 71), .int n9] : List Value).toArray below meth c (mg dA D al ext) 5 0 0 (mv_Q (mg dA D al ext) below s 0 0 (mv_Ri (fun v σ1 => BF 74 (mv_sr σ 74 1 (some 71)) σ1 ∧ (v = 0 ∨ (v = 1 ∧ BG 74 σ1)) ∧ XRw 74 (txT (ck σ len) len) v σ1 ∧ ZBw 74 (txT (ck σ len) len) v σ1))) τ 104 [(0, .ref (al 74))] [] := by
    intro τ hF hz9 hx9 hy9
    have hmt : mh (mv_r τ) := by rw [hF.2.2.1]; exact hmt
    have hmq := hmt
    refine mv_aload_n (pc := 104) B d_Book_read_1_104 rfl 0 rfl ?_
    refine mv_getI (pc := 105) (ci := 12) (C := R_Book) (T := F_Book) (N := 65) B 38 rfl rfl (by decide) i_Book (B.2.2.2.1 _ k_1885) rfl d_Book_read_1_105 ?_
    refine mv_if_le (pc := 108) (tgt := 113) B d_Book_read_1_108 rfl (fun h108 => ?_) (fun h108 => ?_)
    · skip
      have hG9 := hZ.C.2.2.2.2.2.2.2.2 (hz9 (Int32.le_iff_toInt_le.mp h108))
      have hcm : csum (mv_a σ71 78) th = (mv_i σ71 74 19).toInt := hG9.2.2.2.1
      have hg5 : ∀ t, t < th → 0 ≤ (mv_a σ71 78 t).toInt := fun t ht => (hG9.2.2.2.2 t ht).1
      have hcc := hZ.C.2.2.2.2.2.2.1
      have hthr : (mv_i τ 74 17).toInt = th := by rw [hF.1 _ _ (by omega)]; exact hZ.C.2.1
      have lp : ∀ (nn : Nat) (S : mv_H) (t9 : Int32) (s9 : Int32) (hV : VF 74 τ S) (hat : ∀ t, t < t9.toNatClampNeg → (mv_a S 79 t).toInt = csum (mv_a σ71 78) t) (hv7 : ∀ t, t < t9.toNatClampNeg → mv_b S 101 t = 0) (hs9 : s9.toInt = csum (mv_a σ71 78) t9.toNatClampNeg) (q0 : 0 ≤ t9.toInt) (q1 : t9.toInt ≤ th), (20000 - t9.toInt).toNat < nn → mv_V p l e ({ frames := 1084, cells := 0, slots := 0, locals := 65155 }) s m ([.ref (al 74), .ref (al 71), .int n9] : List Value).toArray below meth c (mg dA D al ext) 5 0 0 (mv_Q (mg dA D al ext) below s 0 0 (mv_Ri (fun v σ1 => BF 74 (mv_sr σ 74 1 (some 71)) σ1 ∧ (v = 0 ∨ (v = 1 ∧ BG 74 σ1)) ∧ XRw 74 (txT (ck σ len) len) v σ1 ∧ ZBw 74 (txT (ck σ len) len) v σ1))) S 118 [(4, .int t9), (3, .int s9), (0, .ref (al 74))] [] := by
        intro nn
        induction nn with
        | zero => intro S t9 s9 hV hat hv7 hs9 q0 q1 hm; exact absurd hm (Nat.not_lt_zero _)
        | succ nn ih =>
          intro S t9 s9 hV hat hv7 hs9 q0 q1 hm
          have hmt : mh (mv_r S) := by rw [hV.2.2.1]; exact hmq
          refine mv_iload (pc := 118) B d_Book_read_1_118 0 rfl ?_
          refine mv_aload_n (pc := 120) B d_Book_read_1_120 rfl 2 rfl ?_
          refine mv_getI (pc := 121) (ci := 12) (C := R_Book) (T := F_Book) (N := 65) B 17 rfl rfl (by decide) i_Book (B.2.2.2.1 _ k_1860) rfl d_Book_read_1_121 ?_
          refine mv_icmp_ge (pc := 124) (tgt := 159) B d_Book_read_1_124 rfl (fun h124 => ?_) (fun h124 => ?_)
          · skip
            rw [Int32.le_iff_toInt_le] at h124
            have e17 : mv_i S 74 17 = mv_i τ 74 17 := hV.1 _ _ id
            rw [e17] at h124
            have hcl := i32_cl q0
            have hte : t9.toNatClampNeg = th := by omega
            rw [hte] at hat hs9 hv7
            have lq : ∀ (nn : Nat) (S : mv_H) (i9 : Int32) (hV : VF 74 τ S) (hat : ∀ t, t < th → (mv_a S 79 t).toInt = csum (mv_a σ71 78) t) (hv7 : ∀ t, t < th → mv_b S 101 t = 0) (hv8 : ∀ i, i < i9.toNatClampNeg → mv_b S 102 i = 0) (r0 : 0 ≤ i9.toInt), (70000 - i9.toInt).toNat < nn → mv_V p l e ({ frames := 1084, cells := 0, slots := 0, locals := 65155 }) s m ([.ref (al 74), .ref (al 71), .int n9] : List Value).toArray below meth c (mg dA D al ext) 5 0 0 (mv_Q (mg dA D al ext) below s 0 0 (mv_Ri (fun v σ1 => BF 74 (mv_sr σ 74 1 (some 71)) σ1 ∧ (v = 0 ∨ (v = 1 ∧ BG 74 σ1)) ∧ XRw 74 (txT (ck σ len) len) v σ1 ∧ ZBw 74 (txT (ck σ len) len) v σ1))) S 162 [(4, .int i9), (3, .int s9), (0, .ref (al 74))] [] := by
              intro nn
              induction nn with
              | zero => intro S i9 hV hat hv7 hv8 r0 hm; exact absurd hm (Nat.not_lt_zero _)
              | succ nn ih =>
                intro S i9 hV hat hv7 hv8 r0 hm
                have hmt : mh (mv_r S) := by rw [hV.2.2.1]; exact hmq
                refine mv_iload (pc := 162) B d_Book_read_1_162 0 rfl ?_
                refine mv_iload_n (pc := 164) B d_Book_read_1_164 rfl 1 rfl ?_
                refine mv_icmp_ge (pc := 165) (tgt := 182) B d_Book_read_1_165 rfl (fun h165 => ?_) (fun h165 => ?_)
                · skip
                  rw [Int32.le_iff_toInt_le] at h165
                  have hcl6 := i32_cl r0
                  have hv9 : ∀ i : Nat, (i : Int) < csum (mv_a σ71 78) th → mv_b S 102 i = 0 := fun i hi => hv8 i (by omega)
                  refine mv_iconst (pc := 182) (v := 1) B d_Book_read_1_182 (by decide) ?_
                  exact mv_iret (pc := 183) B hr rfl d_Book_read_1_183 (Nat.le_refl _) (Nat.le_refl _) ⟨_, rfl, ((hb.tr hZ.2.2.2.2.2.2).tr hF.bf).tr hV.bf, Or.inr ⟨rfl, BG.of hZ hG9 hF hV hat⟩, Or.inl ⟨rfl, by obtain ⟨s8, a8, b8⟩ := hx9.1 (Int32.le_iff_toInt_le.mp h108); exact ⟨s8, a8, b8.fr (fun k _ => hV.1 _ _ id) (fun i _ => hV.2.2.2.1 _ _ (by omega)) (fun i _ => hV.2.2.2.1 _ _ (by omega)) (fun o k ho _ => hV.2.2.2.1 _ _ (by omega))⟩⟩, ZBw.of hF hV hthr hat hv7 hv9 hy9⟩
                · skip
                  rw [Int32.le_iff_toInt_le] at h165
                  have w4 : (i9 + 1).toInt = i9.toInt + 1 := i32_inc (by omega)
                  have hcl6 := i32_cl r0
                  have hcl7 := i32_cl (x := i9 + 1) (by omega)
                  have hc5 : (i9 + 1).toNatClampNeg = i9.toNatClampNeg + 1 := by omega
                  refine mv_aload_n (pc := 168) B d_Book_read_1_168 rfl 2 rfl ?_
                  refine mv_getR (pc := 169) (ci := 12) (C := R_Book) (T := F_Book) (N := 65) B 56 rfl rfl (by decide) i_Book (B.2.2.2.1 _ k_1905) rfl (hmt _ 56 _ rfl) d_Book_read_1_169 ?_
                  refine mv_iload (pc := 172) B d_Book_read_1_172 0 rfl ?_
                  refine mv_lconst (pc := 174) (v := 0) B d_Book_read_1_174 (by decide) ?_
                  refine mv_last (pc := 175) B rfl (i32_in r0 (show i9.toInt < 65536 by omega)) d_Book_read_1_175 ?_
                  refine mv_iinc (pc := 176) (j := 0) (v := 1) B d_Book_read_1_176 rfl (by decide) (by decide) rfl ?_
                  refine mv_goto (pc := 179) (tgt := 162) B d_Book_read_1_179 rfl ?_
                  refine mv_lpick [0, 1, 2] rfl ?_
                  exact ih _ _ (hV.sb (Or.inr rfl)) hat (fun t ht => (sbn9 _ _ (by omega)).trans (hv7 t ht)) (fun j hj => by
                    rw [hc5] at hj
                    show mv_u (mv_b S) 102 i9.toNatClampNeg 0 102 j = 0
                    by_cases z : j = i9.toNatClampNeg
                    · subst z; rw [mv_u_same]
                    · rw [mv_u_ne _ _ (by omega)]; exact hv8 j (by omega)) (by omega) (by omega)
            refine mv_iconst (pc := 159) (v := 0) B d_Book_read_1_159 (by decide) ?_
            refine mv_istore (pc := 160) B d_Book_read_1_160 (by decide) rfl ?_
            refine mv_lpick [0, 1, 2] rfl ?_
            exact lq _ _ _ hV hat hv7 (fun i hi => absurd hi (Nat.not_lt_zero _)) (by decide) (Nat.lt_succ_self _)
          · skip
            rw [Int32.le_iff_toInt_le] at h124
            have e17 : mv_i S 74 17 = mv_i τ 74 17 := hV.1 _ _ id
            rw [e17] at h124
            have hcl := i32_cl q0
            have hme : mv_a S 78 t9.toNatClampNeg = mv_a σ71 78 t9.toNatClampNeg := (hV.2.2.2.1 _ _ (by omega)).trans (hF.2.2.2.1 _ _ id)
            have m1 := csum_mono hg5 t9.toNatClampNeg (by omega)
            have m2 := csum_mono hg5 (t9.toNatClampNeg + 1) (by omega)
            have e1 : csum (mv_a σ71 78) (t9.toNatClampNeg + 1) = csum (mv_a σ71 78) t9.toNatClampNeg + (mv_a σ71 78 t9.toNatClampNeg).toInt := rfl
            rw [← hme] at e1
            have w2 : (t9 + 1).toInt = t9.toInt + 1 := i32_inc (by omega)
            have hcl2 := i32_cl (x := t9 + 1) (by omega)
            have hc3 : (t9 + 1).toNatClampNeg = t9.toNatClampNeg + 1 := by omega
            refine mv_aload_n (pc := 127) B d_Book_read_1_127 rfl 2 rfl ?_
            refine mv_getR (pc := 128) (ci := 12) (C := R_Book) (T := F_Book) (N := 65) B 14 rfl rfl (by decide) i_Book (B.2.2.2.1 _ k_1857) rfl (hmt _ 14 _ rfl) d_Book_read_1_128 ?_
            refine mv_iload (pc := 131) B d_Book_read_1_131 0 rfl ?_
            refine mv_iload_n (pc := 133) B d_Book_read_1_133 rfl 1 rfl ?_
            refine mv_iast (pc := 134) B rfl (i32_in q0 (show t9.toInt < 4100 by omega)) d_Book_read_1_134 ?_
            refine mv_iload_n (pc := 135) B d_Book_read_1_135 rfl 1 rfl ?_
            refine mv_aload_n (pc := 136) B d_Book_read_1_136 rfl 2 rfl ?_
            refine mv_getR (pc := 137) (ci := 12) (C := R_Book) (T := F_Book) (N := 65) B 13 rfl rfl (by decide) i_Book (B.2.2.2.1 _ k_1856) rfl (hmt _ 13 _ rfl) d_Book_read_1_137 ?_
            refine mv_iload (pc := 140) B d_Book_read_1_140 0 rfl ?_
            refine mv_iald (pc := 142) B rfl (i32_in q0 (show t9.toInt < 4100 by omega)) d_Book_read_1_142 ?_
            refine mv_iadd (pc := 143) B d_Book_read_1_143 ?_
            refine mv_topi (fun y143 ey143 => ?_)
            have ey143 : y143 = s9 + mv_a S 78 t9.toNatClampNeg := ey143
            have fy143 := i32_addE ey143 (by (try simp only [Int32.reduceToInt]); omega) (by (try simp only [Int32.reduceToInt]); omega)
            try simp only [Int32.reduceToInt] at fy143
            refine mv_istore_n (pc := 144) B d_Book_read_1_144 rfl (by decide) rfl ?_
            refine mv_aload_n (pc := 145) B d_Book_read_1_145 rfl 2 rfl ?_
            refine mv_getR (pc := 146) (ci := 12) (C := R_Book) (T := F_Book) (N := 65) B 55 rfl rfl (by decide) i_Book (B.2.2.2.1 _ k_1904) rfl (hmt _ 55 _ rfl) d_Book_read_1_146 ?_
            refine mv_iload (pc := 149) B d_Book_read_1_149 1 rfl ?_
            refine mv_lconst (pc := 151) (v := 0) B d_Book_read_1_151 (by decide) ?_
            refine mv_last (pc := 152) B rfl (i32_in q0 (show t9.toInt < 4100 by omega)) d_Book_read_1_152 ?_
            refine mv_iinc (pc := 153) (j := 1) (v := 1) B d_Book_read_1_153 rfl (by decide) (by decide) rfl ?_
            refine mv_goto (pc := 156) (tgt := 118) B d_Book_read_1_156 rfl ?_
            refine mv_lpick [0, 1, 2] rfl ?_
            exact ih _ _ _ ((hV.sa (o := 79) rfl).sb (Or.inl rfl)) (fun j hj => by
              rw [hc3] at hj
              show Int32.toInt (mv_u (mv_a S) 79 t9.toNatClampNeg s9 79 j) = _
              by_cases z : j = t9.toNatClampNeg
              · subst z; rw [mv_u_same]; exact hs9
              · rw [mv_u_ne _ _ (by omega)]; exact hat j (by omega)) (fun j hj => by
              rw [hc3] at hj
              show mv_u (mv_b S) 101 t9.toNatClampNeg 0 101 j = 0
              by_cases z : j = t9.toNatClampNeg
              · subst z; rw [mv_u_same]
              · rw [mv_u_ne _ _ (by omega)]; exact hv7 j (by omega)) (by rw [hc3, e1, ← hs9]; exact fy143) (by omega) (by omega) (by omega)
      refine mv_iconst (pc := 113) (v := 0) B d_Book_read_1_113 (by decide) ?_
      refine mv_istore_n (pc := 114) B d_Book_read_1_114 rfl (by decide) rfl ?_
      refine mv_iconst (pc := 115) (v := 0) B d_Book_read_1_115 (by decide) ?_
      refine mv_istore (pc := 116) B d_Book_read_1_116 (by decide) rfl ?_
      refine mv_lpick [0, 1, 2] rfl ?_
      exact lp _ _ _ _ Fx.rf (fun t ht => absurd ht (Nat.not_lt_zero _)) (fun t ht => absurd ht (Nat.not_lt_zero _)) rfl (by decide) (by show (0 : Int) ≤ _; omega) (Nat.lt_succ_self _)
    · skip
      refine mv_iconst (pc := 111) (v := 0) B d_Book_read_1_111 (by decide) ?_
      exact mv_iret (pc := 112) B hr rfl d_Book_read_1_112 (Nat.le_refl _) (Nat.le_refl _) ⟨_, rfl, (hb.tr hZ.2.2.2.2.2.2).tr hF.bf, Or.inl rfl, Or.inr ⟨rfl, hx9.2 (fun z => h108 (Int32.le_iff_toInt_le.mpr z))⟩, fun w => absurd w (by decide)⟩
  refine mv_aload_n (pc := 93) B d_Book_read_1_93 rfl 0 rfl ?_
  refine mv_getI (pc := 94) (ci := 12) (C := R_Book) (T := F_Book) (N := 65) B 38 rfl rfl (by decide) i_Book (B.2.2.2.1 _ k_1885) rfl d_Book_read_1_94 ?_
  refine mv_if_ne (pc := 97) (tgt := 104) B d_Book_read_1_97 rfl (fun h97 => ?_) (fun h97 => ?_)
  · skip
    have hx8 := rd_no hS9 hQ9.fa hi38 h97
    refine mv_lpick [0] rfl ?_
    exact j104 _ (by first | exact Fx.rf | exact hF) (by first | exact id | exact fun _ => by rw [h97]; decide) hx8 (by first | exact hy8 | exact fun r hr => (hy8 r hr).cf hF)
  · skip
    have hG9 := hZ.C.2.2.2.2.2.2.2.2 (by rw [h97]; decide)
    have hb9 : b9 = true := hQ9.fa.1.mpr (hi38.symm.trans h97)
    subst hb9
    obtain ⟨rg2, hcf, hcg⟩ := rd_cl hQ9
    refine mv_aload_n (pc := 100) B d_Book_read_1_100 rfl 0 rfl ?_
    refine mv_callVv (pc := 101) (n := 0) (ci := 12) (C := R_Book) B (mK_ok sk sv) hNs rfl rfl (mv_C.twov (c_Book_clash_x l hi _ k hmt (hG9.co hZ.C.2.2.2.1 (by omega) (by omega))) (hA.C (ch_Book_clash_x l hi _ (by rw [hr9]; exact hR) hcf))) rfl (ma_goodc kc_Book_clash) (B.2.2.2.1 _ k_2333) (B.2.2.2.1 _ k_2335) (B.2.2.2.1 _ ks_121) (B.2.2.2.1 _ k_13) ⟨by decide +kernel, by decide +kernel, by decide +kernel⟩ rfl d_Book_read_1_101 rfl (Nat.le_of_ble_eq_true rfl) ⟨by decide, by decide⟩ ⟨by decide, by decide⟩ ⟨by decide, by decide⟩ (mt_out htab (by decide)) (fun σ101 h101 => ?_)
    obtain ⟨hF, υ2, ⟨hg2, -⟩, hs2⟩ := h101
    subst hg2
    have hA2 := hs2.ag
    have hx8 := rd_ye (σ := σ71) (g := rg2) hS9 hcg (hA2.i (o := 74) (k := 38) rfl (Nat.le_of_ble_eq_true rfl) rfl) (hQ9.sr.fr (fun k hk => (hF.1 74 k (by omega)).trans (by rcases hk with rfl | rfl | rfl | rfl <;> exact hA.i (o := 74) rfl (Nat.le_of_ble_eq_true rfl) rfl)) (fun i hi => (hF.2.2.2.1 _ _ id).trans (hA.a (o := 84) (n := 4100) rfl (by decide) hi)) (fun i hi => (hF.2.2.2.1 _ _ id).trans (hA.a (o := 87) (n := 32768) rfl (by decide) hi)) (fun o k ho hk => (hF.2.2.2.1 _ _ id).trans (by rcases ho with rfl | rfl | rfl <;> exact hA.a (n := 4100) rfl (by decide) hk)))
    refine mv_lpick [0] rfl ?_
    exact j104 _ (by first | exact Fx.rf | exact hF) (by first | exact id | exact fun _ => by rw [h97]; decide) hx8 (by first | exact hy8 | exact fun r hr => (hy8 r hr).cf hF)
set_option maxHeartbeats 4000000 in
set_option maxRecDepth 100000 in
theorem c_kz_Book_read_1_y (l : Launch) {dA : FieldType → ClassId} {D : va_G} {al : Nat → Nat} {ext : mv_Sh} {sk sv : Nat → Nat} (hi : mv_inj (mg dA D al ext)) (σ : mv_H) (n9 : Int32) (len : Nat) (hn9 : n9.toInt = len) (hl : len ≤ 10240) (hmr : mh (mv_r σ)) (hb7 : byt7 σ) : mv_C l y_Book_read_1 (Cond.codeWith y_Book_read_1 b_Book_read_1 5 (Option.some Jvm.ClassFile.FieldType.boolean) [((70 : Nat), (74 : Nat), (77 : Nat), (7 : Nat))] :: ma) ({ frames := 1084, cells := 0, slots := 0, locals := 65155 }) (mg dA D al ext) (mK sk sv) [.ref (al 108), .ref (al 71), .int n9] σ (mv_Ri (fun v σ1 => BF 108 (mv_sr σ 108 1 (some 71)) σ1 ∧ (v = 0 ∨ (v = 1 ∧ BG 108 σ1)) ∧ XRw 108 (txT (ck σ len) len) v σ1 ∧ ZBw 108 (txT (ck σ len) len) v σ1)) := by
  refine mv_C.ofVW (cc := b_Book_read_1) (nL := 5) (ret := (Option.some Jvm.ClassFile.FieldType.boolean)) (hh := [((70 : Nat), (74 : Nat), (77 : Nat), (7 : Nat))]) (by decide +kernel) rfl hi (Nat.le_of_ble_eq_true rfl) ?_
  intro p e s m below meth c B hNs hr hnm htab
  refine mv_aload_n (pc := 0) B d_Book_read_1_0 rfl 0 rfl ?_
  refine mv_aload_n (pc := 1) B d_Book_read_1_1 rfl 1 rfl ?_
  refine mv_putR (pc := 2) (ci := 12) (C := R_Book) (T := F_Book) (N := 65) B 1 rfl rfl (by decide) i_Book t_Book_ok n_Book (B.2.2.2.1 _ k_1844) rfl rfl d_Book_read_1_2 ?_
  refine mv_aload_n (pc := 5) B d_Book_read_1_5 rfl 0 rfl ?_
  refine mv_iload_n (pc := 6) B d_Book_read_1_6 rfl 2 rfl ?_
  refine mv_putI (pc := 7) (ci := 12) (C := R_Book) (T := F_Book) (N := 65) B 2 rfl rfl (by decide) i_Book t_Book_ok n_Book (B.2.2.2.1 _ k_1845) rfl rfl rfl rfl d_Book_read_1_7 ?_
  refine mv_aload_n (pc := 10) B d_Book_read_1_10 rfl 0 rfl ?_
  refine mv_iconst (pc := 11) (v := 0) B d_Book_read_1_11 (by decide) ?_
  refine mv_putI (pc := 12) (ci := 12) (C := R_Book) (T := F_Book) (N := 65) B 48 rfl rfl (by decide) i_Book t_Book_ok n_Book (B.2.2.2.1 _ k_1897) rfl rfl rfl rfl d_Book_read_1_12 ?_
  refine mv_aload_n (pc := 15) B d_Book_read_1_15 rfl 0 rfl ?_
  refine mv_iconst (pc := 16) (v := 0) B d_Book_read_1_16 (by decide) ?_
  refine mv_putI (pc := 17) (ci := 12) (C := R_Book) (T := F_Book) (N := 65) B 17 rfl rfl (by decide) i_Book t_Book_ok n_Book (B.2.2.2.1 _ k_1860) rfl rfl rfl rfl d_Book_read_1_17 ?_
  refine mv_aload_n (pc := 20) B d_Book_read_1_20 rfl 0 rfl ?_
  refine mv_iconst (pc := 21) (v := 0) B d_Book_read_1_21 (by decide) ?_
  refine mv_putI (pc := 22) (ci := 12) (C := R_Book) (T := F_Book) (N := 65) B 19 rfl rfl (by decide) i_Book t_Book_ok n_Book (B.2.2.2.1 _ k_1864) rfl rfl rfl rfl d_Book_read_1_22 ?_
  refine mv_aload_n (pc := 25) B d_Book_read_1_25 rfl 0 rfl ?_
  refine mv_iconst (pc := 26) (v := -1) B d_Book_read_1_26 (by decide) ?_
  refine mv_putI (pc := 27) (ci := 12) (C := R_Book) (T := F_Book) (N := 65) B 18 rfl rfl (by decide) i_Book t_Book_ok n_Book (B.2.2.2.1 _ k_1862) rfl rfl rfl rfl d_Book_read_1_27 ?_
  refine mv_aload_n (pc := 30) B d_Book_read_1_30 rfl 0 rfl ?_
  refine mv_iconst (pc := 31) (v := -1) B d_Book_read_1_31 (by decide) ?_
  refine mv_putI (pc := 32) (ci := 12) (C := R_Book) (T := F_Book) (N := 65) B 21 rfl rfl (by decide) i_Book t_Book_ok n_Book (B.2.2.2.1 _ k_1866) rfl rfl rfl rfl d_Book_read_1_32 ?_
  refine mv_aload_n (pc := 35) B d_Book_read_1_35 rfl 0 rfl ?_
  refine mv_iconst (pc := 36) (v := 0) B d_Book_read_1_36 (by decide) ?_
  refine mv_putI (pc := 37) (ci := 12) (C := R_Book) (T := F_Book) (N := 65) B 22 rfl rfl (by decide) i_Book t_Book_ok n_Book (B.2.2.2.1 _ k_1867) rfl rfl rfl rfl d_Book_read_1_37 ?_
  refine mv_aload_n (pc := 40) B d_Book_read_1_40 rfl 0 rfl ?_
  refine mv_iconst (pc := 41) (v := 0) B d_Book_read_1_41 (by decide) ?_
  refine mv_putI (pc := 42) (ci := 12) (C := R_Book) (T := F_Book) (N := 65) B 29 rfl rfl (by decide) i_Book t_Book_ok n_Book (B.2.2.2.1 _ k_1874) rfl rfl rfl rfl d_Book_read_1_42 ?_
  refine mv_aload_n (pc := 45) B d_Book_read_1_45 rfl 0 rfl ?_
  refine mv_iconst (pc := 46) (v := 0) B d_Book_read_1_46 (by decide) ?_
  refine mv_putI (pc := 47) (ci := 12) (C := R_Book) (T := F_Book) (N := 65) B 51 rfl rfl (by decide) i_Book t_Book_ok n_Book (B.2.2.2.1 _ k_1900) rfl rfl rfl rfl d_Book_read_1_47 ?_
  refine mv_aload_n (pc := 50) B d_Book_read_1_50 rfl 0 rfl ?_
  refine mv_iconst (pc := 51) (v := 0) B d_Book_read_1_51 (by decide) ?_
  refine mv_putI (pc := 52) (ci := 12) (C := R_Book) (T := F_Book) (N := 65) B 30 rfl rfl (by decide) i_Book t_Book_ok n_Book (B.2.2.2.1 _ k_1876) rfl rfl rfl rfl d_Book_read_1_52 ?_
  refine mv_aload_n (pc := 55) B d_Book_read_1_55 rfl 0 rfl ?_
  refine mv_iconst (pc := 56) (v := -1) B d_Book_read_1_56 (by decide) ?_
  refine mv_putI (pc := 57) (ci := 12) (C := R_Book) (T := F_Book) (N := 65) B 37 rfl rfl (by decide) i_Book t_Book_ok n_Book (B.2.2.2.1 _ k_1883) rfl rfl rfl rfl d_Book_read_1_57 ?_
  refine mv_aload_n (pc := 60) B d_Book_read_1_60 rfl 0 rfl ?_
  refine mv_iconst (pc := 61) (v := 0) B d_Book_read_1_61 (by decide) ?_
  refine mv_putI (pc := 62) (ci := 12) (C := R_Book) (T := F_Book) (N := 65) B 38 rfl rfl (by decide) i_Book t_Book_ok n_Book (B.2.2.2.1 _ k_1885) rfl rfl rfl rfl d_Book_read_1_62 ?_
  refine mv_aload_n (pc := 65) B d_Book_read_1_65 rfl 0 rfl ?_
  refine mv_iconst (pc := 66) (v := -1) B d_Book_read_1_66 (by decide) ?_
  refine mv_putI (pc := 67) (ci := 12) (C := R_Book) (T := F_Book) (N := 65) B 39 rfl rfl (by decide) i_Book t_Book_ok n_Book (B.2.2.2.1 _ k_1888) rfl rfl rfl rfl d_Book_read_1_67 ?_
  refine mv_gen (fun S70 eS70 => ?_)
  have hmS : mh (mv_r S70) := by rw [eS70]; exact hmr.sr (o := 108) (k := 1) (v := some 71) rfl
  have hR : Br 108 (mv_r S70) := ⟨hmS, by rw [eS70]; rfl⟩
  have hz : (mv_i S70 108 2).toInt = len := by rw [eS70]; exact hn9
  have k17 : mv_i S70 108 17 = 0 := by rw [eS70]; rfl
  have k48 : mv_i S70 108 48 = 0 := by rw [eS70]; rfl
  have k29 : mv_i S70 108 29 = 0 := by rw [eS70]; rfl
  have k51 : mv_i S70 108 51 = 0 := by rw [eS70]; rfl
  have k19 : mv_i S70 108 19 = 0 := by rw [eS70]; rfl
  have k18 : mv_i S70 108 18 = -1 := by rw [eS70]; rfl
  have k21 : mv_i S70 108 21 = -1 := by rw [eS70]; rfl
  have k38 : mv_i S70 108 38 = 0 := by rw [eS70]; rfl
  have k22 : mv_i S70 108 22 = 0 := by rw [eS70]; rfl
  have hb : BF 108 (mv_sr σ 108 1 (some 71)) S70 := by rw [eS70]; exact (((((((((((((BF.rf.si ⟨by omega, by omega⟩).si ⟨by omega, by omega⟩).si ⟨by omega, by omega⟩).si ⟨by omega, by omega⟩).si ⟨by omega, by omega⟩).si ⟨by omega, by omega⟩).si ⟨by omega, by omega⟩).si ⟨by omega, by omega⟩).si ⟨by omega, by omega⟩).si ⟨by omega, by omega⟩).si ⟨by omega, by omega⟩).si ⟨by omega, by omega⟩).si ⟨by omega, by omega⟩)
  have ec70 : ck S70 len = ck σ len := by rw [eS70]; rfl
  have eb70 : byt7 S70 := by rw [eS70]; exact hb7
  obtain ⟨rv, rg, hf, hf0, hf1, hf2⟩ := rd_tz_y (N := len) (T := ck σ len) (h := S70) ⟨hz, hl, ec70, by decide, eb70, k38, k48, k17, k19, k22, k29, k51⟩ k18 k21
  clear eS70
  refine mv_aload_n (pc := 70) B d_Book_read_1_70 rfl 0 rfl ?_
  refine mv_callVCUv (pc := 71) (n := 0) (ci := 12) (C := R_Book) B (mK_ok sk sv) hNs rfl rfl (k_Book_text_1_y l hi _ len hR hz hl k17 k48 k29 k51 k19 k18 hf) rfl (ma_goodc kc_Book_text_1) (B.2.2.2.1 _ k_2110) (B.2.2.2.1 _ k_2112) (B.2.2.2.1 _ ks_79) (B.2.2.2.1 _ k_13) ⟨by decide +kernel, by decide +kernel, by decide +kernel⟩ rfl d_Book_read_1_71 rfl (Nat.le_of_ble_eq_true rfl) ⟨by decide, by decide⟩ ⟨by decide, by decide⟩  ?_ ?_
  · skip
    intro σ71 g71
    obtain ⟨g71, υ, ⟨hv9, -, -⟩, -⟩ := g71
    have hS9 := hf0 hv9
    refine ⟨77, mt_H.one B.2.2.1 htab (by decide) (by decide) (by decide) (B.2.2.2.1 _ k_1822) (mt_cast (B.2.2.2.1 _ k_1823)), ?_⟩
    refine mv_astore_n (pc := 77) B d_Book_read_1_77 rfl (by decide) rfl ?_
    refine mv_aload_n (pc := 78) B d_Book_read_1_78 rfl 1 rfl ?_
    refine mv_aload_n (pc := 79) B d_Book_read_1_79 rfl 0 rfl ?_
    refine mv_getI (pc := 80) (ci := 13) (C := R_Wrong) (T := F_Wrong) (N := 1) B 0 rfl rfl (by decide) i_Wrong (B.2.2.2.1 _ k_1835) rfl d_Book_read_1_80 ?_
    refine mv_putI (pc := 83) (ci := 12) (C := R_Book) (T := F_Book) (N := 65) B 37 rfl rfl (by decide) i_Book t_Book_ok n_Book (B.2.2.2.1 _ k_1883) rfl rfl rfl rfl d_Book_read_1_83 ?_
    refine mv_aload_n (pc := 86) B d_Book_read_1_86 rfl 1 rfl ?_
    refine mv_iconst (pc := 87) (v := 1) B d_Book_read_1_87 (by decide) ?_
    refine mv_putI (pc := 88) (ci := 12) (C := R_Book) (T := F_Book) (N := 65) B 38 rfl rfl (by decide) i_Book t_Book_ok n_Book (B.2.2.2.1 _ k_1885) rfl rfl rfl rfl d_Book_read_1_88 ?_
    refine mv_iconst (pc := 91) (v := 0) B d_Book_read_1_91 (by decide) ?_
    exact mv_iret (pc := 92) B hr rfl d_Book_read_1_92 (Nat.le_refl _) (Nat.le_refl _) ⟨_, rfl, ((hb.tr g71).si ⟨by omega, by omega⟩).si ⟨by omega, by omega⟩, Or.inl rfl, Or.inr ⟨rfl, sOK_n hS9⟩, fun w => absurd w (by decide)⟩
  intro σ71 h71
  obtain ⟨h71, υ, ⟨hv9, hg9, hr9⟩, hs9⟩ := h71
  have hA := hs9.ag
  obtain ⟨b9, s9, m9, j9, hS9, hQ9⟩ := hf1 _ hv9
  subst hg9
  have hy8 := fun r hr => (hf2 r hr).ag_y hA
  have hi38 : mv_i σ71 108 38 = mv_i rg 108 38 := hA.i (o := 108) (k := 38) rfl (Nat.le_of_ble_eq_true rfl) rfl
  obtain ⟨th, n, k, cb, c1, c2, hZ⟩ := h71
  have hL := hZ.le
  have hmt : mh (mv_r σ71) := hZ.1.1.2.1.1
  refine mv_goto (pc := 74) (tgt := 93) B d_Book_read_1_74 rfl ?_
  have j104 : ∀ (τ : mv_H) (hF : CF 108 σ71 τ) (hz9 : (mv_i τ 108 38).toInt ≤ 0 → (mv_i σ71 108 38).toInt ≤ 0) (hx9 : XJ 108 (txT (ck σ len) len) τ) (hy9 : ∀ r, tTx (txT (ck σ len) len) = some r → XBk 108 r τ), mv_V p l e ({ frames := 1084, cells := 0, slots := 0, locals := 65155 }) s m ([.ref (al 108), .ref (al 71), .int n9] : List Value).toArray below meth c (mg dA D al ext) 5 0 0 (mv_Q (mg dA D al ext) below s 0 0 (mv_Ri (fun v σ1 => BF 108 (mv_sr σ 108 1 (some 71)) σ1 ∧ (v = 0 ∨ (v = 1 ∧ BG 108 σ1)) ∧ XRw 108 (txT (ck σ len) len) v σ1 ∧ ZBw 108 (txT (ck σ len) len) v σ1))) τ 104 [(0, .ref (al 108))] [] := by
    intro τ hF hz9 hx9 hy9
    have hmt : mh (mv_r τ) := by rw [hF.2.2.1]; exact hmt
    have hmq := hmt
    refine mv_aload_n (pc := 104) B d_Book_read_1_104 rfl 0 rfl ?_
    refine mv_getI (pc := 105) (ci := 12) (C := R_Book) (T := F_Book) (N := 65) B 38 rfl rfl (by decide) i_Book (B.2.2.2.1 _ k_1885) rfl d_Book_read_1_105 ?_
    refine mv_if_le (pc := 108) (tgt := 113) B d_Book_read_1_108 rfl (fun h108 => ?_) (fun h108 => ?_)
    · skip
      have hG9 := hZ.C.2.2.2.2.2.2.2.2 (hz9 (Int32.le_iff_toInt_le.mp h108))
      have hcm : csum (mv_a σ71 112) th = (mv_i σ71 108 19).toInt := hG9.2.2.2.1
      have hg5 : ∀ t, t < th → 0 ≤ (mv_a σ71 112 t).toInt := fun t ht => (hG9.2.2.2.2 t ht).1
      have hcc := hZ.C.2.2.2.2.2.2.1
      have hthr : (mv_i τ 108 17).toInt = th := by rw [hF.1 _ _ (by omega)]; exact hZ.C.2.1
      have lp : ∀ (nn : Nat) (S : mv_H) (t9 : Int32) (s9 : Int32) (hV : VF 108 τ S) (hat : ∀ t, t < t9.toNatClampNeg → (mv_a S 113 t).toInt = csum (mv_a σ71 112) t) (hv7 : ∀ t, t < t9.toNatClampNeg → mv_b S 135 t = 0) (hs9 : s9.toInt = csum (mv_a σ71 112) t9.toNatClampNeg) (q0 : 0 ≤ t9.toInt) (q1 : t9.toInt ≤ th), (20000 - t9.toInt).toNat < nn → mv_V p l e ({ frames := 1084, cells := 0, slots := 0, locals := 65155 }) s m ([.ref (al 108), .ref (al 71), .int n9] : List Value).toArray below meth c (mg dA D al ext) 5 0 0 (mv_Q (mg dA D al ext) below s 0 0 (mv_Ri (fun v σ1 => BF 108 (mv_sr σ 108 1 (some 71)) σ1 ∧ (v = 0 ∨ (v = 1 ∧ BG 108 σ1)) ∧ XRw 108 (txT (ck σ len) len) v σ1 ∧ ZBw 108 (txT (ck σ len) len) v σ1))) S 118 [(4, .int t9), (3, .int s9), (0, .ref (al 108))] [] := by
        intro nn
        induction nn with
        | zero => intro S t9 s9 hV hat hv7 hs9 q0 q1 hm; exact absurd hm (Nat.not_lt_zero _)
        | succ nn ih =>
          intro S t9 s9 hV hat hv7 hs9 q0 q1 hm
          have hmt : mh (mv_r S) := by rw [hV.2.2.1]; exact hmq
          refine mv_iload (pc := 118) B d_Book_read_1_118 0 rfl ?_
          refine mv_aload_n (pc := 120) B d_Book_read_1_120 rfl 2 rfl ?_
          refine mv_getI (pc := 121) (ci := 12) (C := R_Book) (T := F_Book) (N := 65) B 17 rfl rfl (by decide) i_Book (B.2.2.2.1 _ k_1860) rfl d_Book_read_1_121 ?_
          refine mv_icmp_ge (pc := 124) (tgt := 159) B d_Book_read_1_124 rfl (fun h124 => ?_) (fun h124 => ?_)
          · skip
            rw [Int32.le_iff_toInt_le] at h124
            have e17 : mv_i S 108 17 = mv_i τ 108 17 := hV.1 _ _ id
            rw [e17] at h124
            have hcl := i32_cl q0
            have hte : t9.toNatClampNeg = th := by omega
            rw [hte] at hat hs9 hv7
            have lq : ∀ (nn : Nat) (S : mv_H) (i9 : Int32) (hV : VF 108 τ S) (hat : ∀ t, t < th → (mv_a S 113 t).toInt = csum (mv_a σ71 112) t) (hv7 : ∀ t, t < th → mv_b S 135 t = 0) (hv8 : ∀ i, i < i9.toNatClampNeg → mv_b S 136 i = 0) (r0 : 0 ≤ i9.toInt), (70000 - i9.toInt).toNat < nn → mv_V p l e ({ frames := 1084, cells := 0, slots := 0, locals := 65155 }) s m ([.ref (al 108), .ref (al 71), .int n9] : List Value).toArray below meth c (mg dA D al ext) 5 0 0 (mv_Q (mg dA D al ext) below s 0 0 (mv_Ri (fun v σ1 => BF 108 (mv_sr σ 108 1 (some 71)) σ1 ∧ (v = 0 ∨ (v = 1 ∧ BG 108 σ1)) ∧ XRw 108 (txT (ck σ len) len) v σ1 ∧ ZBw 108 (txT (ck σ len) len) v σ1))) S 162 [(4, .int i9), (3, .int s9), (0, .ref (al 108))] [] := by
              intro nn
              induction nn with
              | zero => intro S i9 hV hat hv7 hv8 r0 hm; exact absurd hm (Nat.not_lt_zero _)
              | succ nn ih =>
                intro S i9 hV hat hv7 hv8 r0 hm
                have hmt : mh (mv_r S) := by rw [hV.2.2.1]; exact hmq
                refine mv_iload (pc := 162) B d_Book_read_1_162 0 rfl ?_
                refine mv_iload_n (pc := 164) B d_Book_read_1_164 rfl 1 rfl ?_
                refine mv_icmp_ge (pc := 165) (tgt := 182) B d_Book_read_1_165 rfl (fun h165 => ?_) (fun h165 => ?_)
                · skip
                  rw [Int32.le_iff_toInt_le] at h165
                  have hcl6 := i32_cl r0
                  have hv9 : ∀ i : Nat, (i : Int) < csum (mv_a σ71 112) th → mv_b S 136 i = 0 := fun i hi => hv8 i (by omega)
                  refine mv_iconst (pc := 182) (v := 1) B d_Book_read_1_182 (by decide) ?_
                  exact mv_iret (pc := 183) B hr rfl d_Book_read_1_183 (Nat.le_refl _) (Nat.le_refl _) ⟨_, rfl, ((hb.tr hZ.2.2.2.2.2.2).tr hF.bf).tr hV.bf, Or.inr ⟨rfl, BG.of hZ hG9 hF hV hat⟩, Or.inl ⟨rfl, by obtain ⟨s8, a8, b8⟩ := hx9.1 (Int32.le_iff_toInt_le.mp h108); exact ⟨s8, a8, b8.fr (fun k _ => hV.1 _ _ id) (fun i _ => hV.2.2.2.1 _ _ (by omega)) (fun i _ => hV.2.2.2.1 _ _ (by omega)) (fun o k ho _ => hV.2.2.2.1 _ _ (by omega))⟩⟩, ZBw.of hF hV hthr hat hv7 hv9 hy9⟩
                · skip
                  rw [Int32.le_iff_toInt_le] at h165
                  have w4 : (i9 + 1).toInt = i9.toInt + 1 := i32_inc (by omega)
                  have hcl6 := i32_cl r0
                  have hcl7 := i32_cl (x := i9 + 1) (by omega)
                  have hc5 : (i9 + 1).toNatClampNeg = i9.toNatClampNeg + 1 := by omega
                  refine mv_aload_n (pc := 168) B d_Book_read_1_168 rfl 2 rfl ?_
                  refine mv_getR (pc := 169) (ci := 12) (C := R_Book) (T := F_Book) (N := 65) B 56 rfl rfl (by decide) i_Book (B.2.2.2.1 _ k_1905) rfl (hmt _ 56 _ rfl) d_Book_read_1_169 ?_
                  refine mv_iload (pc := 172) B d_Book_read_1_172 0 rfl ?_
                  refine mv_lconst (pc := 174) (v := 0) B d_Book_read_1_174 (by decide) ?_
                  refine mv_last (pc := 175) B rfl (i32_in r0 (show i9.toInt < 65536 by omega)) d_Book_read_1_175 ?_
                  refine mv_iinc (pc := 176) (j := 0) (v := 1) B d_Book_read_1_176 rfl (by decide) (by decide) rfl ?_
                  refine mv_goto (pc := 179) (tgt := 162) B d_Book_read_1_179 rfl ?_
                  refine mv_lpick [0, 1, 2] rfl ?_
                  exact ih _ _ (hV.sb (Or.inr rfl)) hat (fun t ht => (sbn9 _ _ (by omega)).trans (hv7 t ht)) (fun j hj => by
                    rw [hc5] at hj
                    show mv_u (mv_b S) 136 i9.toNatClampNeg 0 136 j = 0
                    by_cases z : j = i9.toNatClampNeg
                    · subst z; rw [mv_u_same]
                    · rw [mv_u_ne _ _ (by omega)]; exact hv8 j (by omega)) (by omega) (by omega)
            refine mv_iconst (pc := 159) (v := 0) B d_Book_read_1_159 (by decide) ?_
            refine mv_istore (pc := 160) B d_Book_read_1_160 (by decide) rfl ?_
            refine mv_lpick [0, 1, 2] rfl ?_
            exact lq _ _ _ hV hat hv7 (fun i hi => absurd hi (Nat.not_lt_zero _)) (by decide) (Nat.lt_succ_self _)
          · skip
            rw [Int32.le_iff_toInt_le] at h124
            have e17 : mv_i S 108 17 = mv_i τ 108 17 := hV.1 _ _ id
            rw [e17] at h124
            have hcl := i32_cl q0
            have hme : mv_a S 112 t9.toNatClampNeg = mv_a σ71 112 t9.toNatClampNeg := (hV.2.2.2.1 _ _ (by omega)).trans (hF.2.2.2.1 _ _ id)
            have m1 := csum_mono hg5 t9.toNatClampNeg (by omega)
            have m2 := csum_mono hg5 (t9.toNatClampNeg + 1) (by omega)
            have e1 : csum (mv_a σ71 112) (t9.toNatClampNeg + 1) = csum (mv_a σ71 112) t9.toNatClampNeg + (mv_a σ71 112 t9.toNatClampNeg).toInt := rfl
            rw [← hme] at e1
            have w2 : (t9 + 1).toInt = t9.toInt + 1 := i32_inc (by omega)
            have hcl2 := i32_cl (x := t9 + 1) (by omega)
            have hc3 : (t9 + 1).toNatClampNeg = t9.toNatClampNeg + 1 := by omega
            refine mv_aload_n (pc := 127) B d_Book_read_1_127 rfl 2 rfl ?_
            refine mv_getR (pc := 128) (ci := 12) (C := R_Book) (T := F_Book) (N := 65) B 14 rfl rfl (by decide) i_Book (B.2.2.2.1 _ k_1857) rfl (hmt _ 14 _ rfl) d_Book_read_1_128 ?_
            refine mv_iload (pc := 131) B d_Book_read_1_131 0 rfl ?_
            refine mv_iload_n (pc := 133) B d_Book_read_1_133 rfl 1 rfl ?_
            refine mv_iast (pc := 134) B rfl (i32_in q0 (show t9.toInt < 4100 by omega)) d_Book_read_1_134 ?_
            refine mv_iload_n (pc := 135) B d_Book_read_1_135 rfl 1 rfl ?_
            refine mv_aload_n (pc := 136) B d_Book_read_1_136 rfl 2 rfl ?_
            refine mv_getR (pc := 137) (ci := 12) (C := R_Book) (T := F_Book) (N := 65) B 13 rfl rfl (by decide) i_Book (B.2.2.2.1 _ k_1856) rfl (hmt _ 13 _ rfl) d_Book_read_1_137 ?_
            refine mv_iload (pc := 140) B d_Book_read_1_140 0 rfl ?_
            refine mv_iald (pc := 142) B rfl (i32_in q0 (show t9.toInt < 4100 by omega)) d_Book_read_1_142 ?_
            refine mv_iadd (pc := 143) B d_Book_read_1_143 ?_
            refine mv_topi (fun y143 ey143 => ?_)
            have ey143 : y143 = s9 + mv_a S 112 t9.toNatClampNeg := ey143
            have fy143 := i32_addE ey143 (by (try simp only [Int32.reduceToInt]); omega) (by (try simp only [Int32.reduceToInt]); omega)
            try simp only [Int32.reduceToInt] at fy143
            refine mv_istore_n (pc := 144) B d_Book_read_1_144 rfl (by decide) rfl ?_
            refine mv_aload_n (pc := 145) B d_Book_read_1_145 rfl 2 rfl ?_
            refine mv_getR (pc := 146) (ci := 12) (C := R_Book) (T := F_Book) (N := 65) B 55 rfl rfl (by decide) i_Book (B.2.2.2.1 _ k_1904) rfl (hmt _ 55 _ rfl) d_Book_read_1_146 ?_
            refine mv_iload (pc := 149) B d_Book_read_1_149 1 rfl ?_
            refine mv_lconst (pc := 151) (v := 0) B d_Book_read_1_151 (by decide) ?_
            refine mv_last (pc := 152) B rfl (i32_in q0 (show t9.toInt < 4100 by omega)) d_Book_read_1_152 ?_
            refine mv_iinc (pc := 153) (j := 1) (v := 1) B d_Book_read_1_153 rfl (by decide) (by decide) rfl ?_
            refine mv_goto (pc := 156) (tgt := 118) B d_Book_read_1_156 rfl ?_
            refine mv_lpick [0, 1, 2] rfl ?_
            exact ih _ _ _ ((hV.sa (o := 113) rfl).sb (Or.inl rfl)) (fun j hj => by
              rw [hc3] at hj
              show Int32.toInt (mv_u (mv_a S) 113 t9.toNatClampNeg s9 113 j) = _
              by_cases z : j = t9.toNatClampNeg
              · subst z; rw [mv_u_same]; exact hs9
              · rw [mv_u_ne _ _ (by omega)]; exact hat j (by omega)) (fun j hj => by
              rw [hc3] at hj
              show mv_u (mv_b S) 135 t9.toNatClampNeg 0 135 j = 0
              by_cases z : j = t9.toNatClampNeg
              · subst z; rw [mv_u_same]
              · rw [mv_u_ne _ _ (by omega)]; exact hv7 j (by omega)) (by rw [hc3, e1, ← hs9]; exact fy143) (by omega) (by omega) (by omega)
      refine mv_iconst (pc := 113) (v := 0) B d_Book_read_1_113 (by decide) ?_
      refine mv_istore_n (pc := 114) B d_Book_read_1_114 rfl (by decide) rfl ?_
      refine mv_iconst (pc := 115) (v := 0) B d_Book_read_1_115 (by decide) ?_
      refine mv_istore (pc := 116) B d_Book_read_1_116 (by decide) rfl ?_
      refine mv_lpick [0, 1, 2] rfl ?_
      exact lp _ _ _ _ Fx.rf (fun t ht => absurd ht (Nat.not_lt_zero _)) (fun t ht => absurd ht (Nat.not_lt_zero _)) rfl (by decide) (by show (0 : Int) ≤ _; omega) (Nat.lt_succ_self _)
    · skip
      refine mv_iconst (pc := 111) (v := 0) B d_Book_read_1_111 (by decide) ?_
      exact mv_iret (pc := 112) B hr rfl d_Book_read_1_112 (Nat.le_refl _) (Nat.le_refl _) ⟨_, rfl, (hb.tr hZ.2.2.2.2.2.2).tr hF.bf, Or.inl rfl, Or.inr ⟨rfl, hx9.2 (fun z => h108 (Int32.le_iff_toInt_le.mpr z))⟩, fun w => absurd w (by decide)⟩
  refine mv_aload_n (pc := 93) B d_Book_read_1_93 rfl 0 rfl ?_
  refine mv_getI (pc := 94) (ci := 12) (C := R_Book) (T := F_Book) (N := 65) B 38 rfl rfl (by decide) i_Book (B.2.2.2.1 _ k_1885) rfl d_Book_read_1_94 ?_
  refine mv_if_ne (pc := 97) (tgt := 104) B d_Book_read_1_97 rfl (fun h97 => ?_) (fun h97 => ?_)
  · skip
    have hx8 := rd_no hS9 hQ9.fa hi38 h97
    refine mv_lpick [0] rfl ?_
    exact j104 _ (by first | exact Fx.rf | exact hF) (by first | exact id | exact fun _ => by rw [h97]; decide) hx8 (by first | exact hy8 | exact fun r hr => (hy8 r hr).cf hF)
  · skip
    have hG9 := hZ.C.2.2.2.2.2.2.2.2 (by rw [h97]; decide)
    have hb9 : b9 = true := hQ9.fa.1.mpr (hi38.symm.trans h97)
    subst hb9
    obtain ⟨rg2, hcf, hcg⟩ := rd_cl hQ9
    refine mv_aload_n (pc := 100) B d_Book_read_1_100 rfl 0 rfl ?_
    refine mv_callVv (pc := 101) (n := 0) (ci := 12) (C := R_Book) B (mK_ok sk sv) hNs rfl rfl (mv_C.twov (c_Book_clash_y l hi _ k hmt (hG9.co hZ.C.2.2.2.1 (by omega) (by omega))) (hA.C (ch_Book_clash_y l hi _ (by rw [hr9]; exact hR) hcf))) rfl (ma_goodc kc_Book_clash) (B.2.2.2.1 _ k_2333) (B.2.2.2.1 _ k_2335) (B.2.2.2.1 _ ks_121) (B.2.2.2.1 _ k_13) ⟨by decide +kernel, by decide +kernel, by decide +kernel⟩ rfl d_Book_read_1_101 rfl (Nat.le_of_ble_eq_true rfl) ⟨by decide, by decide⟩ ⟨by decide, by decide⟩ ⟨by decide, by decide⟩ (mt_out htab (by decide)) (fun σ101 h101 => ?_)
    obtain ⟨hF, υ2, ⟨hg2, -⟩, hs2⟩ := h101
    subst hg2
    have hA2 := hs2.ag
    have hx8 := rd_ye (σ := σ71) (g := rg2) hS9 hcg (hA2.i (o := 108) (k := 38) rfl (Nat.le_of_ble_eq_true rfl) rfl) (hQ9.sr.fr (fun k hk => (hF.1 108 k (by omega)).trans (by rcases hk with rfl | rfl | rfl | rfl <;> exact hA.i (o := 108) rfl (Nat.le_of_ble_eq_true rfl) rfl)) (fun i hi => (hF.2.2.2.1 _ _ id).trans (hA.a (o := 118) (n := 4100) rfl (by decide) hi)) (fun i hi => (hF.2.2.2.1 _ _ id).trans (hA.a (o := 121) (n := 32768) rfl (by decide) hi)) (fun o k ho hk => (hF.2.2.2.1 _ _ id).trans (by rcases ho with rfl | rfl | rfl <;> exact hA.a (n := 4100) rfl (by decide) hk)))
    refine mv_lpick [0] rfl ?_
    exact j104 _ (by first | exact Fx.rf | exact hF) (by first | exact id | exact fun _ => by rw [h97]; decide) hx8 (by first | exact hy8 | exact fun r hr => (hy8 r hr).cf hF)
