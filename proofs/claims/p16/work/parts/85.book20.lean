/-! the reference's Book: a step, a word fetched, the free words -/
/-- the op at hand -/
def CU (B : Nat) (σ : mv_H) : Prop := mv_i σ B 63 = -1 ∨ (0 ≤ (mv_i σ B 63).toInt ∧ (mv_i σ B 63).toInt < (mv_i σ B 29).toInt)
theorem CU.fr {B : Nat} {σ τ : mv_H} (h : CU B σ) (e1 : mv_i τ B 63 = mv_i σ B 63) (e2 : mv_i τ B 29 = mv_i σ B 29) : CU B τ := by
  unfold CU
  rw [e1, e2]
  exact h
theorem ST.fr {B th n k : Nat} {g : Gh} {σ τ : mv_H} (h : ST B th n k g σ) (er : mv_r τ = mv_r σ) (ei : ∀ j, mv_i τ B j = mv_i σ B j) (ea : ∀ o j, mv_a τ o j = mv_a σ o j) : ST B th n k g τ := by
  obtain ⟨h1, h2, h3, h4, h5, h6, h7, h8⟩ := h
  exact ⟨by rw [er]; exact h1, h2.fr (Nat.le_refl _) (Nat.le_refl _) (Nat.le_refl _) (fun o j _ _ _ _ => ea _ _) (fun _ _ _ => ⟨rfl, rfl⟩), h3, by rw [ei]; exact h4, h5, fun t ht => (h6 t ht).fr (fun o ho => ea _ _), h7.fr (ei _) (ei _) (fun j => ea _ _), by rw [ei]; exact h8⟩
/-- what the end of a step changes -/
def PF (B : Nat) : mv_H → mv_H → Prop := Fx (fun _ _ => False) (fun _ _ => False) (fun _ _ => False) (fun o => o = B + 27 ∨ o = B + 28)
theorem PF.mb {B : Nat} {σ τ : mv_H} (h : PF B σ τ) : MB B σ τ := h.up (fun o k z => absurd z id) (fun o k z => absurd z id) (fun o k z => absurd z id) (fun o z => by omega)
theorem ST.pf {B th n k : Nat} {g : Gh} {σ τ : mv_H} (h : ST B th n k g σ) (f : PF B σ τ) : ST B th n k g τ := h.fr f.2.2.1 (fun j => f.1 _ _ id) (fun o j => f.2.2.2.1 _ _ id)
theorem DY.pf {B th w : Nat} {σ τ : mv_H} (h : DY B th w σ) (f : PF B σ τ) : DY B th w τ := h.fr (f.1 _ _ id) (fun o j _ => f.2.2.2.1 _ _ id)

theorem i32_div8 {x : Int32} (h0 : 0 ≤ x.toInt) (h1 : x.toInt ≤ 64) : 0 ≤ (x / 8).toInt ∧ (x / 8).toInt ≤ 8 := by
  rw [Int32.toInt_div_of_ne_right x 8 (by decide)]
  show 0 ≤ x.toInt.tdiv 8 ∧ x.toInt.tdiv 8 ≤ 8
  rw [Int.tdiv_eq_ediv_of_nonneg h0]
  omega
theorem fw_in {t c n k : Int32} {p : Int64} (b1 : 0 ≤ t.toInt) (hc : 0 ≤ c.toInt) (b4 : t.toInt + c.toInt ≤ 65536) (z1 : (0 : Int) ≤ p.toInt) (z2 : p.toInt ≤ (c - n).toInt64.toInt) (n0 : 0 ≤ n.toInt) (n8 : n.toInt ≤ 8) (k0 : 0 ≤ k.toInt) (k1 : k.toInt < n.toInt) : vp_in (t + p.toInt32 + k) 65536 := by
  have rt := i32_rng t
  have rc := i32_rng c
  rw [lg_toInt] at z2
  by_cases hb : -2147483648 ≤ c.toInt - n.toInt
  · have e1 : (c - n).toInt = c.toInt - n.toInt := i32_sub hb (by omega)
    have e2 := l2i_nn (x := p) z1 (by omega)
    have e3 : (t + p.toInt32).toInt = t.toInt + p.toInt32.toInt := i32_add (by omega) (by omega)
    have e4 : (t + p.toInt32 + k).toInt = (t + p.toInt32).toInt + k.toInt := i32_add (by omega) (by omega)
    exact i32_in (by omega) (by show _ < (65536 : Int); omega)
  · have r2 := i32_rng (c - n)
    exact absurd hc (by omega)
theorem dn_lp {k k1 n : Int32} {nn : Nat} (w2 : k1.toInt = k.toInt - 1) (q0 : k.toInt < n.toInt) (hk0 : ¬ k.toInt < 0) (hm : (k.toInt + 1).toNat < nn + 1) : k1.toInt < n.toInt ∧ -1 ≤ k1.toInt ∧ (k1.toInt + 1).toNat < nn := by
  omega
/-- what fetchWord changes -/
def GFb (B : Nat) : mv_H → mv_H → Prop := Fx (fun _ _ => False) (fun o k => o = B ∧ k = 64) (fun _ _ => False) (fun _ => False)
theorem GFb.mb {B : Nat} {σ τ : mv_H} (h : GFb B σ τ) : MB B σ τ := h.up (fun o k z => absurd z id) (fun o k z => by omega) (fun o k z => absurd z id) (fun o z => absurd z id)
def y_Book_fetchWord : MethodName := ⟨"MachineLoomModel$Book", "fetchWord", "()Z"⟩
abbrev b_Book_fetchWord : ByteArray := prog_15_method_75_code
theorem kc_Book_fetchWord : Cond.code y_Book_fetchWord b_Book_fetchWord 5 (Option.some Jvm.ClassFile.FieldType.boolean) ∈ ma := ma_of (tb_11 _ (List.mem_of_getElem? (i := 169) rfl)) rfl
theorem d_Book_fetchWord_0 : decode b_Book_fetchWord 0 = .ok (.aload_n 0, 1) := by decide +kernel
theorem d_Book_fetchWord_1 : decode b_Book_fetchWord 1 = .ok (.getfield 110, 3) := by decide +kernel
theorem d_Book_fetchWord_4 : decode b_Book_fetchWord 4 = .ok (.aload_n 0, 1) := by decide +kernel
theorem d_Book_fetchWord_5 : decode b_Book_fetchWord 5 = .ok (.getfield 39, 3) := by decide +kernel
theorem d_Book_fetchWord_8 : decode b_Book_fetchWord 8 = .ok (.laload, 1) := by decide +kernel
theorem d_Book_fetchWord_9 : decode b_Book_fetchWord 9 = .ok (.lstore_n 1, 1) := by decide +kernel
theorem d_Book_fetchWord_10 : decode b_Book_fetchWord 10 = .ok (.aload_n 0, 1) := by decide +kernel
theorem d_Book_fetchWord_11 : decode b_Book_fetchWord 11 = .ok (.getfield 43, 3) := by decide +kernel
theorem d_Book_fetchWord_14 : decode b_Book_fetchWord 14 = .ok (.bipush 8, 2) := by decide +kernel
theorem d_Book_fetchWord_16 : decode b_Book_fetchWord 16 = .ok (.idiv, 1) := by decide +kernel
theorem d_Book_fetchWord_17 : decode b_Book_fetchWord 17 = .ok (.istore_n 3, 1) := by decide +kernel
theorem d_Book_fetchWord_18 : decode b_Book_fetchWord 18 = .ok (.lload_n 1, 1) := by decide +kernel
theorem d_Book_fetchWord_19 : decode b_Book_fetchWord 19 = .ok (.lconst 0, 1) := by decide +kernel
theorem d_Book_fetchWord_20 : decode b_Book_fetchWord 20 = .ok (.aload_n 0, 1) := by decide +kernel
theorem d_Book_fetchWord_21 : decode b_Book_fetchWord 21 = .ok (.getfield 26, 3) := by decide +kernel
theorem d_Book_fetchWord_24 : decode b_Book_fetchWord 24 = .ok (.aload_n 0, 1) := by decide +kernel
theorem d_Book_fetchWord_25 : decode b_Book_fetchWord 25 = .ok (.getfield 46, 3) := by decide +kernel
theorem d_Book_fetchWord_28 : decode b_Book_fetchWord 28 = .ok (.iaload, 1) := by decide +kernel
theorem d_Book_fetchWord_29 : decode b_Book_fetchWord 29 = .ok (.iload_n 3, 1) := by decide +kernel
theorem d_Book_fetchWord_30 : decode b_Book_fetchWord 30 = .ok (.isub, 1) := by decide +kernel
theorem d_Book_fetchWord_31 : decode b_Book_fetchWord 31 = .ok (.i2l, 1) := by decide +kernel
theorem d_Book_fetchWord_32 : decode b_Book_fetchWord 32 = .ok (.invokestatic 296, 3) := by decide +kernel
theorem d_Book_fetchWord_35 : decode b_Book_fetchWord 35 = .ok (.ifCond .ne (5), 3) := by decide +kernel
theorem d_Book_fetchWord_38 : decode b_Book_fetchWord 38 = .ok (.iconst 0, 1) := by decide +kernel
theorem d_Book_fetchWord_39 : decode b_Book_fetchWord 39 = .ok (.ireturn, 1) := by decide +kernel
theorem d_Book_fetchWord_40 : decode b_Book_fetchWord 40 = .ok (.aload_n 0, 1) := by decide +kernel
theorem d_Book_fetchWord_41 : decode b_Book_fetchWord 41 = .ok (.lconst 0, 1) := by decide +kernel
theorem d_Book_fetchWord_42 : decode b_Book_fetchWord 42 = .ok (.putfield 520, 3) := by decide +kernel
theorem d_Book_fetchWord_45 : decode b_Book_fetchWord 45 = .ok (.iload_n 3, 1) := by decide +kernel
theorem d_Book_fetchWord_46 : decode b_Book_fetchWord 46 = .ok (.iconst 1, 1) := by decide +kernel
theorem d_Book_fetchWord_47 : decode b_Book_fetchWord 47 = .ok (.isub, 1) := by decide +kernel
theorem d_Book_fetchWord_48 : decode b_Book_fetchWord 48 = .ok (.istore 4, 2) := by decide +kernel
theorem d_Book_fetchWord_50 : decode b_Book_fetchWord 50 = .ok (.iload 4, 2) := by decide +kernel
theorem d_Book_fetchWord_52 : decode b_Book_fetchWord 52 = .ok (.ifCond .lt (41), 3) := by decide +kernel
theorem d_Book_fetchWord_55 : decode b_Book_fetchWord 55 = .ok (.aload_n 0, 1) := by decide +kernel
theorem d_Book_fetchWord_56 : decode b_Book_fetchWord 56 = .ok (.aload_n 0, 1) := by decide +kernel
theorem d_Book_fetchWord_57 : decode b_Book_fetchWord 57 = .ok (.getfield 520, 3) := by decide +kernel
theorem d_Book_fetchWord_60 : decode b_Book_fetchWord 60 = .ok (.bipush 8, 2) := by decide +kernel
theorem d_Book_fetchWord_62 : decode b_Book_fetchWord 62 = .ok (.lshl, 1) := by decide +kernel
theorem d_Book_fetchWord_63 : decode b_Book_fetchWord 63 = .ok (.aload_n 0, 1) := by decide +kernel
theorem d_Book_fetchWord_64 : decode b_Book_fetchWord 64 = .ok (.getfield 114, 3) := by decide +kernel
theorem d_Book_fetchWord_67 : decode b_Book_fetchWord 67 = .ok (.aload_n 0, 1) := by decide +kernel
theorem d_Book_fetchWord_68 : decode b_Book_fetchWord 68 = .ok (.getfield 29, 3) := by decide +kernel
theorem d_Book_fetchWord_71 : decode b_Book_fetchWord 71 = .ok (.aload_n 0, 1) := by decide +kernel
theorem d_Book_fetchWord_72 : decode b_Book_fetchWord 72 = .ok (.getfield 46, 3) := by decide +kernel
theorem d_Book_fetchWord_75 : decode b_Book_fetchWord 75 = .ok (.iaload, 1) := by decide +kernel
theorem d_Book_fetchWord_76 : decode b_Book_fetchWord 76 = .ok (.lload_n 1, 1) := by decide +kernel
theorem d_Book_fetchWord_77 : decode b_Book_fetchWord 77 = .ok (.l2i, 1) := by decide +kernel
theorem d_Book_fetchWord_78 : decode b_Book_fetchWord 78 = .ok (.iadd, 1) := by decide +kernel
theorem d_Book_fetchWord_79 : decode b_Book_fetchWord 79 = .ok (.iload 4, 2) := by decide +kernel
theorem d_Book_fetchWord_81 : decode b_Book_fetchWord 81 = .ok (.iadd, 1) := by decide +kernel
theorem d_Book_fetchWord_82 : decode b_Book_fetchWord 82 = .ok (.laload, 1) := by decide +kernel
theorem d_Book_fetchWord_83 : decode b_Book_fetchWord 83 = .ok (.lor, 1) := by decide +kernel
theorem d_Book_fetchWord_84 : decode b_Book_fetchWord 84 = .ok (.putfield 520, 3) := by decide +kernel
theorem d_Book_fetchWord_87 : decode b_Book_fetchWord 87 = .ok (.iinc 4 (-1), 3) := by decide +kernel
theorem d_Book_fetchWord_90 : decode b_Book_fetchWord 90 = .ok (.goto (-40), 3) := by decide +kernel
theorem d_Book_fetchWord_93 : decode b_Book_fetchWord 93 = .ok (.iconst 1, 1) := by decide +kernel
theorem d_Book_fetchWord_94 : decode b_Book_fetchWord 94 = .ok (.ireturn, 1) := by decide +kernel
set_option maxHeartbeats 4000000 in
set_option maxRecDepth 100000 in
theorem c_Book_fetchWord_x (l : Launch) {dA : FieldType → ClassId} {D : va_G} {al : Nat → Nat} {ext : mv_Sh} {sk sv : Nat → Nat} (hi : mv_inj (mg dA D al ext)) (σ : mv_H) (hmr : mh (mv_r σ)) (hG : BG 74 σ) (hft : ¬ mv_i σ 74 18 = -1) : mv_C l y_Book_fetchWord (Cond.code y_Book_fetchWord b_Book_fetchWord 5 (Option.some Jvm.ClassFile.FieldType.boolean) :: ma) ({ frames := 1, cells := 0, slots := 0, locals := 25 }) (mg dA D al ext) (mK sk sv) [.ref (al 74)] σ (mv_Ri (fun v σ1 => GFb 74 σ σ1)) := by
  refine mv_C.ofV (cc := b_Book_fetchWord) (nL := 5) (ret := (Option.some Jvm.ClassFile.FieldType.boolean)) (by decide +kernel) rfl hi (Nat.le_of_ble_eq_true rfl) ?_
  intro p e s m below meth c B hNs hr hnm hno
  obtain ⟨th, n, k, h1, h2, h3, h4, h5, h6, h7, h8⟩ := hG
  obtain ⟨⟨ht0, ht1⟩, hf0, hf1⟩ := h8.resolve_left hft
  obtain ⟨hl0, hl1⟩ := h5.2.2.1
  obtain ⟨a1, ⟨a2, -⟩, a4⟩ := h7 (mv_i σ 74 21).toNatClampNeg (by have := i32_cl hf0; omega)
  have b1 : 0 ≤ (mv_a σ 79 (mv_i σ 74 21).toNatClampNeg).toInt := a1
  have b2 : 0 ≤ (mv_a σ 78 (mv_i σ 74 21).toNatClampNeg).toInt := a2
  have b4 : (mv_a σ 79 (mv_i σ 74 21).toNatClampNeg).toInt + (mv_a σ 78 (mv_i σ 74 21).toNatClampNeg).toInt ≤ 65536 := a4
  clear a1 a2 a4
  refine mv_aload_n (pc := 0) B d_Book_fetchWord_0 rfl 0 rfl ?_
  refine mv_getR (pc := 1) (ci := 12) (C := R_Book) (T := F_Book) (N := 65) B 55 rfl rfl (by decide) i_Book (B.2.2.2.1 _ k_1904) rfl (hmr _ 55 _ rfl) d_Book_fetchWord_1 ?_
  refine mv_aload_n (pc := 4) B d_Book_fetchWord_4 rfl 0 rfl ?_
  refine mv_getI (pc := 5) (ci := 12) (C := R_Book) (T := F_Book) (N := 65) B 18 rfl rfl (by decide) i_Book (B.2.2.2.1 _ k_1862) rfl d_Book_fetchWord_5 ?_
  refine mv_lald (pc := 8) B rfl (i32_in ht0 (show (mv_i σ 74 18).toInt < 4100 by omega)) d_Book_fetchWord_8 ?_
  refine mv_topl (fun p9 ep9 => ?_)
  clear ep9
  refine mv_lstore_n (pc := 9) B d_Book_fetchWord_9 rfl (by decide) rfl ?_
  refine mv_aload_n (pc := 10) B d_Book_fetchWord_10 rfl 1 rfl ?_
  refine mv_getI (pc := 11) (ci := 12) (C := R_Book) (T := F_Book) (N := 65) B 20 rfl rfl (by decide) i_Book (B.2.2.2.1 _ k_1865) rfl d_Book_fetchWord_11 ?_
  refine mv_bipush (pc := 14) (v := 8) B d_Book_fetchWord_14 (by decide) ?_
  refine mv_idiv (pc := 16) B d_Book_fetchWord_16 (by decide) ?_
  refine mv_topi (fun n9 en9 => ?_)
  have hn9 : 0 ≤ n9.toInt ∧ n9.toInt ≤ 8 := by rw [en9]; exact i32_div8 hl0 hl1
  refine mv_istore_n (pc := 17) B d_Book_fetchWord_17 rfl (by decide) rfl ?_
  refine mv_lload_n (pc := 18) B d_Book_fetchWord_18 rfl 1 rfl ?_
  refine mv_lconst (pc := 19) (v := 0) B d_Book_fetchWord_19 (by decide) ?_
  refine mv_aload_n (pc := 20) B d_Book_fetchWord_20 rfl 2 rfl ?_
  refine mv_getR (pc := 21) (ci := 12) (C := R_Book) (T := F_Book) (N := 65) B 13 rfl rfl (by decide) i_Book (B.2.2.2.1 _ k_1856) rfl (hmr _ 13 _ rfl) d_Book_fetchWord_21 ?_
  refine mv_aload_n (pc := 24) B d_Book_fetchWord_24 rfl 2 rfl ?_
  refine mv_getI (pc := 25) (ci := 12) (C := R_Book) (T := F_Book) (N := 65) B 21 rfl rfl (by decide) i_Book (B.2.2.2.1 _ k_1866) rfl d_Book_fetchWord_25 ?_
  refine mv_iald (pc := 28) B rfl (i32_in hf0 (show (mv_i σ 74 21).toInt < 4100 by omega)) d_Book_fetchWord_28 ?_
  refine mv_iload_n (pc := 29) B d_Book_fetchWord_29 rfl 0 rfl ?_
  refine mv_isub (pc := 30) B d_Book_fetchWord_30 ?_
  refine mv_i2l (pc := 31) B d_Book_fetchWord_31 ?_
  refine mv_callSNi (pc := 32) (n := 3) B (mK_ok sk sv) hNs (c_Model_in l hi _ _ _ _) rfl (ma_goodc kc_Model_in) (va_Nw.use rfl (hNs.1 _ (List.mem_of_getElem? (i := 7) rfl))) (B.2.2.2.1 _ k_2208) (B.2.2.2.1 _ k_12) ⟨by decide +kernel, by decide +kernel, by decide +kernel⟩ rfl d_Book_fetchWord_32 rfl (Nat.le_of_ble_eq_true rfl) ⟨by decide, by decide⟩ ⟨by decide, by decide⟩ ⟨by decide, by decide⟩ (mv_noH hno _) (fun v32 σ32 h32 => ?_)
  obtain ⟨e32, z32⟩ := h32
  have e32 := e32.symm
  subst e32
  refine mv_if_ne (pc := 35) (tgt := 40) B d_Book_fetchWord_35 rfl (fun h35 => ?_) (fun h35 => ?_)
  · skip
    have z33 := z32.resolve_left h35
    have z34 : (0 : Int) ≤ p9.toInt := z33.2.1
    have z35 : p9.toInt ≤ (mv_a σ 78 (mv_i σ 74 21).toNatClampNeg - n9).toInt64.toInt := z33.2.2
    clear z32 z33 h35 h1 h3 h4 h5 h6 h7 en9 hft
    have lp : ∀ (nn : Nat) (τ : mv_H) (k9 : Int32) (hF : GFb 74 σ τ) (q0 : k9.toInt < n9.toInt) (q1 : -1 ≤ k9.toInt), (k9.toInt + 1).toNat < nn → mv_V p l e ({ frames := 1, cells := 0, slots := 0, locals := 25 }) s m ([.ref (al 74)] : List Value).toArray below meth c (mg dA D al ext) 5 0 0 (mv_Q (mg dA D al ext) below s 0 0 (mv_Ri (fun v σ1 => GFb 74 σ σ1))) τ 50 [(4, .int k9), (3, .int n9), (1, .long p9), (0, .ref (al 74))] [] := by
      intro nn
      induction nn with
      | zero => intro τ k9 hF q0 q1 hm; exact absurd hm (Nat.not_lt_zero _)
      | succ nn ih =>
        intro τ k9 hF q0 q1 hm
        have e21 : mv_i τ 74 21 = mv_i σ 74 21 := hF.1 _ _ id
        have e5 : mv_a τ 79 (mv_i τ 74 21).toNatClampNeg = (mv_a σ 79 (mv_i σ 74 21).toNatClampNeg) := by rw [e21]; exact hF.2.2.2.1 _ _ id
        have hmt : mh (mv_r τ) := by rw [hF.2.2.1]; exact hmr
        refine mv_iload (pc := 50) B d_Book_fetchWord_50 0 rfl ?_
        refine mv_if_lt (pc := 52) (tgt := 93) B d_Book_fetchWord_52 rfl (fun h52 => ?_) (fun h52 => ?_)
        · skip
          refine mv_iconst (pc := 93) (v := 1) B d_Book_fetchWord_93 (by decide) ?_
          exact mv_iret (pc := 94) B hr rfl d_Book_fetchWord_94 (Nat.le_refl _) (Nat.le_refl _) ⟨_, rfl, hF⟩
        · skip
          have hk0 : ¬ k9.toInt < 0 := fun z => h52 (Int32.lt_iff_toInt_lt.mpr z)
          have w2 : (k9 + -1).toInt = k9.toInt - 1 := by rw [i32_add (x := k9) (y := -1) (by show -2147483648 ≤ k9.toInt + -1; omega) (by show k9.toInt + -1 < 2147483648; omega)]; show k9.toInt + -1 = _; omega
          refine mv_aload_n (pc := 55) B d_Book_fetchWord_55 rfl 3 rfl ?_
          refine mv_aload_n (pc := 56) B d_Book_fetchWord_56 rfl 3 rfl ?_
          refine mv_getL (pc := 57) (ci := 12) (C := R_Book) (T := F_Book) (N := 65) B 64 rfl rfl (by decide) i_Book (B.2.2.2.1 _ k_1913) rfl d_Book_fetchWord_57 ?_
          refine mv_bipush (pc := 60) (v := 8) B d_Book_fetchWord_60 (by decide) ?_
          refine mv_lshl (pc := 62) B d_Book_fetchWord_62 ?_
          refine mv_aload_n (pc := 63) B d_Book_fetchWord_63 rfl 3 rfl ?_
          refine mv_getR (pc := 64) (ci := 12) (C := R_Book) (T := F_Book) (N := 65) B 56 rfl rfl (by decide) i_Book (B.2.2.2.1 _ k_1905) rfl (hmt _ 56 _ rfl) d_Book_fetchWord_64 ?_
          refine mv_aload_n (pc := 67) B d_Book_fetchWord_67 rfl 3 rfl ?_
          refine mv_getR (pc := 68) (ci := 12) (C := R_Book) (T := F_Book) (N := 65) B 14 rfl rfl (by decide) i_Book (B.2.2.2.1 _ k_1857) rfl (hmt _ 14 _ rfl) d_Book_fetchWord_68 ?_
          refine mv_aload_n (pc := 71) B d_Book_fetchWord_71 rfl 3 rfl ?_
          refine mv_getI (pc := 72) (ci := 12) (C := R_Book) (T := F_Book) (N := 65) B 21 rfl rfl (by decide) i_Book (B.2.2.2.1 _ k_1866) rfl d_Book_fetchWord_72 ?_
          refine mv_iald (pc := 75) B rfl (i32_in (x := mv_i τ 74 21) (by rw [e21]; exact hf0) (show (mv_i τ 74 21).toInt < 4100 by rw [e21]; omega)) d_Book_fetchWord_75 ?_
          refine mv_lload_n (pc := 76) B d_Book_fetchWord_76 rfl 2 rfl ?_
          refine mv_l2i (pc := 77) B d_Book_fetchWord_77 ?_
          refine mv_iadd (pc := 78) B d_Book_fetchWord_78 ?_
          refine mv_iload (pc := 79) B d_Book_fetchWord_79 0 rfl ?_
          refine mv_iadd (pc := 81) B d_Book_fetchWord_81 ?_
          refine mv_lald (pc := 82) B rfl (by rw [e5]; exact fw_in b1 b2 b4 z34 z35 hn9.1 hn9.2 (Int.not_lt.mp hk0) q0) d_Book_fetchWord_82 ?_
          refine mv_lor (pc := 83) B d_Book_fetchWord_83 ?_
          refine mv_putL (pc := 84) (ci := 12) (C := R_Book) (T := F_Book) (N := 65) B 64 rfl rfl (by decide) i_Book t_Book_ok n_Book (B.2.2.2.1 _ k_1913) rfl rfl d_Book_fetchWord_84 ?_
          refine mv_iinc (pc := 87) (j := 0) (v := -1) B d_Book_fetchWord_87 rfl (by decide) (by decide) rfl ?_
          refine mv_goto (pc := 90) (tgt := 50) B d_Book_fetchWord_90 rfl ?_
          refine mv_lpick [0, 1, 2, 3] rfl ?_
          have a1 := dn_lp w2 q0 hk0 hm
          refine ih _ (k9 + -1) ?_ a1.1 a1.2.1 a1.2.2
          refine Fx.sl hF ?_
          exact ⟨rfl, rfl⟩
    refine mv_aload_n (pc := 40) B d_Book_fetchWord_40 rfl 2 rfl ?_
    refine mv_lconst (pc := 41) (v := 0) B d_Book_fetchWord_41 (by decide) ?_
    refine mv_putL (pc := 42) (ci := 12) (C := R_Book) (T := F_Book) (N := 65) B 64 rfl rfl (by decide) i_Book t_Book_ok n_Book (B.2.2.2.1 _ k_1913) rfl rfl d_Book_fetchWord_42 ?_
    refine mv_iload_n (pc := 45) B d_Book_fetchWord_45 rfl 0 rfl ?_
    refine mv_iconst (pc := 46) (v := 1) B d_Book_fetchWord_46 (by decide) ?_
    refine mv_isub (pc := 47) B d_Book_fetchWord_47 ?_
    refine mv_topi (fun y47 ey47 => ?_)
    have fy47 := i32_subE ey47 (by (try simp only [Int32.reduceToInt]); omega) (by (try simp only [Int32.reduceToInt]); omega)
    try simp only [Int32.reduceToInt] at fy47
    refine mv_istore (pc := 48) B d_Book_fetchWord_48 (by decide) rfl ?_
    refine mv_lpick [0, 1, 2, 3] rfl ?_
    exact lp _ _ _ (Fx.rf.sl ⟨rfl, rfl⟩) (by omega) (by omega) (Nat.lt_succ_self _)
  · skip
    refine mv_iconst (pc := 38) (v := 0) B d_Book_fetchWord_38 (by decide) ?_
    exact mv_iret (pc := 39) B hr rfl d_Book_fetchWord_39 (Nat.le_refl _) (Nat.le_refl _) ⟨_, rfl, Fx.rf⟩
set_option maxHeartbeats 4000000 in
set_option maxRecDepth 100000 in
theorem c_Book_fetchWord_y (l : Launch) {dA : FieldType → ClassId} {D : va_G} {al : Nat → Nat} {ext : mv_Sh} {sk sv : Nat → Nat} (hi : mv_inj (mg dA D al ext)) (σ : mv_H) (hmr : mh (mv_r σ)) (hG : BG 108 σ) (hft : ¬ mv_i σ 108 18 = -1) : mv_C l y_Book_fetchWord (Cond.code y_Book_fetchWord b_Book_fetchWord 5 (Option.some Jvm.ClassFile.FieldType.boolean) :: ma) ({ frames := 1, cells := 0, slots := 0, locals := 25 }) (mg dA D al ext) (mK sk sv) [.ref (al 108)] σ (mv_Ri (fun v σ1 => GFb 108 σ σ1)) := by
  refine mv_C.ofV (cc := b_Book_fetchWord) (nL := 5) (ret := (Option.some Jvm.ClassFile.FieldType.boolean)) (by decide +kernel) rfl hi (Nat.le_of_ble_eq_true rfl) ?_
  intro p e s m below meth c B hNs hr hnm hno
  obtain ⟨th, n, k, h1, h2, h3, h4, h5, h6, h7, h8⟩ := hG
  obtain ⟨⟨ht0, ht1⟩, hf0, hf1⟩ := h8.resolve_left hft
  obtain ⟨hl0, hl1⟩ := h5.2.2.1
  obtain ⟨a1, ⟨a2, -⟩, a4⟩ := h7 (mv_i σ 108 21).toNatClampNeg (by have := i32_cl hf0; omega)
  have b1 : 0 ≤ (mv_a σ 113 (mv_i σ 108 21).toNatClampNeg).toInt := a1
  have b2 : 0 ≤ (mv_a σ 112 (mv_i σ 108 21).toNatClampNeg).toInt := a2
  have b4 : (mv_a σ 113 (mv_i σ 108 21).toNatClampNeg).toInt + (mv_a σ 112 (mv_i σ 108 21).toNatClampNeg).toInt ≤ 65536 := a4
  clear a1 a2 a4
  refine mv_aload_n (pc := 0) B d_Book_fetchWord_0 rfl 0 rfl ?_
  refine mv_getR (pc := 1) (ci := 12) (C := R_Book) (T := F_Book) (N := 65) B 55 rfl rfl (by decide) i_Book (B.2.2.2.1 _ k_1904) rfl (hmr _ 55 _ rfl) d_Book_fetchWord_1 ?_
  refine mv_aload_n (pc := 4) B d_Book_fetchWord_4 rfl 0 rfl ?_
  refine mv_getI (pc := 5) (ci := 12) (C := R_Book) (T := F_Book) (N := 65) B 18 rfl rfl (by decide) i_Book (B.2.2.2.1 _ k_1862) rfl d_Book_fetchWord_5 ?_
  refine mv_lald (pc := 8) B rfl (i32_in ht0 (show (mv_i σ 108 18).toInt < 4100 by omega)) d_Book_fetchWord_8 ?_
  refine mv_topl (fun p9 ep9 => ?_)
  clear ep9
  refine mv_lstore_n (pc := 9) B d_Book_fetchWord_9 rfl (by decide) rfl ?_
  refine mv_aload_n (pc := 10) B d_Book_fetchWord_10 rfl 1 rfl ?_
  refine mv_getI (pc := 11) (ci := 12) (C := R_Book) (T := F_Book) (N := 65) B 20 rfl rfl (by decide) i_Book (B.2.2.2.1 _ k_1865) rfl d_Book_fetchWord_11 ?_
  refine mv_bipush (pc := 14) (v := 8) B d_Book_fetchWord_14 (by decide) ?_
  refine mv_idiv (pc := 16) B d_Book_fetchWord_16 (by decide) ?_
  refine mv_topi (fun n9 en9 => ?_)
  have hn9 : 0 ≤ n9.toInt ∧ n9.toInt ≤ 8 := by rw [en9]; exact i32_div8 hl0 hl1
  refine mv_istore_n (pc := 17) B d_Book_fetchWord_17 rfl (by decide) rfl ?_
  refine mv_lload_n (pc := 18) B d_Book_fetchWord_18 rfl 1 rfl ?_
  refine mv_lconst (pc := 19) (v := 0) B d_Book_fetchWord_19 (by decide) ?_
  refine mv_aload_n (pc := 20) B d_Book_fetchWord_20 rfl 2 rfl ?_
  refine mv_getR (pc := 21) (ci := 12) (C := R_Book) (T := F_Book) (N := 65) B 13 rfl rfl (by decide) i_Book (B.2.2.2.1 _ k_1856) rfl (hmr _ 13 _ rfl) d_Book_fetchWord_21 ?_
  refine mv_aload_n (pc := 24) B d_Book_fetchWord_24 rfl 2 rfl ?_
  refine mv_getI (pc := 25) (ci := 12) (C := R_Book) (T := F_Book) (N := 65) B 21 rfl rfl (by decide) i_Book (B.2.2.2.1 _ k_1866) rfl d_Book_fetchWord_25 ?_
  refine mv_iald (pc := 28) B rfl (i32_in hf0 (show (mv_i σ 108 21).toInt < 4100 by omega)) d_Book_fetchWord_28 ?_
  refine mv_iload_n (pc := 29) B d_Book_fetchWord_29 rfl 0 rfl ?_
  refine mv_isub (pc := 30) B d_Book_fetchWord_30 ?_
  refine mv_i2l (pc := 31) B d_Book_fetchWord_31 ?_
  refine mv_callSNi (pc := 32) (n := 3) B (mK_ok sk sv) hNs (c_Model_in l hi _ _ _ _) rfl (ma_goodc kc_Model_in) (va_Nw.use rfl (hNs.1 _ (List.mem_of_getElem? (i := 7) rfl))) (B.2.2.2.1 _ k_2208) (B.2.2.2.1 _ k_12) ⟨by decide +kernel, by decide +kernel, by decide +kernel⟩ rfl d_Book_fetchWord_32 rfl (Nat.le_of_ble_eq_true rfl) ⟨by decide, by decide⟩ ⟨by decide, by decide⟩ ⟨by decide, by decide⟩ (mv_noH hno _) (fun v32 σ32 h32 => ?_)
  obtain ⟨e32, z32⟩ := h32
  have e32 := e32.symm
  subst e32
  refine mv_if_ne (pc := 35) (tgt := 40) B d_Book_fetchWord_35 rfl (fun h35 => ?_) (fun h35 => ?_)
  · skip
    have z33 := z32.resolve_left h35
    have z34 : (0 : Int) ≤ p9.toInt := z33.2.1
    have z35 : p9.toInt ≤ (mv_a σ 112 (mv_i σ 108 21).toNatClampNeg - n9).toInt64.toInt := z33.2.2
    clear z32 z33 h35 h1 h3 h4 h5 h6 h7 en9 hft
    have lp : ∀ (nn : Nat) (τ : mv_H) (k9 : Int32) (hF : GFb 108 σ τ) (q0 : k9.toInt < n9.toInt) (q1 : -1 ≤ k9.toInt), (k9.toInt + 1).toNat < nn → mv_V p l e ({ frames := 1, cells := 0, slots := 0, locals := 25 }) s m ([.ref (al 108)] : List Value).toArray below meth c (mg dA D al ext) 5 0 0 (mv_Q (mg dA D al ext) below s 0 0 (mv_Ri (fun v σ1 => GFb 108 σ σ1))) τ 50 [(4, .int k9), (3, .int n9), (1, .long p9), (0, .ref (al 108))] [] := by
      intro nn
      induction nn with
      | zero => intro τ k9 hF q0 q1 hm; exact absurd hm (Nat.not_lt_zero _)
      | succ nn ih =>
        intro τ k9 hF q0 q1 hm
        have e21 : mv_i τ 108 21 = mv_i σ 108 21 := hF.1 _ _ id
        have e5 : mv_a τ 113 (mv_i τ 108 21).toNatClampNeg = (mv_a σ 113 (mv_i σ 108 21).toNatClampNeg) := by rw [e21]; exact hF.2.2.2.1 _ _ id
        have hmt : mh (mv_r τ) := by rw [hF.2.2.1]; exact hmr
        refine mv_iload (pc := 50) B d_Book_fetchWord_50 0 rfl ?_
        refine mv_if_lt (pc := 52) (tgt := 93) B d_Book_fetchWord_52 rfl (fun h52 => ?_) (fun h52 => ?_)
        · skip
          refine mv_iconst (pc := 93) (v := 1) B d_Book_fetchWord_93 (by decide) ?_
          exact mv_iret (pc := 94) B hr rfl d_Book_fetchWord_94 (Nat.le_refl _) (Nat.le_refl _) ⟨_, rfl, hF⟩
        · skip
          have hk0 : ¬ k9.toInt < 0 := fun z => h52 (Int32.lt_iff_toInt_lt.mpr z)
          have w2 : (k9 + -1).toInt = k9.toInt - 1 := by rw [i32_add (x := k9) (y := -1) (by show -2147483648 ≤ k9.toInt + -1; omega) (by show k9.toInt + -1 < 2147483648; omega)]; show k9.toInt + -1 = _; omega
          refine mv_aload_n (pc := 55) B d_Book_fetchWord_55 rfl 3 rfl ?_
          refine mv_aload_n (pc := 56) B d_Book_fetchWord_56 rfl 3 rfl ?_
          refine mv_getL (pc := 57) (ci := 12) (C := R_Book) (T := F_Book) (N := 65) B 64 rfl rfl (by decide) i_Book (B.2.2.2.1 _ k_1913) rfl d_Book_fetchWord_57 ?_
          refine mv_bipush (pc := 60) (v := 8) B d_Book_fetchWord_60 (by decide) ?_
          refine mv_lshl (pc := 62) B d_Book_fetchWord_62 ?_
          refine mv_aload_n (pc := 63) B d_Book_fetchWord_63 rfl 3 rfl ?_
          refine mv_getR (pc := 64) (ci := 12) (C := R_Book) (T := F_Book) (N := 65) B 56 rfl rfl (by decide) i_Book (B.2.2.2.1 _ k_1905) rfl (hmt _ 56 _ rfl) d_Book_fetchWord_64 ?_
          refine mv_aload_n (pc := 67) B d_Book_fetchWord_67 rfl 3 rfl ?_
          refine mv_getR (pc := 68) (ci := 12) (C := R_Book) (T := F_Book) (N := 65) B 14 rfl rfl (by decide) i_Book (B.2.2.2.1 _ k_1857) rfl (hmt _ 14 _ rfl) d_Book_fetchWord_68 ?_
          refine mv_aload_n (pc := 71) B d_Book_fetchWord_71 rfl 3 rfl ?_
          refine mv_getI (pc := 72) (ci := 12) (C := R_Book) (T := F_Book) (N := 65) B 21 rfl rfl (by decide) i_Book (B.2.2.2.1 _ k_1866) rfl d_Book_fetchWord_72 ?_
          refine mv_iald (pc := 75) B rfl (i32_in (x := mv_i τ 108 21) (by rw [e21]; exact hf0) (show (mv_i τ 108 21).toInt < 4100 by rw [e21]; omega)) d_Book_fetchWord_75 ?_
          refine mv_lload_n (pc := 76) B d_Book_fetchWord_76 rfl 2 rfl ?_
          refine mv_l2i (pc := 77) B d_Book_fetchWord_77 ?_
          refine mv_iadd (pc := 78) B d_Book_fetchWord_78 ?_
          refine mv_iload (pc := 79) B d_Book_fetchWord_79 0 rfl ?_
          refine mv_iadd (pc := 81) B d_Book_fetchWord_81 ?_
          refine mv_lald (pc := 82) B rfl (by rw [e5]; exact fw_in b1 b2 b4 z34 z35 hn9.1 hn9.2 (Int.not_lt.mp hk0) q0) d_Book_fetchWord_82 ?_
          refine mv_lor (pc := 83) B d_Book_fetchWord_83 ?_
          refine mv_putL (pc := 84) (ci := 12) (C := R_Book) (T := F_Book) (N := 65) B 64 rfl rfl (by decide) i_Book t_Book_ok n_Book (B.2.2.2.1 _ k_1913) rfl rfl d_Book_fetchWord_84 ?_
          refine mv_iinc (pc := 87) (j := 0) (v := -1) B d_Book_fetchWord_87 rfl (by decide) (by decide) rfl ?_
          refine mv_goto (pc := 90) (tgt := 50) B d_Book_fetchWord_90 rfl ?_
          refine mv_lpick [0, 1, 2, 3] rfl ?_
          have a1 := dn_lp w2 q0 hk0 hm
          refine ih _ (k9 + -1) ?_ a1.1 a1.2.1 a1.2.2
          refine Fx.sl hF ?_
          exact ⟨rfl, rfl⟩
    refine mv_aload_n (pc := 40) B d_Book_fetchWord_40 rfl 2 rfl ?_
    refine mv_lconst (pc := 41) (v := 0) B d_Book_fetchWord_41 (by decide) ?_
    refine mv_putL (pc := 42) (ci := 12) (C := R_Book) (T := F_Book) (N := 65) B 64 rfl rfl (by decide) i_Book t_Book_ok n_Book (B.2.2.2.1 _ k_1913) rfl rfl d_Book_fetchWord_42 ?_
    refine mv_iload_n (pc := 45) B d_Book_fetchWord_45 rfl 0 rfl ?_
    refine mv_iconst (pc := 46) (v := 1) B d_Book_fetchWord_46 (by decide) ?_
    refine mv_isub (pc := 47) B d_Book_fetchWord_47 ?_
    refine mv_topi (fun y47 ey47 => ?_)
    have fy47 := i32_subE ey47 (by (try simp only [Int32.reduceToInt]); omega) (by (try simp only [Int32.reduceToInt]); omega)
    try simp only [Int32.reduceToInt] at fy47
    refine mv_istore (pc := 48) B d_Book_fetchWord_48 (by decide) rfl ?_
    refine mv_lpick [0, 1, 2, 3] rfl ?_
    exact lp _ _ _ (Fx.rf.sl ⟨rfl, rfl⟩) (by omega) (by omega) (Nat.lt_succ_self _)
  · skip
    refine mv_iconst (pc := 38) (v := 0) B d_Book_fetchWord_38 (by decide) ?_
    exact mv_iret (pc := 39) B hr rfl d_Book_fetchWord_39 (Nat.le_refl _) (Nat.le_refl _) ⟨_, rfl, Fx.rf⟩
def y_Book_free : MethodName := ⟨"MachineLoomModel$Book", "free", "()J"⟩
abbrev b_Book_free : ByteArray := prog_15_method_77_code
theorem kc_Book_free : Cond.code y_Book_free b_Book_free 6 (Option.some Jvm.ClassFile.FieldType.long) ∈ ma := ma_of (tb_11 _ (List.mem_of_getElem? (i := 193) rfl)) rfl
theorem d_Book_free_0 : decode b_Book_free 0 = .ok (.aload_n 0, 1) := by decide +kernel
theorem d_Book_free_1 : decode b_Book_free 1 = .ok (.getfield 43, 3) := by decide +kernel
theorem d_Book_free_4 : decode b_Book_free 4 = .ok (.bipush 64, 2) := by decide +kernel
theorem d_Book_free_6 : decode b_Book_free 6 = .ok (.if_icmp .ne (7), 3) := by decide +kernel
theorem d_Book_free_9 : decode b_Book_free 9 = .ok (.lconst 0, 1) := by decide +kernel
theorem d_Book_free_10 : decode b_Book_free 10 = .ok (.goto (9), 3) := by decide +kernel
theorem d_Book_free_13 : decode b_Book_free 13 = .ok (.lconst 1, 1) := by decide +kernel
theorem d_Book_free_14 : decode b_Book_free 14 = .ok (.aload_n 0, 1) := by decide +kernel
theorem d_Book_free_15 : decode b_Book_free 15 = .ok (.getfield 43, 3) := by decide +kernel
theorem d_Book_free_18 : decode b_Book_free 18 = .ok (.lshl, 1) := by decide +kernel
theorem d_Book_free_19 : decode b_Book_free 19 = .ok (.lstore_n 1, 1) := by decide +kernel
theorem d_Book_free_20 : decode b_Book_free 20 = .ok (.iconst 0, 1) := by decide +kernel
theorem d_Book_free_21 : decode b_Book_free 21 = .ok (.istore_n 3, 1) := by decide +kernel
theorem d_Book_free_22 : decode b_Book_free 22 = .ok (.iload_n 3, 1) := by decide +kernel
theorem d_Book_free_23 : decode b_Book_free 23 = .ok (.aload_n 0, 1) := by decide +kernel
theorem d_Book_free_24 : decode b_Book_free 24 = .ok (.getfield 238, 3) := by decide +kernel
theorem d_Book_free_27 : decode b_Book_free 27 = .ok (.if_icmp .ge (89), 3) := by decide +kernel
theorem d_Book_free_30 : decode b_Book_free 30 = .ok (.iconst 0, 1) := by decide +kernel
theorem d_Book_free_31 : decode b_Book_free 31 = .ok (.istore 4, 2) := by decide +kernel
theorem d_Book_free_33 : decode b_Book_free 33 = .ok (.iconst 0, 1) := by decide +kernel
theorem d_Book_free_34 : decode b_Book_free 34 = .ok (.istore 5, 2) := by decide +kernel
theorem d_Book_free_36 : decode b_Book_free 36 = .ok (.iload 5, 2) := by decide +kernel
theorem d_Book_free_38 : decode b_Book_free 38 = .ok (.aload_n 0, 1) := by decide +kernel
theorem d_Book_free_39 : decode b_Book_free 39 = .ok (.getfield 43, 3) := by decide +kernel
theorem d_Book_free_42 : decode b_Book_free 42 = .ok (.if_icmp .ge (50), 3) := by decide +kernel
theorem d_Book_free_45 : decode b_Book_free 45 = .ok (.aload_n 0, 1) := by decide +kernel
theorem d_Book_free_46 : decode b_Book_free 46 = .ok (.getfield 65, 3) := by decide +kernel
theorem d_Book_free_49 : decode b_Book_free 49 = .ok (.aload_n 0, 1) := by decide +kernel
theorem d_Book_free_50 : decode b_Book_free 50 = .ok (.getfield 55, 3) := by decide +kernel
theorem d_Book_free_53 : decode b_Book_free 53 = .ok (.iload_n 3, 1) := by decide +kernel
theorem d_Book_free_54 : decode b_Book_free 54 = .ok (.iaload, 1) := by decide +kernel
theorem d_Book_free_55 : decode b_Book_free 55 = .ok (.iload 5, 2) := by decide +kernel
theorem d_Book_free_57 : decode b_Book_free 57 = .ok (.iadd, 1) := by decide +kernel
theorem d_Book_free_58 : decode b_Book_free 58 = .ok (.baload, 1) := by decide +kernel
theorem d_Book_free_59 : decode b_Book_free 59 = .ok (.bipush 48, 2) := by decide +kernel
theorem d_Book_free_61 : decode b_Book_free 61 = .ok (.if_icmp .eq (25), 3) := by decide +kernel
theorem d_Book_free_64 : decode b_Book_free 64 = .ok (.aload_n 0, 1) := by decide +kernel
theorem d_Book_free_65 : decode b_Book_free 65 = .ok (.getfield 65, 3) := by decide +kernel
theorem d_Book_free_68 : decode b_Book_free 68 = .ok (.aload_n 0, 1) := by decide +kernel
theorem d_Book_free_69 : decode b_Book_free 69 = .ok (.getfield 55, 3) := by decide +kernel
theorem d_Book_free_72 : decode b_Book_free 72 = .ok (.iload_n 3, 1) := by decide +kernel
theorem d_Book_free_73 : decode b_Book_free 73 = .ok (.iaload, 1) := by decide +kernel
theorem d_Book_free_74 : decode b_Book_free 74 = .ok (.iload 5, 2) := by decide +kernel
theorem d_Book_free_76 : decode b_Book_free 76 = .ok (.iadd, 1) := by decide +kernel
theorem d_Book_free_77 : decode b_Book_free 77 = .ok (.baload, 1) := by decide +kernel
theorem d_Book_free_78 : decode b_Book_free 78 = .ok (.bipush 49, 2) := by decide +kernel
theorem d_Book_free_80 : decode b_Book_free 80 = .ok (.if_icmp .eq (6), 3) := by decide +kernel
theorem d_Book_free_83 : decode b_Book_free 83 = .ok (.iinc 4 (1), 3) := by decide +kernel
theorem d_Book_free_86 : decode b_Book_free 86 = .ok (.iinc 5 (1), 3) := by decide +kernel
theorem d_Book_free_89 : decode b_Book_free 89 = .ok (.goto (-53), 3) := by decide +kernel
theorem d_Book_free_92 : decode b_Book_free 92 = .ok (.lload_n 1, 1) := by decide +kernel
theorem d_Book_free_93 : decode b_Book_free 93 = .ok (.iload 4, 2) := by decide +kernel
theorem d_Book_free_95 : decode b_Book_free 95 = .ok (.bipush 64, 2) := by decide +kernel
theorem d_Book_free_97 : decode b_Book_free 97 = .ok (.if_icmp .ne (7), 3) := by decide +kernel
theorem d_Book_free_100 : decode b_Book_free 100 = .ok (.lconst 0, 1) := by decide +kernel
theorem d_Book_free_101 : decode b_Book_free 101 = .ok (.goto (7), 3) := by decide +kernel
theorem d_Book_free_104 : decode b_Book_free 104 = .ok (.lconst 1, 1) := by decide +kernel
theorem d_Book_free_105 : decode b_Book_free 105 = .ok (.iload 4, 2) := by decide +kernel
theorem d_Book_free_107 : decode b_Book_free 107 = .ok (.lshl, 1) := by decide +kernel
theorem d_Book_free_108 : decode b_Book_free 108 = .ok (.lsub, 1) := by decide +kernel
theorem d_Book_free_109 : decode b_Book_free 109 = .ok (.lstore_n 1, 1) := by decide +kernel
theorem d_Book_free_110 : decode b_Book_free 110 = .ok (.iinc 3 (1), 3) := by decide +kernel
theorem d_Book_free_113 : decode b_Book_free 113 = .ok (.goto (-91), 3) := by decide +kernel
theorem d_Book_free_116 : decode b_Book_free 116 = .ok (.lload_n 1, 1) := by decide +kernel
theorem d_Book_free_117 : decode b_Book_free 117 = .ok (.lreturn, 1) := by decide +kernel
set_option maxHeartbeats 4000000 in
set_option maxRecDepth 100000 in
theorem c_Book_free_x (l : Launch) {dA : FieldType → ClassId} {D : va_G} {al : Nat → Nat} {ext : mv_Sh} {sk sv : Nat → Nat} (hi : mv_inj (mg dA D al ext)) (σ : mv_H) (k : Nat) (hmr : mh (mv_r σ)) (hC : CO 74 k σ) : mv_C l y_Book_free (Cond.code y_Book_free b_Book_free 6 (Option.some Jvm.ClassFile.FieldType.long) :: ma) ({ frames := 0, cells := 0, slots := 0, locals := 0 }) (mg dA D al ext) (mK sk sv) [.ref (al 74)] σ (mv_Rl (fun v σ1 => σ1 = σ)) := by
  refine mv_C.ofV (cc := b_Book_free) (nL := 6) (ret := (Option.some Jvm.ClassFile.FieldType.long)) (by decide +kernel) rfl hi (Nat.le_of_ble_eq_true rfl) ?_
  intro p e s m below meth c B hNs hr hnm hno
  obtain ⟨c1, c2, ⟨c3, c4⟩, c5⟩ := hC
  have lp : ∀ (nn : Nat) (o9 : Int32) (s9 : Int64) (q0 : 0 ≤ o9.toInt), (20000 - o9.toInt).toNat < nn → mv_V p l e ({ frames := 0, cells := 0, slots := 0, locals := 0 }) s m ([.ref (al 74)] : List Value).toArray below meth c (mg dA D al ext) 6 0 0 (mv_Q (mg dA D al ext) below s 0 0 (mv_Rl (fun v σ1 => σ1 = σ))) σ 22 [(3, .int o9), (1, .long s9), (0, .ref (al 74))] [] := by
    intro nn
    induction nn with
    | zero => intro o9 s9 q0 hm; exact absurd hm (Nat.not_lt_zero _)
    | succ nn ih =>
      intro o9 s9 q0 hm
      refine mv_iload_n (pc := 22) B d_Book_free_22 rfl 0 rfl ?_
      refine mv_aload_n (pc := 23) B d_Book_free_23 rfl 2 rfl ?_
      refine mv_getI (pc := 24) (ci := 12) (C := R_Book) (T := F_Book) (N := 65) B 29 rfl rfl (by decide) i_Book (B.2.2.2.1 _ k_1874) rfl d_Book_free_24 ?_
      refine mv_icmp_ge (pc := 27) (tgt := 116) B d_Book_free_27 rfl (fun h27 => ?_) (fun h27 => ?_)
      · skip
        refine mv_lload_n (pc := 116) B d_Book_free_116 rfl 1 rfl ?_
        exact mv_lret (pc := 117) B hr d_Book_free_117 (Nat.le_refl _) (Nat.le_refl _) ⟨_, rfl, rfl⟩
      · skip
        rw [Int32.le_iff_toInt_le] at h27
        have w1 : (o9 + 1).toInt = o9.toInt + 1 := i32_inc (by omega)
        have ci : 0 ≤ (mv_a σ 84 o9.toNatClampNeg).toInt ∧ (mv_a σ 84 o9.toNatClampNeg).toInt + (mv_i σ 74 20).toInt ≤ 32768 := c5 o9.toNatClampNeg (by have := i32_cl q0; omega)
        have ihO := ih
        clear ih
        have lpi : ∀ (nn : Nat) (i9 : Int32) (n9 : Int32) (q1 : 0 ≤ i9.toInt), (20000 - i9.toInt).toNat < nn → mv_V p l e ({ frames := 0, cells := 0, slots := 0, locals := 0 }) s m ([.ref (al 74)] : List Value).toArray below meth c (mg dA D al ext) 6 0 0 (mv_Q (mg dA D al ext) below s 0 0 (mv_Rl (fun v σ1 => σ1 = σ))) σ 36 [(5, .int i9), (4, .int n9), (3, .int o9), (1, .long s9), (0, .ref (al 74))] [] := by
          intro nn
          induction nn with
          | zero => intro i9 n9 q1 hm; exact absurd hm (Nat.not_lt_zero _)
          | succ nn ih =>
            intro i9 n9 q1 hm
            refine mv_iload (pc := 36) B d_Book_free_36 0 rfl ?_
            refine mv_aload_n (pc := 38) B d_Book_free_38 rfl 4 rfl ?_
            refine mv_getI (pc := 39) (ci := 12) (C := R_Book) (T := F_Book) (N := 65) B 20 rfl rfl (by decide) i_Book (B.2.2.2.1 _ k_1865) rfl d_Book_free_39 ?_
            refine mv_icmp_ge (pc := 42) (tgt := 92) B d_Book_free_42 rfl (fun h42 => ?_) (fun h42 => ?_)
            · skip
              refine mv_lload_n (pc := 92) B d_Book_free_92 rfl 3 rfl ?_
              refine mv_iload (pc := 93) B d_Book_free_93 1 rfl ?_
              refine mv_bipush (pc := 95) (v := 64) B d_Book_free_95 (by decide) ?_
              refine mv_icmp_ne (pc := 97) (tgt := 104) B d_Book_free_97 rfl (fun h97 => ?_) (fun h97 => ?_)
              · skip
                refine mv_lconst (pc := 104) (v := 1) B d_Book_free_104 (by decide) ?_
                refine mv_iload (pc := 105) B d_Book_free_105 1 rfl ?_
                refine mv_lshl (pc := 107) B d_Book_free_107 ?_
                refine mv_lsub (pc := 108) B d_Book_free_108 ?_
                refine mv_lstore_n (pc := 109) B d_Book_free_109 rfl (by decide) rfl ?_
                refine mv_iinc (pc := 110) (j := 3) (v := 1) B d_Book_free_110 rfl (by decide) (by decide) rfl ?_
                refine mv_goto (pc := 113) (tgt := 22) B d_Book_free_113 rfl ?_
                refine mv_lpick [0, 1, 4] rfl ?_
                exact ihO _ _ (by omega) (by omega)
              · skip
                refine mv_lconst (pc := 100) (v := 0) B d_Book_free_100 (by decide) ?_
                refine mv_goto (pc := 101) (tgt := 108) B d_Book_free_101 rfl ?_
                refine mv_lsub (pc := 108) B d_Book_free_108 ?_
                refine mv_lstore_n (pc := 109) B d_Book_free_109 rfl (by decide) rfl ?_
                refine mv_iinc (pc := 110) (j := 3) (v := 1) B d_Book_free_110 rfl (by decide) (by decide) rfl ?_
                refine mv_goto (pc := 113) (tgt := 22) B d_Book_free_113 rfl ?_
                refine mv_lpick [0, 1, 4] rfl ?_
                exact ihO _ _ (by omega) (by omega)
            · skip
              rw [Int32.le_iff_toInt_le] at h42
              have w2 : (i9 + 1).toInt = i9.toInt + 1 := i32_inc (by omega)
              refine mv_aload_n (pc := 45) B d_Book_free_45 rfl 4 rfl ?_
              refine mv_getR (pc := 46) (ci := 12) (C := R_Book) (T := F_Book) (N := 65) B 28 rfl rfl (by decide) i_Book (B.2.2.2.1 _ k_1873) rfl (hmr _ 28 _ rfl) d_Book_free_46 ?_
              refine mv_aload_n (pc := 49) B d_Book_free_49 rfl 4 rfl ?_
              refine mv_getR (pc := 50) (ci := 12) (C := R_Book) (T := F_Book) (N := 65) B 25 rfl rfl (by decide) i_Book (B.2.2.2.1 _ k_1870) rfl (hmr _ 25 _ rfl) d_Book_free_50 ?_
              refine mv_iload_n (pc := 53) B d_Book_free_53 rfl 2 rfl ?_
              refine mv_iald (pc := 54) B rfl (i32_in q0 (show o9.toInt < 4100 by omega)) d_Book_free_54 ?_
              refine mv_iload (pc := 55) B d_Book_free_55 0 rfl ?_
              refine mv_iadd (pc := 57) B d_Book_free_57 ?_
              refine mv_topi (fun y57 ey57 => ?_)
              have fy57 := i32_addE ey57 (by (try simp only [Int32.reduceToInt]); omega) (by (try simp only [Int32.reduceToInt]); omega)
              try simp only [Int32.reduceToInt] at fy57
              refine mv_bald (pc := 58) B rfl (i32_in (show 0 ≤ y57.toInt by omega) (show y57.toInt < 32768 by omega)) d_Book_free_58 ?_
              refine mv_bipush (pc := 59) (v := 48) B d_Book_free_59 (by decide) ?_
              refine mv_icmp_eq (pc := 61) (tgt := 86) B d_Book_free_61 rfl (fun h61 => ?_) (fun h61 => ?_)
              · skip
                refine mv_iinc (pc := 86) (j := 0) (v := 1) B d_Book_free_86 rfl (by decide) (by decide) rfl ?_
                refine mv_goto (pc := 89) (tgt := 36) B d_Book_free_89 rfl ?_
                refine mv_lpick [0, 1, 2, 3, 4] rfl ?_
                exact ih _ _ (by omega) (by omega)
              · skip
                refine mv_aload_n (pc := 64) B d_Book_free_64 rfl 4 rfl ?_
                refine mv_getR (pc := 65) (ci := 12) (C := R_Book) (T := F_Book) (N := 65) B 28 rfl rfl (by decide) i_Book (B.2.2.2.1 _ k_1873) rfl (hmr _ 28 _ rfl) d_Book_free_65 ?_
                refine mv_aload_n (pc := 68) B d_Book_free_68 rfl 4 rfl ?_
                refine mv_getR (pc := 69) (ci := 12) (C := R_Book) (T := F_Book) (N := 65) B 25 rfl rfl (by decide) i_Book (B.2.2.2.1 _ k_1870) rfl (hmr _ 25 _ rfl) d_Book_free_69 ?_
                refine mv_iload_n (pc := 72) B d_Book_free_72 rfl 2 rfl ?_
                refine mv_iald (pc := 73) B rfl (i32_in q0 (show o9.toInt < 4100 by omega)) d_Book_free_73 ?_
                refine mv_iload (pc := 74) B d_Book_free_74 0 rfl ?_
                refine mv_iadd (pc := 76) B d_Book_free_76 ?_
                refine mv_topi (fun y76 ey76 => ?_)
                have fy76 := i32_addE ey76 (by (try simp only [Int32.reduceToInt]); omega) (by (try simp only [Int32.reduceToInt]); omega)
                try simp only [Int32.reduceToInt] at fy76
                refine mv_bald (pc := 77) B rfl (i32_in (show 0 ≤ y76.toInt by omega) (show y76.toInt < 32768 by omega)) d_Book_free_77 ?_
                refine mv_bipush (pc := 78) (v := 49) B d_Book_free_78 (by decide) ?_
                refine mv_icmp_eq (pc := 80) (tgt := 86) B d_Book_free_80 rfl (fun h80 => ?_) (fun h80 => ?_)
                · skip
                  refine mv_iinc (pc := 86) (j := 0) (v := 1) B d_Book_free_86 rfl (by decide) (by decide) rfl ?_
                  refine mv_goto (pc := 89) (tgt := 36) B d_Book_free_89 rfl ?_
                  refine mv_lpick [0, 1, 2, 3, 4] rfl ?_
                  exact ih _ _ (by omega) (by omega)
                · skip
                  refine mv_iinc (pc := 83) (j := 1) (v := 1) B d_Book_free_83 rfl (by decide) (by decide) rfl ?_
                  refine mv_iinc (pc := 86) (j := 1) (v := 1) B d_Book_free_86 rfl (by decide) (by decide) rfl ?_
                  refine mv_goto (pc := 89) (tgt := 36) B d_Book_free_89 rfl ?_
                  refine mv_lpick [0, 1, 2, 3, 4] rfl ?_
                  exact ih _ _ (by omega) (by omega)
        refine mv_iconst (pc := 30) (v := 0) B d_Book_free_30 (by decide) ?_
        refine mv_istore (pc := 31) B d_Book_free_31 (by decide) rfl ?_
        refine mv_iconst (pc := 33) (v := 0) B d_Book_free_33 (by decide) ?_
        refine mv_istore (pc := 34) B d_Book_free_34 (by decide) rfl ?_
        refine mv_lpick [0, 1, 2, 3, 4] rfl ?_
        exact lpi _ _ _ (by decide) (Nat.lt_succ_self _)
  refine mv_aload_n (pc := 0) B d_Book_free_0 rfl 0 rfl ?_
  refine mv_getI (pc := 1) (ci := 12) (C := R_Book) (T := F_Book) (N := 65) B 20 rfl rfl (by decide) i_Book (B.2.2.2.1 _ k_1865) rfl d_Book_free_1 ?_
  refine mv_bipush (pc := 4) (v := 64) B d_Book_free_4 (by decide) ?_
  refine mv_icmp_ne (pc := 6) (tgt := 13) B d_Book_free_6 rfl (fun h6 => ?_) (fun h6 => ?_)
  · skip
    refine mv_lconst (pc := 13) (v := 1) B d_Book_free_13 (by decide) ?_
    refine mv_aload_n (pc := 14) B d_Book_free_14 rfl 0 rfl ?_
    refine mv_getI (pc := 15) (ci := 12) (C := R_Book) (T := F_Book) (N := 65) B 20 rfl rfl (by decide) i_Book (B.2.2.2.1 _ k_1865) rfl d_Book_free_15 ?_
    refine mv_lshl (pc := 18) B d_Book_free_18 ?_
    refine mv_lstore_n (pc := 19) B d_Book_free_19 rfl (by decide) rfl ?_
    refine mv_iconst (pc := 20) (v := 0) B d_Book_free_20 (by decide) ?_
    refine mv_istore_n (pc := 21) B d_Book_free_21 rfl (by decide) rfl ?_
    refine mv_lpick [0, 1, 2] rfl ?_
    exact lp _ _ _ (by decide) (Nat.lt_succ_self _)
  · skip
    refine mv_lconst (pc := 9) (v := 0) B d_Book_free_9 (by decide) ?_
    refine mv_goto (pc := 10) (tgt := 19) B d_Book_free_10 rfl ?_
    refine mv_lstore_n (pc := 19) B d_Book_free_19 rfl (by decide) rfl ?_
    refine mv_iconst (pc := 20) (v := 0) B d_Book_free_20 (by decide) ?_
    refine mv_istore_n (pc := 21) B d_Book_free_21 rfl (by decide) rfl ?_
    refine mv_lpick [0, 1, 2] rfl ?_
    exact lp _ _ _ (by decide) (Nat.lt_succ_self _)
set_option maxHeartbeats 4000000 in
set_option maxRecDepth 100000 in
theorem c_Book_free_y (l : Launch) {dA : FieldType → ClassId} {D : va_G} {al : Nat → Nat} {ext : mv_Sh} {sk sv : Nat → Nat} (hi : mv_inj (mg dA D al ext)) (σ : mv_H) (k : Nat) (hmr : mh (mv_r σ)) (hC : CO 108 k σ) : mv_C l y_Book_free (Cond.code y_Book_free b_Book_free 6 (Option.some Jvm.ClassFile.FieldType.long) :: ma) ({ frames := 0, cells := 0, slots := 0, locals := 0 }) (mg dA D al ext) (mK sk sv) [.ref (al 108)] σ (mv_Rl (fun v σ1 => σ1 = σ)) := by
  refine mv_C.ofV (cc := b_Book_free) (nL := 6) (ret := (Option.some Jvm.ClassFile.FieldType.long)) (by decide +kernel) rfl hi (Nat.le_of_ble_eq_true rfl) ?_
  intro p e s m below meth c B hNs hr hnm hno
  obtain ⟨c1, c2, ⟨c3, c4⟩, c5⟩ := hC
  have lp : ∀ (nn : Nat) (o9 : Int32) (s9 : Int64) (q0 : 0 ≤ o9.toInt), (20000 - o9.toInt).toNat < nn → mv_V p l e ({ frames := 0, cells := 0, slots := 0, locals := 0 }) s m ([.ref (al 108)] : List Value).toArray below meth c (mg dA D al ext) 6 0 0 (mv_Q (mg dA D al ext) below s 0 0 (mv_Rl (fun v σ1 => σ1 = σ))) σ 22 [(3, .int o9), (1, .long s9), (0, .ref (al 108))] [] := by
    intro nn
    induction nn with
    | zero => intro o9 s9 q0 hm; exact absurd hm (Nat.not_lt_zero _)
    | succ nn ih =>
      intro o9 s9 q0 hm
      refine mv_iload_n (pc := 22) B d_Book_free_22 rfl 0 rfl ?_
      refine mv_aload_n (pc := 23) B d_Book_free_23 rfl 2 rfl ?_
      refine mv_getI (pc := 24) (ci := 12) (C := R_Book) (T := F_Book) (N := 65) B 29 rfl rfl (by decide) i_Book (B.2.2.2.1 _ k_1874) rfl d_Book_free_24 ?_
      refine mv_icmp_ge (pc := 27) (tgt := 116) B d_Book_free_27 rfl (fun h27 => ?_) (fun h27 => ?_)
      · skip
        refine mv_lload_n (pc := 116) B d_Book_free_116 rfl 1 rfl ?_
        exact mv_lret (pc := 117) B hr d_Book_free_117 (Nat.le_refl _) (Nat.le_refl _) ⟨_, rfl, rfl⟩
      · skip
        rw [Int32.le_iff_toInt_le] at h27
        have w1 : (o9 + 1).toInt = o9.toInt + 1 := i32_inc (by omega)
        have ci : 0 ≤ (mv_a σ 118 o9.toNatClampNeg).toInt ∧ (mv_a σ 118 o9.toNatClampNeg).toInt + (mv_i σ 108 20).toInt ≤ 32768 := c5 o9.toNatClampNeg (by have := i32_cl q0; omega)
        have ihO := ih
        clear ih
        have lpi : ∀ (nn : Nat) (i9 : Int32) (n9 : Int32) (q1 : 0 ≤ i9.toInt), (20000 - i9.toInt).toNat < nn → mv_V p l e ({ frames := 0, cells := 0, slots := 0, locals := 0 }) s m ([.ref (al 108)] : List Value).toArray below meth c (mg dA D al ext) 6 0 0 (mv_Q (mg dA D al ext) below s 0 0 (mv_Rl (fun v σ1 => σ1 = σ))) σ 36 [(5, .int i9), (4, .int n9), (3, .int o9), (1, .long s9), (0, .ref (al 108))] [] := by
          intro nn
          induction nn with
          | zero => intro i9 n9 q1 hm; exact absurd hm (Nat.not_lt_zero _)
          | succ nn ih =>
            intro i9 n9 q1 hm
            refine mv_iload (pc := 36) B d_Book_free_36 0 rfl ?_
            refine mv_aload_n (pc := 38) B d_Book_free_38 rfl 4 rfl ?_
            refine mv_getI (pc := 39) (ci := 12) (C := R_Book) (T := F_Book) (N := 65) B 20 rfl rfl (by decide) i_Book (B.2.2.2.1 _ k_1865) rfl d_Book_free_39 ?_
            refine mv_icmp_ge (pc := 42) (tgt := 92) B d_Book_free_42 rfl (fun h42 => ?_) (fun h42 => ?_)
            · skip
              refine mv_lload_n (pc := 92) B d_Book_free_92 rfl 3 rfl ?_
              refine mv_iload (pc := 93) B d_Book_free_93 1 rfl ?_
              refine mv_bipush (pc := 95) (v := 64) B d_Book_free_95 (by decide) ?_
              refine mv_icmp_ne (pc := 97) (tgt := 104) B d_Book_free_97 rfl (fun h97 => ?_) (fun h97 => ?_)
              · skip
                refine mv_lconst (pc := 104) (v := 1) B d_Book_free_104 (by decide) ?_
                refine mv_iload (pc := 105) B d_Book_free_105 1 rfl ?_
                refine mv_lshl (pc := 107) B d_Book_free_107 ?_
                refine mv_lsub (pc := 108) B d_Book_free_108 ?_
                refine mv_lstore_n (pc := 109) B d_Book_free_109 rfl (by decide) rfl ?_
                refine mv_iinc (pc := 110) (j := 3) (v := 1) B d_Book_free_110 rfl (by decide) (by decide) rfl ?_
                refine mv_goto (pc := 113) (tgt := 22) B d_Book_free_113 rfl ?_
                refine mv_lpick [0, 1, 4] rfl ?_
                exact ihO _ _ (by omega) (by omega)
              · skip
                refine mv_lconst (pc := 100) (v := 0) B d_Book_free_100 (by decide) ?_
                refine mv_goto (pc := 101) (tgt := 108) B d_Book_free_101 rfl ?_
                refine mv_lsub (pc := 108) B d_Book_free_108 ?_
                refine mv_lstore_n (pc := 109) B d_Book_free_109 rfl (by decide) rfl ?_
                refine mv_iinc (pc := 110) (j := 3) (v := 1) B d_Book_free_110 rfl (by decide) (by decide) rfl ?_
                refine mv_goto (pc := 113) (tgt := 22) B d_Book_free_113 rfl ?_
                refine mv_lpick [0, 1, 4] rfl ?_
                exact ihO _ _ (by omega) (by omega)
            · skip
              rw [Int32.le_iff_toInt_le] at h42
              have w2 : (i9 + 1).toInt = i9.toInt + 1 := i32_inc (by omega)
              refine mv_aload_n (pc := 45) B d_Book_free_45 rfl 4 rfl ?_
              refine mv_getR (pc := 46) (ci := 12) (C := R_Book) (T := F_Book) (N := 65) B 28 rfl rfl (by decide) i_Book (B.2.2.2.1 _ k_1873) rfl (hmr _ 28 _ rfl) d_Book_free_46 ?_
              refine mv_aload_n (pc := 49) B d_Book_free_49 rfl 4 rfl ?_
              refine mv_getR (pc := 50) (ci := 12) (C := R_Book) (T := F_Book) (N := 65) B 25 rfl rfl (by decide) i_Book (B.2.2.2.1 _ k_1870) rfl (hmr _ 25 _ rfl) d_Book_free_50 ?_
              refine mv_iload_n (pc := 53) B d_Book_free_53 rfl 2 rfl ?_
              refine mv_iald (pc := 54) B rfl (i32_in q0 (show o9.toInt < 4100 by omega)) d_Book_free_54 ?_
              refine mv_iload (pc := 55) B d_Book_free_55 0 rfl ?_
              refine mv_iadd (pc := 57) B d_Book_free_57 ?_
              refine mv_topi (fun y57 ey57 => ?_)
              have fy57 := i32_addE ey57 (by (try simp only [Int32.reduceToInt]); omega) (by (try simp only [Int32.reduceToInt]); omega)
              try simp only [Int32.reduceToInt] at fy57
              refine mv_bald (pc := 58) B rfl (i32_in (show 0 ≤ y57.toInt by omega) (show y57.toInt < 32768 by omega)) d_Book_free_58 ?_
              refine mv_bipush (pc := 59) (v := 48) B d_Book_free_59 (by decide) ?_
              refine mv_icmp_eq (pc := 61) (tgt := 86) B d_Book_free_61 rfl (fun h61 => ?_) (fun h61 => ?_)
              · skip
                refine mv_iinc (pc := 86) (j := 0) (v := 1) B d_Book_free_86 rfl (by decide) (by decide) rfl ?_
                refine mv_goto (pc := 89) (tgt := 36) B d_Book_free_89 rfl ?_
                refine mv_lpick [0, 1, 2, 3, 4] rfl ?_
                exact ih _ _ (by omega) (by omega)
              · skip
                refine mv_aload_n (pc := 64) B d_Book_free_64 rfl 4 rfl ?_
                refine mv_getR (pc := 65) (ci := 12) (C := R_Book) (T := F_Book) (N := 65) B 28 rfl rfl (by decide) i_Book (B.2.2.2.1 _ k_1873) rfl (hmr _ 28 _ rfl) d_Book_free_65 ?_
                refine mv_aload_n (pc := 68) B d_Book_free_68 rfl 4 rfl ?_
                refine mv_getR (pc := 69) (ci := 12) (C := R_Book) (T := F_Book) (N := 65) B 25 rfl rfl (by decide) i_Book (B.2.2.2.1 _ k_1870) rfl (hmr _ 25 _ rfl) d_Book_free_69 ?_
                refine mv_iload_n (pc := 72) B d_Book_free_72 rfl 2 rfl ?_
                refine mv_iald (pc := 73) B rfl (i32_in q0 (show o9.toInt < 4100 by omega)) d_Book_free_73 ?_
                refine mv_iload (pc := 74) B d_Book_free_74 0 rfl ?_
                refine mv_iadd (pc := 76) B d_Book_free_76 ?_
                refine mv_topi (fun y76 ey76 => ?_)
                have fy76 := i32_addE ey76 (by (try simp only [Int32.reduceToInt]); omega) (by (try simp only [Int32.reduceToInt]); omega)
                try simp only [Int32.reduceToInt] at fy76
                refine mv_bald (pc := 77) B rfl (i32_in (show 0 ≤ y76.toInt by omega) (show y76.toInt < 32768 by omega)) d_Book_free_77 ?_
                refine mv_bipush (pc := 78) (v := 49) B d_Book_free_78 (by decide) ?_
                refine mv_icmp_eq (pc := 80) (tgt := 86) B d_Book_free_80 rfl (fun h80 => ?_) (fun h80 => ?_)
                · skip
                  refine mv_iinc (pc := 86) (j := 0) (v := 1) B d_Book_free_86 rfl (by decide) (by decide) rfl ?_
                  refine mv_goto (pc := 89) (tgt := 36) B d_Book_free_89 rfl ?_
                  refine mv_lpick [0, 1, 2, 3, 4] rfl ?_
                  exact ih _ _ (by omega) (by omega)
                · skip
                  refine mv_iinc (pc := 83) (j := 1) (v := 1) B d_Book_free_83 rfl (by decide) (by decide) rfl ?_
                  refine mv_iinc (pc := 86) (j := 1) (v := 1) B d_Book_free_86 rfl (by decide) (by decide) rfl ?_
                  refine mv_goto (pc := 89) (tgt := 36) B d_Book_free_89 rfl ?_
                  refine mv_lpick [0, 1, 2, 3, 4] rfl ?_
                  exact ih _ _ (by omega) (by omega)
        refine mv_iconst (pc := 30) (v := 0) B d_Book_free_30 (by decide) ?_
        refine mv_istore (pc := 31) B d_Book_free_31 (by decide) rfl ?_
        refine mv_iconst (pc := 33) (v := 0) B d_Book_free_33 (by decide) ?_
        refine mv_istore (pc := 34) B d_Book_free_34 (by decide) rfl ?_
        refine mv_lpick [0, 1, 2, 3, 4] rfl ?_
        exact lpi _ _ _ (by decide) (Nat.lt_succ_self _)
  refine mv_aload_n (pc := 0) B d_Book_free_0 rfl 0 rfl ?_
  refine mv_getI (pc := 1) (ci := 12) (C := R_Book) (T := F_Book) (N := 65) B 20 rfl rfl (by decide) i_Book (B.2.2.2.1 _ k_1865) rfl d_Book_free_1 ?_
  refine mv_bipush (pc := 4) (v := 64) B d_Book_free_4 (by decide) ?_
  refine mv_icmp_ne (pc := 6) (tgt := 13) B d_Book_free_6 rfl (fun h6 => ?_) (fun h6 => ?_)
  · skip
    refine mv_lconst (pc := 13) (v := 1) B d_Book_free_13 (by decide) ?_
    refine mv_aload_n (pc := 14) B d_Book_free_14 rfl 0 rfl ?_
    refine mv_getI (pc := 15) (ci := 12) (C := R_Book) (T := F_Book) (N := 65) B 20 rfl rfl (by decide) i_Book (B.2.2.2.1 _ k_1865) rfl d_Book_free_15 ?_
    refine mv_lshl (pc := 18) B d_Book_free_18 ?_
    refine mv_lstore_n (pc := 19) B d_Book_free_19 rfl (by decide) rfl ?_
    refine mv_iconst (pc := 20) (v := 0) B d_Book_free_20 (by decide) ?_
    refine mv_istore_n (pc := 21) B d_Book_free_21 rfl (by decide) rfl ?_
    refine mv_lpick [0, 1, 2] rfl ?_
    exact lp _ _ _ (by decide) (Nat.lt_succ_self _)
  · skip
    refine mv_lconst (pc := 9) (v := 0) B d_Book_free_9 (by decide) ?_
    refine mv_goto (pc := 10) (tgt := 19) B d_Book_free_10 rfl ?_
    refine mv_lstore_n (pc := 19) B d_Book_free_19 rfl (by decide) rfl ?_
    refine mv_iconst (pc := 20) (v := 0) B d_Book_free_20 (by decide) ?_
    refine mv_istore_n (pc := 21) B d_Book_free_21 rfl (by decide) rfl ?_
    refine mv_lpick [0, 1, 2] rfl ?_
    exact lp _ _ _ (by decide) (Nat.lt_succ_self _)
def y_Book_step : MethodName := ⟨"MachineLoomModel$Book", "step", "(J)I"⟩
abbrev b_Book_step : ByteArray := prog_15_method_74_code
theorem kc_Book_step : Cond.code y_Book_step b_Book_step 5 (Option.some Jvm.ClassFile.FieldType.int) ∈ ma := ma_of (tb_11 _ (List.mem_of_getElem? (i := 95) rfl)) rfl
theorem d_Book_step_0 : decode b_Book_step 0 = .ok (.aload_n 0, 1) := by decide +kernel
theorem d_Book_step_1 : decode b_Book_step 1 = .ok (.lload_n 1, 1) := by decide +kernel
theorem d_Book_step_2 : decode b_Book_step 2 = .ok (.putfield 488, 3) := by decide +kernel
theorem d_Book_step_5 : decode b_Book_step 5 = .ok (.aload_n 0, 1) := by decide +kernel
theorem d_Book_step_6 : decode b_Book_step 6 = .ok (.aload_n 0, 1) := by decide +kernel
theorem d_Book_step_7 : decode b_Book_step 7 = .ok (.getfield 485, 3) := by decide +kernel
theorem d_Book_step_10 : decode b_Book_step 10 = .ok (.ifCond .ge (8), 3) := by decide +kernel
theorem d_Book_step_13 : decode b_Book_step 13 = .ok (.bipush (-2), 2) := by decide +kernel
theorem d_Book_step_15 : decode b_Book_step 15 = .ok (.goto (4), 3) := by decide +kernel
theorem d_Book_step_18 : decode b_Book_step 18 = .ok (.iconst 0, 1) := by decide +kernel
theorem d_Book_step_19 : decode b_Book_step 19 = .ok (.putfield 502, 3) := by decide +kernel
theorem d_Book_step_22 : decode b_Book_step 22 = .ok (.aload_n 0, 1) := by decide +kernel
theorem d_Book_step_23 : decode b_Book_step 23 = .ok (.iconst 0, 1) := by decide +kernel
theorem d_Book_step_24 : decode b_Book_step 24 = .ok (.putfield 441, 3) := by decide +kernel
theorem d_Book_step_27 : decode b_Book_step 27 = .ok (.aload_n 0, 1) := by decide +kernel
theorem d_Book_step_28 : decode b_Book_step 28 = .ok (.iconst 0, 1) := by decide +kernel
theorem d_Book_step_29 : decode b_Book_step 29 = .ok (.putfield 463, 3) := by decide +kernel
theorem d_Book_step_32 : decode b_Book_step 32 = .ok (.aload_n 0, 1) := by decide +kernel
theorem d_Book_step_33 : decode b_Book_step 33 = .ok (.getfield 502, 3) := by decide +kernel
theorem d_Book_step_36 : decode b_Book_step 36 = .ok (.ifCond .ne (16), 3) := by decide +kernel
theorem d_Book_step_39 : decode b_Book_step 39 = .ok (.aload_n 0, 1) := by decide +kernel
theorem d_Book_step_40 : decode b_Book_step 40 = .ok (.aload_n 0, 1) := by decide +kernel
theorem d_Book_step_41 : decode b_Book_step 41 = .ok (.getfield 58, 3) := by decide +kernel
theorem d_Book_step_44 : decode b_Book_step 44 = .ok (.aload_n 0, 1) := by decide +kernel
theorem d_Book_step_45 : decode b_Book_step 45 = .ok (.getfield 485, 3) := by decide +kernel
theorem d_Book_step_48 : decode b_Book_step 48 = .ok (.iaload, 1) := by decide +kernel
theorem d_Book_step_49 : decode b_Book_step 49 = .ok (.invokevirtual 514, 3) := by decide +kernel
theorem d_Book_step_52 : decode b_Book_step 52 = .ok (.aload_n 0, 1) := by decide +kernel
theorem d_Book_step_53 : decode b_Book_step 53 = .ok (.getfield 502, 3) := by decide +kernel
theorem d_Book_step_56 : decode b_Book_step 56 = .ok (.ifCond .eq (8), 3) := by decide +kernel
theorem d_Book_step_59 : decode b_Book_step 59 = .ok (.aload_n 0, 1) := by decide +kernel
theorem d_Book_step_60 : decode b_Book_step 60 = .ok (.getfield 502, 3) := by decide +kernel
theorem d_Book_step_63 : decode b_Book_step 63 = .ok (.ireturn, 1) := by decide +kernel
theorem d_Book_step_64 : decode b_Book_step 64 = .ok (.iconst 0, 1) := by decide +kernel
theorem d_Book_step_65 : decode b_Book_step 65 = .ok (.istore_n 3, 1) := by decide +kernel
theorem d_Book_step_66 : decode b_Book_step 66 = .ok (.iconst 0, 1) := by decide +kernel
theorem d_Book_step_67 : decode b_Book_step 67 = .ok (.istore 4, 2) := by decide +kernel
theorem d_Book_step_69 : decode b_Book_step 69 = .ok (.iload 4, 2) := by decide +kernel
theorem d_Book_step_71 : decode b_Book_step 71 = .ok (.aload_n 0, 1) := by decide +kernel
theorem d_Book_step_72 : decode b_Book_step 72 = .ok (.getfield 441, 3) := by decide +kernel
theorem d_Book_step_75 : decode b_Book_step 75 = .ok (.if_icmp .ge (31), 3) := by decide +kernel
theorem d_Book_step_78 : decode b_Book_step 78 = .ok (.iload_n 3, 1) := by decide +kernel
theorem d_Book_step_79 : decode b_Book_step 79 = .ok (.aload_n 0, 1) := by decide +kernel
theorem d_Book_step_80 : decode b_Book_step 80 = .ok (.getfield 117, 3) := by decide +kernel
theorem d_Book_step_83 : decode b_Book_step 83 = .ok (.iload 4, 2) := by decide +kernel
theorem d_Book_step_85 : decode b_Book_step 85 = .ok (.iaload, 1) := by decide +kernel
theorem d_Book_step_86 : decode b_Book_step 86 = .ok (.aload_n 0, 1) := by decide +kernel
theorem d_Book_step_87 : decode b_Book_step 87 = .ok (.getfield 39, 3) := by decide +kernel
theorem d_Book_step_90 : decode b_Book_step 90 = .ok (.if_icmp .ne (7), 3) := by decide +kernel
theorem d_Book_step_93 : decode b_Book_step 93 = .ok (.iconst 1, 1) := by decide +kernel
theorem d_Book_step_94 : decode b_Book_step 94 = .ok (.goto (4), 3) := by decide +kernel
theorem d_Book_step_97 : decode b_Book_step 97 = .ok (.iconst 0, 1) := by decide +kernel
theorem d_Book_step_98 : decode b_Book_step 98 = .ok (.ior, 1) := by decide +kernel
theorem d_Book_step_99 : decode b_Book_step 99 = .ok (.istore_n 3, 1) := by decide +kernel
theorem d_Book_step_100 : decode b_Book_step 100 = .ok (.iinc 4 (1), 3) := by decide +kernel
theorem d_Book_step_103 : decode b_Book_step 103 = .ok (.goto (-34), 3) := by decide +kernel
theorem d_Book_step_106 : decode b_Book_step 106 = .ok (.iconst 0, 1) := by decide +kernel
theorem d_Book_step_107 : decode b_Book_step 107 = .ok (.istore 4, 2) := by decide +kernel
theorem d_Book_step_109 : decode b_Book_step 109 = .ok (.iload 4, 2) := by decide +kernel
theorem d_Book_step_111 : decode b_Book_step 111 = .ok (.aload_n 0, 1) := by decide +kernel
theorem d_Book_step_112 : decode b_Book_step 112 = .ok (.getfield 441, 3) := by decide +kernel
theorem d_Book_step_115 : decode b_Book_step 115 = .ok (.if_icmp .ge (78), 3) := by decide +kernel
theorem d_Book_step_118 : decode b_Book_step 118 = .ok (.aload_n 0, 1) := by decide +kernel
theorem d_Book_step_119 : decode b_Book_step 119 = .ok (.getfield 32, 3) := by decide +kernel
theorem d_Book_step_122 : decode b_Book_step 122 = .ok (.aload_n 0, 1) := by decide +kernel
theorem d_Book_step_123 : decode b_Book_step 123 = .ok (.getfield 117, 3) := by decide +kernel
theorem d_Book_step_126 : decode b_Book_step 126 = .ok (.iload 4, 2) := by decide +kernel
theorem d_Book_step_128 : decode b_Book_step 128 = .ok (.iaload, 1) := by decide +kernel
theorem d_Book_step_129 : decode b_Book_step 129 = .ok (.baload, 1) := by decide +kernel
theorem d_Book_step_130 : decode b_Book_step 130 = .ok (.ifCond .eq (38), 3) := by decide +kernel
theorem d_Book_step_133 : decode b_Book_step 133 = .ok (.aload_n 0, 1) := by decide +kernel
theorem d_Book_step_134 : decode b_Book_step 134 = .ok (.getfield 114, 3) := by decide +kernel
theorem d_Book_step_137 : decode b_Book_step 137 = .ok (.aload_n 0, 1) := by decide +kernel
theorem d_Book_step_138 : decode b_Book_step 138 = .ok (.getfield 29, 3) := by decide +kernel
theorem d_Book_step_141 : decode b_Book_step 141 = .ok (.aload_n 0, 1) := by decide +kernel
theorem d_Book_step_142 : decode b_Book_step 142 = .ok (.getfield 117, 3) := by decide +kernel
theorem d_Book_step_145 : decode b_Book_step 145 = .ok (.iload 4, 2) := by decide +kernel
theorem d_Book_step_147 : decode b_Book_step 147 = .ok (.iaload, 1) := by decide +kernel
theorem d_Book_step_148 : decode b_Book_step 148 = .ok (.iaload, 1) := by decide +kernel
theorem d_Book_step_149 : decode b_Book_step 149 = .ok (.aload_n 0, 1) := by decide +kernel
theorem d_Book_step_150 : decode b_Book_step 150 = .ok (.getfield 120, 3) := by decide +kernel
theorem d_Book_step_153 : decode b_Book_step 153 = .ok (.iload 4, 2) := by decide +kernel
theorem d_Book_step_155 : decode b_Book_step 155 = .ok (.iaload, 1) := by decide +kernel
theorem d_Book_step_156 : decode b_Book_step 156 = .ok (.iadd, 1) := by decide +kernel
theorem d_Book_step_157 : decode b_Book_step 157 = .ok (.aload_n 0, 1) := by decide +kernel
theorem d_Book_step_158 : decode b_Book_step 158 = .ok (.getfield 126, 3) := by decide +kernel
theorem d_Book_step_161 : decode b_Book_step 161 = .ok (.iload 4, 2) := by decide +kernel
theorem d_Book_step_163 : decode b_Book_step 163 = .ok (.laload, 1) := by decide +kernel
theorem d_Book_step_164 : decode b_Book_step 164 = .ok (.lastore, 1) := by decide +kernel
theorem d_Book_step_165 : decode b_Book_step 165 = .ok (.goto (22), 3) := by decide +kernel
theorem d_Book_step_168 : decode b_Book_step 168 = .ok (.aload_n 0, 1) := by decide +kernel
theorem d_Book_step_169 : decode b_Book_step 169 = .ok (.getfield 110, 3) := by decide +kernel
theorem d_Book_step_172 : decode b_Book_step 172 = .ok (.aload_n 0, 1) := by decide +kernel
theorem d_Book_step_173 : decode b_Book_step 173 = .ok (.getfield 117, 3) := by decide +kernel
theorem d_Book_step_176 : decode b_Book_step 176 = .ok (.iload 4, 2) := by decide +kernel
theorem d_Book_step_178 : decode b_Book_step 178 = .ok (.iaload, 1) := by decide +kernel
theorem d_Book_step_179 : decode b_Book_step 179 = .ok (.aload_n 0, 1) := by decide +kernel
theorem d_Book_step_180 : decode b_Book_step 180 = .ok (.getfield 126, 3) := by decide +kernel
theorem d_Book_step_183 : decode b_Book_step 183 = .ok (.iload 4, 2) := by decide +kernel
theorem d_Book_step_185 : decode b_Book_step 185 = .ok (.laload, 1) := by decide +kernel
theorem d_Book_step_186 : decode b_Book_step 186 = .ok (.lastore, 1) := by decide +kernel
theorem d_Book_step_187 : decode b_Book_step 187 = .ok (.iinc 4 (1), 3) := by decide +kernel
theorem d_Book_step_190 : decode b_Book_step 190 = .ok (.goto (-81), 3) := by decide +kernel
theorem d_Book_step_193 : decode b_Book_step 193 = .ok (.aload_n 0, 1) := by decide +kernel
theorem d_Book_step_194 : decode b_Book_step 194 = .ok (.getfield 39, 3) := by decide +kernel
theorem d_Book_step_197 : decode b_Book_step 197 = .ok (.ifCond .lt (46), 3) := by decide +kernel
theorem d_Book_step_200 : decode b_Book_step 200 = .ok (.iload_n 3, 1) := by decide +kernel
theorem d_Book_step_201 : decode b_Book_step 201 = .ok (.ifCond .ne (42), 3) := by decide +kernel
theorem d_Book_step_204 : decode b_Book_step 204 = .ok (.aload_n 0, 1) := by decide +kernel
theorem d_Book_step_205 : decode b_Book_step 205 = .ok (.getfield 110, 3) := by decide +kernel
theorem d_Book_step_208 : decode b_Book_step 208 = .ok (.aload_n 0, 1) := by decide +kernel
theorem d_Book_step_209 : decode b_Book_step 209 = .ok (.getfield 39, 3) := by decide +kernel
theorem d_Book_step_212 : decode b_Book_step 212 = .ok (.aload_n 0, 1) := by decide +kernel
theorem d_Book_step_213 : decode b_Book_step 213 = .ok (.getfield 110, 3) := by decide +kernel
theorem d_Book_step_216 : decode b_Book_step 216 = .ok (.aload_n 0, 1) := by decide +kernel
theorem d_Book_step_217 : decode b_Book_step 217 = .ok (.getfield 39, 3) := by decide +kernel
theorem d_Book_step_220 : decode b_Book_step 220 = .ok (.laload, 1) := by decide +kernel
theorem d_Book_step_221 : decode b_Book_step 221 = .ok (.aload_n 0, 1) := by decide +kernel
theorem d_Book_step_222 : decode b_Book_step 222 = .ok (.getfield 43, 3) := by decide +kernel
theorem d_Book_step_225 : decode b_Book_step 225 = .ok (.bipush 8, 2) := by decide +kernel
theorem d_Book_step_227 : decode b_Book_step 227 = .ok (.idiv, 1) := by decide +kernel
theorem d_Book_step_228 : decode b_Book_step 228 = .ok (.i2l, 1) := by decide +kernel
theorem d_Book_step_229 : decode b_Book_step 229 = .ok (.ladd, 1) := by decide +kernel
theorem d_Book_step_230 : decode b_Book_step 230 = .ok (.aload_n 0, 1) := by decide +kernel
theorem d_Book_step_231 : decode b_Book_step 231 = .ok (.getfield 23, 3) := by decide +kernel
theorem d_Book_step_234 : decode b_Book_step 234 = .ok (.aload_n 0, 1) := by decide +kernel
theorem d_Book_step_235 : decode b_Book_step 235 = .ok (.getfield 39, 3) := by decide +kernel
theorem d_Book_step_238 : decode b_Book_step 238 = .ok (.iaload, 1) := by decide +kernel
theorem d_Book_step_239 : decode b_Book_step 239 = .ok (.invokestatic 444, 3) := by decide +kernel
theorem d_Book_step_242 : decode b_Book_step 242 = .ok (.lastore, 1) := by decide +kernel
theorem d_Book_step_243 : decode b_Book_step 243 = .ok (.iconst 0, 1) := by decide +kernel
theorem d_Book_step_244 : decode b_Book_step 244 = .ok (.ireturn, 1) := by decide +kernel
set_option maxHeartbeats 4000000 in
set_option maxRecDepth 100000 in
theorem c_Book_step_x (l : Launch) {dA : FieldType → ClassId} {D : va_G} {al : Nat → Nat} {ext : mv_Sh} {sk sv : Nat → Nat} (hi : mv_inj (mg dA D al ext)) (σ : mv_H) (w0 : Int64) (hmr : mh (mv_r σ)) (hG : BG 74 σ) (hU : CU 74 σ) : mv_C l y_Book_step (Cond.code y_Book_step b_Book_step 5 (Option.some Jvm.ClassFile.FieldType.int) :: ma) ({ frames := 2017, cells := 0, slots := 0, locals := 49248 }) (mg dA D al ext) (mK sk sv) [.ref (al 74), .long w0] σ (mv_Ri (fun v σ1 => MB 74 σ σ1)) := by
  refine mv_C.ofV (cc := b_Book_step) (nL := 5) (ret := (Option.some Jvm.ClassFile.FieldType.int)) (by decide +kernel) rfl hi (Nat.le_of_ble_eq_true rfl) ?_
  intro p e s m below meth c B hNs hr hnm hno
  refine mv_aload_n (pc := 0) B d_Book_step_0 rfl 0 rfl ?_
  refine mv_lload_n (pc := 1) B d_Book_step_1 rfl 1 rfl ?_
  refine mv_putL (pc := 2) (ci := 12) (C := R_Book) (T := F_Book) (N := 65) B 52 rfl rfl (by decide) i_Book t_Book_ok n_Book (B.2.2.2.1 _ k_1901) rfl rfl d_Book_step_2 ?_
  refine mv_aload_n (pc := 5) B d_Book_step_5 rfl 0 rfl ?_
  refine mv_aload_n (pc := 6) B d_Book_step_6 rfl 0 rfl ?_
  refine mv_getI (pc := 7) (ci := 12) (C := R_Book) (T := F_Book) (N := 65) B 63 rfl rfl (by decide) i_Book (B.2.2.2.1 _ k_1912) rfl d_Book_step_7 ?_
  refine mv_if_ge (pc := 10) (tgt := 18) B d_Book_step_10 rfl (fun h10 => ?_) (fun h10 => ?_)
  · skip
    refine mv_iconst (pc := 18) (v := 0) B d_Book_step_18 (by decide) ?_
    refine mv_putI (pc := 19) (ci := 12) (C := R_Book) (T := F_Book) (N := 65) B 53 rfl rfl (by decide) i_Book t_Book_ok n_Book (B.2.2.2.1 _ k_1902) rfl rfl rfl rfl d_Book_step_19 ?_
    refine mv_aload_n (pc := 22) B d_Book_step_22 rfl 0 rfl ?_
    refine mv_iconst (pc := 23) (v := 0) B d_Book_step_23 (by decide) ?_
    refine mv_putI (pc := 24) (ci := 12) (C := R_Book) (T := F_Book) (N := 65) B 61 rfl rfl (by decide) i_Book t_Book_ok n_Book (B.2.2.2.1 _ k_1910) rfl rfl rfl rfl d_Book_step_24 ?_
    refine mv_aload_n (pc := 27) B d_Book_step_27 rfl 0 rfl ?_
    refine mv_iconst (pc := 28) (v := 0) B d_Book_step_28 (by decide) ?_
    refine mv_putI (pc := 29) (ci := 12) (C := R_Book) (T := F_Book) (N := 65) B 62 rfl rfl (by decide) i_Book t_Book_ok n_Book (B.2.2.2.1 _ k_1911) rfl rfl rfl rfl d_Book_step_29 ?_
    refine mv_gen (fun S32 eS32 => ?_)
    have hM : MB 74 σ S32 := by
      rw [eS32]
      refine Fx.si (Fx.si (Fx.si (Fx.sl Fx.rf ?_) ?_) ?_) ?_
      · exact ⟨rfl, Or.inl rfl⟩
      · exact ⟨rfl, Or.inl rfl⟩
      · exact ⟨rfl, Or.inr (Or.inl rfl)⟩
      · exact ⟨rfl, Or.inr (Or.inr (Or.inl rfl))⟩
    have x53 : mv_i S32 74 53 = 0 ∨ mv_i S32 74 53 = -2 := by
      rw [eS32, mv_si_o _ _ (by omega), mv_si_o _ _ (by omega), mv_si_s]
      first | exact Or.inl rfl | exact Or.inr rfl
    have x61 : mv_i S32 74 61 = 0 := by rw [eS32, mv_si_o _ _ (by omega), mv_si_s]
    have x62 : mv_i S32 74 62 = 0 := by rw [eS32, mv_si_s]
    have x63 : mv_i S32 74 63 = mv_i σ 74 63 := by rw [eS32, mv_si_o _ _ (by omega), mv_si_o _ _ (by omega), mv_si_o _ _ (by omega)]; rfl
    have xs : mv_i S32 74 53 = 0 → ¬ mv_i σ 74 63 < 0 := by
      intro z
      rw [eS32, mv_si_o _ _ (by omega), mv_si_o _ _ (by omega), mv_si_s] at z
      first | exact absurd z (by decide) | exact i32_nlt h10
    have hmr : mh (mv_r S32) := by rw [hM.2.2.1]; exact hmr
    have hG := hG.mf hM
    have hU : CU 74 S32 := hU.fr x63 (hM.1 _ _ (by omega))
    clear eS32
    refine mv_aload_n (pc := 32) B d_Book_step_32 rfl 0 rfl ?_
    refine mv_getI (pc := 33) (ci := 12) (C := R_Book) (T := F_Book) (N := 65) B 53 rfl rfl (by decide) i_Book (B.2.2.2.1 _ k_1902) rfl d_Book_step_33 ?_
    refine mv_if_ne (pc := 36) (tgt := 52) B d_Book_step_36 rfl (fun h36 => ?_) (fun h36 => ?_)
    · skip
      refine mv_aload_n (pc := 52) B d_Book_step_52 rfl 0 rfl ?_
      refine mv_getI (pc := 53) (ci := 12) (C := R_Book) (T := F_Book) (N := 65) B 53 rfl rfl (by decide) i_Book (B.2.2.2.1 _ k_1902) rfl d_Book_step_53 ?_
      refine mv_if_eq (pc := 56) (tgt := 64) B d_Book_step_56 rfl (fun h56 => ?_) (fun h56 => ?_)
      · skip
        exact absurd h56 h36
      · skip
        refine mv_aload_n (pc := 59) B d_Book_step_59 rfl 0 rfl ?_
        refine mv_getI (pc := 60) (ci := 12) (C := R_Book) (T := F_Book) (N := 65) B 53 rfl rfl (by decide) i_Book (B.2.2.2.1 _ k_1902) rfl d_Book_step_60 ?_
        exact mv_iret (pc := 63) B hr rfl d_Book_step_63 (Nat.le_refl _) (Nat.le_refl _) ⟨_, rfl, by first | exact hMs | exact hM⟩
    · skip
      obtain ⟨th, n, k, g1, g2, g3, g4, g5, ⟨g, g6, g7⟩, g8, g9⟩ := hG
      have xc := xs h36
      rw [← x63] at xc
      have hcu : 0 ≤ (mv_i S32 74 63).toInt ∧ (mv_i S32 74 63).toInt < k := by
        rcases hU with z | z
        · exact absurd (show mv_i S32 74 63 < 0 by rw [z]; decide) xc
        · rw [g5.1] at z
          exact z
      have hS : ST 74 th n k g S32 := ⟨hmr, g6, g4, g1, g2, g8, g5, hcu⟩
      have hD : DY 74 th 0 S32 := ⟨by rw [x61]; rfl, fun j hj => absurd hj (Nat.not_lt_zero _)⟩
      have hT := RT.rf hS hD (by rw [x62]; rfl)
      have hci := i32_cl hcu.1
      have hk4 := g5.2.1
      have hob := g7 (mv_i S32 74 63).toNatClampNeg (by omega)
      obtain ⟨H, hHn, hRB⟩ : ∃ H, H ≤ n ∧ RB 74 n 62 0 H g S32 (mv_a S32 85 (mv_i S32 74 63).toNatClampNeg) := by
        rcases hob with z | ⟨t, H, z1, z2, z3, z4, z5, z6, z7⟩
        · exact ⟨0, Nat.zero_le _, Nat.zero_le _, Or.inl ⟨z, Nat.le_refl _⟩⟩
        · exact ⟨H, z3, z3, Or.inr ⟨t, z1, z2, z4, z5, by omega, z7, Nat.zero_le _⟩⟩
      refine mv_aload_n (pc := 39) B d_Book_step_39 rfl 0 rfl ?_
      refine mv_aload_n (pc := 40) B d_Book_step_40 rfl 0 rfl ?_
      refine mv_getR (pc := 41) (ci := 12) (C := R_Book) (T := F_Book) (N := 65) B 26 rfl rfl (by decide) i_Book (B.2.2.2.1 _ k_1871) rfl (hmr _ 26 _ rfl) d_Book_step_41 ?_
      refine mv_aload_n (pc := 44) B d_Book_step_44 rfl 0 rfl ?_
      refine mv_getI (pc := 45) (ci := 12) (C := R_Book) (T := F_Book) (N := 65) B 63 rfl rfl (by decide) i_Book (B.2.2.2.1 _ k_1912) rfl d_Book_step_45 ?_
      refine mv_iald (pc := 48) B rfl (i32_in hcu.1 (show (mv_i S32 74 63).toInt < 4100 by omega)) d_Book_step_48 ?_
      refine mv_callVv (pc := 49) (n := 1) (ci := 12) (C := R_Book) B (mK_ok sk sv) hNs rfl rfl (c_Book_body_x l hi 62 _ _ th n k 0 H g hRB hT) rfl (ma_goodc kc_Book_run) (B.2.2.2.1 _ k_2496) (B.2.2.2.1 _ k_2498) (B.2.2.2.1 _ ks_130) (B.2.2.2.1 _ k_13) ⟨by decide +kernel, by decide +kernel, by decide +kernel⟩ rfl d_Book_step_49 rfl (Nat.le_of_ble_eq_true rfl) ⟨by first | decide | (dsimp only; omega), by first | decide | (dsimp only; omega)⟩ ⟨Nat.le_refl _, Nat.le_refl _⟩ ⟨Nat.le_refl _, Nat.le_refl _⟩ (mv_noH hno _) (fun σ49 h49 => ?_)
      obtain ⟨w9, hw9, hR⟩ := h49
      have hMs := hM.tr hR.1.mf
      have hmr : mh (mv_r σ49) := hR.2.1.1
      have hS := hR.2.1
      have hD := hR.2.2.1
      have hD1 := hD.1
      have x18 : mv_i σ49 74 18 = mv_i S32 74 18 := hR.1.1 _ _ (by omega)
      have lp2 : ∀ (nn : Nat) (τ : mv_H) (k9 : Int32) (b9 : Int32) (hP : PF 74 σ49 τ) (q0 : 0 ≤ k9.toInt), (20000 - k9.toInt).toNat < nn → mv_V p l e ({ frames := 2017, cells := 0, slots := 0, locals := 49248 }) s m ([.ref (al 74), .long w0] : List Value).toArray below meth c (mg dA D al ext) 5 0 0 (mv_Q (mg dA D al ext) below s 0 0 (mv_Ri (fun v σ1 => MB 74 σ σ1))) τ 109 [(4, .int k9), (3, .int b9), (0, .ref (al 74)), (1, .long w0)] [] := by
        intro nn
        induction nn with
        | zero => intro τ k9 b9 hP q0 hm; exact absurd hm (Nat.not_lt_zero _)
        | succ nn ih =>
          intro τ k9 b9 hP q0 hm
          have hSt := hS.pf hP
          have hDt := hD.pf hP
          have x61 : (mv_i τ 74 61).toInt = w9 := hDt.1
          have hmr : mh (mv_r τ) := hSt.1
          refine mv_iload (pc := 109) B d_Book_step_109 0 rfl ?_
          refine mv_aload_n (pc := 111) B d_Book_step_111 rfl 2 rfl ?_
          refine mv_getI (pc := 112) (ci := 12) (C := R_Book) (T := F_Book) (N := 65) B 61 rfl rfl (by decide) i_Book (B.2.2.2.1 _ k_1910) rfl d_Book_step_112 ?_
          refine mv_icmp_ge (pc := 115) (tgt := 193) B d_Book_step_115 rfl (fun h115 => ?_) (fun h115 => ?_)
          · skip
            refine mv_aload_n (pc := 193) B d_Book_step_193 rfl 2 rfl ?_
            refine mv_getI (pc := 194) (ci := 12) (C := R_Book) (T := F_Book) (N := 65) B 18 rfl rfl (by decide) i_Book (B.2.2.2.1 _ k_1862) rfl d_Book_step_194 ?_
            refine mv_if_lt (pc := 197) (tgt := 243) B d_Book_step_197 rfl (fun h197 => ?_) (fun h197 => ?_)
            · skip
              refine mv_iconst (pc := 243) (v := 0) B d_Book_step_243 (by decide) ?_
              exact mv_iret (pc := 244) B hr rfl d_Book_step_244 (Nat.le_refl _) (Nat.le_refl _) ⟨_, rfl, by first | exact hMs.tr hP.mb | exact hMs.tr (PF.mb (Fx.sb hP (Or.inl rfl)))⟩
            · skip
              have hx0 : ¬ (mv_i τ 74 18).toInt < 0 := fun z => h197 (Int32.lt_iff_toInt_lt.mpr z)
              have hx1 : 0 ≤ (mv_i τ 74 18).toInt ∧ (mv_i τ 74 18).toInt < th := by
                rw [hP.1 _ _ id, x18] at hx0 ⊢
                rcases g9 with z | z
                · exact absurd (by rw [z]; decide) hx0
                · exact z.1
              refine mv_iload_n (pc := 200) B d_Book_step_200 rfl 1 rfl ?_
              refine mv_if_ne (pc := 201) (tgt := 243) B d_Book_step_201 rfl (fun h201 => ?_) (fun h201 => ?_)
              · skip
                refine mv_iconst (pc := 243) (v := 0) B d_Book_step_243 (by decide) ?_
                exact mv_iret (pc := 244) B hr rfl d_Book_step_244 (Nat.le_refl _) (Nat.le_refl _) ⟨_, rfl, by first | exact hMs.tr hP.mb | exact hMs.tr (PF.mb (Fx.sb hP (Or.inl rfl)))⟩
              · skip
                refine mv_aload_n (pc := 204) B d_Book_step_204 rfl 2 rfl ?_
                refine mv_getR (pc := 205) (ci := 12) (C := R_Book) (T := F_Book) (N := 65) B 55 rfl rfl (by decide) i_Book (B.2.2.2.1 _ k_1904) rfl (hmr _ 55 _ rfl) d_Book_step_205 ?_
                refine mv_aload_n (pc := 208) B d_Book_step_208 rfl 2 rfl ?_
                refine mv_getI (pc := 209) (ci := 12) (C := R_Book) (T := F_Book) (N := 65) B 18 rfl rfl (by decide) i_Book (B.2.2.2.1 _ k_1862) rfl d_Book_step_209 ?_
                refine mv_aload_n (pc := 212) B d_Book_step_212 rfl 2 rfl ?_
                refine mv_getR (pc := 213) (ci := 12) (C := R_Book) (T := F_Book) (N := 65) B 55 rfl rfl (by decide) i_Book (B.2.2.2.1 _ k_1904) rfl (hmr _ 55 _ rfl) d_Book_step_213 ?_
                refine mv_aload_n (pc := 216) B d_Book_step_216 rfl 2 rfl ?_
                refine mv_getI (pc := 217) (ci := 12) (C := R_Book) (T := F_Book) (N := 65) B 18 rfl rfl (by decide) i_Book (B.2.2.2.1 _ k_1862) rfl d_Book_step_217 ?_
                refine mv_lald (pc := 220) B rfl (i32_in (x := (mv_i τ 74 18)) (by omega) (show (mv_i τ 74 18).toInt < 4100 by omega)) d_Book_step_220 ?_
                refine mv_aload_n (pc := 221) B d_Book_step_221 rfl 2 rfl ?_
                refine mv_getI (pc := 222) (ci := 12) (C := R_Book) (T := F_Book) (N := 65) B 20 rfl rfl (by decide) i_Book (B.2.2.2.1 _ k_1865) rfl d_Book_step_222 ?_
                refine mv_bipush (pc := 225) (v := 8) B d_Book_step_225 (by decide) ?_
                refine mv_idiv (pc := 227) B d_Book_step_227 (by decide) ?_
                refine mv_i2l (pc := 228) B d_Book_step_228 ?_
                refine mv_ladd (pc := 229) B d_Book_step_229 ?_
                refine mv_aload_n (pc := 230) B d_Book_step_230 rfl 2 rfl ?_
                refine mv_getR (pc := 231) (ci := 12) (C := R_Book) (T := F_Book) (N := 65) B 12 rfl rfl (by decide) i_Book (B.2.2.2.1 _ k_1855) rfl (hmr _ 12 _ rfl) d_Book_step_231 ?_
                refine mv_aload_n (pc := 234) B d_Book_step_234 rfl 2 rfl ?_
                refine mv_getI (pc := 235) (ci := 12) (C := R_Book) (T := F_Book) (N := 65) B 18 rfl rfl (by decide) i_Book (B.2.2.2.1 _ k_1862) rfl d_Book_step_235 ?_
                refine mv_iald (pc := 238) B rfl (i32_in (x := (mv_i τ 74 18)) (by omega) (show (mv_i τ 74 18).toInt < 4100 by omega)) d_Book_step_238 ?_
                refine mv_callSl (pc := 239) (n := 2) B (mK_ok sk sv) hNs (c_Book_cut l hi _ _ _) rfl (ma_goodc kc_Book_cut) (B.2.2.2.1 _ k_2427) (B.2.2.2.1 _ k_2428) (B.2.2.2.1 _ k_13) ⟨by decide +kernel, by decide +kernel, by decide +kernel⟩ rfl d_Book_step_239 rfl (Nat.le_of_ble_eq_true rfl) ⟨by first | decide | (dsimp only; omega), by first | decide | (dsimp only; omega)⟩ ⟨Nat.le_refl _, Nat.le_refl _⟩ ⟨Nat.le_refl _, Nat.le_refl _⟩ (mv_noH hno _) (fun v239 σ239 h239 => ?_)
                have e239 := h239.symm
                subst e239
                refine mv_last (pc := 242) B rfl (i32_in (x := (mv_i τ 74 18)) (by omega) (show (mv_i τ 74 18).toInt < 4100 by omega)) d_Book_step_242 ?_
                refine mv_iconst (pc := 243) (v := 0) B d_Book_step_243 (by decide) ?_
                exact mv_iret (pc := 244) B hr rfl d_Book_step_244 (Nat.le_refl _) (Nat.le_refl _) ⟨_, rfl, by first | exact hMs.tr hP.mb | exact hMs.tr (PF.mb (Fx.sb hP (Or.inl rfl)))⟩
          · skip
            rw [Int32.le_iff_toInt_le] at h115
            rw [x61] at h115
            have w2 : (k9 + 1).toInt = k9.toInt + 1 := i32_inc (by omega)
            have hK : WK 74 th τ (mv_a τ 103 k9.toNatClampNeg) (mv_a τ 104 k9.toNatClampNeg) := hDt.2 k9.toNatClampNeg (by have := i32_cl q0; omega)
            have hK2 := hK.2.1
            refine mv_aload_n (pc := 118) B d_Book_step_118 rfl 2 rfl ?_
            refine mv_getR (pc := 119) (ci := 12) (C := R_Book) (T := F_Book) (N := 65) B 15 rfl rfl (by decide) i_Book (B.2.2.2.1 _ k_1858) rfl (hmr _ 15 _ rfl) d_Book_step_119 ?_
            refine mv_aload_n (pc := 122) B d_Book_step_122 rfl 2 rfl ?_
            refine mv_getR (pc := 123) (ci := 12) (C := R_Book) (T := F_Book) (N := 65) B 57 rfl rfl (by decide) i_Book (B.2.2.2.1 _ k_1906) rfl (hmr _ 57 _ rfl) d_Book_step_123 ?_
            refine mv_iload (pc := 126) B d_Book_step_126 0 rfl ?_
            refine mv_iald (pc := 128) B rfl (i32_in (show 0 ≤ k9.toInt by omega) (show k9.toInt < 12000 by omega)) d_Book_step_128 ?_
            refine mv_zald (pc := 129) B rfl (i32_in hK.1 (show (mv_a τ 103 k9.toNatClampNeg).toInt < 4100 by omega)) d_Book_step_129 ?_
            refine mv_if_eq (pc := 130) (tgt := 168) B d_Book_step_130 rfl (fun h130 => ?_) (fun h130 => ?_)
            · skip
              refine mv_aload_n (pc := 168) B d_Book_step_168 rfl 2 rfl ?_
              refine mv_getR (pc := 169) (ci := 12) (C := R_Book) (T := F_Book) (N := 65) B 55 rfl rfl (by decide) i_Book (B.2.2.2.1 _ k_1904) rfl (hmr _ 55 _ rfl) d_Book_step_169 ?_
              refine mv_aload_n (pc := 172) B d_Book_step_172 rfl 2 rfl ?_
              refine mv_getR (pc := 173) (ci := 12) (C := R_Book) (T := F_Book) (N := 65) B 57 rfl rfl (by decide) i_Book (B.2.2.2.1 _ k_1906) rfl (hmr _ 57 _ rfl) d_Book_step_173 ?_
              refine mv_iload (pc := 176) B d_Book_step_176 0 rfl ?_
              refine mv_iald (pc := 178) B rfl (i32_in (show 0 ≤ k9.toInt by omega) (show k9.toInt < 12000 by omega)) d_Book_step_178 ?_
              refine mv_aload_n (pc := 179) B d_Book_step_179 rfl 2 rfl ?_
              refine mv_getR (pc := 180) (ci := 12) (C := R_Book) (T := F_Book) (N := 65) B 60 rfl rfl (by decide) i_Book (B.2.2.2.1 _ k_1909) rfl (hmr _ 60 _ rfl) d_Book_step_180 ?_
              refine mv_iload (pc := 183) B d_Book_step_183 0 rfl ?_
              refine mv_lald (pc := 185) B rfl (i32_in (show 0 ≤ k9.toInt by omega) (show k9.toInt < 12000 by omega)) d_Book_step_185 ?_
              refine mv_last (pc := 186) B rfl (i32_in hK.1 (show (mv_a τ 103 k9.toNatClampNeg).toInt < 4100 by omega)) d_Book_step_186 ?_
              refine mv_iinc (pc := 187) (j := 0) (v := 1) B d_Book_step_187 rfl (by decide) (by decide) rfl ?_
              refine mv_goto (pc := 190) (tgt := 109) B d_Book_step_190 rfl ?_
              refine mv_lpick [0, 1, 2, 3] rfl ?_
              exact ih _ _ _ (by first | exact hP.sb (Or.inr rfl) | exact hP.sb (Or.inl rfl)) (by omega) (by omega)
            · skip
              have hin : 0 ≤ (mv_a τ 79 (mv_a τ 103 k9.toNatClampNeg).toNatClampNeg).toInt + (mv_a τ 104 k9.toNatClampNeg).toInt ∧ (mv_a τ 79 (mv_a τ 103 k9.toNatClampNeg).toNatClampNeg).toInt + (mv_a τ 104 k9.toNatClampNeg).toInt < 65536 ∧ 0 ≤ (mv_a τ 79 (mv_a τ 103 k9.toNatClampNeg).toNatClampNeg).toInt := hK.in hSt h130
              refine mv_aload_n (pc := 133) B d_Book_step_133 rfl 2 rfl ?_
              refine mv_getR (pc := 134) (ci := 12) (C := R_Book) (T := F_Book) (N := 65) B 56 rfl rfl (by decide) i_Book (B.2.2.2.1 _ k_1905) rfl (hmr _ 56 _ rfl) d_Book_step_134 ?_
              refine mv_aload_n (pc := 137) B d_Book_step_137 rfl 2 rfl ?_
              refine mv_getR (pc := 138) (ci := 12) (C := R_Book) (T := F_Book) (N := 65) B 14 rfl rfl (by decide) i_Book (B.2.2.2.1 _ k_1857) rfl (hmr _ 14 _ rfl) d_Book_step_138 ?_
              refine mv_aload_n (pc := 141) B d_Book_step_141 rfl 2 rfl ?_
              refine mv_getR (pc := 142) (ci := 12) (C := R_Book) (T := F_Book) (N := 65) B 57 rfl rfl (by decide) i_Book (B.2.2.2.1 _ k_1906) rfl (hmr _ 57 _ rfl) d_Book_step_142 ?_
              refine mv_iload (pc := 145) B d_Book_step_145 0 rfl ?_
              refine mv_iald (pc := 147) B rfl (i32_in (show 0 ≤ k9.toInt by omega) (show k9.toInt < 12000 by omega)) d_Book_step_147 ?_
              refine mv_iald (pc := 148) B rfl (i32_in hK.1 (show (mv_a τ 103 k9.toNatClampNeg).toInt < 4100 by omega)) d_Book_step_148 ?_
              refine mv_aload_n (pc := 149) B d_Book_step_149 rfl 2 rfl ?_
              refine mv_getR (pc := 150) (ci := 12) (C := R_Book) (T := F_Book) (N := 65) B 58 rfl rfl (by decide) i_Book (B.2.2.2.1 _ k_1907) rfl (hmr _ 58 _ rfl) d_Book_step_150 ?_
              refine mv_iload (pc := 153) B d_Book_step_153 0 rfl ?_
              refine mv_iald (pc := 155) B rfl (i32_in (show 0 ≤ k9.toInt by omega) (show k9.toInt < 12000 by omega)) d_Book_step_155 ?_
              refine mv_iadd (pc := 156) B d_Book_step_156 ?_
              refine mv_topi (fun y156 ey156 => ?_)
              have fy156 := i32_addE ey156 (by (try simp only [Int32.reduceToInt]); omega) (by (try simp only [Int32.reduceToInt]); omega)
              try simp only [Int32.reduceToInt] at fy156
              refine mv_aload_n (pc := 157) B d_Book_step_157 rfl 2 rfl ?_
              refine mv_getR (pc := 158) (ci := 12) (C := R_Book) (T := F_Book) (N := 65) B 60 rfl rfl (by decide) i_Book (B.2.2.2.1 _ k_1909) rfl (hmr _ 60 _ rfl) d_Book_step_158 ?_
              refine mv_iload (pc := 161) B d_Book_step_161 0 rfl ?_
              refine mv_lald (pc := 163) B rfl (i32_in (show 0 ≤ k9.toInt by omega) (show k9.toInt < 12000 by omega)) d_Book_step_163 ?_
              refine mv_last (pc := 164) B rfl (i32_in (show 0 ≤ y156.toInt by omega) (show y156.toInt < 65536 by omega)) d_Book_step_164 ?_
              refine mv_goto (pc := 165) (tgt := 187) B d_Book_step_165 rfl ?_
              refine mv_iinc (pc := 187) (j := 0) (v := 1) B d_Book_step_187 rfl (by decide) (by decide) rfl ?_
              refine mv_goto (pc := 190) (tgt := 109) B d_Book_step_190 rfl ?_
              refine mv_lpick [0, 1, 2, 3] rfl ?_
              exact ih _ _ _ (by first | exact hP.sb (Or.inr rfl) | exact hP.sb (Or.inl rfl)) (by omega) (by omega)
      have lp1 : ∀ (nn : Nat) (k9 : Int32) (b9 : Int32) (q0 : 0 ≤ k9.toInt), (20000 - k9.toInt).toNat < nn → mv_V p l e ({ frames := 2017, cells := 0, slots := 0, locals := 49248 }) s m ([.ref (al 74), .long w0] : List Value).toArray below meth c (mg dA D al ext) 5 0 0 (mv_Q (mg dA D al ext) below s 0 0 (mv_Ri (fun v σ1 => MB 74 σ σ1))) σ49 69 [(4, .int k9), (3, .int b9), (0, .ref (al 74)), (1, .long w0)] [] := by
        intro nn
        induction nn with
        | zero => intro k9 b9 q0 hm; exact absurd hm (Nat.not_lt_zero _)
        | succ nn ih =>
          intro k9 b9 q0 hm
          refine mv_iload (pc := 69) B d_Book_step_69 0 rfl ?_
          refine mv_aload_n (pc := 71) B d_Book_step_71 rfl 2 rfl ?_
          refine mv_getI (pc := 72) (ci := 12) (C := R_Book) (T := F_Book) (N := 65) B 61 rfl rfl (by decide) i_Book (B.2.2.2.1 _ k_1910) rfl d_Book_step_72 ?_
          refine mv_icmp_ge (pc := 75) (tgt := 106) B d_Book_step_75 rfl (fun h75 => ?_) (fun h75 => ?_)
          · skip
            refine mv_iconst (pc := 106) (v := 0) B d_Book_step_106 (by decide) ?_
            refine mv_istore (pc := 107) B d_Book_step_107 (by decide) rfl ?_
            refine mv_lpick [0, 1, 2, 3] rfl ?_
            exact lp2 _ _ _ _ Fx.rf (by decide) (Nat.lt_succ_self _)
          · skip
            rw [Int32.le_iff_toInt_le] at h75
            have w2 : (k9 + 1).toInt = k9.toInt + 1 := i32_inc (by omega)
            refine mv_iload_n (pc := 78) B d_Book_step_78 rfl 1 rfl ?_
            refine mv_aload_n (pc := 79) B d_Book_step_79 rfl 2 rfl ?_
            refine mv_getR (pc := 80) (ci := 12) (C := R_Book) (T := F_Book) (N := 65) B 57 rfl rfl (by decide) i_Book (B.2.2.2.1 _ k_1906) rfl (hmr _ 57 _ rfl) d_Book_step_80 ?_
            refine mv_iload (pc := 83) B d_Book_step_83 0 rfl ?_
            refine mv_iald (pc := 85) B rfl (i32_in (show 0 ≤ k9.toInt by omega) (show k9.toInt < 12000 by omega)) d_Book_step_85 ?_
            refine mv_aload_n (pc := 86) B d_Book_step_86 rfl 2 rfl ?_
            refine mv_getI (pc := 87) (ci := 12) (C := R_Book) (T := F_Book) (N := 65) B 18 rfl rfl (by decide) i_Book (B.2.2.2.1 _ k_1862) rfl d_Book_step_87 ?_
            refine mv_icmp_ne (pc := 90) (tgt := 97) B d_Book_step_90 rfl (fun h90 => ?_) (fun h90 => ?_)
            · skip
              refine mv_iconst (pc := 97) (v := 0) B d_Book_step_97 (by decide) ?_
              refine mv_ior (pc := 98) B d_Book_step_98 ?_
              refine mv_istore_n (pc := 99) B d_Book_step_99 rfl (by decide) rfl ?_
              refine mv_iinc (pc := 100) (j := 1) (v := 1) B d_Book_step_100 rfl (by decide) (by decide) rfl ?_
              refine mv_goto (pc := 103) (tgt := 69) B d_Book_step_103 rfl ?_
              refine mv_lpick [0, 1, 2, 3] rfl ?_
              exact ih _ _ (by omega) (by omega)
            · skip
              refine mv_iconst (pc := 93) (v := 1) B d_Book_step_93 (by decide) ?_
              refine mv_goto (pc := 94) (tgt := 98) B d_Book_step_94 rfl ?_
              refine mv_ior (pc := 98) B d_Book_step_98 ?_
              refine mv_istore_n (pc := 99) B d_Book_step_99 rfl (by decide) rfl ?_
              refine mv_iinc (pc := 100) (j := 1) (v := 1) B d_Book_step_100 rfl (by decide) (by decide) rfl ?_
              refine mv_goto (pc := 103) (tgt := 69) B d_Book_step_103 rfl ?_
              refine mv_lpick [0, 1, 2, 3] rfl ?_
              exact ih _ _ (by omega) (by omega)
      refine mv_aload_n (pc := 52) B d_Book_step_52 rfl 0 rfl ?_
      refine mv_getI (pc := 53) (ci := 12) (C := R_Book) (T := F_Book) (N := 65) B 53 rfl rfl (by decide) i_Book (B.2.2.2.1 _ k_1902) rfl d_Book_step_53 ?_
      refine mv_if_eq (pc := 56) (tgt := 64) B d_Book_step_56 rfl (fun h56 => ?_) (fun h56 => ?_)
      · skip
        refine mv_iconst (pc := 64) (v := 0) B d_Book_step_64 (by decide) ?_
        refine mv_istore_n (pc := 65) B d_Book_step_65 rfl (by decide) rfl ?_
        refine mv_iconst (pc := 66) (v := 0) B d_Book_step_66 (by decide) ?_
        refine mv_istore (pc := 67) B d_Book_step_67 (by decide) rfl ?_
        refine mv_lpick [0, 1, 2, 3] rfl ?_
        exact lp1 _ _ _ (by decide) (Nat.lt_succ_self _)
      · skip
        refine mv_aload_n (pc := 59) B d_Book_step_59 rfl 0 rfl ?_
        refine mv_getI (pc := 60) (ci := 12) (C := R_Book) (T := F_Book) (N := 65) B 53 rfl rfl (by decide) i_Book (B.2.2.2.1 _ k_1902) rfl d_Book_step_60 ?_
        exact mv_iret (pc := 63) B hr rfl d_Book_step_63 (Nat.le_refl _) (Nat.le_refl _) ⟨_, rfl, by first | exact hMs | exact hM⟩
  · skip
    refine mv_bipush (pc := 13) (v := -2) B d_Book_step_13 (by decide) ?_
    refine mv_goto (pc := 15) (tgt := 19) B d_Book_step_15 rfl ?_
    refine mv_putI (pc := 19) (ci := 12) (C := R_Book) (T := F_Book) (N := 65) B 53 rfl rfl (by decide) i_Book t_Book_ok n_Book (B.2.2.2.1 _ k_1902) rfl rfl rfl rfl d_Book_step_19 ?_
    refine mv_aload_n (pc := 22) B d_Book_step_22 rfl 0 rfl ?_
    refine mv_iconst (pc := 23) (v := 0) B d_Book_step_23 (by decide) ?_
    refine mv_putI (pc := 24) (ci := 12) (C := R_Book) (T := F_Book) (N := 65) B 61 rfl rfl (by decide) i_Book t_Book_ok n_Book (B.2.2.2.1 _ k_1910) rfl rfl rfl rfl d_Book_step_24 ?_
    refine mv_aload_n (pc := 27) B d_Book_step_27 rfl 0 rfl ?_
    refine mv_iconst (pc := 28) (v := 0) B d_Book_step_28 (by decide) ?_
    refine mv_putI (pc := 29) (ci := 12) (C := R_Book) (T := F_Book) (N := 65) B 62 rfl rfl (by decide) i_Book t_Book_ok n_Book (B.2.2.2.1 _ k_1911) rfl rfl rfl rfl d_Book_step_29 ?_
    refine mv_gen (fun S32 eS32 => ?_)
    have hM : MB 74 σ S32 := by
      rw [eS32]
      refine Fx.si (Fx.si (Fx.si (Fx.sl Fx.rf ?_) ?_) ?_) ?_
      · exact ⟨rfl, Or.inl rfl⟩
      · exact ⟨rfl, Or.inl rfl⟩
      · exact ⟨rfl, Or.inr (Or.inl rfl)⟩
      · exact ⟨rfl, Or.inr (Or.inr (Or.inl rfl))⟩
    have x53 : mv_i S32 74 53 = 0 ∨ mv_i S32 74 53 = -2 := by
      rw [eS32, mv_si_o _ _ (by omega), mv_si_o _ _ (by omega), mv_si_s]
      first | exact Or.inl rfl | exact Or.inr rfl
    have x61 : mv_i S32 74 61 = 0 := by rw [eS32, mv_si_o _ _ (by omega), mv_si_s]
    have x62 : mv_i S32 74 62 = 0 := by rw [eS32, mv_si_s]
    have x63 : mv_i S32 74 63 = mv_i σ 74 63 := by rw [eS32, mv_si_o _ _ (by omega), mv_si_o _ _ (by omega), mv_si_o _ _ (by omega)]; rfl
    have xs : mv_i S32 74 53 = 0 → ¬ mv_i σ 74 63 < 0 := by
      intro z
      rw [eS32, mv_si_o _ _ (by omega), mv_si_o _ _ (by omega), mv_si_s] at z
      first | exact absurd z (by decide) | exact i32_nlt h10
    have hmr : mh (mv_r S32) := by rw [hM.2.2.1]; exact hmr
    have hG := hG.mf hM
    have hU : CU 74 S32 := hU.fr x63 (hM.1 _ _ (by omega))
    clear eS32
    refine mv_aload_n (pc := 32) B d_Book_step_32 rfl 0 rfl ?_
    refine mv_getI (pc := 33) (ci := 12) (C := R_Book) (T := F_Book) (N := 65) B 53 rfl rfl (by decide) i_Book (B.2.2.2.1 _ k_1902) rfl d_Book_step_33 ?_
    refine mv_if_ne (pc := 36) (tgt := 52) B d_Book_step_36 rfl (fun h36 => ?_) (fun h36 => ?_)
    · skip
      refine mv_aload_n (pc := 52) B d_Book_step_52 rfl 0 rfl ?_
      refine mv_getI (pc := 53) (ci := 12) (C := R_Book) (T := F_Book) (N := 65) B 53 rfl rfl (by decide) i_Book (B.2.2.2.1 _ k_1902) rfl d_Book_step_53 ?_
      refine mv_if_eq (pc := 56) (tgt := 64) B d_Book_step_56 rfl (fun h56 => ?_) (fun h56 => ?_)
      · skip
        exact absurd h56 h36
      · skip
        refine mv_aload_n (pc := 59) B d_Book_step_59 rfl 0 rfl ?_
        refine mv_getI (pc := 60) (ci := 12) (C := R_Book) (T := F_Book) (N := 65) B 53 rfl rfl (by decide) i_Book (B.2.2.2.1 _ k_1902) rfl d_Book_step_60 ?_
        exact mv_iret (pc := 63) B hr rfl d_Book_step_63 (Nat.le_refl _) (Nat.le_refl _) ⟨_, rfl, by first | exact hMs | exact hM⟩
    · skip
      obtain ⟨th, n, k, g1, g2, g3, g4, g5, ⟨g, g6, g7⟩, g8, g9⟩ := hG
      have xc := xs h36
      rw [← x63] at xc
      have hcu : 0 ≤ (mv_i S32 74 63).toInt ∧ (mv_i S32 74 63).toInt < k := by
        rcases hU with z | z
        · exact absurd (show mv_i S32 74 63 < 0 by rw [z]; decide) xc
        · rw [g5.1] at z
          exact z
      have hS : ST 74 th n k g S32 := ⟨hmr, g6, g4, g1, g2, g8, g5, hcu⟩
      have hD : DY 74 th 0 S32 := ⟨by rw [x61]; rfl, fun j hj => absurd hj (Nat.not_lt_zero _)⟩
      have hT := RT.rf hS hD (by rw [x62]; rfl)
      have hci := i32_cl hcu.1
      have hk4 := g5.2.1
      have hob := g7 (mv_i S32 74 63).toNatClampNeg (by omega)
      obtain ⟨H, hHn, hRB⟩ : ∃ H, H ≤ n ∧ RB 74 n 62 0 H g S32 (mv_a S32 85 (mv_i S32 74 63).toNatClampNeg) := by
        rcases hob with z | ⟨t, H, z1, z2, z3, z4, z5, z6, z7⟩
        · exact ⟨0, Nat.zero_le _, Nat.zero_le _, Or.inl ⟨z, Nat.le_refl _⟩⟩
        · exact ⟨H, z3, z3, Or.inr ⟨t, z1, z2, z4, z5, by omega, z7, Nat.zero_le _⟩⟩
      refine mv_aload_n (pc := 39) B d_Book_step_39 rfl 0 rfl ?_
      refine mv_aload_n (pc := 40) B d_Book_step_40 rfl 0 rfl ?_
      refine mv_getR (pc := 41) (ci := 12) (C := R_Book) (T := F_Book) (N := 65) B 26 rfl rfl (by decide) i_Book (B.2.2.2.1 _ k_1871) rfl (hmr _ 26 _ rfl) d_Book_step_41 ?_
      refine mv_aload_n (pc := 44) B d_Book_step_44 rfl 0 rfl ?_
      refine mv_getI (pc := 45) (ci := 12) (C := R_Book) (T := F_Book) (N := 65) B 63 rfl rfl (by decide) i_Book (B.2.2.2.1 _ k_1912) rfl d_Book_step_45 ?_
      refine mv_iald (pc := 48) B rfl (i32_in hcu.1 (show (mv_i S32 74 63).toInt < 4100 by omega)) d_Book_step_48 ?_
      refine mv_callVv (pc := 49) (n := 1) (ci := 12) (C := R_Book) B (mK_ok sk sv) hNs rfl rfl (c_Book_body_x l hi 62 _ _ th n k 0 H g hRB hT) rfl (ma_goodc kc_Book_run) (B.2.2.2.1 _ k_2496) (B.2.2.2.1 _ k_2498) (B.2.2.2.1 _ ks_130) (B.2.2.2.1 _ k_13) ⟨by decide +kernel, by decide +kernel, by decide +kernel⟩ rfl d_Book_step_49 rfl (Nat.le_of_ble_eq_true rfl) ⟨by first | decide | (dsimp only; omega), by first | decide | (dsimp only; omega)⟩ ⟨Nat.le_refl _, Nat.le_refl _⟩ ⟨Nat.le_refl _, Nat.le_refl _⟩ (mv_noH hno _) (fun σ49 h49 => ?_)
      obtain ⟨w9, hw9, hR⟩ := h49
      have hMs := hM.tr hR.1.mf
      have hmr : mh (mv_r σ49) := hR.2.1.1
      have hS := hR.2.1
      have hD := hR.2.2.1
      have hD1 := hD.1
      have x18 : mv_i σ49 74 18 = mv_i S32 74 18 := hR.1.1 _ _ (by omega)
      have lp2 : ∀ (nn : Nat) (τ : mv_H) (k9 : Int32) (b9 : Int32) (hP : PF 74 σ49 τ) (q0 : 0 ≤ k9.toInt), (20000 - k9.toInt).toNat < nn → mv_V p l e ({ frames := 2017, cells := 0, slots := 0, locals := 49248 }) s m ([.ref (al 74), .long w0] : List Value).toArray below meth c (mg dA D al ext) 5 0 0 (mv_Q (mg dA D al ext) below s 0 0 (mv_Ri (fun v σ1 => MB 74 σ σ1))) τ 109 [(4, .int k9), (3, .int b9), (0, .ref (al 74)), (1, .long w0)] [] := by
        intro nn
        induction nn with
        | zero => intro τ k9 b9 hP q0 hm; exact absurd hm (Nat.not_lt_zero _)
        | succ nn ih =>
          intro τ k9 b9 hP q0 hm
          have hSt := hS.pf hP
          have hDt := hD.pf hP
          have x61 : (mv_i τ 74 61).toInt = w9 := hDt.1
          have hmr : mh (mv_r τ) := hSt.1
          refine mv_iload (pc := 109) B d_Book_step_109 0 rfl ?_
          refine mv_aload_n (pc := 111) B d_Book_step_111 rfl 2 rfl ?_
          refine mv_getI (pc := 112) (ci := 12) (C := R_Book) (T := F_Book) (N := 65) B 61 rfl rfl (by decide) i_Book (B.2.2.2.1 _ k_1910) rfl d_Book_step_112 ?_
          refine mv_icmp_ge (pc := 115) (tgt := 193) B d_Book_step_115 rfl (fun h115 => ?_) (fun h115 => ?_)
          · skip
            refine mv_aload_n (pc := 193) B d_Book_step_193 rfl 2 rfl ?_
            refine mv_getI (pc := 194) (ci := 12) (C := R_Book) (T := F_Book) (N := 65) B 18 rfl rfl (by decide) i_Book (B.2.2.2.1 _ k_1862) rfl d_Book_step_194 ?_
            refine mv_if_lt (pc := 197) (tgt := 243) B d_Book_step_197 rfl (fun h197 => ?_) (fun h197 => ?_)
            · skip
              refine mv_iconst (pc := 243) (v := 0) B d_Book_step_243 (by decide) ?_
              exact mv_iret (pc := 244) B hr rfl d_Book_step_244 (Nat.le_refl _) (Nat.le_refl _) ⟨_, rfl, by first | exact hMs.tr hP.mb | exact hMs.tr (PF.mb (Fx.sb hP (Or.inl rfl)))⟩
            · skip
              have hx0 : ¬ (mv_i τ 74 18).toInt < 0 := fun z => h197 (Int32.lt_iff_toInt_lt.mpr z)
              have hx1 : 0 ≤ (mv_i τ 74 18).toInt ∧ (mv_i τ 74 18).toInt < th := by
                rw [hP.1 _ _ id, x18] at hx0 ⊢
                rcases g9 with z | z
                · exact absurd (by rw [z]; decide) hx0
                · exact z.1
              refine mv_iload_n (pc := 200) B d_Book_step_200 rfl 1 rfl ?_
              refine mv_if_ne (pc := 201) (tgt := 243) B d_Book_step_201 rfl (fun h201 => ?_) (fun h201 => ?_)
              · skip
                refine mv_iconst (pc := 243) (v := 0) B d_Book_step_243 (by decide) ?_
                exact mv_iret (pc := 244) B hr rfl d_Book_step_244 (Nat.le_refl _) (Nat.le_refl _) ⟨_, rfl, by first | exact hMs.tr hP.mb | exact hMs.tr (PF.mb (Fx.sb hP (Or.inl rfl)))⟩
              · skip
                refine mv_aload_n (pc := 204) B d_Book_step_204 rfl 2 rfl ?_
                refine mv_getR (pc := 205) (ci := 12) (C := R_Book) (T := F_Book) (N := 65) B 55 rfl rfl (by decide) i_Book (B.2.2.2.1 _ k_1904) rfl (hmr _ 55 _ rfl) d_Book_step_205 ?_
                refine mv_aload_n (pc := 208) B d_Book_step_208 rfl 2 rfl ?_
                refine mv_getI (pc := 209) (ci := 12) (C := R_Book) (T := F_Book) (N := 65) B 18 rfl rfl (by decide) i_Book (B.2.2.2.1 _ k_1862) rfl d_Book_step_209 ?_
                refine mv_aload_n (pc := 212) B d_Book_step_212 rfl 2 rfl ?_
                refine mv_getR (pc := 213) (ci := 12) (C := R_Book) (T := F_Book) (N := 65) B 55 rfl rfl (by decide) i_Book (B.2.2.2.1 _ k_1904) rfl (hmr _ 55 _ rfl) d_Book_step_213 ?_
                refine mv_aload_n (pc := 216) B d_Book_step_216 rfl 2 rfl ?_
                refine mv_getI (pc := 217) (ci := 12) (C := R_Book) (T := F_Book) (N := 65) B 18 rfl rfl (by decide) i_Book (B.2.2.2.1 _ k_1862) rfl d_Book_step_217 ?_
                refine mv_lald (pc := 220) B rfl (i32_in (x := (mv_i τ 74 18)) (by omega) (show (mv_i τ 74 18).toInt < 4100 by omega)) d_Book_step_220 ?_
                refine mv_aload_n (pc := 221) B d_Book_step_221 rfl 2 rfl ?_
                refine mv_getI (pc := 222) (ci := 12) (C := R_Book) (T := F_Book) (N := 65) B 20 rfl rfl (by decide) i_Book (B.2.2.2.1 _ k_1865) rfl d_Book_step_222 ?_
                refine mv_bipush (pc := 225) (v := 8) B d_Book_step_225 (by decide) ?_
                refine mv_idiv (pc := 227) B d_Book_step_227 (by decide) ?_
                refine mv_i2l (pc := 228) B d_Book_step_228 ?_
                refine mv_ladd (pc := 229) B d_Book_step_229 ?_
                refine mv_aload_n (pc := 230) B d_Book_step_230 rfl 2 rfl ?_
                refine mv_getR (pc := 231) (ci := 12) (C := R_Book) (T := F_Book) (N := 65) B 12 rfl rfl (by decide) i_Book (B.2.2.2.1 _ k_1855) rfl (hmr _ 12 _ rfl) d_Book_step_231 ?_
                refine mv_aload_n (pc := 234) B d_Book_step_234 rfl 2 rfl ?_
                refine mv_getI (pc := 235) (ci := 12) (C := R_Book) (T := F_Book) (N := 65) B 18 rfl rfl (by decide) i_Book (B.2.2.2.1 _ k_1862) rfl d_Book_step_235 ?_
                refine mv_iald (pc := 238) B rfl (i32_in (x := (mv_i τ 74 18)) (by omega) (show (mv_i τ 74 18).toInt < 4100 by omega)) d_Book_step_238 ?_
                refine mv_callSl (pc := 239) (n := 2) B (mK_ok sk sv) hNs (c_Book_cut l hi _ _ _) rfl (ma_goodc kc_Book_cut) (B.2.2.2.1 _ k_2427) (B.2.2.2.1 _ k_2428) (B.2.2.2.1 _ k_13) ⟨by decide +kernel, by decide +kernel, by decide +kernel⟩ rfl d_Book_step_239 rfl (Nat.le_of_ble_eq_true rfl) ⟨by first | decide | (dsimp only; omega), by first | decide | (dsimp only; omega)⟩ ⟨Nat.le_refl _, Nat.le_refl _⟩ ⟨Nat.le_refl _, Nat.le_refl _⟩ (mv_noH hno _) (fun v239 σ239 h239 => ?_)
                have e239 := h239.symm
                subst e239
                refine mv_last (pc := 242) B rfl (i32_in (x := (mv_i τ 74 18)) (by omega) (show (mv_i τ 74 18).toInt < 4100 by omega)) d_Book_step_242 ?_
                refine mv_iconst (pc := 243) (v := 0) B d_Book_step_243 (by decide) ?_
                exact mv_iret (pc := 244) B hr rfl d_Book_step_244 (Nat.le_refl _) (Nat.le_refl _) ⟨_, rfl, by first | exact hMs.tr hP.mb | exact hMs.tr (PF.mb (Fx.sb hP (Or.inl rfl)))⟩
          · skip
            rw [Int32.le_iff_toInt_le] at h115
            rw [x61] at h115
            have w2 : (k9 + 1).toInt = k9.toInt + 1 := i32_inc (by omega)
            have hK : WK 74 th τ (mv_a τ 103 k9.toNatClampNeg) (mv_a τ 104 k9.toNatClampNeg) := hDt.2 k9.toNatClampNeg (by have := i32_cl q0; omega)
            have hK2 := hK.2.1
            refine mv_aload_n (pc := 118) B d_Book_step_118 rfl 2 rfl ?_
            refine mv_getR (pc := 119) (ci := 12) (C := R_Book) (T := F_Book) (N := 65) B 15 rfl rfl (by decide) i_Book (B.2.2.2.1 _ k_1858) rfl (hmr _ 15 _ rfl) d_Book_step_119 ?_
            refine mv_aload_n (pc := 122) B d_Book_step_122 rfl 2 rfl ?_
            refine mv_getR (pc := 123) (ci := 12) (C := R_Book) (T := F_Book) (N := 65) B 57 rfl rfl (by decide) i_Book (B.2.2.2.1 _ k_1906) rfl (hmr _ 57 _ rfl) d_Book_step_123 ?_
            refine mv_iload (pc := 126) B d_Book_step_126 0 rfl ?_
            refine mv_iald (pc := 128) B rfl (i32_in (show 0 ≤ k9.toInt by omega) (show k9.toInt < 12000 by omega)) d_Book_step_128 ?_
            refine mv_zald (pc := 129) B rfl (i32_in hK.1 (show (mv_a τ 103 k9.toNatClampNeg).toInt < 4100 by omega)) d_Book_step_129 ?_
            refine mv_if_eq (pc := 130) (tgt := 168) B d_Book_step_130 rfl (fun h130 => ?_) (fun h130 => ?_)
            · skip
              refine mv_aload_n (pc := 168) B d_Book_step_168 rfl 2 rfl ?_
              refine mv_getR (pc := 169) (ci := 12) (C := R_Book) (T := F_Book) (N := 65) B 55 rfl rfl (by decide) i_Book (B.2.2.2.1 _ k_1904) rfl (hmr _ 55 _ rfl) d_Book_step_169 ?_
              refine mv_aload_n (pc := 172) B d_Book_step_172 rfl 2 rfl ?_
              refine mv_getR (pc := 173) (ci := 12) (C := R_Book) (T := F_Book) (N := 65) B 57 rfl rfl (by decide) i_Book (B.2.2.2.1 _ k_1906) rfl (hmr _ 57 _ rfl) d_Book_step_173 ?_
              refine mv_iload (pc := 176) B d_Book_step_176 0 rfl ?_
              refine mv_iald (pc := 178) B rfl (i32_in (show 0 ≤ k9.toInt by omega) (show k9.toInt < 12000 by omega)) d_Book_step_178 ?_
              refine mv_aload_n (pc := 179) B d_Book_step_179 rfl 2 rfl ?_
              refine mv_getR (pc := 180) (ci := 12) (C := R_Book) (T := F_Book) (N := 65) B 60 rfl rfl (by decide) i_Book (B.2.2.2.1 _ k_1909) rfl (hmr _ 60 _ rfl) d_Book_step_180 ?_
              refine mv_iload (pc := 183) B d_Book_step_183 0 rfl ?_
              refine mv_lald (pc := 185) B rfl (i32_in (show 0 ≤ k9.toInt by omega) (show k9.toInt < 12000 by omega)) d_Book_step_185 ?_
              refine mv_last (pc := 186) B rfl (i32_in hK.1 (show (mv_a τ 103 k9.toNatClampNeg).toInt < 4100 by omega)) d_Book_step_186 ?_
              refine mv_iinc (pc := 187) (j := 0) (v := 1) B d_Book_step_187 rfl (by decide) (by decide) rfl ?_
              refine mv_goto (pc := 190) (tgt := 109) B d_Book_step_190 rfl ?_
              refine mv_lpick [0, 1, 2, 3] rfl ?_
              exact ih _ _ _ (by first | exact hP.sb (Or.inr rfl) | exact hP.sb (Or.inl rfl)) (by omega) (by omega)
            · skip
              have hin : 0 ≤ (mv_a τ 79 (mv_a τ 103 k9.toNatClampNeg).toNatClampNeg).toInt + (mv_a τ 104 k9.toNatClampNeg).toInt ∧ (mv_a τ 79 (mv_a τ 103 k9.toNatClampNeg).toNatClampNeg).toInt + (mv_a τ 104 k9.toNatClampNeg).toInt < 65536 ∧ 0 ≤ (mv_a τ 79 (mv_a τ 103 k9.toNatClampNeg).toNatClampNeg).toInt := hK.in hSt h130
              refine mv_aload_n (pc := 133) B d_Book_step_133 rfl 2 rfl ?_
              refine mv_getR (pc := 134) (ci := 12) (C := R_Book) (T := F_Book) (N := 65) B 56 rfl rfl (by decide) i_Book (B.2.2.2.1 _ k_1905) rfl (hmr _ 56 _ rfl) d_Book_step_134 ?_
              refine mv_aload_n (pc := 137) B d_Book_step_137 rfl 2 rfl ?_
              refine mv_getR (pc := 138) (ci := 12) (C := R_Book) (T := F_Book) (N := 65) B 14 rfl rfl (by decide) i_Book (B.2.2.2.1 _ k_1857) rfl (hmr _ 14 _ rfl) d_Book_step_138 ?_
              refine mv_aload_n (pc := 141) B d_Book_step_141 rfl 2 rfl ?_
              refine mv_getR (pc := 142) (ci := 12) (C := R_Book) (T := F_Book) (N := 65) B 57 rfl rfl (by decide) i_Book (B.2.2.2.1 _ k_1906) rfl (hmr _ 57 _ rfl) d_Book_step_142 ?_
              refine mv_iload (pc := 145) B d_Book_step_145 0 rfl ?_
              refine mv_iald (pc := 147) B rfl (i32_in (show 0 ≤ k9.toInt by omega) (show k9.toInt < 12000 by omega)) d_Book_step_147 ?_
              refine mv_iald (pc := 148) B rfl (i32_in hK.1 (show (mv_a τ 103 k9.toNatClampNeg).toInt < 4100 by omega)) d_Book_step_148 ?_
              refine mv_aload_n (pc := 149) B d_Book_step_149 rfl 2 rfl ?_
              refine mv_getR (pc := 150) (ci := 12) (C := R_Book) (T := F_Book) (N := 65) B 58 rfl rfl (by decide) i_Book (B.2.2.2.1 _ k_1907) rfl (hmr _ 58 _ rfl) d_Book_step_150 ?_
              refine mv_iload (pc := 153) B d_Book_step_153 0 rfl ?_
              refine mv_iald (pc := 155) B rfl (i32_in (show 0 ≤ k9.toInt by omega) (show k9.toInt < 12000 by omega)) d_Book_step_155 ?_
              refine mv_iadd (pc := 156) B d_Book_step_156 ?_
              refine mv_topi (fun y156 ey156 => ?_)
              have fy156 := i32_addE ey156 (by (try simp only [Int32.reduceToInt]); omega) (by (try simp only [Int32.reduceToInt]); omega)
              try simp only [Int32.reduceToInt] at fy156
              refine mv_aload_n (pc := 157) B d_Book_step_157 rfl 2 rfl ?_
              refine mv_getR (pc := 158) (ci := 12) (C := R_Book) (T := F_Book) (N := 65) B 60 rfl rfl (by decide) i_Book (B.2.2.2.1 _ k_1909) rfl (hmr _ 60 _ rfl) d_Book_step_158 ?_
              refine mv_iload (pc := 161) B d_Book_step_161 0 rfl ?_
              refine mv_lald (pc := 163) B rfl (i32_in (show 0 ≤ k9.toInt by omega) (show k9.toInt < 12000 by omega)) d_Book_step_163 ?_
              refine mv_last (pc := 164) B rfl (i32_in (show 0 ≤ y156.toInt by omega) (show y156.toInt < 65536 by omega)) d_Book_step_164 ?_
              refine mv_goto (pc := 165) (tgt := 187) B d_Book_step_165 rfl ?_
              refine mv_iinc (pc := 187) (j := 0) (v := 1) B d_Book_step_187 rfl (by decide) (by decide) rfl ?_
              refine mv_goto (pc := 190) (tgt := 109) B d_Book_step_190 rfl ?_
              refine mv_lpick [0, 1, 2, 3] rfl ?_
              exact ih _ _ _ (by first | exact hP.sb (Or.inr rfl) | exact hP.sb (Or.inl rfl)) (by omega) (by omega)
      have lp1 : ∀ (nn : Nat) (k9 : Int32) (b9 : Int32) (q0 : 0 ≤ k9.toInt), (20000 - k9.toInt).toNat < nn → mv_V p l e ({ frames := 2017, cells := 0, slots := 0, locals := 49248 }) s m ([.ref (al 74), .long w0] : List Value).toArray below meth c (mg dA D al ext) 5 0 0 (mv_Q (mg dA D al ext) below s 0 0 (mv_Ri (fun v σ1 => MB 74 σ σ1))) σ49 69 [(4, .int k9), (3, .int b9), (0, .ref (al 74)), (1, .long w0)] [] := by
        intro nn
        induction nn with
        | zero => intro k9 b9 q0 hm; exact absurd hm (Nat.not_lt_zero _)
        | succ nn ih =>
          intro k9 b9 q0 hm
          refine mv_iload (pc := 69) B d_Book_step_69 0 rfl ?_
          refine mv_aload_n (pc := 71) B d_Book_step_71 rfl 2 rfl ?_
          refine mv_getI (pc := 72) (ci := 12) (C := R_Book) (T := F_Book) (N := 65) B 61 rfl rfl (by decide) i_Book (B.2.2.2.1 _ k_1910) rfl d_Book_step_72 ?_
          refine mv_icmp_ge (pc := 75) (tgt := 106) B d_Book_step_75 rfl (fun h75 => ?_) (fun h75 => ?_)
          · skip
            refine mv_iconst (pc := 106) (v := 0) B d_Book_step_106 (by decide) ?_
            refine mv_istore (pc := 107) B d_Book_step_107 (by decide) rfl ?_
            refine mv_lpick [0, 1, 2, 3] rfl ?_
            exact lp2 _ _ _ _ Fx.rf (by decide) (Nat.lt_succ_self _)
          · skip
            rw [Int32.le_iff_toInt_le] at h75
            have w2 : (k9 + 1).toInt = k9.toInt + 1 := i32_inc (by omega)
            refine mv_iload_n (pc := 78) B d_Book_step_78 rfl 1 rfl ?_
            refine mv_aload_n (pc := 79) B d_Book_step_79 rfl 2 rfl ?_
            refine mv_getR (pc := 80) (ci := 12) (C := R_Book) (T := F_Book) (N := 65) B 57 rfl rfl (by decide) i_Book (B.2.2.2.1 _ k_1906) rfl (hmr _ 57 _ rfl) d_Book_step_80 ?_
            refine mv_iload (pc := 83) B d_Book_step_83 0 rfl ?_
            refine mv_iald (pc := 85) B rfl (i32_in (show 0 ≤ k9.toInt by omega) (show k9.toInt < 12000 by omega)) d_Book_step_85 ?_
            refine mv_aload_n (pc := 86) B d_Book_step_86 rfl 2 rfl ?_
            refine mv_getI (pc := 87) (ci := 12) (C := R_Book) (T := F_Book) (N := 65) B 18 rfl rfl (by decide) i_Book (B.2.2.2.1 _ k_1862) rfl d_Book_step_87 ?_
            refine mv_icmp_ne (pc := 90) (tgt := 97) B d_Book_step_90 rfl (fun h90 => ?_) (fun h90 => ?_)
            · skip
              refine mv_iconst (pc := 97) (v := 0) B d_Book_step_97 (by decide) ?_
              refine mv_ior (pc := 98) B d_Book_step_98 ?_
              refine mv_istore_n (pc := 99) B d_Book_step_99 rfl (by decide) rfl ?_
              refine mv_iinc (pc := 100) (j := 1) (v := 1) B d_Book_step_100 rfl (by decide) (by decide) rfl ?_
              refine mv_goto (pc := 103) (tgt := 69) B d_Book_step_103 rfl ?_
              refine mv_lpick [0, 1, 2, 3] rfl ?_
              exact ih _ _ (by omega) (by omega)
            · skip
              refine mv_iconst (pc := 93) (v := 1) B d_Book_step_93 (by decide) ?_
              refine mv_goto (pc := 94) (tgt := 98) B d_Book_step_94 rfl ?_
              refine mv_ior (pc := 98) B d_Book_step_98 ?_
              refine mv_istore_n (pc := 99) B d_Book_step_99 rfl (by decide) rfl ?_
              refine mv_iinc (pc := 100) (j := 1) (v := 1) B d_Book_step_100 rfl (by decide) (by decide) rfl ?_
              refine mv_goto (pc := 103) (tgt := 69) B d_Book_step_103 rfl ?_
              refine mv_lpick [0, 1, 2, 3] rfl ?_
              exact ih _ _ (by omega) (by omega)
      refine mv_aload_n (pc := 52) B d_Book_step_52 rfl 0 rfl ?_
      refine mv_getI (pc := 53) (ci := 12) (C := R_Book) (T := F_Book) (N := 65) B 53 rfl rfl (by decide) i_Book (B.2.2.2.1 _ k_1902) rfl d_Book_step_53 ?_
      refine mv_if_eq (pc := 56) (tgt := 64) B d_Book_step_56 rfl (fun h56 => ?_) (fun h56 => ?_)
      · skip
        refine mv_iconst (pc := 64) (v := 0) B d_Book_step_64 (by decide) ?_
        refine mv_istore_n (pc := 65) B d_Book_step_65 rfl (by decide) rfl ?_
        refine mv_iconst (pc := 66) (v := 0) B d_Book_step_66 (by decide) ?_
        refine mv_istore (pc := 67) B d_Book_step_67 (by decide) rfl ?_
        refine mv_lpick [0, 1, 2, 3] rfl ?_
        exact lp1 _ _ _ (by decide) (Nat.lt_succ_self _)
      · skip
        refine mv_aload_n (pc := 59) B d_Book_step_59 rfl 0 rfl ?_
        refine mv_getI (pc := 60) (ci := 12) (C := R_Book) (T := F_Book) (N := 65) B 53 rfl rfl (by decide) i_Book (B.2.2.2.1 _ k_1902) rfl d_Book_step_60 ?_
        exact mv_iret (pc := 63) B hr rfl d_Book_step_63 (Nat.le_refl _) (Nat.le_refl _) ⟨_, rfl, by first | exact hMs | exact hM⟩
set_option maxHeartbeats 4000000 in
set_option maxRecDepth 100000 in
theorem c_Book_step_y (l : Launch) {dA : FieldType → ClassId} {D : va_G} {al : Nat → Nat} {ext : mv_Sh} {sk sv : Nat → Nat} (hi : mv_inj (mg dA D al ext)) (σ : mv_H) (w0 : Int64) (hmr : mh (mv_r σ)) (hG : BG 108 σ) (hU : CU 108 σ) : mv_C l y_Book_step (Cond.code y_Book_step b_Book_step 5 (Option.some Jvm.ClassFile.FieldType.int) :: ma) ({ frames := 2017, cells := 0, slots := 0, locals := 49248 }) (mg dA D al ext) (mK sk sv) [.ref (al 108), .long w0] σ (mv_Ri (fun v σ1 => MB 108 σ σ1)) := by
  refine mv_C.ofV (cc := b_Book_step) (nL := 5) (ret := (Option.some Jvm.ClassFile.FieldType.int)) (by decide +kernel) rfl hi (Nat.le_of_ble_eq_true rfl) ?_
  intro p e s m below meth c B hNs hr hnm hno
  refine mv_aload_n (pc := 0) B d_Book_step_0 rfl 0 rfl ?_
  refine mv_lload_n (pc := 1) B d_Book_step_1 rfl 1 rfl ?_
  refine mv_putL (pc := 2) (ci := 12) (C := R_Book) (T := F_Book) (N := 65) B 52 rfl rfl (by decide) i_Book t_Book_ok n_Book (B.2.2.2.1 _ k_1901) rfl rfl d_Book_step_2 ?_
  refine mv_aload_n (pc := 5) B d_Book_step_5 rfl 0 rfl ?_
  refine mv_aload_n (pc := 6) B d_Book_step_6 rfl 0 rfl ?_
  refine mv_getI (pc := 7) (ci := 12) (C := R_Book) (T := F_Book) (N := 65) B 63 rfl rfl (by decide) i_Book (B.2.2.2.1 _ k_1912) rfl d_Book_step_7 ?_
  refine mv_if_ge (pc := 10) (tgt := 18) B d_Book_step_10 rfl (fun h10 => ?_) (fun h10 => ?_)
  · skip
    refine mv_iconst (pc := 18) (v := 0) B d_Book_step_18 (by decide) ?_
    refine mv_putI (pc := 19) (ci := 12) (C := R_Book) (T := F_Book) (N := 65) B 53 rfl rfl (by decide) i_Book t_Book_ok n_Book (B.2.2.2.1 _ k_1902) rfl rfl rfl rfl d_Book_step_19 ?_
    refine mv_aload_n (pc := 22) B d_Book_step_22 rfl 0 rfl ?_
    refine mv_iconst (pc := 23) (v := 0) B d_Book_step_23 (by decide) ?_
    refine mv_putI (pc := 24) (ci := 12) (C := R_Book) (T := F_Book) (N := 65) B 61 rfl rfl (by decide) i_Book t_Book_ok n_Book (B.2.2.2.1 _ k_1910) rfl rfl rfl rfl d_Book_step_24 ?_
    refine mv_aload_n (pc := 27) B d_Book_step_27 rfl 0 rfl ?_
    refine mv_iconst (pc := 28) (v := 0) B d_Book_step_28 (by decide) ?_
    refine mv_putI (pc := 29) (ci := 12) (C := R_Book) (T := F_Book) (N := 65) B 62 rfl rfl (by decide) i_Book t_Book_ok n_Book (B.2.2.2.1 _ k_1911) rfl rfl rfl rfl d_Book_step_29 ?_
    refine mv_gen (fun S32 eS32 => ?_)
    have hM : MB 108 σ S32 := by
      rw [eS32]
      refine Fx.si (Fx.si (Fx.si (Fx.sl Fx.rf ?_) ?_) ?_) ?_
      · exact ⟨rfl, Or.inl rfl⟩
      · exact ⟨rfl, Or.inl rfl⟩
      · exact ⟨rfl, Or.inr (Or.inl rfl)⟩
      · exact ⟨rfl, Or.inr (Or.inr (Or.inl rfl))⟩
    have x53 : mv_i S32 108 53 = 0 ∨ mv_i S32 108 53 = -2 := by
      rw [eS32, mv_si_o _ _ (by omega), mv_si_o _ _ (by omega), mv_si_s]
      first | exact Or.inl rfl | exact Or.inr rfl
    have x61 : mv_i S32 108 61 = 0 := by rw [eS32, mv_si_o _ _ (by omega), mv_si_s]
    have x62 : mv_i S32 108 62 = 0 := by rw [eS32, mv_si_s]
    have x63 : mv_i S32 108 63 = mv_i σ 108 63 := by rw [eS32, mv_si_o _ _ (by omega), mv_si_o _ _ (by omega), mv_si_o _ _ (by omega)]; rfl
    have xs : mv_i S32 108 53 = 0 → ¬ mv_i σ 108 63 < 0 := by
      intro z
      rw [eS32, mv_si_o _ _ (by omega), mv_si_o _ _ (by omega), mv_si_s] at z
      first | exact absurd z (by decide) | exact i32_nlt h10
    have hmr : mh (mv_r S32) := by rw [hM.2.2.1]; exact hmr
    have hG := hG.mf hM
    have hU : CU 108 S32 := hU.fr x63 (hM.1 _ _ (by omega))
    clear eS32
    refine mv_aload_n (pc := 32) B d_Book_step_32 rfl 0 rfl ?_
    refine mv_getI (pc := 33) (ci := 12) (C := R_Book) (T := F_Book) (N := 65) B 53 rfl rfl (by decide) i_Book (B.2.2.2.1 _ k_1902) rfl d_Book_step_33 ?_
    refine mv_if_ne (pc := 36) (tgt := 52) B d_Book_step_36 rfl (fun h36 => ?_) (fun h36 => ?_)
    · skip
      refine mv_aload_n (pc := 52) B d_Book_step_52 rfl 0 rfl ?_
      refine mv_getI (pc := 53) (ci := 12) (C := R_Book) (T := F_Book) (N := 65) B 53 rfl rfl (by decide) i_Book (B.2.2.2.1 _ k_1902) rfl d_Book_step_53 ?_
      refine mv_if_eq (pc := 56) (tgt := 64) B d_Book_step_56 rfl (fun h56 => ?_) (fun h56 => ?_)
      · skip
        exact absurd h56 h36
      · skip
        refine mv_aload_n (pc := 59) B d_Book_step_59 rfl 0 rfl ?_
        refine mv_getI (pc := 60) (ci := 12) (C := R_Book) (T := F_Book) (N := 65) B 53 rfl rfl (by decide) i_Book (B.2.2.2.1 _ k_1902) rfl d_Book_step_60 ?_
        exact mv_iret (pc := 63) B hr rfl d_Book_step_63 (Nat.le_refl _) (Nat.le_refl _) ⟨_, rfl, by first | exact hMs | exact hM⟩
    · skip
      obtain ⟨th, n, k, g1, g2, g3, g4, g5, ⟨g, g6, g7⟩, g8, g9⟩ := hG
      have xc := xs h36
      rw [← x63] at xc
      have hcu : 0 ≤ (mv_i S32 108 63).toInt ∧ (mv_i S32 108 63).toInt < k := by
        rcases hU with z | z
        · exact absurd (show mv_i S32 108 63 < 0 by rw [z]; decide) xc
        · rw [g5.1] at z
          exact z
      have hS : ST 108 th n k g S32 := ⟨hmr, g6, g4, g1, g2, g8, g5, hcu⟩
      have hD : DY 108 th 0 S32 := ⟨by rw [x61]; rfl, fun j hj => absurd hj (Nat.not_lt_zero _)⟩
      have hT := RT.rf hS hD (by rw [x62]; rfl)
      have hci := i32_cl hcu.1
      have hk4 := g5.2.1
      have hob := g7 (mv_i S32 108 63).toNatClampNeg (by omega)
      obtain ⟨H, hHn, hRB⟩ : ∃ H, H ≤ n ∧ RB 108 n 62 0 H g S32 (mv_a S32 119 (mv_i S32 108 63).toNatClampNeg) := by
        rcases hob with z | ⟨t, H, z1, z2, z3, z4, z5, z6, z7⟩
        · exact ⟨0, Nat.zero_le _, Nat.zero_le _, Or.inl ⟨z, Nat.le_refl _⟩⟩
        · exact ⟨H, z3, z3, Or.inr ⟨t, z1, z2, z4, z5, by omega, z7, Nat.zero_le _⟩⟩
      refine mv_aload_n (pc := 39) B d_Book_step_39 rfl 0 rfl ?_
      refine mv_aload_n (pc := 40) B d_Book_step_40 rfl 0 rfl ?_
      refine mv_getR (pc := 41) (ci := 12) (C := R_Book) (T := F_Book) (N := 65) B 26 rfl rfl (by decide) i_Book (B.2.2.2.1 _ k_1871) rfl (hmr _ 26 _ rfl) d_Book_step_41 ?_
      refine mv_aload_n (pc := 44) B d_Book_step_44 rfl 0 rfl ?_
      refine mv_getI (pc := 45) (ci := 12) (C := R_Book) (T := F_Book) (N := 65) B 63 rfl rfl (by decide) i_Book (B.2.2.2.1 _ k_1912) rfl d_Book_step_45 ?_
      refine mv_iald (pc := 48) B rfl (i32_in hcu.1 (show (mv_i S32 108 63).toInt < 4100 by omega)) d_Book_step_48 ?_
      refine mv_callVv (pc := 49) (n := 1) (ci := 12) (C := R_Book) B (mK_ok sk sv) hNs rfl rfl (c_Book_body_y l hi 62 _ _ th n k 0 H g hRB hT) rfl (ma_goodc kc_Book_run) (B.2.2.2.1 _ k_2496) (B.2.2.2.1 _ k_2498) (B.2.2.2.1 _ ks_130) (B.2.2.2.1 _ k_13) ⟨by decide +kernel, by decide +kernel, by decide +kernel⟩ rfl d_Book_step_49 rfl (Nat.le_of_ble_eq_true rfl) ⟨by first | decide | (dsimp only; omega), by first | decide | (dsimp only; omega)⟩ ⟨Nat.le_refl _, Nat.le_refl _⟩ ⟨Nat.le_refl _, Nat.le_refl _⟩ (mv_noH hno _) (fun σ49 h49 => ?_)
      obtain ⟨w9, hw9, hR⟩ := h49
      have hMs := hM.tr hR.1.mf
      have hmr : mh (mv_r σ49) := hR.2.1.1
      have hS := hR.2.1
      have hD := hR.2.2.1
      have hD1 := hD.1
      have x18 : mv_i σ49 108 18 = mv_i S32 108 18 := hR.1.1 _ _ (by omega)
      have lp2 : ∀ (nn : Nat) (τ : mv_H) (k9 : Int32) (b9 : Int32) (hP : PF 108 σ49 τ) (q0 : 0 ≤ k9.toInt), (20000 - k9.toInt).toNat < nn → mv_V p l e ({ frames := 2017, cells := 0, slots := 0, locals := 49248 }) s m ([.ref (al 108), .long w0] : List Value).toArray below meth c (mg dA D al ext) 5 0 0 (mv_Q (mg dA D al ext) below s 0 0 (mv_Ri (fun v σ1 => MB 108 σ σ1))) τ 109 [(4, .int k9), (3, .int b9), (0, .ref (al 108)), (1, .long w0)] [] := by
        intro nn
        induction nn with
        | zero => intro τ k9 b9 hP q0 hm; exact absurd hm (Nat.not_lt_zero _)
        | succ nn ih =>
          intro τ k9 b9 hP q0 hm
          have hSt := hS.pf hP
          have hDt := hD.pf hP
          have x61 : (mv_i τ 108 61).toInt = w9 := hDt.1
          have hmr : mh (mv_r τ) := hSt.1
          refine mv_iload (pc := 109) B d_Book_step_109 0 rfl ?_
          refine mv_aload_n (pc := 111) B d_Book_step_111 rfl 2 rfl ?_
          refine mv_getI (pc := 112) (ci := 12) (C := R_Book) (T := F_Book) (N := 65) B 61 rfl rfl (by decide) i_Book (B.2.2.2.1 _ k_1910) rfl d_Book_step_112 ?_
          refine mv_icmp_ge (pc := 115) (tgt := 193) B d_Book_step_115 rfl (fun h115 => ?_) (fun h115 => ?_)
          · skip
            refine mv_aload_n (pc := 193) B d_Book_step_193 rfl 2 rfl ?_
            refine mv_getI (pc := 194) (ci := 12) (C := R_Book) (T := F_Book) (N := 65) B 18 rfl rfl (by decide) i_Book (B.2.2.2.1 _ k_1862) rfl d_Book_step_194 ?_
            refine mv_if_lt (pc := 197) (tgt := 243) B d_Book_step_197 rfl (fun h197 => ?_) (fun h197 => ?_)
            · skip
              refine mv_iconst (pc := 243) (v := 0) B d_Book_step_243 (by decide) ?_
              exact mv_iret (pc := 244) B hr rfl d_Book_step_244 (Nat.le_refl _) (Nat.le_refl _) ⟨_, rfl, by first | exact hMs.tr hP.mb | exact hMs.tr (PF.mb (Fx.sb hP (Or.inl rfl)))⟩
            · skip
              have hx0 : ¬ (mv_i τ 108 18).toInt < 0 := fun z => h197 (Int32.lt_iff_toInt_lt.mpr z)
              have hx1 : 0 ≤ (mv_i τ 108 18).toInt ∧ (mv_i τ 108 18).toInt < th := by
                rw [hP.1 _ _ id, x18] at hx0 ⊢
                rcases g9 with z | z
                · exact absurd (by rw [z]; decide) hx0
                · exact z.1
              refine mv_iload_n (pc := 200) B d_Book_step_200 rfl 1 rfl ?_
              refine mv_if_ne (pc := 201) (tgt := 243) B d_Book_step_201 rfl (fun h201 => ?_) (fun h201 => ?_)
              · skip
                refine mv_iconst (pc := 243) (v := 0) B d_Book_step_243 (by decide) ?_
                exact mv_iret (pc := 244) B hr rfl d_Book_step_244 (Nat.le_refl _) (Nat.le_refl _) ⟨_, rfl, by first | exact hMs.tr hP.mb | exact hMs.tr (PF.mb (Fx.sb hP (Or.inl rfl)))⟩
              · skip
                refine mv_aload_n (pc := 204) B d_Book_step_204 rfl 2 rfl ?_
                refine mv_getR (pc := 205) (ci := 12) (C := R_Book) (T := F_Book) (N := 65) B 55 rfl rfl (by decide) i_Book (B.2.2.2.1 _ k_1904) rfl (hmr _ 55 _ rfl) d_Book_step_205 ?_
                refine mv_aload_n (pc := 208) B d_Book_step_208 rfl 2 rfl ?_
                refine mv_getI (pc := 209) (ci := 12) (C := R_Book) (T := F_Book) (N := 65) B 18 rfl rfl (by decide) i_Book (B.2.2.2.1 _ k_1862) rfl d_Book_step_209 ?_
                refine mv_aload_n (pc := 212) B d_Book_step_212 rfl 2 rfl ?_
                refine mv_getR (pc := 213) (ci := 12) (C := R_Book) (T := F_Book) (N := 65) B 55 rfl rfl (by decide) i_Book (B.2.2.2.1 _ k_1904) rfl (hmr _ 55 _ rfl) d_Book_step_213 ?_
                refine mv_aload_n (pc := 216) B d_Book_step_216 rfl 2 rfl ?_
                refine mv_getI (pc := 217) (ci := 12) (C := R_Book) (T := F_Book) (N := 65) B 18 rfl rfl (by decide) i_Book (B.2.2.2.1 _ k_1862) rfl d_Book_step_217 ?_
                refine mv_lald (pc := 220) B rfl (i32_in (x := (mv_i τ 108 18)) (by omega) (show (mv_i τ 108 18).toInt < 4100 by omega)) d_Book_step_220 ?_
                refine mv_aload_n (pc := 221) B d_Book_step_221 rfl 2 rfl ?_
                refine mv_getI (pc := 222) (ci := 12) (C := R_Book) (T := F_Book) (N := 65) B 20 rfl rfl (by decide) i_Book (B.2.2.2.1 _ k_1865) rfl d_Book_step_222 ?_
                refine mv_bipush (pc := 225) (v := 8) B d_Book_step_225 (by decide) ?_
                refine mv_idiv (pc := 227) B d_Book_step_227 (by decide) ?_
                refine mv_i2l (pc := 228) B d_Book_step_228 ?_
                refine mv_ladd (pc := 229) B d_Book_step_229 ?_
                refine mv_aload_n (pc := 230) B d_Book_step_230 rfl 2 rfl ?_
                refine mv_getR (pc := 231) (ci := 12) (C := R_Book) (T := F_Book) (N := 65) B 12 rfl rfl (by decide) i_Book (B.2.2.2.1 _ k_1855) rfl (hmr _ 12 _ rfl) d_Book_step_231 ?_
                refine mv_aload_n (pc := 234) B d_Book_step_234 rfl 2 rfl ?_
                refine mv_getI (pc := 235) (ci := 12) (C := R_Book) (T := F_Book) (N := 65) B 18 rfl rfl (by decide) i_Book (B.2.2.2.1 _ k_1862) rfl d_Book_step_235 ?_
                refine mv_iald (pc := 238) B rfl (i32_in (x := (mv_i τ 108 18)) (by omega) (show (mv_i τ 108 18).toInt < 4100 by omega)) d_Book_step_238 ?_
                refine mv_callSl (pc := 239) (n := 2) B (mK_ok sk sv) hNs (c_Book_cut l hi _ _ _) rfl (ma_goodc kc_Book_cut) (B.2.2.2.1 _ k_2427) (B.2.2.2.1 _ k_2428) (B.2.2.2.1 _ k_13) ⟨by decide +kernel, by decide +kernel, by decide +kernel⟩ rfl d_Book_step_239 rfl (Nat.le_of_ble_eq_true rfl) ⟨by first | decide | (dsimp only; omega), by first | decide | (dsimp only; omega)⟩ ⟨Nat.le_refl _, Nat.le_refl _⟩ ⟨Nat.le_refl _, Nat.le_refl _⟩ (mv_noH hno _) (fun v239 σ239 h239 => ?_)
                have e239 := h239.symm
                subst e239
                refine mv_last (pc := 242) B rfl (i32_in (x := (mv_i τ 108 18)) (by omega) (show (mv_i τ 108 18).toInt < 4100 by omega)) d_Book_step_242 ?_
                refine mv_iconst (pc := 243) (v := 0) B d_Book_step_243 (by decide) ?_
                exact mv_iret (pc := 244) B hr rfl d_Book_step_244 (Nat.le_refl _) (Nat.le_refl _) ⟨_, rfl, by first | exact hMs.tr hP.mb | exact hMs.tr (PF.mb (Fx.sb hP (Or.inl rfl)))⟩
          · skip
            rw [Int32.le_iff_toInt_le] at h115
            rw [x61] at h115
            have w2 : (k9 + 1).toInt = k9.toInt + 1 := i32_inc (by omega)
            have hK : WK 108 th τ (mv_a τ 137 k9.toNatClampNeg) (mv_a τ 138 k9.toNatClampNeg) := hDt.2 k9.toNatClampNeg (by have := i32_cl q0; omega)
            have hK2 := hK.2.1
            refine mv_aload_n (pc := 118) B d_Book_step_118 rfl 2 rfl ?_
            refine mv_getR (pc := 119) (ci := 12) (C := R_Book) (T := F_Book) (N := 65) B 15 rfl rfl (by decide) i_Book (B.2.2.2.1 _ k_1858) rfl (hmr _ 15 _ rfl) d_Book_step_119 ?_
            refine mv_aload_n (pc := 122) B d_Book_step_122 rfl 2 rfl ?_
            refine mv_getR (pc := 123) (ci := 12) (C := R_Book) (T := F_Book) (N := 65) B 57 rfl rfl (by decide) i_Book (B.2.2.2.1 _ k_1906) rfl (hmr _ 57 _ rfl) d_Book_step_123 ?_
            refine mv_iload (pc := 126) B d_Book_step_126 0 rfl ?_
            refine mv_iald (pc := 128) B rfl (i32_in (show 0 ≤ k9.toInt by omega) (show k9.toInt < 12000 by omega)) d_Book_step_128 ?_
            refine mv_zald (pc := 129) B rfl (i32_in hK.1 (show (mv_a τ 137 k9.toNatClampNeg).toInt < 4100 by omega)) d_Book_step_129 ?_
            refine mv_if_eq (pc := 130) (tgt := 168) B d_Book_step_130 rfl (fun h130 => ?_) (fun h130 => ?_)
            · skip
              refine mv_aload_n (pc := 168) B d_Book_step_168 rfl 2 rfl ?_
              refine mv_getR (pc := 169) (ci := 12) (C := R_Book) (T := F_Book) (N := 65) B 55 rfl rfl (by decide) i_Book (B.2.2.2.1 _ k_1904) rfl (hmr _ 55 _ rfl) d_Book_step_169 ?_
              refine mv_aload_n (pc := 172) B d_Book_step_172 rfl 2 rfl ?_
              refine mv_getR (pc := 173) (ci := 12) (C := R_Book) (T := F_Book) (N := 65) B 57 rfl rfl (by decide) i_Book (B.2.2.2.1 _ k_1906) rfl (hmr _ 57 _ rfl) d_Book_step_173 ?_
              refine mv_iload (pc := 176) B d_Book_step_176 0 rfl ?_
              refine mv_iald (pc := 178) B rfl (i32_in (show 0 ≤ k9.toInt by omega) (show k9.toInt < 12000 by omega)) d_Book_step_178 ?_
              refine mv_aload_n (pc := 179) B d_Book_step_179 rfl 2 rfl ?_
              refine mv_getR (pc := 180) (ci := 12) (C := R_Book) (T := F_Book) (N := 65) B 60 rfl rfl (by decide) i_Book (B.2.2.2.1 _ k_1909) rfl (hmr _ 60 _ rfl) d_Book_step_180 ?_
              refine mv_iload (pc := 183) B d_Book_step_183 0 rfl ?_
              refine mv_lald (pc := 185) B rfl (i32_in (show 0 ≤ k9.toInt by omega) (show k9.toInt < 12000 by omega)) d_Book_step_185 ?_
              refine mv_last (pc := 186) B rfl (i32_in hK.1 (show (mv_a τ 137 k9.toNatClampNeg).toInt < 4100 by omega)) d_Book_step_186 ?_
              refine mv_iinc (pc := 187) (j := 0) (v := 1) B d_Book_step_187 rfl (by decide) (by decide) rfl ?_
              refine mv_goto (pc := 190) (tgt := 109) B d_Book_step_190 rfl ?_
              refine mv_lpick [0, 1, 2, 3] rfl ?_
              exact ih _ _ _ (by first | exact hP.sb (Or.inr rfl) | exact hP.sb (Or.inl rfl)) (by omega) (by omega)
            · skip
              have hin : 0 ≤ (mv_a τ 113 (mv_a τ 137 k9.toNatClampNeg).toNatClampNeg).toInt + (mv_a τ 138 k9.toNatClampNeg).toInt ∧ (mv_a τ 113 (mv_a τ 137 k9.toNatClampNeg).toNatClampNeg).toInt + (mv_a τ 138 k9.toNatClampNeg).toInt < 65536 ∧ 0 ≤ (mv_a τ 113 (mv_a τ 137 k9.toNatClampNeg).toNatClampNeg).toInt := hK.in hSt h130
              refine mv_aload_n (pc := 133) B d_Book_step_133 rfl 2 rfl ?_
              refine mv_getR (pc := 134) (ci := 12) (C := R_Book) (T := F_Book) (N := 65) B 56 rfl rfl (by decide) i_Book (B.2.2.2.1 _ k_1905) rfl (hmr _ 56 _ rfl) d_Book_step_134 ?_
              refine mv_aload_n (pc := 137) B d_Book_step_137 rfl 2 rfl ?_
              refine mv_getR (pc := 138) (ci := 12) (C := R_Book) (T := F_Book) (N := 65) B 14 rfl rfl (by decide) i_Book (B.2.2.2.1 _ k_1857) rfl (hmr _ 14 _ rfl) d_Book_step_138 ?_
              refine mv_aload_n (pc := 141) B d_Book_step_141 rfl 2 rfl ?_
              refine mv_getR (pc := 142) (ci := 12) (C := R_Book) (T := F_Book) (N := 65) B 57 rfl rfl (by decide) i_Book (B.2.2.2.1 _ k_1906) rfl (hmr _ 57 _ rfl) d_Book_step_142 ?_
              refine mv_iload (pc := 145) B d_Book_step_145 0 rfl ?_
              refine mv_iald (pc := 147) B rfl (i32_in (show 0 ≤ k9.toInt by omega) (show k9.toInt < 12000 by omega)) d_Book_step_147 ?_
              refine mv_iald (pc := 148) B rfl (i32_in hK.1 (show (mv_a τ 137 k9.toNatClampNeg).toInt < 4100 by omega)) d_Book_step_148 ?_
              refine mv_aload_n (pc := 149) B d_Book_step_149 rfl 2 rfl ?_
              refine mv_getR (pc := 150) (ci := 12) (C := R_Book) (T := F_Book) (N := 65) B 58 rfl rfl (by decide) i_Book (B.2.2.2.1 _ k_1907) rfl (hmr _ 58 _ rfl) d_Book_step_150 ?_
              refine mv_iload (pc := 153) B d_Book_step_153 0 rfl ?_
              refine mv_iald (pc := 155) B rfl (i32_in (show 0 ≤ k9.toInt by omega) (show k9.toInt < 12000 by omega)) d_Book_step_155 ?_
              refine mv_iadd (pc := 156) B d_Book_step_156 ?_
              refine mv_topi (fun y156 ey156 => ?_)
              have fy156 := i32_addE ey156 (by (try simp only [Int32.reduceToInt]); omega) (by (try simp only [Int32.reduceToInt]); omega)
              try simp only [Int32.reduceToInt] at fy156
              refine mv_aload_n (pc := 157) B d_Book_step_157 rfl 2 rfl ?_
              refine mv_getR (pc := 158) (ci := 12) (C := R_Book) (T := F_Book) (N := 65) B 60 rfl rfl (by decide) i_Book (B.2.2.2.1 _ k_1909) rfl (hmr _ 60 _ rfl) d_Book_step_158 ?_
              refine mv_iload (pc := 161) B d_Book_step_161 0 rfl ?_
              refine mv_lald (pc := 163) B rfl (i32_in (show 0 ≤ k9.toInt by omega) (show k9.toInt < 12000 by omega)) d_Book_step_163 ?_
              refine mv_last (pc := 164) B rfl (i32_in (show 0 ≤ y156.toInt by omega) (show y156.toInt < 65536 by omega)) d_Book_step_164 ?_
              refine mv_goto (pc := 165) (tgt := 187) B d_Book_step_165 rfl ?_
              refine mv_iinc (pc := 187) (j := 0) (v := 1) B d_Book_step_187 rfl (by decide) (by decide) rfl ?_
              refine mv_goto (pc := 190) (tgt := 109) B d_Book_step_190 rfl ?_
              refine mv_lpick [0, 1, 2, 3] rfl ?_
              exact ih _ _ _ (by first | exact hP.sb (Or.inr rfl) | exact hP.sb (Or.inl rfl)) (by omega) (by omega)
      have lp1 : ∀ (nn : Nat) (k9 : Int32) (b9 : Int32) (q0 : 0 ≤ k9.toInt), (20000 - k9.toInt).toNat < nn → mv_V p l e ({ frames := 2017, cells := 0, slots := 0, locals := 49248 }) s m ([.ref (al 108), .long w0] : List Value).toArray below meth c (mg dA D al ext) 5 0 0 (mv_Q (mg dA D al ext) below s 0 0 (mv_Ri (fun v σ1 => MB 108 σ σ1))) σ49 69 [(4, .int k9), (3, .int b9), (0, .ref (al 108)), (1, .long w0)] [] := by
        intro nn
        induction nn with
        | zero => intro k9 b9 q0 hm; exact absurd hm (Nat.not_lt_zero _)
        | succ nn ih =>
          intro k9 b9 q0 hm
          refine mv_iload (pc := 69) B d_Book_step_69 0 rfl ?_
          refine mv_aload_n (pc := 71) B d_Book_step_71 rfl 2 rfl ?_
          refine mv_getI (pc := 72) (ci := 12) (C := R_Book) (T := F_Book) (N := 65) B 61 rfl rfl (by decide) i_Book (B.2.2.2.1 _ k_1910) rfl d_Book_step_72 ?_
          refine mv_icmp_ge (pc := 75) (tgt := 106) B d_Book_step_75 rfl (fun h75 => ?_) (fun h75 => ?_)
          · skip
            refine mv_iconst (pc := 106) (v := 0) B d_Book_step_106 (by decide) ?_
            refine mv_istore (pc := 107) B d_Book_step_107 (by decide) rfl ?_
            refine mv_lpick [0, 1, 2, 3] rfl ?_
            exact lp2 _ _ _ _ Fx.rf (by decide) (Nat.lt_succ_self _)
          · skip
            rw [Int32.le_iff_toInt_le] at h75
            have w2 : (k9 + 1).toInt = k9.toInt + 1 := i32_inc (by omega)
            refine mv_iload_n (pc := 78) B d_Book_step_78 rfl 1 rfl ?_
            refine mv_aload_n (pc := 79) B d_Book_step_79 rfl 2 rfl ?_
            refine mv_getR (pc := 80) (ci := 12) (C := R_Book) (T := F_Book) (N := 65) B 57 rfl rfl (by decide) i_Book (B.2.2.2.1 _ k_1906) rfl (hmr _ 57 _ rfl) d_Book_step_80 ?_
            refine mv_iload (pc := 83) B d_Book_step_83 0 rfl ?_
            refine mv_iald (pc := 85) B rfl (i32_in (show 0 ≤ k9.toInt by omega) (show k9.toInt < 12000 by omega)) d_Book_step_85 ?_
            refine mv_aload_n (pc := 86) B d_Book_step_86 rfl 2 rfl ?_
            refine mv_getI (pc := 87) (ci := 12) (C := R_Book) (T := F_Book) (N := 65) B 18 rfl rfl (by decide) i_Book (B.2.2.2.1 _ k_1862) rfl d_Book_step_87 ?_
            refine mv_icmp_ne (pc := 90) (tgt := 97) B d_Book_step_90 rfl (fun h90 => ?_) (fun h90 => ?_)
            · skip
              refine mv_iconst (pc := 97) (v := 0) B d_Book_step_97 (by decide) ?_
              refine mv_ior (pc := 98) B d_Book_step_98 ?_
              refine mv_istore_n (pc := 99) B d_Book_step_99 rfl (by decide) rfl ?_
              refine mv_iinc (pc := 100) (j := 1) (v := 1) B d_Book_step_100 rfl (by decide) (by decide) rfl ?_
              refine mv_goto (pc := 103) (tgt := 69) B d_Book_step_103 rfl ?_
              refine mv_lpick [0, 1, 2, 3] rfl ?_
              exact ih _ _ (by omega) (by omega)
            · skip
              refine mv_iconst (pc := 93) (v := 1) B d_Book_step_93 (by decide) ?_
              refine mv_goto (pc := 94) (tgt := 98) B d_Book_step_94 rfl ?_
              refine mv_ior (pc := 98) B d_Book_step_98 ?_
              refine mv_istore_n (pc := 99) B d_Book_step_99 rfl (by decide) rfl ?_
              refine mv_iinc (pc := 100) (j := 1) (v := 1) B d_Book_step_100 rfl (by decide) (by decide) rfl ?_
              refine mv_goto (pc := 103) (tgt := 69) B d_Book_step_103 rfl ?_
              refine mv_lpick [0, 1, 2, 3] rfl ?_
              exact ih _ _ (by omega) (by omega)
      refine mv_aload_n (pc := 52) B d_Book_step_52 rfl 0 rfl ?_
      refine mv_getI (pc := 53) (ci := 12) (C := R_Book) (T := F_Book) (N := 65) B 53 rfl rfl (by decide) i_Book (B.2.2.2.1 _ k_1902) rfl d_Book_step_53 ?_
      refine mv_if_eq (pc := 56) (tgt := 64) B d_Book_step_56 rfl (fun h56 => ?_) (fun h56 => ?_)
      · skip
        refine mv_iconst (pc := 64) (v := 0) B d_Book_step_64 (by decide) ?_
        refine mv_istore_n (pc := 65) B d_Book_step_65 rfl (by decide) rfl ?_
        refine mv_iconst (pc := 66) (v := 0) B d_Book_step_66 (by decide) ?_
        refine mv_istore (pc := 67) B d_Book_step_67 (by decide) rfl ?_
        refine mv_lpick [0, 1, 2, 3] rfl ?_
        exact lp1 _ _ _ (by decide) (Nat.lt_succ_self _)
      · skip
        refine mv_aload_n (pc := 59) B d_Book_step_59 rfl 0 rfl ?_
        refine mv_getI (pc := 60) (ci := 12) (C := R_Book) (T := F_Book) (N := 65) B 53 rfl rfl (by decide) i_Book (B.2.2.2.1 _ k_1902) rfl d_Book_step_60 ?_
        exact mv_iret (pc := 63) B hr rfl d_Book_step_63 (Nat.le_refl _) (Nat.le_refl _) ⟨_, rfl, by first | exact hMs | exact hM⟩
  · skip
    refine mv_bipush (pc := 13) (v := -2) B d_Book_step_13 (by decide) ?_
    refine mv_goto (pc := 15) (tgt := 19) B d_Book_step_15 rfl ?_
    refine mv_putI (pc := 19) (ci := 12) (C := R_Book) (T := F_Book) (N := 65) B 53 rfl rfl (by decide) i_Book t_Book_ok n_Book (B.2.2.2.1 _ k_1902) rfl rfl rfl rfl d_Book_step_19 ?_
    refine mv_aload_n (pc := 22) B d_Book_step_22 rfl 0 rfl ?_
    refine mv_iconst (pc := 23) (v := 0) B d_Book_step_23 (by decide) ?_
    refine mv_putI (pc := 24) (ci := 12) (C := R_Book) (T := F_Book) (N := 65) B 61 rfl rfl (by decide) i_Book t_Book_ok n_Book (B.2.2.2.1 _ k_1910) rfl rfl rfl rfl d_Book_step_24 ?_
    refine mv_aload_n (pc := 27) B d_Book_step_27 rfl 0 rfl ?_
    refine mv_iconst (pc := 28) (v := 0) B d_Book_step_28 (by decide) ?_
    refine mv_putI (pc := 29) (ci := 12) (C := R_Book) (T := F_Book) (N := 65) B 62 rfl rfl (by decide) i_Book t_Book_ok n_Book (B.2.2.2.1 _ k_1911) rfl rfl rfl rfl d_Book_step_29 ?_
    refine mv_gen (fun S32 eS32 => ?_)
    have hM : MB 108 σ S32 := by
      rw [eS32]
      refine Fx.si (Fx.si (Fx.si (Fx.sl Fx.rf ?_) ?_) ?_) ?_
      · exact ⟨rfl, Or.inl rfl⟩
      · exact ⟨rfl, Or.inl rfl⟩
      · exact ⟨rfl, Or.inr (Or.inl rfl)⟩
      · exact ⟨rfl, Or.inr (Or.inr (Or.inl rfl))⟩
    have x53 : mv_i S32 108 53 = 0 ∨ mv_i S32 108 53 = -2 := by
      rw [eS32, mv_si_o _ _ (by omega), mv_si_o _ _ (by omega), mv_si_s]
      first | exact Or.inl rfl | exact Or.inr rfl
    have x61 : mv_i S32 108 61 = 0 := by rw [eS32, mv_si_o _ _ (by omega), mv_si_s]
    have x62 : mv_i S32 108 62 = 0 := by rw [eS32, mv_si_s]
    have x63 : mv_i S32 108 63 = mv_i σ 108 63 := by rw [eS32, mv_si_o _ _ (by omega), mv_si_o _ _ (by omega), mv_si_o _ _ (by omega)]; rfl
    have xs : mv_i S32 108 53 = 0 → ¬ mv_i σ 108 63 < 0 := by
      intro z
      rw [eS32, mv_si_o _ _ (by omega), mv_si_o _ _ (by omega), mv_si_s] at z
      first | exact absurd z (by decide) | exact i32_nlt h10
    have hmr : mh (mv_r S32) := by rw [hM.2.2.1]; exact hmr
    have hG := hG.mf hM
    have hU : CU 108 S32 := hU.fr x63 (hM.1 _ _ (by omega))
    clear eS32
    refine mv_aload_n (pc := 32) B d_Book_step_32 rfl 0 rfl ?_
    refine mv_getI (pc := 33) (ci := 12) (C := R_Book) (T := F_Book) (N := 65) B 53 rfl rfl (by decide) i_Book (B.2.2.2.1 _ k_1902) rfl d_Book_step_33 ?_
    refine mv_if_ne (pc := 36) (tgt := 52) B d_Book_step_36 rfl (fun h36 => ?_) (fun h36 => ?_)
    · skip
      refine mv_aload_n (pc := 52) B d_Book_step_52 rfl 0 rfl ?_
      refine mv_getI (pc := 53) (ci := 12) (C := R_Book) (T := F_Book) (N := 65) B 53 rfl rfl (by decide) i_Book (B.2.2.2.1 _ k_1902) rfl d_Book_step_53 ?_
      refine mv_if_eq (pc := 56) (tgt := 64) B d_Book_step_56 rfl (fun h56 => ?_) (fun h56 => ?_)
      · skip
        exact absurd h56 h36
      · skip
        refine mv_aload_n (pc := 59) B d_Book_step_59 rfl 0 rfl ?_
        refine mv_getI (pc := 60) (ci := 12) (C := R_Book) (T := F_Book) (N := 65) B 53 rfl rfl (by decide) i_Book (B.2.2.2.1 _ k_1902) rfl d_Book_step_60 ?_
        exact mv_iret (pc := 63) B hr rfl d_Book_step_63 (Nat.le_refl _) (Nat.le_refl _) ⟨_, rfl, by first | exact hMs | exact hM⟩
    · skip
      obtain ⟨th, n, k, g1, g2, g3, g4, g5, ⟨g, g6, g7⟩, g8, g9⟩ := hG
      have xc := xs h36
      rw [← x63] at xc
      have hcu : 0 ≤ (mv_i S32 108 63).toInt ∧ (mv_i S32 108 63).toInt < k := by
        rcases hU with z | z
        · exact absurd (show mv_i S32 108 63 < 0 by rw [z]; decide) xc
        · rw [g5.1] at z
          exact z
      have hS : ST 108 th n k g S32 := ⟨hmr, g6, g4, g1, g2, g8, g5, hcu⟩
      have hD : DY 108 th 0 S32 := ⟨by rw [x61]; rfl, fun j hj => absurd hj (Nat.not_lt_zero _)⟩
      have hT := RT.rf hS hD (by rw [x62]; rfl)
      have hci := i32_cl hcu.1
      have hk4 := g5.2.1
      have hob := g7 (mv_i S32 108 63).toNatClampNeg (by omega)
      obtain ⟨H, hHn, hRB⟩ : ∃ H, H ≤ n ∧ RB 108 n 62 0 H g S32 (mv_a S32 119 (mv_i S32 108 63).toNatClampNeg) := by
        rcases hob with z | ⟨t, H, z1, z2, z3, z4, z5, z6, z7⟩
        · exact ⟨0, Nat.zero_le _, Nat.zero_le _, Or.inl ⟨z, Nat.le_refl _⟩⟩
        · exact ⟨H, z3, z3, Or.inr ⟨t, z1, z2, z4, z5, by omega, z7, Nat.zero_le _⟩⟩
      refine mv_aload_n (pc := 39) B d_Book_step_39 rfl 0 rfl ?_
      refine mv_aload_n (pc := 40) B d_Book_step_40 rfl 0 rfl ?_
      refine mv_getR (pc := 41) (ci := 12) (C := R_Book) (T := F_Book) (N := 65) B 26 rfl rfl (by decide) i_Book (B.2.2.2.1 _ k_1871) rfl (hmr _ 26 _ rfl) d_Book_step_41 ?_
      refine mv_aload_n (pc := 44) B d_Book_step_44 rfl 0 rfl ?_
      refine mv_getI (pc := 45) (ci := 12) (C := R_Book) (T := F_Book) (N := 65) B 63 rfl rfl (by decide) i_Book (B.2.2.2.1 _ k_1912) rfl d_Book_step_45 ?_
      refine mv_iald (pc := 48) B rfl (i32_in hcu.1 (show (mv_i S32 108 63).toInt < 4100 by omega)) d_Book_step_48 ?_
      refine mv_callVv (pc := 49) (n := 1) (ci := 12) (C := R_Book) B (mK_ok sk sv) hNs rfl rfl (c_Book_body_y l hi 62 _ _ th n k 0 H g hRB hT) rfl (ma_goodc kc_Book_run) (B.2.2.2.1 _ k_2496) (B.2.2.2.1 _ k_2498) (B.2.2.2.1 _ ks_130) (B.2.2.2.1 _ k_13) ⟨by decide +kernel, by decide +kernel, by decide +kernel⟩ rfl d_Book_step_49 rfl (Nat.le_of_ble_eq_true rfl) ⟨by first | decide | (dsimp only; omega), by first | decide | (dsimp only; omega)⟩ ⟨Nat.le_refl _, Nat.le_refl _⟩ ⟨Nat.le_refl _, Nat.le_refl _⟩ (mv_noH hno _) (fun σ49 h49 => ?_)
      obtain ⟨w9, hw9, hR⟩ := h49
      have hMs := hM.tr hR.1.mf
      have hmr : mh (mv_r σ49) := hR.2.1.1
      have hS := hR.2.1
      have hD := hR.2.2.1
      have hD1 := hD.1
      have x18 : mv_i σ49 108 18 = mv_i S32 108 18 := hR.1.1 _ _ (by omega)
      have lp2 : ∀ (nn : Nat) (τ : mv_H) (k9 : Int32) (b9 : Int32) (hP : PF 108 σ49 τ) (q0 : 0 ≤ k9.toInt), (20000 - k9.toInt).toNat < nn → mv_V p l e ({ frames := 2017, cells := 0, slots := 0, locals := 49248 }) s m ([.ref (al 108), .long w0] : List Value).toArray below meth c (mg dA D al ext) 5 0 0 (mv_Q (mg dA D al ext) below s 0 0 (mv_Ri (fun v σ1 => MB 108 σ σ1))) τ 109 [(4, .int k9), (3, .int b9), (0, .ref (al 108)), (1, .long w0)] [] := by
        intro nn
        induction nn with
        | zero => intro τ k9 b9 hP q0 hm; exact absurd hm (Nat.not_lt_zero _)
        | succ nn ih =>
          intro τ k9 b9 hP q0 hm
          have hSt := hS.pf hP
          have hDt := hD.pf hP
          have x61 : (mv_i τ 108 61).toInt = w9 := hDt.1
          have hmr : mh (mv_r τ) := hSt.1
          refine mv_iload (pc := 109) B d_Book_step_109 0 rfl ?_
          refine mv_aload_n (pc := 111) B d_Book_step_111 rfl 2 rfl ?_
          refine mv_getI (pc := 112) (ci := 12) (C := R_Book) (T := F_Book) (N := 65) B 61 rfl rfl (by decide) i_Book (B.2.2.2.1 _ k_1910) rfl d_Book_step_112 ?_
          refine mv_icmp_ge (pc := 115) (tgt := 193) B d_Book_step_115 rfl (fun h115 => ?_) (fun h115 => ?_)
          · skip
            refine mv_aload_n (pc := 193) B d_Book_step_193 rfl 2 rfl ?_
            refine mv_getI (pc := 194) (ci := 12) (C := R_Book) (T := F_Book) (N := 65) B 18 rfl rfl (by decide) i_Book (B.2.2.2.1 _ k_1862) rfl d_Book_step_194 ?_
            refine mv_if_lt (pc := 197) (tgt := 243) B d_Book_step_197 rfl (fun h197 => ?_) (fun h197 => ?_)
            · skip
              refine mv_iconst (pc := 243) (v := 0) B d_Book_step_243 (by decide) ?_
              exact mv_iret (pc := 244) B hr rfl d_Book_step_244 (Nat.le_refl _) (Nat.le_refl _) ⟨_, rfl, by first | exact hMs.tr hP.mb | exact hMs.tr (PF.mb (Fx.sb hP (Or.inl rfl)))⟩
            · skip
              have hx0 : ¬ (mv_i τ 108 18).toInt < 0 := fun z => h197 (Int32.lt_iff_toInt_lt.mpr z)
              have hx1 : 0 ≤ (mv_i τ 108 18).toInt ∧ (mv_i τ 108 18).toInt < th := by
                rw [hP.1 _ _ id, x18] at hx0 ⊢
                rcases g9 with z | z
                · exact absurd (by rw [z]; decide) hx0
                · exact z.1
              refine mv_iload_n (pc := 200) B d_Book_step_200 rfl 1 rfl ?_
              refine mv_if_ne (pc := 201) (tgt := 243) B d_Book_step_201 rfl (fun h201 => ?_) (fun h201 => ?_)
              · skip
                refine mv_iconst (pc := 243) (v := 0) B d_Book_step_243 (by decide) ?_
                exact mv_iret (pc := 244) B hr rfl d_Book_step_244 (Nat.le_refl _) (Nat.le_refl _) ⟨_, rfl, by first | exact hMs.tr hP.mb | exact hMs.tr (PF.mb (Fx.sb hP (Or.inl rfl)))⟩
              · skip
                refine mv_aload_n (pc := 204) B d_Book_step_204 rfl 2 rfl ?_
                refine mv_getR (pc := 205) (ci := 12) (C := R_Book) (T := F_Book) (N := 65) B 55 rfl rfl (by decide) i_Book (B.2.2.2.1 _ k_1904) rfl (hmr _ 55 _ rfl) d_Book_step_205 ?_
                refine mv_aload_n (pc := 208) B d_Book_step_208 rfl 2 rfl ?_
                refine mv_getI (pc := 209) (ci := 12) (C := R_Book) (T := F_Book) (N := 65) B 18 rfl rfl (by decide) i_Book (B.2.2.2.1 _ k_1862) rfl d_Book_step_209 ?_
                refine mv_aload_n (pc := 212) B d_Book_step_212 rfl 2 rfl ?_
                refine mv_getR (pc := 213) (ci := 12) (C := R_Book) (T := F_Book) (N := 65) B 55 rfl rfl (by decide) i_Book (B.2.2.2.1 _ k_1904) rfl (hmr _ 55 _ rfl) d_Book_step_213 ?_
                refine mv_aload_n (pc := 216) B d_Book_step_216 rfl 2 rfl ?_
                refine mv_getI (pc := 217) (ci := 12) (C := R_Book) (T := F_Book) (N := 65) B 18 rfl rfl (by decide) i_Book (B.2.2.2.1 _ k_1862) rfl d_Book_step_217 ?_
                refine mv_lald (pc := 220) B rfl (i32_in (x := (mv_i τ 108 18)) (by omega) (show (mv_i τ 108 18).toInt < 4100 by omega)) d_Book_step_220 ?_
                refine mv_aload_n (pc := 221) B d_Book_step_221 rfl 2 rfl ?_
                refine mv_getI (pc := 222) (ci := 12) (C := R_Book) (T := F_Book) (N := 65) B 20 rfl rfl (by decide) i_Book (B.2.2.2.1 _ k_1865) rfl d_Book_step_222 ?_
                refine mv_bipush (pc := 225) (v := 8) B d_Book_step_225 (by decide) ?_
                refine mv_idiv (pc := 227) B d_Book_step_227 (by decide) ?_
                refine mv_i2l (pc := 228) B d_Book_step_228 ?_
                refine mv_ladd (pc := 229) B d_Book_step_229 ?_
                refine mv_aload_n (pc := 230) B d_Book_step_230 rfl 2 rfl ?_
                refine mv_getR (pc := 231) (ci := 12) (C := R_Book) (T := F_Book) (N := 65) B 12 rfl rfl (by decide) i_Book (B.2.2.2.1 _ k_1855) rfl (hmr _ 12 _ rfl) d_Book_step_231 ?_
                refine mv_aload_n (pc := 234) B d_Book_step_234 rfl 2 rfl ?_
                refine mv_getI (pc := 235) (ci := 12) (C := R_Book) (T := F_Book) (N := 65) B 18 rfl rfl (by decide) i_Book (B.2.2.2.1 _ k_1862) rfl d_Book_step_235 ?_
                refine mv_iald (pc := 238) B rfl (i32_in (x := (mv_i τ 108 18)) (by omega) (show (mv_i τ 108 18).toInt < 4100 by omega)) d_Book_step_238 ?_
                refine mv_callSl (pc := 239) (n := 2) B (mK_ok sk sv) hNs (c_Book_cut l hi _ _ _) rfl (ma_goodc kc_Book_cut) (B.2.2.2.1 _ k_2427) (B.2.2.2.1 _ k_2428) (B.2.2.2.1 _ k_13) ⟨by decide +kernel, by decide +kernel, by decide +kernel⟩ rfl d_Book_step_239 rfl (Nat.le_of_ble_eq_true rfl) ⟨by first | decide | (dsimp only; omega), by first | decide | (dsimp only; omega)⟩ ⟨Nat.le_refl _, Nat.le_refl _⟩ ⟨Nat.le_refl _, Nat.le_refl _⟩ (mv_noH hno _) (fun v239 σ239 h239 => ?_)
                have e239 := h239.symm
                subst e239
                refine mv_last (pc := 242) B rfl (i32_in (x := (mv_i τ 108 18)) (by omega) (show (mv_i τ 108 18).toInt < 4100 by omega)) d_Book_step_242 ?_
                refine mv_iconst (pc := 243) (v := 0) B d_Book_step_243 (by decide) ?_
                exact mv_iret (pc := 244) B hr rfl d_Book_step_244 (Nat.le_refl _) (Nat.le_refl _) ⟨_, rfl, by first | exact hMs.tr hP.mb | exact hMs.tr (PF.mb (Fx.sb hP (Or.inl rfl)))⟩
          · skip
            rw [Int32.le_iff_toInt_le] at h115
            rw [x61] at h115
            have w2 : (k9 + 1).toInt = k9.toInt + 1 := i32_inc (by omega)
            have hK : WK 108 th τ (mv_a τ 137 k9.toNatClampNeg) (mv_a τ 138 k9.toNatClampNeg) := hDt.2 k9.toNatClampNeg (by have := i32_cl q0; omega)
            have hK2 := hK.2.1
            refine mv_aload_n (pc := 118) B d_Book_step_118 rfl 2 rfl ?_
            refine mv_getR (pc := 119) (ci := 12) (C := R_Book) (T := F_Book) (N := 65) B 15 rfl rfl (by decide) i_Book (B.2.2.2.1 _ k_1858) rfl (hmr _ 15 _ rfl) d_Book_step_119 ?_
            refine mv_aload_n (pc := 122) B d_Book_step_122 rfl 2 rfl ?_
            refine mv_getR (pc := 123) (ci := 12) (C := R_Book) (T := F_Book) (N := 65) B 57 rfl rfl (by decide) i_Book (B.2.2.2.1 _ k_1906) rfl (hmr _ 57 _ rfl) d_Book_step_123 ?_
            refine mv_iload (pc := 126) B d_Book_step_126 0 rfl ?_
            refine mv_iald (pc := 128) B rfl (i32_in (show 0 ≤ k9.toInt by omega) (show k9.toInt < 12000 by omega)) d_Book_step_128 ?_
            refine mv_zald (pc := 129) B rfl (i32_in hK.1 (show (mv_a τ 137 k9.toNatClampNeg).toInt < 4100 by omega)) d_Book_step_129 ?_
            refine mv_if_eq (pc := 130) (tgt := 168) B d_Book_step_130 rfl (fun h130 => ?_) (fun h130 => ?_)
            · skip
              refine mv_aload_n (pc := 168) B d_Book_step_168 rfl 2 rfl ?_
              refine mv_getR (pc := 169) (ci := 12) (C := R_Book) (T := F_Book) (N := 65) B 55 rfl rfl (by decide) i_Book (B.2.2.2.1 _ k_1904) rfl (hmr _ 55 _ rfl) d_Book_step_169 ?_
              refine mv_aload_n (pc := 172) B d_Book_step_172 rfl 2 rfl ?_
              refine mv_getR (pc := 173) (ci := 12) (C := R_Book) (T := F_Book) (N := 65) B 57 rfl rfl (by decide) i_Book (B.2.2.2.1 _ k_1906) rfl (hmr _ 57 _ rfl) d_Book_step_173 ?_
              refine mv_iload (pc := 176) B d_Book_step_176 0 rfl ?_
              refine mv_iald (pc := 178) B rfl (i32_in (show 0 ≤ k9.toInt by omega) (show k9.toInt < 12000 by omega)) d_Book_step_178 ?_
              refine mv_aload_n (pc := 179) B d_Book_step_179 rfl 2 rfl ?_
              refine mv_getR (pc := 180) (ci := 12) (C := R_Book) (T := F_Book) (N := 65) B 60 rfl rfl (by decide) i_Book (B.2.2.2.1 _ k_1909) rfl (hmr _ 60 _ rfl) d_Book_step_180 ?_
              refine mv_iload (pc := 183) B d_Book_step_183 0 rfl ?_
              refine mv_lald (pc := 185) B rfl (i32_in (show 0 ≤ k9.toInt by omega) (show k9.toInt < 12000 by omega)) d_Book_step_185 ?_
              refine mv_last (pc := 186) B rfl (i32_in hK.1 (show (mv_a τ 137 k9.toNatClampNeg).toInt < 4100 by omega)) d_Book_step_186 ?_
              refine mv_iinc (pc := 187) (j := 0) (v := 1) B d_Book_step_187 rfl (by decide) (by decide) rfl ?_
              refine mv_goto (pc := 190) (tgt := 109) B d_Book_step_190 rfl ?_
              refine mv_lpick [0, 1, 2, 3] rfl ?_
              exact ih _ _ _ (by first | exact hP.sb (Or.inr rfl) | exact hP.sb (Or.inl rfl)) (by omega) (by omega)
            · skip
              have hin : 0 ≤ (mv_a τ 113 (mv_a τ 137 k9.toNatClampNeg).toNatClampNeg).toInt + (mv_a τ 138 k9.toNatClampNeg).toInt ∧ (mv_a τ 113 (mv_a τ 137 k9.toNatClampNeg).toNatClampNeg).toInt + (mv_a τ 138 k9.toNatClampNeg).toInt < 65536 ∧ 0 ≤ (mv_a τ 113 (mv_a τ 137 k9.toNatClampNeg).toNatClampNeg).toInt := hK.in hSt h130
              refine mv_aload_n (pc := 133) B d_Book_step_133 rfl 2 rfl ?_
              refine mv_getR (pc := 134) (ci := 12) (C := R_Book) (T := F_Book) (N := 65) B 56 rfl rfl (by decide) i_Book (B.2.2.2.1 _ k_1905) rfl (hmr _ 56 _ rfl) d_Book_step_134 ?_
              refine mv_aload_n (pc := 137) B d_Book_step_137 rfl 2 rfl ?_
              refine mv_getR (pc := 138) (ci := 12) (C := R_Book) (T := F_Book) (N := 65) B 14 rfl rfl (by decide) i_Book (B.2.2.2.1 _ k_1857) rfl (hmr _ 14 _ rfl) d_Book_step_138 ?_
              refine mv_aload_n (pc := 141) B d_Book_step_141 rfl 2 rfl ?_
              refine mv_getR (pc := 142) (ci := 12) (C := R_Book) (T := F_Book) (N := 65) B 57 rfl rfl (by decide) i_Book (B.2.2.2.1 _ k_1906) rfl (hmr _ 57 _ rfl) d_Book_step_142 ?_
              refine mv_iload (pc := 145) B d_Book_step_145 0 rfl ?_
              refine mv_iald (pc := 147) B rfl (i32_in (show 0 ≤ k9.toInt by omega) (show k9.toInt < 12000 by omega)) d_Book_step_147 ?_
              refine mv_iald (pc := 148) B rfl (i32_in hK.1 (show (mv_a τ 137 k9.toNatClampNeg).toInt < 4100 by omega)) d_Book_step_148 ?_
              refine mv_aload_n (pc := 149) B d_Book_step_149 rfl 2 rfl ?_
              refine mv_getR (pc := 150) (ci := 12) (C := R_Book) (T := F_Book) (N := 65) B 58 rfl rfl (by decide) i_Book (B.2.2.2.1 _ k_1907) rfl (hmr _ 58 _ rfl) d_Book_step_150 ?_
              refine mv_iload (pc := 153) B d_Book_step_153 0 rfl ?_
              refine mv_iald (pc := 155) B rfl (i32_in (show 0 ≤ k9.toInt by omega) (show k9.toInt < 12000 by omega)) d_Book_step_155 ?_
              refine mv_iadd (pc := 156) B d_Book_step_156 ?_
              refine mv_topi (fun y156 ey156 => ?_)
              have fy156 := i32_addE ey156 (by (try simp only [Int32.reduceToInt]); omega) (by (try simp only [Int32.reduceToInt]); omega)
              try simp only [Int32.reduceToInt] at fy156
              refine mv_aload_n (pc := 157) B d_Book_step_157 rfl 2 rfl ?_
              refine mv_getR (pc := 158) (ci := 12) (C := R_Book) (T := F_Book) (N := 65) B 60 rfl rfl (by decide) i_Book (B.2.2.2.1 _ k_1909) rfl (hmr _ 60 _ rfl) d_Book_step_158 ?_
              refine mv_iload (pc := 161) B d_Book_step_161 0 rfl ?_
              refine mv_lald (pc := 163) B rfl (i32_in (show 0 ≤ k9.toInt by omega) (show k9.toInt < 12000 by omega)) d_Book_step_163 ?_
              refine mv_last (pc := 164) B rfl (i32_in (show 0 ≤ y156.toInt by omega) (show y156.toInt < 65536 by omega)) d_Book_step_164 ?_
              refine mv_goto (pc := 165) (tgt := 187) B d_Book_step_165 rfl ?_
              refine mv_iinc (pc := 187) (j := 0) (v := 1) B d_Book_step_187 rfl (by decide) (by decide) rfl ?_
              refine mv_goto (pc := 190) (tgt := 109) B d_Book_step_190 rfl ?_
              refine mv_lpick [0, 1, 2, 3] rfl ?_
              exact ih _ _ _ (by first | exact hP.sb (Or.inr rfl) | exact hP.sb (Or.inl rfl)) (by omega) (by omega)
      have lp1 : ∀ (nn : Nat) (k9 : Int32) (b9 : Int32) (q0 : 0 ≤ k9.toInt), (20000 - k9.toInt).toNat < nn → mv_V p l e ({ frames := 2017, cells := 0, slots := 0, locals := 49248 }) s m ([.ref (al 108), .long w0] : List Value).toArray below meth c (mg dA D al ext) 5 0 0 (mv_Q (mg dA D al ext) below s 0 0 (mv_Ri (fun v σ1 => MB 108 σ σ1))) σ49 69 [(4, .int k9), (3, .int b9), (0, .ref (al 108)), (1, .long w0)] [] := by
        intro nn
        induction nn with
        | zero => intro k9 b9 q0 hm; exact absurd hm (Nat.not_lt_zero _)
        | succ nn ih =>
          intro k9 b9 q0 hm
          refine mv_iload (pc := 69) B d_Book_step_69 0 rfl ?_
          refine mv_aload_n (pc := 71) B d_Book_step_71 rfl 2 rfl ?_
          refine mv_getI (pc := 72) (ci := 12) (C := R_Book) (T := F_Book) (N := 65) B 61 rfl rfl (by decide) i_Book (B.2.2.2.1 _ k_1910) rfl d_Book_step_72 ?_
          refine mv_icmp_ge (pc := 75) (tgt := 106) B d_Book_step_75 rfl (fun h75 => ?_) (fun h75 => ?_)
          · skip
            refine mv_iconst (pc := 106) (v := 0) B d_Book_step_106 (by decide) ?_
            refine mv_istore (pc := 107) B d_Book_step_107 (by decide) rfl ?_
            refine mv_lpick [0, 1, 2, 3] rfl ?_
            exact lp2 _ _ _ _ Fx.rf (by decide) (Nat.lt_succ_self _)
          · skip
            rw [Int32.le_iff_toInt_le] at h75
            have w2 : (k9 + 1).toInt = k9.toInt + 1 := i32_inc (by omega)
            refine mv_iload_n (pc := 78) B d_Book_step_78 rfl 1 rfl ?_
            refine mv_aload_n (pc := 79) B d_Book_step_79 rfl 2 rfl ?_
            refine mv_getR (pc := 80) (ci := 12) (C := R_Book) (T := F_Book) (N := 65) B 57 rfl rfl (by decide) i_Book (B.2.2.2.1 _ k_1906) rfl (hmr _ 57 _ rfl) d_Book_step_80 ?_
            refine mv_iload (pc := 83) B d_Book_step_83 0 rfl ?_
            refine mv_iald (pc := 85) B rfl (i32_in (show 0 ≤ k9.toInt by omega) (show k9.toInt < 12000 by omega)) d_Book_step_85 ?_
            refine mv_aload_n (pc := 86) B d_Book_step_86 rfl 2 rfl ?_
            refine mv_getI (pc := 87) (ci := 12) (C := R_Book) (T := F_Book) (N := 65) B 18 rfl rfl (by decide) i_Book (B.2.2.2.1 _ k_1862) rfl d_Book_step_87 ?_
            refine mv_icmp_ne (pc := 90) (tgt := 97) B d_Book_step_90 rfl (fun h90 => ?_) (fun h90 => ?_)
            · skip
              refine mv_iconst (pc := 97) (v := 0) B d_Book_step_97 (by decide) ?_
              refine mv_ior (pc := 98) B d_Book_step_98 ?_
              refine mv_istore_n (pc := 99) B d_Book_step_99 rfl (by decide) rfl ?_
              refine mv_iinc (pc := 100) (j := 1) (v := 1) B d_Book_step_100 rfl (by decide) (by decide) rfl ?_
              refine mv_goto (pc := 103) (tgt := 69) B d_Book_step_103 rfl ?_
              refine mv_lpick [0, 1, 2, 3] rfl ?_
              exact ih _ _ (by omega) (by omega)
            · skip
              refine mv_iconst (pc := 93) (v := 1) B d_Book_step_93 (by decide) ?_
              refine mv_goto (pc := 94) (tgt := 98) B d_Book_step_94 rfl ?_
              refine mv_ior (pc := 98) B d_Book_step_98 ?_
              refine mv_istore_n (pc := 99) B d_Book_step_99 rfl (by decide) rfl ?_
              refine mv_iinc (pc := 100) (j := 1) (v := 1) B d_Book_step_100 rfl (by decide) (by decide) rfl ?_
              refine mv_goto (pc := 103) (tgt := 69) B d_Book_step_103 rfl ?_
              refine mv_lpick [0, 1, 2, 3] rfl ?_
              exact ih _ _ (by omega) (by omega)
      refine mv_aload_n (pc := 52) B d_Book_step_52 rfl 0 rfl ?_
      refine mv_getI (pc := 53) (ci := 12) (C := R_Book) (T := F_Book) (N := 65) B 53 rfl rfl (by decide) i_Book (B.2.2.2.1 _ k_1902) rfl d_Book_step_53 ?_
      refine mv_if_eq (pc := 56) (tgt := 64) B d_Book_step_56 rfl (fun h56 => ?_) (fun h56 => ?_)
      · skip
        refine mv_iconst (pc := 64) (v := 0) B d_Book_step_64 (by decide) ?_
        refine mv_istore_n (pc := 65) B d_Book_step_65 rfl (by decide) rfl ?_
        refine mv_iconst (pc := 66) (v := 0) B d_Book_step_66 (by decide) ?_
        refine mv_istore (pc := 67) B d_Book_step_67 (by decide) rfl ?_
        refine mv_lpick [0, 1, 2, 3] rfl ?_
        exact lp1 _ _ _ (by decide) (Nat.lt_succ_self _)
      · skip
        refine mv_aload_n (pc := 59) B d_Book_step_59 rfl 0 rfl ?_
        refine mv_getI (pc := 60) (ci := 12) (C := R_Book) (T := F_Book) (N := 65) B 53 rfl rfl (by decide) i_Book (B.2.2.2.1 _ k_1902) rfl d_Book_step_60 ?_
        exact mv_iret (pc := 63) B hr rfl d_Book_step_63 (Nat.le_refl _) (Nat.le_refl _) ⟨_, rfl, by first | exact hMs | exact hM⟩
