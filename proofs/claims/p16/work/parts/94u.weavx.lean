/-! Weaver: weave, exactly -/
set_option maxHeartbeats 4000000 in
set_option maxRecDepth 100000 in
theorem c_kw_Weaver_weave_a (l : Launch) {dA : FieldType → ClassId} {D : va_G} {al : Nat → Nat} {ext : mv_Sh} {sk sv : Nat → Nat} (hi : mv_inj (mg dA D al ext)) (σ : mv_H) (len : Nat) (w : Int32) (hm : mh (mv_r σ)) (hq : Ph 32 (mv_r σ)) (hw : w.toInt = len) (hl1 : len ≤ 32768) (hby8 : ∀ i, i < 32768 → -128 ≤ (mv_a σ 1 i).toInt ∧ (mv_a σ 1 i).toInt ≤ 127) (hbyt : byt σ) (hk0 : mv_a σ 4 0 = 0) (hp0 : 0 ≤ (mv_a σ 5 0).toInt) (hb0 : mv_b σ 6 0 = 0) (hNs0 : Ns σ) (hMt0 : Mt (mv_a σ 24)) (hlR : len ≤ 32768) (hl10 : len ≤ 10240) (hM9 : 512 = 512 ∨ qc (mv_a σ 1) len ≤ 2 * 512) : mv_C l y_Weaver_weave (Cond.code y_Weaver_weave b_Weaver_weave 6 (Option.some Jvm.ClassFile.FieldType.boolean) :: ma) ({ frames := 7, cells := 0, slots := 0, locals := 176 }) (mg dA D al ext) (mK sk sv) [.ref (al 2), .ref (al 1), .int w, .ref (al 32)] σ (mv_Ri (fun v σ1 => WV 32 32768 512 1 σ v σ1 ∧ XOw 32 (txT (cc σ len) len) v σ1)) := by
  refine mv_C.ofV (cc := b_Weaver_weave) (nL := 6) (ret := (Option.some Jvm.ClassFile.FieldType.boolean)) (by decide +kernel) rfl hi (Nat.le_of_ble_eq_true rfl) ?_
  intro p e s m below meth c B hNs hr hnm hno
  have hP : PQ 32 := by unfold PQ; omega
  have j183 : ∀ (ρ : mv_H) (n : Nat) (z : Nat) (sz : Nat) (J : Nat) (sy : List Nat → Nat) (υ : mv_H) (th : Nat) (sl : Nat) (no : Nat) (hG0 : WG 32 32768 512 ext ρ 1 32768 len n z sz) (hF0 : VG 32 (w_base 32 1 σ) ρ) (hZ : Zst (txT (cc σ len) len) J sy n sz) (hV : WT 32 ρ υ) (hMt : Mt (mv_a υ 24)) (hW : WN 32 512 υ n th sl no) (hC : mv_i υ 21 0 = 0 → ∃ s9 a9 ns9, WS 32 υ sz th s9 a9 ns9 no []) (wX : mv_i υ 21 0 = 0 → ∃ u1, mv_ag (mg dA D al ext) υ u1 ∧ xRP 32 (mv_r u1) ∧ ∃ s lkB, RN (txT (cc σ len) len) J 32 sy u1 s [] lkB [] [] 0 ∧ sTx (txT (cc σ len) len) = some s ∧ KFn (txT (cc σ len) len) 32 u1) (wN : ¬ mv_i υ 21 0 = 0 → sTx (txT (cc σ len) len) = none), mv_V p l e ({ frames := 7, cells := 0, slots := 0, locals := 176 }) s m ([.ref (al 2), .ref (al 1), .int w, .ref (al 32)] : List Value).toArray below meth c (mg dA D al ext) 6 0 0 (mv_Q (mg dA D al ext) below s 0 0 (mv_Ri (fun v σ1 => WV 32 32768 512 1 σ v σ1 ∧ XOw 32 (txT (cc σ len) len) v σ1))) υ 183 [(0, .ref (al 2))] [] := by
    intro ρ n z sz J sy υ th sl no hG0 hF0 hZ hV hMt hW hC wX wN
    have hG := hG0.wt hV hP
    have hR := hG.1
    have hF := hF0.tr hV.vg
    have hnq := hW.2.2.2.2.2.1
    have hno2 := hW.2.2.2.2.2.2
    refine mv_aload_n (pc := 183) B d_Weaver_weave_183 rfl 0 rfl ?_
    refine mv_getR (pc := 184) (ci := 1) (C := R_Weaver) (T := F_Weaver) (N := 16) B 2 rfl rfl (by decide) i_Weaver (B.2.2.2.1 _ k_230) rfl (hR.1 _ 2 _ rfl) d_Weaver_weave_184 ?_
    refine mv_getI (pc := 187) (ci := 5) (C := R_Faults) (T := F_Faults) (N := 2) B 0 rfl rfl (by decide) i_Faults (B.2.2.2.1 _ k_178) rfl d_Weaver_weave_187 ?_
    refine mv_if_ne (pc := 190) (tgt := 200) B d_Weaver_weave_190 rfl (fun h190 => ?_) (fun h190 => ?_)
    · skip
      have hend := And.intro (WV.bad (σ := σ) hG hMt hW hF) (XOw.no (P := 32) (σ1 := υ) (wN h190))
      refine mv_iconst (pc := 200) (v := 0) B d_Weaver_weave_200 (by decide) ?_
      exact mv_iret (pc := 201) B hr rfl d_Weaver_weave_201 (Nat.le_refl _) (Nat.le_refl _) ⟨_, rfl, by first | exact hend | exact hend⟩
    · skip
      obtain ⟨u183, hAu, hxu, s183, lk183, hRu, hr183, kf183⟩ := wX h190
      obtain ⟨s9, a9, ns9, hS9⟩ := hC h190
      have hCo : CodeOK 32 32768 υ th := CodeOK.of (len := len) hS9 h190 hnq (hG.2.2.1.2.2.2.2.2) hG.2.2.2.2.1 hG.2.2.2.2.2
      refine mv_aload_n (pc := 193) B d_Weaver_weave_193 rfl 0 rfl ?_
      refine mv_callVi (pc := 194) (n := 0) (ci := 1) (C := R_Weaver) B (mK_ok sk sv) hNs rfl rfl (k_Weaver_areApart_a l hi _ hR no hnq hno2 hAu hxu hRu) rfl (ma_goodc kc_Weaver_areApart) (B.2.2.2.1 _ k_1540) (B.2.2.2.1 _ k_1542) (B.2.2.2.1 _ ks_68) (B.2.2.2.1 _ k_2) ⟨by decide +kernel, by decide +kernel, by decide +kernel⟩ rfl d_Weaver_weave_194 rfl (Nat.le_of_ble_eq_true rfl) ⟨by decide, by decide⟩ ⟨by decide, by decide⟩ ⟨by decide, by decide⟩ (mv_noH hno _) (fun v194 σ194 h194 => ?_)
      obtain ⟨⟨f194, d194⟩, x194⟩ := h194
      refine mv_if_ne (pc := 197) (tgt := 202) B d_Weaver_weave_197 rfl (fun h197 => ?_) (fun h197 => ?_)
      · skip
        obtain ⟨-, e194⟩ := d194.resolve_left (fun q => h197 q.1)
        have e194 := e194.symm
        subst e194
        refine mv_aload_n (pc := 202) B d_Weaver_weave_202 rfl 0 rfl ?_
        refine mv_getR (pc := 203) (ci := 1) (C := R_Weaver) (T := F_Weaver) (N := 16) B 5 rfl rfl (by decide) i_Weaver (B.2.2.2.1 _ k_235) rfl hR.2.2.1 d_Weaver_weave_203 ?_
        refine mv_getR (pc := 206) (ci := 7) (C := R_Program) (T := F_Program) (N := 19) B 18 rfl rfl (by decide) i_Program (B.2.2.2.1 _ k_365) rfl (hR.2.1 _ 18 43 rfl) d_Weaver_weave_206 ?_
        refine mv_aload_n (pc := 209) B d_Weaver_weave_209 rfl 0 rfl ?_
        refine mv_getR (pc := 210) (ci := 1) (C := R_Weaver) (T := F_Weaver) (N := 16) B 5 rfl rfl (by decide) i_Weaver (B.2.2.2.1 _ k_235) rfl hR.2.2.1 d_Weaver_weave_210 ?_
        refine mv_callVv (pc := 213) (n := 1) (ci := 8) (C := R_Tree) B (mK_ok sk sv) hNs rfl rfl (c_Tree_grow_a l hi _ no hR.2.1 hnq hno2) rfl (ma_goodc kc_Tree_grow) (B.2.2.2.1 _ k_1548) (B.2.2.2.1 _ k_411) (B.2.2.2.1 _ k_412) (B.2.2.2.1 _ k_9) ⟨by decide +kernel, by decide +kernel, by decide +kernel⟩ rfl d_Weaver_weave_213 rfl (Nat.le_of_ble_eq_true rfl) ⟨by decide, by decide⟩ ⟨by decide, by decide⟩ ⟨by decide, by decide⟩ (mv_noH hno _) (fun σ213 h213 => ?_)
        obtain ⟨f213, k213⟩ := h213
        refine mv_iconst (pc := 216) (v := 1) B d_Weaver_weave_216 (by decide) ?_
        exact mv_iret (pc := 217) B hr rfl d_Weaver_weave_217 (Nat.le_refl _) (Nat.le_refl _) ⟨_, rfl, TreeOK.wv hP hG hMt hW hF hCo f213 k213, XOw.ye hr183 (x194.resolve_right (fun q => h197 q.1)).2 (hRu.sp.fr (fun k hk => by rw [f213.1 32 k (by omega)]; exact (hAu.f32.iP k (by omega)).symm) (fun o k ho hk => by rw [f213.2.2.1 o id]; exact by rcases ho with ho | ho <;> subst ho <;> exact hAu.b (n := 512) rfl hk) (fun o k ho hk => by rw [f213.2.1 o (by omega)]; exact by rcases ho with ho | ho <;> subst ho <;> exact hAu.a (n := 64) rfl (by decide) hk) (fun k hk => by rw [f213.2.1 (32 + 8) (by omega)]; exact hAu.a (o := 32 + 8) (n := 32768) rfl (by decide) hk)) (kf183.fr (fun k hk => by rw [f213.1 32 k (by omega)]; exact by rcases hk with hk | hk | hk | hk <;> subst hk <;> exact hAu.i (o := 32) rfl (Nat.le_of_ble_eq_true rfl) rfl) (fun o k ho hk => by rw [f213.2.1 o (by omega)]; exact by rcases ho with ho | ho <;> subst ho <;> exact hAu.a (n := 64) rfl (by decide) hk) (fun k hk => by rw [f213.2.1 (32 + 7) (by omega)]; exact hAu.a (o := 32 + 7) (n := 512) rfl (by decide) hk) (fun k hk => by rw [f213.2.1 (32 + 9) (by omega)]; exact hAu.a (o := 32 + 9) (n := 32768) rfl (by decide) hk) (fun k hk => by rw [f213.2.2.1 (32 + 10) id]; exact hAu.b (o := 32 + 10) (n := 32768) rfl hk))⟩
      · skip
        obtain ⟨-, x9, y9, z9, q9⟩ := d194.resolve_right (fun q => by rw [h197] at q; exact absurd q.1 (by decide))
        have hend : WV 32 32768 512 1 σ 0 σ194 := WV.bad (hG.wt f194 hP) (by rw [q9]; exact hMt) (by rw [q9]; exact (hW.tell hP _ _).of hP (OF.w Fr.rf 4 _)) (hF.tr f194.vg)
        have hend := And.intro hend (XOw.na (P := 32) (σ1 := σ194) hr183 (x194.resolve_left (fun q => by rw [h197] at q; exact absurd q.1 (by decide))).2)
        refine mv_iconst (pc := 200) (v := 0) B d_Weaver_weave_200 (by decide) ?_
        exact mv_iret (pc := 201) B hr rfl d_Weaver_weave_201 (Nat.le_refl _) (Nat.le_refl _) ⟨_, rfl, by first | exact hend | exact hend⟩
  have j151 : ∀ (ρ : mv_H) (n : Nat) (z : Nat) (sz : Nat) (J : Nat) (sy : List Nat → Nat) (υ : mv_H) (th : Nat) (sl : Nat) (no : Nat) (hG0 : WG 32 32768 512 ext ρ 1 32768 len n z sz) (hF0 : VG 32 (w_base 32 1 σ) ρ) (hZ : Zst (txT (cc σ len) len) J sy n sz) (hV : WT 32 ρ υ) (hMt : Mt (mv_a υ 24)) (hW : WN 32 512 υ n th sl no) (hE : 0 ≤ (mv_i υ 3 9).toInt ∨ ∃ s9 a9 ns9, WS 32 υ sz th s9 a9 ns9 no []) (wE : EXG (mg dA D al ext) (txT (cc σ len) len) J 32 sy (sTx (txT (cc σ len) len)) υ) (w4 : 0 ≤ (mv_i υ 3 9).toInt ∨ mv_i υ 2 6 = 4), mv_V p l e ({ frames := 7, cells := 0, slots := 0, locals := 176 }) s m ([.ref (al 2), .ref (al 1), .int w, .ref (al 32)] : List Value).toArray below meth c (mg dA D al ext) 6 0 0 (mv_Q (mg dA D al ext) below s 0 0 (mv_Ri (fun v σ1 => WV 32 32768 512 1 σ v σ1 ∧ XOw 32 (txT (cc σ len) len) v σ1))) υ 151 [(0, .ref (al 2))] [] := by
    intro ρ n z sz J sy υ th sl no hG0 hF0 hZ hV hMt hW hE wE w4
    have hG := hG0.wt hV hP
    have hR := hG.1
    refine mv_aload_n (pc := 151) B d_Weaver_weave_151 rfl 0 rfl ?_
    refine mv_getR (pc := 152) (ci := 1) (C := R_Weaver) (T := F_Weaver) (N := 16) B 0 rfl rfl (by decide) i_Weaver (B.2.2.2.1 _ k_228) rfl (hR.1 _ 0 _ rfl) d_Weaver_weave_152 ?_
    refine mv_callVi (pc := 155) (n := 0) (ci := 2) (C := R_Tokens) B (mK_ok sk sv) hNs rfl rfl (c_Tokens_right l hi _) rfl (ma_goodc kc_Tokens_right) (B.2.2.2.1 _ k_1291) (B.2.2.2.1 _ k_1292) (B.2.2.2.1 _ k_1293) (B.2.2.2.1 _ k_3) ⟨by decide +kernel, by decide +kernel, by decide +kernel⟩ rfl d_Weaver_weave_155 rfl (Nat.le_of_ble_eq_true rfl) ⟨by decide, by decide⟩ ⟨by decide, by decide⟩ ⟨by decide, by decide⟩ (mv_noH hno _) (fun v155 σ155 h155 => ?_)
    obtain ⟨e155, z155⟩ := h155
    have e155 := e155.symm
    subst e155
    refine mv_if_ne (pc := 158) (tgt := 183) B d_Weaver_weave_158 rfl (fun h158 => ?_) (fun h158 => ?_)
    · skip
      have hw : (mv_i υ 3 9).toInt < 0 := Decidable.byContradiction fun q => h158 (by rw [z155, if_neg (fun z => q (lt0.mp z))])
      have hdn := EXG.dn32 wE hw (w4.resolve_left (by omega))
      have go := j183 ρ n z sz J sy υ th sl no hG0 hF0 hZ hV hMt hW (fun _ => hE.resolve_left (by omega)) hdn.1 hdn.2
      refine mv_lpick [0] rfl ?_
      exact go
    · skip
      have hw0 : 0 ≤ (mv_i υ 3 9).toInt := Decidable.byContradiction fun q => by rw [if_pos (lt0.mpr (by omega))] at z155; rw [z155] at h158; exact absurd h158 (by decide)
      have hr0 := EXG.wr32 wE hw0
      refine mv_aload_n (pc := 161) B d_Weaver_weave_161 rfl 0 rfl ?_
      refine mv_getR (pc := 162) (ci := 1) (C := R_Weaver) (T := F_Weaver) (N := 16) B 2 rfl rfl (by decide) i_Weaver (B.2.2.2.1 _ k_230) rfl (hR.1 _ 2 _ rfl) d_Weaver_weave_162 ?_
      refine mv_callVv (pc := 165) (n := 0) (ci := 5) (C := R_Faults) B (mK_ok sk sv) hNs rfl rfl (c_Faults_clear l hi _) rfl (ma_goodc kc_Faults_clear) (B.2.2.2.1 _ k_785) (B.2.2.2.1 _ k_786) (B.2.2.2.1 _ k_787) (B.2.2.2.1 _ k_6) ⟨by decide +kernel, by decide +kernel, by decide +kernel⟩ rfl d_Weaver_weave_165 rfl (Nat.le_of_ble_eq_true rfl) ⟨by decide, by decide⟩ ⟨by decide, by decide⟩ ⟨by decide, by decide⟩ (mv_noH hno _) (fun σ165 h165 => ?_)
      subst h165
      refine mv_aload_n (pc := 168) B d_Weaver_weave_168 rfl 0 rfl ?_
      refine mv_getR (pc := 169) (ci := 1) (C := R_Weaver) (T := F_Weaver) (N := 16) B 2 rfl rfl (by decide) i_Weaver (B.2.2.2.1 _ k_230) rfl (hR.1 _ 2 _ rfl) d_Weaver_weave_169 ?_
      refine mv_aload_n (pc := 172) B d_Weaver_weave_172 rfl 0 rfl ?_
      refine mv_getR (pc := 173) (ci := 1) (C := R_Weaver) (T := F_Weaver) (N := 16) B 0 rfl rfl (by decide) i_Weaver (B.2.2.2.1 _ k_228) rfl (hR.1 _ 0 _ rfl) d_Weaver_weave_173 ?_
      refine mv_getI (pc := 176) (ci := 2) (C := R_Tokens) (T := F_Tokens) (N := 10) B 9 rfl rfl (by decide) i_Tokens (B.2.2.2.1 _ k_106) rfl d_Weaver_weave_176 ?_
      refine mv_iconst (pc := 179) (v := 1) B d_Weaver_weave_179 (by decide) ?_
      refine mv_callVv (pc := 180) (n := 2) (ci := 5) (C := R_Faults) B (mK_ok sk sv) hNs rfl rfl (c_Faults_tell l hi _ _ _) rfl (ma_goodc kc_Faults_tell) (B.2.2.2.1 _ k_1286) (B.2.2.2.1 _ k_1287) (B.2.2.2.1 _ k_1288) (B.2.2.2.1 _ k_6) ⟨by decide +kernel, by decide +kernel, by decide +kernel⟩ rfl d_Weaver_weave_180 rfl (Nat.le_of_ble_eq_true rfl) ⟨by decide, by decide⟩ ⟨by decide, by decide⟩ ⟨by decide, by decide⟩ (mv_noH hno _) (fun σ180 h180 => ?_)
      obtain ⟨x9, y9, e180, z180⟩ := tell_n (b := 1) (by decide) h180
      subst e180
      have go := j183 ρ n z sz J sy (ex_tell (mv_si (mv_si υ 21 0 0) 21 1 (-1)) x9 y9) th sl no hG0 hF0 hZ ((hV.tell 0 (-1)).tell x9 y9) hMt ((hW.tell hP 0 (-1)).tell hP x9 y9) (fun q => absurd q z180) (fun q => absurd q z180) (fun _ => hr0)
      refine mv_lpick [0] rfl ?_
      exact go
  have lp : ∀ (nn : Nat) (ρ : mv_H) (n : Nat) (z : Nat) (sz : Nat) (J : Nat) (sy : List Nat → Nat) (τ : mv_H) (tt : Int32) (hG0 : WG 32 32768 512 ext ρ 1 32768 len n z sz) (hF0 : VG 32 (w_base 32 1 σ) ρ) (hZ : Zst (txT (cc σ len) len) J sy n sz) (hV : WT 32 ρ τ) (hMt : Mt (mv_a τ 24)) (q0 : 0 ≤ tt.toInt) (q1 : tt.toInt ≤ 131072) (hL0 : LQ 32 512 τ n sz tt.toInt) (hE0 : EXG (mg dA D al ext) (txT (cc σ len) len) J 32 sy (sTx (txT (cc σ len) len)) τ), (131072 - tt.toInt).toNat < nn → mv_V p l e ({ frames := 7, cells := 0, slots := 0, locals := 176 }) s m ([.ref (al 2), .ref (al 1), .int w, .ref (al 32)] : List Value).toArray below meth c (mg dA D al ext) 6 0 0 (mv_Q (mg dA D al ext) below s 0 0 (mv_Ri (fun v σ1 => WV 32 32768 512 1 σ v σ1 ∧ XOw 32 (txT (cc σ len) len) v σ1))) τ 28 [(4, .int tt), (0, .ref (al 2))] [] := by
    intro nn
    induction nn with
    | zero => intro ρ n z sz J sy τ tt hG0 hF0 hZ hV hMt q0 q1 hL0 hE0 hm; exact absurd hm (Nat.not_lt_zero _)
    | succ nn ih =>
      intro ρ n z sz J sy τ tt hG0 hF0 hZ hV hMt q0 q1 hL0 hE0 hm
      have hG := hG0.wt hV hP
      have hR := hG.1
      have ht2 := hG.2.1.2.2.2.2.2.2
      obtain ⟨th, sl, no, hW, hL⟩ := hL0
      have hszz := hG.2.2.1.2.2.2.1
      have j145 : ∀ (υ : mv_H) (h31 : tt.toInt < 131072) (wV : WT 32 ρ υ) (wM : Mt (mv_a υ 24)) (wL : LQ 32 512 υ n sz (tt.toInt + 1)) (wE : EXG (mg dA D al ext) (txT (cc σ len) len) J 32 sy (sTx (txT (cc σ len) len)) υ), mv_V p l e ({ frames := 7, cells := 0, slots := 0, locals := 176 }) s m ([.ref (al 2), .ref (al 1), .int w, .ref (al 32)] : List Value).toArray below meth c (mg dA D al ext) 6 0 0 (mv_Q (mg dA D al ext) below s 0 0 (mv_Ri (fun v σ1 => WV 32 32768 512 1 σ v σ1 ∧ XOw 32 (txT (cc σ len) len) v σ1))) υ 145 [(4, .int tt), (0, .ref (al 2))] [] := by
        intro υ h31 wV wM wL wE
        have t2 : (tt + 1).toInt = tt.toInt + 1 := i32_inc (by omega)
        have go := ih ρ n z sz J sy υ (tt + 1) hG0 hF0 hZ wV wM (by omega) (by omega) (by rw [t2]; exact wL) wE (by omega)
        refine mv_iinc (pc := 145) (j := 0) (v := 1) B d_Weaver_weave_145 rfl (by decide) (by decide) rfl ?_
        refine mv_goto (pc := 148) (tgt := 28) B d_Weaver_weave_148 rfl ?_
        refine mv_lpick [0, 1] rfl ?_
        exact go
      refine mv_iload (pc := 28) B d_Weaver_weave_28 0 rfl ?_
      refine mv_ldc (pc := 30) (v := 131072) B (B.2.2.2.1 _ k_1290) d_Weaver_weave_30 ?_
      refine mv_icmp_ge (pc := 32) (tgt := 151) B d_Weaver_weave_32 rfl (fun h32 => ?_) (fun h32 => ?_)
      · skip
        rw [Int32.le_iff_toInt_le] at h32
        have h32 : (131072 : Int) ≤ tt.toInt := h32
        have go := j151 ρ n z sz J sy τ th sl no hG0 hF0 hZ hV hMt hW (hL.elim Or.inl (fun q => q.elim (fun q => Or.inr q.2) (fun q => by obtain ⟨a9, q1, q2⟩ := q; have := q2.lt.1; omega))) hE0 (hL.elim Or.inl (fun q => q.elim (fun q => Or.inr q.1) (fun q => by obtain ⟨a9, q1, q2⟩ := q; have := q2.lt.1; omega)))
        refine mv_lpick [1] rfl ?_
        exact go
      · skip
        rw [Int32.le_iff_toInt_le] at h32
        have h32 : ¬ (131072 : Int) ≤ tt.toInt := h32
        have t2 : (tt + 1).toInt = tt.toInt + 1 := i32_inc (by omega)
        refine mv_aload_n (pc := 35) B d_Weaver_weave_35 rfl 1 rfl ?_
        refine mv_getI (pc := 36) (ci := 1) (C := R_Weaver) (T := F_Weaver) (N := 16) B 6 rfl rfl (by decide) i_Weaver (B.2.2.2.1 _ k_236) rfl d_Weaver_weave_36 ?_
        refine mv_iconst (pc := 39) (v := 4) B d_Weaver_weave_39 (by decide) ?_
        refine mv_icmp_eq (pc := 40) (tgt := 151) B d_Weaver_weave_40 rfl (fun h40 => ?_) (fun h40 => ?_)
        · skip
          have go := j151 ρ n z sz J sy τ th sl no hG0 hF0 hZ hV hMt hW (hL.elim Or.inl (fun q => q.elim (fun q => Or.inr q.2) (fun q => by obtain ⟨a9, q1, q2⟩ := q; rcases q2 with ⟨q2, -⟩ | ⟨q2, -⟩ | ⟨q2, -⟩ | ⟨q2, -⟩ <;> (rw [h40] at q2; exact absurd q2 (by decide))))) hE0 (Or.inr h40)
          refine mv_lpick [1] rfl ?_
          exact go
        · skip
          refine mv_aload_n (pc := 43) B d_Weaver_weave_43 rfl 1 rfl ?_
          refine mv_getR (pc := 44) (ci := 1) (C := R_Weaver) (T := F_Weaver) (N := 16) B 0 rfl rfl (by decide) i_Weaver (B.2.2.2.1 _ k_228) rfl (hR.1 _ 0 _ rfl) d_Weaver_weave_44 ?_
          refine mv_callVi (pc := 47) (n := 0) (ci := 2) (C := R_Tokens) B (mK_ok sk sv) hNs rfl rfl (c_Tokens_right l hi _) rfl (ma_goodc kc_Tokens_right) (B.2.2.2.1 _ k_1291) (B.2.2.2.1 _ k_1292) (B.2.2.2.1 _ k_1293) (B.2.2.2.1 _ k_3) ⟨by decide +kernel, by decide +kernel, by decide +kernel⟩ rfl d_Weaver_weave_47 rfl (Nat.le_of_ble_eq_true rfl) ⟨by decide, by decide⟩ ⟨by decide, by decide⟩ ⟨by decide, by decide⟩ (mv_noH hno _) (fun v47 σ47 h47 => ?_)
          obtain ⟨e47, z47⟩ := h47
          have e47 := e47.symm
          subst e47
          refine mv_if_eq (pc := 50) (tgt := 151) B d_Weaver_weave_50 rfl (fun h50 => ?_) (fun h50 => ?_)
          · skip
            have hw : ¬ (mv_i τ 3 9).toInt < 0 := fun q => by rw [if_pos (lt0.mpr q)] at z47; rw [z47] at h50; exact absurd h50 (by decide)
            have go := j151 ρ n z sz J sy τ th sl no hG0 hF0 hZ hV hMt hW (Or.inl (by omega)) hE0 (Or.inl (by omega))
            refine mv_lpick [1] rfl ?_
            exact go
          · skip
            have hw : (mv_i τ 3 9).toInt < 0 := Decidable.byContradiction fun q => h50 (by rw [z47, if_neg (fun z => q (lt0.mp z))])
            obtain ⟨a9, hta, hWM⟩ := (hL.resolve_left (by omega)).resolve_left (fun q => h40 q.1)
            have hal := hWM.lt
            refine mv_aload_n (pc := 53) B d_Weaver_weave_53 rfl 1 rfl ?_
            refine mv_getI (pc := 54) (ci := 1) (C := R_Weaver) (T := F_Weaver) (N := 16) B 6 rfl rfl (by decide) i_Weaver (B.2.2.2.1 _ k_236) rfl d_Weaver_weave_54 ?_
            refine mv_if_ne (pc := 57) (tgt := 67) B d_Weaver_weave_57 rfl (fun h57 => ?_) (fun h57 => ?_)
            · skip
              refine mv_aload_n (pc := 67) B d_Weaver_weave_67 rfl 1 rfl ?_
              refine mv_getI (pc := 68) (ci := 1) (C := R_Weaver) (T := F_Weaver) (N := 16) B 6 rfl rfl (by decide) i_Weaver (B.2.2.2.1 _ k_236) rfl d_Weaver_weave_68 ?_
              refine mv_iconst (pc := 71) (v := 1) B d_Weaver_weave_71 (by decide) ?_
              refine mv_icmp_ne (pc := 72) (tgt := 82) B d_Weaver_weave_72 rfl (fun h72 => ?_) (fun h72 => ?_)
              · skip
                refine mv_aload_n (pc := 82) B d_Weaver_weave_82 rfl 1 rfl ?_
                refine mv_getI (pc := 83) (ci := 1) (C := R_Weaver) (T := F_Weaver) (N := 16) B 6 rfl rfl (by decide) i_Weaver (B.2.2.2.1 _ k_236) rfl d_Weaver_weave_83 ?_
                refine mv_iconst (pc := 86) (v := 2) B d_Weaver_weave_86 (by decide) ?_
                refine mv_icmp_ne (pc := 87) (tgt := 112) B d_Weaver_weave_87 rfl (fun h87 => ?_) (fun h87 => ?_)
                · skip
                  have hm3 : mv_i τ 2 6 = 3 := by
                    rcases hWM with ⟨q, -⟩ | ⟨q, -⟩ | ⟨q, -⟩ | ⟨q, -⟩
                    · exact absurd q h57
                    · exact absurd q h72
                    · exact absurd q h87
                    · exact q
                  have hWE : WE 32 τ n sz th no a9 1 := by
                    rcases hWM with ⟨q, -⟩ | ⟨q, -⟩ | ⟨q, -⟩ | ⟨-, q⟩
                    · exact absurd q h57
                    · exact absurd q h72
                    · exact absurd q h87
                    · exact q
                  obtain ⟨e0, bs, bd, s9, ns9, f0, g0, bl, ol, ms, ⟨hX, hI⟩, hB2, hgt, hn2, hn4, hnc⟩ := hWE
                  have hbs := hB2.2.2.2.2.1.bs
                  have hB9 : SB 32 τ 1 len n z sz th sl := ⟨hG.1, hG.2.2.1, hW.1, hW.2.1⟩
                  refine mv_aload_n (pc := 112) B d_Weaver_weave_112 rfl 1 rfl ?_
                  refine mv_getR (pc := 113) (ci := 1) (C := R_Weaver) (T := F_Weaver) (N := 16) B 3 rfl rfl (by decide) i_Weaver (B.2.2.2.1 _ k_232) rfl (hR.1 _ 3 _ rfl) d_Weaver_weave_113 ?_
                  refine mv_callVi (pc := 116) (n := 0) (ci := 6) (C := R_Exprs) B (mK_ok sk sv) hNs rfl rfl (k_Exprs_after_a l hi _ hB9 ht2 hX hI hG.2.2.2.2.1 hbs hm3 hG.2.1.2.1 hE0) rfl (ma_goodc kc_Exprs_after) (B.2.2.2.1 _ k_1460) (B.2.2.2.1 _ k_1461) (B.2.2.2.1 _ k_1462) (B.2.2.2.1 _ k_7) ⟨by decide +kernel, by decide +kernel, by decide +kernel⟩ rfl d_Weaver_weave_116 rfl (Nat.le_of_ble_eq_true rfl) ⟨by decide, by decide⟩ ⟨by decide, by decide⟩ ⟨by decide, by decide⟩ (mv_noH hno _) (fun v116 σ116 h116 => ?_)
                  obtain ⟨⟨f116, m116, d116⟩, xa116, xb116⟩ := h116
                  refine mv_istore (pc := 119) B d_Weaver_weave_119 (by decide) rfl ?_
                  refine mv_aload_n (pc := 121) B d_Weaver_weave_121 rfl 2 rfl ?_
                  refine mv_iload (pc := 122) B d_Weaver_weave_122 0 rfl ?_
                  refine mv_if_ne (pc := 124) (tgt := 131) B d_Weaver_weave_124 rfl (fun h124 => ?_) (fun h124 => ?_)
                  · skip
                    refine mv_iconst (pc := 131) (v := 3) B d_Weaver_weave_131 (by decide) ?_
                    refine mv_putI (pc := 132) (ci := 1) (C := R_Weaver) (T := F_Weaver) (N := 16) B 6 rfl rfl (by decide) i_Weaver t_Weaver_ok n_Weaver (B.2.2.2.1 _ k_236) rfl rfl rfl rfl d_Weaver_weave_132 ?_
                    refine mv_gen (fun S135 eS135 => ?_)
                    have hmm : ¬ v116 = 0 → S135 = mv_si σ116 2 6 3 := by first | exact fun _ => eS135 | exact fun q => absurd h124 q
                    have hm0 : v116 = 0 → S135 = mv_si σ116 2 6 2 := by first | exact fun _ => eS135 | exact fun q => absurd q h124
                    have go1 : ¬ v116 = 2 → mv_V p l e ({ frames := 7, cells := 0, slots := 0, locals := 176 }) s m ([.ref (al 2), .ref (al 1), .int w, .ref (al 32)] : List Value).toArray below meth c (mg dA D al ext) 6 0 0 (mv_Q (mg dA D al ext) below s 0 0 (mv_Ri (fun v σ1 => WV 32 32768 512 1 σ v σ1 ∧ XOw 32 (txT (cc σ len) len) v σ1))) S135 145 [(4, .int tt), (0, .ref (al 2))] [] := by
                      intro q2
                      have d1 := d116.resolve_left (fun q => q2 q.1)
                      by_cases q0 : v116 = 0
                      · rw [hm0 q0]
                        rw [q0] at d1
                        exact j145 (mv_si σ116 2 6 2) (by omega) (WT.w (P := 32) (hV.tr f116.wt) 6 2) m116 ⟨th, sl, no, (hW.rf f116 hP).of hP (OF.w Fr.rf 6 2), d1.2.elim Or.inl (fun q => by obtain ⟨ms2, s2, a2, q1, q2, q3⟩ := q; exact Or.inr (Or.inr ⟨a2, by omega, Or.inr (Or.inr (Or.inl ⟨rfl, WE.next hP f116 2 q2 q3 (by omega) hB2 hgt hn2 hn4 hnc⟩))⟩))⟩ (by have xx := xa116 q2; rw [q0] at xx; exact xx)
                      · rw [hmm q0]
                        rw [d1.1.resolve_left q0] at d1
                        exact j145 (mv_si σ116 2 6 3) (by omega) (WT.w (P := 32) (hV.tr f116.wt) 6 3) m116 ⟨th, sl, no, (hW.rf f116 hP).of hP (OF.w Fr.rf 6 3), d1.2.elim Or.inl (fun q => by obtain ⟨ms2, s2, a2, q1, q2, q3⟩ := q; exact Or.inr (Or.inr ⟨a2, by omega, Or.inr (Or.inr (Or.inr ⟨rfl, WE.next hP f116 3 q2 q3 (by omega) hB2 hgt hn2 hn4 hnc⟩))⟩))⟩ (by have xx := xa116 q2; rw [if_neg q0] at xx; exact xx)
                    clear eS135
                    refine mv_iload (pc := 135) B d_Weaver_weave_135 0 rfl ?_
                    refine mv_iconst (pc := 137) (v := 2) B d_Weaver_weave_137 (by decide) ?_
                    refine mv_icmp_ne (pc := 138) (tgt := 145) B d_Weaver_weave_138 rfl (fun h138 => ?_) (fun h138 => ?_)
                    · skip
                      have go := go1 h138
                      refine mv_lpick [1, 2] rfl ?_
                      exact go
                    · skip
                      have e135 := hmm (by rw [h138]; decide)
                      subst e135
                      obtain ⟨u116, hAu, hxu, hFu⟩ := xb116 h138
                      have hA142 : mv_ag (mg dA D al ext) (mv_si σ116 2 6 3) (mv_si u116 2 6 3) := hAu.si 2 6 3
                      have hG142 := hG.wt (WT.w (P := 32) f116.wt 6 3) hP
                      have hM142 : Mt (mv_a (mv_si σ116 2 6 3) 24) := m116
                      have hW142 := (hW.rf f116 hP).of hP (OF.w Fr.rf 6 3)
                      have i2 : ∀ k, k ≠ 6 → mv_i (mv_si σ116 2 6 3) 2 k = mv_i τ 2 k := fun k q => (ri_ne (by omega)).trans (f116.1 2 k (by omega))
                      have a7 : mv_a σ116 39 = mv_a τ 39 := f116.2.1 _ (by decide)
                      obtain ⟨-, s2, hX2, hI2⟩ := d116.resolve_right (fun q => by rw [h138] at q; exact absurd q.1 (by decide))
                      have hX142 : XM 32 th e0 bs (BLx th e0 f0 g0 (mv_a (mv_si σ116 2 6 3) 39) no ol (mv_i (mv_si σ116 2 6 3) 2 7 = 4 ∨ 0 ≤ (mv_i (mv_si σ116 2 6 3) 2 9).toInt)) f0 g0 ns9 (mv_si σ116 2 6 3) [] 1 1 s2 := by
                        rw [i2 7 (by decide), i2 9 (by decide)]
                        show XM 32 th e0 bs (BLx th e0 f0 g0 (mv_a σ116 39) no ol _) f0 g0 ns9 (mv_si σ116 2 6 3) [] 1 1 s2
                        rw [a7]
                        exact hX2.fr rfl rfl rfl rfl rfl rfl rfl rfl rfl
                      have hI142 : TI (mv_si σ116 2 6 3) sz bd [] s2 a9 := hI2.up rfl (Nat.le_refl _) (Nat.le_refl _) hI2.2.2.2.2.2.2
                      have hb15 : (mv_i (mv_si σ116 2 6 3) 2 15).toInt = bl.length := by rw [i2 15 (by decide)]; exact hB2.2.1
                      have hBk : BkR (mv_a (mv_si σ116 2 6 3) 28) (mv_a (mv_si σ116 2 6 3) 29) (mv_a (mv_si σ116 2 6 3) 30) (mv_a (mv_si σ116 2 6 3) 31) g0 (mv_i (mv_si σ116 2 6 3) 13 7).toInt bl := by
                        show BkR (mv_a σ116 28) (mv_a σ116 29) (mv_a σ116 30) (mv_a σ116 31) g0 (mv_i σ116 13 7).toInt bl
                        rw [f116.2.1 28 (by decide), f116.2.1 29 (by decide), f116.2.1 30 (by decide), f116.2.1 31 (by decide), f116.1 13 7 (by decide)]
                        exact hB2.2.2.1
                      have hGl : Gl (mv_i (mv_si σ116 2 6 3) 2 7) bs bd bl.length (mv_i (mv_si σ116 2 6 3) 2 9).toInt n th (mv_i (mv_si σ116 2 6 3) 13 9).toInt := by
                        rw [i2 7 (by decide), i2 9 (by decide), show mv_i (mv_si σ116 2 6 3) 13 9 = mv_i τ 13 9 from f116.1 13 9 (by decide)]
                        exact hB2.2.2.2.2.1
                      have hGx : Gx (mv_i (mv_si σ116 2 6 3) 2 7) g0 (mv_i (mv_si σ116 2 6 3) 2 10) bl ol := by rw [i2 7 (by decide), i2 10 (by decide)]; exact hB2.2.2.2.2.2
                      have hgt2 : mv_i (mv_si σ116 2 6 3) 2 7 = 1 ∨ (0 ≤ (mv_i (mv_si σ116 2 6 3) 2 8).toInt ∧ (mv_i (mv_si σ116 2 6 3) 2 8).toInt < 32770) := by rw [i2 7 (by decide), i2 8 (by decide)]; exact hgt
                      have hn42 : mv_i (mv_si σ116 2 6 3) 2 7 = 1 ∨ mv_i (mv_si σ116 2 6 3) 2 7 = 2 ∨ mv_i (mv_si σ116 2 6 3) 2 7 = 3 → 2 * ns9 + 4 ≤ a9 := by rw [i2 7 (by decide)]; exact hn4
                      have hnc2 : no ≤ nCd (mv_a (mv_si σ116 2 6 3) 4) a9 := by show no ≤ nCd (mv_a σ116 4) a9; rw [f116.2.1 4 (by decide)]; exact hnc
                      refine mv_aload_n (pc := 141) B d_Weaver_weave_141 rfl 2 rfl ?_
                      refine mv_callVv (pc := 142) (n := 0) (ci := 1) (C := R_Weaver) B (mK_ok sk sv) hNs rfl rfl (k_Weaver_finish_a l hi _ hG142 hM142 hW142 hX142 hI142 hB2.1 hb15 hBk hB2.2.2.2.1 hGl hGx hgt2 hn2 hn42 hnc2 hZ hA142 hxu hFu) rfl (ma_goodc kc_Weaver_finish) (B.2.2.2.1 _ k_1522) (B.2.2.2.1 _ k_1524) (B.2.2.2.1 _ ks_65) (B.2.2.2.1 _ k_2) ⟨by decide +kernel, by decide +kernel, by decide +kernel⟩ rfl d_Weaver_weave_142 rfl (Nat.le_of_ble_eq_true rfl) ⟨by decide, by decide⟩ ⟨by decide, by decide⟩ ⟨by decide, by decide⟩ (mv_noH hno _) (fun σ142 h142 => ?_)
                      obtain ⟨h142, x142⟩ := h142
                      have go := j145 σ142 (by omega) ((hV.tr (WT.w (P := 32) f116.wt 6 3)).tr h142.1) h142.2.1 (h142.lq _ (by omega)) x142
                      refine mv_lpick [1, 2] rfl ?_
                      exact go
                  · skip
                    refine mv_iconst (pc := 127) (v := 2) B d_Weaver_weave_127 (by decide) ?_
                    refine mv_goto (pc := 128) (tgt := 132) B d_Weaver_weave_128 rfl ?_
                    refine mv_putI (pc := 132) (ci := 1) (C := R_Weaver) (T := F_Weaver) (N := 16) B 6 rfl rfl (by decide) i_Weaver t_Weaver_ok n_Weaver (B.2.2.2.1 _ k_236) rfl rfl rfl rfl d_Weaver_weave_132 ?_
                    refine mv_gen (fun S135 eS135 => ?_)
                    have hmm : ¬ v116 = 0 → S135 = mv_si σ116 2 6 3 := by first | exact fun _ => eS135 | exact fun q => absurd h124 q
                    have hm0 : v116 = 0 → S135 = mv_si σ116 2 6 2 := by first | exact fun _ => eS135 | exact fun q => absurd q h124
                    have go1 : ¬ v116 = 2 → mv_V p l e ({ frames := 7, cells := 0, slots := 0, locals := 176 }) s m ([.ref (al 2), .ref (al 1), .int w, .ref (al 32)] : List Value).toArray below meth c (mg dA D al ext) 6 0 0 (mv_Q (mg dA D al ext) below s 0 0 (mv_Ri (fun v σ1 => WV 32 32768 512 1 σ v σ1 ∧ XOw 32 (txT (cc σ len) len) v σ1))) S135 145 [(4, .int tt), (0, .ref (al 2))] [] := by
                      intro q2
                      have d1 := d116.resolve_left (fun q => q2 q.1)
                      by_cases q0 : v116 = 0
                      · rw [hm0 q0]
                        rw [q0] at d1
                        exact j145 (mv_si σ116 2 6 2) (by omega) (WT.w (P := 32) (hV.tr f116.wt) 6 2) m116 ⟨th, sl, no, (hW.rf f116 hP).of hP (OF.w Fr.rf 6 2), d1.2.elim Or.inl (fun q => by obtain ⟨ms2, s2, a2, q1, q2, q3⟩ := q; exact Or.inr (Or.inr ⟨a2, by omega, Or.inr (Or.inr (Or.inl ⟨rfl, WE.next hP f116 2 q2 q3 (by omega) hB2 hgt hn2 hn4 hnc⟩))⟩))⟩ (by have xx := xa116 q2; rw [q0] at xx; exact xx)
                      · rw [hmm q0]
                        rw [d1.1.resolve_left q0] at d1
                        exact j145 (mv_si σ116 2 6 3) (by omega) (WT.w (P := 32) (hV.tr f116.wt) 6 3) m116 ⟨th, sl, no, (hW.rf f116 hP).of hP (OF.w Fr.rf 6 3), d1.2.elim Or.inl (fun q => by obtain ⟨ms2, s2, a2, q1, q2, q3⟩ := q; exact Or.inr (Or.inr ⟨a2, by omega, Or.inr (Or.inr (Or.inr ⟨rfl, WE.next hP f116 3 q2 q3 (by omega) hB2 hgt hn2 hn4 hnc⟩))⟩))⟩ (by have xx := xa116 q2; rw [if_neg q0] at xx; exact xx)
                    clear eS135
                    refine mv_iload (pc := 135) B d_Weaver_weave_135 0 rfl ?_
                    refine mv_iconst (pc := 137) (v := 2) B d_Weaver_weave_137 (by decide) ?_
                    refine mv_icmp_ne (pc := 138) (tgt := 145) B d_Weaver_weave_138 rfl (fun h138 => ?_) (fun h138 => ?_)
                    · skip
                      have go := go1 h138
                      refine mv_lpick [1, 2] rfl ?_
                      exact go
                    · skip
                      have e135 := hmm (by rw [h138]; decide)
                      subst e135
                      obtain ⟨u116, hAu, hxu, hFu⟩ := xb116 h138
                      have hA142 : mv_ag (mg dA D al ext) (mv_si σ116 2 6 3) (mv_si u116 2 6 3) := hAu.si 2 6 3
                      have hG142 := hG.wt (WT.w (P := 32) f116.wt 6 3) hP
                      have hM142 : Mt (mv_a (mv_si σ116 2 6 3) 24) := m116
                      have hW142 := (hW.rf f116 hP).of hP (OF.w Fr.rf 6 3)
                      have i2 : ∀ k, k ≠ 6 → mv_i (mv_si σ116 2 6 3) 2 k = mv_i τ 2 k := fun k q => (ri_ne (by omega)).trans (f116.1 2 k (by omega))
                      have a7 : mv_a σ116 39 = mv_a τ 39 := f116.2.1 _ (by decide)
                      obtain ⟨-, s2, hX2, hI2⟩ := d116.resolve_right (fun q => by rw [h138] at q; exact absurd q.1 (by decide))
                      have hX142 : XM 32 th e0 bs (BLx th e0 f0 g0 (mv_a (mv_si σ116 2 6 3) 39) no ol (mv_i (mv_si σ116 2 6 3) 2 7 = 4 ∨ 0 ≤ (mv_i (mv_si σ116 2 6 3) 2 9).toInt)) f0 g0 ns9 (mv_si σ116 2 6 3) [] 1 1 s2 := by
                        rw [i2 7 (by decide), i2 9 (by decide)]
                        show XM 32 th e0 bs (BLx th e0 f0 g0 (mv_a σ116 39) no ol _) f0 g0 ns9 (mv_si σ116 2 6 3) [] 1 1 s2
                        rw [a7]
                        exact hX2.fr rfl rfl rfl rfl rfl rfl rfl rfl rfl
                      have hI142 : TI (mv_si σ116 2 6 3) sz bd [] s2 a9 := hI2.up rfl (Nat.le_refl _) (Nat.le_refl _) hI2.2.2.2.2.2.2
                      have hb15 : (mv_i (mv_si σ116 2 6 3) 2 15).toInt = bl.length := by rw [i2 15 (by decide)]; exact hB2.2.1
                      have hBk : BkR (mv_a (mv_si σ116 2 6 3) 28) (mv_a (mv_si σ116 2 6 3) 29) (mv_a (mv_si σ116 2 6 3) 30) (mv_a (mv_si σ116 2 6 3) 31) g0 (mv_i (mv_si σ116 2 6 3) 13 7).toInt bl := by
                        show BkR (mv_a σ116 28) (mv_a σ116 29) (mv_a σ116 30) (mv_a σ116 31) g0 (mv_i σ116 13 7).toInt bl
                        rw [f116.2.1 28 (by decide), f116.2.1 29 (by decide), f116.2.1 30 (by decide), f116.2.1 31 (by decide), f116.1 13 7 (by decide)]
                        exact hB2.2.2.1
                      have hGl : Gl (mv_i (mv_si σ116 2 6 3) 2 7) bs bd bl.length (mv_i (mv_si σ116 2 6 3) 2 9).toInt n th (mv_i (mv_si σ116 2 6 3) 13 9).toInt := by
                        rw [i2 7 (by decide), i2 9 (by decide), show mv_i (mv_si σ116 2 6 3) 13 9 = mv_i τ 13 9 from f116.1 13 9 (by decide)]
                        exact hB2.2.2.2.2.1
                      have hGx : Gx (mv_i (mv_si σ116 2 6 3) 2 7) g0 (mv_i (mv_si σ116 2 6 3) 2 10) bl ol := by rw [i2 7 (by decide), i2 10 (by decide)]; exact hB2.2.2.2.2.2
                      have hgt2 : mv_i (mv_si σ116 2 6 3) 2 7 = 1 ∨ (0 ≤ (mv_i (mv_si σ116 2 6 3) 2 8).toInt ∧ (mv_i (mv_si σ116 2 6 3) 2 8).toInt < 32770) := by rw [i2 7 (by decide), i2 8 (by decide)]; exact hgt
                      have hn42 : mv_i (mv_si σ116 2 6 3) 2 7 = 1 ∨ mv_i (mv_si σ116 2 6 3) 2 7 = 2 ∨ mv_i (mv_si σ116 2 6 3) 2 7 = 3 → 2 * ns9 + 4 ≤ a9 := by rw [i2 7 (by decide)]; exact hn4
                      have hnc2 : no ≤ nCd (mv_a (mv_si σ116 2 6 3) 4) a9 := by show no ≤ nCd (mv_a σ116 4) a9; rw [f116.2.1 4 (by decide)]; exact hnc
                      refine mv_aload_n (pc := 141) B d_Weaver_weave_141 rfl 2 rfl ?_
                      refine mv_callVv (pc := 142) (n := 0) (ci := 1) (C := R_Weaver) B (mK_ok sk sv) hNs rfl rfl (k_Weaver_finish_a l hi _ hG142 hM142 hW142 hX142 hI142 hB2.1 hb15 hBk hB2.2.2.2.1 hGl hGx hgt2 hn2 hn42 hnc2 hZ hA142 hxu hFu) rfl (ma_goodc kc_Weaver_finish) (B.2.2.2.1 _ k_1522) (B.2.2.2.1 _ k_1524) (B.2.2.2.1 _ ks_65) (B.2.2.2.1 _ k_2) ⟨by decide +kernel, by decide +kernel, by decide +kernel⟩ rfl d_Weaver_weave_142 rfl (Nat.le_of_ble_eq_true rfl) ⟨by decide, by decide⟩ ⟨by decide, by decide⟩ ⟨by decide, by decide⟩ (mv_noH hno _) (fun σ142 h142 => ?_)
                      obtain ⟨h142, x142⟩ := h142
                      have go := j145 σ142 (by omega) ((hV.tr (WT.w (P := 32) f116.wt 6 3)).tr h142.1) h142.2.1 (h142.lq _ (by omega)) x142
                      refine mv_lpick [1, 2] rfl ?_
                      exact go
                · skip
                  have hWE : WE 32 τ n sz th no a9 0 := by
                    rcases hWM with ⟨q, -⟩ | ⟨q, -⟩ | ⟨-, q⟩ | ⟨q, -⟩
                    · rw [h87] at q; exact absurd q (by decide)
                    · rw [h87] at q; exact absurd q (by decide)
                    · exact q
                    · rw [h87] at q; exact absurd q (by decide)
                  obtain ⟨e0, bs, bd, s9, ns9, f0, g0, bl, ol, ms, ⟨hX, hI⟩, hB2, hgt, hn2, hn4, hnc⟩ := hWE
                  have hbs := hB2.2.2.2.2.1.bs
                  have hB9 : SB 32 τ 1 len n z sz th sl := ⟨hG.1, hG.2.2.1, hW.1, hW.2.1⟩
                  refine mv_aload_n (pc := 90) B d_Weaver_weave_90 rfl 1 rfl ?_
                  refine mv_aload_n (pc := 91) B d_Weaver_weave_91 rfl 1 rfl ?_
                  refine mv_getR (pc := 92) (ci := 1) (C := R_Weaver) (T := F_Weaver) (N := 16) B 3 rfl rfl (by decide) i_Weaver (B.2.2.2.1 _ k_232) rfl (hR.1 _ 3 _ rfl) d_Weaver_weave_92 ?_
                  refine mv_callVi (pc := 95) (n := 0) (ci := 6) (C := R_Exprs) B (mK_ok sk sv) hNs rfl rfl (k_Exprs_operand_a l hi _ hB9 ht2 hX hI hG.2.2.2.2.1 hbs h87 hG.2.1.2.1 hE0) rfl (ma_goodc kc_Exprs_operand) (B.2.2.2.1 _ k_1410) (B.2.2.2.1 _ k_1411) (B.2.2.2.1 _ k_1412) (B.2.2.2.1 _ k_7) ⟨by decide +kernel, by decide +kernel, by decide +kernel⟩ rfl d_Weaver_weave_95 rfl (Nat.le_of_ble_eq_true rfl) ⟨by decide, by decide⟩ ⟨by decide, by decide⟩ ⟨by decide, by decide⟩ (mv_noH hno _) (fun v95 σ95 h95 => ?_)
                  obtain ⟨⟨f95, m95, v95z, d95⟩, x95⟩ := h95
                  have go := fun (mm : Int32) (hmm : (mm = 3 ∧ v95 = 1) ∨ (mm = 2 ∧ v95 = 0)) => j145 (mv_si σ95 2 6 mm) (by omega) (WT.w (P := 32) (hV.tr f95.wt) 6 mm) m95 ⟨th, sl, no, (hW.rf f95 hP).of hP (OF.w Fr.rf 6 mm), d95.elim Or.inl (fun q => by obtain ⟨ms2, s2, a2, q1, q2, q3⟩ := q; exact Or.inr (Or.inr ⟨a2, by omega, by rcases hmm with ⟨e1, e2⟩ | ⟨e1, e2⟩ <;> (subst e1; subst e2; first | exact Or.inr (Or.inr (Or.inr ⟨rfl, WE.next hP f95 3 q2 q3 (by omega) hB2 hgt hn2 hn4 hnc⟩)) | exact Or.inr (Or.inr (Or.inl ⟨rfl, WE.next hP f95 2 q2 q3 (by omega) hB2 hgt hn2 hn4 hnc⟩)))⟩))⟩ (by rcases hmm with ⟨e1, e2⟩ | ⟨e1, e2⟩ <;> (rw [e2] at x95; rw [e1]; exact x95))
                  refine mv_if_eq (pc := 98) (tgt := 105) B d_Weaver_weave_98 rfl (fun h98 => ?_) (fun h98 => ?_)
                  · skip
                    have go := go 2 (Or.inr ⟨rfl, h98⟩)
                    refine mv_iconst (pc := 105) (v := 2) B d_Weaver_weave_105 (by decide) ?_
                    refine mv_putI (pc := 106) (ci := 1) (C := R_Weaver) (T := F_Weaver) (N := 16) B 6 rfl rfl (by decide) i_Weaver t_Weaver_ok n_Weaver (B.2.2.2.1 _ k_236) rfl rfl rfl rfl d_Weaver_weave_106 ?_
                    refine mv_goto (pc := 109) (tgt := 145) B d_Weaver_weave_109 rfl ?_
                    refine mv_lpick [0, 1] rfl ?_
                    exact go
                  · skip
                    have go := go 3 (Or.inl ⟨rfl, v95z.resolve_left h98⟩)
                    refine mv_iconst (pc := 101) (v := 3) B d_Weaver_weave_101 (by decide) ?_
                    refine mv_goto (pc := 102) (tgt := 106) B d_Weaver_weave_102 rfl ?_
                    refine mv_putI (pc := 106) (ci := 1) (C := R_Weaver) (T := F_Weaver) (N := 16) B 6 rfl rfl (by decide) i_Weaver t_Weaver_ok n_Weaver (B.2.2.2.1 _ k_236) rfl rfl rfl rfl d_Weaver_weave_106 ?_
                    refine mv_goto (pc := 109) (tgt := 145) B d_Weaver_weave_109 rfl ?_
                    refine mv_lpick [0, 1] rfl ?_
                    exact go
              · skip
                obtain ⟨s9, ns9, bl9, hne, hS0⟩ : ∃ s ns bl, ¬ bl = [] ∧ WS 32 τ sz th s a9 ns no bl := by
                  rcases hWM with ⟨q, -⟩ | ⟨-, q⟩ | ⟨q, -⟩ | ⟨q, -⟩
                  · rw [h72] at q; exact absurd q (by decide)
                  · exact q
                  · rw [h72] at q; exact absurd q (by decide)
                  · rw [h72] at q; exact absurd q (by decide)
                refine mv_aload_n (pc := 75) B d_Weaver_weave_75 rfl 1 rfl ?_
                refine mv_callVv (pc := 76) (n := 0) (ci := 1) (C := R_Weaver) B (mK_ok sk sv) hNs rfl rfl (k_Weaver_statement_a l hi _ hG hMt hW hS0 hne h72 hZ hE0) rfl (ma_goodc kc_Weaver_statement) (B.2.2.2.1 _ k_1363) (B.2.2.2.1 _ k_1365) (B.2.2.2.1 _ ks_42) (B.2.2.2.1 _ k_2) ⟨by decide +kernel, by decide +kernel, by decide +kernel⟩ rfl d_Weaver_weave_76 rfl (Nat.le_of_ble_eq_true rfl) ⟨by decide, by decide⟩ ⟨by decide, by decide⟩ ⟨by decide, by decide⟩ (mv_noH hno _) (fun σ76 h76 => ?_)
                obtain ⟨h76, x76⟩ := h76
                have go := j145 σ76 (by omega) (hV.tr h76.1) h76.2.1 (h76.lq _ (by omega)) x76
                refine mv_goto (pc := 79) (tgt := 145) B d_Weaver_weave_79 rfl ?_
                refine mv_lpick [0, 1] rfl ?_
                exact go
            · skip
              obtain ⟨s9, ns9, hS0⟩ : ∃ s ns, WS 32 τ sz th s a9 ns no [] := by
                rcases hWM with ⟨-, q⟩ | ⟨q, -⟩ | ⟨q, -⟩ | ⟨q, -⟩
                · exact q
                · rw [h57] at q; exact absurd q (by decide)
                · rw [h57] at q; exact absurd q (by decide)
                · rw [h57] at q; exact absurd q (by decide)
              refine mv_aload_n (pc := 60) B d_Weaver_weave_60 rfl 1 rfl ?_
              refine mv_callVv (pc := 61) (n := 0) (ci := 1) (C := R_Weaver) B (mK_ok sk sv) hNs rfl rfl (k_Weaver_item_a l hi _ hG hMt hW hS0 h57 hZ hE0) rfl (ma_goodc kc_Weaver_item) (B.2.2.2.1 _ k_1295) (B.2.2.2.1 _ k_1297) (B.2.2.2.1 _ ks_33) (B.2.2.2.1 _ k_2) ⟨by decide +kernel, by decide +kernel, by decide +kernel⟩ rfl d_Weaver_weave_61 rfl (Nat.le_of_ble_eq_true rfl) ⟨by decide, by decide⟩ ⟨by decide, by decide⟩ ⟨by decide, by decide⟩ (mv_noH hno _) (fun σ61 h61 => ?_)
              obtain ⟨h61, x61⟩ := h61
              have go := j145 σ61 (by omega) (by rcases h61 with q | q; exact hV.tr q.1; rw [q]; exact hV.w 6 4) (by rcases h61 with q | q; exact q.2.1; rw [q]; exact hMt) (by rcases h61 with q | q; exact q.lq _ (by omega); rw [q]; exact ⟨th, sl, no, hW.of hP (OF.w Fr.rf 6 4), Or.inr (Or.inl ⟨rfl, s9, a9, ns9, hS0.fr hP rfl rfl rfl rfl rfl rfl rfl rfl rfl rfl rfl rfl (fun q => q)⟩)⟩) x61
              refine mv_goto (pc := 64) (tgt := 145) B d_Weaver_weave_64 rfl ?_
              refine mv_lpick [0, 1] rfl ?_
              exact go
  refine mv_aload_n (pc := 0) B d_Weaver_weave_0 rfl 0 rfl ?_
  refine mv_aload_n (pc := 1) B d_Weaver_weave_1 rfl 3 rfl ?_
  refine mv_callVv (pc := 2) (n := 1) (ci := 1) (C := R_Weaver) B (mK_ok sk sv) hNs rfl rfl (c_Weaver_begin_a l hi _ hm hq) rfl (ma_goodc kc_Weaver_begin) (B.2.2.2.1 _ k_780) (B.2.2.2.1 _ k_782) (B.2.2.2.1 _ ks_16) (B.2.2.2.1 _ k_2) ⟨by decide +kernel, by decide +kernel, by decide +kernel⟩ rfl d_Weaver_weave_2 rfl (Nat.le_of_ble_eq_true rfl) ⟨by decide, by decide⟩ ⟨by decide, by decide⟩ ⟨by decide, by decide⟩ (mv_noH hno _) (fun σ2 h2 => ?_)
  obtain ⟨e2, hR⟩ := h2
  subst e2
  have hR0 := hR
  have ett : mv_a (w_beg 32 σ) 1 = mv_a σ 1 := rfl
  refine mv_aload_n (pc := 5) B d_Weaver_weave_5 rfl 0 rfl ?_
  refine mv_getR (pc := 6) (ci := 1) (C := R_Weaver) (T := F_Weaver) (N := 16) B 0 rfl rfl (by decide) i_Weaver (B.2.2.2.1 _ k_228) rfl (hR.1 _ 0 _ rfl) d_Weaver_weave_6 ?_
  refine mv_aload_n (pc := 9) B d_Weaver_weave_9 rfl 1 rfl ?_
  refine mv_iload_n (pc := 10) B d_Weaver_weave_10 rfl 2 rfl ?_
  refine mv_callVv (pc := 11) (n := 2) (ci := 2) (C := R_Tokens) B (mK_ok sk sv) hNs rfl rfl (k_Tokens_cut l hi _ len _ hR.1 hw hl1 (by rw [ett]; exact hby8) hk0 hp0 hb0 hbyt) rfl (ma_goodc kc_Tokens_cut) (B.2.2.2.1 _ k_789) (B.2.2.2.1 _ k_790) (B.2.2.2.1 _ k_791) (B.2.2.2.1 _ k_3) ⟨by decide +kernel, by decide +kernel, by decide +kernel⟩ rfl d_Weaver_weave_11 rfl (Nat.le_of_ble_eq_true rfl) ⟨by decide, by decide⟩ ⟨by decide, by decide⟩ ⟨by decide, by decide⟩ (mv_noH hno _) (fun σ11 h11 => ?_)
  obtain ⟨⟨g11, x11, t11, k11, i117, i118, i119⟩, u11, J22, L22, K22, hA11, r11⟩ := h11
  obtain ⟨n, z, sz, hSy, hTk, hs2, hs3, hs4, hs5, hs6⟩ := k11
  have hR : Rw 32 (mv_r σ11) := by rw [g11.2.2.2.2]; exact ⟨mh_sr hR.1 rfl, Ph_sr hP hR.2.1 (by omega), hR.2.2.1, hR.2.2.2⟩
  have i13 : ∀ k, mv_i σ11 13 k = mv_i σ 13 k := fun k => (g11.1 13 k (by omega)).trans (by show mv_i (w_beg 32 σ) 13 k = mv_i σ 13 k; rfl)
  have a19 : mv_a σ11 19 = mv_a σ 19 := g11.2.1 19 (by decide)
  have hNs11 : Ns σ11 := by unfold Ns; rw [i13, a19]; exact hNs0
  have iP : ∀ k, mv_i σ11 32 k = mv_i (w_beg 32 σ) 32 k := fun k => g11.1 32 k (by omega)
  have i2 : ∀ k, mv_i σ11 2 k = mv_i (w_beg 32 σ) 2 k := fun k => g11.1 2 k (by omega)
  have hl10n : len ≤ 10240 := hl10
  have hg11 := hA11.f32
  have esz : sz = J22 + 2 := by
    have e1 := hTk.1
    rw [← hg11.i3 6 (by decide) (by decide), K22.i6, nIi (by have := K22.jn; omega)] at e1
    omega
  have enn : n = L22.length := by
    have e1 := hSy.1
    rw [hA11.i (o := 7) (k := 5) rfl (Nat.le_of_ble_eq_true rfl) rfl, K22.sym.sz, nIi (by have := K22.len; omega)] at e1
    omega
  have hp11 : ∀ i, i ≤ J22 → 0 ≤ (mv_a u11 5 (i + 1)).toInt := fun i hi => by
    have hjn := K22.jn
    rw [← hA11.a (o := 5) (n := 32770) (k := i + 1) rfl (by decide) (by omega)]
    exact (hTk.2.2.2.2 (i + 1) (by omega)).2.2
  have hz11 : mv_b u11 6 0 = 0 := by
    rw [← hA11.b (o := 6) (n := 32770) (k := 0) rfl (by decide)]
    exact hTk.2.2.2.1
  obtain ⟨k7, k71, k72⟩ := nI_ex hNs0.1
  obtain ⟨g18, g22, sy22, e11, e18, T22, S22, sy22n, q22⟩ := stt_R (P := 32) (by decide) K22 hbyt hl10n hp11 hz11 rfl rfl rfl rfl rfl rfl rfl rfl rfl rfl (k := k7) (by have := hNs0.2.1; omega) (fun i => (mv_a σ 19 i).toInt.toNat) k71 (fun i hi => by
    obtain ⟨y1, y2⟩ := hNs0.2.2 i (by rw [k71, cln (by have := hNs0.2.1; omega)]; exact hi)
    exact ⟨nI_o2 (show (mv_a σ 19 i).toInt = ((mv_a σ 19 i).toInt.toNat : Int) by omega), by show (mv_a σ 19 i).toInt.toNat < 16448; omega⟩)
  have hx11p : xRP 32 (mv_r u11) := by
    rw [r11]
    exact ⟨⟨mh_sr hR0.1 rfl, Ph_sr hP hR0.2.1 (by omega), hR0.2.2.1, hR0.2.2.2⟩, rfl⟩
  have hx11 : xRT (mv_r u11) := ⟨hx11p.1.1, hx11p.2⟩
  have hZ22 : Zst (txT (cc σ len) len) J22 sy22 n sz := ⟨by have z9 := tkJ K22 (show byt (w_beg 32 σ) from hbyt) (by omega); exact z9, fun i h1 h2 => by rw [enn]; exact sy22n i h1 h2, hSy.2.1, esz, hs3⟩
  refine mv_aload_n (pc := 14) B d_Weaver_weave_14 rfl 0 rfl ?_
  refine mv_getR (pc := 15) (ci := 1) (C := R_Weaver) (T := F_Weaver) (N := 16) B 1 rfl rfl (by decide) i_Weaver (B.2.2.2.1 _ k_229) rfl (hR.1 _ 1 _ rfl) d_Weaver_weave_15 ?_
  refine mv_callVv (pc := 18) (n := 0) (ci := 4) (C := R_Names) B (mK_ok sk sv) hNs rfl rfl (k_Names_clear l hi _ hR.1 n z hSy hNs11 hA11 hx11 e11) rfl (ma_goodc kc_Names_clear) (B.2.2.2.1 _ k_944) (B.2.2.2.1 _ k_945) (B.2.2.2.1 _ k_946) (B.2.2.2.1 _ k_5) ⟨by decide +kernel, by decide +kernel, by decide +kernel⟩ rfl d_Weaver_weave_18 rfl (Nat.le_of_ble_eq_true rfl) ⟨by decide, by decide⟩ ⟨by decide, by decide⟩ ⟨by decide, by decide⟩ (mv_noH hno _) (fun σ18 h18 => ?_)
  obtain ⟨⟨f18, n18, i187, i189⟩, hA18, r18⟩ := h18
  have hx18 : xRP 32 (mv_r g18) := by rw [r18]; exact hx11p
  have hR : Rw 32 (mv_r σ18) := by rw [f18.2.2.2.2]; exact hR
  have v18 : WT 32 σ11 σ18 := f18.up (fun o k q => by omega) (fun o q => by omega) (fun o q => by omega)
  have hG11 : WG 32 32768 512 ext σ11 1 32768 len n z sz := ⟨by rw [← f18.2.2.2.2]; exact hR, x11, ⟨hSy, hTk, hs2, hs3, hs4, hs5⟩, hM9.elim Or.inl (fun q => Or.inr (by have : qc (mv_a σ11 1) len = qc (mv_a σ 1) len := by { rw [t11]; rfl }; omega)), hlR, hl10⟩
  have hG18 := hG11.wt v18 hP
  have hF18 : VG 32 (w_base 32 1 σ) σ18 := ((VG.beg 32 1 σ).tr (g11.up (fun o k q => by omega) (fun o q => by omega) (fun o q => by omega))).tr v18.vg
  have hM18 : Mt (mv_a σ18 24) := by rw [f18.2.1 24 (by decide), g11.2.1 24 (by decide)]; exact hMt0
  have jP : ∀ k, mv_i σ18 32 k = mv_i (w_beg 32 σ) 32 k := fun k => (f18.1 32 k (by omega)).trans (iP k)
  have j2 : ∀ k, mv_i σ18 2 k = mv_i (w_beg 32 σ) 2 k := fun k => (f18.1 2 k (by omega)).trans (i2 k)
  have hW18 : WN 32 512 σ18 n 0 0 0 := ⟨fun y hy => by rw [n18 y hy]; exact ⟨fun q => absurd q (by decide), fun q => absurd q (by decide)⟩, ⟨by rw [jP]; rfl, by omega, by rw [jP]; rfl, by omega, by rw [jP]; show (0 : Int) ≤ (8 : Int32).toInt; decide, by rw [jP]; show (8 : Int32).toInt ≤ 64; decide, fun q hq => absurd hq (by omega), Or.inl ⟨by rw [jP]; show (-1 : Int32).toInt < 0; decide, by rw [jP]; show (-1 : Int32).toInt < 0; decide⟩⟩, ⟨by rw [i187]; decide, by rw [i187]; decide, fun i hi => by rw [i187] at hi; exact absurd hi (by show ¬ i < 0; omega)⟩, ⟨by rw [i187, i189]; decide, by rw [i189]; decide⟩, ⟨0, by rw [jP]; rfl, by omega, by omega⟩, by rw [jP]; rfl, by omega⟩
  have hK18 : KX 32 σ18 0 0 0 0 [] [] 0 True := ⟨⟨by rw [j2]; rfl, trivial, fun b hb => absurd hb List.not_mem_nil⟩, by rw [jP]; rfl, rfl, fun _ => ⟨trivial, fun _ => 0, fun _ => Nat.zero_le _, rfl, fun a q => absurd q (by omega), fun b hb => absurd hb List.not_mem_nil, fun j q => absurd q (by omega)⟩⟩
  have hm18 : mv_i σ18 2 6 = 0 := by rw [j2]; rfl
  have ht18 : (mv_i σ18 3 7).toInt = 1 := by rw [f18.1 3 7 (by decide), i117]; rfl
  have hd18 : (mv_i σ18 3 8).toInt = 0 := by rw [f18.1 3 8 (by decide), i118]; rfl
  refine mv_aload_n (pc := 21) B d_Weaver_weave_21 rfl 0 rfl ?_
  refine mv_callVv (pc := 22) (n := 0) (ci := 1) (C := R_Weaver) B (mK_ok sk sv) hNs rfl rfl (k_Weaver_readBits_a l hi _ hG18 hM18 hW18 rfl hK18 hm18 ht18 hd18 hA18 hx18 e18) rfl (ma_goodc kc_Weaver_readBits) (B.2.2.2.1 _ k_1262) (B.2.2.2.1 _ k_1264) (B.2.2.2.1 _ ks_31) (B.2.2.2.1 _ k_2) ⟨by decide +kernel, by decide +kernel, by decide +kernel⟩ rfl d_Weaver_weave_22 rfl (Nat.le_of_ble_eq_true rfl) ⟨by decide, by decide⟩ ⟨by decide, by decide⟩ ⟨by decide, by decide⟩ (mv_noH hno _) (fun σ22 h22 => ?_)
  obtain ⟨h22, hA22, r22⟩ := h22
  have hx22 : xRP 32 (mv_r g22) := by rw [r22]; exact hx18
  have hE22 := EXG.st (P := 32) hZ22.hJ hA11 hA22 hx22 T22 S22 (fun o ho => by rw [h22.1.2.1 o (by omega), f18.2.1 o (by omega)]) (by rw [h22.1.2.2.1 6 (by omega), f18.2.2.1 6 (by omega)]) q22
  refine mv_iconst (pc := 25) (v := 0) B d_Weaver_weave_25 (by decide) ?_
  refine mv_istore (pc := 26) B d_Weaver_weave_26 (by decide) rfl ?_
  refine mv_lpick [0, 1] rfl ?_
  exact lp _ σ18 n z sz J22 sy22 σ22 0 hG18 hF18 hZ22 h22.1 h22.2.1 (by decide) (by decide) (h22.lq _ (by decide)) hE22 (Nat.lt_succ_self _)
set_option maxHeartbeats 4000000 in
set_option maxRecDepth 100000 in
theorem c_kw_Weaver_weave_b (l : Launch) {dA : FieldType → ClassId} {D : va_G} {al : Nat → Nat} {ext : mv_Sh} {sk sv : Nat → Nat} (hi : mv_inj (mg dA D al ext)) (σ : mv_H) (len : Nat) (w : Int32) (hm : mh (mv_r σ)) (hq : Ph 48 (mv_r σ)) (hw : w.toInt = len) (hl1 : len ≤ 32768) (hby8 : ∀ i, i < 32768 → -128 ≤ (mv_a σ 1 i).toInt ∧ (mv_a σ 1 i).toInt ≤ 127) (hbyt : byt σ) (hk0 : mv_a σ 4 0 = 0) (hp0 : 0 ≤ (mv_a σ 5 0).toInt) (hb0 : mv_b σ 6 0 = 0) (hNs0 : Ns σ) (hMt0 : Mt (mv_a σ 24)) (hlR : len ≤ 32768) (hl10 : len ≤ 10240) (hM9 : 512 = 512 ∨ qc (mv_a σ 1) len ≤ 2 * 512) : mv_C l y_Weaver_weave (Cond.code y_Weaver_weave b_Weaver_weave 6 (Option.some Jvm.ClassFile.FieldType.boolean) :: ma) ({ frames := 7, cells := 0, slots := 0, locals := 176 }) (mg dA D al ext) (mK sk sv) [.ref (al 2), .ref (al 1), .int w, .ref (al 48)] σ (mv_Ri (fun v σ1 => WV 48 32768 512 1 σ v σ1 ∧ XOw 48 (txT (cc σ len) len) v σ1)) := by
  refine mv_C.ofV (cc := b_Weaver_weave) (nL := 6) (ret := (Option.some Jvm.ClassFile.FieldType.boolean)) (by decide +kernel) rfl hi (Nat.le_of_ble_eq_true rfl) ?_
  intro p e s m below meth c B hNs hr hnm hno
  have hP : PQ 48 := by unfold PQ; omega
  have j183 : ∀ (ρ : mv_H) (n : Nat) (z : Nat) (sz : Nat) (J : Nat) (sy : List Nat → Nat) (υ : mv_H) (th : Nat) (sl : Nat) (no : Nat) (hG0 : WG 48 32768 512 ext ρ 1 32768 len n z sz) (hF0 : VG 48 (w_base 48 1 σ) ρ) (hZ : Zst (txT (cc σ len) len) J sy n sz) (hV : WT 48 ρ υ) (hMt : Mt (mv_a υ 24)) (hW : WN 48 512 υ n th sl no) (hC : mv_i υ 21 0 = 0 → ∃ s9 a9 ns9, WS 48 υ sz th s9 a9 ns9 no []) (wX : mv_i υ 21 0 = 0 → ∃ u1, mv_ag (mg dA D al ext) υ u1 ∧ xRP 48 (mv_r u1) ∧ ∃ s lkB, RN (txT (cc σ len) len) J 48 sy u1 s [] lkB [] [] 0 ∧ sTx (txT (cc σ len) len) = some s ∧ KFn (txT (cc σ len) len) 48 u1) (wN : ¬ mv_i υ 21 0 = 0 → sTx (txT (cc σ len) len) = none), mv_V p l e ({ frames := 7, cells := 0, slots := 0, locals := 176 }) s m ([.ref (al 2), .ref (al 1), .int w, .ref (al 48)] : List Value).toArray below meth c (mg dA D al ext) 6 0 0 (mv_Q (mg dA D al ext) below s 0 0 (mv_Ri (fun v σ1 => WV 48 32768 512 1 σ v σ1 ∧ XOw 48 (txT (cc σ len) len) v σ1))) υ 183 [(0, .ref (al 2))] [] := by
    intro ρ n z sz J sy υ th sl no hG0 hF0 hZ hV hMt hW hC wX wN
    have hG := hG0.wt hV hP
    have hR := hG.1
    have hF := hF0.tr hV.vg
    have hnq := hW.2.2.2.2.2.1
    have hno2 := hW.2.2.2.2.2.2
    refine mv_aload_n (pc := 183) B d_Weaver_weave_183 rfl 0 rfl ?_
    refine mv_getR (pc := 184) (ci := 1) (C := R_Weaver) (T := F_Weaver) (N := 16) B 2 rfl rfl (by decide) i_Weaver (B.2.2.2.1 _ k_230) rfl (hR.1 _ 2 _ rfl) d_Weaver_weave_184 ?_
    refine mv_getI (pc := 187) (ci := 5) (C := R_Faults) (T := F_Faults) (N := 2) B 0 rfl rfl (by decide) i_Faults (B.2.2.2.1 _ k_178) rfl d_Weaver_weave_187 ?_
    refine mv_if_ne (pc := 190) (tgt := 200) B d_Weaver_weave_190 rfl (fun h190 => ?_) (fun h190 => ?_)
    · skip
      have hend := And.intro (WV.bad (σ := σ) hG hMt hW hF) (XOw.no (P := 48) (σ1 := υ) (wN h190))
      refine mv_iconst (pc := 200) (v := 0) B d_Weaver_weave_200 (by decide) ?_
      exact mv_iret (pc := 201) B hr rfl d_Weaver_weave_201 (Nat.le_refl _) (Nat.le_refl _) ⟨_, rfl, by first | exact hend | exact hend⟩
    · skip
      obtain ⟨u183, hAu, hxu, s183, lk183, hRu, hr183, kf183⟩ := wX h190
      obtain ⟨s9, a9, ns9, hS9⟩ := hC h190
      have hCo : CodeOK 48 32768 υ th := CodeOK.of (len := len) hS9 h190 hnq (hG.2.2.1.2.2.2.2.2) hG.2.2.2.2.1 hG.2.2.2.2.2
      refine mv_aload_n (pc := 193) B d_Weaver_weave_193 rfl 0 rfl ?_
      refine mv_callVi (pc := 194) (n := 0) (ci := 1) (C := R_Weaver) B (mK_ok sk sv) hNs rfl rfl (k_Weaver_areApart_b l hi _ hR no hnq hno2 hAu hxu hRu) rfl (ma_goodc kc_Weaver_areApart) (B.2.2.2.1 _ k_1540) (B.2.2.2.1 _ k_1542) (B.2.2.2.1 _ ks_68) (B.2.2.2.1 _ k_2) ⟨by decide +kernel, by decide +kernel, by decide +kernel⟩ rfl d_Weaver_weave_194 rfl (Nat.le_of_ble_eq_true rfl) ⟨by decide, by decide⟩ ⟨by decide, by decide⟩ ⟨by decide, by decide⟩ (mv_noH hno _) (fun v194 σ194 h194 => ?_)
      obtain ⟨⟨f194, d194⟩, x194⟩ := h194
      refine mv_if_ne (pc := 197) (tgt := 202) B d_Weaver_weave_197 rfl (fun h197 => ?_) (fun h197 => ?_)
      · skip
        obtain ⟨-, e194⟩ := d194.resolve_left (fun q => h197 q.1)
        have e194 := e194.symm
        subst e194
        refine mv_aload_n (pc := 202) B d_Weaver_weave_202 rfl 0 rfl ?_
        refine mv_getR (pc := 203) (ci := 1) (C := R_Weaver) (T := F_Weaver) (N := 16) B 5 rfl rfl (by decide) i_Weaver (B.2.2.2.1 _ k_235) rfl hR.2.2.1 d_Weaver_weave_203 ?_
        refine mv_getR (pc := 206) (ci := 7) (C := R_Program) (T := F_Program) (N := 19) B 18 rfl rfl (by decide) i_Program (B.2.2.2.1 _ k_365) rfl (hR.2.1 _ 18 59 rfl) d_Weaver_weave_206 ?_
        refine mv_aload_n (pc := 209) B d_Weaver_weave_209 rfl 0 rfl ?_
        refine mv_getR (pc := 210) (ci := 1) (C := R_Weaver) (T := F_Weaver) (N := 16) B 5 rfl rfl (by decide) i_Weaver (B.2.2.2.1 _ k_235) rfl hR.2.2.1 d_Weaver_weave_210 ?_
        refine mv_callVv (pc := 213) (n := 1) (ci := 8) (C := R_Tree) B (mK_ok sk sv) hNs rfl rfl (c_Tree_grow_b l hi _ no hR.2.1 hnq hno2) rfl (ma_goodc kc_Tree_grow) (B.2.2.2.1 _ k_1548) (B.2.2.2.1 _ k_411) (B.2.2.2.1 _ k_412) (B.2.2.2.1 _ k_9) ⟨by decide +kernel, by decide +kernel, by decide +kernel⟩ rfl d_Weaver_weave_213 rfl (Nat.le_of_ble_eq_true rfl) ⟨by decide, by decide⟩ ⟨by decide, by decide⟩ ⟨by decide, by decide⟩ (mv_noH hno _) (fun σ213 h213 => ?_)
        obtain ⟨f213, k213⟩ := h213
        refine mv_iconst (pc := 216) (v := 1) B d_Weaver_weave_216 (by decide) ?_
        exact mv_iret (pc := 217) B hr rfl d_Weaver_weave_217 (Nat.le_refl _) (Nat.le_refl _) ⟨_, rfl, TreeOK.wv hP hG hMt hW hF hCo f213 k213, XOw.ye hr183 (x194.resolve_right (fun q => h197 q.1)).2 (hRu.sp.fr (fun k hk => by rw [f213.1 48 k (by omega)]; exact (hAu.f48.iP k (by omega)).symm) (fun o k ho hk => by rw [f213.2.2.1 o id]; exact by rcases ho with ho | ho <;> subst ho <;> exact hAu.b (n := 512) rfl hk) (fun o k ho hk => by rw [f213.2.1 o (by omega)]; exact by rcases ho with ho | ho <;> subst ho <;> exact hAu.a (n := 64) rfl (by decide) hk) (fun k hk => by rw [f213.2.1 (48 + 8) (by omega)]; exact hAu.a (o := 48 + 8) (n := 32768) rfl (by decide) hk)) (kf183.fr (fun k hk => by rw [f213.1 48 k (by omega)]; exact by rcases hk with hk | hk | hk | hk <;> subst hk <;> exact hAu.i (o := 48) rfl (Nat.le_of_ble_eq_true rfl) rfl) (fun o k ho hk => by rw [f213.2.1 o (by omega)]; exact by rcases ho with ho | ho <;> subst ho <;> exact hAu.a (n := 64) rfl (by decide) hk) (fun k hk => by rw [f213.2.1 (48 + 7) (by omega)]; exact hAu.a (o := 48 + 7) (n := 512) rfl (by decide) hk) (fun k hk => by rw [f213.2.1 (48 + 9) (by omega)]; exact hAu.a (o := 48 + 9) (n := 32768) rfl (by decide) hk) (fun k hk => by rw [f213.2.2.1 (48 + 10) id]; exact hAu.b (o := 48 + 10) (n := 32768) rfl hk))⟩
      · skip
        obtain ⟨-, x9, y9, z9, q9⟩ := d194.resolve_right (fun q => by rw [h197] at q; exact absurd q.1 (by decide))
        have hend : WV 48 32768 512 1 σ 0 σ194 := WV.bad (hG.wt f194 hP) (by rw [q9]; exact hMt) (by rw [q9]; exact (hW.tell hP _ _).of hP (OF.w Fr.rf 4 _)) (hF.tr f194.vg)
        have hend := And.intro hend (XOw.na (P := 48) (σ1 := σ194) hr183 (x194.resolve_left (fun q => by rw [h197] at q; exact absurd q.1 (by decide))).2)
        refine mv_iconst (pc := 200) (v := 0) B d_Weaver_weave_200 (by decide) ?_
        exact mv_iret (pc := 201) B hr rfl d_Weaver_weave_201 (Nat.le_refl _) (Nat.le_refl _) ⟨_, rfl, by first | exact hend | exact hend⟩
  have j151 : ∀ (ρ : mv_H) (n : Nat) (z : Nat) (sz : Nat) (J : Nat) (sy : List Nat → Nat) (υ : mv_H) (th : Nat) (sl : Nat) (no : Nat) (hG0 : WG 48 32768 512 ext ρ 1 32768 len n z sz) (hF0 : VG 48 (w_base 48 1 σ) ρ) (hZ : Zst (txT (cc σ len) len) J sy n sz) (hV : WT 48 ρ υ) (hMt : Mt (mv_a υ 24)) (hW : WN 48 512 υ n th sl no) (hE : 0 ≤ (mv_i υ 3 9).toInt ∨ ∃ s9 a9 ns9, WS 48 υ sz th s9 a9 ns9 no []) (wE : EXG (mg dA D al ext) (txT (cc σ len) len) J 48 sy (sTx (txT (cc σ len) len)) υ) (w4 : 0 ≤ (mv_i υ 3 9).toInt ∨ mv_i υ 2 6 = 4), mv_V p l e ({ frames := 7, cells := 0, slots := 0, locals := 176 }) s m ([.ref (al 2), .ref (al 1), .int w, .ref (al 48)] : List Value).toArray below meth c (mg dA D al ext) 6 0 0 (mv_Q (mg dA D al ext) below s 0 0 (mv_Ri (fun v σ1 => WV 48 32768 512 1 σ v σ1 ∧ XOw 48 (txT (cc σ len) len) v σ1))) υ 151 [(0, .ref (al 2))] [] := by
    intro ρ n z sz J sy υ th sl no hG0 hF0 hZ hV hMt hW hE wE w4
    have hG := hG0.wt hV hP
    have hR := hG.1
    refine mv_aload_n (pc := 151) B d_Weaver_weave_151 rfl 0 rfl ?_
    refine mv_getR (pc := 152) (ci := 1) (C := R_Weaver) (T := F_Weaver) (N := 16) B 0 rfl rfl (by decide) i_Weaver (B.2.2.2.1 _ k_228) rfl (hR.1 _ 0 _ rfl) d_Weaver_weave_152 ?_
    refine mv_callVi (pc := 155) (n := 0) (ci := 2) (C := R_Tokens) B (mK_ok sk sv) hNs rfl rfl (c_Tokens_right l hi _) rfl (ma_goodc kc_Tokens_right) (B.2.2.2.1 _ k_1291) (B.2.2.2.1 _ k_1292) (B.2.2.2.1 _ k_1293) (B.2.2.2.1 _ k_3) ⟨by decide +kernel, by decide +kernel, by decide +kernel⟩ rfl d_Weaver_weave_155 rfl (Nat.le_of_ble_eq_true rfl) ⟨by decide, by decide⟩ ⟨by decide, by decide⟩ ⟨by decide, by decide⟩ (mv_noH hno _) (fun v155 σ155 h155 => ?_)
    obtain ⟨e155, z155⟩ := h155
    have e155 := e155.symm
    subst e155
    refine mv_if_ne (pc := 158) (tgt := 183) B d_Weaver_weave_158 rfl (fun h158 => ?_) (fun h158 => ?_)
    · skip
      have hw : (mv_i υ 3 9).toInt < 0 := Decidable.byContradiction fun q => h158 (by rw [z155, if_neg (fun z => q (lt0.mp z))])
      have hdn := EXG.dn48 wE hw (w4.resolve_left (by omega))
      have go := j183 ρ n z sz J sy υ th sl no hG0 hF0 hZ hV hMt hW (fun _ => hE.resolve_left (by omega)) hdn.1 hdn.2
      refine mv_lpick [0] rfl ?_
      exact go
    · skip
      have hw0 : 0 ≤ (mv_i υ 3 9).toInt := Decidable.byContradiction fun q => by rw [if_pos (lt0.mpr (by omega))] at z155; rw [z155] at h158; exact absurd h158 (by decide)
      have hr0 := EXG.wr48 wE hw0
      refine mv_aload_n (pc := 161) B d_Weaver_weave_161 rfl 0 rfl ?_
      refine mv_getR (pc := 162) (ci := 1) (C := R_Weaver) (T := F_Weaver) (N := 16) B 2 rfl rfl (by decide) i_Weaver (B.2.2.2.1 _ k_230) rfl (hR.1 _ 2 _ rfl) d_Weaver_weave_162 ?_
      refine mv_callVv (pc := 165) (n := 0) (ci := 5) (C := R_Faults) B (mK_ok sk sv) hNs rfl rfl (c_Faults_clear l hi _) rfl (ma_goodc kc_Faults_clear) (B.2.2.2.1 _ k_785) (B.2.2.2.1 _ k_786) (B.2.2.2.1 _ k_787) (B.2.2.2.1 _ k_6) ⟨by decide +kernel, by decide +kernel, by decide +kernel⟩ rfl d_Weaver_weave_165 rfl (Nat.le_of_ble_eq_true rfl) ⟨by decide, by decide⟩ ⟨by decide, by decide⟩ ⟨by decide, by decide⟩ (mv_noH hno _) (fun σ165 h165 => ?_)
      subst h165
      refine mv_aload_n (pc := 168) B d_Weaver_weave_168 rfl 0 rfl ?_
      refine mv_getR (pc := 169) (ci := 1) (C := R_Weaver) (T := F_Weaver) (N := 16) B 2 rfl rfl (by decide) i_Weaver (B.2.2.2.1 _ k_230) rfl (hR.1 _ 2 _ rfl) d_Weaver_weave_169 ?_
      refine mv_aload_n (pc := 172) B d_Weaver_weave_172 rfl 0 rfl ?_
      refine mv_getR (pc := 173) (ci := 1) (C := R_Weaver) (T := F_Weaver) (N := 16) B 0 rfl rfl (by decide) i_Weaver (B.2.2.2.1 _ k_228) rfl (hR.1 _ 0 _ rfl) d_Weaver_weave_173 ?_
      refine mv_getI (pc := 176) (ci := 2) (C := R_Tokens) (T := F_Tokens) (N := 10) B 9 rfl rfl (by decide) i_Tokens (B.2.2.2.1 _ k_106) rfl d_Weaver_weave_176 ?_
      refine mv_iconst (pc := 179) (v := 1) B d_Weaver_weave_179 (by decide) ?_
      refine mv_callVv (pc := 180) (n := 2) (ci := 5) (C := R_Faults) B (mK_ok sk sv) hNs rfl rfl (c_Faults_tell l hi _ _ _) rfl (ma_goodc kc_Faults_tell) (B.2.2.2.1 _ k_1286) (B.2.2.2.1 _ k_1287) (B.2.2.2.1 _ k_1288) (B.2.2.2.1 _ k_6) ⟨by decide +kernel, by decide +kernel, by decide +kernel⟩ rfl d_Weaver_weave_180 rfl (Nat.le_of_ble_eq_true rfl) ⟨by decide, by decide⟩ ⟨by decide, by decide⟩ ⟨by decide, by decide⟩ (mv_noH hno _) (fun σ180 h180 => ?_)
      obtain ⟨x9, y9, e180, z180⟩ := tell_n (b := 1) (by decide) h180
      subst e180
      have go := j183 ρ n z sz J sy (ex_tell (mv_si (mv_si υ 21 0 0) 21 1 (-1)) x9 y9) th sl no hG0 hF0 hZ ((hV.tell 0 (-1)).tell x9 y9) hMt ((hW.tell hP 0 (-1)).tell hP x9 y9) (fun q => absurd q z180) (fun q => absurd q z180) (fun _ => hr0)
      refine mv_lpick [0] rfl ?_
      exact go
  have lp : ∀ (nn : Nat) (ρ : mv_H) (n : Nat) (z : Nat) (sz : Nat) (J : Nat) (sy : List Nat → Nat) (τ : mv_H) (tt : Int32) (hG0 : WG 48 32768 512 ext ρ 1 32768 len n z sz) (hF0 : VG 48 (w_base 48 1 σ) ρ) (hZ : Zst (txT (cc σ len) len) J sy n sz) (hV : WT 48 ρ τ) (hMt : Mt (mv_a τ 24)) (q0 : 0 ≤ tt.toInt) (q1 : tt.toInt ≤ 131072) (hL0 : LQ 48 512 τ n sz tt.toInt) (hE0 : EXG (mg dA D al ext) (txT (cc σ len) len) J 48 sy (sTx (txT (cc σ len) len)) τ), (131072 - tt.toInt).toNat < nn → mv_V p l e ({ frames := 7, cells := 0, slots := 0, locals := 176 }) s m ([.ref (al 2), .ref (al 1), .int w, .ref (al 48)] : List Value).toArray below meth c (mg dA D al ext) 6 0 0 (mv_Q (mg dA D al ext) below s 0 0 (mv_Ri (fun v σ1 => WV 48 32768 512 1 σ v σ1 ∧ XOw 48 (txT (cc σ len) len) v σ1))) τ 28 [(4, .int tt), (0, .ref (al 2))] [] := by
    intro nn
    induction nn with
    | zero => intro ρ n z sz J sy τ tt hG0 hF0 hZ hV hMt q0 q1 hL0 hE0 hm; exact absurd hm (Nat.not_lt_zero _)
    | succ nn ih =>
      intro ρ n z sz J sy τ tt hG0 hF0 hZ hV hMt q0 q1 hL0 hE0 hm
      have hG := hG0.wt hV hP
      have hR := hG.1
      have ht2 := hG.2.1.2.2.2.2.2.2
      obtain ⟨th, sl, no, hW, hL⟩ := hL0
      have hszz := hG.2.2.1.2.2.2.1
      have j145 : ∀ (υ : mv_H) (h31 : tt.toInt < 131072) (wV : WT 48 ρ υ) (wM : Mt (mv_a υ 24)) (wL : LQ 48 512 υ n sz (tt.toInt + 1)) (wE : EXG (mg dA D al ext) (txT (cc σ len) len) J 48 sy (sTx (txT (cc σ len) len)) υ), mv_V p l e ({ frames := 7, cells := 0, slots := 0, locals := 176 }) s m ([.ref (al 2), .ref (al 1), .int w, .ref (al 48)] : List Value).toArray below meth c (mg dA D al ext) 6 0 0 (mv_Q (mg dA D al ext) below s 0 0 (mv_Ri (fun v σ1 => WV 48 32768 512 1 σ v σ1 ∧ XOw 48 (txT (cc σ len) len) v σ1))) υ 145 [(4, .int tt), (0, .ref (al 2))] [] := by
        intro υ h31 wV wM wL wE
        have t2 : (tt + 1).toInt = tt.toInt + 1 := i32_inc (by omega)
        have go := ih ρ n z sz J sy υ (tt + 1) hG0 hF0 hZ wV wM (by omega) (by omega) (by rw [t2]; exact wL) wE (by omega)
        refine mv_iinc (pc := 145) (j := 0) (v := 1) B d_Weaver_weave_145 rfl (by decide) (by decide) rfl ?_
        refine mv_goto (pc := 148) (tgt := 28) B d_Weaver_weave_148 rfl ?_
        refine mv_lpick [0, 1] rfl ?_
        exact go
      refine mv_iload (pc := 28) B d_Weaver_weave_28 0 rfl ?_
      refine mv_ldc (pc := 30) (v := 131072) B (B.2.2.2.1 _ k_1290) d_Weaver_weave_30 ?_
      refine mv_icmp_ge (pc := 32) (tgt := 151) B d_Weaver_weave_32 rfl (fun h32 => ?_) (fun h32 => ?_)
      · skip
        rw [Int32.le_iff_toInt_le] at h32
        have h32 : (131072 : Int) ≤ tt.toInt := h32
        have go := j151 ρ n z sz J sy τ th sl no hG0 hF0 hZ hV hMt hW (hL.elim Or.inl (fun q => q.elim (fun q => Or.inr q.2) (fun q => by obtain ⟨a9, q1, q2⟩ := q; have := q2.lt.1; omega))) hE0 (hL.elim Or.inl (fun q => q.elim (fun q => Or.inr q.1) (fun q => by obtain ⟨a9, q1, q2⟩ := q; have := q2.lt.1; omega)))
        refine mv_lpick [1] rfl ?_
        exact go
      · skip
        rw [Int32.le_iff_toInt_le] at h32
        have h32 : ¬ (131072 : Int) ≤ tt.toInt := h32
        have t2 : (tt + 1).toInt = tt.toInt + 1 := i32_inc (by omega)
        refine mv_aload_n (pc := 35) B d_Weaver_weave_35 rfl 1 rfl ?_
        refine mv_getI (pc := 36) (ci := 1) (C := R_Weaver) (T := F_Weaver) (N := 16) B 6 rfl rfl (by decide) i_Weaver (B.2.2.2.1 _ k_236) rfl d_Weaver_weave_36 ?_
        refine mv_iconst (pc := 39) (v := 4) B d_Weaver_weave_39 (by decide) ?_
        refine mv_icmp_eq (pc := 40) (tgt := 151) B d_Weaver_weave_40 rfl (fun h40 => ?_) (fun h40 => ?_)
        · skip
          have go := j151 ρ n z sz J sy τ th sl no hG0 hF0 hZ hV hMt hW (hL.elim Or.inl (fun q => q.elim (fun q => Or.inr q.2) (fun q => by obtain ⟨a9, q1, q2⟩ := q; rcases q2 with ⟨q2, -⟩ | ⟨q2, -⟩ | ⟨q2, -⟩ | ⟨q2, -⟩ <;> (rw [h40] at q2; exact absurd q2 (by decide))))) hE0 (Or.inr h40)
          refine mv_lpick [1] rfl ?_
          exact go
        · skip
          refine mv_aload_n (pc := 43) B d_Weaver_weave_43 rfl 1 rfl ?_
          refine mv_getR (pc := 44) (ci := 1) (C := R_Weaver) (T := F_Weaver) (N := 16) B 0 rfl rfl (by decide) i_Weaver (B.2.2.2.1 _ k_228) rfl (hR.1 _ 0 _ rfl) d_Weaver_weave_44 ?_
          refine mv_callVi (pc := 47) (n := 0) (ci := 2) (C := R_Tokens) B (mK_ok sk sv) hNs rfl rfl (c_Tokens_right l hi _) rfl (ma_goodc kc_Tokens_right) (B.2.2.2.1 _ k_1291) (B.2.2.2.1 _ k_1292) (B.2.2.2.1 _ k_1293) (B.2.2.2.1 _ k_3) ⟨by decide +kernel, by decide +kernel, by decide +kernel⟩ rfl d_Weaver_weave_47 rfl (Nat.le_of_ble_eq_true rfl) ⟨by decide, by decide⟩ ⟨by decide, by decide⟩ ⟨by decide, by decide⟩ (mv_noH hno _) (fun v47 σ47 h47 => ?_)
          obtain ⟨e47, z47⟩ := h47
          have e47 := e47.symm
          subst e47
          refine mv_if_eq (pc := 50) (tgt := 151) B d_Weaver_weave_50 rfl (fun h50 => ?_) (fun h50 => ?_)
          · skip
            have hw : ¬ (mv_i τ 3 9).toInt < 0 := fun q => by rw [if_pos (lt0.mpr q)] at z47; rw [z47] at h50; exact absurd h50 (by decide)
            have go := j151 ρ n z sz J sy τ th sl no hG0 hF0 hZ hV hMt hW (Or.inl (by omega)) hE0 (Or.inl (by omega))
            refine mv_lpick [1] rfl ?_
            exact go
          · skip
            have hw : (mv_i τ 3 9).toInt < 0 := Decidable.byContradiction fun q => h50 (by rw [z47, if_neg (fun z => q (lt0.mp z))])
            obtain ⟨a9, hta, hWM⟩ := (hL.resolve_left (by omega)).resolve_left (fun q => h40 q.1)
            have hal := hWM.lt
            refine mv_aload_n (pc := 53) B d_Weaver_weave_53 rfl 1 rfl ?_
            refine mv_getI (pc := 54) (ci := 1) (C := R_Weaver) (T := F_Weaver) (N := 16) B 6 rfl rfl (by decide) i_Weaver (B.2.2.2.1 _ k_236) rfl d_Weaver_weave_54 ?_
            refine mv_if_ne (pc := 57) (tgt := 67) B d_Weaver_weave_57 rfl (fun h57 => ?_) (fun h57 => ?_)
            · skip
              refine mv_aload_n (pc := 67) B d_Weaver_weave_67 rfl 1 rfl ?_
              refine mv_getI (pc := 68) (ci := 1) (C := R_Weaver) (T := F_Weaver) (N := 16) B 6 rfl rfl (by decide) i_Weaver (B.2.2.2.1 _ k_236) rfl d_Weaver_weave_68 ?_
              refine mv_iconst (pc := 71) (v := 1) B d_Weaver_weave_71 (by decide) ?_
              refine mv_icmp_ne (pc := 72) (tgt := 82) B d_Weaver_weave_72 rfl (fun h72 => ?_) (fun h72 => ?_)
              · skip
                refine mv_aload_n (pc := 82) B d_Weaver_weave_82 rfl 1 rfl ?_
                refine mv_getI (pc := 83) (ci := 1) (C := R_Weaver) (T := F_Weaver) (N := 16) B 6 rfl rfl (by decide) i_Weaver (B.2.2.2.1 _ k_236) rfl d_Weaver_weave_83 ?_
                refine mv_iconst (pc := 86) (v := 2) B d_Weaver_weave_86 (by decide) ?_
                refine mv_icmp_ne (pc := 87) (tgt := 112) B d_Weaver_weave_87 rfl (fun h87 => ?_) (fun h87 => ?_)
                · skip
                  have hm3 : mv_i τ 2 6 = 3 := by
                    rcases hWM with ⟨q, -⟩ | ⟨q, -⟩ | ⟨q, -⟩ | ⟨q, -⟩
                    · exact absurd q h57
                    · exact absurd q h72
                    · exact absurd q h87
                    · exact q
                  have hWE : WE 48 τ n sz th no a9 1 := by
                    rcases hWM with ⟨q, -⟩ | ⟨q, -⟩ | ⟨q, -⟩ | ⟨-, q⟩
                    · exact absurd q h57
                    · exact absurd q h72
                    · exact absurd q h87
                    · exact q
                  obtain ⟨e0, bs, bd, s9, ns9, f0, g0, bl, ol, ms, ⟨hX, hI⟩, hB2, hgt, hn2, hn4, hnc⟩ := hWE
                  have hbs := hB2.2.2.2.2.1.bs
                  have hB9 : SB 48 τ 1 len n z sz th sl := ⟨hG.1, hG.2.2.1, hW.1, hW.2.1⟩
                  refine mv_aload_n (pc := 112) B d_Weaver_weave_112 rfl 1 rfl ?_
                  refine mv_getR (pc := 113) (ci := 1) (C := R_Weaver) (T := F_Weaver) (N := 16) B 3 rfl rfl (by decide) i_Weaver (B.2.2.2.1 _ k_232) rfl (hR.1 _ 3 _ rfl) d_Weaver_weave_113 ?_
                  refine mv_callVi (pc := 116) (n := 0) (ci := 6) (C := R_Exprs) B (mK_ok sk sv) hNs rfl rfl (k_Exprs_after_b l hi _ hB9 ht2 hX hI hG.2.2.2.2.1 hbs hm3 hG.2.1.2.1 hE0) rfl (ma_goodc kc_Exprs_after) (B.2.2.2.1 _ k_1460) (B.2.2.2.1 _ k_1461) (B.2.2.2.1 _ k_1462) (B.2.2.2.1 _ k_7) ⟨by decide +kernel, by decide +kernel, by decide +kernel⟩ rfl d_Weaver_weave_116 rfl (Nat.le_of_ble_eq_true rfl) ⟨by decide, by decide⟩ ⟨by decide, by decide⟩ ⟨by decide, by decide⟩ (mv_noH hno _) (fun v116 σ116 h116 => ?_)
                  obtain ⟨⟨f116, m116, d116⟩, xa116, xb116⟩ := h116
                  refine mv_istore (pc := 119) B d_Weaver_weave_119 (by decide) rfl ?_
                  refine mv_aload_n (pc := 121) B d_Weaver_weave_121 rfl 2 rfl ?_
                  refine mv_iload (pc := 122) B d_Weaver_weave_122 0 rfl ?_
                  refine mv_if_ne (pc := 124) (tgt := 131) B d_Weaver_weave_124 rfl (fun h124 => ?_) (fun h124 => ?_)
                  · skip
                    refine mv_iconst (pc := 131) (v := 3) B d_Weaver_weave_131 (by decide) ?_
                    refine mv_putI (pc := 132) (ci := 1) (C := R_Weaver) (T := F_Weaver) (N := 16) B 6 rfl rfl (by decide) i_Weaver t_Weaver_ok n_Weaver (B.2.2.2.1 _ k_236) rfl rfl rfl rfl d_Weaver_weave_132 ?_
                    refine mv_gen (fun S135 eS135 => ?_)
                    have hmm : ¬ v116 = 0 → S135 = mv_si σ116 2 6 3 := by first | exact fun _ => eS135 | exact fun q => absurd h124 q
                    have hm0 : v116 = 0 → S135 = mv_si σ116 2 6 2 := by first | exact fun _ => eS135 | exact fun q => absurd q h124
                    have go1 : ¬ v116 = 2 → mv_V p l e ({ frames := 7, cells := 0, slots := 0, locals := 176 }) s m ([.ref (al 2), .ref (al 1), .int w, .ref (al 48)] : List Value).toArray below meth c (mg dA D al ext) 6 0 0 (mv_Q (mg dA D al ext) below s 0 0 (mv_Ri (fun v σ1 => WV 48 32768 512 1 σ v σ1 ∧ XOw 48 (txT (cc σ len) len) v σ1))) S135 145 [(4, .int tt), (0, .ref (al 2))] [] := by
                      intro q2
                      have d1 := d116.resolve_left (fun q => q2 q.1)
                      by_cases q0 : v116 = 0
                      · rw [hm0 q0]
                        rw [q0] at d1
                        exact j145 (mv_si σ116 2 6 2) (by omega) (WT.w (P := 48) (hV.tr f116.wt) 6 2) m116 ⟨th, sl, no, (hW.rf f116 hP).of hP (OF.w Fr.rf 6 2), d1.2.elim Or.inl (fun q => by obtain ⟨ms2, s2, a2, q1, q2, q3⟩ := q; exact Or.inr (Or.inr ⟨a2, by omega, Or.inr (Or.inr (Or.inl ⟨rfl, WE.next hP f116 2 q2 q3 (by omega) hB2 hgt hn2 hn4 hnc⟩))⟩))⟩ (by have xx := xa116 q2; rw [q0] at xx; exact xx)
                      · rw [hmm q0]
                        rw [d1.1.resolve_left q0] at d1
                        exact j145 (mv_si σ116 2 6 3) (by omega) (WT.w (P := 48) (hV.tr f116.wt) 6 3) m116 ⟨th, sl, no, (hW.rf f116 hP).of hP (OF.w Fr.rf 6 3), d1.2.elim Or.inl (fun q => by obtain ⟨ms2, s2, a2, q1, q2, q3⟩ := q; exact Or.inr (Or.inr ⟨a2, by omega, Or.inr (Or.inr (Or.inr ⟨rfl, WE.next hP f116 3 q2 q3 (by omega) hB2 hgt hn2 hn4 hnc⟩))⟩))⟩ (by have xx := xa116 q2; rw [if_neg q0] at xx; exact xx)
                    clear eS135
                    refine mv_iload (pc := 135) B d_Weaver_weave_135 0 rfl ?_
                    refine mv_iconst (pc := 137) (v := 2) B d_Weaver_weave_137 (by decide) ?_
                    refine mv_icmp_ne (pc := 138) (tgt := 145) B d_Weaver_weave_138 rfl (fun h138 => ?_) (fun h138 => ?_)
                    · skip
                      have go := go1 h138
                      refine mv_lpick [1, 2] rfl ?_
                      exact go
                    · skip
                      have e135 := hmm (by rw [h138]; decide)
                      subst e135
                      obtain ⟨u116, hAu, hxu, hFu⟩ := xb116 h138
                      have hA142 : mv_ag (mg dA D al ext) (mv_si σ116 2 6 3) (mv_si u116 2 6 3) := hAu.si 2 6 3
                      have hG142 := hG.wt (WT.w (P := 48) f116.wt 6 3) hP
                      have hM142 : Mt (mv_a (mv_si σ116 2 6 3) 24) := m116
                      have hW142 := (hW.rf f116 hP).of hP (OF.w Fr.rf 6 3)
                      have i2 : ∀ k, k ≠ 6 → mv_i (mv_si σ116 2 6 3) 2 k = mv_i τ 2 k := fun k q => (ri_ne (by omega)).trans (f116.1 2 k (by omega))
                      have a7 : mv_a σ116 55 = mv_a τ 55 := f116.2.1 _ (by decide)
                      obtain ⟨-, s2, hX2, hI2⟩ := d116.resolve_right (fun q => by rw [h138] at q; exact absurd q.1 (by decide))
                      have hX142 : XM 48 th e0 bs (BLx th e0 f0 g0 (mv_a (mv_si σ116 2 6 3) 55) no ol (mv_i (mv_si σ116 2 6 3) 2 7 = 4 ∨ 0 ≤ (mv_i (mv_si σ116 2 6 3) 2 9).toInt)) f0 g0 ns9 (mv_si σ116 2 6 3) [] 1 1 s2 := by
                        rw [i2 7 (by decide), i2 9 (by decide)]
                        show XM 48 th e0 bs (BLx th e0 f0 g0 (mv_a σ116 55) no ol _) f0 g0 ns9 (mv_si σ116 2 6 3) [] 1 1 s2
                        rw [a7]
                        exact hX2.fr rfl rfl rfl rfl rfl rfl rfl rfl rfl
                      have hI142 : TI (mv_si σ116 2 6 3) sz bd [] s2 a9 := hI2.up rfl (Nat.le_refl _) (Nat.le_refl _) hI2.2.2.2.2.2.2
                      have hb15 : (mv_i (mv_si σ116 2 6 3) 2 15).toInt = bl.length := by rw [i2 15 (by decide)]; exact hB2.2.1
                      have hBk : BkR (mv_a (mv_si σ116 2 6 3) 28) (mv_a (mv_si σ116 2 6 3) 29) (mv_a (mv_si σ116 2 6 3) 30) (mv_a (mv_si σ116 2 6 3) 31) g0 (mv_i (mv_si σ116 2 6 3) 13 7).toInt bl := by
                        show BkR (mv_a σ116 28) (mv_a σ116 29) (mv_a σ116 30) (mv_a σ116 31) g0 (mv_i σ116 13 7).toInt bl
                        rw [f116.2.1 28 (by decide), f116.2.1 29 (by decide), f116.2.1 30 (by decide), f116.2.1 31 (by decide), f116.1 13 7 (by decide)]
                        exact hB2.2.2.1
                      have hGl : Gl (mv_i (mv_si σ116 2 6 3) 2 7) bs bd bl.length (mv_i (mv_si σ116 2 6 3) 2 9).toInt n th (mv_i (mv_si σ116 2 6 3) 13 9).toInt := by
                        rw [i2 7 (by decide), i2 9 (by decide), show mv_i (mv_si σ116 2 6 3) 13 9 = mv_i τ 13 9 from f116.1 13 9 (by decide)]
                        exact hB2.2.2.2.2.1
                      have hGx : Gx (mv_i (mv_si σ116 2 6 3) 2 7) g0 (mv_i (mv_si σ116 2 6 3) 2 10) bl ol := by rw [i2 7 (by decide), i2 10 (by decide)]; exact hB2.2.2.2.2.2
                      have hgt2 : mv_i (mv_si σ116 2 6 3) 2 7 = 1 ∨ (0 ≤ (mv_i (mv_si σ116 2 6 3) 2 8).toInt ∧ (mv_i (mv_si σ116 2 6 3) 2 8).toInt < 32770) := by rw [i2 7 (by decide), i2 8 (by decide)]; exact hgt
                      have hn42 : mv_i (mv_si σ116 2 6 3) 2 7 = 1 ∨ mv_i (mv_si σ116 2 6 3) 2 7 = 2 ∨ mv_i (mv_si σ116 2 6 3) 2 7 = 3 → 2 * ns9 + 4 ≤ a9 := by rw [i2 7 (by decide)]; exact hn4
                      have hnc2 : no ≤ nCd (mv_a (mv_si σ116 2 6 3) 4) a9 := by show no ≤ nCd (mv_a σ116 4) a9; rw [f116.2.1 4 (by decide)]; exact hnc
                      refine mv_aload_n (pc := 141) B d_Weaver_weave_141 rfl 2 rfl ?_
                      refine mv_callVv (pc := 142) (n := 0) (ci := 1) (C := R_Weaver) B (mK_ok sk sv) hNs rfl rfl (k_Weaver_finish_b l hi _ hG142 hM142 hW142 hX142 hI142 hB2.1 hb15 hBk hB2.2.2.2.1 hGl hGx hgt2 hn2 hn42 hnc2 hZ hA142 hxu hFu) rfl (ma_goodc kc_Weaver_finish) (B.2.2.2.1 _ k_1522) (B.2.2.2.1 _ k_1524) (B.2.2.2.1 _ ks_65) (B.2.2.2.1 _ k_2) ⟨by decide +kernel, by decide +kernel, by decide +kernel⟩ rfl d_Weaver_weave_142 rfl (Nat.le_of_ble_eq_true rfl) ⟨by decide, by decide⟩ ⟨by decide, by decide⟩ ⟨by decide, by decide⟩ (mv_noH hno _) (fun σ142 h142 => ?_)
                      obtain ⟨h142, x142⟩ := h142
                      have go := j145 σ142 (by omega) ((hV.tr (WT.w (P := 48) f116.wt 6 3)).tr h142.1) h142.2.1 (h142.lq _ (by omega)) x142
                      refine mv_lpick [1, 2] rfl ?_
                      exact go
                  · skip
                    refine mv_iconst (pc := 127) (v := 2) B d_Weaver_weave_127 (by decide) ?_
                    refine mv_goto (pc := 128) (tgt := 132) B d_Weaver_weave_128 rfl ?_
                    refine mv_putI (pc := 132) (ci := 1) (C := R_Weaver) (T := F_Weaver) (N := 16) B 6 rfl rfl (by decide) i_Weaver t_Weaver_ok n_Weaver (B.2.2.2.1 _ k_236) rfl rfl rfl rfl d_Weaver_weave_132 ?_
                    refine mv_gen (fun S135 eS135 => ?_)
                    have hmm : ¬ v116 = 0 → S135 = mv_si σ116 2 6 3 := by first | exact fun _ => eS135 | exact fun q => absurd h124 q
                    have hm0 : v116 = 0 → S135 = mv_si σ116 2 6 2 := by first | exact fun _ => eS135 | exact fun q => absurd q h124
                    have go1 : ¬ v116 = 2 → mv_V p l e ({ frames := 7, cells := 0, slots := 0, locals := 176 }) s m ([.ref (al 2), .ref (al 1), .int w, .ref (al 48)] : List Value).toArray below meth c (mg dA D al ext) 6 0 0 (mv_Q (mg dA D al ext) below s 0 0 (mv_Ri (fun v σ1 => WV 48 32768 512 1 σ v σ1 ∧ XOw 48 (txT (cc σ len) len) v σ1))) S135 145 [(4, .int tt), (0, .ref (al 2))] [] := by
                      intro q2
                      have d1 := d116.resolve_left (fun q => q2 q.1)
                      by_cases q0 : v116 = 0
                      · rw [hm0 q0]
                        rw [q0] at d1
                        exact j145 (mv_si σ116 2 6 2) (by omega) (WT.w (P := 48) (hV.tr f116.wt) 6 2) m116 ⟨th, sl, no, (hW.rf f116 hP).of hP (OF.w Fr.rf 6 2), d1.2.elim Or.inl (fun q => by obtain ⟨ms2, s2, a2, q1, q2, q3⟩ := q; exact Or.inr (Or.inr ⟨a2, by omega, Or.inr (Or.inr (Or.inl ⟨rfl, WE.next hP f116 2 q2 q3 (by omega) hB2 hgt hn2 hn4 hnc⟩))⟩))⟩ (by have xx := xa116 q2; rw [q0] at xx; exact xx)
                      · rw [hmm q0]
                        rw [d1.1.resolve_left q0] at d1
                        exact j145 (mv_si σ116 2 6 3) (by omega) (WT.w (P := 48) (hV.tr f116.wt) 6 3) m116 ⟨th, sl, no, (hW.rf f116 hP).of hP (OF.w Fr.rf 6 3), d1.2.elim Or.inl (fun q => by obtain ⟨ms2, s2, a2, q1, q2, q3⟩ := q; exact Or.inr (Or.inr ⟨a2, by omega, Or.inr (Or.inr (Or.inr ⟨rfl, WE.next hP f116 3 q2 q3 (by omega) hB2 hgt hn2 hn4 hnc⟩))⟩))⟩ (by have xx := xa116 q2; rw [if_neg q0] at xx; exact xx)
                    clear eS135
                    refine mv_iload (pc := 135) B d_Weaver_weave_135 0 rfl ?_
                    refine mv_iconst (pc := 137) (v := 2) B d_Weaver_weave_137 (by decide) ?_
                    refine mv_icmp_ne (pc := 138) (tgt := 145) B d_Weaver_weave_138 rfl (fun h138 => ?_) (fun h138 => ?_)
                    · skip
                      have go := go1 h138
                      refine mv_lpick [1, 2] rfl ?_
                      exact go
                    · skip
                      have e135 := hmm (by rw [h138]; decide)
                      subst e135
                      obtain ⟨u116, hAu, hxu, hFu⟩ := xb116 h138
                      have hA142 : mv_ag (mg dA D al ext) (mv_si σ116 2 6 3) (mv_si u116 2 6 3) := hAu.si 2 6 3
                      have hG142 := hG.wt (WT.w (P := 48) f116.wt 6 3) hP
                      have hM142 : Mt (mv_a (mv_si σ116 2 6 3) 24) := m116
                      have hW142 := (hW.rf f116 hP).of hP (OF.w Fr.rf 6 3)
                      have i2 : ∀ k, k ≠ 6 → mv_i (mv_si σ116 2 6 3) 2 k = mv_i τ 2 k := fun k q => (ri_ne (by omega)).trans (f116.1 2 k (by omega))
                      have a7 : mv_a σ116 55 = mv_a τ 55 := f116.2.1 _ (by decide)
                      obtain ⟨-, s2, hX2, hI2⟩ := d116.resolve_right (fun q => by rw [h138] at q; exact absurd q.1 (by decide))
                      have hX142 : XM 48 th e0 bs (BLx th e0 f0 g0 (mv_a (mv_si σ116 2 6 3) 55) no ol (mv_i (mv_si σ116 2 6 3) 2 7 = 4 ∨ 0 ≤ (mv_i (mv_si σ116 2 6 3) 2 9).toInt)) f0 g0 ns9 (mv_si σ116 2 6 3) [] 1 1 s2 := by
                        rw [i2 7 (by decide), i2 9 (by decide)]
                        show XM 48 th e0 bs (BLx th e0 f0 g0 (mv_a σ116 55) no ol _) f0 g0 ns9 (mv_si σ116 2 6 3) [] 1 1 s2
                        rw [a7]
                        exact hX2.fr rfl rfl rfl rfl rfl rfl rfl rfl rfl
                      have hI142 : TI (mv_si σ116 2 6 3) sz bd [] s2 a9 := hI2.up rfl (Nat.le_refl _) (Nat.le_refl _) hI2.2.2.2.2.2.2
                      have hb15 : (mv_i (mv_si σ116 2 6 3) 2 15).toInt = bl.length := by rw [i2 15 (by decide)]; exact hB2.2.1
                      have hBk : BkR (mv_a (mv_si σ116 2 6 3) 28) (mv_a (mv_si σ116 2 6 3) 29) (mv_a (mv_si σ116 2 6 3) 30) (mv_a (mv_si σ116 2 6 3) 31) g0 (mv_i (mv_si σ116 2 6 3) 13 7).toInt bl := by
                        show BkR (mv_a σ116 28) (mv_a σ116 29) (mv_a σ116 30) (mv_a σ116 31) g0 (mv_i σ116 13 7).toInt bl
                        rw [f116.2.1 28 (by decide), f116.2.1 29 (by decide), f116.2.1 30 (by decide), f116.2.1 31 (by decide), f116.1 13 7 (by decide)]
                        exact hB2.2.2.1
                      have hGl : Gl (mv_i (mv_si σ116 2 6 3) 2 7) bs bd bl.length (mv_i (mv_si σ116 2 6 3) 2 9).toInt n th (mv_i (mv_si σ116 2 6 3) 13 9).toInt := by
                        rw [i2 7 (by decide), i2 9 (by decide), show mv_i (mv_si σ116 2 6 3) 13 9 = mv_i τ 13 9 from f116.1 13 9 (by decide)]
                        exact hB2.2.2.2.2.1
                      have hGx : Gx (mv_i (mv_si σ116 2 6 3) 2 7) g0 (mv_i (mv_si σ116 2 6 3) 2 10) bl ol := by rw [i2 7 (by decide), i2 10 (by decide)]; exact hB2.2.2.2.2.2
                      have hgt2 : mv_i (mv_si σ116 2 6 3) 2 7 = 1 ∨ (0 ≤ (mv_i (mv_si σ116 2 6 3) 2 8).toInt ∧ (mv_i (mv_si σ116 2 6 3) 2 8).toInt < 32770) := by rw [i2 7 (by decide), i2 8 (by decide)]; exact hgt
                      have hn42 : mv_i (mv_si σ116 2 6 3) 2 7 = 1 ∨ mv_i (mv_si σ116 2 6 3) 2 7 = 2 ∨ mv_i (mv_si σ116 2 6 3) 2 7 = 3 → 2 * ns9 + 4 ≤ a9 := by rw [i2 7 (by decide)]; exact hn4
                      have hnc2 : no ≤ nCd (mv_a (mv_si σ116 2 6 3) 4) a9 := by show no ≤ nCd (mv_a σ116 4) a9; rw [f116.2.1 4 (by decide)]; exact hnc
                      refine mv_aload_n (pc := 141) B d_Weaver_weave_141 rfl 2 rfl ?_
                      refine mv_callVv (pc := 142) (n := 0) (ci := 1) (C := R_Weaver) B (mK_ok sk sv) hNs rfl rfl (k_Weaver_finish_b l hi _ hG142 hM142 hW142 hX142 hI142 hB2.1 hb15 hBk hB2.2.2.2.1 hGl hGx hgt2 hn2 hn42 hnc2 hZ hA142 hxu hFu) rfl (ma_goodc kc_Weaver_finish) (B.2.2.2.1 _ k_1522) (B.2.2.2.1 _ k_1524) (B.2.2.2.1 _ ks_65) (B.2.2.2.1 _ k_2) ⟨by decide +kernel, by decide +kernel, by decide +kernel⟩ rfl d_Weaver_weave_142 rfl (Nat.le_of_ble_eq_true rfl) ⟨by decide, by decide⟩ ⟨by decide, by decide⟩ ⟨by decide, by decide⟩ (mv_noH hno _) (fun σ142 h142 => ?_)
                      obtain ⟨h142, x142⟩ := h142
                      have go := j145 σ142 (by omega) ((hV.tr (WT.w (P := 48) f116.wt 6 3)).tr h142.1) h142.2.1 (h142.lq _ (by omega)) x142
                      refine mv_lpick [1, 2] rfl ?_
                      exact go
                · skip
                  have hWE : WE 48 τ n sz th no a9 0 := by
                    rcases hWM with ⟨q, -⟩ | ⟨q, -⟩ | ⟨-, q⟩ | ⟨q, -⟩
                    · rw [h87] at q; exact absurd q (by decide)
                    · rw [h87] at q; exact absurd q (by decide)
                    · exact q
                    · rw [h87] at q; exact absurd q (by decide)
                  obtain ⟨e0, bs, bd, s9, ns9, f0, g0, bl, ol, ms, ⟨hX, hI⟩, hB2, hgt, hn2, hn4, hnc⟩ := hWE
                  have hbs := hB2.2.2.2.2.1.bs
                  have hB9 : SB 48 τ 1 len n z sz th sl := ⟨hG.1, hG.2.2.1, hW.1, hW.2.1⟩
                  refine mv_aload_n (pc := 90) B d_Weaver_weave_90 rfl 1 rfl ?_
                  refine mv_aload_n (pc := 91) B d_Weaver_weave_91 rfl 1 rfl ?_
                  refine mv_getR (pc := 92) (ci := 1) (C := R_Weaver) (T := F_Weaver) (N := 16) B 3 rfl rfl (by decide) i_Weaver (B.2.2.2.1 _ k_232) rfl (hR.1 _ 3 _ rfl) d_Weaver_weave_92 ?_
                  refine mv_callVi (pc := 95) (n := 0) (ci := 6) (C := R_Exprs) B (mK_ok sk sv) hNs rfl rfl (k_Exprs_operand_b l hi _ hB9 ht2 hX hI hG.2.2.2.2.1 hbs h87 hG.2.1.2.1 hE0) rfl (ma_goodc kc_Exprs_operand) (B.2.2.2.1 _ k_1410) (B.2.2.2.1 _ k_1411) (B.2.2.2.1 _ k_1412) (B.2.2.2.1 _ k_7) ⟨by decide +kernel, by decide +kernel, by decide +kernel⟩ rfl d_Weaver_weave_95 rfl (Nat.le_of_ble_eq_true rfl) ⟨by decide, by decide⟩ ⟨by decide, by decide⟩ ⟨by decide, by decide⟩ (mv_noH hno _) (fun v95 σ95 h95 => ?_)
                  obtain ⟨⟨f95, m95, v95z, d95⟩, x95⟩ := h95
                  have go := fun (mm : Int32) (hmm : (mm = 3 ∧ v95 = 1) ∨ (mm = 2 ∧ v95 = 0)) => j145 (mv_si σ95 2 6 mm) (by omega) (WT.w (P := 48) (hV.tr f95.wt) 6 mm) m95 ⟨th, sl, no, (hW.rf f95 hP).of hP (OF.w Fr.rf 6 mm), d95.elim Or.inl (fun q => by obtain ⟨ms2, s2, a2, q1, q2, q3⟩ := q; exact Or.inr (Or.inr ⟨a2, by omega, by rcases hmm with ⟨e1, e2⟩ | ⟨e1, e2⟩ <;> (subst e1; subst e2; first | exact Or.inr (Or.inr (Or.inr ⟨rfl, WE.next hP f95 3 q2 q3 (by omega) hB2 hgt hn2 hn4 hnc⟩)) | exact Or.inr (Or.inr (Or.inl ⟨rfl, WE.next hP f95 2 q2 q3 (by omega) hB2 hgt hn2 hn4 hnc⟩)))⟩))⟩ (by rcases hmm with ⟨e1, e2⟩ | ⟨e1, e2⟩ <;> (rw [e2] at x95; rw [e1]; exact x95))
                  refine mv_if_eq (pc := 98) (tgt := 105) B d_Weaver_weave_98 rfl (fun h98 => ?_) (fun h98 => ?_)
                  · skip
                    have go := go 2 (Or.inr ⟨rfl, h98⟩)
                    refine mv_iconst (pc := 105) (v := 2) B d_Weaver_weave_105 (by decide) ?_
                    refine mv_putI (pc := 106) (ci := 1) (C := R_Weaver) (T := F_Weaver) (N := 16) B 6 rfl rfl (by decide) i_Weaver t_Weaver_ok n_Weaver (B.2.2.2.1 _ k_236) rfl rfl rfl rfl d_Weaver_weave_106 ?_
                    refine mv_goto (pc := 109) (tgt := 145) B d_Weaver_weave_109 rfl ?_
                    refine mv_lpick [0, 1] rfl ?_
                    exact go
                  · skip
                    have go := go 3 (Or.inl ⟨rfl, v95z.resolve_left h98⟩)
                    refine mv_iconst (pc := 101) (v := 3) B d_Weaver_weave_101 (by decide) ?_
                    refine mv_goto (pc := 102) (tgt := 106) B d_Weaver_weave_102 rfl ?_
                    refine mv_putI (pc := 106) (ci := 1) (C := R_Weaver) (T := F_Weaver) (N := 16) B 6 rfl rfl (by decide) i_Weaver t_Weaver_ok n_Weaver (B.2.2.2.1 _ k_236) rfl rfl rfl rfl d_Weaver_weave_106 ?_
                    refine mv_goto (pc := 109) (tgt := 145) B d_Weaver_weave_109 rfl ?_
                    refine mv_lpick [0, 1] rfl ?_
                    exact go
              · skip
                obtain ⟨s9, ns9, bl9, hne, hS0⟩ : ∃ s ns bl, ¬ bl = [] ∧ WS 48 τ sz th s a9 ns no bl := by
                  rcases hWM with ⟨q, -⟩ | ⟨-, q⟩ | ⟨q, -⟩ | ⟨q, -⟩
                  · rw [h72] at q; exact absurd q (by decide)
                  · exact q
                  · rw [h72] at q; exact absurd q (by decide)
                  · rw [h72] at q; exact absurd q (by decide)
                refine mv_aload_n (pc := 75) B d_Weaver_weave_75 rfl 1 rfl ?_
                refine mv_callVv (pc := 76) (n := 0) (ci := 1) (C := R_Weaver) B (mK_ok sk sv) hNs rfl rfl (k_Weaver_statement_b l hi _ hG hMt hW hS0 hne h72 hZ hE0) rfl (ma_goodc kc_Weaver_statement) (B.2.2.2.1 _ k_1363) (B.2.2.2.1 _ k_1365) (B.2.2.2.1 _ ks_42) (B.2.2.2.1 _ k_2) ⟨by decide +kernel, by decide +kernel, by decide +kernel⟩ rfl d_Weaver_weave_76 rfl (Nat.le_of_ble_eq_true rfl) ⟨by decide, by decide⟩ ⟨by decide, by decide⟩ ⟨by decide, by decide⟩ (mv_noH hno _) (fun σ76 h76 => ?_)
                obtain ⟨h76, x76⟩ := h76
                have go := j145 σ76 (by omega) (hV.tr h76.1) h76.2.1 (h76.lq _ (by omega)) x76
                refine mv_goto (pc := 79) (tgt := 145) B d_Weaver_weave_79 rfl ?_
                refine mv_lpick [0, 1] rfl ?_
                exact go
            · skip
              obtain ⟨s9, ns9, hS0⟩ : ∃ s ns, WS 48 τ sz th s a9 ns no [] := by
                rcases hWM with ⟨-, q⟩ | ⟨q, -⟩ | ⟨q, -⟩ | ⟨q, -⟩
                · exact q
                · rw [h57] at q; exact absurd q (by decide)
                · rw [h57] at q; exact absurd q (by decide)
                · rw [h57] at q; exact absurd q (by decide)
              refine mv_aload_n (pc := 60) B d_Weaver_weave_60 rfl 1 rfl ?_
              refine mv_callVv (pc := 61) (n := 0) (ci := 1) (C := R_Weaver) B (mK_ok sk sv) hNs rfl rfl (k_Weaver_item_b l hi _ hG hMt hW hS0 h57 hZ hE0) rfl (ma_goodc kc_Weaver_item) (B.2.2.2.1 _ k_1295) (B.2.2.2.1 _ k_1297) (B.2.2.2.1 _ ks_33) (B.2.2.2.1 _ k_2) ⟨by decide +kernel, by decide +kernel, by decide +kernel⟩ rfl d_Weaver_weave_61 rfl (Nat.le_of_ble_eq_true rfl) ⟨by decide, by decide⟩ ⟨by decide, by decide⟩ ⟨by decide, by decide⟩ (mv_noH hno _) (fun σ61 h61 => ?_)
              obtain ⟨h61, x61⟩ := h61
              have go := j145 σ61 (by omega) (by rcases h61 with q | q; exact hV.tr q.1; rw [q]; exact hV.w 6 4) (by rcases h61 with q | q; exact q.2.1; rw [q]; exact hMt) (by rcases h61 with q | q; exact q.lq _ (by omega); rw [q]; exact ⟨th, sl, no, hW.of hP (OF.w Fr.rf 6 4), Or.inr (Or.inl ⟨rfl, s9, a9, ns9, hS0.fr hP rfl rfl rfl rfl rfl rfl rfl rfl rfl rfl rfl rfl (fun q => q)⟩)⟩) x61
              refine mv_goto (pc := 64) (tgt := 145) B d_Weaver_weave_64 rfl ?_
              refine mv_lpick [0, 1] rfl ?_
              exact go
  refine mv_aload_n (pc := 0) B d_Weaver_weave_0 rfl 0 rfl ?_
  refine mv_aload_n (pc := 1) B d_Weaver_weave_1 rfl 3 rfl ?_
  refine mv_callVv (pc := 2) (n := 1) (ci := 1) (C := R_Weaver) B (mK_ok sk sv) hNs rfl rfl (c_Weaver_begin_b l hi _ hm hq) rfl (ma_goodc kc_Weaver_begin) (B.2.2.2.1 _ k_780) (B.2.2.2.1 _ k_782) (B.2.2.2.1 _ ks_16) (B.2.2.2.1 _ k_2) ⟨by decide +kernel, by decide +kernel, by decide +kernel⟩ rfl d_Weaver_weave_2 rfl (Nat.le_of_ble_eq_true rfl) ⟨by decide, by decide⟩ ⟨by decide, by decide⟩ ⟨by decide, by decide⟩ (mv_noH hno _) (fun σ2 h2 => ?_)
  obtain ⟨e2, hR⟩ := h2
  subst e2
  have hR0 := hR
  have ett : mv_a (w_beg 48 σ) 1 = mv_a σ 1 := rfl
  refine mv_aload_n (pc := 5) B d_Weaver_weave_5 rfl 0 rfl ?_
  refine mv_getR (pc := 6) (ci := 1) (C := R_Weaver) (T := F_Weaver) (N := 16) B 0 rfl rfl (by decide) i_Weaver (B.2.2.2.1 _ k_228) rfl (hR.1 _ 0 _ rfl) d_Weaver_weave_6 ?_
  refine mv_aload_n (pc := 9) B d_Weaver_weave_9 rfl 1 rfl ?_
  refine mv_iload_n (pc := 10) B d_Weaver_weave_10 rfl 2 rfl ?_
  refine mv_callVv (pc := 11) (n := 2) (ci := 2) (C := R_Tokens) B (mK_ok sk sv) hNs rfl rfl (k_Tokens_cut l hi _ len _ hR.1 hw hl1 (by rw [ett]; exact hby8) hk0 hp0 hb0 hbyt) rfl (ma_goodc kc_Tokens_cut) (B.2.2.2.1 _ k_789) (B.2.2.2.1 _ k_790) (B.2.2.2.1 _ k_791) (B.2.2.2.1 _ k_3) ⟨by decide +kernel, by decide +kernel, by decide +kernel⟩ rfl d_Weaver_weave_11 rfl (Nat.le_of_ble_eq_true rfl) ⟨by decide, by decide⟩ ⟨by decide, by decide⟩ ⟨by decide, by decide⟩ (mv_noH hno _) (fun σ11 h11 => ?_)
  obtain ⟨⟨g11, x11, t11, k11, i117, i118, i119⟩, u11, J22, L22, K22, hA11, r11⟩ := h11
  obtain ⟨n, z, sz, hSy, hTk, hs2, hs3, hs4, hs5, hs6⟩ := k11
  have hR : Rw 48 (mv_r σ11) := by rw [g11.2.2.2.2]; exact ⟨mh_sr hR.1 rfl, Ph_sr hP hR.2.1 (by omega), hR.2.2.1, hR.2.2.2⟩
  have i13 : ∀ k, mv_i σ11 13 k = mv_i σ 13 k := fun k => (g11.1 13 k (by omega)).trans (by show mv_i (w_beg 48 σ) 13 k = mv_i σ 13 k; rfl)
  have a19 : mv_a σ11 19 = mv_a σ 19 := g11.2.1 19 (by decide)
  have hNs11 : Ns σ11 := by unfold Ns; rw [i13, a19]; exact hNs0
  have iP : ∀ k, mv_i σ11 48 k = mv_i (w_beg 48 σ) 48 k := fun k => g11.1 48 k (by omega)
  have i2 : ∀ k, mv_i σ11 2 k = mv_i (w_beg 48 σ) 2 k := fun k => g11.1 2 k (by omega)
  have hl10n : len ≤ 10240 := hl10
  have hg11 := hA11.f48
  have esz : sz = J22 + 2 := by
    have e1 := hTk.1
    rw [← hg11.i3 6 (by decide) (by decide), K22.i6, nIi (by have := K22.jn; omega)] at e1
    omega
  have enn : n = L22.length := by
    have e1 := hSy.1
    rw [hA11.i (o := 7) (k := 5) rfl (Nat.le_of_ble_eq_true rfl) rfl, K22.sym.sz, nIi (by have := K22.len; omega)] at e1
    omega
  have hp11 : ∀ i, i ≤ J22 → 0 ≤ (mv_a u11 5 (i + 1)).toInt := fun i hi => by
    have hjn := K22.jn
    rw [← hA11.a (o := 5) (n := 32770) (k := i + 1) rfl (by decide) (by omega)]
    exact (hTk.2.2.2.2 (i + 1) (by omega)).2.2
  have hz11 : mv_b u11 6 0 = 0 := by
    rw [← hA11.b (o := 6) (n := 32770) (k := 0) rfl (by decide)]
    exact hTk.2.2.2.1
  obtain ⟨k7, k71, k72⟩ := nI_ex hNs0.1
  obtain ⟨g18, g22, sy22, e11, e18, T22, S22, sy22n, q22⟩ := stt_R (P := 48) (by decide) K22 hbyt hl10n hp11 hz11 rfl rfl rfl rfl rfl rfl rfl rfl rfl rfl (k := k7) (by have := hNs0.2.1; omega) (fun i => (mv_a σ 19 i).toInt.toNat) k71 (fun i hi => by
    obtain ⟨y1, y2⟩ := hNs0.2.2 i (by rw [k71, cln (by have := hNs0.2.1; omega)]; exact hi)
    exact ⟨nI_o2 (show (mv_a σ 19 i).toInt = ((mv_a σ 19 i).toInt.toNat : Int) by omega), by show (mv_a σ 19 i).toInt.toNat < 16448; omega⟩)
  have hx11p : xRP 48 (mv_r u11) := by
    rw [r11]
    exact ⟨⟨mh_sr hR0.1 rfl, Ph_sr hP hR0.2.1 (by omega), hR0.2.2.1, hR0.2.2.2⟩, rfl⟩
  have hx11 : xRT (mv_r u11) := ⟨hx11p.1.1, hx11p.2⟩
  have hZ22 : Zst (txT (cc σ len) len) J22 sy22 n sz := ⟨by have z9 := tkJ K22 (show byt (w_beg 48 σ) from hbyt) (by omega); exact z9, fun i h1 h2 => by rw [enn]; exact sy22n i h1 h2, hSy.2.1, esz, hs3⟩
  refine mv_aload_n (pc := 14) B d_Weaver_weave_14 rfl 0 rfl ?_
  refine mv_getR (pc := 15) (ci := 1) (C := R_Weaver) (T := F_Weaver) (N := 16) B 1 rfl rfl (by decide) i_Weaver (B.2.2.2.1 _ k_229) rfl (hR.1 _ 1 _ rfl) d_Weaver_weave_15 ?_
  refine mv_callVv (pc := 18) (n := 0) (ci := 4) (C := R_Names) B (mK_ok sk sv) hNs rfl rfl (k_Names_clear l hi _ hR.1 n z hSy hNs11 hA11 hx11 e11) rfl (ma_goodc kc_Names_clear) (B.2.2.2.1 _ k_944) (B.2.2.2.1 _ k_945) (B.2.2.2.1 _ k_946) (B.2.2.2.1 _ k_5) ⟨by decide +kernel, by decide +kernel, by decide +kernel⟩ rfl d_Weaver_weave_18 rfl (Nat.le_of_ble_eq_true rfl) ⟨by decide, by decide⟩ ⟨by decide, by decide⟩ ⟨by decide, by decide⟩ (mv_noH hno _) (fun σ18 h18 => ?_)
  obtain ⟨⟨f18, n18, i187, i189⟩, hA18, r18⟩ := h18
  have hx18 : xRP 48 (mv_r g18) := by rw [r18]; exact hx11p
  have hR : Rw 48 (mv_r σ18) := by rw [f18.2.2.2.2]; exact hR
  have v18 : WT 48 σ11 σ18 := f18.up (fun o k q => by omega) (fun o q => by omega) (fun o q => by omega)
  have hG11 : WG 48 32768 512 ext σ11 1 32768 len n z sz := ⟨by rw [← f18.2.2.2.2]; exact hR, x11, ⟨hSy, hTk, hs2, hs3, hs4, hs5⟩, hM9.elim Or.inl (fun q => Or.inr (by have : qc (mv_a σ11 1) len = qc (mv_a σ 1) len := by { rw [t11]; rfl }; omega)), hlR, hl10⟩
  have hG18 := hG11.wt v18 hP
  have hF18 : VG 48 (w_base 48 1 σ) σ18 := ((VG.beg 48 1 σ).tr (g11.up (fun o k q => by omega) (fun o q => by omega) (fun o q => by omega))).tr v18.vg
  have hM18 : Mt (mv_a σ18 24) := by rw [f18.2.1 24 (by decide), g11.2.1 24 (by decide)]; exact hMt0
  have jP : ∀ k, mv_i σ18 48 k = mv_i (w_beg 48 σ) 48 k := fun k => (f18.1 48 k (by omega)).trans (iP k)
  have j2 : ∀ k, mv_i σ18 2 k = mv_i (w_beg 48 σ) 2 k := fun k => (f18.1 2 k (by omega)).trans (i2 k)
  have hW18 : WN 48 512 σ18 n 0 0 0 := ⟨fun y hy => by rw [n18 y hy]; exact ⟨fun q => absurd q (by decide), fun q => absurd q (by decide)⟩, ⟨by rw [jP]; rfl, by omega, by rw [jP]; rfl, by omega, by rw [jP]; show (0 : Int) ≤ (8 : Int32).toInt; decide, by rw [jP]; show (8 : Int32).toInt ≤ 64; decide, fun q hq => absurd hq (by omega), Or.inl ⟨by rw [jP]; show (-1 : Int32).toInt < 0; decide, by rw [jP]; show (-1 : Int32).toInt < 0; decide⟩⟩, ⟨by rw [i187]; decide, by rw [i187]; decide, fun i hi => by rw [i187] at hi; exact absurd hi (by show ¬ i < 0; omega)⟩, ⟨by rw [i187, i189]; decide, by rw [i189]; decide⟩, ⟨0, by rw [jP]; rfl, by omega, by omega⟩, by rw [jP]; rfl, by omega⟩
  have hK18 : KX 48 σ18 0 0 0 0 [] [] 0 True := ⟨⟨by rw [j2]; rfl, trivial, fun b hb => absurd hb List.not_mem_nil⟩, by rw [jP]; rfl, rfl, fun _ => ⟨trivial, fun _ => 0, fun _ => Nat.zero_le _, rfl, fun a q => absurd q (by omega), fun b hb => absurd hb List.not_mem_nil, fun j q => absurd q (by omega)⟩⟩
  have hm18 : mv_i σ18 2 6 = 0 := by rw [j2]; rfl
  have ht18 : (mv_i σ18 3 7).toInt = 1 := by rw [f18.1 3 7 (by decide), i117]; rfl
  have hd18 : (mv_i σ18 3 8).toInt = 0 := by rw [f18.1 3 8 (by decide), i118]; rfl
  refine mv_aload_n (pc := 21) B d_Weaver_weave_21 rfl 0 rfl ?_
  refine mv_callVv (pc := 22) (n := 0) (ci := 1) (C := R_Weaver) B (mK_ok sk sv) hNs rfl rfl (k_Weaver_readBits_b l hi _ hG18 hM18 hW18 rfl hK18 hm18 ht18 hd18 hA18 hx18 e18) rfl (ma_goodc kc_Weaver_readBits) (B.2.2.2.1 _ k_1262) (B.2.2.2.1 _ k_1264) (B.2.2.2.1 _ ks_31) (B.2.2.2.1 _ k_2) ⟨by decide +kernel, by decide +kernel, by decide +kernel⟩ rfl d_Weaver_weave_22 rfl (Nat.le_of_ble_eq_true rfl) ⟨by decide, by decide⟩ ⟨by decide, by decide⟩ ⟨by decide, by decide⟩ (mv_noH hno _) (fun σ22 h22 => ?_)
  obtain ⟨h22, hA22, r22⟩ := h22
  have hx22 : xRP 48 (mv_r g22) := by rw [r22]; exact hx18
  have hE22 := EXG.st (P := 48) hZ22.hJ hA11 hA22 hx22 T22 S22 (fun o ho => by rw [h22.1.2.1 o (by omega), f18.2.1 o (by omega)]) (by rw [h22.1.2.2.1 6 (by omega), f18.2.2.1 6 (by omega)]) q22
  refine mv_iconst (pc := 25) (v := 0) B d_Weaver_weave_25 (by decide) ?_
  refine mv_istore (pc := 26) B d_Weaver_weave_26 (by decide) rfl ?_
  refine mv_lpick [0, 1] rfl ?_
  exact lp _ σ18 n z sz J22 sy22 σ22 0 hG18 hF18 hZ22 h22.1 h22.2.1 (by decide) (by decide) (h22.lq _ (by decide)) hE22 (Nat.lt_succ_self _)
