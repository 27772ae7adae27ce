/-! exact runs: Shipped -/
def gF_Shipped_put_2 (a0 : Nat) (k2 : Nat → xE → Option xE) (x2 : Nat) (h : xE) : Option xE := xfz x2 fun x2 => bif xlt x2 (xsl a0) then (xer (ep_g h.1 19) fun v1 => bif xlt v1 8192 then (xer (ep_g h.1 19) fun v2 => bif Nat.blt x2 (xsl a0) then bif Nat.blt v2 8192 then xw xL_144 xS_144 h v2 (xi2b (xi2b (xsc a0 x2))) fun h5 => xer (ep_g h5.1 19) fun v6 => xwi h5 19 (xadd v6 1) fun h7 => k2 (xadd x2 1) h7 else none else none) else (some h)) else (some h)
def g_Shipped_put_2 (a0 : Nat) : Nat → Nat → xE → Option xE
  | 0 => fun _ _ => none
  | nn + 1 => gF_Shipped_put_2 a0 (g_Shipped_put_2 a0 nn)
def g_Shipped_put (h : xE) (a0 : Nat) : Option xE := g_Shipped_put_2 a0 200000 0 h
set_option maxHeartbeats 4000000 in
set_option maxRecDepth 100000 in
theorem cx_Shipped_put (l : Launch) {dA : FieldType → ClassId} {D : va_G} {al : Nat → Nat} {sk sv : Nat → Nat} (hi : mv_inj (mg dA D al me2)) (b : mv_H) (hb : mv_r b 143 0 = some 144) (h : xE) (a0 : Nat) (ha0 : a0 < st_t.length) {rg : xE} (hf : g_Shipped_put h a0 = some rg) : mv_C l y_Shipped_put (Cond.code y_Shipped_put b_Shipped_put 3 (Option.none : Option Jvm.ClassFile.FieldType) :: ma) ({ frames := 4, cells := 0, slots := 0, locals := 85 }) (mg dA D al me2) (mK sk sv) [.ref (al 143), .ref (sk a0)] (ab b h) (mv_Rv (fun σ1 => σ1 = ab b rg)) := by
  refine mv_C.ofV (cc := b_Shipped_put) (nL := 3) (ret := (Option.none : Option Jvm.ClassFile.FieldType)) (by decide +kernel) rfl hi (Nat.le_of_ble_eq_true rfl) ?_
  intro p e s m below meth c B hNs hr hnm hno
  have lp2 : ∀ (nn2 : Nat) (x2 : Nat) (h : xE), g_Shipped_put_2 a0 nn2 x2 h = some rg → mv_V p l e ({ frames := 4, cells := 0, slots := 0, locals := 85 }) s m ([.ref (al 143), .ref (sk a0)] : List Value).toArray below meth c (mg dA D al me2) 3 0 0 (mv_Q (mg dA D al me2) below s 0 0 (mv_Rv (fun σ1 => σ1 = ab b rg))) (ab b h) 2 [(0, .ref (al 143)), (1, .ref (sk a0)), (2, .int (nI x2))] [] := by
    intro nn2
    induction nn2 with
    | zero => intro x2 h hf; cases hf
    | succ nn2 ih2 =>
      intro x2 h hf
      have hf : gF_Shipped_put_2 a0 (g_Shipped_put_2 a0 nn2) x2 h = some rg := hf
      unfold gF_Shipped_put_2 at hf
      have hf := (xfz_e _ _).symm.trans hf
      refine mv_iload_n (pc := 2) B d_Shipped_put_2 rfl 2 rfl ?_
      refine mv_aload_n (pc := 3) B d_Shipped_put_3 rfl 1 rfl ?_
      refine mv_callVOi (pc := 4) (n := 0) B (mK_ok sk sv) hNs (hNs.2.1 a0 ha0).2.1 (cx_String_length l hi _ a0 ha0) rfl (ma_goodc kc_String_length) (B.2.2.2.1 _ k_545) (B.2.2.2.1 _ k_546) (B.2.2.2.1 _ k_547) (B.2.2.2.1 _ k_21) ⟨by decide +kernel, by decide +kernel, by decide +kernel⟩ rfl d_Shipped_put_4 rfl (Nat.le_of_ble_eq_true rfl) ⟨by decide, by decide⟩ ⟨by decide, by decide⟩ ⟨by decide, by decide⟩ (mv_noH hno _) (fun v4_ σ4 h4 => ?_)
      obtain ⟨rfl, rfl⟩ := h4
      refine mv_icmp_ge (pc := 7) (tgt := 51) B d_Shipped_put_7 rfl (fun h7 => ?_) (fun h7 => ?_)
      · skip
        have hf := x_le_t h7 hf
        exact mv_vret (pc := 51) B hr d_Shipped_put_51 (Nat.le_refl _) (Nat.le_refl _) ⟨rfl, xret_v hf⟩
      · skip
        have hf := x_le_f h7 hf
        refine mv_aload_n (pc := 10) B d_Shipped_put_10 rfl 0 rfl ?_
        refine mv_getI (pc := 11) (ci := 10) (C := R_Shipped) (T := F_Shipped) (N := 2) B 1 rfl rfl (by decide) i_Shipped (B.2.2.2.1 _ k_530) rfl d_Shipped_put_11 ?_
        obtain ⟨v1, ev1, hf⟩ := xer_e hf
        refine mvn_top (xfi_143_1 ev1) ?_
        refine mv_sipush (pc := 14) (v := nI 8192) B d_Shipped_put_14 (by decide) ?_
        refine mv_icmp_ge (pc := 17) (tgt := 51) B d_Shipped_put_17 rfl (fun h17 => ?_) (fun h17 => ?_)
        · skip
          have hf := x_le_t h17 hf
          exact mv_vret (pc := 51) B hr d_Shipped_put_51 (Nat.le_refl _) (Nat.le_refl _) ⟨rfl, xret_v hf⟩
        · skip
          have hf := x_le_f h17 hf
          refine mv_aload_n (pc := 20) B d_Shipped_put_20 rfl 0 rfl ?_
          refine mv_getR (pc := 21) (ci := 10) (C := R_Shipped) (T := F_Shipped) (N := 2) B 0 rfl rfl (by decide) i_Shipped (B.2.2.2.1 _ k_527) rfl hb d_Shipped_put_21 ?_
          refine mv_aload_n (pc := 24) B d_Shipped_put_24 rfl 0 rfl ?_
          refine mv_getI (pc := 25) (ci := 10) (C := R_Shipped) (T := F_Shipped) (N := 2) B 1 rfl rfl (by decide) i_Shipped (B.2.2.2.1 _ k_530) rfl d_Shipped_put_25 ?_
          obtain ⟨v2, ev2, hf⟩ := xer_e hf
          refine mvn_top (xfi_143_1 ev2) ?_
          refine mv_aload_n (pc := 28) B d_Shipped_put_28 rfl 1 rfl ?_
          refine mv_iload_n (pc := 29) B d_Shipped_put_29 rfl 2 rfl ?_
          obtain ⟨q3, hf⟩ := xix_e hf
          refine mv_callVOi (pc := 30) (n := 1) B (mK_ok sk sv) hNs (hNs.2.1 a0 ha0).2.1 (cx_String_charAt l hi _ a0 ha0 q3) rfl (ma_goodc kc_String_charAt) (B.2.2.2.1 _ k_555) (B.2.2.2.1 _ k_556) (B.2.2.2.1 _ k_557) (B.2.2.2.1 _ k_21) ⟨by decide +kernel, by decide +kernel, by decide +kernel⟩ rfl d_Shipped_put_30 rfl (Nat.le_of_ble_eq_true rfl) ⟨by decide, by decide⟩ ⟨by decide, by decide⟩ ⟨by decide, by decide⟩ (mv_noH hno _) (fun v30_ σ30 h30 => ?_)
          obtain ⟨rfl, rfl⟩ := h30
          refine mvn_i2b (pc := 33) B d_Shipped_put_33 ?_
          obtain ⟨q4, hf⟩ := xix_e hf
          refine mv_bast (pc := 34) B rfl (xin q4 (by decide)) d_Shipped_put_34 ?_
          rw [xnb]
          refine mvn_hp (xwa_144 _ _ _ q4) (xw_f xLe_144 xSe_144 hf) (fun h5 hf => ?_)
          refine mv_aload_n (pc := 35) B d_Shipped_put_35 rfl 0 rfl ?_
          refine mv_dup (pc := 36) B d_Shipped_put_36 rfl ?_
          refine mv_getI (pc := 37) (ci := 10) (C := R_Shipped) (T := F_Shipped) (N := 2) B 1 rfl rfl (by decide) i_Shipped (B.2.2.2.1 _ k_530) rfl d_Shipped_put_37 ?_
          obtain ⟨v6, ev6, hf⟩ := xer_e hf
          refine mvn_top (xfi_143_1 ev6) ?_
          refine mv_iconst (pc := 40) (v := nI 1) B d_Shipped_put_40 (by decide) ?_
          refine mvn_iadd (pc := 41) B d_Shipped_put_41 ?_
          refine mv_putI (pc := 42) (ci := 10) (C := R_Shipped) (T := F_Shipped) (N := 2) B 1 rfl rfl (by decide) i_Shipped t_Shipped_ok n_Shipped (B.2.2.2.1 _ k_530) rfl rfl rfl rfl d_Shipped_put_42 ?_
          refine mvn_hp (xwi_143_1 _ _ _) (xwi_f hf) (fun h7 hf => ?_)
          refine mvn_iinc (pc := 45) (j := 2) (v := 1) B d_Shipped_put_45 rfl (by decide) (by decide) rfl ?_
          refine mv_goto (pc := 48) (tgt := 2) B d_Shipped_put_48 rfl ?_
          refine mv_lpick [1, 2, 0] rfl ?_
          exact ih2 _ _ hf
  unfold g_Shipped_put at hf
  refine mv_iconst (pc := 0) (v := nI 0) B d_Shipped_put_0 (by decide) ?_
  refine mv_istore_n (pc := 1) B d_Shipped_put_1 rfl (by decide) rfl ?_
  refine mv_lpick [1, 2, 0] rfl ?_
  exact lp2 _ _ _ hf
def g_Shipped_head (h : xE) (a0 : Nat) (a1 : Nat) (a2 : Nat) (a3 : Nat) : Option xE := xev (g_Shipped_put h 5) fun h1 => xev (g_Shipped_put h1 a0) fun h2 => xev (g_Shipped_put h2 157) fun h3 => xev (g_Shipped_put h3 a1) fun h4 => xev (g_Shipped_put h4 a2) fun h5 => xev (g_Shipped_put h5 a3) fun h6 => xev (g_Shipped_put h6 158) fun h7 => some h7
set_option maxHeartbeats 4000000 in
set_option maxRecDepth 100000 in
theorem cx_Shipped_head (l : Launch) {dA : FieldType → ClassId} {D : va_G} {al : Nat → Nat} {sk sv : Nat → Nat} (hi : mv_inj (mg dA D al me2)) (b : mv_H) (hb : mv_r b 143 0 = some 144) (h : xE) (a0 : Nat) (a1 : Nat) (a2 : Nat) (a3 : Nat) (ha0 : a0 < st_t.length) (ha1 : a1 < st_t.length) (ha2 : a2 < st_t.length) (ha3 : a3 < st_t.length) {rg : xE} (hf : g_Shipped_head h a0 a1 a2 a3 = some rg) : mv_C l y_Shipped_head (Cond.code y_Shipped_head b_Shipped_head 5 (Option.none : Option Jvm.ClassFile.FieldType) :: ma) ({ frames := 5, cells := 0, slots := 0, locals := 107 }) (mg dA D al me2) (mK sk sv) [.ref (al 143), .ref (sk a0), .ref (sk a1), .ref (sk a2), .ref (sk a3)] (ab b h) (mv_Rv (fun σ1 => σ1 = ab b rg)) := by
  refine mv_C.ofV (cc := b_Shipped_head) (nL := 5) (ret := (Option.none : Option Jvm.ClassFile.FieldType)) (by decide +kernel) rfl hi (Nat.le_of_ble_eq_true rfl) ?_
  intro p e s m below meth c B hNs hr hnm hno
  unfold g_Shipped_head at hf
  refine mv_aload_n (pc := 0) B d_Shipped_head_0 rfl 0 rfl ?_
  refine mv_ldcwS (pc := 1) B (hNs.2.1 5 (by decide)).1 d_Shipped_head_1 ?_
  obtain ⟨h1, eh1, hf⟩ := xev_e hf
  refine mv_callVv (pc := 4) (n := 1) (ci := 10) (C := R_Shipped) B (mK_ok sk sv) hNs rfl rfl (cx_Shipped_put l hi _ hb _ _ (by decide) eh1) rfl (ma_goodc kc_Shipped_put) (B.2.2.2.1 _ k_541) (B.2.2.2.1 _ k_543) (B.2.2.2.1 _ ks_3) (B.2.2.2.1 _ k_35) ⟨by decide +kernel, by decide +kernel, by decide +kernel⟩ rfl d_Shipped_head_4 rfl (Nat.le_of_ble_eq_true rfl) ⟨by decide, by decide⟩ ⟨by decide, by decide⟩ ⟨by decide, by decide⟩ (mv_noH hno _) (fun σ4 h4 => ?_)
  subst h4
  refine mv_aload_n (pc := 7) B d_Shipped_head_7 rfl 0 rfl ?_
  refine mv_aload_n (pc := 8) B d_Shipped_head_8 rfl 1 rfl ?_
  obtain ⟨h2, eh2, hf⟩ := xev_e hf
  refine mv_callVv (pc := 9) (n := 1) (ci := 10) (C := R_Shipped) B (mK_ok sk sv) hNs rfl rfl (cx_Shipped_put l hi _ hb _ _ ha0 eh2) rfl (ma_goodc kc_Shipped_put) (B.2.2.2.1 _ k_541) (B.2.2.2.1 _ k_543) (B.2.2.2.1 _ ks_3) (B.2.2.2.1 _ k_35) ⟨by decide +kernel, by decide +kernel, by decide +kernel⟩ rfl d_Shipped_head_9 rfl (Nat.le_of_ble_eq_true rfl) ⟨by decide, by decide⟩ ⟨by decide, by decide⟩ ⟨by decide, by decide⟩ (mv_noH hno _) (fun σ9 h9 => ?_)
  subst h9
  refine mv_aload_n (pc := 12) B d_Shipped_head_12 rfl 0 rfl ?_
  refine mv_ldcwS (pc := 13) B (hNs.2.1 157 (by decide)).1 d_Shipped_head_13 ?_
  obtain ⟨h3, eh3, hf⟩ := xev_e hf
  refine mv_callVv (pc := 16) (n := 1) (ci := 10) (C := R_Shipped) B (mK_ok sk sv) hNs rfl rfl (cx_Shipped_put l hi _ hb _ _ (by decide) eh3) rfl (ma_goodc kc_Shipped_put) (B.2.2.2.1 _ k_541) (B.2.2.2.1 _ k_543) (B.2.2.2.1 _ ks_3) (B.2.2.2.1 _ k_35) ⟨by decide +kernel, by decide +kernel, by decide +kernel⟩ rfl d_Shipped_head_16 rfl (Nat.le_of_ble_eq_true rfl) ⟨by decide, by decide⟩ ⟨by decide, by decide⟩ ⟨by decide, by decide⟩ (mv_noH hno _) (fun σ16 h16 => ?_)
  subst h16
  refine mv_aload_n (pc := 19) B d_Shipped_head_19 rfl 0 rfl ?_
  refine mv_aload_n (pc := 20) B d_Shipped_head_20 rfl 2 rfl ?_
  obtain ⟨h4, eh4, hf⟩ := xev_e hf
  refine mv_callVv (pc := 21) (n := 1) (ci := 10) (C := R_Shipped) B (mK_ok sk sv) hNs rfl rfl (cx_Shipped_put l hi _ hb _ _ ha1 eh4) rfl (ma_goodc kc_Shipped_put) (B.2.2.2.1 _ k_541) (B.2.2.2.1 _ k_543) (B.2.2.2.1 _ ks_3) (B.2.2.2.1 _ k_35) ⟨by decide +kernel, by decide +kernel, by decide +kernel⟩ rfl d_Shipped_head_21 rfl (Nat.le_of_ble_eq_true rfl) ⟨by decide, by decide⟩ ⟨by decide, by decide⟩ ⟨by decide, by decide⟩ (mv_noH hno _) (fun σ21 h21 => ?_)
  subst h21
  refine mv_aload_n (pc := 24) B d_Shipped_head_24 rfl 0 rfl ?_
  refine mv_aload_n (pc := 25) B d_Shipped_head_25 rfl 3 rfl ?_
  obtain ⟨h5, eh5, hf⟩ := xev_e hf
  refine mv_callVv (pc := 26) (n := 1) (ci := 10) (C := R_Shipped) B (mK_ok sk sv) hNs rfl rfl (cx_Shipped_put l hi _ hb _ _ ha2 eh5) rfl (ma_goodc kc_Shipped_put) (B.2.2.2.1 _ k_541) (B.2.2.2.1 _ k_543) (B.2.2.2.1 _ ks_3) (B.2.2.2.1 _ k_35) ⟨by decide +kernel, by decide +kernel, by decide +kernel⟩ rfl d_Shipped_head_26 rfl (Nat.le_of_ble_eq_true rfl) ⟨by decide, by decide⟩ ⟨by decide, by decide⟩ ⟨by decide, by decide⟩ (mv_noH hno _) (fun σ26 h26 => ?_)
  subst h26
  refine mv_aload_n (pc := 29) B d_Shipped_head_29 rfl 0 rfl ?_
  refine mv_aload (pc := 30) B d_Shipped_head_30 4 rfl ?_
  obtain ⟨h6, eh6, hf⟩ := xev_e hf
  refine mv_callVv (pc := 32) (n := 1) (ci := 10) (C := R_Shipped) B (mK_ok sk sv) hNs rfl rfl (cx_Shipped_put l hi _ hb _ _ ha3 eh6) rfl (ma_goodc kc_Shipped_put) (B.2.2.2.1 _ k_541) (B.2.2.2.1 _ k_543) (B.2.2.2.1 _ ks_3) (B.2.2.2.1 _ k_35) ⟨by decide +kernel, by decide +kernel, by decide +kernel⟩ rfl d_Shipped_head_32 rfl (Nat.le_of_ble_eq_true rfl) ⟨by decide, by decide⟩ ⟨by decide, by decide⟩ ⟨by decide, by decide⟩ (mv_noH hno _) (fun σ32 h32 => ?_)
  subst h32
  refine mv_aload_n (pc := 35) B d_Shipped_head_35 rfl 0 rfl ?_
  refine mv_ldcwS (pc := 36) B (hNs.2.1 158 (by decide)).1 d_Shipped_head_36 ?_
  obtain ⟨h7, eh7, hf⟩ := xev_e hf
  refine mv_callVv (pc := 39) (n := 1) (ci := 10) (C := R_Shipped) B (mK_ok sk sv) hNs rfl rfl (cx_Shipped_put l hi _ hb _ _ (by decide) eh7) rfl (ma_goodc kc_Shipped_put) (B.2.2.2.1 _ k_541) (B.2.2.2.1 _ k_543) (B.2.2.2.1 _ ks_3) (B.2.2.2.1 _ k_35) ⟨by decide +kernel, by decide +kernel, by decide +kernel⟩ rfl d_Shipped_head_39 rfl (Nat.le_of_ble_eq_true rfl) ⟨by decide, by decide⟩ ⟨by decide, by decide⟩ ⟨by decide, by decide⟩ (mv_noH hno _) (fun σ39 h39 => ?_)
  subst h39
  exact mv_vret (pc := 42) B hr d_Shipped_head_42 (Nat.le_refl _) (Nat.le_refl _) ⟨rfl, xret_v hf⟩
def g_Shipped_result (h : xE) (a0 : Nat) : Option xE := xev (g_Shipped_put h 64) fun h1 => xev (g_Shipped_put h1 a0) fun h2 => xev (g_Shipped_put h2 43) fun h3 => some h3
set_option maxHeartbeats 4000000 in
set_option maxRecDepth 100000 in
theorem cx_Shipped_result (l : Launch) {dA : FieldType → ClassId} {D : va_G} {al : Nat → Nat} {sk sv : Nat → Nat} (hi : mv_inj (mg dA D al me2)) (b : mv_H) (hb : mv_r b 143 0 = some 144) (h : xE) (a0 : Nat) (ha0 : a0 < st_t.length) {rg : xE} (hf : g_Shipped_result h a0 = some rg) : mv_C l y_Shipped_result (Cond.code y_Shipped_result b_Shipped_result 2 (Option.none : Option Jvm.ClassFile.FieldType) :: ma) ({ frames := 5, cells := 0, slots := 0, locals := 107 }) (mg dA D al me2) (mK sk sv) [.ref (al 143), .ref (sk a0)] (ab b h) (mv_Rv (fun σ1 => σ1 = ab b rg)) := by
  refine mv_C.ofV (cc := b_Shipped_result) (nL := 2) (ret := (Option.none : Option Jvm.ClassFile.FieldType)) (by decide +kernel) rfl hi (Nat.le_of_ble_eq_true rfl) ?_
  intro p e s m below meth c B hNs hr hnm hno
  unfold g_Shipped_result at hf
  refine mv_aload_n (pc := 0) B d_Shipped_result_0 rfl 0 rfl ?_
  refine mv_ldcwS (pc := 1) B (hNs.2.1 64 (by decide)).1 d_Shipped_result_1 ?_
  obtain ⟨h1, eh1, hf⟩ := xev_e hf
  refine mv_callVv (pc := 4) (n := 1) (ci := 10) (C := R_Shipped) B (mK_ok sk sv) hNs rfl rfl (cx_Shipped_put l hi _ hb _ _ (by decide) eh1) rfl (ma_goodc kc_Shipped_put) (B.2.2.2.1 _ k_541) (B.2.2.2.1 _ k_543) (B.2.2.2.1 _ ks_3) (B.2.2.2.1 _ k_35) ⟨by decide +kernel, by decide +kernel, by decide +kernel⟩ rfl d_Shipped_result_4 rfl (Nat.le_of_ble_eq_true rfl) ⟨by decide, by decide⟩ ⟨by decide, by decide⟩ ⟨by decide, by decide⟩ (mv_noH hno _) (fun σ4 h4 => ?_)
  subst h4
  refine mv_aload_n (pc := 7) B d_Shipped_result_7 rfl 0 rfl ?_
  refine mv_aload_n (pc := 8) B d_Shipped_result_8 rfl 1 rfl ?_
  obtain ⟨h2, eh2, hf⟩ := xev_e hf
  refine mv_callVv (pc := 9) (n := 1) (ci := 10) (C := R_Shipped) B (mK_ok sk sv) hNs rfl rfl (cx_Shipped_put l hi _ hb _ _ ha0 eh2) rfl (ma_goodc kc_Shipped_put) (B.2.2.2.1 _ k_541) (B.2.2.2.1 _ k_543) (B.2.2.2.1 _ ks_3) (B.2.2.2.1 _ k_35) ⟨by decide +kernel, by decide +kernel, by decide +kernel⟩ rfl d_Shipped_result_9 rfl (Nat.le_of_ble_eq_true rfl) ⟨by decide, by decide⟩ ⟨by decide, by decide⟩ ⟨by decide, by decide⟩ (mv_noH hno _) (fun σ9 h9 => ?_)
  subst h9
  refine mv_aload_n (pc := 12) B d_Shipped_result_12 rfl 0 rfl ?_
  refine mv_ldcwS (pc := 13) B (hNs.2.1 43 (by decide)).1 d_Shipped_result_13 ?_
  obtain ⟨h3, eh3, hf⟩ := xev_e hf
  refine mv_callVv (pc := 16) (n := 1) (ci := 10) (C := R_Shipped) B (mK_ok sk sv) hNs rfl rfl (cx_Shipped_put l hi _ hb _ _ (by decide) eh3) rfl (ma_goodc kc_Shipped_put) (B.2.2.2.1 _ k_541) (B.2.2.2.1 _ k_543) (B.2.2.2.1 _ ks_3) (B.2.2.2.1 _ k_35) ⟨by decide +kernel, by decide +kernel, by decide +kernel⟩ rfl d_Shipped_result_16 rfl (Nat.le_of_ble_eq_true rfl) ⟨by decide, by decide⟩ ⟨by decide, by decide⟩ ⟨by decide, by decide⟩ (mv_noH hno _) (fun σ16 h16 => ?_)
  subst h16
  exact mv_vret (pc := 19) B hr d_Shipped_result_19 (Nat.le_refl _) (Nat.le_refl _) ⟨rfl, xret_v hf⟩
def g_Shipped_op (h : xE) (a0 : Nat) (a1 : Nat) (a2 : Nat) : Option xE := xev (g_Shipped_head h a0 a1 4 4) fun h1 => xev (g_Shipped_put h1 a2) fun h2 => xev (g_Shipped_put h2 6) fun h3 => some h3
set_option maxHeartbeats 4000000 in
set_option maxRecDepth 100000 in
theorem cx_Shipped_op (l : Launch) {dA : FieldType → ClassId} {D : va_G} {al : Nat → Nat} {sk sv : Nat → Nat} (hi : mv_inj (mg dA D al me2)) (b : mv_H) (hb : mv_r b 143 0 = some 144) (h : xE) (a0 : Nat) (a1 : Nat) (a2 : Nat) (ha0 : a0 < st_t.length) (ha1 : a1 < st_t.length) (ha2 : a2 < st_t.length) {rg : xE} (hf : g_Shipped_op h a0 a1 a2 = some rg) : mv_C l y_Shipped_op (Cond.code y_Shipped_op b_Shipped_op 4 (Option.none : Option Jvm.ClassFile.FieldType) :: ma) ({ frames := 6, cells := 0, slots := 0, locals := 131 }) (mg dA D al me2) (mK sk sv) [.ref (al 143), .ref (sk a0), .ref (sk a1), .ref (sk a2)] (ab b h) (mv_Rv (fun σ1 => σ1 = ab b rg)) := by
  refine mv_C.ofV (cc := b_Shipped_op) (nL := 4) (ret := (Option.none : Option Jvm.ClassFile.FieldType)) (by decide +kernel) rfl hi (Nat.le_of_ble_eq_true rfl) ?_
  intro p e s m below meth c B hNs hr hnm hno
  unfold g_Shipped_op at hf
  refine mv_aload_n (pc := 0) B d_Shipped_op_0 rfl 0 rfl ?_
  refine mv_aload_n (pc := 1) B d_Shipped_op_1 rfl 1 rfl ?_
  refine mv_aload_n (pc := 2) B d_Shipped_op_2 rfl 2 rfl ?_
  refine mv_ldcS (pc := 3) B (hNs.2.1 4 (by decide)).1 d_Shipped_op_3 ?_
  refine mv_ldcS (pc := 5) B (hNs.2.1 4 (by decide)).1 d_Shipped_op_5 ?_
  obtain ⟨h1, eh1, hf⟩ := xev_e hf
  refine mv_callVv (pc := 7) (n := 4) (ci := 10) (C := R_Shipped) B (mK_ok sk sv) hNs rfl rfl (cx_Shipped_head l hi _ hb _ _ _ _ _ ha0 ha1 (by decide) (by decide) eh1) rfl (ma_goodc kc_Shipped_head) (B.2.2.2.1 _ k_601) (B.2.2.2.1 _ k_603) (B.2.2.2.1 _ ks_5) (B.2.2.2.1 _ k_35) ⟨by decide +kernel, by decide +kernel, by decide +kernel⟩ rfl d_Shipped_op_7 rfl (Nat.le_of_ble_eq_true rfl) ⟨by decide, by decide⟩ ⟨by decide, by decide⟩ ⟨by decide, by decide⟩ (mv_noH hno _) (fun σ7 h7 => ?_)
  subst h7
  refine mv_aload_n (pc := 10) B d_Shipped_op_10 rfl 0 rfl ?_
  refine mv_aload_n (pc := 11) B d_Shipped_op_11 rfl 3 rfl ?_
  obtain ⟨h2, eh2, hf⟩ := xev_e hf
  refine mv_callVv (pc := 12) (n := 1) (ci := 10) (C := R_Shipped) B (mK_ok sk sv) hNs rfl rfl (cx_Shipped_put l hi _ hb _ _ ha2 eh2) rfl (ma_goodc kc_Shipped_put) (B.2.2.2.1 _ k_541) (B.2.2.2.1 _ k_543) (B.2.2.2.1 _ ks_3) (B.2.2.2.1 _ k_35) ⟨by decide +kernel, by decide +kernel, by decide +kernel⟩ rfl d_Shipped_op_12 rfl (Nat.le_of_ble_eq_true rfl) ⟨by decide, by decide⟩ ⟨by decide, by decide⟩ ⟨by decide, by decide⟩ (mv_noH hno _) (fun σ12 h12 => ?_)
  subst h12
  refine mv_aload_n (pc := 15) B d_Shipped_op_15 rfl 0 rfl ?_
  refine mv_ldcwS (pc := 16) B (hNs.2.1 6 (by decide)).1 d_Shipped_op_16 ?_
  obtain ⟨h3, eh3, hf⟩ := xev_e hf
  refine mv_callVv (pc := 19) (n := 1) (ci := 10) (C := R_Shipped) B (mK_ok sk sv) hNs rfl rfl (cx_Shipped_put l hi _ hb _ _ (by decide) eh3) rfl (ma_goodc kc_Shipped_put) (B.2.2.2.1 _ k_541) (B.2.2.2.1 _ k_543) (B.2.2.2.1 _ ks_3) (B.2.2.2.1 _ k_35) ⟨by decide +kernel, by decide +kernel, by decide +kernel⟩ rfl d_Shipped_op_19 rfl (Nat.le_of_ble_eq_true rfl) ⟨by decide, by decide⟩ ⟨by decide, by decide⟩ ⟨by decide, by decide⟩ (mv_noH hno _) (fun σ19 h19 => ?_)
  subst h19
  exact mv_vret (pc := 22) B hr d_Shipped_op_22 (Nat.le_refl _) (Nat.le_refl _) ⟨rfl, xret_v hf⟩
def g_Shipped_branch (h : xE) (a0 : Nat) (a1 : Nat) (a2 : Nat) : Option xE := xev (g_Shipped_head h a0 19 a1 20) fun h1 => xev (g_Shipped_put h1 21) fun h2 => xev (g_Shipped_put h2 a2) fun h3 => xev (g_Shipped_put h3 22) fun h4 => some h4
set_option maxHeartbeats 4000000 in
set_option maxRecDepth 100000 in
theorem cx_Shipped_branch (l : Launch) {dA : FieldType → ClassId} {D : va_G} {al : Nat → Nat} {sk sv : Nat → Nat} (hi : mv_inj (mg dA D al me2)) (b : mv_H) (hb : mv_r b 143 0 = some 144) (h : xE) (a0 : Nat) (a1 : Nat) (a2 : Nat) (ha0 : a0 < st_t.length) (ha1 : a1 < st_t.length) (ha2 : a2 < st_t.length) {rg : xE} (hf : g_Shipped_branch h a0 a1 a2 = some rg) : mv_C l y_Shipped_branch (Cond.code y_Shipped_branch b_Shipped_branch 4 (Option.none : Option Jvm.ClassFile.FieldType) :: ma) ({ frames := 6, cells := 0, slots := 0, locals := 131 }) (mg dA D al me2) (mK sk sv) [.ref (al 143), .ref (sk a0), .ref (sk a1), .ref (sk a2)] (ab b h) (mv_Rv (fun σ1 => σ1 = ab b rg)) := by
  refine mv_C.ofV (cc := b_Shipped_branch) (nL := 4) (ret := (Option.none : Option Jvm.ClassFile.FieldType)) (by decide +kernel) rfl hi (Nat.le_of_ble_eq_true rfl) ?_
  intro p e s m below meth c B hNs hr hnm hno
  unfold g_Shipped_branch at hf
  refine mv_aload_n (pc := 0) B d_Shipped_branch_0 rfl 0 rfl ?_
  refine mv_aload_n (pc := 1) B d_Shipped_branch_1 rfl 1 rfl ?_
  refine mv_ldcwS (pc := 2) B (hNs.2.1 19 (by decide)).1 d_Shipped_branch_2 ?_
  refine mv_aload_n (pc := 5) B d_Shipped_branch_5 rfl 2 rfl ?_
  refine mv_ldcwS (pc := 6) B (hNs.2.1 20 (by decide)).1 d_Shipped_branch_6 ?_
  obtain ⟨h1, eh1, hf⟩ := xev_e hf
  refine mv_callVv (pc := 9) (n := 4) (ci := 10) (C := R_Shipped) B (mK_ok sk sv) hNs rfl rfl (cx_Shipped_head l hi _ hb _ _ _ _ _ ha0 (by decide) ha1 (by decide) eh1) rfl (ma_goodc kc_Shipped_head) (B.2.2.2.1 _ k_601) (B.2.2.2.1 _ k_603) (B.2.2.2.1 _ ks_5) (B.2.2.2.1 _ k_35) ⟨by decide +kernel, by decide +kernel, by decide +kernel⟩ rfl d_Shipped_branch_9 rfl (Nat.le_of_ble_eq_true rfl) ⟨by decide, by decide⟩ ⟨by decide, by decide⟩ ⟨by decide, by decide⟩ (mv_noH hno _) (fun σ9 h9 => ?_)
  subst h9
  refine mv_aload_n (pc := 12) B d_Shipped_branch_12 rfl 0 rfl ?_
  refine mv_ldcwS (pc := 13) B (hNs.2.1 21 (by decide)).1 d_Shipped_branch_13 ?_
  obtain ⟨h2, eh2, hf⟩ := xev_e hf
  refine mv_callVv (pc := 16) (n := 1) (ci := 10) (C := R_Shipped) B (mK_ok sk sv) hNs rfl rfl (cx_Shipped_put l hi _ hb _ _ (by decide) eh2) rfl (ma_goodc kc_Shipped_put) (B.2.2.2.1 _ k_541) (B.2.2.2.1 _ k_543) (B.2.2.2.1 _ ks_3) (B.2.2.2.1 _ k_35) ⟨by decide +kernel, by decide +kernel, by decide +kernel⟩ rfl d_Shipped_branch_16 rfl (Nat.le_of_ble_eq_true rfl) ⟨by decide, by decide⟩ ⟨by decide, by decide⟩ ⟨by decide, by decide⟩ (mv_noH hno _) (fun σ16 h16 => ?_)
  subst h16
  refine mv_aload_n (pc := 19) B d_Shipped_branch_19 rfl 0 rfl ?_
  refine mv_aload_n (pc := 20) B d_Shipped_branch_20 rfl 3 rfl ?_
  obtain ⟨h3, eh3, hf⟩ := xev_e hf
  refine mv_callVv (pc := 21) (n := 1) (ci := 10) (C := R_Shipped) B (mK_ok sk sv) hNs rfl rfl (cx_Shipped_put l hi _ hb _ _ ha2 eh3) rfl (ma_goodc kc_Shipped_put) (B.2.2.2.1 _ k_541) (B.2.2.2.1 _ k_543) (B.2.2.2.1 _ ks_3) (B.2.2.2.1 _ k_35) ⟨by decide +kernel, by decide +kernel, by decide +kernel⟩ rfl d_Shipped_branch_21 rfl (Nat.le_of_ble_eq_true rfl) ⟨by decide, by decide⟩ ⟨by decide, by decide⟩ ⟨by decide, by decide⟩ (mv_noH hno _) (fun σ21 h21 => ?_)
  subst h21
  refine mv_aload_n (pc := 24) B d_Shipped_branch_24 rfl 0 rfl ?_
  refine mv_ldcwS (pc := 25) B (hNs.2.1 22 (by decide)).1 d_Shipped_branch_25 ?_
  obtain ⟨h4, eh4, hf⟩ := xev_e hf
  refine mv_callVv (pc := 28) (n := 1) (ci := 10) (C := R_Shipped) B (mK_ok sk sv) hNs rfl rfl (cx_Shipped_put l hi _ hb _ _ (by decide) eh4) rfl (ma_goodc kc_Shipped_put) (B.2.2.2.1 _ k_541) (B.2.2.2.1 _ k_543) (B.2.2.2.1 _ ks_3) (B.2.2.2.1 _ k_35) ⟨by decide +kernel, by decide +kernel, by decide +kernel⟩ rfl d_Shipped_branch_28 rfl (Nat.le_of_ble_eq_true rfl) ⟨by decide, by decide⟩ ⟨by decide, by decide⟩ ⟨by decide, by decide⟩ (mv_noH hno _) (fun σ28 h28 => ?_)
  subst h28
  exact mv_vret (pc := 31) B hr d_Shipped_branch_31 (Nat.le_refl _) (Nat.le_refl _) ⟨rfl, xret_v hf⟩
def g_Shipped_load (h : xE) (a0 : Nat) (a1 : Nat) (a2 : Nat) : Option xE := xev (g_Shipped_head h a0 40 a1 41) fun h1 => xev (g_Shipped_put h1 42) fun h2 => xev (g_Shipped_put h2 a2) fun h3 => xev (g_Shipped_put h3 43) fun h4 => some h4
set_option maxHeartbeats 4000000 in
set_option maxRecDepth 100000 in
theorem cx_Shipped_load (l : Launch) {dA : FieldType → ClassId} {D : va_G} {al : Nat → Nat} {sk sv : Nat → Nat} (hi : mv_inj (mg dA D al me2)) (b : mv_H) (hb : mv_r b 143 0 = some 144) (h : xE) (a0 : Nat) (a1 : Nat) (a2 : Nat) (ha0 : a0 < st_t.length) (ha1 : a1 < st_t.length) (ha2 : a2 < st_t.length) {rg : xE} (hf : g_Shipped_load h a0 a1 a2 = some rg) : mv_C l y_Shipped_load (Cond.code y_Shipped_load b_Shipped_load 4 (Option.none : Option Jvm.ClassFile.FieldType) :: ma) ({ frames := 6, cells := 0, slots := 0, locals := 131 }) (mg dA D al me2) (mK sk sv) [.ref (al 143), .ref (sk a0), .ref (sk a1), .ref (sk a2)] (ab b h) (mv_Rv (fun σ1 => σ1 = ab b rg)) := by
  refine mv_C.ofV (cc := b_Shipped_load) (nL := 4) (ret := (Option.none : Option Jvm.ClassFile.FieldType)) (by decide +kernel) rfl hi (Nat.le_of_ble_eq_true rfl) ?_
  intro p e s m below meth c B hNs hr hnm hno
  unfold g_Shipped_load at hf
  refine mv_aload_n (pc := 0) B d_Shipped_load_0 rfl 0 rfl ?_
  refine mv_aload_n (pc := 1) B d_Shipped_load_1 rfl 1 rfl ?_
  refine mv_ldcwS (pc := 2) B (hNs.2.1 40 (by decide)).1 d_Shipped_load_2 ?_
  refine mv_aload_n (pc := 5) B d_Shipped_load_5 rfl 2 rfl ?_
  refine mv_ldcwS (pc := 6) B (hNs.2.1 41 (by decide)).1 d_Shipped_load_6 ?_
  obtain ⟨h1, eh1, hf⟩ := xev_e hf
  refine mv_callVv (pc := 9) (n := 4) (ci := 10) (C := R_Shipped) B (mK_ok sk sv) hNs rfl rfl (cx_Shipped_head l hi _ hb _ _ _ _ _ ha0 (by decide) ha1 (by decide) eh1) rfl (ma_goodc kc_Shipped_head) (B.2.2.2.1 _ k_601) (B.2.2.2.1 _ k_603) (B.2.2.2.1 _ ks_5) (B.2.2.2.1 _ k_35) ⟨by decide +kernel, by decide +kernel, by decide +kernel⟩ rfl d_Shipped_load_9 rfl (Nat.le_of_ble_eq_true rfl) ⟨by decide, by decide⟩ ⟨by decide, by decide⟩ ⟨by decide, by decide⟩ (mv_noH hno _) (fun σ9 h9 => ?_)
  subst h9
  refine mv_aload_n (pc := 12) B d_Shipped_load_12 rfl 0 rfl ?_
  refine mv_ldcwS (pc := 13) B (hNs.2.1 42 (by decide)).1 d_Shipped_load_13 ?_
  obtain ⟨h2, eh2, hf⟩ := xev_e hf
  refine mv_callVv (pc := 16) (n := 1) (ci := 10) (C := R_Shipped) B (mK_ok sk sv) hNs rfl rfl (cx_Shipped_put l hi _ hb _ _ (by decide) eh2) rfl (ma_goodc kc_Shipped_put) (B.2.2.2.1 _ k_541) (B.2.2.2.1 _ k_543) (B.2.2.2.1 _ ks_3) (B.2.2.2.1 _ k_35) ⟨by decide +kernel, by decide +kernel, by decide +kernel⟩ rfl d_Shipped_load_16 rfl (Nat.le_of_ble_eq_true rfl) ⟨by decide, by decide⟩ ⟨by decide, by decide⟩ ⟨by decide, by decide⟩ (mv_noH hno _) (fun σ16 h16 => ?_)
  subst h16
  refine mv_aload_n (pc := 19) B d_Shipped_load_19 rfl 0 rfl ?_
  refine mv_aload_n (pc := 20) B d_Shipped_load_20 rfl 3 rfl ?_
  obtain ⟨h3, eh3, hf⟩ := xev_e hf
  refine mv_callVv (pc := 21) (n := 1) (ci := 10) (C := R_Shipped) B (mK_ok sk sv) hNs rfl rfl (cx_Shipped_put l hi _ hb _ _ ha2 eh3) rfl (ma_goodc kc_Shipped_put) (B.2.2.2.1 _ k_541) (B.2.2.2.1 _ k_543) (B.2.2.2.1 _ ks_3) (B.2.2.2.1 _ k_35) ⟨by decide +kernel, by decide +kernel, by decide +kernel⟩ rfl d_Shipped_load_21 rfl (Nat.le_of_ble_eq_true rfl) ⟨by decide, by decide⟩ ⟨by decide, by decide⟩ ⟨by decide, by decide⟩ (mv_noH hno _) (fun σ21 h21 => ?_)
  subst h21
  refine mv_aload_n (pc := 24) B d_Shipped_load_24 rfl 0 rfl ?_
  refine mv_ldcwS (pc := 25) B (hNs.2.1 43 (by decide)).1 d_Shipped_load_25 ?_
  obtain ⟨h4, eh4, hf⟩ := xev_e hf
  refine mv_callVv (pc := 28) (n := 1) (ci := 10) (C := R_Shipped) B (mK_ok sk sv) hNs rfl rfl (cx_Shipped_put l hi _ hb _ _ (by decide) eh4) rfl (ma_goodc kc_Shipped_put) (B.2.2.2.1 _ k_541) (B.2.2.2.1 _ k_543) (B.2.2.2.1 _ ks_3) (B.2.2.2.1 _ k_35) ⟨by decide +kernel, by decide +kernel, by decide +kernel⟩ rfl d_Shipped_load_28 rfl (Nat.le_of_ble_eq_true rfl) ⟨by decide, by decide⟩ ⟨by decide, by decide⟩ ⟨by decide, by decide⟩ (mv_noH hno _) (fun σ28 h28 => ?_)
  subst h28
  exact mv_vret (pc := 31) B hr d_Shipped_load_31 (Nat.le_refl _) (Nat.le_refl _) ⟨rfl, xret_v hf⟩
def g_Shipped_store (h : xE) (a0 : Nat) (a1 : Nat) (a2 : Nat) : Option xE := xev (g_Shipped_head h a0 54 a1 55) fun h1 => xev (g_Shipped_put h1 56) fun h2 => xev (g_Shipped_put h2 a2) fun h3 => xev (g_Shipped_put h3 6) fun h4 => some h4
set_option maxHeartbeats 4000000 in
set_option maxRecDepth 100000 in
theorem cx_Shipped_store (l : Launch) {dA : FieldType → ClassId} {D : va_G} {al : Nat → Nat} {sk sv : Nat → Nat} (hi : mv_inj (mg dA D al me2)) (b : mv_H) (hb : mv_r b 143 0 = some 144) (h : xE) (a0 : Nat) (a1 : Nat) (a2 : Nat) (ha0 : a0 < st_t.length) (ha1 : a1 < st_t.length) (ha2 : a2 < st_t.length) {rg : xE} (hf : g_Shipped_store h a0 a1 a2 = some rg) : mv_C l y_Shipped_store (Cond.code y_Shipped_store b_Shipped_store 4 (Option.none : Option Jvm.ClassFile.FieldType) :: ma) ({ frames := 6, cells := 0, slots := 0, locals := 131 }) (mg dA D al me2) (mK sk sv) [.ref (al 143), .ref (sk a0), .ref (sk a1), .ref (sk a2)] (ab b h) (mv_Rv (fun σ1 => σ1 = ab b rg)) := by
  refine mv_C.ofV (cc := b_Shipped_store) (nL := 4) (ret := (Option.none : Option Jvm.ClassFile.FieldType)) (by decide +kernel) rfl hi (Nat.le_of_ble_eq_true rfl) ?_
  intro p e s m below meth c B hNs hr hnm hno
  unfold g_Shipped_store at hf
  refine mv_aload_n (pc := 0) B d_Shipped_store_0 rfl 0 rfl ?_
  refine mv_aload_n (pc := 1) B d_Shipped_store_1 rfl 1 rfl ?_
  refine mv_ldcwS (pc := 2) B (hNs.2.1 54 (by decide)).1 d_Shipped_store_2 ?_
  refine mv_aload_n (pc := 5) B d_Shipped_store_5 rfl 2 rfl ?_
  refine mv_ldcwS (pc := 6) B (hNs.2.1 55 (by decide)).1 d_Shipped_store_6 ?_
  obtain ⟨h1, eh1, hf⟩ := xev_e hf
  refine mv_callVv (pc := 9) (n := 4) (ci := 10) (C := R_Shipped) B (mK_ok sk sv) hNs rfl rfl (cx_Shipped_head l hi _ hb _ _ _ _ _ ha0 (by decide) ha1 (by decide) eh1) rfl (ma_goodc kc_Shipped_head) (B.2.2.2.1 _ k_601) (B.2.2.2.1 _ k_603) (B.2.2.2.1 _ ks_5) (B.2.2.2.1 _ k_35) ⟨by decide +kernel, by decide +kernel, by decide +kernel⟩ rfl d_Shipped_store_9 rfl (Nat.le_of_ble_eq_true rfl) ⟨by decide, by decide⟩ ⟨by decide, by decide⟩ ⟨by decide, by decide⟩ (mv_noH hno _) (fun σ9 h9 => ?_)
  subst h9
  refine mv_aload_n (pc := 12) B d_Shipped_store_12 rfl 0 rfl ?_
  refine mv_ldcwS (pc := 13) B (hNs.2.1 56 (by decide)).1 d_Shipped_store_13 ?_
  obtain ⟨h2, eh2, hf⟩ := xev_e hf
  refine mv_callVv (pc := 16) (n := 1) (ci := 10) (C := R_Shipped) B (mK_ok sk sv) hNs rfl rfl (cx_Shipped_put l hi _ hb _ _ (by decide) eh2) rfl (ma_goodc kc_Shipped_put) (B.2.2.2.1 _ k_541) (B.2.2.2.1 _ k_543) (B.2.2.2.1 _ ks_3) (B.2.2.2.1 _ k_35) ⟨by decide +kernel, by decide +kernel, by decide +kernel⟩ rfl d_Shipped_store_16 rfl (Nat.le_of_ble_eq_true rfl) ⟨by decide, by decide⟩ ⟨by decide, by decide⟩ ⟨by decide, by decide⟩ (mv_noH hno _) (fun σ16 h16 => ?_)
  subst h16
  refine mv_aload_n (pc := 19) B d_Shipped_store_19 rfl 0 rfl ?_
  refine mv_aload_n (pc := 20) B d_Shipped_store_20 rfl 3 rfl ?_
  obtain ⟨h3, eh3, hf⟩ := xev_e hf
  refine mv_callVv (pc := 21) (n := 1) (ci := 10) (C := R_Shipped) B (mK_ok sk sv) hNs rfl rfl (cx_Shipped_put l hi _ hb _ _ ha2 eh3) rfl (ma_goodc kc_Shipped_put) (B.2.2.2.1 _ k_541) (B.2.2.2.1 _ k_543) (B.2.2.2.1 _ ks_3) (B.2.2.2.1 _ k_35) ⟨by decide +kernel, by decide +kernel, by decide +kernel⟩ rfl d_Shipped_store_21 rfl (Nat.le_of_ble_eq_true rfl) ⟨by decide, by decide⟩ ⟨by decide, by decide⟩ ⟨by decide, by decide⟩ (mv_noH hno _) (fun σ21 h21 => ?_)
  subst h21
  refine mv_aload_n (pc := 24) B d_Shipped_store_24 rfl 0 rfl ?_
  refine mv_ldcwS (pc := 25) B (hNs.2.1 6 (by decide)).1 d_Shipped_store_25 ?_
  obtain ⟨h4, eh4, hf⟩ := xev_e hf
  refine mv_callVv (pc := 28) (n := 1) (ci := 10) (C := R_Shipped) B (mK_ok sk sv) hNs rfl rfl (cx_Shipped_put l hi _ hb _ _ (by decide) eh4) rfl (ma_goodc kc_Shipped_put) (B.2.2.2.1 _ k_541) (B.2.2.2.1 _ k_543) (B.2.2.2.1 _ ks_3) (B.2.2.2.1 _ k_35) ⟨by decide +kernel, by decide +kernel, by decide +kernel⟩ rfl d_Shipped_store_28 rfl (Nat.le_of_ble_eq_true rfl) ⟨by decide, by decide⟩ ⟨by decide, by decide⟩ ⟨by decide, by decide⟩ (mv_noH hno _) (fun σ28 h28 => ?_)
  subst h28
  exact mv_vret (pc := 31) B hr d_Shipped_store_31 (Nat.le_refl _) (Nat.le_refl _) ⟨rfl, xret_v hf⟩
def g_Shipped_constant (h : xE) (a0 : Nat) (a1 : Nat) (a2 : Nat) : Option xE := xev (g_Shipped_head h a0 40 a1 63) fun h1 => xev (g_Shipped_result h1 a2) fun h2 => some h2
set_option maxHeartbeats 4000000 in
set_option maxRecDepth 100000 in
theorem cx_Shipped_constant (l : Launch) {dA : FieldType → ClassId} {D : va_G} {al : Nat → Nat} {sk sv : Nat → Nat} (hi : mv_inj (mg dA D al me2)) (b : mv_H) (hb : mv_r b 143 0 = some 144) (h : xE) (a0 : Nat) (a1 : Nat) (a2 : Nat) (ha0 : a0 < st_t.length) (ha1 : a1 < st_t.length) (ha2 : a2 < st_t.length) {rg : xE} (hf : g_Shipped_constant h a0 a1 a2 = some rg) : mv_C l y_Shipped_constant (Cond.code y_Shipped_constant b_Shipped_constant 4 (Option.none : Option Jvm.ClassFile.FieldType) :: ma) ({ frames := 6, cells := 0, slots := 0, locals := 131 }) (mg dA D al me2) (mK sk sv) [.ref (al 143), .ref (sk a0), .ref (sk a1), .ref (sk a2)] (ab b h) (mv_Rv (fun σ1 => σ1 = ab b rg)) := by
  refine mv_C.ofV (cc := b_Shipped_constant) (nL := 4) (ret := (Option.none : Option Jvm.ClassFile.FieldType)) (by decide +kernel) rfl hi (Nat.le_of_ble_eq_true rfl) ?_
  intro p e s m below meth c B hNs hr hnm hno
  unfold g_Shipped_constant at hf
  refine mv_aload_n (pc := 0) B d_Shipped_constant_0 rfl 0 rfl ?_
  refine mv_aload_n (pc := 1) B d_Shipped_constant_1 rfl 1 rfl ?_
  refine mv_ldcwS (pc := 2) B (hNs.2.1 40 (by decide)).1 d_Shipped_constant_2 ?_
  refine mv_aload_n (pc := 5) B d_Shipped_constant_5 rfl 2 rfl ?_
  refine mv_ldcwS (pc := 6) B (hNs.2.1 63 (by decide)).1 d_Shipped_constant_6 ?_
  obtain ⟨h1, eh1, hf⟩ := xev_e hf
  refine mv_callVv (pc := 9) (n := 4) (ci := 10) (C := R_Shipped) B (mK_ok sk sv) hNs rfl rfl (cx_Shipped_head l hi _ hb _ _ _ _ _ ha0 (by decide) ha1 (by decide) eh1) rfl (ma_goodc kc_Shipped_head) (B.2.2.2.1 _ k_601) (B.2.2.2.1 _ k_603) (B.2.2.2.1 _ ks_5) (B.2.2.2.1 _ k_35) ⟨by decide +kernel, by decide +kernel, by decide +kernel⟩ rfl d_Shipped_constant_9 rfl (Nat.le_of_ble_eq_true rfl) ⟨by decide, by decide⟩ ⟨by decide, by decide⟩ ⟨by decide, by decide⟩ (mv_noH hno _) (fun σ9 h9 => ?_)
  subst h9
  refine mv_aload_n (pc := 12) B d_Shipped_constant_12 rfl 0 rfl ?_
  refine mv_aload_n (pc := 13) B d_Shipped_constant_13 rfl 3 rfl ?_
  obtain ⟨h2, eh2, hf⟩ := xev_e hf
  refine mv_callVv (pc := 14) (n := 1) (ci := 10) (C := R_Shipped) B (mK_ok sk sv) hNs rfl rfl (cx_Shipped_result l hi _ hb _ _ ha2 eh2) rfl (ma_goodc kc_Shipped_result) (B.2.2.2.1 _ k_686) (B.2.2.2.1 _ k_688) (B.2.2.2.1 _ ks_11) (B.2.2.2.1 _ k_35) ⟨by decide +kernel, by decide +kernel, by decide +kernel⟩ rfl d_Shipped_constant_14 rfl (Nat.le_of_ble_eq_true rfl) ⟨by decide, by decide⟩ ⟨by decide, by decide⟩ ⟨by decide, by decide⟩ (mv_noH hno _) (fun σ14 h14 => ?_)
  subst h14
  exact mv_vret (pc := 17) B hr d_Shipped_constant_17 (Nat.le_refl _) (Nat.le_refl _) ⟨rfl, xret_v hf⟩
def g_Shipped_shift (h : xE) (a0 : Nat) (a1 : Nat) (a2 : Nat) (a3 : Nat) : Option xE := xev (g_Shipped_put h 79) fun h1 => xev (g_Shipped_put h1 a0) fun h2 => xev (g_Shipped_put h2 157) fun h3 => xev (g_Shipped_put h3 a1) fun h4 => xev (g_Shipped_put h4 80) fun h5 => xev (g_Shipped_put h5 a2) fun h6 => xev (g_Shipped_put h6 159) fun h7 => xev (g_Shipped_result h7 a3) fun h8 => some h8
set_option maxHeartbeats 4000000 in
set_option maxRecDepth 100000 in
theorem cx_Shipped_shift (l : Launch) {dA : FieldType → ClassId} {D : va_G} {al : Nat → Nat} {sk sv : Nat → Nat} (hi : mv_inj (mg dA D al me2)) (b : mv_H) (hb : mv_r b 143 0 = some 144) (h : xE) (a0 : Nat) (a1 : Nat) (a2 : Nat) (a3 : Nat) (ha0 : a0 < st_t.length) (ha1 : a1 < st_t.length) (ha2 : a2 < st_t.length) (ha3 : a3 < st_t.length) {rg : xE} (hf : g_Shipped_shift h a0 a1 a2 a3 = some rg) : mv_C l y_Shipped_shift (Cond.code y_Shipped_shift b_Shipped_shift 5 (Option.none : Option Jvm.ClassFile.FieldType) :: ma) ({ frames := 6, cells := 0, slots := 0, locals := 128 }) (mg dA D al me2) (mK sk sv) [.ref (al 143), .ref (sk a0), .ref (sk a1), .ref (sk a2), .ref (sk a3)] (ab b h) (mv_Rv (fun σ1 => σ1 = ab b rg)) := by
  refine mv_C.ofV (cc := b_Shipped_shift) (nL := 5) (ret := (Option.none : Option Jvm.ClassFile.FieldType)) (by decide +kernel) rfl hi (Nat.le_of_ble_eq_true rfl) ?_
  intro p e s m below meth c B hNs hr hnm hno
  unfold g_Shipped_shift at hf
  refine mv_aload_n (pc := 0) B d_Shipped_shift_0 rfl 0 rfl ?_
  refine mv_ldcwS (pc := 1) B (hNs.2.1 79 (by decide)).1 d_Shipped_shift_1 ?_
  obtain ⟨h1, eh1, hf⟩ := xev_e hf
  refine mv_callVv (pc := 4) (n := 1) (ci := 10) (C := R_Shipped) B (mK_ok sk sv) hNs rfl rfl (cx_Shipped_put l hi _ hb _ _ (by decide) eh1) rfl (ma_goodc kc_Shipped_put) (B.2.2.2.1 _ k_541) (B.2.2.2.1 _ k_543) (B.2.2.2.1 _ ks_3) (B.2.2.2.1 _ k_35) ⟨by decide +kernel, by decide +kernel, by decide +kernel⟩ rfl d_Shipped_shift_4 rfl (Nat.le_of_ble_eq_true rfl) ⟨by decide, by decide⟩ ⟨by decide, by decide⟩ ⟨by decide, by decide⟩ (mv_noH hno _) (fun σ4 h4 => ?_)
  subst h4
  refine mv_aload_n (pc := 7) B d_Shipped_shift_7 rfl 0 rfl ?_
  refine mv_aload_n (pc := 8) B d_Shipped_shift_8 rfl 1 rfl ?_
  obtain ⟨h2, eh2, hf⟩ := xev_e hf
  refine mv_callVv (pc := 9) (n := 1) (ci := 10) (C := R_Shipped) B (mK_ok sk sv) hNs rfl rfl (cx_Shipped_put l hi _ hb _ _ ha0 eh2) rfl (ma_goodc kc_Shipped_put) (B.2.2.2.1 _ k_541) (B.2.2.2.1 _ k_543) (B.2.2.2.1 _ ks_3) (B.2.2.2.1 _ k_35) ⟨by decide +kernel, by decide +kernel, by decide +kernel⟩ rfl d_Shipped_shift_9 rfl (Nat.le_of_ble_eq_true rfl) ⟨by decide, by decide⟩ ⟨by decide, by decide⟩ ⟨by decide, by decide⟩ (mv_noH hno _) (fun σ9 h9 => ?_)
  subst h9
  refine mv_aload_n (pc := 12) B d_Shipped_shift_12 rfl 0 rfl ?_
  refine mv_ldcwS (pc := 13) B (hNs.2.1 157 (by decide)).1 d_Shipped_shift_13 ?_
  obtain ⟨h3, eh3, hf⟩ := xev_e hf
  refine mv_callVv (pc := 16) (n := 1) (ci := 10) (C := R_Shipped) B (mK_ok sk sv) hNs rfl rfl (cx_Shipped_put l hi _ hb _ _ (by decide) eh3) rfl (ma_goodc kc_Shipped_put) (B.2.2.2.1 _ k_541) (B.2.2.2.1 _ k_543) (B.2.2.2.1 _ ks_3) (B.2.2.2.1 _ k_35) ⟨by decide +kernel, by decide +kernel, by decide +kernel⟩ rfl d_Shipped_shift_16 rfl (Nat.le_of_ble_eq_true rfl) ⟨by decide, by decide⟩ ⟨by decide, by decide⟩ ⟨by decide, by decide⟩ (mv_noH hno _) (fun σ16 h16 => ?_)
  subst h16
  refine mv_aload_n (pc := 19) B d_Shipped_shift_19 rfl 0 rfl ?_
  refine mv_aload_n (pc := 20) B d_Shipped_shift_20 rfl 2 rfl ?_
  obtain ⟨h4, eh4, hf⟩ := xev_e hf
  refine mv_callVv (pc := 21) (n := 1) (ci := 10) (C := R_Shipped) B (mK_ok sk sv) hNs rfl rfl (cx_Shipped_put l hi _ hb _ _ ha1 eh4) rfl (ma_goodc kc_Shipped_put) (B.2.2.2.1 _ k_541) (B.2.2.2.1 _ k_543) (B.2.2.2.1 _ ks_3) (B.2.2.2.1 _ k_35) ⟨by decide +kernel, by decide +kernel, by decide +kernel⟩ rfl d_Shipped_shift_21 rfl (Nat.le_of_ble_eq_true rfl) ⟨by decide, by decide⟩ ⟨by decide, by decide⟩ ⟨by decide, by decide⟩ (mv_noH hno _) (fun σ21 h21 => ?_)
  subst h21
  refine mv_aload_n (pc := 24) B d_Shipped_shift_24 rfl 0 rfl ?_
  refine mv_ldcwS (pc := 25) B (hNs.2.1 80 (by decide)).1 d_Shipped_shift_25 ?_
  obtain ⟨h5, eh5, hf⟩ := xev_e hf
  refine mv_callVv (pc := 28) (n := 1) (ci := 10) (C := R_Shipped) B (mK_ok sk sv) hNs rfl rfl (cx_Shipped_put l hi _ hb _ _ (by decide) eh5) rfl (ma_goodc kc_Shipped_put) (B.2.2.2.1 _ k_541) (B.2.2.2.1 _ k_543) (B.2.2.2.1 _ ks_3) (B.2.2.2.1 _ k_35) ⟨by decide +kernel, by decide +kernel, by decide +kernel⟩ rfl d_Shipped_shift_28 rfl (Nat.le_of_ble_eq_true rfl) ⟨by decide, by decide⟩ ⟨by decide, by decide⟩ ⟨by decide, by decide⟩ (mv_noH hno _) (fun σ28 h28 => ?_)
  subst h28
  refine mv_aload_n (pc := 31) B d_Shipped_shift_31 rfl 0 rfl ?_
  refine mv_aload_n (pc := 32) B d_Shipped_shift_32 rfl 3 rfl ?_
  obtain ⟨h6, eh6, hf⟩ := xev_e hf
  refine mv_callVv (pc := 33) (n := 1) (ci := 10) (C := R_Shipped) B (mK_ok sk sv) hNs rfl rfl (cx_Shipped_put l hi _ hb _ _ ha2 eh6) rfl (ma_goodc kc_Shipped_put) (B.2.2.2.1 _ k_541) (B.2.2.2.1 _ k_543) (B.2.2.2.1 _ ks_3) (B.2.2.2.1 _ k_35) ⟨by decide +kernel, by decide +kernel, by decide +kernel⟩ rfl d_Shipped_shift_33 rfl (Nat.le_of_ble_eq_true rfl) ⟨by decide, by decide⟩ ⟨by decide, by decide⟩ ⟨by decide, by decide⟩ (mv_noH hno _) (fun σ33 h33 => ?_)
  subst h33
  refine mv_aload_n (pc := 36) B d_Shipped_shift_36 rfl 0 rfl ?_
  refine mv_ldcwS (pc := 37) B (hNs.2.1 159 (by decide)).1 d_Shipped_shift_37 ?_
  obtain ⟨h7, eh7, hf⟩ := xev_e hf
  refine mv_callVv (pc := 40) (n := 1) (ci := 10) (C := R_Shipped) B (mK_ok sk sv) hNs rfl rfl (cx_Shipped_put l hi _ hb _ _ (by decide) eh7) rfl (ma_goodc kc_Shipped_put) (B.2.2.2.1 _ k_541) (B.2.2.2.1 _ k_543) (B.2.2.2.1 _ ks_3) (B.2.2.2.1 _ k_35) ⟨by decide +kernel, by decide +kernel, by decide +kernel⟩ rfl d_Shipped_shift_40 rfl (Nat.le_of_ble_eq_true rfl) ⟨by decide, by decide⟩ ⟨by decide, by decide⟩ ⟨by decide, by decide⟩ (mv_noH hno _) (fun σ40 h40 => ?_)
  subst h40
  refine mv_aload_n (pc := 43) B d_Shipped_shift_43 rfl 0 rfl ?_
  refine mv_aload (pc := 44) B d_Shipped_shift_44 4 rfl ?_
  obtain ⟨h8, eh8, hf⟩ := xev_e hf
  refine mv_callVv (pc := 46) (n := 1) (ci := 10) (C := R_Shipped) B (mK_ok sk sv) hNs rfl rfl (cx_Shipped_result l hi _ hb _ _ ha3 eh8) rfl (ma_goodc kc_Shipped_result) (B.2.2.2.1 _ k_686) (B.2.2.2.1 _ k_688) (B.2.2.2.1 _ ks_11) (B.2.2.2.1 _ k_35) ⟨by decide +kernel, by decide +kernel, by decide +kernel⟩ rfl d_Shipped_shift_46 rfl (Nat.le_of_ble_eq_true rfl) ⟨by decide, by decide⟩ ⟨by decide, by decide⟩ ⟨by decide, by decide⟩ (mv_noH hno _) (fun σ46 h46 => ?_)
  subst h46
  exact mv_vret (pc := 49) B hr d_Shipped_shift_49 (Nat.le_refl _) (Nat.le_refl _) ⟨rfl, xret_v hf⟩
def g_Shipped_ofTwo (h : xE) (a0 : Nat) (a1 : Nat) (a2 : Nat) (a3 : Nat) : Option xE := xev (g_Shipped_put h 79) fun h1 => xev (g_Shipped_put h1 a0) fun h2 => xev (g_Shipped_put h2 157) fun h3 => xev (g_Shipped_put h3 a1) fun h4 => xev (g_Shipped_put h4 88) fun h5 => xev (g_Shipped_put h5 a2) fun h6 => xev (g_Shipped_put h6 160) fun h7 => xev (g_Shipped_result h7 a3) fun h8 => some h8
set_option maxHeartbeats 4000000 in
set_option maxRecDepth 100000 in
theorem cx_Shipped_ofTwo (l : Launch) {dA : FieldType → ClassId} {D : va_G} {al : Nat → Nat} {sk sv : Nat → Nat} (hi : mv_inj (mg dA D al me2)) (b : mv_H) (hb : mv_r b 143 0 = some 144) (h : xE) (a0 : Nat) (a1 : Nat) (a2 : Nat) (a3 : Nat) (ha0 : a0 < st_t.length) (ha1 : a1 < st_t.length) (ha2 : a2 < st_t.length) (ha3 : a3 < st_t.length) {rg : xE} (hf : g_Shipped_ofTwo h a0 a1 a2 a3 = some rg) : mv_C l y_Shipped_ofTwo (Cond.code y_Shipped_ofTwo b_Shipped_ofTwo 5 (Option.none : Option Jvm.ClassFile.FieldType) :: ma) ({ frames := 6, cells := 0, slots := 0, locals := 128 }) (mg dA D al me2) (mK sk sv) [.ref (al 143), .ref (sk a0), .ref (sk a1), .ref (sk a2), .ref (sk a3)] (ab b h) (mv_Rv (fun σ1 => σ1 = ab b rg)) := by
  refine mv_C.ofV (cc := b_Shipped_ofTwo) (nL := 5) (ret := (Option.none : Option Jvm.ClassFile.FieldType)) (by decide +kernel) rfl hi (Nat.le_of_ble_eq_true rfl) ?_
  intro p e s m below meth c B hNs hr hnm hno
  unfold g_Shipped_ofTwo at hf
  refine mv_aload_n (pc := 0) B d_Shipped_ofTwo_0 rfl 0 rfl ?_
  refine mv_ldcwS (pc := 1) B (hNs.2.1 79 (by decide)).1 d_Shipped_ofTwo_1 ?_
  obtain ⟨h1, eh1, hf⟩ := xev_e hf
  refine mv_callVv (pc := 4) (n := 1) (ci := 10) (C := R_Shipped) B (mK_ok sk sv) hNs rfl rfl (cx_Shipped_put l hi _ hb _ _ (by decide) eh1) rfl (ma_goodc kc_Shipped_put) (B.2.2.2.1 _ k_541) (B.2.2.2.1 _ k_543) (B.2.2.2.1 _ ks_3) (B.2.2.2.1 _ k_35) ⟨by decide +kernel, by decide +kernel, by decide +kernel⟩ rfl d_Shipped_ofTwo_4 rfl (Nat.le_of_ble_eq_true rfl) ⟨by decide, by decide⟩ ⟨by decide, by decide⟩ ⟨by decide, by decide⟩ (mv_noH hno _) (fun σ4 h4 => ?_)
  subst h4
  refine mv_aload_n (pc := 7) B d_Shipped_ofTwo_7 rfl 0 rfl ?_
  refine mv_aload_n (pc := 8) B d_Shipped_ofTwo_8 rfl 1 rfl ?_
  obtain ⟨h2, eh2, hf⟩ := xev_e hf
  refine mv_callVv (pc := 9) (n := 1) (ci := 10) (C := R_Shipped) B (mK_ok sk sv) hNs rfl rfl (cx_Shipped_put l hi _ hb _ _ ha0 eh2) rfl (ma_goodc kc_Shipped_put) (B.2.2.2.1 _ k_541) (B.2.2.2.1 _ k_543) (B.2.2.2.1 _ ks_3) (B.2.2.2.1 _ k_35) ⟨by decide +kernel, by decide +kernel, by decide +kernel⟩ rfl d_Shipped_ofTwo_9 rfl (Nat.le_of_ble_eq_true rfl) ⟨by decide, by decide⟩ ⟨by decide, by decide⟩ ⟨by decide, by decide⟩ (mv_noH hno _) (fun σ9 h9 => ?_)
  subst h9
  refine mv_aload_n (pc := 12) B d_Shipped_ofTwo_12 rfl 0 rfl ?_
  refine mv_ldcwS (pc := 13) B (hNs.2.1 157 (by decide)).1 d_Shipped_ofTwo_13 ?_
  obtain ⟨h3, eh3, hf⟩ := xev_e hf
  refine mv_callVv (pc := 16) (n := 1) (ci := 10) (C := R_Shipped) B (mK_ok sk sv) hNs rfl rfl (cx_Shipped_put l hi _ hb _ _ (by decide) eh3) rfl (ma_goodc kc_Shipped_put) (B.2.2.2.1 _ k_541) (B.2.2.2.1 _ k_543) (B.2.2.2.1 _ ks_3) (B.2.2.2.1 _ k_35) ⟨by decide +kernel, by decide +kernel, by decide +kernel⟩ rfl d_Shipped_ofTwo_16 rfl (Nat.le_of_ble_eq_true rfl) ⟨by decide, by decide⟩ ⟨by decide, by decide⟩ ⟨by decide, by decide⟩ (mv_noH hno _) (fun σ16 h16 => ?_)
  subst h16
  refine mv_aload_n (pc := 19) B d_Shipped_ofTwo_19 rfl 0 rfl ?_
  refine mv_aload_n (pc := 20) B d_Shipped_ofTwo_20 rfl 2 rfl ?_
  obtain ⟨h4, eh4, hf⟩ := xev_e hf
  refine mv_callVv (pc := 21) (n := 1) (ci := 10) (C := R_Shipped) B (mK_ok sk sv) hNs rfl rfl (cx_Shipped_put l hi _ hb _ _ ha1 eh4) rfl (ma_goodc kc_Shipped_put) (B.2.2.2.1 _ k_541) (B.2.2.2.1 _ k_543) (B.2.2.2.1 _ ks_3) (B.2.2.2.1 _ k_35) ⟨by decide +kernel, by decide +kernel, by decide +kernel⟩ rfl d_Shipped_ofTwo_21 rfl (Nat.le_of_ble_eq_true rfl) ⟨by decide, by decide⟩ ⟨by decide, by decide⟩ ⟨by decide, by decide⟩ (mv_noH hno _) (fun σ21 h21 => ?_)
  subst h21
  refine mv_aload_n (pc := 24) B d_Shipped_ofTwo_24 rfl 0 rfl ?_
  refine mv_ldcwS (pc := 25) B (hNs.2.1 88 (by decide)).1 d_Shipped_ofTwo_25 ?_
  obtain ⟨h5, eh5, hf⟩ := xev_e hf
  refine mv_callVv (pc := 28) (n := 1) (ci := 10) (C := R_Shipped) B (mK_ok sk sv) hNs rfl rfl (cx_Shipped_put l hi _ hb _ _ (by decide) eh5) rfl (ma_goodc kc_Shipped_put) (B.2.2.2.1 _ k_541) (B.2.2.2.1 _ k_543) (B.2.2.2.1 _ ks_3) (B.2.2.2.1 _ k_35) ⟨by decide +kernel, by decide +kernel, by decide +kernel⟩ rfl d_Shipped_ofTwo_28 rfl (Nat.le_of_ble_eq_true rfl) ⟨by decide, by decide⟩ ⟨by decide, by decide⟩ ⟨by decide, by decide⟩ (mv_noH hno _) (fun σ28 h28 => ?_)
  subst h28
  refine mv_aload_n (pc := 31) B d_Shipped_ofTwo_31 rfl 0 rfl ?_
  refine mv_aload_n (pc := 32) B d_Shipped_ofTwo_32 rfl 3 rfl ?_
  obtain ⟨h6, eh6, hf⟩ := xev_e hf
  refine mv_callVv (pc := 33) (n := 1) (ci := 10) (C := R_Shipped) B (mK_ok sk sv) hNs rfl rfl (cx_Shipped_put l hi _ hb _ _ ha2 eh6) rfl (ma_goodc kc_Shipped_put) (B.2.2.2.1 _ k_541) (B.2.2.2.1 _ k_543) (B.2.2.2.1 _ ks_3) (B.2.2.2.1 _ k_35) ⟨by decide +kernel, by decide +kernel, by decide +kernel⟩ rfl d_Shipped_ofTwo_33 rfl (Nat.le_of_ble_eq_true rfl) ⟨by decide, by decide⟩ ⟨by decide, by decide⟩ ⟨by decide, by decide⟩ (mv_noH hno _) (fun σ33 h33 => ?_)
  subst h33
  refine mv_aload_n (pc := 36) B d_Shipped_ofTwo_36 rfl 0 rfl ?_
  refine mv_ldcwS (pc := 37) B (hNs.2.1 160 (by decide)).1 d_Shipped_ofTwo_37 ?_
  obtain ⟨h7, eh7, hf⟩ := xev_e hf
  refine mv_callVv (pc := 40) (n := 1) (ci := 10) (C := R_Shipped) B (mK_ok sk sv) hNs rfl rfl (cx_Shipped_put l hi _ hb _ _ (by decide) eh7) rfl (ma_goodc kc_Shipped_put) (B.2.2.2.1 _ k_541) (B.2.2.2.1 _ k_543) (B.2.2.2.1 _ ks_3) (B.2.2.2.1 _ k_35) ⟨by decide +kernel, by decide +kernel, by decide +kernel⟩ rfl d_Shipped_ofTwo_40 rfl (Nat.le_of_ble_eq_true rfl) ⟨by decide, by decide⟩ ⟨by decide, by decide⟩ ⟨by decide, by decide⟩ (mv_noH hno _) (fun σ40 h40 => ?_)
  subst h40
  refine mv_aload_n (pc := 43) B d_Shipped_ofTwo_43 rfl 0 rfl ?_
  refine mv_aload (pc := 44) B d_Shipped_ofTwo_44 4 rfl ?_
  obtain ⟨h8, eh8, hf⟩ := xev_e hf
  refine mv_callVv (pc := 46) (n := 1) (ci := 10) (C := R_Shipped) B (mK_ok sk sv) hNs rfl rfl (cx_Shipped_result l hi _ hb _ _ ha3 eh8) rfl (ma_goodc kc_Shipped_result) (B.2.2.2.1 _ k_686) (B.2.2.2.1 _ k_688) (B.2.2.2.1 _ ks_11) (B.2.2.2.1 _ k_35) ⟨by decide +kernel, by decide +kernel, by decide +kernel⟩ rfl d_Shipped_ofTwo_46 rfl (Nat.le_of_ble_eq_true rfl) ⟨by decide, by decide⟩ ⟨by decide, by decide⟩ ⟨by decide, by decide⟩ (mv_noH hno _) (fun σ46 h46 => ?_)
  subst h46
  exact mv_vret (pc := 49) B hr d_Shipped_ofTwo_49 (Nat.le_refl _) (Nat.le_refl _) ⟨rfl, xret_v hf⟩
def g_Shipped_writeOfConstants (h : xE) : Option xE := xev (g_Shipped_constant h 61 17 62) fun h1 => xev (g_Shipped_constant h1 65 47 66) fun h2 => xev (g_Shipped_constant h2 67 68 69) fun h3 => xev (g_Shipped_constant h3 70 27 71) fun h4 => xev (g_Shipped_constant h4 72 33 73) fun h5 => xev (g_Shipped_constant h5 74 36 75) fun h6 => xev (g_Shipped_shift h6 76 77 24 78) fun h7 => xev (g_Shipped_shift h7 81 77 30 82) fun h8 => xev (g_Shipped_shift h8 83 84 30 85) fun h9 => some h9
set_option maxHeartbeats 4000000 in
set_option maxRecDepth 100000 in
theorem cx_Shipped_writeOfConstants (l : Launch) {dA : FieldType → ClassId} {D : va_G} {al : Nat → Nat} {sk sv : Nat → Nat} (hi : mv_inj (mg dA D al me2)) (b : mv_H) (hb : mv_r b 143 0 = some 144) (h : xE) {rg : xE} (hf : g_Shipped_writeOfConstants h = some rg) : mv_C l y_Shipped_writeOfConstants (Cond.code y_Shipped_writeOfConstants b_Shipped_writeOfConstants 1 (Option.none : Option Jvm.ClassFile.FieldType) :: ma) ({ frames := 7, cells := 0, slots := 0, locals := 154 }) (mg dA D al me2) (mK sk sv) [.ref (al 143)] (ab b h) (mv_Rv (fun σ1 => σ1 = ab b rg)) := by
  refine mv_C.ofV (cc := b_Shipped_writeOfConstants) (nL := 1) (ret := (Option.none : Option Jvm.ClassFile.FieldType)) (by decide +kernel) rfl hi (Nat.le_of_ble_eq_true rfl) ?_
  intro p e s m below meth c B hNs hr hnm hno
  unfold g_Shipped_writeOfConstants at hf
  refine mv_aload_n (pc := 0) B d_Shipped_writeOfConstants_0 rfl 0 rfl ?_
  refine mv_ldcS (pc := 1) B (hNs.2.1 61 (by decide)).1 d_Shipped_writeOfConstants_1 ?_
  refine mv_ldcS (pc := 3) B (hNs.2.1 17 (by decide)).1 d_Shipped_writeOfConstants_3 ?_
  refine mv_ldcS (pc := 5) B (hNs.2.1 62 (by decide)).1 d_Shipped_writeOfConstants_5 ?_
  obtain ⟨h1, eh1, hf⟩ := xev_e hf
  refine mv_callVv (pc := 7) (n := 3) (ci := 10) (C := R_Shipped) B (mK_ok sk sv) hNs rfl rfl (cx_Shipped_constant l hi _ hb _ _ _ _ (by decide) (by decide) (by decide) eh1) rfl (ma_goodc kc_Shipped_constant) (B.2.2.2.1 _ k_681) (B.2.2.2.1 _ k_683) (B.2.2.2.1 _ ks_10) (B.2.2.2.1 _ k_35) ⟨by decide +kernel, by decide +kernel, by decide +kernel⟩ rfl d_Shipped_writeOfConstants_7 rfl (Nat.le_of_ble_eq_true rfl) ⟨by decide, by decide⟩ ⟨by decide, by decide⟩ ⟨by decide, by decide⟩ (mv_noH hno _) (fun σ7 h7 => ?_)
  subst h7
  refine mv_aload_n (pc := 10) B d_Shipped_writeOfConstants_10 rfl 0 rfl ?_
  refine mv_ldcS (pc := 11) B (hNs.2.1 65 (by decide)).1 d_Shipped_writeOfConstants_11 ?_
  refine mv_ldcS (pc := 13) B (hNs.2.1 47 (by decide)).1 d_Shipped_writeOfConstants_13 ?_
  refine mv_ldcS (pc := 15) B (hNs.2.1 66 (by decide)).1 d_Shipped_writeOfConstants_15 ?_
  obtain ⟨h2, eh2, hf⟩ := xev_e hf
  refine mv_callVv (pc := 17) (n := 3) (ci := 10) (C := R_Shipped) B (mK_ok sk sv) hNs rfl rfl (cx_Shipped_constant l hi _ hb _ _ _ _ (by decide) (by decide) (by decide) eh2) rfl (ma_goodc kc_Shipped_constant) (B.2.2.2.1 _ k_681) (B.2.2.2.1 _ k_683) (B.2.2.2.1 _ ks_10) (B.2.2.2.1 _ k_35) ⟨by decide +kernel, by decide +kernel, by decide +kernel⟩ rfl d_Shipped_writeOfConstants_17 rfl (Nat.le_of_ble_eq_true rfl) ⟨by decide, by decide⟩ ⟨by decide, by decide⟩ ⟨by decide, by decide⟩ (mv_noH hno _) (fun σ17 h17 => ?_)
  subst h17
  refine mv_aload_n (pc := 20) B d_Shipped_writeOfConstants_20 rfl 0 rfl ?_
  refine mv_ldcS (pc := 21) B (hNs.2.1 67 (by decide)).1 d_Shipped_writeOfConstants_21 ?_
  refine mv_ldcS (pc := 23) B (hNs.2.1 68 (by decide)).1 d_Shipped_writeOfConstants_23 ?_
  refine mv_ldcS (pc := 25) B (hNs.2.1 69 (by decide)).1 d_Shipped_writeOfConstants_25 ?_
  obtain ⟨h3, eh3, hf⟩ := xev_e hf
  refine mv_callVv (pc := 27) (n := 3) (ci := 10) (C := R_Shipped) B (mK_ok sk sv) hNs rfl rfl (cx_Shipped_constant l hi _ hb _ _ _ _ (by decide) (by decide) (by decide) eh3) rfl (ma_goodc kc_Shipped_constant) (B.2.2.2.1 _ k_681) (B.2.2.2.1 _ k_683) (B.2.2.2.1 _ ks_10) (B.2.2.2.1 _ k_35) ⟨by decide +kernel, by decide +kernel, by decide +kernel⟩ rfl d_Shipped_writeOfConstants_27 rfl (Nat.le_of_ble_eq_true rfl) ⟨by decide, by decide⟩ ⟨by decide, by decide⟩ ⟨by decide, by decide⟩ (mv_noH hno _) (fun σ27 h27 => ?_)
  subst h27
  refine mv_aload_n (pc := 30) B d_Shipped_writeOfConstants_30 rfl 0 rfl ?_
  refine mv_ldcS (pc := 31) B (hNs.2.1 70 (by decide)).1 d_Shipped_writeOfConstants_31 ?_
  refine mv_ldcS (pc := 33) B (hNs.2.1 27 (by decide)).1 d_Shipped_writeOfConstants_33 ?_
  refine mv_ldcS (pc := 35) B (hNs.2.1 71 (by decide)).1 d_Shipped_writeOfConstants_35 ?_
  obtain ⟨h4, eh4, hf⟩ := xev_e hf
  refine mv_callVv (pc := 37) (n := 3) (ci := 10) (C := R_Shipped) B (mK_ok sk sv) hNs rfl rfl (cx_Shipped_constant l hi _ hb _ _ _ _ (by decide) (by decide) (by decide) eh4) rfl (ma_goodc kc_Shipped_constant) (B.2.2.2.1 _ k_681) (B.2.2.2.1 _ k_683) (B.2.2.2.1 _ ks_10) (B.2.2.2.1 _ k_35) ⟨by decide +kernel, by decide +kernel, by decide +kernel⟩ rfl d_Shipped_writeOfConstants_37 rfl (Nat.le_of_ble_eq_true rfl) ⟨by decide, by decide⟩ ⟨by decide, by decide⟩ ⟨by decide, by decide⟩ (mv_noH hno _) (fun σ37 h37 => ?_)
  subst h37
  refine mv_aload_n (pc := 40) B d_Shipped_writeOfConstants_40 rfl 0 rfl ?_
  refine mv_ldcS (pc := 41) B (hNs.2.1 72 (by decide)).1 d_Shipped_writeOfConstants_41 ?_
  refine mv_ldcS (pc := 43) B (hNs.2.1 33 (by decide)).1 d_Shipped_writeOfConstants_43 ?_
  refine mv_ldcS (pc := 45) B (hNs.2.1 73 (by decide)).1 d_Shipped_writeOfConstants_45 ?_
  obtain ⟨h5, eh5, hf⟩ := xev_e hf
  refine mv_callVv (pc := 47) (n := 3) (ci := 10) (C := R_Shipped) B (mK_ok sk sv) hNs rfl rfl (cx_Shipped_constant l hi _ hb _ _ _ _ (by decide) (by decide) (by decide) eh5) rfl (ma_goodc kc_Shipped_constant) (B.2.2.2.1 _ k_681) (B.2.2.2.1 _ k_683) (B.2.2.2.1 _ ks_10) (B.2.2.2.1 _ k_35) ⟨by decide +kernel, by decide +kernel, by decide +kernel⟩ rfl d_Shipped_writeOfConstants_47 rfl (Nat.le_of_ble_eq_true rfl) ⟨by decide, by decide⟩ ⟨by decide, by decide⟩ ⟨by decide, by decide⟩ (mv_noH hno _) (fun σ47 h47 => ?_)
  subst h47
  refine mv_aload_n (pc := 50) B d_Shipped_writeOfConstants_50 rfl 0 rfl ?_
  refine mv_ldcS (pc := 51) B (hNs.2.1 74 (by decide)).1 d_Shipped_writeOfConstants_51 ?_
  refine mv_ldcS (pc := 53) B (hNs.2.1 36 (by decide)).1 d_Shipped_writeOfConstants_53 ?_
  refine mv_ldcS (pc := 55) B (hNs.2.1 75 (by decide)).1 d_Shipped_writeOfConstants_55 ?_
  obtain ⟨h6, eh6, hf⟩ := xev_e hf
  refine mv_callVv (pc := 57) (n := 3) (ci := 10) (C := R_Shipped) B (mK_ok sk sv) hNs rfl rfl (cx_Shipped_constant l hi _ hb _ _ _ _ (by decide) (by decide) (by decide) eh6) rfl (ma_goodc kc_Shipped_constant) (B.2.2.2.1 _ k_681) (B.2.2.2.1 _ k_683) (B.2.2.2.1 _ ks_10) (B.2.2.2.1 _ k_35) ⟨by decide +kernel, by decide +kernel, by decide +kernel⟩ rfl d_Shipped_writeOfConstants_57 rfl (Nat.le_of_ble_eq_true rfl) ⟨by decide, by decide⟩ ⟨by decide, by decide⟩ ⟨by decide, by decide⟩ (mv_noH hno _) (fun σ57 h57 => ?_)
  subst h57
  refine mv_aload_n (pc := 60) B d_Shipped_writeOfConstants_60 rfl 0 rfl ?_
  refine mv_ldcS (pc := 61) B (hNs.2.1 76 (by decide)).1 d_Shipped_writeOfConstants_61 ?_
  refine mv_ldcS (pc := 63) B (hNs.2.1 77 (by decide)).1 d_Shipped_writeOfConstants_63 ?_
  refine mv_ldcS (pc := 65) B (hNs.2.1 24 (by decide)).1 d_Shipped_writeOfConstants_65 ?_
  refine mv_ldcS (pc := 67) B (hNs.2.1 78 (by decide)).1 d_Shipped_writeOfConstants_67 ?_
  obtain ⟨h7, eh7, hf⟩ := xev_e hf
  refine mv_callVv (pc := 69) (n := 4) (ci := 10) (C := R_Shipped) B (mK_ok sk sv) hNs rfl rfl (cx_Shipped_shift l hi _ hb _ _ _ _ _ (by decide) (by decide) (by decide) (by decide) eh7) rfl (ma_goodc kc_Shipped_shift) (B.2.2.2.1 _ k_705) (B.2.2.2.1 _ k_707) (B.2.2.2.1 _ ks_12) (B.2.2.2.1 _ k_35) ⟨by decide +kernel, by decide +kernel, by decide +kernel⟩ rfl d_Shipped_writeOfConstants_69 rfl (Nat.le_of_ble_eq_true rfl) ⟨by decide, by decide⟩ ⟨by decide, by decide⟩ ⟨by decide, by decide⟩ (mv_noH hno _) (fun σ69 h69 => ?_)
  subst h69
  refine mv_aload_n (pc := 72) B d_Shipped_writeOfConstants_72 rfl 0 rfl ?_
  refine mv_ldcS (pc := 73) B (hNs.2.1 81 (by decide)).1 d_Shipped_writeOfConstants_73 ?_
  refine mv_ldcS (pc := 75) B (hNs.2.1 77 (by decide)).1 d_Shipped_writeOfConstants_75 ?_
  refine mv_ldcS (pc := 77) B (hNs.2.1 30 (by decide)).1 d_Shipped_writeOfConstants_77 ?_
  refine mv_ldcS (pc := 79) B (hNs.2.1 82 (by decide)).1 d_Shipped_writeOfConstants_79 ?_
  obtain ⟨h8, eh8, hf⟩ := xev_e hf
  refine mv_callVv (pc := 81) (n := 4) (ci := 10) (C := R_Shipped) B (mK_ok sk sv) hNs rfl rfl (cx_Shipped_shift l hi _ hb _ _ _ _ _ (by decide) (by decide) (by decide) (by decide) eh8) rfl (ma_goodc kc_Shipped_shift) (B.2.2.2.1 _ k_705) (B.2.2.2.1 _ k_707) (B.2.2.2.1 _ ks_12) (B.2.2.2.1 _ k_35) ⟨by decide +kernel, by decide +kernel, by decide +kernel⟩ rfl d_Shipped_writeOfConstants_81 rfl (Nat.le_of_ble_eq_true rfl) ⟨by decide, by decide⟩ ⟨by decide, by decide⟩ ⟨by decide, by decide⟩ (mv_noH hno _) (fun σ81 h81 => ?_)
  subst h81
  refine mv_aload_n (pc := 84) B d_Shipped_writeOfConstants_84 rfl 0 rfl ?_
  refine mv_ldcS (pc := 85) B (hNs.2.1 83 (by decide)).1 d_Shipped_writeOfConstants_85 ?_
  refine mv_ldcS (pc := 87) B (hNs.2.1 84 (by decide)).1 d_Shipped_writeOfConstants_87 ?_
  refine mv_ldcS (pc := 89) B (hNs.2.1 30 (by decide)).1 d_Shipped_writeOfConstants_89 ?_
  refine mv_ldcS (pc := 91) B (hNs.2.1 85 (by decide)).1 d_Shipped_writeOfConstants_91 ?_
  obtain ⟨h9, eh9, hf⟩ := xev_e hf
  refine mv_callVv (pc := 93) (n := 4) (ci := 10) (C := R_Shipped) B (mK_ok sk sv) hNs rfl rfl (cx_Shipped_shift l hi _ hb _ _ _ _ _ (by decide) (by decide) (by decide) (by decide) eh9) rfl (ma_goodc kc_Shipped_shift) (B.2.2.2.1 _ k_705) (B.2.2.2.1 _ k_707) (B.2.2.2.1 _ ks_12) (B.2.2.2.1 _ k_35) ⟨by decide +kernel, by decide +kernel, by decide +kernel⟩ rfl d_Shipped_writeOfConstants_93 rfl (Nat.le_of_ble_eq_true rfl) ⟨by decide, by decide⟩ ⟨by decide, by decide⟩ ⟨by decide, by decide⟩ (mv_noH hno _) (fun σ93 h93 => ?_)
  subst h93
  exact mv_vret (pc := 96) B hr d_Shipped_writeOfConstants_96 (Nat.le_refl _) (Nat.le_refl _) ⟨rfl, xret_v hf⟩
def g_Shipped_writeOfTwo (h : xE) : Option xE := xev (g_Shipped_ofTwo h 86 77 17 87) fun h1 => xev (g_Shipped_ofTwo h1 89 84 17 90) fun h2 => xev (g_Shipped_ofTwo h2 91 77 24 92) fun h3 => xev (g_Shipped_ofTwo h3 93 77 47 94) fun h4 => xev (g_Shipped_ofTwo h4 95 77 68 96) fun h5 => xev (g_Shipped_ofTwo h5 97 77 27 98) fun h6 => xev (g_Shipped_ofTwo h6 99 77 30 100) fun h7 => xev (g_Shipped_ofTwo h7 101 84 30 102) fun h8 => xev (g_Shipped_ofTwo h8 103 77 33 104) fun h9 => xev (g_Shipped_ofTwo h9 105 77 36 106) fun h10 => some h10
set_option maxHeartbeats 4000000 in
set_option maxRecDepth 100000 in
theorem cx_Shipped_writeOfTwo (l : Launch) {dA : FieldType → ClassId} {D : va_G} {al : Nat → Nat} {sk sv : Nat → Nat} (hi : mv_inj (mg dA D al me2)) (b : mv_H) (hb : mv_r b 143 0 = some 144) (h : xE) {rg : xE} (hf : g_Shipped_writeOfTwo h = some rg) : mv_C l y_Shipped_writeOfTwo (Cond.code y_Shipped_writeOfTwo b_Shipped_writeOfTwo 1 (Option.none : Option Jvm.ClassFile.FieldType) :: ma) ({ frames := 7, cells := 0, slots := 0, locals := 152 }) (mg dA D al me2) (mK sk sv) [.ref (al 143)] (ab b h) (mv_Rv (fun σ1 => σ1 = ab b rg)) := by
  refine mv_C.ofV (cc := b_Shipped_writeOfTwo) (nL := 1) (ret := (Option.none : Option Jvm.ClassFile.FieldType)) (by decide +kernel) rfl hi (Nat.le_of_ble_eq_true rfl) ?_
  intro p e s m below meth c B hNs hr hnm hno
  unfold g_Shipped_writeOfTwo at hf
  refine mv_aload_n (pc := 0) B d_Shipped_writeOfTwo_0 rfl 0 rfl ?_
  refine mv_ldcS (pc := 1) B (hNs.2.1 86 (by decide)).1 d_Shipped_writeOfTwo_1 ?_
  refine mv_ldcS (pc := 3) B (hNs.2.1 77 (by decide)).1 d_Shipped_writeOfTwo_3 ?_
  refine mv_ldcS (pc := 5) B (hNs.2.1 17 (by decide)).1 d_Shipped_writeOfTwo_5 ?_
  refine mv_ldcS (pc := 7) B (hNs.2.1 87 (by decide)).1 d_Shipped_writeOfTwo_7 ?_
  obtain ⟨h1, eh1, hf⟩ := xev_e hf
  refine mv_callVv (pc := 9) (n := 4) (ci := 10) (C := R_Shipped) B (mK_ok sk sv) hNs rfl rfl (cx_Shipped_ofTwo l hi _ hb _ _ _ _ _ (by decide) (by decide) (by decide) (by decide) eh1) rfl (ma_goodc kc_Shipped_ofTwo) (B.2.2.2.1 _ k_723) (B.2.2.2.1 _ k_725) (B.2.2.2.1 _ ks_14) (B.2.2.2.1 _ k_35) ⟨by decide +kernel, by decide +kernel, by decide +kernel⟩ rfl d_Shipped_writeOfTwo_9 rfl (Nat.le_of_ble_eq_true rfl) ⟨by decide, by decide⟩ ⟨by decide, by decide⟩ ⟨by decide, by decide⟩ (mv_noH hno _) (fun σ9 h9 => ?_)
  subst h9
  refine mv_aload_n (pc := 12) B d_Shipped_writeOfTwo_12 rfl 0 rfl ?_
  refine mv_ldcS (pc := 13) B (hNs.2.1 89 (by decide)).1 d_Shipped_writeOfTwo_13 ?_
  refine mv_ldcS (pc := 15) B (hNs.2.1 84 (by decide)).1 d_Shipped_writeOfTwo_15 ?_
  refine mv_ldcS (pc := 17) B (hNs.2.1 17 (by decide)).1 d_Shipped_writeOfTwo_17 ?_
  refine mv_ldcS (pc := 19) B (hNs.2.1 90 (by decide)).1 d_Shipped_writeOfTwo_19 ?_
  obtain ⟨h2, eh2, hf⟩ := xev_e hf
  refine mv_callVv (pc := 21) (n := 4) (ci := 10) (C := R_Shipped) B (mK_ok sk sv) hNs rfl rfl (cx_Shipped_ofTwo l hi _ hb _ _ _ _ _ (by decide) (by decide) (by decide) (by decide) eh2) rfl (ma_goodc kc_Shipped_ofTwo) (B.2.2.2.1 _ k_723) (B.2.2.2.1 _ k_725) (B.2.2.2.1 _ ks_14) (B.2.2.2.1 _ k_35) ⟨by decide +kernel, by decide +kernel, by decide +kernel⟩ rfl d_Shipped_writeOfTwo_21 rfl (Nat.le_of_ble_eq_true rfl) ⟨by decide, by decide⟩ ⟨by decide, by decide⟩ ⟨by decide, by decide⟩ (mv_noH hno _) (fun σ21 h21 => ?_)
  subst h21
  refine mv_aload_n (pc := 24) B d_Shipped_writeOfTwo_24 rfl 0 rfl ?_
  refine mv_ldcS (pc := 25) B (hNs.2.1 91 (by decide)).1 d_Shipped_writeOfTwo_25 ?_
  refine mv_ldcS (pc := 27) B (hNs.2.1 77 (by decide)).1 d_Shipped_writeOfTwo_27 ?_
  refine mv_ldcS (pc := 29) B (hNs.2.1 24 (by decide)).1 d_Shipped_writeOfTwo_29 ?_
  refine mv_ldcS (pc := 31) B (hNs.2.1 92 (by decide)).1 d_Shipped_writeOfTwo_31 ?_
  obtain ⟨h3, eh3, hf⟩ := xev_e hf
  refine mv_callVv (pc := 33) (n := 4) (ci := 10) (C := R_Shipped) B (mK_ok sk sv) hNs rfl rfl (cx_Shipped_ofTwo l hi _ hb _ _ _ _ _ (by decide) (by decide) (by decide) (by decide) eh3) rfl (ma_goodc kc_Shipped_ofTwo) (B.2.2.2.1 _ k_723) (B.2.2.2.1 _ k_725) (B.2.2.2.1 _ ks_14) (B.2.2.2.1 _ k_35) ⟨by decide +kernel, by decide +kernel, by decide +kernel⟩ rfl d_Shipped_writeOfTwo_33 rfl (Nat.le_of_ble_eq_true rfl) ⟨by decide, by decide⟩ ⟨by decide, by decide⟩ ⟨by decide, by decide⟩ (mv_noH hno _) (fun σ33 h33 => ?_)
  subst h33
  refine mv_aload_n (pc := 36) B d_Shipped_writeOfTwo_36 rfl 0 rfl ?_
  refine mv_ldcS (pc := 37) B (hNs.2.1 93 (by decide)).1 d_Shipped_writeOfTwo_37 ?_
  refine mv_ldcS (pc := 39) B (hNs.2.1 77 (by decide)).1 d_Shipped_writeOfTwo_39 ?_
  refine mv_ldcS (pc := 41) B (hNs.2.1 47 (by decide)).1 d_Shipped_writeOfTwo_41 ?_
  refine mv_ldcS (pc := 43) B (hNs.2.1 94 (by decide)).1 d_Shipped_writeOfTwo_43 ?_
  obtain ⟨h4, eh4, hf⟩ := xev_e hf
  refine mv_callVv (pc := 45) (n := 4) (ci := 10) (C := R_Shipped) B (mK_ok sk sv) hNs rfl rfl (cx_Shipped_ofTwo l hi _ hb _ _ _ _ _ (by decide) (by decide) (by decide) (by decide) eh4) rfl (ma_goodc kc_Shipped_ofTwo) (B.2.2.2.1 _ k_723) (B.2.2.2.1 _ k_725) (B.2.2.2.1 _ ks_14) (B.2.2.2.1 _ k_35) ⟨by decide +kernel, by decide +kernel, by decide +kernel⟩ rfl d_Shipped_writeOfTwo_45 rfl (Nat.le_of_ble_eq_true rfl) ⟨by decide, by decide⟩ ⟨by decide, by decide⟩ ⟨by decide, by decide⟩ (mv_noH hno _) (fun σ45 h45 => ?_)
  subst h45
  refine mv_aload_n (pc := 48) B d_Shipped_writeOfTwo_48 rfl 0 rfl ?_
  refine mv_ldcS (pc := 49) B (hNs.2.1 95 (by decide)).1 d_Shipped_writeOfTwo_49 ?_
  refine mv_ldcS (pc := 51) B (hNs.2.1 77 (by decide)).1 d_Shipped_writeOfTwo_51 ?_
  refine mv_ldcS (pc := 53) B (hNs.2.1 68 (by decide)).1 d_Shipped_writeOfTwo_53 ?_
  refine mv_ldcS (pc := 55) B (hNs.2.1 96 (by decide)).1 d_Shipped_writeOfTwo_55 ?_
  obtain ⟨h5, eh5, hf⟩ := xev_e hf
  refine mv_callVv (pc := 57) (n := 4) (ci := 10) (C := R_Shipped) B (mK_ok sk sv) hNs rfl rfl (cx_Shipped_ofTwo l hi _ hb _ _ _ _ _ (by decide) (by decide) (by decide) (by decide) eh5) rfl (ma_goodc kc_Shipped_ofTwo) (B.2.2.2.1 _ k_723) (B.2.2.2.1 _ k_725) (B.2.2.2.1 _ ks_14) (B.2.2.2.1 _ k_35) ⟨by decide +kernel, by decide +kernel, by decide +kernel⟩ rfl d_Shipped_writeOfTwo_57 rfl (Nat.le_of_ble_eq_true rfl) ⟨by decide, by decide⟩ ⟨by decide, by decide⟩ ⟨by decide, by decide⟩ (mv_noH hno _) (fun σ57 h57 => ?_)
  subst h57
  refine mv_aload_n (pc := 60) B d_Shipped_writeOfTwo_60 rfl 0 rfl ?_
  refine mv_ldcS (pc := 61) B (hNs.2.1 97 (by decide)).1 d_Shipped_writeOfTwo_61 ?_
  refine mv_ldcS (pc := 63) B (hNs.2.1 77 (by decide)).1 d_Shipped_writeOfTwo_63 ?_
  refine mv_ldcS (pc := 65) B (hNs.2.1 27 (by decide)).1 d_Shipped_writeOfTwo_65 ?_
  refine mv_ldcS (pc := 67) B (hNs.2.1 98 (by decide)).1 d_Shipped_writeOfTwo_67 ?_
  obtain ⟨h6, eh6, hf⟩ := xev_e hf
  refine mv_callVv (pc := 69) (n := 4) (ci := 10) (C := R_Shipped) B (mK_ok sk sv) hNs rfl rfl (cx_Shipped_ofTwo l hi _ hb _ _ _ _ _ (by decide) (by decide) (by decide) (by decide) eh6) rfl (ma_goodc kc_Shipped_ofTwo) (B.2.2.2.1 _ k_723) (B.2.2.2.1 _ k_725) (B.2.2.2.1 _ ks_14) (B.2.2.2.1 _ k_35) ⟨by decide +kernel, by decide +kernel, by decide +kernel⟩ rfl d_Shipped_writeOfTwo_69 rfl (Nat.le_of_ble_eq_true rfl) ⟨by decide, by decide⟩ ⟨by decide, by decide⟩ ⟨by decide, by decide⟩ (mv_noH hno _) (fun σ69 h69 => ?_)
  subst h69
  refine mv_aload_n (pc := 72) B d_Shipped_writeOfTwo_72 rfl 0 rfl ?_
  refine mv_ldcS (pc := 73) B (hNs.2.1 99 (by decide)).1 d_Shipped_writeOfTwo_73 ?_
  refine mv_ldcS (pc := 75) B (hNs.2.1 77 (by decide)).1 d_Shipped_writeOfTwo_75 ?_
  refine mv_ldcS (pc := 77) B (hNs.2.1 30 (by decide)).1 d_Shipped_writeOfTwo_77 ?_
  refine mv_ldcS (pc := 79) B (hNs.2.1 100 (by decide)).1 d_Shipped_writeOfTwo_79 ?_
  obtain ⟨h7, eh7, hf⟩ := xev_e hf
  refine mv_callVv (pc := 81) (n := 4) (ci := 10) (C := R_Shipped) B (mK_ok sk sv) hNs rfl rfl (cx_Shipped_ofTwo l hi _ hb _ _ _ _ _ (by decide) (by decide) (by decide) (by decide) eh7) rfl (ma_goodc kc_Shipped_ofTwo) (B.2.2.2.1 _ k_723) (B.2.2.2.1 _ k_725) (B.2.2.2.1 _ ks_14) (B.2.2.2.1 _ k_35) ⟨by decide +kernel, by decide +kernel, by decide +kernel⟩ rfl d_Shipped_writeOfTwo_81 rfl (Nat.le_of_ble_eq_true rfl) ⟨by decide, by decide⟩ ⟨by decide, by decide⟩ ⟨by decide, by decide⟩ (mv_noH hno _) (fun σ81 h81 => ?_)
  subst h81
  refine mv_aload_n (pc := 84) B d_Shipped_writeOfTwo_84 rfl 0 rfl ?_
  refine mv_ldcS (pc := 85) B (hNs.2.1 101 (by decide)).1 d_Shipped_writeOfTwo_85 ?_
  refine mv_ldcS (pc := 87) B (hNs.2.1 84 (by decide)).1 d_Shipped_writeOfTwo_87 ?_
  refine mv_ldcS (pc := 89) B (hNs.2.1 30 (by decide)).1 d_Shipped_writeOfTwo_89 ?_
  refine mv_ldcS (pc := 91) B (hNs.2.1 102 (by decide)).1 d_Shipped_writeOfTwo_91 ?_
  obtain ⟨h8, eh8, hf⟩ := xev_e hf
  refine mv_callVv (pc := 93) (n := 4) (ci := 10) (C := R_Shipped) B (mK_ok sk sv) hNs rfl rfl (cx_Shipped_ofTwo l hi _ hb _ _ _ _ _ (by decide) (by decide) (by decide) (by decide) eh8) rfl (ma_goodc kc_Shipped_ofTwo) (B.2.2.2.1 _ k_723) (B.2.2.2.1 _ k_725) (B.2.2.2.1 _ ks_14) (B.2.2.2.1 _ k_35) ⟨by decide +kernel, by decide +kernel, by decide +kernel⟩ rfl d_Shipped_writeOfTwo_93 rfl (Nat.le_of_ble_eq_true rfl) ⟨by decide, by decide⟩ ⟨by decide, by decide⟩ ⟨by decide, by decide⟩ (mv_noH hno _) (fun σ93 h93 => ?_)
  subst h93
  refine mv_aload_n (pc := 96) B d_Shipped_writeOfTwo_96 rfl 0 rfl ?_
  refine mv_ldcS (pc := 97) B (hNs.2.1 103 (by decide)).1 d_Shipped_writeOfTwo_97 ?_
  refine mv_ldcS (pc := 99) B (hNs.2.1 77 (by decide)).1 d_Shipped_writeOfTwo_99 ?_
  refine mv_ldcS (pc := 101) B (hNs.2.1 33 (by decide)).1 d_Shipped_writeOfTwo_101 ?_
  refine mv_ldcS (pc := 103) B (hNs.2.1 104 (by decide)).1 d_Shipped_writeOfTwo_103 ?_
  obtain ⟨h9, eh9, hf⟩ := xev_e hf
  refine mv_callVv (pc := 105) (n := 4) (ci := 10) (C := R_Shipped) B (mK_ok sk sv) hNs rfl rfl (cx_Shipped_ofTwo l hi _ hb _ _ _ _ _ (by decide) (by decide) (by decide) (by decide) eh9) rfl (ma_goodc kc_Shipped_ofTwo) (B.2.2.2.1 _ k_723) (B.2.2.2.1 _ k_725) (B.2.2.2.1 _ ks_14) (B.2.2.2.1 _ k_35) ⟨by decide +kernel, by decide +kernel, by decide +kernel⟩ rfl d_Shipped_writeOfTwo_105 rfl (Nat.le_of_ble_eq_true rfl) ⟨by decide, by decide⟩ ⟨by decide, by decide⟩ ⟨by decide, by decide⟩ (mv_noH hno _) (fun σ105 h105 => ?_)
  subst h105
  refine mv_aload_n (pc := 108) B d_Shipped_writeOfTwo_108 rfl 0 rfl ?_
  refine mv_ldcS (pc := 109) B (hNs.2.1 105 (by decide)).1 d_Shipped_writeOfTwo_109 ?_
  refine mv_ldcS (pc := 111) B (hNs.2.1 77 (by decide)).1 d_Shipped_writeOfTwo_111 ?_
  refine mv_ldcS (pc := 113) B (hNs.2.1 36 (by decide)).1 d_Shipped_writeOfTwo_113 ?_
  refine mv_ldcS (pc := 115) B (hNs.2.1 106 (by decide)).1 d_Shipped_writeOfTwo_115 ?_
  obtain ⟨h10, eh10, hf⟩ := xev_e hf
  refine mv_callVv (pc := 117) (n := 4) (ci := 10) (C := R_Shipped) B (mK_ok sk sv) hNs rfl rfl (cx_Shipped_ofTwo l hi _ hb _ _ _ _ _ (by decide) (by decide) (by decide) (by decide) eh10) rfl (ma_goodc kc_Shipped_ofTwo) (B.2.2.2.1 _ k_723) (B.2.2.2.1 _ k_725) (B.2.2.2.1 _ ks_14) (B.2.2.2.1 _ k_35) ⟨by decide +kernel, by decide +kernel, by decide +kernel⟩ rfl d_Shipped_writeOfTwo_117 rfl (Nat.le_of_ble_eq_true rfl) ⟨by decide, by decide⟩ ⟨by decide, by decide⟩ ⟨by decide, by decide⟩ (mv_noH hno _) (fun σ117 h117 => ?_)
  subst h117
  exact mv_vret (pc := 120) B hr d_Shipped_writeOfTwo_120 (Nat.le_refl _) (Nat.le_refl _) ⟨rfl, xret_v hf⟩
def g_Shipped_writeProducts (h : xE) : Option xE := xev (g_Shipped_ofTwo h 115 116 17 117) fun h1 => xev (g_Shipped_ofTwo h1 118 116 24 119) fun h2 => xev (g_Shipped_ofTwo h2 120 116 47 121) fun h3 => xev (g_Shipped_ofTwo h3 122 116 68 123) fun h4 => xev (g_Shipped_ofTwo h4 124 116 27 125) fun h5 => xev (g_Shipped_ofTwo h5 126 116 30 127) fun h6 => xev (g_Shipped_ofTwo h6 128 116 33 129) fun h7 => xev (g_Shipped_ofTwo h7 130 116 36 131) fun h8 => some h8
set_option maxHeartbeats 4000000 in
set_option maxRecDepth 100000 in
theorem cx_Shipped_writeProducts (l : Launch) {dA : FieldType → ClassId} {D : va_G} {al : Nat → Nat} {sk sv : Nat → Nat} (hi : mv_inj (mg dA D al me2)) (b : mv_H) (hb : mv_r b 143 0 = some 144) (h : xE) {rg : xE} (hf : g_Shipped_writeProducts h = some rg) : mv_C l y_Shipped_writeProducts (Cond.code y_Shipped_writeProducts b_Shipped_writeProducts 1 (Option.none : Option Jvm.ClassFile.FieldType) :: ma) ({ frames := 7, cells := 0, slots := 0, locals := 152 }) (mg dA D al me2) (mK sk sv) [.ref (al 143)] (ab b h) (mv_Rv (fun σ1 => σ1 = ab b rg)) := by
  refine mv_C.ofV (cc := b_Shipped_writeProducts) (nL := 1) (ret := (Option.none : Option Jvm.ClassFile.FieldType)) (by decide +kernel) rfl hi (Nat.le_of_ble_eq_true rfl) ?_
  intro p e s m below meth c B hNs hr hnm hno
  unfold g_Shipped_writeProducts at hf
  refine mv_aload_n (pc := 0) B d_Shipped_writeProducts_0 rfl 0 rfl ?_
  refine mv_ldcS (pc := 1) B (hNs.2.1 115 (by decide)).1 d_Shipped_writeProducts_1 ?_
  refine mv_ldcS (pc := 3) B (hNs.2.1 116 (by decide)).1 d_Shipped_writeProducts_3 ?_
  refine mv_ldcS (pc := 5) B (hNs.2.1 17 (by decide)).1 d_Shipped_writeProducts_5 ?_
  refine mv_ldcS (pc := 7) B (hNs.2.1 117 (by decide)).1 d_Shipped_writeProducts_7 ?_
  obtain ⟨h1, eh1, hf⟩ := xev_e hf
  refine mv_callVv (pc := 9) (n := 4) (ci := 10) (C := R_Shipped) B (mK_ok sk sv) hNs rfl rfl (cx_Shipped_ofTwo l hi _ hb _ _ _ _ _ (by decide) (by decide) (by decide) (by decide) eh1) rfl (ma_goodc kc_Shipped_ofTwo) (B.2.2.2.1 _ k_723) (B.2.2.2.1 _ k_725) (B.2.2.2.1 _ ks_14) (B.2.2.2.1 _ k_35) ⟨by decide +kernel, by decide +kernel, by decide +kernel⟩ rfl d_Shipped_writeProducts_9 rfl (Nat.le_of_ble_eq_true rfl) ⟨by decide, by decide⟩ ⟨by decide, by decide⟩ ⟨by decide, by decide⟩ (mv_noH hno _) (fun σ9 h9 => ?_)
  subst h9
  refine mv_aload_n (pc := 12) B d_Shipped_writeProducts_12 rfl 0 rfl ?_
  refine mv_ldcS (pc := 13) B (hNs.2.1 118 (by decide)).1 d_Shipped_writeProducts_13 ?_
  refine mv_ldcS (pc := 15) B (hNs.2.1 116 (by decide)).1 d_Shipped_writeProducts_15 ?_
  refine mv_ldcS (pc := 17) B (hNs.2.1 24 (by decide)).1 d_Shipped_writeProducts_17 ?_
  refine mv_ldcS (pc := 19) B (hNs.2.1 119 (by decide)).1 d_Shipped_writeProducts_19 ?_
  obtain ⟨h2, eh2, hf⟩ := xev_e hf
  refine mv_callVv (pc := 21) (n := 4) (ci := 10) (C := R_Shipped) B (mK_ok sk sv) hNs rfl rfl (cx_Shipped_ofTwo l hi _ hb _ _ _ _ _ (by decide) (by decide) (by decide) (by decide) eh2) rfl (ma_goodc kc_Shipped_ofTwo) (B.2.2.2.1 _ k_723) (B.2.2.2.1 _ k_725) (B.2.2.2.1 _ ks_14) (B.2.2.2.1 _ k_35) ⟨by decide +kernel, by decide +kernel, by decide +kernel⟩ rfl d_Shipped_writeProducts_21 rfl (Nat.le_of_ble_eq_true rfl) ⟨by decide, by decide⟩ ⟨by decide, by decide⟩ ⟨by decide, by decide⟩ (mv_noH hno _) (fun σ21 h21 => ?_)
  subst h21
  refine mv_aload_n (pc := 24) B d_Shipped_writeProducts_24 rfl 0 rfl ?_
  refine mv_ldcS (pc := 25) B (hNs.2.1 120 (by decide)).1 d_Shipped_writeProducts_25 ?_
  refine mv_ldcS (pc := 27) B (hNs.2.1 116 (by decide)).1 d_Shipped_writeProducts_27 ?_
  refine mv_ldcS (pc := 29) B (hNs.2.1 47 (by decide)).1 d_Shipped_writeProducts_29 ?_
  refine mv_ldcwS (pc := 31) B (hNs.2.1 121 (by decide)).1 d_Shipped_writeProducts_31 ?_
  obtain ⟨h3, eh3, hf⟩ := xev_e hf
  refine mv_callVv (pc := 34) (n := 4) (ci := 10) (C := R_Shipped) B (mK_ok sk sv) hNs rfl rfl (cx_Shipped_ofTwo l hi _ hb _ _ _ _ _ (by decide) (by decide) (by decide) (by decide) eh3) rfl (ma_goodc kc_Shipped_ofTwo) (B.2.2.2.1 _ k_723) (B.2.2.2.1 _ k_725) (B.2.2.2.1 _ ks_14) (B.2.2.2.1 _ k_35) ⟨by decide +kernel, by decide +kernel, by decide +kernel⟩ rfl d_Shipped_writeProducts_34 rfl (Nat.le_of_ble_eq_true rfl) ⟨by decide, by decide⟩ ⟨by decide, by decide⟩ ⟨by decide, by decide⟩ (mv_noH hno _) (fun σ34 h34 => ?_)
  subst h34
  refine mv_aload_n (pc := 37) B d_Shipped_writeProducts_37 rfl 0 rfl ?_
  refine mv_ldcwS (pc := 38) B (hNs.2.1 122 (by decide)).1 d_Shipped_writeProducts_38 ?_
  refine mv_ldcS (pc := 41) B (hNs.2.1 116 (by decide)).1 d_Shipped_writeProducts_41 ?_
  refine mv_ldcS (pc := 43) B (hNs.2.1 68 (by decide)).1 d_Shipped_writeProducts_43 ?_
  refine mv_ldcwS (pc := 45) B (hNs.2.1 123 (by decide)).1 d_Shipped_writeProducts_45 ?_
  obtain ⟨h4, eh4, hf⟩ := xev_e hf
  refine mv_callVv (pc := 48) (n := 4) (ci := 10) (C := R_Shipped) B (mK_ok sk sv) hNs rfl rfl (cx_Shipped_ofTwo l hi _ hb _ _ _ _ _ (by decide) (by decide) (by decide) (by decide) eh4) rfl (ma_goodc kc_Shipped_ofTwo) (B.2.2.2.1 _ k_723) (B.2.2.2.1 _ k_725) (B.2.2.2.1 _ ks_14) (B.2.2.2.1 _ k_35) ⟨by decide +kernel, by decide +kernel, by decide +kernel⟩ rfl d_Shipped_writeProducts_48 rfl (Nat.le_of_ble_eq_true rfl) ⟨by decide, by decide⟩ ⟨by decide, by decide⟩ ⟨by decide, by decide⟩ (mv_noH hno _) (fun σ48 h48 => ?_)
  subst h48
  refine mv_aload_n (pc := 51) B d_Shipped_writeProducts_51 rfl 0 rfl ?_
  refine mv_ldcwS (pc := 52) B (hNs.2.1 124 (by decide)).1 d_Shipped_writeProducts_52 ?_
  refine mv_ldcS (pc := 55) B (hNs.2.1 116 (by decide)).1 d_Shipped_writeProducts_55 ?_
  refine mv_ldcS (pc := 57) B (hNs.2.1 27 (by decide)).1 d_Shipped_writeProducts_57 ?_
  refine mv_ldcwS (pc := 59) B (hNs.2.1 125 (by decide)).1 d_Shipped_writeProducts_59 ?_
  obtain ⟨h5, eh5, hf⟩ := xev_e hf
  refine mv_callVv (pc := 62) (n := 4) (ci := 10) (C := R_Shipped) B (mK_ok sk sv) hNs rfl rfl (cx_Shipped_ofTwo l hi _ hb _ _ _ _ _ (by decide) (by decide) (by decide) (by decide) eh5) rfl (ma_goodc kc_Shipped_ofTwo) (B.2.2.2.1 _ k_723) (B.2.2.2.1 _ k_725) (B.2.2.2.1 _ ks_14) (B.2.2.2.1 _ k_35) ⟨by decide +kernel, by decide +kernel, by decide +kernel⟩ rfl d_Shipped_writeProducts_62 rfl (Nat.le_of_ble_eq_true rfl) ⟨by decide, by decide⟩ ⟨by decide, by decide⟩ ⟨by decide, by decide⟩ (mv_noH hno _) (fun σ62 h62 => ?_)
  subst h62
  refine mv_aload_n (pc := 65) B d_Shipped_writeProducts_65 rfl 0 rfl ?_
  refine mv_ldcwS (pc := 66) B (hNs.2.1 126 (by decide)).1 d_Shipped_writeProducts_66 ?_
  refine mv_ldcS (pc := 69) B (hNs.2.1 116 (by decide)).1 d_Shipped_writeProducts_69 ?_
  refine mv_ldcS (pc := 71) B (hNs.2.1 30 (by decide)).1 d_Shipped_writeProducts_71 ?_
  refine mv_ldcwS (pc := 73) B (hNs.2.1 127 (by decide)).1 d_Shipped_writeProducts_73 ?_
  obtain ⟨h6, eh6, hf⟩ := xev_e hf
  refine mv_callVv (pc := 76) (n := 4) (ci := 10) (C := R_Shipped) B (mK_ok sk sv) hNs rfl rfl (cx_Shipped_ofTwo l hi _ hb _ _ _ _ _ (by decide) (by decide) (by decide) (by decide) eh6) rfl (ma_goodc kc_Shipped_ofTwo) (B.2.2.2.1 _ k_723) (B.2.2.2.1 _ k_725) (B.2.2.2.1 _ ks_14) (B.2.2.2.1 _ k_35) ⟨by decide +kernel, by decide +kernel, by decide +kernel⟩ rfl d_Shipped_writeProducts_76 rfl (Nat.le_of_ble_eq_true rfl) ⟨by decide, by decide⟩ ⟨by decide, by decide⟩ ⟨by decide, by decide⟩ (mv_noH hno _) (fun σ76 h76 => ?_)
  subst h76
  refine mv_aload_n (pc := 79) B d_Shipped_writeProducts_79 rfl 0 rfl ?_
  refine mv_ldcwS (pc := 80) B (hNs.2.1 128 (by decide)).1 d_Shipped_writeProducts_80 ?_
  refine mv_ldcS (pc := 83) B (hNs.2.1 116 (by decide)).1 d_Shipped_writeProducts_83 ?_
  refine mv_ldcS (pc := 85) B (hNs.2.1 33 (by decide)).1 d_Shipped_writeProducts_85 ?_
  refine mv_ldcwS (pc := 87) B (hNs.2.1 129 (by decide)).1 d_Shipped_writeProducts_87 ?_
  obtain ⟨h7, eh7, hf⟩ := xev_e hf
  refine mv_callVv (pc := 90) (n := 4) (ci := 10) (C := R_Shipped) B (mK_ok sk sv) hNs rfl rfl (cx_Shipped_ofTwo l hi _ hb _ _ _ _ _ (by decide) (by decide) (by decide) (by decide) eh7) rfl (ma_goodc kc_Shipped_ofTwo) (B.2.2.2.1 _ k_723) (B.2.2.2.1 _ k_725) (B.2.2.2.1 _ ks_14) (B.2.2.2.1 _ k_35) ⟨by decide +kernel, by decide +kernel, by decide +kernel⟩ rfl d_Shipped_writeProducts_90 rfl (Nat.le_of_ble_eq_true rfl) ⟨by decide, by decide⟩ ⟨by decide, by decide⟩ ⟨by decide, by decide⟩ (mv_noH hno _) (fun σ90 h90 => ?_)
  subst h90
  refine mv_aload_n (pc := 93) B d_Shipped_writeProducts_93 rfl 0 rfl ?_
  refine mv_ldcwS (pc := 94) B (hNs.2.1 130 (by decide)).1 d_Shipped_writeProducts_94 ?_
  refine mv_ldcS (pc := 97) B (hNs.2.1 116 (by decide)).1 d_Shipped_writeProducts_97 ?_
  refine mv_ldcS (pc := 99) B (hNs.2.1 36 (by decide)).1 d_Shipped_writeProducts_99 ?_
  refine mv_ldcwS (pc := 101) B (hNs.2.1 131 (by decide)).1 d_Shipped_writeProducts_101 ?_
  obtain ⟨h8, eh8, hf⟩ := xev_e hf
  refine mv_callVv (pc := 104) (n := 4) (ci := 10) (C := R_Shipped) B (mK_ok sk sv) hNs rfl rfl (cx_Shipped_ofTwo l hi _ hb _ _ _ _ _ (by decide) (by decide) (by decide) (by decide) eh8) rfl (ma_goodc kc_Shipped_ofTwo) (B.2.2.2.1 _ k_723) (B.2.2.2.1 _ k_725) (B.2.2.2.1 _ ks_14) (B.2.2.2.1 _ k_35) ⟨by decide +kernel, by decide +kernel, by decide +kernel⟩ rfl d_Shipped_writeProducts_104 rfl (Nat.le_of_ble_eq_true rfl) ⟨by decide, by decide⟩ ⟨by decide, by decide⟩ ⟨by decide, by decide⟩ (mv_noH hno _) (fun σ104 h104 => ?_)
  subst h104
  exact mv_vret (pc := 107) B hr d_Shipped_writeProducts_107 (Nat.le_refl _) (Nat.le_refl _) ⟨rfl, xret_v hf⟩
def g_Shipped_write (h : xE) : Option xE := xev (g_Shipped_put h 0) fun h1 => xev (g_Shipped_op h1 1 2 3) fun h2 => xev (g_Shipped_op h2 7 8 9) fun h3 => xev (g_Shipped_op h3 10 11 12) fun h4 => xev (g_Shipped_op h4 13 14 15) fun h5 => xev (g_Shipped_branch h5 16 17 18) fun h6 => xev (g_Shipped_branch h6 23 24 25) fun h7 => xev (g_Shipped_branch h7 26 27 28) fun h8 => xev (g_Shipped_branch h8 29 30 31) fun h9 => xev (g_Shipped_branch h9 32 33 34) fun h10 => xev (g_Shipped_branch h10 35 36 37) fun h11 => xev (g_Shipped_load h11 38 17 39) fun h12 => xev (g_Shipped_load h12 44 24 45) fun h13 => xev (g_Shipped_load h13 46 47 48) fun h14 => xev (g_Shipped_load h14 49 27 50) fun h15 => xev (g_Shipped_load h15 51 30 52) fun h16 => xev (g_Shipped_store h16 53 17 4) fun h17 => xev (g_Shipped_store h17 57 24 58) fun h18 => xev (g_Shipped_store h18 59 47 60) fun h19 => xev (g_Shipped_writeOfConstants h19) fun h20 => xev (g_Shipped_writeOfTwo h20) fun h21 => xev (g_Shipped_op h21 107 108 4) fun h22 => xev (g_Shipped_op h22 109 110 111) fun h23 => xev (g_Shipped_op h23 112 113 114) fun h24 => xev (g_Shipped_writeProducts h24) fun h25 => some h25
set_option maxHeartbeats 4000000 in
set_option maxRecDepth 100000 in
theorem cx_Shipped_write (l : Launch) {dA : FieldType → ClassId} {D : va_G} {al : Nat → Nat} {sk sv : Nat → Nat} (hi : mv_inj (mg dA D al me2)) (b : mv_H) (hb : mv_r b 143 0 = some 144) (h : xE) {rg : xE} (hf : g_Shipped_write h = some rg) : mv_C l y_Shipped_write (Cond.code y_Shipped_write b_Shipped_write 1 (Option.none : Option Jvm.ClassFile.FieldType) :: ma) ({ frames := 8, cells := 0, slots := 0, locals := 174 }) (mg dA D al me2) (mK sk sv) [.ref (al 143)] (ab b h) (mv_Rv (fun σ1 => σ1 = ab b rg)) := by
  refine mv_C.ofV (cc := b_Shipped_write) (nL := 1) (ret := (Option.none : Option Jvm.ClassFile.FieldType)) (by decide +kernel) rfl hi (Nat.le_of_ble_eq_true rfl) ?_
  intro p e s m below meth c B hNs hr hnm hno
  unfold g_Shipped_write at hf
  refine mv_aload_n (pc := 0) B d_Shipped_write_0 rfl 0 rfl ?_
  refine mv_ldcS (pc := 1) B (hNs.2.1 0 (by decide)).1 d_Shipped_write_1 ?_
  obtain ⟨h1, eh1, hf⟩ := xev_e hf
  refine mv_callVv (pc := 3) (n := 1) (ci := 10) (C := R_Shipped) B (mK_ok sk sv) hNs rfl rfl (cx_Shipped_put l hi _ hb _ _ (by decide) eh1) rfl (ma_goodc kc_Shipped_put) (B.2.2.2.1 _ k_541) (B.2.2.2.1 _ k_543) (B.2.2.2.1 _ ks_3) (B.2.2.2.1 _ k_35) ⟨by decide +kernel, by decide +kernel, by decide +kernel⟩ rfl d_Shipped_write_3 rfl (Nat.le_of_ble_eq_true rfl) ⟨by decide, by decide⟩ ⟨by decide, by decide⟩ ⟨by decide, by decide⟩ (mv_noH hno _) (fun σ3 h3 => ?_)
  subst h3
  refine mv_aload_n (pc := 6) B d_Shipped_write_6 rfl 0 rfl ?_
  refine mv_ldcS (pc := 7) B (hNs.2.1 1 (by decide)).1 d_Shipped_write_7 ?_
  refine mv_ldcS (pc := 9) B (hNs.2.1 2 (by decide)).1 d_Shipped_write_9 ?_
  refine mv_ldcS (pc := 11) B (hNs.2.1 3 (by decide)).1 d_Shipped_write_11 ?_
  obtain ⟨h2, eh2, hf⟩ := xev_e hf
  refine mv_callVv (pc := 13) (n := 3) (ci := 10) (C := R_Shipped) B (mK_ok sk sv) hNs rfl rfl (cx_Shipped_op l hi _ hb _ _ _ _ (by decide) (by decide) (by decide) eh2) rfl (ma_goodc kc_Shipped_op) (B.2.2.2.1 _ k_596) (B.2.2.2.1 _ k_598) (B.2.2.2.1 _ ks_4) (B.2.2.2.1 _ k_35) ⟨by decide +kernel, by decide +kernel, by decide +kernel⟩ rfl d_Shipped_write_13 rfl (Nat.le_of_ble_eq_true rfl) ⟨by decide, by decide⟩ ⟨by decide, by decide⟩ ⟨by decide, by decide⟩ (mv_noH hno _) (fun σ13 h13 => ?_)
  subst h13
  refine mv_aload_n (pc := 16) B d_Shipped_write_16 rfl 0 rfl ?_
  refine mv_ldcS (pc := 17) B (hNs.2.1 7 (by decide)).1 d_Shipped_write_17 ?_
  refine mv_ldcS (pc := 19) B (hNs.2.1 8 (by decide)).1 d_Shipped_write_19 ?_
  refine mv_ldcS (pc := 21) B (hNs.2.1 9 (by decide)).1 d_Shipped_write_21 ?_
  obtain ⟨h3, eh3, hf⟩ := xev_e hf
  refine mv_callVv (pc := 23) (n := 3) (ci := 10) (C := R_Shipped) B (mK_ok sk sv) hNs rfl rfl (cx_Shipped_op l hi _ hb _ _ _ _ (by decide) (by decide) (by decide) eh3) rfl (ma_goodc kc_Shipped_op) (B.2.2.2.1 _ k_596) (B.2.2.2.1 _ k_598) (B.2.2.2.1 _ ks_4) (B.2.2.2.1 _ k_35) ⟨by decide +kernel, by decide +kernel, by decide +kernel⟩ rfl d_Shipped_write_23 rfl (Nat.le_of_ble_eq_true rfl) ⟨by decide, by decide⟩ ⟨by decide, by decide⟩ ⟨by decide, by decide⟩ (mv_noH hno _) (fun σ23 h23 => ?_)
  subst h23
  refine mv_aload_n (pc := 26) B d_Shipped_write_26 rfl 0 rfl ?_
  refine mv_ldcS (pc := 27) B (hNs.2.1 10 (by decide)).1 d_Shipped_write_27 ?_
  refine mv_ldcS (pc := 29) B (hNs.2.1 11 (by decide)).1 d_Shipped_write_29 ?_
  refine mv_ldcS (pc := 31) B (hNs.2.1 12 (by decide)).1 d_Shipped_write_31 ?_
  obtain ⟨h4, eh4, hf⟩ := xev_e hf
  refine mv_callVv (pc := 33) (n := 3) (ci := 10) (C := R_Shipped) B (mK_ok sk sv) hNs rfl rfl (cx_Shipped_op l hi _ hb _ _ _ _ (by decide) (by decide) (by decide) eh4) rfl (ma_goodc kc_Shipped_op) (B.2.2.2.1 _ k_596) (B.2.2.2.1 _ k_598) (B.2.2.2.1 _ ks_4) (B.2.2.2.1 _ k_35) ⟨by decide +kernel, by decide +kernel, by decide +kernel⟩ rfl d_Shipped_write_33 rfl (Nat.le_of_ble_eq_true rfl) ⟨by decide, by decide⟩ ⟨by decide, by decide⟩ ⟨by decide, by decide⟩ (mv_noH hno _) (fun σ33 h33 => ?_)
  subst h33
  refine mv_aload_n (pc := 36) B d_Shipped_write_36 rfl 0 rfl ?_
  refine mv_ldcS (pc := 37) B (hNs.2.1 13 (by decide)).1 d_Shipped_write_37 ?_
  refine mv_ldcS (pc := 39) B (hNs.2.1 14 (by decide)).1 d_Shipped_write_39 ?_
  refine mv_ldcS (pc := 41) B (hNs.2.1 15 (by decide)).1 d_Shipped_write_41 ?_
  obtain ⟨h5, eh5, hf⟩ := xev_e hf
  refine mv_callVv (pc := 43) (n := 3) (ci := 10) (C := R_Shipped) B (mK_ok sk sv) hNs rfl rfl (cx_Shipped_op l hi _ hb _ _ _ _ (by decide) (by decide) (by decide) eh5) rfl (ma_goodc kc_Shipped_op) (B.2.2.2.1 _ k_596) (B.2.2.2.1 _ k_598) (B.2.2.2.1 _ ks_4) (B.2.2.2.1 _ k_35) ⟨by decide +kernel, by decide +kernel, by decide +kernel⟩ rfl d_Shipped_write_43 rfl (Nat.le_of_ble_eq_true rfl) ⟨by decide, by decide⟩ ⟨by decide, by decide⟩ ⟨by decide, by decide⟩ (mv_noH hno _) (fun σ43 h43 => ?_)
  subst h43
  refine mv_aload_n (pc := 46) B d_Shipped_write_46 rfl 0 rfl ?_
  refine mv_ldcS (pc := 47) B (hNs.2.1 16 (by decide)).1 d_Shipped_write_47 ?_
  refine mv_ldcS (pc := 49) B (hNs.2.1 17 (by decide)).1 d_Shipped_write_49 ?_
  refine mv_ldcS (pc := 51) B (hNs.2.1 18 (by decide)).1 d_Shipped_write_51 ?_
  obtain ⟨h6, eh6, hf⟩ := xev_e hf
  refine mv_callVv (pc := 53) (n := 3) (ci := 10) (C := R_Shipped) B (mK_ok sk sv) hNs rfl rfl (cx_Shipped_branch l hi _ hb _ _ _ _ (by decide) (by decide) (by decide) eh6) rfl (ma_goodc kc_Shipped_branch) (B.2.2.2.1 _ k_621) (B.2.2.2.1 _ k_623) (B.2.2.2.1 _ ks_6) (B.2.2.2.1 _ k_35) ⟨by decide +kernel, by decide +kernel, by decide +kernel⟩ rfl d_Shipped_write_53 rfl (Nat.le_of_ble_eq_true rfl) ⟨by decide, by decide⟩ ⟨by decide, by decide⟩ ⟨by decide, by decide⟩ (mv_noH hno _) (fun σ53 h53 => ?_)
  subst h53
  refine mv_aload_n (pc := 56) B d_Shipped_write_56 rfl 0 rfl ?_
  refine mv_ldcS (pc := 57) B (hNs.2.1 23 (by decide)).1 d_Shipped_write_57 ?_
  refine mv_ldcS (pc := 59) B (hNs.2.1 24 (by decide)).1 d_Shipped_write_59 ?_
  refine mv_ldcS (pc := 61) B (hNs.2.1 25 (by decide)).1 d_Shipped_write_61 ?_
  obtain ⟨h7, eh7, hf⟩ := xev_e hf
  refine mv_callVv (pc := 63) (n := 3) (ci := 10) (C := R_Shipped) B (mK_ok sk sv) hNs rfl rfl (cx_Shipped_branch l hi _ hb _ _ _ _ (by decide) (by decide) (by decide) eh7) rfl (ma_goodc kc_Shipped_branch) (B.2.2.2.1 _ k_621) (B.2.2.2.1 _ k_623) (B.2.2.2.1 _ ks_6) (B.2.2.2.1 _ k_35) ⟨by decide +kernel, by decide +kernel, by decide +kernel⟩ rfl d_Shipped_write_63 rfl (Nat.le_of_ble_eq_true rfl) ⟨by decide, by decide⟩ ⟨by decide, by decide⟩ ⟨by decide, by decide⟩ (mv_noH hno _) (fun σ63 h63 => ?_)
  subst h63
  refine mv_aload_n (pc := 66) B d_Shipped_write_66 rfl 0 rfl ?_
  refine mv_ldcS (pc := 67) B (hNs.2.1 26 (by decide)).1 d_Shipped_write_67 ?_
  refine mv_ldcS (pc := 69) B (hNs.2.1 27 (by decide)).1 d_Shipped_write_69 ?_
  refine mv_ldcS (pc := 71) B (hNs.2.1 28 (by decide)).1 d_Shipped_write_71 ?_
  obtain ⟨h8, eh8, hf⟩ := xev_e hf
  refine mv_callVv (pc := 73) (n := 3) (ci := 10) (C := R_Shipped) B (mK_ok sk sv) hNs rfl rfl (cx_Shipped_branch l hi _ hb _ _ _ _ (by decide) (by decide) (by decide) eh8) rfl (ma_goodc kc_Shipped_branch) (B.2.2.2.1 _ k_621) (B.2.2.2.1 _ k_623) (B.2.2.2.1 _ ks_6) (B.2.2.2.1 _ k_35) ⟨by decide +kernel, by decide +kernel, by decide +kernel⟩ rfl d_Shipped_write_73 rfl (Nat.le_of_ble_eq_true rfl) ⟨by decide, by decide⟩ ⟨by decide, by decide⟩ ⟨by decide, by decide⟩ (mv_noH hno _) (fun σ73 h73 => ?_)
  subst h73
  refine mv_aload_n (pc := 76) B d_Shipped_write_76 rfl 0 rfl ?_
  refine mv_ldcS (pc := 77) B (hNs.2.1 29 (by decide)).1 d_Shipped_write_77 ?_
  refine mv_ldcS (pc := 79) B (hNs.2.1 30 (by decide)).1 d_Shipped_write_79 ?_
  refine mv_ldcS (pc := 81) B (hNs.2.1 31 (by decide)).1 d_Shipped_write_81 ?_
  obtain ⟨h9, eh9, hf⟩ := xev_e hf
  refine mv_callVv (pc := 83) (n := 3) (ci := 10) (C := R_Shipped) B (mK_ok sk sv) hNs rfl rfl (cx_Shipped_branch l hi _ hb _ _ _ _ (by decide) (by decide) (by decide) eh9) rfl (ma_goodc kc_Shipped_branch) (B.2.2.2.1 _ k_621) (B.2.2.2.1 _ k_623) (B.2.2.2.1 _ ks_6) (B.2.2.2.1 _ k_35) ⟨by decide +kernel, by decide +kernel, by decide +kernel⟩ rfl d_Shipped_write_83 rfl (Nat.le_of_ble_eq_true rfl) ⟨by decide, by decide⟩ ⟨by decide, by decide⟩ ⟨by decide, by decide⟩ (mv_noH hno _) (fun σ83 h83 => ?_)
  subst h83
  refine mv_aload_n (pc := 86) B d_Shipped_write_86 rfl 0 rfl ?_
  refine mv_ldcS (pc := 87) B (hNs.2.1 32 (by decide)).1 d_Shipped_write_87 ?_
  refine mv_ldcS (pc := 89) B (hNs.2.1 33 (by decide)).1 d_Shipped_write_89 ?_
  refine mv_ldcS (pc := 91) B (hNs.2.1 34 (by decide)).1 d_Shipped_write_91 ?_
  obtain ⟨h10, eh10, hf⟩ := xev_e hf
  refine mv_callVv (pc := 93) (n := 3) (ci := 10) (C := R_Shipped) B (mK_ok sk sv) hNs rfl rfl (cx_Shipped_branch l hi _ hb _ _ _ _ (by decide) (by decide) (by decide) eh10) rfl (ma_goodc kc_Shipped_branch) (B.2.2.2.1 _ k_621) (B.2.2.2.1 _ k_623) (B.2.2.2.1 _ ks_6) (B.2.2.2.1 _ k_35) ⟨by decide +kernel, by decide +kernel, by decide +kernel⟩ rfl d_Shipped_write_93 rfl (Nat.le_of_ble_eq_true rfl) ⟨by decide, by decide⟩ ⟨by decide, by decide⟩ ⟨by decide, by decide⟩ (mv_noH hno _) (fun σ93 h93 => ?_)
  subst h93
  refine mv_aload_n (pc := 96) B d_Shipped_write_96 rfl 0 rfl ?_
  refine mv_ldcS (pc := 97) B (hNs.2.1 35 (by decide)).1 d_Shipped_write_97 ?_
  refine mv_ldcS (pc := 99) B (hNs.2.1 36 (by decide)).1 d_Shipped_write_99 ?_
  refine mv_ldcS (pc := 101) B (hNs.2.1 37 (by decide)).1 d_Shipped_write_101 ?_
  obtain ⟨h11, eh11, hf⟩ := xev_e hf
  refine mv_callVv (pc := 103) (n := 3) (ci := 10) (C := R_Shipped) B (mK_ok sk sv) hNs rfl rfl (cx_Shipped_branch l hi _ hb _ _ _ _ (by decide) (by decide) (by decide) eh11) rfl (ma_goodc kc_Shipped_branch) (B.2.2.2.1 _ k_621) (B.2.2.2.1 _ k_623) (B.2.2.2.1 _ ks_6) (B.2.2.2.1 _ k_35) ⟨by decide +kernel, by decide +kernel, by decide +kernel⟩ rfl d_Shipped_write_103 rfl (Nat.le_of_ble_eq_true rfl) ⟨by decide, by decide⟩ ⟨by decide, by decide⟩ ⟨by decide, by decide⟩ (mv_noH hno _) (fun σ103 h103 => ?_)
  subst h103
  refine mv_aload_n (pc := 106) B d_Shipped_write_106 rfl 0 rfl ?_
  refine mv_ldcS (pc := 107) B (hNs.2.1 38 (by decide)).1 d_Shipped_write_107 ?_
  refine mv_ldcS (pc := 109) B (hNs.2.1 17 (by decide)).1 d_Shipped_write_109 ?_
  refine mv_ldcS (pc := 111) B (hNs.2.1 39 (by decide)).1 d_Shipped_write_111 ?_
  obtain ⟨h12, eh12, hf⟩ := xev_e hf
  refine mv_callVv (pc := 113) (n := 3) (ci := 10) (C := R_Shipped) B (mK_ok sk sv) hNs rfl rfl (cx_Shipped_load l hi _ hb _ _ _ _ (by decide) (by decide) (by decide) eh12) rfl (ma_goodc kc_Shipped_load) (B.2.2.2.1 _ k_646) (B.2.2.2.1 _ k_648) (B.2.2.2.1 _ ks_7) (B.2.2.2.1 _ k_35) ⟨by decide +kernel, by decide +kernel, by decide +kernel⟩ rfl d_Shipped_write_113 rfl (Nat.le_of_ble_eq_true rfl) ⟨by decide, by decide⟩ ⟨by decide, by decide⟩ ⟨by decide, by decide⟩ (mv_noH hno _) (fun σ113 h113 => ?_)
  subst h113
  refine mv_aload_n (pc := 116) B d_Shipped_write_116 rfl 0 rfl ?_
  refine mv_ldcS (pc := 117) B (hNs.2.1 44 (by decide)).1 d_Shipped_write_117 ?_
  refine mv_ldcS (pc := 119) B (hNs.2.1 24 (by decide)).1 d_Shipped_write_119 ?_
  refine mv_ldcS (pc := 121) B (hNs.2.1 45 (by decide)).1 d_Shipped_write_121 ?_
  obtain ⟨h13, eh13, hf⟩ := xev_e hf
  refine mv_callVv (pc := 123) (n := 3) (ci := 10) (C := R_Shipped) B (mK_ok sk sv) hNs rfl rfl (cx_Shipped_load l hi _ hb _ _ _ _ (by decide) (by decide) (by decide) eh13) rfl (ma_goodc kc_Shipped_load) (B.2.2.2.1 _ k_646) (B.2.2.2.1 _ k_648) (B.2.2.2.1 _ ks_7) (B.2.2.2.1 _ k_35) ⟨by decide +kernel, by decide +kernel, by decide +kernel⟩ rfl d_Shipped_write_123 rfl (Nat.le_of_ble_eq_true rfl) ⟨by decide, by decide⟩ ⟨by decide, by decide⟩ ⟨by decide, by decide⟩ (mv_noH hno _) (fun σ123 h123 => ?_)
  subst h123
  refine mv_aload_n (pc := 126) B d_Shipped_write_126 rfl 0 rfl ?_
  refine mv_ldcS (pc := 127) B (hNs.2.1 46 (by decide)).1 d_Shipped_write_127 ?_
  refine mv_ldcS (pc := 129) B (hNs.2.1 47 (by decide)).1 d_Shipped_write_129 ?_
  refine mv_ldcS (pc := 131) B (hNs.2.1 48 (by decide)).1 d_Shipped_write_131 ?_
  obtain ⟨h14, eh14, hf⟩ := xev_e hf
  refine mv_callVv (pc := 133) (n := 3) (ci := 10) (C := R_Shipped) B (mK_ok sk sv) hNs rfl rfl (cx_Shipped_load l hi _ hb _ _ _ _ (by decide) (by decide) (by decide) eh14) rfl (ma_goodc kc_Shipped_load) (B.2.2.2.1 _ k_646) (B.2.2.2.1 _ k_648) (B.2.2.2.1 _ ks_7) (B.2.2.2.1 _ k_35) ⟨by decide +kernel, by decide +kernel, by decide +kernel⟩ rfl d_Shipped_write_133 rfl (Nat.le_of_ble_eq_true rfl) ⟨by decide, by decide⟩ ⟨by decide, by decide⟩ ⟨by decide, by decide⟩ (mv_noH hno _) (fun σ133 h133 => ?_)
  subst h133
  refine mv_aload_n (pc := 136) B d_Shipped_write_136 rfl 0 rfl ?_
  refine mv_ldcS (pc := 137) B (hNs.2.1 49 (by decide)).1 d_Shipped_write_137 ?_
  refine mv_ldcS (pc := 139) B (hNs.2.1 27 (by decide)).1 d_Shipped_write_139 ?_
  refine mv_ldcS (pc := 141) B (hNs.2.1 50 (by decide)).1 d_Shipped_write_141 ?_
  obtain ⟨h15, eh15, hf⟩ := xev_e hf
  refine mv_callVv (pc := 143) (n := 3) (ci := 10) (C := R_Shipped) B (mK_ok sk sv) hNs rfl rfl (cx_Shipped_load l hi _ hb _ _ _ _ (by decide) (by decide) (by decide) eh15) rfl (ma_goodc kc_Shipped_load) (B.2.2.2.1 _ k_646) (B.2.2.2.1 _ k_648) (B.2.2.2.1 _ ks_7) (B.2.2.2.1 _ k_35) ⟨by decide +kernel, by decide +kernel, by decide +kernel⟩ rfl d_Shipped_write_143 rfl (Nat.le_of_ble_eq_true rfl) ⟨by decide, by decide⟩ ⟨by decide, by decide⟩ ⟨by decide, by decide⟩ (mv_noH hno _) (fun σ143 h143 => ?_)
  subst h143
  refine mv_aload_n (pc := 146) B d_Shipped_write_146 rfl 0 rfl ?_
  refine mv_ldcS (pc := 147) B (hNs.2.1 51 (by decide)).1 d_Shipped_write_147 ?_
  refine mv_ldcS (pc := 149) B (hNs.2.1 30 (by decide)).1 d_Shipped_write_149 ?_
  refine mv_ldcS (pc := 151) B (hNs.2.1 52 (by decide)).1 d_Shipped_write_151 ?_
  obtain ⟨h16, eh16, hf⟩ := xev_e hf
  refine mv_callVv (pc := 153) (n := 3) (ci := 10) (C := R_Shipped) B (mK_ok sk sv) hNs rfl rfl (cx_Shipped_load l hi _ hb _ _ _ _ (by decide) (by decide) (by decide) eh16) rfl (ma_goodc kc_Shipped_load) (B.2.2.2.1 _ k_646) (B.2.2.2.1 _ k_648) (B.2.2.2.1 _ ks_7) (B.2.2.2.1 _ k_35) ⟨by decide +kernel, by decide +kernel, by decide +kernel⟩ rfl d_Shipped_write_153 rfl (Nat.le_of_ble_eq_true rfl) ⟨by decide, by decide⟩ ⟨by decide, by decide⟩ ⟨by decide, by decide⟩ (mv_noH hno _) (fun σ153 h153 => ?_)
  subst h153
  refine mv_aload_n (pc := 156) B d_Shipped_write_156 rfl 0 rfl ?_
  refine mv_ldcS (pc := 157) B (hNs.2.1 53 (by decide)).1 d_Shipped_write_157 ?_
  refine mv_ldcS (pc := 159) B (hNs.2.1 17 (by decide)).1 d_Shipped_write_159 ?_
  refine mv_ldcS (pc := 161) B (hNs.2.1 4 (by decide)).1 d_Shipped_write_161 ?_
  obtain ⟨h17, eh17, hf⟩ := xev_e hf
  refine mv_callVv (pc := 163) (n := 3) (ci := 10) (C := R_Shipped) B (mK_ok sk sv) hNs rfl rfl (cx_Shipped_store l hi _ hb _ _ _ _ (by decide) (by decide) (by decide) eh17) rfl (ma_goodc kc_Shipped_store) (B.2.2.2.1 _ k_664) (B.2.2.2.1 _ k_666) (B.2.2.2.1 _ ks_8) (B.2.2.2.1 _ k_35) ⟨by decide +kernel, by decide +kernel, by decide +kernel⟩ rfl d_Shipped_write_163 rfl (Nat.le_of_ble_eq_true rfl) ⟨by decide, by decide⟩ ⟨by decide, by decide⟩ ⟨by decide, by decide⟩ (mv_noH hno _) (fun σ163 h163 => ?_)
  subst h163
  refine mv_aload_n (pc := 166) B d_Shipped_write_166 rfl 0 rfl ?_
  refine mv_ldcS (pc := 167) B (hNs.2.1 57 (by decide)).1 d_Shipped_write_167 ?_
  refine mv_ldcS (pc := 169) B (hNs.2.1 24 (by decide)).1 d_Shipped_write_169 ?_
  refine mv_ldcS (pc := 171) B (hNs.2.1 58 (by decide)).1 d_Shipped_write_171 ?_
  obtain ⟨h18, eh18, hf⟩ := xev_e hf
  refine mv_callVv (pc := 173) (n := 3) (ci := 10) (C := R_Shipped) B (mK_ok sk sv) hNs rfl rfl (cx_Shipped_store l hi _ hb _ _ _ _ (by decide) (by decide) (by decide) eh18) rfl (ma_goodc kc_Shipped_store) (B.2.2.2.1 _ k_664) (B.2.2.2.1 _ k_666) (B.2.2.2.1 _ ks_8) (B.2.2.2.1 _ k_35) ⟨by decide +kernel, by decide +kernel, by decide +kernel⟩ rfl d_Shipped_write_173 rfl (Nat.le_of_ble_eq_true rfl) ⟨by decide, by decide⟩ ⟨by decide, by decide⟩ ⟨by decide, by decide⟩ (mv_noH hno _) (fun σ173 h173 => ?_)
  subst h173
  refine mv_aload_n (pc := 176) B d_Shipped_write_176 rfl 0 rfl ?_
  refine mv_ldcS (pc := 177) B (hNs.2.1 59 (by decide)).1 d_Shipped_write_177 ?_
  refine mv_ldcS (pc := 179) B (hNs.2.1 47 (by decide)).1 d_Shipped_write_179 ?_
  refine mv_ldcS (pc := 181) B (hNs.2.1 60 (by decide)).1 d_Shipped_write_181 ?_
  obtain ⟨h19, eh19, hf⟩ := xev_e hf
  refine mv_callVv (pc := 183) (n := 3) (ci := 10) (C := R_Shipped) B (mK_ok sk sv) hNs rfl rfl (cx_Shipped_store l hi _ hb _ _ _ _ (by decide) (by decide) (by decide) eh19) rfl (ma_goodc kc_Shipped_store) (B.2.2.2.1 _ k_664) (B.2.2.2.1 _ k_666) (B.2.2.2.1 _ ks_8) (B.2.2.2.1 _ k_35) ⟨by decide +kernel, by decide +kernel, by decide +kernel⟩ rfl d_Shipped_write_183 rfl (Nat.le_of_ble_eq_true rfl) ⟨by decide, by decide⟩ ⟨by decide, by decide⟩ ⟨by decide, by decide⟩ (mv_noH hno _) (fun σ183 h183 => ?_)
  subst h183
  refine mv_aload_n (pc := 186) B d_Shipped_write_186 rfl 0 rfl ?_
  obtain ⟨h20, eh20, hf⟩ := xev_e hf
  refine mv_callVv (pc := 187) (n := 0) (ci := 10) (C := R_Shipped) B (mK_ok sk sv) hNs rfl rfl (cx_Shipped_writeOfConstants l hi _ hb _ eh20) rfl (ma_goodc kc_Shipped_writeOfConstants) (B.2.2.2.1 _ k_675) (B.2.2.2.1 _ k_677) (B.2.2.2.1 _ ks_9) (B.2.2.2.1 _ k_35) ⟨by decide +kernel, by decide +kernel, by decide +kernel⟩ rfl d_Shipped_write_187 rfl (Nat.le_of_ble_eq_true rfl) ⟨by decide, by decide⟩ ⟨by decide, by decide⟩ ⟨by decide, by decide⟩ (mv_noH hno _) (fun σ187 h187 => ?_)
  subst h187
  refine mv_aload_n (pc := 190) B d_Shipped_write_190 rfl 0 rfl ?_
  obtain ⟨h21, eh21, hf⟩ := xev_e hf
  refine mv_callVv (pc := 191) (n := 0) (ci := 10) (C := R_Shipped) B (mK_ok sk sv) hNs rfl rfl (cx_Shipped_writeOfTwo l hi _ hb _ eh21) rfl (ma_goodc kc_Shipped_writeOfTwo) (B.2.2.2.1 _ k_717) (B.2.2.2.1 _ k_719) (B.2.2.2.1 _ ks_13) (B.2.2.2.1 _ k_35) ⟨by decide +kernel, by decide +kernel, by decide +kernel⟩ rfl d_Shipped_write_191 rfl (Nat.le_of_ble_eq_true rfl) ⟨by decide, by decide⟩ ⟨by decide, by decide⟩ ⟨by decide, by decide⟩ (mv_noH hno _) (fun σ191 h191 => ?_)
  subst h191
  refine mv_aload_n (pc := 194) B d_Shipped_write_194 rfl 0 rfl ?_
  refine mv_ldcS (pc := 195) B (hNs.2.1 107 (by decide)).1 d_Shipped_write_195 ?_
  refine mv_ldcS (pc := 197) B (hNs.2.1 108 (by decide)).1 d_Shipped_write_197 ?_
  refine mv_ldcS (pc := 199) B (hNs.2.1 4 (by decide)).1 d_Shipped_write_199 ?_
  obtain ⟨h22, eh22, hf⟩ := xev_e hf
  refine mv_callVv (pc := 201) (n := 3) (ci := 10) (C := R_Shipped) B (mK_ok sk sv) hNs rfl rfl (cx_Shipped_op l hi _ hb _ _ _ _ (by decide) (by decide) (by decide) eh22) rfl (ma_goodc kc_Shipped_op) (B.2.2.2.1 _ k_596) (B.2.2.2.1 _ k_598) (B.2.2.2.1 _ ks_4) (B.2.2.2.1 _ k_35) ⟨by decide +kernel, by decide +kernel, by decide +kernel⟩ rfl d_Shipped_write_201 rfl (Nat.le_of_ble_eq_true rfl) ⟨by decide, by decide⟩ ⟨by decide, by decide⟩ ⟨by decide, by decide⟩ (mv_noH hno _) (fun σ201 h201 => ?_)
  subst h201
  refine mv_aload_n (pc := 204) B d_Shipped_write_204 rfl 0 rfl ?_
  refine mv_ldcS (pc := 205) B (hNs.2.1 109 (by decide)).1 d_Shipped_write_205 ?_
  refine mv_ldcS (pc := 207) B (hNs.2.1 110 (by decide)).1 d_Shipped_write_207 ?_
  refine mv_ldcS (pc := 209) B (hNs.2.1 111 (by decide)).1 d_Shipped_write_209 ?_
  obtain ⟨h23, eh23, hf⟩ := xev_e hf
  refine mv_callVv (pc := 211) (n := 3) (ci := 10) (C := R_Shipped) B (mK_ok sk sv) hNs rfl rfl (cx_Shipped_op l hi _ hb _ _ _ _ (by decide) (by decide) (by decide) eh23) rfl (ma_goodc kc_Shipped_op) (B.2.2.2.1 _ k_596) (B.2.2.2.1 _ k_598) (B.2.2.2.1 _ ks_4) (B.2.2.2.1 _ k_35) ⟨by decide +kernel, by decide +kernel, by decide +kernel⟩ rfl d_Shipped_write_211 rfl (Nat.le_of_ble_eq_true rfl) ⟨by decide, by decide⟩ ⟨by decide, by decide⟩ ⟨by decide, by decide⟩ (mv_noH hno _) (fun σ211 h211 => ?_)
  subst h211
  refine mv_aload_n (pc := 214) B d_Shipped_write_214 rfl 0 rfl ?_
  refine mv_ldcS (pc := 215) B (hNs.2.1 112 (by decide)).1 d_Shipped_write_215 ?_
  refine mv_ldcS (pc := 217) B (hNs.2.1 113 (by decide)).1 d_Shipped_write_217 ?_
  refine mv_ldcS (pc := 219) B (hNs.2.1 114 (by decide)).1 d_Shipped_write_219 ?_
  obtain ⟨h24, eh24, hf⟩ := xev_e hf
  refine mv_callVv (pc := 221) (n := 3) (ci := 10) (C := R_Shipped) B (mK_ok sk sv) hNs rfl rfl (cx_Shipped_op l hi _ hb _ _ _ _ (by decide) (by decide) (by decide) eh24) rfl (ma_goodc kc_Shipped_op) (B.2.2.2.1 _ k_596) (B.2.2.2.1 _ k_598) (B.2.2.2.1 _ ks_4) (B.2.2.2.1 _ k_35) ⟨by decide +kernel, by decide +kernel, by decide +kernel⟩ rfl d_Shipped_write_221 rfl (Nat.le_of_ble_eq_true rfl) ⟨by decide, by decide⟩ ⟨by decide, by decide⟩ ⟨by decide, by decide⟩ (mv_noH hno _) (fun σ221 h221 => ?_)
  subst h221
  refine mv_aload_n (pc := 224) B d_Shipped_write_224 rfl 0 rfl ?_
  obtain ⟨h25, eh25, hf⟩ := xev_e hf
  refine mv_callVv (pc := 225) (n := 0) (ci := 10) (C := R_Shipped) B (mK_ok sk sv) hNs rfl rfl (cx_Shipped_writeProducts l hi _ hb _ eh25) rfl (ma_goodc kc_Shipped_writeProducts) (B.2.2.2.1 _ k_755) (B.2.2.2.1 _ k_757) (B.2.2.2.1 _ ks_15) (B.2.2.2.1 _ k_35) ⟨by decide +kernel, by decide +kernel, by decide +kernel⟩ rfl d_Shipped_write_225 rfl (Nat.le_of_ble_eq_true rfl) ⟨by decide, by decide⟩ ⟨by decide, by decide⟩ ⟨by decide, by decide⟩ (mv_noH hno _) (fun σ225 h225 => ?_)
  subst h225
  exact mv_vret (pc := 228) B hr d_Shipped_write_228 (Nat.le_refl _) (Nat.le_refl _) ⟨rfl, xret_v hf⟩
