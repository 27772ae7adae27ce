/-! Shipped -/
section MVLDCWS
variable {p : Program} {l : Launch} {e : Env} {R : Room} {s : State} {m : MethodId} {args : Array Value} {below : List Frame} {meth : Method} {c : Code} {G : mv_G} {ws : List Cond} {own : String} {cc : ByteArray} {nL : Nat} {cells slots : Nat} {Q : State → Prop} {σ : mv_H} {pc : Nat} {L : List (Nat × Value)} {st : List Value}
theorem mv_ldcwS (B : mv_B p s m args meth c G ws own cc nL) {tx : String} {index q : Nat} (hZ : vk_R own index tx q s) (hdg : decode cc pc = .ok (.ldc_w index, 3))
    (k : mv_V p l e R s m args below meth c G nL cells slots Q σ (pc + 3) L (.ref q :: st)) : mv_V p l e R s m args below meth c G nL cells slots Q σ pc L st := fun H locs ls h1 h2 h3 => by
  intro T hT X
  obtain ⟨t, a1, b1⟩ := (k H locs ls h1 h2 h3) T hT X
  exact ⟨t, Jvm.Stand.ldcStringW X B.1.1 B.2.2.1 (text := tx) (a := q) hZ.1 hZ.2 (g := F0 m pc ls st) rfl (by rw [B.1.2]; exact hdg) t a1, b1⟩
end MVLDCWS
/-- how many quotes a String has -/
def qs (i : Nat) : Nat := qc (fun j => (st_g i).2.2.2.getD j 0) (st_g i).2.2.2.length
theorem st_asc : ∀ i, i < st_t.length → ∀ j, j < (st_g i).2.2.2.length → vp_nar .byte ((((st_g i).2.2.2.getD j 0) &&& 255).toInt8.toInt32) = (st_g i).2.2.2.getD j 0 ∧ 0 ≤ ((st_g i).2.2.2.getD j 0).toInt ∧ ((st_g i).2.2.2.getD j 0).toInt ≤ 127 := by decide +kernel
theorem st_len : ∀ i, i < st_t.length → (st_g i).2.2.2.length ≤ 1000 := by decide +kernel
abbrev ShF : mv_H → mv_H → Prop := Fr (fun o k => o = 143 ∧ k = 1) (fun o => o = 144) (fun _ => False)
/-- the row, its bytes, at most q quotes -/
def ShQ (σ : mv_H) (q : Nat) : Prop := mv_r σ 143 0 = some 144 ∧ 0 ≤ (mv_i σ 143 1).toInt ∧ (mv_i σ 143 1).toInt ≤ 8192 ∧ (∀ j, j < 8192 → -128 ≤ (mv_a σ 144 j).toInt ∧ (mv_a σ 144 j).toInt ≤ 127) ∧ qc (mv_a σ 144) (mv_i σ 143 1).toNatClampNeg ≤ q
theorem qc_con {f g : Nat → Int32} : ∀ n : Nat, (∀ i, i < n → f i = g i) → qc f n = qc g n := by
  intro n
  induction n with
  | zero => intro _; rfl
  | succ n ih =>
    intro h
    show qc f n + _ = qc g n + _
    rw [ih (fun i q => h i (by omega)), h n (by omega)]
theorem ShQ.up {σ : mv_H} {q q' : Nat} (h : ShQ σ q) (hq : q ≤ q') : ShQ σ q' := ⟨h.1, h.2.1, h.2.2.1, h.2.2.2.1, by have := h.2.2.2.2; omega⟩
def sh_add (σ : mv_H) (v : Int32) : mv_H := mv_si (mv_sa σ 144 (mv_i σ 143 1).toNatClampNeg v) 143 1 (mv_i σ 143 1 + 1)
theorem ShQ.add {σ : mv_H} {q : Nat} {v : Int32} (h : ShQ σ q) (hs : (mv_i σ 143 1).toInt < 8192) (hv : -128 ≤ v.toInt ∧ v.toInt ≤ 127) : ShQ (sh_add σ v) (q + if v = 34 then 1 else 0) := by
  obtain ⟨h1, h2, h3, h4, h5⟩ := h
  have e1 : mv_i (sh_add σ v) 143 1 = mv_i σ 143 1 + 1 := rfl
  have e2 := i32_inc (x := mv_i σ 143 1) (by omega)
  have ec := i32_cl h2
  have ed := i32_cl (x := mv_i σ 143 1 + 1) (by omega)
  have ea : ∀ j, mv_a (sh_add σ v) 144 j = if j = (mv_i σ 143 1).toNatClampNeg then v else mv_a σ 144 j := fun j => row1 σ 144 _ v j
  refine ⟨h1, by rw [e1]; omega, by rw [e1]; omega, fun j hj => ?_, ?_⟩
  · rw [ea]
    split
    · exact hv
    · exact h4 j hj
  · rw [e1, show (mv_i σ 143 1 + 1).toNatClampNeg = (mv_i σ 143 1).toNatClampNeg + 1 by omega]
    show qc (mv_a (sh_add σ v) 144) (mv_i σ 143 1).toNatClampNeg + (if mv_a (sh_add σ v) 144 (mv_i σ 143 1).toNatClampNeg = 34 then 1 else 0) ≤ _
    rw [qc_con (mv_i σ 143 1).toNatClampNeg (fun j hj => (ea j).trans (if_neg (by omega))), ea, if_pos rfl]
    omega
theorem qc_le9 (i : Nat) (j : Int32) : qc (fun j => (st_g i).2.2.2.getD j 0) j.toNatClampNeg ≤ qs i := by
  unfold qs
  by_cases e : j.toNatClampNeg ≤ (st_g i).2.2.2.length
  · exact qc_mono _ e
  · have h : ∀ n, (st_g i).2.2.2.length ≤ n → qc (fun j => (st_g i).2.2.2.getD j 0) n = qc (fun j => (st_g i).2.2.2.getD j 0) (st_g i).2.2.2.length := by
      intro n
      induction n with
      | zero => intro q; rw [show (st_g i).2.2.2.length = 0 by omega]
      | succ n ih =>
        intro q
        by_cases e2 : (st_g i).2.2.2.length = n + 1
        · rw [e2]
        · show qc _ n + (if (st_g i).2.2.2.getD n 0 = 34 then 1 else 0) = _
          have e3 : (st_g i).2.2.2.getD n 0 = 0 := by
            rw [List.getD_eq_getElem?_getD, List.getElem?_eq_none (by omega)]
            rfl
          rw [ih (by omega), e3, if_neg (by decide)]
          omega
    rw [h _ (by omega)]
    exact Nat.le_refl _
def y_Shipped_put : MethodName := ⟨"MachineLoom$Shipped", "put", "(Ljava/lang/String;)V"⟩
abbrev b_Shipped_put : ByteArray := prog_8_method_15_code
theorem kc_Shipped_put : Cond.code y_Shipped_put b_Shipped_put 3 (Option.none : Option Jvm.ClassFile.FieldType) ∈ ma := ma_of (tb_3 _ (List.mem_of_getElem? (i := 64) rfl)) rfl
theorem k_545 : (Jvm.Cond.methodLink "MachineLoom$Shipped" (329 : Nat) ({ cls := "java/lang/String", name := "length", desc := "()I" } : Jvm.MethodName)) ∈ ma := ma_of (tb_3 _ (List.mem_of_getElem? (i := 65) rfl)) rfl
theorem k_530 : (Jvm.Cond.fieldLink "MachineLoom$Shipped" (335 : Nat) "MachineLoom$Shipped" "size" "I") ∈ ma := ma_of (tb_3 _ (List.mem_of_getElem? (i := 50) rfl)) rfl
theorem k_527 : (Jvm.Cond.fieldLink "MachineLoom$Shipped" (9 : Nat) "MachineLoom$Shipped" "row" "[B") ∈ ma := ma_of (tb_3 _ (List.mem_of_getElem? (i := 47) rfl)) rfl
theorem k_555 : (Jvm.Cond.methodLink "MachineLoom$Shipped" (339 : Nat) ({ cls := "java/lang/String", name := "charAt", desc := "(I)C" } : Jvm.MethodName)) ∈ ma := ma_of (tb_3 _ (List.mem_of_getElem? (i := 75) rfl)) rfl
theorem d_Shipped_put_0 : decode b_Shipped_put 0 = .ok (.iconst 0, 1) := by decide +kernel
theorem d_Shipped_put_1 : decode b_Shipped_put 1 = .ok (.istore_n 2, 1) := by decide +kernel
theorem d_Shipped_put_2 : decode b_Shipped_put 2 = .ok (.iload_n 2, 1) := by decide +kernel
theorem d_Shipped_put_3 : decode b_Shipped_put 3 = .ok (.aload_n 1, 1) := by decide +kernel
theorem d_Shipped_put_4 : decode b_Shipped_put 4 = .ok (.invokevirtual 329, 3) := by decide +kernel
theorem d_Shipped_put_7 : decode b_Shipped_put 7 = .ok (.if_icmp .ge (44), 3) := by decide +kernel
theorem d_Shipped_put_10 : decode b_Shipped_put 10 = .ok (.aload_n 0, 1) := by decide +kernel
theorem d_Shipped_put_11 : decode b_Shipped_put 11 = .ok (.getfield 335, 3) := by decide +kernel
theorem d_Shipped_put_14 : decode b_Shipped_put 14 = .ok (.sipush 8192, 3) := by decide +kernel
theorem d_Shipped_put_17 : decode b_Shipped_put 17 = .ok (.if_icmp .ge (34), 3) := by decide +kernel
theorem d_Shipped_put_20 : decode b_Shipped_put 20 = .ok (.aload_n 0, 1) := by decide +kernel
theorem d_Shipped_put_21 : decode b_Shipped_put 21 = .ok (.getfield 9, 3) := by decide +kernel
theorem d_Shipped_put_24 : decode b_Shipped_put 24 = .ok (.aload_n 0, 1) := by decide +kernel
theorem d_Shipped_put_25 : decode b_Shipped_put 25 = .ok (.getfield 335, 3) := by decide +kernel
theorem d_Shipped_put_28 : decode b_Shipped_put 28 = .ok (.aload_n 1, 1) := by decide +kernel
theorem d_Shipped_put_29 : decode b_Shipped_put 29 = .ok (.iload_n 2, 1) := by decide +kernel
theorem d_Shipped_put_30 : decode b_Shipped_put 30 = .ok (.invokevirtual 339, 3) := by decide +kernel
theorem d_Shipped_put_33 : decode b_Shipped_put 33 = .ok (.i2b, 1) := by decide +kernel
theorem d_Shipped_put_34 : decode b_Shipped_put 34 = .ok (.bastore, 1) := by decide +kernel
theorem d_Shipped_put_35 : decode b_Shipped_put 35 = .ok (.aload_n 0, 1) := by decide +kernel
theorem d_Shipped_put_36 : decode b_Shipped_put 36 = .ok (.dup, 1) := by decide +kernel
theorem d_Shipped_put_37 : decode b_Shipped_put 37 = .ok (.getfield 335, 3) := by decide +kernel
theorem d_Shipped_put_40 : decode b_Shipped_put 40 = .ok (.iconst 1, 1) := by decide +kernel
theorem d_Shipped_put_41 : decode b_Shipped_put 41 = .ok (.iadd, 1) := by decide +kernel
theorem d_Shipped_put_42 : decode b_Shipped_put 42 = .ok (.putfield 335, 3) := by decide +kernel
theorem d_Shipped_put_45 : decode b_Shipped_put 45 = .ok (.iinc 2 (1), 3) := by decide +kernel
theorem d_Shipped_put_48 : decode b_Shipped_put 48 = .ok (.goto (-46), 3) := by decide +kernel
theorem d_Shipped_put_51 : decode b_Shipped_put 51 = .ok (.return_, 1) := by decide +kernel
set_option maxHeartbeats 4000000 in
set_option maxRecDepth 100000 in
theorem c_Shipped_put (l : Launch) {dA : FieldType → ClassId} {D : va_G} {al : Nat → Nat} {sk sv : Nat → Nat} (hi : mv_inj (mg dA D al me)) (σ : mv_H) (i9 q9 : Nat) (hi9 : i9 < st_t.length) (hQ0 : ShQ σ q9) : mv_C l y_Shipped_put (Cond.code y_Shipped_put b_Shipped_put 3 (Option.none : Option Jvm.ClassFile.FieldType) :: ma) ({ frames := 4, cells := 0, slots := 0, locals := 85 }) (mg dA D al me) (mK sk sv) [.ref (al 143), .ref (sk i9)] σ (mv_Rv (fun σ1 => ShF σ σ1 ∧ ShQ σ1 (q9 + qs i9))) := by
  refine mv_C.ofV (cc := b_Shipped_put) (nL := 3) (ret := (Option.none : Option Jvm.ClassFile.FieldType)) (by decide +kernel) rfl hi (Nat.le_of_ble_eq_true rfl) ?_
  intro p e s m below meth c B hNs hr hnm hno
  have lp : ∀ (nn : Nat) (τ : mv_H) (jj : Int32) (q0 : 0 ≤ jj.toInt) (hF : ShF σ τ) (hQ : ShQ τ (q9 + qc (fun j => (st_g i9).2.2.2.getD j 0) jj.toNatClampNeg)), (2000 - jj.toInt).toNat < nn → mv_V p l e ({ frames := 4, cells := 0, slots := 0, locals := 85 }) s m ([.ref (al 143), .ref (sk i9)] : List Value).toArray below meth c (mg dA D al me) 3 0 0 (mv_Q (mg dA D al me) below s 0 0 (mv_Rv (fun σ1 => ShF σ σ1 ∧ ShQ σ1 (q9 + qs i9)))) τ 2 [(2, .int jj), (0, .ref (al 143)), (1, .ref (sk i9))] [] := by
    intro nn
    induction nn with
    | zero => intro τ jj q0 hF hQ hm; exact absurd hm (Nat.not_lt_zero _)
    | succ nn ih =>
      intro τ jj q0 hF hQ hm
      refine mv_iload_n (pc := 2) B d_Shipped_put_2 rfl 0 rfl ?_
      refine mv_aload_n (pc := 3) B d_Shipped_put_3 rfl 2 rfl ?_
      refine mv_callVOi (pc := 4) (n := 0) B (mK_ok sk sv) hNs (hNs.2.1 i9 hi9).2.1 (c_String_length l hi _ i9 hi9) rfl (ma_goodc kc_String_length) (B.2.2.2.1 _ k_545) (B.2.2.2.1 _ k_546) (B.2.2.2.1 _ k_547) (B.2.2.2.1 _ k_21) ⟨by decide +kernel, by decide +kernel, by decide +kernel⟩ rfl d_Shipped_put_4 rfl (Nat.le_of_ble_eq_true rfl) ⟨by decide, by decide⟩ ⟨by decide, by decide⟩ ⟨by decide, by decide⟩ (mv_noH hno _) (fun v4 σ4 h4 => ?_)
      obtain ⟨e4, z4⟩ := h4
      have e4 := e4.symm
      subst e4
      refine mv_icmp_ge (pc := 7) (tgt := 51) B d_Shipped_put_7 rfl (fun h7 => ?_) (fun h7 => ?_)
      · skip
        exact mv_vret (pc := 51) B hr d_Shipped_put_51 (Nat.le_refl _) (Nat.le_refl _) ⟨rfl, hF, hQ.up (Nat.add_le_add_left (qc_le9 i9 jj) _)⟩
      · skip
        rw [Int32.le_iff_toInt_le] at h7
        have hll := st_len i9 hi9
        refine mv_aload_n (pc := 10) B d_Shipped_put_10 rfl 1 rfl ?_
        refine mv_getI (pc := 11) (ci := 10) (C := R_Shipped) (T := F_Shipped) (N := 2) B 1 rfl rfl (by decide) i_Shipped (B.2.2.2.1 _ k_530) rfl d_Shipped_put_11 ?_
        refine mv_sipush (pc := 14) (v := 8192) B d_Shipped_put_14 (by decide) ?_
        refine mv_icmp_ge (pc := 17) (tgt := 51) B d_Shipped_put_17 rfl (fun h17 => ?_) (fun h17 => ?_)
        · skip
          exact mv_vret (pc := 51) B hr d_Shipped_put_51 (Nat.le_refl _) (Nat.le_refl _) ⟨rfl, hF, hQ.up (Nat.add_le_add_left (qc_le9 i9 jj) _)⟩
        · skip
          rw [Int32.le_iff_toInt_le] at h17
          have h17 : ¬ (8192 : Int) ≤ (mv_i τ 143 1).toInt := h17
          have cj := i32_cl q0
          have hasc := st_asc i9 hi9 jj.toNatClampNeg (by omega)
          have w2 : (jj + 1).toInt = jj.toInt + 1 := i32_inc (by omega)
          have hs0 := hQ.2.1
          refine mv_aload_n (pc := 20) B d_Shipped_put_20 rfl 1 rfl ?_
          refine mv_getR (pc := 21) (ci := 10) (C := R_Shipped) (T := F_Shipped) (N := 2) B 0 rfl rfl (by decide) i_Shipped (B.2.2.2.1 _ k_527) rfl hQ.1 d_Shipped_put_21 ?_
          refine mv_aload_n (pc := 24) B d_Shipped_put_24 rfl 1 rfl ?_
          refine mv_getI (pc := 25) (ci := 10) (C := R_Shipped) (T := F_Shipped) (N := 2) B 1 rfl rfl (by decide) i_Shipped (B.2.2.2.1 _ k_530) rfl d_Shipped_put_25 ?_
          refine mv_aload_n (pc := 28) B d_Shipped_put_28 rfl 2 rfl ?_
          refine mv_iload_n (pc := 29) B d_Shipped_put_29 rfl 0 rfl ?_
          refine mv_callVOi (pc := 30) (n := 1) B (mK_ok sk sv) hNs (hNs.2.1 i9 hi9).2.1 (c_String_charAt l hi _ i9 hi9 _ q0 (by omega)) rfl (ma_goodc kc_String_charAt) (B.2.2.2.1 _ k_555) (B.2.2.2.1 _ k_556) (B.2.2.2.1 _ k_557) (B.2.2.2.1 _ k_21) ⟨by decide +kernel, by decide +kernel, by decide +kernel⟩ rfl d_Shipped_put_30 rfl (Nat.le_of_ble_eq_true rfl) ⟨by decide, by decide⟩ ⟨by decide, by decide⟩ ⟨by decide, by decide⟩ (mv_noH hno _) (fun v30 σ30 h30 => ?_)
          obtain ⟨e30, z30⟩ := h30
          have e30 := e30.symm
          subst e30
          refine mv_i2b (pc := 33) B d_Shipped_put_33 ?_
          refine mv_bast (pc := 34) B rfl (i32_in hs0 (by omega)) d_Shipped_put_34 ?_
          refine mv_aload_n (pc := 35) B d_Shipped_put_35 rfl 1 rfl ?_
          refine mv_dup (pc := 36) B d_Shipped_put_36 rfl ?_
          refine mv_getI (pc := 37) (ci := 10) (C := R_Shipped) (T := F_Shipped) (N := 2) B 1 rfl rfl (by decide) i_Shipped (B.2.2.2.1 _ k_530) rfl d_Shipped_put_37 ?_
          refine mv_iconst (pc := 40) (v := 1) B d_Shipped_put_40 (by decide) ?_
          refine mv_iadd (pc := 41) B d_Shipped_put_41 ?_
          refine mv_putI (pc := 42) (ci := 10) (C := R_Shipped) (T := F_Shipped) (N := 2) B 1 rfl rfl (by decide) i_Shipped t_Shipped_ok n_Shipped (B.2.2.2.1 _ k_530) rfl rfl rfl rfl d_Shipped_put_42 ?_
          refine mv_gen (fun S45 eS45 => ?_)
          have z31 : S45 = sh_add τ ((st_g i9).2.2.2.getD jj.toNatClampNeg 0) := by rw [eS45, z30]; show sh_add τ _ = _; rw [hasc.1]
          have hF2 : ShF σ S45 := by rw [z31]; exact (hF.sa rfl).si ⟨rfl, rfl⟩
          have hQ2 : ShQ S45 (q9 + qc (fun j => (st_g i9).2.2.2.getD j 0) (jj + 1).toNatClampNeg) := by
            rw [z31]
            have cj2 := i32_cl (x := jj + 1) (by omega)
            rw [show (jj + 1).toNatClampNeg = jj.toNatClampNeg + 1 by omega]
            exact hQ.add (by omega) ⟨by omega, hasc.2.2⟩
          have go := ih S45 (jj + 1) (by omega) hF2 hQ2 (by omega)
          clear eS45
          refine mv_iinc (pc := 45) (j := 0) (v := 1) B d_Shipped_put_45 rfl (by decide) (by decide) rfl ?_
          refine mv_goto (pc := 48) (tgt := 2) B d_Shipped_put_48 rfl ?_
          refine mv_lpick [0, 1, 2] rfl ?_
          exact go
  refine mv_iconst (pc := 0) (v := 0) B d_Shipped_put_0 (by decide) ?_
  refine mv_istore_n (pc := 1) B d_Shipped_put_1 rfl (by decide) rfl ?_
  refine mv_lpick [0, 1, 2] rfl ?_
  exact lp _ _ _ (by decide) Fr.rf (hQ0.up (Nat.le_add_right _ _)) (Nat.lt_succ_self _)
