/-! the reference's Book: clashes, reading -/
section MTF
variable {p : Program} {l : Launch} {e : Env} {R : Room} {s : State} {m : MethodId} {args : Array Value} {below : List Frame} {meth : Method} {c : Code} {G : mv_G} {ws : List Cond} {own : String} {cc : ByteArray} {nL : Nat} {cells slots : Nat} {σ : mv_H} {pc : Nat} {L : List (Nat × Value)} {stk rest : List Value}
  {K : mv_T} {ws' wt' : List Cond} {rm' : Room} {y : MethodName} {bytes : ByteArray} {maxL index mc ms n : Nat} {ret : Option FieldType} {av : List Value} {PostC : mv_O → mv_H → Prop}
theorem mv_callVCUv (B : mv_B p s m args meth c G ws own cc nL) (hN : mv_Tok K) (hNs : K (mv_A G s.heap.size) s s.heap) {C : String} {T0 : u_T} {N0 o ci : Nat} (hs : (mv_sh G)[o]? = some (.inl ci)) (hcl : (mv_cl G)[ci]? = some (C, T0, N0)) {P : mv_H → Prop} {x : String × Nat} {T : mv_H → Prop} (hM : mv_C l y ws' rm' G K (.ref (mv_al G o) :: av) σ (mv_Uv P x T)) (hw : ws' = Cond.code y bytes maxL ret :: wt') (hG : GoodIn ws ws')
    (hlink : (Cond.methodLink own index y).before args s = true) (hinst : (Cond.instanceMethod y).before args s = true) (hsel : (Cond.selects C y y).before args s = true) (hini : (Cond.initialized y.cls).before args s = true)
    (hd : y.cls ≠ "java/lang/invoke/MethodHandle" ∧ y.cls ≠ "java/lang/invoke/VarHandle" ∧ (parseMethodDescriptor y.desc).map (fun d => d.parameters.length) = some n) (hn : av.length = n)
    (hdg : decode cc pc = .ok (.invokevirtual index, 3)) (hstk : stk = av.reverse ++ .ref (mv_al G o) :: rest) (hr8 : (rest.map fun v => v.category).sum ≤ 8) (hroom : rm'.frames + 1 ≤ R.frames ∧ 8 + (maxL + 11) + rm'.locals ≤ R.locals) (hcell : cells + rm'.cells ≤ R.cells ∧ slots + rm'.slots ≤ R.slots)
    (kt : ∀ (σ' : mv_H), T σ' → ∃ hpc, mt_H p l e R s m args below meth c x.1 pc hpc ∧ mv_V p l e R s m args below meth c G nL (cells + rm'.cells) (slots + rm'.slots) (mv_Q G below s mc ms PostC) σ' hpc L [.ref x.2])
    (kn : ∀ (σ' : mv_H), P σ' → mv_V p l e R s m args below meth c G nL (cells + rm'.cells) (slots + rm'.slots) (mv_Q G below s mc ms PostC) σ' (pc + 3) L rest) :
    mv_V p l e R s m args below meth c G nL cells slots (mv_Q G below s mc ms PostC) σ pc L stk :=
  mv_callVC B hN hNs hs hcl hM hw hG hlink hinst hsel hini hd hn hdg hstk hr8 hroom hcell (fun z σ' h => by
    rcases h with ⟨h, _⟩ | ⟨h, hT⟩
    · cases h
    · cases h; exact kt σ' hT) (fun v σ' h => by
    rcases h with ⟨h, hP⟩ | ⟨h, _⟩
    · cases h; exact kn σ' hP
    · cases h)
end MTF
/-- the faults' fields alone -/
def CF (B : Nat) : mv_H → mv_H → Prop := Fx (fun o k => o = B ∧ 37 ≤ k ∧ k ≤ 39) (fun _ _ => False) (fun _ _ => False) (fun _ => False)
theorem CF.bf {B : Nat} {σ τ : mv_H} (h : CF B σ τ) : BF B σ τ := h.up (fun o k z => by omega) (fun o k z => absurd z id) (fun o k z => absurd z id) (fun o z => absurd z id)
/-- codes that can be read -/
def CO (B k : Nat) (S : mv_H) : Prop := (mv_i S B 29).toInt = k ∧ k ≤ 4000 ∧ (0 ≤ (mv_i S B 20).toInt ∧ (mv_i S B 20).toInt ≤ 64) ∧ ∀ i, i < k → 0 ≤ (mv_a S (B + 10) i).toInt ∧ (mv_a S (B + 10) i).toInt + (mv_i S B 20).toInt ≤ 32768
theorem CO.cf {B k : Nat} {S T : mv_H} (h : CO B k S) (f : CF B S T) : CO B k T := by
  unfold CO
  rw [f.1 B 29 (by omega), f.1 B 20 (by omega)]
  exact ⟨h.1, h.2.1, h.2.2.1, fun i hi => by rw [f.2.2.2.1 _ _ id]; exact h.2.2.2 i hi⟩
/-- a thing's place -/
def TA (B : Nat) (S : mv_H) (t : Nat) : Prop := 0 ≤ (mv_a S (B + 5) t).toInt ∧ TC B S t ∧ (mv_a S (B + 5) t).toInt + (mv_a S (B + 4) t).toInt ≤ 65536
/-- a book that can be run -/
def BG (B : Nat) (S : mv_H) : Prop := ∃ th n k : Nat, (mv_i S B 17).toInt = th ∧ th ≤ 64 ∧ (mv_i S B 48).toInt = n ∧ n ≤ 10240 ∧ CO B k S ∧ GN B th n k S ∧ (∀ t, t < th → TA B S t) ∧ (mv_i S B 18 = -1 ∨ ((0 ≤ (mv_i S B 18).toInt ∧ (mv_i S B 18).toInt < th) ∧ 0 ≤ (mv_i S B 21).toInt ∧ (mv_i S B 21).toInt < th))

def y_Book_apart : MethodName := ⟨"MachineLoomModel$Book", "apart", "(II)Z"⟩
abbrev b_Book_apart : ByteArray := prog_15_method_52_code
theorem kc_Book_apart : Cond.code y_Book_apart b_Book_apart 6 (Option.some Jvm.ClassFile.FieldType.boolean) ∈ ma := ma_of (tb_10 _ (List.mem_of_getElem? (i := 180) rfl)) rfl
theorem d_Book_apart_0 : decode b_Book_apart 0 = .ok (.iconst 0, 1) := by decide +kernel
theorem d_Book_apart_1 : decode b_Book_apart 1 = .ok (.istore_n 3, 1) := by decide +kernel
theorem d_Book_apart_2 : decode b_Book_apart 2 = .ok (.iload_n 3, 1) := by decide +kernel
theorem d_Book_apart_3 : decode b_Book_apart 3 = .ok (.aload_n 0, 1) := by decide +kernel
theorem d_Book_apart_4 : decode b_Book_apart 4 = .ok (.getfield 43, 3) := by decide +kernel
theorem d_Book_apart_7 : decode b_Book_apart 7 = .ok (.if_icmp .ge (69), 3) := by decide +kernel
theorem d_Book_apart_10 : decode b_Book_apart 10 = .ok (.aload_n 0, 1) := by decide +kernel
theorem d_Book_apart_11 : decode b_Book_apart 11 = .ok (.getfield 65, 3) := by decide +kernel
theorem d_Book_apart_14 : decode b_Book_apart 14 = .ok (.aload_n 0, 1) := by decide +kernel
theorem d_Book_apart_15 : decode b_Book_apart 15 = .ok (.getfield 55, 3) := by decide +kernel
theorem d_Book_apart_18 : decode b_Book_apart 18 = .ok (.iload_n 1, 1) := by decide +kernel
theorem d_Book_apart_19 : decode b_Book_apart 19 = .ok (.iaload, 1) := by decide +kernel
theorem d_Book_apart_20 : decode b_Book_apart 20 = .ok (.iload_n 3, 1) := by decide +kernel
theorem d_Book_apart_21 : decode b_Book_apart 21 = .ok (.iadd, 1) := by decide +kernel
theorem d_Book_apart_22 : decode b_Book_apart 22 = .ok (.baload, 1) := by decide +kernel
theorem d_Book_apart_23 : decode b_Book_apart 23 = .ok (.istore 4, 2) := by decide +kernel
theorem d_Book_apart_25 : decode b_Book_apart 25 = .ok (.aload_n 0, 1) := by decide +kernel
theorem d_Book_apart_26 : decode b_Book_apart 26 = .ok (.getfield 65, 3) := by decide +kernel
theorem d_Book_apart_29 : decode b_Book_apart 29 = .ok (.aload_n 0, 1) := by decide +kernel
theorem d_Book_apart_30 : decode b_Book_apart 30 = .ok (.getfield 55, 3) := by decide +kernel
theorem d_Book_apart_33 : decode b_Book_apart 33 = .ok (.iload_n 2, 1) := by decide +kernel
theorem d_Book_apart_34 : decode b_Book_apart 34 = .ok (.iaload, 1) := by decide +kernel
theorem d_Book_apart_35 : decode b_Book_apart 35 = .ok (.iload_n 3, 1) := by decide +kernel
theorem d_Book_apart_36 : decode b_Book_apart 36 = .ok (.iadd, 1) := by decide +kernel
theorem d_Book_apart_37 : decode b_Book_apart 37 = .ok (.baload, 1) := by decide +kernel
theorem d_Book_apart_38 : decode b_Book_apart 38 = .ok (.istore 5, 2) := by decide +kernel
theorem d_Book_apart_40 : decode b_Book_apart 40 = .ok (.iload 4, 2) := by decide +kernel
theorem d_Book_apart_42 : decode b_Book_apart 42 = .ok (.bipush 48, 2) := by decide +kernel
theorem d_Book_apart_44 : decode b_Book_apart 44 = .ok (.if_icmp .ne (10), 3) := by decide +kernel
theorem d_Book_apart_47 : decode b_Book_apart 47 = .ok (.iload 5, 2) := by decide +kernel
theorem d_Book_apart_49 : decode b_Book_apart 49 = .ok (.bipush 49, 2) := by decide +kernel
theorem d_Book_apart_51 : decode b_Book_apart 51 = .ok (.if_icmp .eq (17), 3) := by decide +kernel
theorem d_Book_apart_54 : decode b_Book_apart 54 = .ok (.iload 4, 2) := by decide +kernel
theorem d_Book_apart_56 : decode b_Book_apart 56 = .ok (.bipush 49, 2) := by decide +kernel
theorem d_Book_apart_58 : decode b_Book_apart 58 = .ok (.if_icmp .ne (12), 3) := by decide +kernel
theorem d_Book_apart_61 : decode b_Book_apart 61 = .ok (.iload 5, 2) := by decide +kernel
theorem d_Book_apart_63 : decode b_Book_apart 63 = .ok (.bipush 48, 2) := by decide +kernel
theorem d_Book_apart_65 : decode b_Book_apart 65 = .ok (.if_icmp .ne (5), 3) := by decide +kernel
theorem d_Book_apart_68 : decode b_Book_apart 68 = .ok (.iconst 1, 1) := by decide +kernel
theorem d_Book_apart_69 : decode b_Book_apart 69 = .ok (.ireturn, 1) := by decide +kernel
theorem d_Book_apart_70 : decode b_Book_apart 70 = .ok (.iinc 3 (1), 3) := by decide +kernel
theorem d_Book_apart_73 : decode b_Book_apart 73 = .ok (.goto (-71), 3) := by decide +kernel
theorem d_Book_apart_76 : decode b_Book_apart 76 = .ok (.iconst 0, 1) := by decide +kernel
theorem d_Book_apart_77 : decode b_Book_apart 77 = .ok (.ireturn, 1) := by decide +kernel
set_option maxHeartbeats 4000000 in
set_option maxRecDepth 100000 in
theorem c_Book_apart_x (l : Launch) {dA : FieldType → ClassId} {D : va_G} {al : Nat → Nat} {ext : mv_Sh} {sk sv : Nat → Nat} (hi : mv_inj (mg dA D al ext)) (σ : mv_H) (i9 j9 : Int32) (k : Nat) (hmr : mh (mv_r σ)) (hC : CO 74 k σ) (hi0 : 0 ≤ i9.toInt) (hi1 : i9.toInt < k) (hj0 : 0 ≤ j9.toInt) (hj1 : j9.toInt < k) : mv_C l y_Book_apart (Cond.code y_Book_apart b_Book_apart 6 (Option.some Jvm.ClassFile.FieldType.boolean) :: ma) ({ frames := 0, cells := 0, slots := 0, locals := 0 }) (mg dA D al ext) (mK sk sv) [.ref (al 74), .int i9, .int j9] σ (mv_Ri (fun v σ1 => σ1 = σ)) := by
  refine mv_C.ofV (cc := b_Book_apart) (nL := 6) (ret := (Option.some Jvm.ClassFile.FieldType.boolean)) (by decide +kernel) rfl hi (Nat.le_of_ble_eq_true rfl) ?_
  intro p e s m below meth c B hNs hr hnm hno
  obtain ⟨c1, c2, ⟨c3, c4⟩, c5⟩ := hC
  have ci : 0 ≤ (mv_a σ 84 i9.toNatClampNeg).toInt ∧ (mv_a σ 84 i9.toNatClampNeg).toInt + (mv_i σ 74 20).toInt ≤ 32768 := c5 i9.toNatClampNeg (by have := i32_cl hi0; omega)
  have cj : 0 ≤ (mv_a σ 84 j9.toNatClampNeg).toInt ∧ (mv_a σ 84 j9.toNatClampNeg).toInt + (mv_i σ 74 20).toInt ≤ 32768 := c5 j9.toNatClampNeg (by have := i32_cl hj0; omega)
  have lp : ∀ (nn : Nat) (k9 : Int32) (q0 : 0 ≤ k9.toInt), (20000 - k9.toInt).toNat < nn → mv_V p l e ({ frames := 0, cells := 0, slots := 0, locals := 0 }) s m ([.ref (al 74), .int i9, .int j9] : List Value).toArray below meth c (mg dA D al ext) 6 0 0 (mv_Q (mg dA D al ext) below s 0 0 (mv_Ri (fun v σ1 => σ1 = σ))) σ 2 [(3, .int k9), (0, .ref (al 74)), (1, .int i9), (2, .int j9)] [] := by
    intro nn
    induction nn with
    | zero => intro k9 q0 hm; exact absurd hm (Nat.not_lt_zero _)
    | succ nn ih =>
      intro k9 q0 hm
      refine mv_iload_n (pc := 2) B d_Book_apart_2 rfl 0 rfl ?_
      refine mv_aload_n (pc := 3) B d_Book_apart_3 rfl 1 rfl ?_
      refine mv_getI (pc := 4) (ci := 12) (C := R_Book) (T := F_Book) (N := 65) B 20 rfl rfl (by decide) i_Book (B.2.2.2.1 _ k_1865) rfl d_Book_apart_4 ?_
      refine mv_icmp_ge (pc := 7) (tgt := 76) B d_Book_apart_7 rfl (fun h7 => ?_) (fun h7 => ?_)
      · skip
        refine mv_iconst (pc := 76) (v := 0) B d_Book_apart_76 (by decide) ?_
        exact mv_iret (pc := 77) B hr rfl d_Book_apart_77 (Nat.le_refl _) (Nat.le_refl _) ⟨_, rfl, rfl⟩
      · skip
        rw [Int32.le_iff_toInt_le] at h7
        have w2 : (k9 + 1).toInt = k9.toInt + 1 := i32_inc (by omega)
        refine mv_aload_n (pc := 10) B d_Book_apart_10 rfl 1 rfl ?_
        refine mv_getR (pc := 11) (ci := 12) (C := R_Book) (T := F_Book) (N := 65) B 28 rfl rfl (by decide) i_Book (B.2.2.2.1 _ k_1873) rfl (hmr _ 28 _ rfl) d_Book_apart_11 ?_
        refine mv_aload_n (pc := 14) B d_Book_apart_14 rfl 1 rfl ?_
        refine mv_getR (pc := 15) (ci := 12) (C := R_Book) (T := F_Book) (N := 65) B 25 rfl rfl (by decide) i_Book (B.2.2.2.1 _ k_1870) rfl (hmr _ 25 _ rfl) d_Book_apart_15 ?_
        refine mv_iload_n (pc := 18) B d_Book_apart_18 rfl 2 rfl ?_
        refine mv_iald (pc := 19) B rfl (i32_in (show 0 ≤ i9.toInt by omega) (show i9.toInt < 4100 by omega)) d_Book_apart_19 ?_
        refine mv_iload_n (pc := 20) B d_Book_apart_20 rfl 0 rfl ?_
        refine mv_iadd (pc := 21) B d_Book_apart_21 ?_
        refine mv_topi (fun y21 ey21 => ?_)
        have fy21 := i32_addE ey21 (by (try simp only [Int32.reduceToInt]); omega) (by (try simp only [Int32.reduceToInt]); omega)
        try simp only [Int32.reduceToInt] at fy21
        refine mv_bald (pc := 22) B rfl (i32_in (show 0 ≤ y21.toInt by omega) (show y21.toInt < 32768 by omega)) d_Book_apart_22 ?_
        refine mv_istore (pc := 23) B d_Book_apart_23 (by decide) rfl ?_
        refine mv_aload_n (pc := 25) B d_Book_apart_25 rfl 2 rfl ?_
        refine mv_getR (pc := 26) (ci := 12) (C := R_Book) (T := F_Book) (N := 65) B 28 rfl rfl (by decide) i_Book (B.2.2.2.1 _ k_1873) rfl (hmr _ 28 _ rfl) d_Book_apart_26 ?_
        refine mv_aload_n (pc := 29) B d_Book_apart_29 rfl 2 rfl ?_
        refine mv_getR (pc := 30) (ci := 12) (C := R_Book) (T := F_Book) (N := 65) B 25 rfl rfl (by decide) i_Book (B.2.2.2.1 _ k_1870) rfl (hmr _ 25 _ rfl) d_Book_apart_30 ?_
        refine mv_iload_n (pc := 33) B d_Book_apart_33 rfl 4 rfl ?_
        refine mv_iald (pc := 34) B rfl (i32_in (show 0 ≤ j9.toInt by omega) (show j9.toInt < 4100 by omega)) d_Book_apart_34 ?_
        refine mv_iload_n (pc := 35) B d_Book_apart_35 rfl 1 rfl ?_
        refine mv_iadd (pc := 36) B d_Book_apart_36 ?_
        refine mv_topi (fun y36 ey36 => ?_)
        have fy36 := i32_addE ey36 (by (try simp only [Int32.reduceToInt]); omega) (by (try simp only [Int32.reduceToInt]); omega)
        try simp only [Int32.reduceToInt] at fy36
        refine mv_bald (pc := 37) B rfl (i32_in (show 0 ≤ y36.toInt by omega) (show y36.toInt < 32768 by omega)) d_Book_apart_37 ?_
        refine mv_istore (pc := 38) B d_Book_apart_38 (by decide) rfl ?_
        refine mv_iload (pc := 40) B d_Book_apart_40 1 rfl ?_
        refine mv_bipush (pc := 42) (v := 48) B d_Book_apart_42 (by decide) ?_
        refine mv_icmp_ne (pc := 44) (tgt := 54) B d_Book_apart_44 rfl (fun h44 => ?_) (fun h44 => ?_)
        · skip
          refine mv_iload (pc := 54) B d_Book_apart_54 1 rfl ?_
          refine mv_bipush (pc := 56) (v := 49) B d_Book_apart_56 (by decide) ?_
          refine mv_icmp_ne (pc := 58) (tgt := 70) B d_Book_apart_58 rfl (fun h58 => ?_) (fun h58 => ?_)
          · skip
            refine mv_iinc (pc := 70) (j := 2) (v := 1) B d_Book_apart_70 rfl (by decide) (by decide) rfl ?_
            refine mv_goto (pc := 73) (tgt := 2) B d_Book_apart_73 rfl ?_
            refine mv_lpick [0, 3, 4, 5] rfl ?_
            exact ih _ (by omega) (by omega)
          · skip
            refine mv_iload (pc := 61) B d_Book_apart_61 0 rfl ?_
            refine mv_bipush (pc := 63) (v := 48) B d_Book_apart_63 (by decide) ?_
            refine mv_icmp_ne (pc := 65) (tgt := 70) B d_Book_apart_65 rfl (fun h65 => ?_) (fun h65 => ?_)
            · skip
              refine mv_iinc (pc := 70) (j := 2) (v := 1) B d_Book_apart_70 rfl (by decide) (by decide) rfl ?_
              refine mv_goto (pc := 73) (tgt := 2) B d_Book_apart_73 rfl ?_
              refine mv_lpick [0, 3, 4, 5] rfl ?_
              exact ih _ (by omega) (by omega)
            · skip
              refine mv_iconst (pc := 68) (v := 1) B d_Book_apart_68 (by decide) ?_
              exact mv_iret (pc := 69) B hr rfl d_Book_apart_69 (Nat.le_refl _) (Nat.le_refl _) ⟨_, rfl, rfl⟩
        · skip
          refine mv_iload (pc := 47) B d_Book_apart_47 0 rfl ?_
          refine mv_bipush (pc := 49) (v := 49) B d_Book_apart_49 (by decide) ?_
          refine mv_icmp_eq (pc := 51) (tgt := 68) B d_Book_apart_51 rfl (fun h51 => ?_) (fun h51 => ?_)
          · skip
            refine mv_iconst (pc := 68) (v := 1) B d_Book_apart_68 (by decide) ?_
            exact mv_iret (pc := 69) B hr rfl d_Book_apart_69 (Nat.le_refl _) (Nat.le_refl _) ⟨_, rfl, rfl⟩
          · skip
            refine mv_iload (pc := 54) B d_Book_apart_54 1 rfl ?_
            refine mv_bipush (pc := 56) (v := 49) B d_Book_apart_56 (by decide) ?_
            refine mv_icmp_ne (pc := 58) (tgt := 70) B d_Book_apart_58 rfl (fun h58 => ?_) (fun h58 => ?_)
            · skip
              refine mv_iinc (pc := 70) (j := 2) (v := 1) B d_Book_apart_70 rfl (by decide) (by decide) rfl ?_
              refine mv_goto (pc := 73) (tgt := 2) B d_Book_apart_73 rfl ?_
              refine mv_lpick [0, 3, 4, 5] rfl ?_
              exact ih _ (by omega) (by omega)
            · skip
              refine mv_iload (pc := 61) B d_Book_apart_61 0 rfl ?_
              refine mv_bipush (pc := 63) (v := 48) B d_Book_apart_63 (by decide) ?_
              refine mv_icmp_ne (pc := 65) (tgt := 70) B d_Book_apart_65 rfl (fun h65 => ?_) (fun h65 => ?_)
              · skip
                refine mv_iinc (pc := 70) (j := 2) (v := 1) B d_Book_apart_70 rfl (by decide) (by decide) rfl ?_
                refine mv_goto (pc := 73) (tgt := 2) B d_Book_apart_73 rfl ?_
                refine mv_lpick [0, 3, 4, 5] rfl ?_
                exact ih _ (by omega) (by omega)
              · skip
                refine mv_iconst (pc := 68) (v := 1) B d_Book_apart_68 (by decide) ?_
                exact mv_iret (pc := 69) B hr rfl d_Book_apart_69 (Nat.le_refl _) (Nat.le_refl _) ⟨_, rfl, rfl⟩
  refine mv_iconst (pc := 0) (v := 0) B d_Book_apart_0 (by decide) ?_
  refine mv_istore_n (pc := 1) B d_Book_apart_1 rfl (by decide) rfl ?_
  refine mv_lpick [0, 1, 2, 3] rfl ?_
  exact lp _ _ (by decide) (Nat.lt_succ_self _)
set_option maxHeartbeats 4000000 in
set_option maxRecDepth 100000 in
theorem c_Book_apart_y (l : Launch) {dA : FieldType → ClassId} {D : va_G} {al : Nat → Nat} {ext : mv_Sh} {sk sv : Nat → Nat} (hi : mv_inj (mg dA D al ext)) (σ : mv_H) (i9 j9 : Int32) (k : Nat) (hmr : mh (mv_r σ)) (hC : CO 108 k σ) (hi0 : 0 ≤ i9.toInt) (hi1 : i9.toInt < k) (hj0 : 0 ≤ j9.toInt) (hj1 : j9.toInt < k) : mv_C l y_Book_apart (Cond.code y_Book_apart b_Book_apart 6 (Option.some Jvm.ClassFile.FieldType.boolean) :: ma) ({ frames := 0, cells := 0, slots := 0, locals := 0 }) (mg dA D al ext) (mK sk sv) [.ref (al 108), .int i9, .int j9] σ (mv_Ri (fun v σ1 => σ1 = σ)) := by
  refine mv_C.ofV (cc := b_Book_apart) (nL := 6) (ret := (Option.some Jvm.ClassFile.FieldType.boolean)) (by decide +kernel) rfl hi (Nat.le_of_ble_eq_true rfl) ?_
  intro p e s m below meth c B hNs hr hnm hno
  obtain ⟨c1, c2, ⟨c3, c4⟩, c5⟩ := hC
  have ci : 0 ≤ (mv_a σ 118 i9.toNatClampNeg).toInt ∧ (mv_a σ 118 i9.toNatClampNeg).toInt + (mv_i σ 108 20).toInt ≤ 32768 := c5 i9.toNatClampNeg (by have := i32_cl hi0; omega)
  have cj : 0 ≤ (mv_a σ 118 j9.toNatClampNeg).toInt ∧ (mv_a σ 118 j9.toNatClampNeg).toInt + (mv_i σ 108 20).toInt ≤ 32768 := c5 j9.toNatClampNeg (by have := i32_cl hj0; omega)
  have lp : ∀ (nn : Nat) (k9 : Int32) (q0 : 0 ≤ k9.toInt), (20000 - k9.toInt).toNat < nn → mv_V p l e ({ frames := 0, cells := 0, slots := 0, locals := 0 }) s m ([.ref (al 108), .int i9, .int j9] : List Value).toArray below meth c (mg dA D al ext) 6 0 0 (mv_Q (mg dA D al ext) below s 0 0 (mv_Ri (fun v σ1 => σ1 = σ))) σ 2 [(3, .int k9), (0, .ref (al 108)), (1, .int i9), (2, .int j9)] [] := by
    intro nn
    induction nn with
    | zero => intro k9 q0 hm; exact absurd hm (Nat.not_lt_zero _)
    | succ nn ih =>
      intro k9 q0 hm
      refine mv_iload_n (pc := 2) B d_Book_apart_2 rfl 0 rfl ?_
      refine mv_aload_n (pc := 3) B d_Book_apart_3 rfl 1 rfl ?_
      refine mv_getI (pc := 4) (ci := 12) (C := R_Book) (T := F_Book) (N := 65) B 20 rfl rfl (by decide) i_Book (B.2.2.2.1 _ k_1865) rfl d_Book_apart_4 ?_
      refine mv_icmp_ge (pc := 7) (tgt := 76) B d_Book_apart_7 rfl (fun h7 => ?_) (fun h7 => ?_)
      · skip
        refine mv_iconst (pc := 76) (v := 0) B d_Book_apart_76 (by decide) ?_
        exact mv_iret (pc := 77) B hr rfl d_Book_apart_77 (Nat.le_refl _) (Nat.le_refl _) ⟨_, rfl, rfl⟩
      · skip
        rw [Int32.le_iff_toInt_le] at h7
        have w2 : (k9 + 1).toInt = k9.toInt + 1 := i32_inc (by omega)
        refine mv_aload_n (pc := 10) B d_Book_apart_10 rfl 1 rfl ?_
        refine mv_getR (pc := 11) (ci := 12) (C := R_Book) (T := F_Book) (N := 65) B 28 rfl rfl (by decide) i_Book (B.2.2.2.1 _ k_1873) rfl (hmr _ 28 _ rfl) d_Book_apart_11 ?_
        refine mv_aload_n (pc := 14) B d_Book_apart_14 rfl 1 rfl ?_
        refine mv_getR (pc := 15) (ci := 12) (C := R_Book) (T := F_Book) (N := 65) B 25 rfl rfl (by decide) i_Book (B.2.2.2.1 _ k_1870) rfl (hmr _ 25 _ rfl) d_Book_apart_15 ?_
        refine mv_iload_n (pc := 18) B d_Book_apart_18 rfl 2 rfl ?_
        refine mv_iald (pc := 19) B rfl (i32_in (show 0 ≤ i9.toInt by omega) (show i9.toInt < 4100 by omega)) d_Book_apart_19 ?_
        refine mv_iload_n (pc := 20) B d_Book_apart_20 rfl 0 rfl ?_
        refine mv_iadd (pc := 21) B d_Book_apart_21 ?_
        refine mv_topi (fun y21 ey21 => ?_)
        have fy21 := i32_addE ey21 (by (try simp only [Int32.reduceToInt]); omega) (by (try simp only [Int32.reduceToInt]); omega)
        try simp only [Int32.reduceToInt] at fy21
        refine mv_bald (pc := 22) B rfl (i32_in (show 0 ≤ y21.toInt by omega) (show y21.toInt < 32768 by omega)) d_Book_apart_22 ?_
        refine mv_istore (pc := 23) B d_Book_apart_23 (by decide) rfl ?_
        refine mv_aload_n (pc := 25) B d_Book_apart_25 rfl 2 rfl ?_
        refine mv_getR (pc := 26) (ci := 12) (C := R_Book) (T := F_Book) (N := 65) B 28 rfl rfl (by decide) i_Book (B.2.2.2.1 _ k_1873) rfl (hmr _ 28 _ rfl) d_Book_apart_26 ?_
        refine mv_aload_n (pc := 29) B d_Book_apart_29 rfl 2 rfl ?_
        refine mv_getR (pc := 30) (ci := 12) (C := R_Book) (T := F_Book) (N := 65) B 25 rfl rfl (by decide) i_Book (B.2.2.2.1 _ k_1870) rfl (hmr _ 25 _ rfl) d_Book_apart_30 ?_
        refine mv_iload_n (pc := 33) B d_Book_apart_33 rfl 4 rfl ?_
        refine mv_iald (pc := 34) B rfl (i32_in (show 0 ≤ j9.toInt by omega) (show j9.toInt < 4100 by omega)) d_Book_apart_34 ?_
        refine mv_iload_n (pc := 35) B d_Book_apart_35 rfl 1 rfl ?_
        refine mv_iadd (pc := 36) B d_Book_apart_36 ?_
        refine mv_topi (fun y36 ey36 => ?_)
        have fy36 := i32_addE ey36 (by (try simp only [Int32.reduceToInt]); omega) (by (try simp only [Int32.reduceToInt]); omega)
        try simp only [Int32.reduceToInt] at fy36
        refine mv_bald (pc := 37) B rfl (i32_in (show 0 ≤ y36.toInt by omega) (show y36.toInt < 32768 by omega)) d_Book_apart_37 ?_
        refine mv_istore (pc := 38) B d_Book_apart_38 (by decide) rfl ?_
        refine mv_iload (pc := 40) B d_Book_apart_40 1 rfl ?_
        refine mv_bipush (pc := 42) (v := 48) B d_Book_apart_42 (by decide) ?_
        refine mv_icmp_ne (pc := 44) (tgt := 54) B d_Book_apart_44 rfl (fun h44 => ?_) (fun h44 => ?_)
        · skip
          refine mv_iload (pc := 54) B d_Book_apart_54 1 rfl ?_
          refine mv_bipush (pc := 56) (v := 49) B d_Book_apart_56 (by decide) ?_
          refine mv_icmp_ne (pc := 58) (tgt := 70) B d_Book_apart_58 rfl (fun h58 => ?_) (fun h58 => ?_)
          · skip
            refine mv_iinc (pc := 70) (j := 2) (v := 1) B d_Book_apart_70 rfl (by decide) (by decide) rfl ?_
            refine mv_goto (pc := 73) (tgt := 2) B d_Book_apart_73 rfl ?_
            refine mv_lpick [0, 3, 4, 5] rfl ?_
            exact ih _ (by omega) (by omega)
          · skip
            refine mv_iload (pc := 61) B d_Book_apart_61 0 rfl ?_
            refine mv_bipush (pc := 63) (v := 48) B d_Book_apart_63 (by decide) ?_
            refine mv_icmp_ne (pc := 65) (tgt := 70) B d_Book_apart_65 rfl (fun h65 => ?_) (fun h65 => ?_)
            · skip
              refine mv_iinc (pc := 70) (j := 2) (v := 1) B d_Book_apart_70 rfl (by decide) (by decide) rfl ?_
              refine mv_goto (pc := 73) (tgt := 2) B d_Book_apart_73 rfl ?_
              refine mv_lpick [0, 3, 4, 5] rfl ?_
              exact ih _ (by omega) (by omega)
            · skip
              refine mv_iconst (pc := 68) (v := 1) B d_Book_apart_68 (by decide) ?_
              exact mv_iret (pc := 69) B hr rfl d_Book_apart_69 (Nat.le_refl _) (Nat.le_refl _) ⟨_, rfl, rfl⟩
        · skip
          refine mv_iload (pc := 47) B d_Book_apart_47 0 rfl ?_
          refine mv_bipush (pc := 49) (v := 49) B d_Book_apart_49 (by decide) ?_
          refine mv_icmp_eq (pc := 51) (tgt := 68) B d_Book_apart_51 rfl (fun h51 => ?_) (fun h51 => ?_)
          · skip
            refine mv_iconst (pc := 68) (v := 1) B d_Book_apart_68 (by decide) ?_
            exact mv_iret (pc := 69) B hr rfl d_Book_apart_69 (Nat.le_refl _) (Nat.le_refl _) ⟨_, rfl, rfl⟩
          · skip
            refine mv_iload (pc := 54) B d_Book_apart_54 1 rfl ?_
            refine mv_bipush (pc := 56) (v := 49) B d_Book_apart_56 (by decide) ?_
            refine mv_icmp_ne (pc := 58) (tgt := 70) B d_Book_apart_58 rfl (fun h58 => ?_) (fun h58 => ?_)
            · skip
              refine mv_iinc (pc := 70) (j := 2) (v := 1) B d_Book_apart_70 rfl (by decide) (by decide) rfl ?_
              refine mv_goto (pc := 73) (tgt := 2) B d_Book_apart_73 rfl ?_
              refine mv_lpick [0, 3, 4, 5] rfl ?_
              exact ih _ (by omega) (by omega)
            · skip
              refine mv_iload (pc := 61) B d_Book_apart_61 0 rfl ?_
              refine mv_bipush (pc := 63) (v := 48) B d_Book_apart_63 (by decide) ?_
              refine mv_icmp_ne (pc := 65) (tgt := 70) B d_Book_apart_65 rfl (fun h65 => ?_) (fun h65 => ?_)
              · skip
                refine mv_iinc (pc := 70) (j := 2) (v := 1) B d_Book_apart_70 rfl (by decide) (by decide) rfl ?_
                refine mv_goto (pc := 73) (tgt := 2) B d_Book_apart_73 rfl ?_
                refine mv_lpick [0, 3, 4, 5] rfl ?_
                exact ih _ (by omega) (by omega)
              · skip
                refine mv_iconst (pc := 68) (v := 1) B d_Book_apart_68 (by decide) ?_
                exact mv_iret (pc := 69) B hr rfl d_Book_apart_69 (Nat.le_refl _) (Nat.le_refl _) ⟨_, rfl, rfl⟩
  refine mv_iconst (pc := 0) (v := 0) B d_Book_apart_0 (by decide) ?_
  refine mv_istore_n (pc := 1) B d_Book_apart_1 rfl (by decide) rfl ?_
  refine mv_lpick [0, 1, 2, 3] rfl ?_
  exact lp _ _ (by decide) (Nat.lt_succ_self _)
def y_Book_clash : MethodName := ⟨"MachineLoomModel$Book", "clash", "()V"⟩
abbrev b_Book_clash : ByteArray := prog_15_method_53_code
theorem kc_Book_clash : Cond.code y_Book_clash b_Book_clash 3 (Option.none : Option Jvm.ClassFile.FieldType) ∈ ma := ma_of (tb_10 _ (List.mem_of_getElem? (i := 176) rfl)) rfl
theorem k_2337 : (Jvm.Cond.methodLink "MachineLoomModel$Book" (431 : Nat) ({ cls := "MachineLoomModel$Book", name := "apart", desc := "(II)Z" } : Jvm.MethodName)) ∈ ma := ma_of (tb_10 _ (List.mem_of_getElem? (i := 177) rfl)) rfl
theorem k_2339 : (Jvm.Cond.instanceMethod ({ cls := "MachineLoomModel$Book", name := "apart", desc := "(II)Z" } : Jvm.MethodName)) ∈ ma := ma_of (tb_10 _ (List.mem_of_getElem? (i := 179) rfl)) rfl
theorem ks_122 : Cond.selects "MachineLoomModel$Book" ⟨"MachineLoomModel$Book", "apart", "(II)Z"⟩ ⟨"MachineLoomModel$Book", "apart", "(II)Z"⟩ ∈ ma := ma_sel 122 rfl rfl
theorem k_1888 : (Jvm.Cond.fieldLink "MachineLoomModel$Book" (434 : Nat) "MachineLoomModel$Book" "other" "I") ∈ ma := ma_of (tb_8 _ (List.mem_of_getElem? (i := 208) rfl)) rfl
theorem d_Book_clash_0 : decode b_Book_clash 0 = .ok (.iconst 0, 1) := by decide +kernel
theorem d_Book_clash_1 : decode b_Book_clash 1 = .ok (.istore_n 1, 1) := by decide +kernel
theorem d_Book_clash_2 : decode b_Book_clash 2 = .ok (.iload_n 1, 1) := by decide +kernel
theorem d_Book_clash_3 : decode b_Book_clash 3 = .ok (.aload_n 0, 1) := by decide +kernel
theorem d_Book_clash_4 : decode b_Book_clash 4 = .ok (.getfield 238, 3) := by decide +kernel
theorem d_Book_clash_7 : decode b_Book_clash 7 = .ok (.if_icmp .ge (64), 3) := by decide +kernel
theorem d_Book_clash_10 : decode b_Book_clash 10 = .ok (.aload_n 0, 1) := by decide +kernel
theorem d_Book_clash_11 : decode b_Book_clash 11 = .ok (.getfield 225, 3) := by decide +kernel
theorem d_Book_clash_14 : decode b_Book_clash 14 = .ok (.ifCond .ne (57), 3) := by decide +kernel
theorem d_Book_clash_17 : decode b_Book_clash 17 = .ok (.iconst 0, 1) := by decide +kernel
theorem d_Book_clash_18 : decode b_Book_clash 18 = .ok (.istore_n 2, 1) := by decide +kernel
theorem d_Book_clash_19 : decode b_Book_clash 19 = .ok (.iload_n 2, 1) := by decide +kernel
theorem d_Book_clash_20 : decode b_Book_clash 20 = .ok (.iload_n 1, 1) := by decide +kernel
theorem d_Book_clash_21 : decode b_Book_clash 21 = .ok (.if_icmp .ge (44), 3) := by decide +kernel
theorem d_Book_clash_24 : decode b_Book_clash 24 = .ok (.aload_n 0, 1) := by decide +kernel
theorem d_Book_clash_25 : decode b_Book_clash 25 = .ok (.getfield 225, 3) := by decide +kernel
theorem d_Book_clash_28 : decode b_Book_clash 28 = .ok (.ifCond .ne (37), 3) := by decide +kernel
theorem d_Book_clash_31 : decode b_Book_clash 31 = .ok (.aload_n 0, 1) := by decide +kernel
theorem d_Book_clash_32 : decode b_Book_clash 32 = .ok (.iload_n 1, 1) := by decide +kernel
theorem d_Book_clash_33 : decode b_Book_clash 33 = .ok (.iload_n 2, 1) := by decide +kernel
theorem d_Book_clash_34 : decode b_Book_clash 34 = .ok (.invokevirtual 431, 3) := by decide +kernel
theorem d_Book_clash_37 : decode b_Book_clash 37 = .ok (.ifCond .eq (6), 3) := by decide +kernel
theorem d_Book_clash_40 : decode b_Book_clash 40 = .ok (.goto (19), 3) := by decide +kernel
theorem d_Book_clash_43 : decode b_Book_clash 43 = .ok (.aload_n 0, 1) := by decide +kernel
theorem d_Book_clash_44 : decode b_Book_clash 44 = .ok (.iload_n 1, 1) := by decide +kernel
theorem d_Book_clash_45 : decode b_Book_clash 45 = .ok (.putfield 228, 3) := by decide +kernel
theorem d_Book_clash_48 : decode b_Book_clash 48 = .ok (.aload_n 0, 1) := by decide +kernel
theorem d_Book_clash_49 : decode b_Book_clash 49 = .ok (.bipush 7, 2) := by decide +kernel
theorem d_Book_clash_51 : decode b_Book_clash 51 = .ok (.putfield 225, 3) := by decide +kernel
theorem d_Book_clash_54 : decode b_Book_clash 54 = .ok (.aload_n 0, 1) := by decide +kernel
theorem d_Book_clash_55 : decode b_Book_clash 55 = .ok (.iload_n 2, 1) := by decide +kernel
theorem d_Book_clash_56 : decode b_Book_clash 56 = .ok (.putfield 434, 3) := by decide +kernel
theorem d_Book_clash_59 : decode b_Book_clash 59 = .ok (.iinc 2 (1), 3) := by decide +kernel
theorem d_Book_clash_62 : decode b_Book_clash 62 = .ok (.goto (-43), 3) := by decide +kernel
theorem d_Book_clash_65 : decode b_Book_clash 65 = .ok (.iinc 1 (1), 3) := by decide +kernel
theorem d_Book_clash_68 : decode b_Book_clash 68 = .ok (.goto (-66), 3) := by decide +kernel
theorem d_Book_clash_71 : decode b_Book_clash 71 = .ok (.return_, 1) := by decide +kernel
set_option maxHeartbeats 4000000 in
set_option maxRecDepth 100000 in
theorem c_Book_clash_x (l : Launch) {dA : FieldType → ClassId} {D : va_G} {al : Nat → Nat} {ext : mv_Sh} {sk sv : Nat → Nat} (hi : mv_inj (mg dA D al ext)) (σ : mv_H) (k : Nat) (hmr : mh (mv_r σ)) (hC : CO 74 k σ) : mv_C l y_Book_clash (Cond.code y_Book_clash b_Book_clash 3 (Option.none : Option Jvm.ClassFile.FieldType) :: ma) ({ frames := 1, cells := 0, slots := 0, locals := 25 }) (mg dA D al ext) (mK sk sv) [.ref (al 74)] σ (mv_Rv (fun σ1 => CF 74 σ σ1)) := by
  refine mv_C.ofV (cc := b_Book_clash) (nL := 3) (ret := (Option.none : Option Jvm.ClassFile.FieldType)) (by decide +kernel) rfl hi (Nat.le_of_ble_eq_true rfl) ?_
  intro p e s m below meth c B hNs hr hnm hno
  have lp : ∀ (nn : Nat) (τ : mv_H) (i9 : Int32) (hF : CF 74 σ τ) (q0 : 0 ≤ i9.toInt), (20000 - i9.toInt).toNat < nn → mv_V p l e ({ frames := 1, cells := 0, slots := 0, locals := 25 }) s m ([.ref (al 74)] : List Value).toArray below meth c (mg dA D al ext) 3 0 0 (mv_Q (mg dA D al ext) below s 0 0 (mv_Rv (fun σ1 => CF 74 σ σ1))) τ 2 [(1, .int i9), (0, .ref (al 74))] [] := by
    intro nn
    induction nn with
    | zero => intro τ i9 hF q0 hm; exact absurd hm (Nat.not_lt_zero _)
    | succ nn ih =>
      intro τ i9 hF q0 hm
      have hmt : mh (mv_r τ) := by rw [hF.2.2.1]; exact hmr
      have hCt := hC.cf hF
      refine mv_iload_n (pc := 2) B d_Book_clash_2 rfl 0 rfl ?_
      refine mv_aload_n (pc := 3) B d_Book_clash_3 rfl 1 rfl ?_
      refine mv_getI (pc := 4) (ci := 12) (C := R_Book) (T := F_Book) (N := 65) B 29 rfl rfl (by decide) i_Book (B.2.2.2.1 _ k_1874) rfl d_Book_clash_4 ?_
      refine mv_icmp_ge (pc := 7) (tgt := 71) B d_Book_clash_7 rfl (fun h7 => ?_) (fun h7 => ?_)
      · skip
        exact mv_vret (pc := 71) B hr d_Book_clash_71 (Nat.le_refl _) (Nat.le_refl _) ⟨rfl, hF⟩
      · skip
        rw [Int32.le_iff_toInt_le] at h7
        have hk1 := hCt.1
        have hk2 := hCt.2.1
        refine mv_aload_n (pc := 10) B d_Book_clash_10 rfl 1 rfl ?_
        refine mv_getI (pc := 11) (ci := 12) (C := R_Book) (T := F_Book) (N := 65) B 38 rfl rfl (by decide) i_Book (B.2.2.2.1 _ k_1885) rfl d_Book_clash_11 ?_
        refine mv_if_ne (pc := 14) (tgt := 71) B d_Book_clash_14 rfl (fun h14 => ?_) (fun h14 => ?_)
        · skip
          exact mv_vret (pc := 71) B hr d_Book_clash_71 (Nat.le_refl _) (Nat.le_refl _) ⟨rfl, hF⟩
        · skip
          refine mv_iconst (pc := 17) (v := 0) B d_Book_clash_17 (by decide) ?_
          refine mv_istore_n (pc := 18) B d_Book_clash_18 rfl (by decide) rfl ?_
          have ihO := ih
          have lq : ∀ (nn : Nat) (τ : mv_H) (j9 : Int32) (hF : CF 74 σ τ) (r0 : 0 ≤ j9.toInt), (20000 - j9.toInt).toNat < nn → mv_V p l e ({ frames := 1, cells := 0, slots := 0, locals := 25 }) s m ([.ref (al 74)] : List Value).toArray below meth c (mg dA D al ext) 3 0 0 (mv_Q (mg dA D al ext) below s 0 0 (mv_Rv (fun σ1 => CF 74 σ σ1))) τ 19 [(2, .int j9), (1, .int i9), (0, .ref (al 74))] [] := by
            intro nn
            induction nn with
            | zero => intro τ j9 hF r0 hm; exact absurd hm (Nat.not_lt_zero _)
            | succ nn ih =>
              intro τ j9 hF r0 hm
              have hmt : mh (mv_r τ) := by rw [hF.2.2.1]; exact hmr
              have hCt := hC.cf hF
              refine mv_iload_n (pc := 19) B d_Book_clash_19 rfl 0 rfl ?_
              refine mv_iload_n (pc := 20) B d_Book_clash_20 rfl 1 rfl ?_
              refine mv_icmp_ge (pc := 21) (tgt := 65) B d_Book_clash_21 rfl (fun h21 => ?_) (fun h21 => ?_)
              · skip
                have w2 : (i9 + 1).toInt = i9.toInt + 1 := i32_inc (by omega)
                refine mv_iinc (pc := 65) (j := 1) (v := 1) B d_Book_clash_65 rfl (by decide) (by decide) rfl ?_
                refine mv_goto (pc := 68) (tgt := 2) B d_Book_clash_68 rfl ?_
                refine mv_lpick [0, 2] rfl ?_
                exact ihO _ _ hF (by omega) (by omega)
              · skip
                rw [Int32.le_iff_toInt_le] at h21
                refine mv_aload_n (pc := 24) B d_Book_clash_24 rfl 2 rfl ?_
                refine mv_getI (pc := 25) (ci := 12) (C := R_Book) (T := F_Book) (N := 65) B 38 rfl rfl (by decide) i_Book (B.2.2.2.1 _ k_1885) rfl d_Book_clash_25 ?_
                refine mv_if_ne (pc := 28) (tgt := 65) B d_Book_clash_28 rfl (fun h28 => ?_) (fun h28 => ?_)
                · skip
                  have w2 : (i9 + 1).toInt = i9.toInt + 1 := i32_inc (by omega)
                  refine mv_iinc (pc := 65) (j := 1) (v := 1) B d_Book_clash_65 rfl (by decide) (by decide) rfl ?_
                  refine mv_goto (pc := 68) (tgt := 2) B d_Book_clash_68 rfl ?_
                  refine mv_lpick [0, 2] rfl ?_
                  exact ihO _ _ hF (by omega) (by omega)
                · skip
                  refine mv_aload_n (pc := 31) B d_Book_clash_31 rfl 2 rfl ?_
                  refine mv_iload_n (pc := 32) B d_Book_clash_32 rfl 1 rfl ?_
                  refine mv_iload_n (pc := 33) B d_Book_clash_33 rfl 0 rfl ?_
                  refine mv_callVi (pc := 34) (n := 2) (ci := 12) (C := R_Book) B (mK_ok sk sv) hNs rfl rfl (c_Book_apart_x l hi _ _ _ k hmt hCt q0 (by omega) r0 (by omega)) rfl (ma_goodc kc_Book_apart) (B.2.2.2.1 _ k_2337) (B.2.2.2.1 _ k_2339) (B.2.2.2.1 _ ks_122) (B.2.2.2.1 _ k_13) ⟨by decide +kernel, by decide +kernel, by decide +kernel⟩ rfl d_Book_clash_34 rfl (Nat.le_of_ble_eq_true rfl) ⟨by decide, by decide⟩ ⟨by decide, by decide⟩ ⟨by decide, by decide⟩ (mv_noH hno _) (fun v34 σ34 h34 => ?_)
                  have e34 := h34.symm
                  subst e34
                  refine mv_if_eq (pc := 37) (tgt := 43) B d_Book_clash_37 rfl (fun h37 => ?_) (fun h37 => ?_)
                  · skip
                    refine mv_aload_n (pc := 43) B d_Book_clash_43 rfl 2 rfl ?_
                    refine mv_iload_n (pc := 44) B d_Book_clash_44 rfl 1 rfl ?_
                    refine mv_putI (pc := 45) (ci := 12) (C := R_Book) (T := F_Book) (N := 65) B 37 rfl rfl (by decide) i_Book t_Book_ok n_Book (B.2.2.2.1 _ k_1883) rfl rfl rfl rfl d_Book_clash_45 ?_
                    refine mv_aload_n (pc := 48) B d_Book_clash_48 rfl 2 rfl ?_
                    refine mv_bipush (pc := 49) (v := 7) B d_Book_clash_49 (by decide) ?_
                    refine mv_putI (pc := 51) (ci := 12) (C := R_Book) (T := F_Book) (N := 65) B 38 rfl rfl (by decide) i_Book t_Book_ok n_Book (B.2.2.2.1 _ k_1885) rfl rfl rfl rfl d_Book_clash_51 ?_
                    refine mv_aload_n (pc := 54) B d_Book_clash_54 rfl 2 rfl ?_
                    refine mv_iload_n (pc := 55) B d_Book_clash_55 rfl 0 rfl ?_
                    refine mv_putI (pc := 56) (ci := 12) (C := R_Book) (T := F_Book) (N := 65) B 39 rfl rfl (by decide) i_Book t_Book_ok n_Book (B.2.2.2.1 _ k_1888) rfl rfl rfl rfl d_Book_clash_56 ?_
                    have w3 : (j9 + 1).toInt = j9.toInt + 1 := i32_inc (by omega)
                    refine mv_iinc (pc := 59) (j := 0) (v := 1) B d_Book_clash_59 rfl (by decide) (by decide) rfl ?_
                    refine mv_goto (pc := 62) (tgt := 19) B d_Book_clash_62 rfl ?_
                    refine mv_lpick [0, 1, 2] rfl ?_
                    exact ih _ _ (by first | exact hF | exact ((hF.si ⟨rfl, by decide, by decide⟩).si ⟨rfl, by decide, by decide⟩).si ⟨rfl, by decide, by decide⟩) (by omega) (by omega)
                  · skip
                    refine mv_goto (pc := 40) (tgt := 59) B d_Book_clash_40 rfl ?_
                    have w3 : (j9 + 1).toInt = j9.toInt + 1 := i32_inc (by omega)
                    refine mv_iinc (pc := 59) (j := 0) (v := 1) B d_Book_clash_59 rfl (by decide) (by decide) rfl ?_
                    refine mv_goto (pc := 62) (tgt := 19) B d_Book_clash_62 rfl ?_
                    refine mv_lpick [0, 1, 2] rfl ?_
                    exact ih _ _ (by first | exact hF | exact ((hF.si ⟨rfl, by decide, by decide⟩).si ⟨rfl, by decide, by decide⟩).si ⟨rfl, by decide, by decide⟩) (by omega) (by omega)
          refine mv_lpick [0, 1, 2] rfl ?_
          exact lq _ _ _ hF (by decide) (Nat.lt_succ_self _)
  refine mv_iconst (pc := 0) (v := 0) B d_Book_clash_0 (by decide) ?_
  refine mv_istore_n (pc := 1) B d_Book_clash_1 rfl (by decide) rfl ?_
  refine mv_lpick [0, 1] rfl ?_
  exact lp _ _ _ Fx.rf (by decide) (Nat.lt_succ_self _)
set_option maxHeartbeats 4000000 in
set_option maxRecDepth 100000 in
theorem c_Book_clash_y (l : Launch) {dA : FieldType → ClassId} {D : va_G} {al : Nat → Nat} {ext : mv_Sh} {sk sv : Nat → Nat} (hi : mv_inj (mg dA D al ext)) (σ : mv_H) (k : Nat) (hmr : mh (mv_r σ)) (hC : CO 108 k σ) : mv_C l y_Book_clash (Cond.code y_Book_clash b_Book_clash 3 (Option.none : Option Jvm.ClassFile.FieldType) :: ma) ({ frames := 1, cells := 0, slots := 0, locals := 25 }) (mg dA D al ext) (mK sk sv) [.ref (al 108)] σ (mv_Rv (fun σ1 => CF 108 σ σ1)) := by
  refine mv_C.ofV (cc := b_Book_clash) (nL := 3) (ret := (Option.none : Option Jvm.ClassFile.FieldType)) (by decide +kernel) rfl hi (Nat.le_of_ble_eq_true rfl) ?_
  intro p e s m below meth c B hNs hr hnm hno
  have lp : ∀ (nn : Nat) (τ : mv_H) (i9 : Int32) (hF : CF 108 σ τ) (q0 : 0 ≤ i9.toInt), (20000 - i9.toInt).toNat < nn → mv_V p l e ({ frames := 1, cells := 0, slots := 0, locals := 25 }) s m ([.ref (al 108)] : List Value).toArray below meth c (mg dA D al ext) 3 0 0 (mv_Q (mg dA D al ext) below s 0 0 (mv_Rv (fun σ1 => CF 108 σ σ1))) τ 2 [(1, .int i9), (0, .ref (al 108))] [] := by
    intro nn
    induction nn with
    | zero => intro τ i9 hF q0 hm; exact absurd hm (Nat.not_lt_zero _)
    | succ nn ih =>
      intro τ i9 hF q0 hm
      have hmt : mh (mv_r τ) := by rw [hF.2.2.1]; exact hmr
      have hCt := hC.cf hF
      refine mv_iload_n (pc := 2) B d_Book_clash_2 rfl 0 rfl ?_
      refine mv_aload_n (pc := 3) B d_Book_clash_3 rfl 1 rfl ?_
      refine mv_getI (pc := 4) (ci := 12) (C := R_Book) (T := F_Book) (N := 65) B 29 rfl rfl (by decide) i_Book (B.2.2.2.1 _ k_1874) rfl d_Book_clash_4 ?_
      refine mv_icmp_ge (pc := 7) (tgt := 71) B d_Book_clash_7 rfl (fun h7 => ?_) (fun h7 => ?_)
      · skip
        exact mv_vret (pc := 71) B hr d_Book_clash_71 (Nat.le_refl _) (Nat.le_refl _) ⟨rfl, hF⟩
      · skip
        rw [Int32.le_iff_toInt_le] at h7
        have hk1 := hCt.1
        have hk2 := hCt.2.1
        refine mv_aload_n (pc := 10) B d_Book_clash_10 rfl 1 rfl ?_
        refine mv_getI (pc := 11) (ci := 12) (C := R_Book) (T := F_Book) (N := 65) B 38 rfl rfl (by decide) i_Book (B.2.2.2.1 _ k_1885) rfl d_Book_clash_11 ?_
        refine mv_if_ne (pc := 14) (tgt := 71) B d_Book_clash_14 rfl (fun h14 => ?_) (fun h14 => ?_)
        · skip
          exact mv_vret (pc := 71) B hr d_Book_clash_71 (Nat.le_refl _) (Nat.le_refl _) ⟨rfl, hF⟩
        · skip
          refine mv_iconst (pc := 17) (v := 0) B d_Book_clash_17 (by decide) ?_
          refine mv_istore_n (pc := 18) B d_Book_clash_18 rfl (by decide) rfl ?_
          have ihO := ih
          have lq : ∀ (nn : Nat) (τ : mv_H) (j9 : Int32) (hF : CF 108 σ τ) (r0 : 0 ≤ j9.toInt), (20000 - j9.toInt).toNat < nn → mv_V p l e ({ frames := 1, cells := 0, slots := 0, locals := 25 }) s m ([.ref (al 108)] : List Value).toArray below meth c (mg dA D al ext) 3 0 0 (mv_Q (mg dA D al ext) below s 0 0 (mv_Rv (fun σ1 => CF 108 σ σ1))) τ 19 [(2, .int j9), (1, .int i9), (0, .ref (al 108))] [] := by
            intro nn
            induction nn with
            | zero => intro τ j9 hF r0 hm; exact absurd hm (Nat.not_lt_zero _)
            | succ nn ih =>
              intro τ j9 hF r0 hm
              have hmt : mh (mv_r τ) := by rw [hF.2.2.1]; exact hmr
              have hCt := hC.cf hF
              refine mv_iload_n (pc := 19) B d_Book_clash_19 rfl 0 rfl ?_
              refine mv_iload_n (pc := 20) B d_Book_clash_20 rfl 1 rfl ?_
              refine mv_icmp_ge (pc := 21) (tgt := 65) B d_Book_clash_21 rfl (fun h21 => ?_) (fun h21 => ?_)
              · skip
                have w2 : (i9 + 1).toInt = i9.toInt + 1 := i32_inc (by omega)
                refine mv_iinc (pc := 65) (j := 1) (v := 1) B d_Book_clash_65 rfl (by decide) (by decide) rfl ?_
                refine mv_goto (pc := 68) (tgt := 2) B d_Book_clash_68 rfl ?_
                refine mv_lpick [0, 2] rfl ?_
                exact ihO _ _ hF (by omega) (by omega)
              · skip
                rw [Int32.le_iff_toInt_le] at h21
                refine mv_aload_n (pc := 24) B d_Book_clash_24 rfl 2 rfl ?_
                refine mv_getI (pc := 25) (ci := 12) (C := R_Book) (T := F_Book) (N := 65) B 38 rfl rfl (by decide) i_Book (B.2.2.2.1 _ k_1885) rfl d_Book_clash_25 ?_
                refine mv_if_ne (pc := 28) (tgt := 65) B d_Book_clash_28 rfl (fun h28 => ?_) (fun h28 => ?_)
                · skip
                  have w2 : (i9 + 1).toInt = i9.toInt + 1 := i32_inc (by omega)
                  refine mv_iinc (pc := 65) (j := 1) (v := 1) B d_Book_clash_65 rfl (by decide) (by decide) rfl ?_
                  refine mv_goto (pc := 68) (tgt := 2) B d_Book_clash_68 rfl ?_
                  refine mv_lpick [0, 2] rfl ?_
                  exact ihO _ _ hF (by omega) (by omega)
                · skip
                  refine mv_aload_n (pc := 31) B d_Book_clash_31 rfl 2 rfl ?_
                  refine mv_iload_n (pc := 32) B d_Book_clash_32 rfl 1 rfl ?_
                  refine mv_iload_n (pc := 33) B d_Book_clash_33 rfl 0 rfl ?_
                  refine mv_callVi (pc := 34) (n := 2) (ci := 12) (C := R_Book) B (mK_ok sk sv) hNs rfl rfl (c_Book_apart_y l hi _ _ _ k hmt hCt q0 (by omega) r0 (by omega)) rfl (ma_goodc kc_Book_apart) (B.2.2.2.1 _ k_2337) (B.2.2.2.1 _ k_2339) (B.2.2.2.1 _ ks_122) (B.2.2.2.1 _ k_13) ⟨by decide +kernel, by decide +kernel, by decide +kernel⟩ rfl d_Book_clash_34 rfl (Nat.le_of_ble_eq_true rfl) ⟨by decide, by decide⟩ ⟨by decide, by decide⟩ ⟨by decide, by decide⟩ (mv_noH hno _) (fun v34 σ34 h34 => ?_)
                  have e34 := h34.symm
                  subst e34
                  refine mv_if_eq (pc := 37) (tgt := 43) B d_Book_clash_37 rfl (fun h37 => ?_) (fun h37 => ?_)
                  · skip
                    refine mv_aload_n (pc := 43) B d_Book_clash_43 rfl 2 rfl ?_
                    refine mv_iload_n (pc := 44) B d_Book_clash_44 rfl 1 rfl ?_
                    refine mv_putI (pc := 45) (ci := 12) (C := R_Book) (T := F_Book) (N := 65) B 37 rfl rfl (by decide) i_Book t_Book_ok n_Book (B.2.2.2.1 _ k_1883) rfl rfl rfl rfl d_Book_clash_45 ?_
                    refine mv_aload_n (pc := 48) B d_Book_clash_48 rfl 2 rfl ?_
                    refine mv_bipush (pc := 49) (v := 7) B d_Book_clash_49 (by decide) ?_
                    refine mv_putI (pc := 51) (ci := 12) (C := R_Book) (T := F_Book) (N := 65) B 38 rfl rfl (by decide) i_Book t_Book_ok n_Book (B.2.2.2.1 _ k_1885) rfl rfl rfl rfl d_Book_clash_51 ?_
                    refine mv_aload_n (pc := 54) B d_Book_clash_54 rfl 2 rfl ?_
                    refine mv_iload_n (pc := 55) B d_Book_clash_55 rfl 0 rfl ?_
                    refine mv_putI (pc := 56) (ci := 12) (C := R_Book) (T := F_Book) (N := 65) B 39 rfl rfl (by decide) i_Book t_Book_ok n_Book (B.2.2.2.1 _ k_1888) rfl rfl rfl rfl d_Book_clash_56 ?_
                    have w3 : (j9 + 1).toInt = j9.toInt + 1 := i32_inc (by omega)
                    refine mv_iinc (pc := 59) (j := 0) (v := 1) B d_Book_clash_59 rfl (by decide) (by decide) rfl ?_
                    refine mv_goto (pc := 62) (tgt := 19) B d_Book_clash_62 rfl ?_
                    refine mv_lpick [0, 1, 2] rfl ?_
                    exact ih _ _ (by first | exact hF | exact ((hF.si ⟨rfl, by decide, by decide⟩).si ⟨rfl, by decide, by decide⟩).si ⟨rfl, by decide, by decide⟩) (by omega) (by omega)
                  · skip
                    refine mv_goto (pc := 40) (tgt := 59) B d_Book_clash_40 rfl ?_
                    have w3 : (j9 + 1).toInt = j9.toInt + 1 := i32_inc (by omega)
                    refine mv_iinc (pc := 59) (j := 0) (v := 1) B d_Book_clash_59 rfl (by decide) (by decide) rfl ?_
                    refine mv_goto (pc := 62) (tgt := 19) B d_Book_clash_62 rfl ?_
                    refine mv_lpick [0, 1, 2] rfl ?_
                    exact ih _ _ (by first | exact hF | exact ((hF.si ⟨rfl, by decide, by decide⟩).si ⟨rfl, by decide, by decide⟩).si ⟨rfl, by decide, by decide⟩) (by omega) (by omega)
          refine mv_lpick [0, 1, 2] rfl ?_
          exact lq _ _ _ hF (by decide) (Nat.lt_succ_self _)
  refine mv_iconst (pc := 0) (v := 0) B d_Book_clash_0 (by decide) ?_
  refine mv_istore_n (pc := 1) B d_Book_clash_1 rfl (by decide) rfl ?_
  refine mv_lpick [0, 1] rfl ?_
  exact lp _ _ _ Fx.rf (by decide) (Nat.lt_succ_self _)
/-- rows of the things' cells -/
def VF (B : Nat) : mv_H → mv_H → Prop := Fx (fun _ _ => False) (fun _ _ => False) (fun o _ => o = B + 5) (fun o => o = B + 27 ∨ o = B + 28)
theorem VF.bf {B : Nat} {σ τ : mv_H} (h : VF B σ τ) : BF B σ τ := h.up (fun o k z => absurd z id) (fun o k z => absurd z id) (fun o k z => by omega) (fun o z => by omega)
theorem IG.co {B th n k cb : Nat} {S : mv_H} (h : IG B th n k cb S) (hk : (mv_i S B 29).toInt = k) (h1 : k ≤ 4000) (h2 : cb ≤ 32768) : CO B k S := ⟨hk, h1, ⟨by have := h.2.1; omega, by have := h.2.1; omega⟩, fun i hi => by have := h.2.2.1 i hi; omega⟩
/-- what read leaves where it says yes -/
theorem BG.of {B len th n k cb c1 c2 : Nat} {σ S T U : mv_H} (h : ZT B len σ S th n k cb 0 c1 c2) (g : IG B th n k cb S) (f : CF B S T) (v : VF B T U) (hat : ∀ t, t < th → (mv_a U (B + 5) t).toInt = csum (mv_a S (B + 4)) t) : BG B U := by
  have hle := h.le
  obtain ⟨-, h2, h3, h4, h5, -, h7, h8, -⟩ := h.C
  have ei : ∀ j, ¬ (37 ≤ j ∧ j ≤ 39) → mv_i U B j = mv_i S B j := fun j hj => (v.1 _ _ id).trans (f.1 _ _ (by omega))
  have ea : ∀ o j, ¬ o = B + 5 → mv_a U o j = mv_a S o j := fun o j ho => (v.2.2.2.1 _ _ ho).trans (f.2.2.2.1 _ _ id)
  refine ⟨th, n, k, by rw [ei 17 (by omega)]; exact h2, by omega, by rw [ei 48 (by omega)]; exact h3, by omega, ?_, g.1.fr (Nat.le_refl _) (fun o j a b _ => ea o j (by omega)) (fun j _ => ea _ _ (by omega)), fun t ht => ?_, by rw [ei 18 (by omega), ei 21 (by omega)]; exact h8⟩
  · have hc := g.co h4 (by omega) (by omega)
    unfold CO
    rw [ei 29 (by omega), ei 20 (by omega)]
    exact ⟨hc.1, hc.2.1, hc.2.2.1, fun i hi => by rw [ea _ _ (by omega)]; exact hc.2.2.2 i hi⟩
  · have hg5 : ∀ t, t < th → 0 ≤ (mv_a S (B + 4) t).toInt := fun t ht => (g.2.2.2.2 t ht).1
    have m1 := csum_mono hg5 t (by omega)
    have m2 := csum_mono hg5 (t + 1) (by omega)
    have e1 : csum (mv_a S (B + 4)) (t + 1) = csum (mv_a S (B + 4)) t + (mv_a S (B + 4) t).toInt := rfl
    have e2 := g.2.2.2.1
    have e3 := g.2.2.2.2 t ht
    refine ⟨by rw [hat t ht]; omega, e3.fr (ea _ _ (by omega)) (ea _ _ (by omega)), ?_⟩
    rw [hat t ht, ea _ _ (by omega)]
    omega

def y_Book_read_1 : MethodName := ⟨"MachineLoomModel$Book", "read", "([BI)Z"⟩
abbrev b_Book_read_1 : ByteArray := prog_15_method_78_code
theorem kc_Book_read_1 : Cond.codeWith y_Book_read_1 b_Book_read_1 5 (Option.some Jvm.ClassFile.FieldType.boolean) [((70 : Nat), (74 : Nat), (77 : Nat), (7 : Nat))] ∈ ma := ma_of (tb_9 _ (List.mem_of_getElem? (i := 189) rfl)) rfl
theorem k_1822 : (Jvm.Cond.classLink "MachineLoomModel$Book" (7 : Nat) "MachineLoomModel$Book$Wrong") ∈ ma := ma_of (tb_8 _ (List.mem_of_getElem? (i := 142) rfl)) rfl
theorem k_1823 : (Jvm.Cond.instantiable "MachineLoomModel$Book$Wrong" (7 : Nat)) ∈ ma := ma_of (tb_8 _ (List.mem_of_getElem? (i := 143) rfl)) rfl
theorem k_1905 : (Jvm.Cond.fieldLink "MachineLoomModel$Book" (114 : Nat) "MachineLoomModel$Book" "cellValue" "[J") ∈ ma := ma_of (tb_8 _ (List.mem_of_getElem? (i := 225) rfl)) rfl
theorem k_1857 : (Jvm.Cond.fieldLink "MachineLoomModel$Book" (29 : Nat) "MachineLoomModel$Book" "thingAt" "[I") ∈ ma := ma_of (tb_8 _ (List.mem_of_getElem? (i := 177) rfl)) rfl
theorem k_1904 : (Jvm.Cond.fieldLink "MachineLoomModel$Book" (110 : Nat) "MachineLoomModel$Book" "registers" "[J") ∈ ma := ma_of (tb_8 _ (List.mem_of_getElem? (i := 224) rfl)) rfl
theorem k_2110 : (Jvm.Cond.methodLink "MachineLoomModel$Book" (523 : Nat) ({ cls := "MachineLoomModel$Book", name := "text", desc := "()V" } : Jvm.MethodName)) ∈ ma := ma_of (tb_9 _ (List.mem_of_getElem? (i := 190) rfl)) rfl
theorem k_2112 : (Jvm.Cond.instanceMethod ({ cls := "MachineLoomModel$Book", name := "text", desc := "()V" } : Jvm.MethodName)) ∈ ma := ma_of (tb_9 _ (List.mem_of_getElem? (i := 192) rfl)) rfl
theorem ks_79 : Cond.selects "MachineLoomModel$Book" ⟨"MachineLoomModel$Book", "text", "()V"⟩ ⟨"MachineLoomModel$Book", "text", "()V"⟩ ∈ ma := ma_sel 79 rfl rfl
theorem k_2333 : (Jvm.Cond.methodLink "MachineLoomModel$Book" (525 : Nat) ({ cls := "MachineLoomModel$Book", name := "clash", desc := "()V" } : Jvm.MethodName)) ∈ ma := ma_of (tb_10 _ (List.mem_of_getElem? (i := 173) rfl)) rfl
theorem k_2335 : (Jvm.Cond.instanceMethod ({ cls := "MachineLoomModel$Book", name := "clash", desc := "()V" } : Jvm.MethodName)) ∈ ma := ma_of (tb_10 _ (List.mem_of_getElem? (i := 175) rfl)) rfl
theorem ks_121 : Cond.selects "MachineLoomModel$Book" ⟨"MachineLoomModel$Book", "clash", "()V"⟩ ⟨"MachineLoomModel$Book", "clash", "()V"⟩ ∈ ma := ma_sel 121 rfl rfl
theorem d_Book_read_1_0 : decode b_Book_read_1 0 = .ok (.aload_n 0, 1) := by decide +kernel
theorem d_Book_read_1_1 : decode b_Book_read_1 1 = .ok (.aload_n 1, 1) := by decide +kernel
theorem d_Book_read_1_2 : decode b_Book_read_1 2 = .ok (.putfield 135, 3) := by decide +kernel
theorem d_Book_read_1_5 : decode b_Book_read_1 5 = .ok (.aload_n 0, 1) := by decide +kernel
theorem d_Book_read_1_6 : decode b_Book_read_1 6 = .ok (.iload_n 2, 1) := by decide +kernel
theorem d_Book_read_1_7 : decode b_Book_read_1 7 = .ok (.putfield 132, 3) := by decide +kernel
theorem d_Book_read_1_10 : decode b_Book_read_1 10 = .ok (.aload_n 0, 1) := by decide +kernel
theorem d_Book_read_1_11 : decode b_Book_read_1 11 = .ok (.iconst 0, 1) := by decide +kernel
theorem d_Book_read_1_12 : decode b_Book_read_1 12 = .ok (.putfield 250, 3) := by decide +kernel
theorem d_Book_read_1_15 : decode b_Book_read_1 15 = .ok (.aload_n 0, 1) := by decide +kernel
theorem d_Book_read_1_16 : decode b_Book_read_1 16 = .ok (.iconst 0, 1) := by decide +kernel
theorem d_Book_read_1_17 : decode b_Book_read_1 17 = .ok (.putfield 231, 3) := by decide +kernel
theorem d_Book_read_1_20 : decode b_Book_read_1 20 = .ok (.aload_n 0, 1) := by decide +kernel
theorem d_Book_read_1_21 : decode b_Book_read_1 21 = .ok (.iconst 0, 1) := by decide +kernel
theorem d_Book_read_1_22 : decode b_Book_read_1 22 = .ok (.putfield 367, 3) := by decide +kernel
theorem d_Book_read_1_25 : decode b_Book_read_1 25 = .ok (.aload_n 0, 1) := by decide +kernel
theorem d_Book_read_1_26 : decode b_Book_read_1 26 = .ok (.iconst (-1), 1) := by decide +kernel
theorem d_Book_read_1_27 : decode b_Book_read_1 27 = .ok (.putfield 39, 3) := by decide +kernel
theorem d_Book_read_1_30 : decode b_Book_read_1 30 = .ok (.aload_n 0, 1) := by decide +kernel
theorem d_Book_read_1_31 : decode b_Book_read_1 31 = .ok (.iconst (-1), 1) := by decide +kernel
theorem d_Book_read_1_32 : decode b_Book_read_1 32 = .ok (.putfield 46, 3) := by decide +kernel
theorem d_Book_read_1_35 : decode b_Book_read_1 35 = .ok (.aload_n 0, 1) := by decide +kernel
theorem d_Book_read_1_36 : decode b_Book_read_1 36 = .ok (.iconst 0, 1) := by decide +kernel
theorem d_Book_read_1_37 : decode b_Book_read_1 37 = .ok (.putfield 376, 3) := by decide +kernel
theorem d_Book_read_1_40 : decode b_Book_read_1 40 = .ok (.aload_n 0, 1) := by decide +kernel
theorem d_Book_read_1_41 : decode b_Book_read_1 41 = .ok (.iconst 0, 1) := by decide +kernel
theorem d_Book_read_1_42 : decode b_Book_read_1 42 = .ok (.putfield 238, 3) := by decide +kernel
theorem d_Book_read_1_45 : decode b_Book_read_1 45 = .ok (.aload_n 0, 1) := by decide +kernel
theorem d_Book_read_1_46 : decode b_Book_read_1 46 = .ok (.iconst 0, 1) := by decide +kernel
theorem d_Book_read_1_47 : decode b_Book_read_1 47 = .ok (.putfield 379, 3) := by decide +kernel
theorem d_Book_read_1_50 : decode b_Book_read_1 50 = .ok (.aload_n 0, 1) := by decide +kernel
theorem d_Book_read_1_51 : decode b_Book_read_1 51 = .ok (.iconst 0, 1) := by decide +kernel
theorem d_Book_read_1_52 : decode b_Book_read_1 52 = .ok (.putfield 241, 3) := by decide +kernel
theorem d_Book_read_1_55 : decode b_Book_read_1 55 = .ok (.aload_n 0, 1) := by decide +kernel
theorem d_Book_read_1_56 : decode b_Book_read_1 56 = .ok (.iconst (-1), 1) := by decide +kernel
theorem d_Book_read_1_57 : decode b_Book_read_1 57 = .ok (.putfield 228, 3) := by decide +kernel
theorem d_Book_read_1_60 : decode b_Book_read_1 60 = .ok (.aload_n 0, 1) := by decide +kernel
theorem d_Book_read_1_61 : decode b_Book_read_1 61 = .ok (.iconst 0, 1) := by decide +kernel
theorem d_Book_read_1_62 : decode b_Book_read_1 62 = .ok (.putfield 225, 3) := by decide +kernel
theorem d_Book_read_1_65 : decode b_Book_read_1 65 = .ok (.aload_n 0, 1) := by decide +kernel
theorem d_Book_read_1_66 : decode b_Book_read_1 66 = .ok (.iconst (-1), 1) := by decide +kernel
theorem d_Book_read_1_67 : decode b_Book_read_1 67 = .ok (.putfield 434, 3) := by decide +kernel
theorem d_Book_read_1_70 : decode b_Book_read_1 70 = .ok (.aload_n 0, 1) := by decide +kernel
theorem d_Book_read_1_71 : decode b_Book_read_1 71 = .ok (.invokevirtual 523, 3) := by decide +kernel
theorem d_Book_read_1_74 : decode b_Book_read_1 74 = .ok (.goto (19), 3) := by decide +kernel
theorem d_Book_read_1_77 : decode b_Book_read_1 77 = .ok (.astore_n 3, 1) := by decide +kernel
theorem d_Book_read_1_78 : decode b_Book_read_1 78 = .ok (.aload_n 0, 1) := by decide +kernel
theorem d_Book_read_1_79 : decode b_Book_read_1 79 = .ok (.aload_n 3, 1) := by decide +kernel
theorem d_Book_read_1_80 : decode b_Book_read_1 80 = .ok (.getfield 129, 3) := by decide +kernel
theorem d_Book_read_1_83 : decode b_Book_read_1 83 = .ok (.putfield 228, 3) := by decide +kernel
theorem d_Book_read_1_86 : decode b_Book_read_1 86 = .ok (.aload_n 0, 1) := by decide +kernel
theorem d_Book_read_1_87 : decode b_Book_read_1 87 = .ok (.iconst 1, 1) := by decide +kernel
theorem d_Book_read_1_88 : decode b_Book_read_1 88 = .ok (.putfield 225, 3) := by decide +kernel
theorem d_Book_read_1_91 : decode b_Book_read_1 91 = .ok (.iconst 0, 1) := by decide +kernel
theorem d_Book_read_1_92 : decode b_Book_read_1 92 = .ok (.ireturn, 1) := by decide +kernel
theorem d_Book_read_1_93 : decode b_Book_read_1 93 = .ok (.aload_n 0, 1) := by decide +kernel
theorem d_Book_read_1_94 : decode b_Book_read_1 94 = .ok (.getfield 225, 3) := by decide +kernel
theorem d_Book_read_1_97 : decode b_Book_read_1 97 = .ok (.ifCond .ne (7), 3) := by decide +kernel
theorem d_Book_read_1_100 : decode b_Book_read_1 100 = .ok (.aload_n 0, 1) := by decide +kernel
theorem d_Book_read_1_101 : decode b_Book_read_1 101 = .ok (.invokevirtual 525, 3) := by decide +kernel
theorem d_Book_read_1_104 : decode b_Book_read_1 104 = .ok (.aload_n 0, 1) := by decide +kernel
theorem d_Book_read_1_105 : decode b_Book_read_1 105 = .ok (.getfield 225, 3) := by decide +kernel
theorem d_Book_read_1_108 : decode b_Book_read_1 108 = .ok (.ifCond .le (5), 3) := by decide +kernel
theorem d_Book_read_1_111 : decode b_Book_read_1 111 = .ok (.iconst 0, 1) := by decide +kernel
theorem d_Book_read_1_112 : decode b_Book_read_1 112 = .ok (.ireturn, 1) := by decide +kernel
theorem d_Book_read_1_113 : decode b_Book_read_1 113 = .ok (.iconst 0, 1) := by decide +kernel
theorem d_Book_read_1_114 : decode b_Book_read_1 114 = .ok (.istore_n 3, 1) := by decide +kernel
theorem d_Book_read_1_115 : decode b_Book_read_1 115 = .ok (.iconst 0, 1) := by decide +kernel
theorem d_Book_read_1_116 : decode b_Book_read_1 116 = .ok (.istore 4, 2) := by decide +kernel
theorem d_Book_read_1_118 : decode b_Book_read_1 118 = .ok (.iload 4, 2) := by decide +kernel
theorem d_Book_read_1_120 : decode b_Book_read_1 120 = .ok (.aload_n 0, 1) := by decide +kernel
theorem d_Book_read_1_121 : decode b_Book_read_1 121 = .ok (.getfield 231, 3) := by decide +kernel
theorem d_Book_read_1_124 : decode b_Book_read_1 124 = .ok (.if_icmp .ge (35), 3) := by decide +kernel
theorem d_Book_read_1_127 : decode b_Book_read_1 127 = .ok (.aload_n 0, 1) := by decide +kernel
theorem d_Book_read_1_128 : decode b_Book_read_1 128 = .ok (.getfield 29, 3) := by decide +kernel
theorem d_Book_read_1_131 : decode b_Book_read_1 131 = .ok (.iload 4, 2) := by decide +kernel
theorem d_Book_read_1_133 : decode b_Book_read_1 133 = .ok (.iload_n 3, 1) := by decide +kernel
theorem d_Book_read_1_134 : decode b_Book_read_1 134 = .ok (.iastore, 1) := by decide +kernel
theorem d_Book_read_1_135 : decode b_Book_read_1 135 = .ok (.iload_n 3, 1) := by decide +kernel
theorem d_Book_read_1_136 : decode b_Book_read_1 136 = .ok (.aload_n 0, 1) := by decide +kernel
theorem d_Book_read_1_137 : decode b_Book_read_1 137 = .ok (.getfield 26, 3) := by decide +kernel
theorem d_Book_read_1_140 : decode b_Book_read_1 140 = .ok (.iload 4, 2) := by decide +kernel
theorem d_Book_read_1_142 : decode b_Book_read_1 142 = .ok (.iaload, 1) := by decide +kernel
theorem d_Book_read_1_143 : decode b_Book_read_1 143 = .ok (.iadd, 1) := by decide +kernel
theorem d_Book_read_1_144 : decode b_Book_read_1 144 = .ok (.istore_n 3, 1) := by decide +kernel
theorem d_Book_read_1_145 : decode b_Book_read_1 145 = .ok (.aload_n 0, 1) := by decide +kernel
theorem d_Book_read_1_146 : decode b_Book_read_1 146 = .ok (.getfield 110, 3) := by decide +kernel
theorem d_Book_read_1_149 : decode b_Book_read_1 149 = .ok (.iload 4, 2) := by decide +kernel
theorem d_Book_read_1_151 : decode b_Book_read_1 151 = .ok (.lconst 0, 1) := by decide +kernel
theorem d_Book_read_1_152 : decode b_Book_read_1 152 = .ok (.lastore, 1) := by decide +kernel
theorem d_Book_read_1_153 : decode b_Book_read_1 153 = .ok (.iinc 4 (1), 3) := by decide +kernel
theorem d_Book_read_1_156 : decode b_Book_read_1 156 = .ok (.goto (-38), 3) := by decide +kernel
theorem d_Book_read_1_159 : decode b_Book_read_1 159 = .ok (.iconst 0, 1) := by decide +kernel
theorem d_Book_read_1_160 : decode b_Book_read_1 160 = .ok (.istore 4, 2) := by decide +kernel
theorem d_Book_read_1_162 : decode b_Book_read_1 162 = .ok (.iload 4, 2) := by decide +kernel
theorem d_Book_read_1_164 : decode b_Book_read_1 164 = .ok (.iload_n 3, 1) := by decide +kernel
theorem d_Book_read_1_165 : decode b_Book_read_1 165 = .ok (.if_icmp .ge (17), 3) := by decide +kernel
theorem d_Book_read_1_168 : decode b_Book_read_1 168 = .ok (.aload_n 0, 1) := by decide +kernel
theorem d_Book_read_1_169 : decode b_Book_read_1 169 = .ok (.getfield 114, 3) := by decide +kernel
theorem d_Book_read_1_172 : decode b_Book_read_1 172 = .ok (.iload 4, 2) := by decide +kernel
theorem d_Book_read_1_174 : decode b_Book_read_1 174 = .ok (.lconst 0, 1) := by decide +kernel
theorem d_Book_read_1_175 : decode b_Book_read_1 175 = .ok (.lastore, 1) := by decide +kernel
theorem d_Book_read_1_176 : decode b_Book_read_1 176 = .ok (.iinc 4 (1), 3) := by decide +kernel
theorem d_Book_read_1_179 : decode b_Book_read_1 179 = .ok (.goto (-17), 3) := by decide +kernel
theorem d_Book_read_1_182 : decode b_Book_read_1 182 = .ok (.iconst 1, 1) := by decide +kernel
theorem d_Book_read_1_183 : decode b_Book_read_1 183 = .ok (.ireturn, 1) := by decide +kernel
set_option maxHeartbeats 4000000 in
set_option maxRecDepth 100000 in
theorem c_Book_read_1_x (l : Launch) {dA : FieldType → ClassId} {D : va_G} {al : Nat → Nat} {ext : mv_Sh} {sk sv : Nat → Nat} (hi : mv_inj (mg dA D al ext)) (σ : mv_H) (n9 : Int32) (len : Nat) (hn9 : n9.toInt = len) (hl : len ≤ 10240) (hmr : mh (mv_r σ)) : mv_C l y_Book_read_1 (Cond.codeWith y_Book_read_1 b_Book_read_1 5 (Option.some Jvm.ClassFile.FieldType.boolean) [((70 : Nat), (74 : Nat), (77 : Nat), (7 : Nat))] :: ma) ({ frames := 881, cells := 0, slots := 0, locals := 31475 }) (mg dA D al ext) (mK sk sv) [.ref (al 74), .ref (al 71), .int n9] σ (mv_Ri (fun v σ1 => BF 74 (mv_sr σ 74 1 (some 71)) σ1 ∧ (v = 0 ∨ (v = 1 ∧ BG 74 σ1)))) := by
  refine mv_C.ofVW (cc := b_Book_read_1) (nL := 5) (ret := (Option.some Jvm.ClassFile.FieldType.boolean)) (hh := [((70 : Nat), (74 : Nat), (77 : Nat), (7 : Nat))]) (by decide +kernel) rfl hi (Nat.le_of_ble_eq_true rfl) ?_
  intro p e s m below meth c B hNs hr hnm htab
  refine mv_aload_n (pc := 0) B d_Book_read_1_0 rfl 0 rfl ?_
  refine mv_aload_n (pc := 1) B d_Book_read_1_1 rfl 1 rfl ?_
  refine mv_putR (pc := 2) (ci := 12) (C := R_Book) (T := F_Book) (N := 65) B 1 rfl rfl (by decide) i_Book t_Book_ok n_Book (B.2.2.2.1 _ k_1844) rfl rfl d_Book_read_1_2 ?_
  refine mv_aload_n (pc := 5) B d_Book_read_1_5 rfl 0 rfl ?_
  refine mv_iload_n (pc := 6) B d_Book_read_1_6 rfl 2 rfl ?_
  refine mv_putI (pc := 7) (ci := 12) (C := R_Book) (T := F_Book) (N := 65) B 2 rfl rfl (by decide) i_Book t_Book_ok n_Book (B.2.2.2.1 _ k_1845) rfl rfl rfl rfl d_Book_read_1_7 ?_
  refine mv_aload_n (pc := 10) B d_Book_read_1_10 rfl 0 rfl ?_
  refine mv_iconst (pc := 11) (v := 0) B d_Book_read_1_11 (by decide) ?_
  refine mv_putI (pc := 12) (ci := 12) (C := R_Book) (T := F_Book) (N := 65) B 48 rfl rfl (by decide) i_Book t_Book_ok n_Book (B.2.2.2.1 _ k_1897) rfl rfl rfl rfl d_Book_read_1_12 ?_
  refine mv_aload_n (pc := 15) B d_Book_read_1_15 rfl 0 rfl ?_
  refine mv_iconst (pc := 16) (v := 0) B d_Book_read_1_16 (by decide) ?_
  refine mv_putI (pc := 17) (ci := 12) (C := R_Book) (T := F_Book) (N := 65) B 17 rfl rfl (by decide) i_Book t_Book_ok n_Book (B.2.2.2.1 _ k_1860) rfl rfl rfl rfl d_Book_read_1_17 ?_
  refine mv_aload_n (pc := 20) B d_Book_read_1_20 rfl 0 rfl ?_
  refine mv_iconst (pc := 21) (v := 0) B d_Book_read_1_21 (by decide) ?_
  refine mv_putI (pc := 22) (ci := 12) (C := R_Book) (T := F_Book) (N := 65) B 19 rfl rfl (by decide) i_Book t_Book_ok n_Book (B.2.2.2.1 _ k_1864) rfl rfl rfl rfl d_Book_read_1_22 ?_
  refine mv_aload_n (pc := 25) B d_Book_read_1_25 rfl 0 rfl ?_
  refine mv_iconst (pc := 26) (v := -1) B d_Book_read_1_26 (by decide) ?_
  refine mv_putI (pc := 27) (ci := 12) (C := R_Book) (T := F_Book) (N := 65) B 18 rfl rfl (by decide) i_Book t_Book_ok n_Book (B.2.2.2.1 _ k_1862) rfl rfl rfl rfl d_Book_read_1_27 ?_
  refine mv_aload_n (pc := 30) B d_Book_read_1_30 rfl 0 rfl ?_
  refine mv_iconst (pc := 31) (v := -1) B d_Book_read_1_31 (by decide) ?_
  refine mv_putI (pc := 32) (ci := 12) (C := R_Book) (T := F_Book) (N := 65) B 21 rfl rfl (by decide) i_Book t_Book_ok n_Book (B.2.2.2.1 _ k_1866) rfl rfl rfl rfl d_Book_read_1_32 ?_
  refine mv_aload_n (pc := 35) B d_Book_read_1_35 rfl 0 rfl ?_
  refine mv_iconst (pc := 36) (v := 0) B d_Book_read_1_36 (by decide) ?_
  refine mv_putI (pc := 37) (ci := 12) (C := R_Book) (T := F_Book) (N := 65) B 22 rfl rfl (by decide) i_Book t_Book_ok n_Book (B.2.2.2.1 _ k_1867) rfl rfl rfl rfl d_Book_read_1_37 ?_
  refine mv_aload_n (pc := 40) B d_Book_read_1_40 rfl 0 rfl ?_
  refine mv_iconst (pc := 41) (v := 0) B d_Book_read_1_41 (by decide) ?_
  refine mv_putI (pc := 42) (ci := 12) (C := R_Book) (T := F_Book) (N := 65) B 29 rfl rfl (by decide) i_Book t_Book_ok n_Book (B.2.2.2.1 _ k_1874) rfl rfl rfl rfl d_Book_read_1_42 ?_
  refine mv_aload_n (pc := 45) B d_Book_read_1_45 rfl 0 rfl ?_
  refine mv_iconst (pc := 46) (v := 0) B d_Book_read_1_46 (by decide) ?_
  refine mv_putI (pc := 47) (ci := 12) (C := R_Book) (T := F_Book) (N := 65) B 51 rfl rfl (by decide) i_Book t_Book_ok n_Book (B.2.2.2.1 _ k_1900) rfl rfl rfl rfl d_Book_read_1_47 ?_
  refine mv_aload_n (pc := 50) B d_Book_read_1_50 rfl 0 rfl ?_
  refine mv_iconst (pc := 51) (v := 0) B d_Book_read_1_51 (by decide) ?_
  refine mv_putI (pc := 52) (ci := 12) (C := R_Book) (T := F_Book) (N := 65) B 30 rfl rfl (by decide) i_Book t_Book_ok n_Book (B.2.2.2.1 _ k_1876) rfl rfl rfl rfl d_Book_read_1_52 ?_
  refine mv_aload_n (pc := 55) B d_Book_read_1_55 rfl 0 rfl ?_
  refine mv_iconst (pc := 56) (v := -1) B d_Book_read_1_56 (by decide) ?_
  refine mv_putI (pc := 57) (ci := 12) (C := R_Book) (T := F_Book) (N := 65) B 37 rfl rfl (by decide) i_Book t_Book_ok n_Book (B.2.2.2.1 _ k_1883) rfl rfl rfl rfl d_Book_read_1_57 ?_
  refine mv_aload_n (pc := 60) B d_Book_read_1_60 rfl 0 rfl ?_
  refine mv_iconst (pc := 61) (v := 0) B d_Book_read_1_61 (by decide) ?_
  refine mv_putI (pc := 62) (ci := 12) (C := R_Book) (T := F_Book) (N := 65) B 38 rfl rfl (by decide) i_Book t_Book_ok n_Book (B.2.2.2.1 _ k_1885) rfl rfl rfl rfl d_Book_read_1_62 ?_
  refine mv_aload_n (pc := 65) B d_Book_read_1_65 rfl 0 rfl ?_
  refine mv_iconst (pc := 66) (v := -1) B d_Book_read_1_66 (by decide) ?_
  refine mv_putI (pc := 67) (ci := 12) (C := R_Book) (T := F_Book) (N := 65) B 39 rfl rfl (by decide) i_Book t_Book_ok n_Book (B.2.2.2.1 _ k_1888) rfl rfl rfl rfl d_Book_read_1_67 ?_
  refine mv_gen (fun S70 eS70 => ?_)
  have hmS : mh (mv_r S70) := by rw [eS70]; exact hmr.sr (o := 74) (k := 1) (v := some 71) rfl
  have hR : Br 74 (mv_r S70) := ⟨hmS, by rw [eS70]; rfl⟩
  have hz : (mv_i S70 74 2).toInt = len := by rw [eS70]; exact hn9
  have k17 : mv_i S70 74 17 = 0 := by rw [eS70]; rfl
  have k48 : mv_i S70 74 48 = 0 := by rw [eS70]; rfl
  have k29 : mv_i S70 74 29 = 0 := by rw [eS70]; rfl
  have k51 : mv_i S70 74 51 = 0 := by rw [eS70]; rfl
  have k19 : mv_i S70 74 19 = 0 := by rw [eS70]; rfl
  have k18 : mv_i S70 74 18 = -1 := by rw [eS70]; rfl
  have hb : BF 74 (mv_sr σ 74 1 (some 71)) S70 := by rw [eS70]; exact (((((((((((((BF.rf.si ⟨by omega, by omega⟩).si ⟨by omega, by omega⟩).si ⟨by omega, by omega⟩).si ⟨by omega, by omega⟩).si ⟨by omega, by omega⟩).si ⟨by omega, by omega⟩).si ⟨by omega, by omega⟩).si ⟨by omega, by omega⟩).si ⟨by omega, by omega⟩).si ⟨by omega, by omega⟩).si ⟨by omega, by omega⟩).si ⟨by omega, by omega⟩).si ⟨by omega, by omega⟩)
  clear eS70
  refine mv_aload_n (pc := 70) B d_Book_read_1_70 rfl 0 rfl ?_
  refine mv_callVCUv (pc := 71) (n := 0) (ci := 12) (C := R_Book) B (mK_ok sk sv) hNs rfl rfl (c_Book_text_1_x l hi _ len hR hz hl k17 k48 k29 k51 k19 k18) rfl (ma_goodc kc_Book_text_1) (B.2.2.2.1 _ k_2110) (B.2.2.2.1 _ k_2112) (B.2.2.2.1 _ ks_79) (B.2.2.2.1 _ k_13) ⟨by decide +kernel, by decide +kernel, by decide +kernel⟩ rfl d_Book_read_1_71 rfl (Nat.le_of_ble_eq_true rfl) ⟨by decide, by decide⟩ ⟨by decide, by decide⟩  ?_ ?_
  · skip
    intro σ71 g71
    refine ⟨77, mt_H.one B.2.2.1 htab (by decide) (by decide) (by decide) (B.2.2.2.1 _ k_1822) (mt_cast (B.2.2.2.1 _ k_1823)), ?_⟩
    refine mv_astore_n (pc := 77) B d_Book_read_1_77 rfl (by decide) rfl ?_
    refine mv_aload_n (pc := 78) B d_Book_read_1_78 rfl 1 rfl ?_
    refine mv_aload_n (pc := 79) B d_Book_read_1_79 rfl 0 rfl ?_
    refine mv_getI (pc := 80) (ci := 13) (C := R_Wrong) (T := F_Wrong) (N := 1) B 0 rfl rfl (by decide) i_Wrong (B.2.2.2.1 _ k_1835) rfl d_Book_read_1_80 ?_
    refine mv_putI (pc := 83) (ci := 12) (C := R_Book) (T := F_Book) (N := 65) B 37 rfl rfl (by decide) i_Book t_Book_ok n_Book (B.2.2.2.1 _ k_1883) rfl rfl rfl rfl d_Book_read_1_83 ?_
    refine mv_aload_n (pc := 86) B d_Book_read_1_86 rfl 1 rfl ?_
    refine mv_iconst (pc := 87) (v := 1) B d_Book_read_1_87 (by decide) ?_
    refine mv_putI (pc := 88) (ci := 12) (C := R_Book) (T := F_Book) (N := 65) B 38 rfl rfl (by decide) i_Book t_Book_ok n_Book (B.2.2.2.1 _ k_1885) rfl rfl rfl rfl d_Book_read_1_88 ?_
    refine mv_iconst (pc := 91) (v := 0) B d_Book_read_1_91 (by decide) ?_
    exact mv_iret (pc := 92) B hr rfl d_Book_read_1_92 (Nat.le_refl _) (Nat.le_refl _) ⟨_, rfl, ((hb.tr g71).si ⟨by omega, by omega⟩).si ⟨by omega, by omega⟩, Or.inl rfl⟩
  intro σ71 h71
  obtain ⟨th, n, k, cb, c1, c2, hZ⟩ := h71
  have hL := hZ.le
  have hmt : mh (mv_r σ71) := hZ.1.1.2.1.1
  refine mv_goto (pc := 74) (tgt := 93) B d_Book_read_1_74 rfl ?_
  have j104 : ∀ (τ : mv_H) (hF : CF 74 σ71 τ) (hz9 : (mv_i τ 74 38).toInt ≤ 0 → (mv_i σ71 74 38).toInt ≤ 0), mv_V p l e ({ frames := 881, cells := 0, slots := 0, locals := 31475 }) s m ([.ref (al 74), .ref (al 71), .int n9] : List Value).toArray below meth c (mg dA D al ext) 5 0 0 (mv_Q (mg dA D al ext) below s 0 0 (mv_Ri (fun v σ1 => BF 74 (mv_sr σ 74 1 (some 71)) σ1 ∧ (v = 0 ∨ (v = 1 ∧ BG 74 σ1))))) τ 104 [(0, .ref (al 74))] [] := by
    intro τ hF hz9
    have hmt : mh (mv_r τ) := by rw [hF.2.2.1]; exact hmt
    have hmq := hmt
    refine mv_aload_n (pc := 104) B d_Book_read_1_104 rfl 0 rfl ?_
    refine mv_getI (pc := 105) (ci := 12) (C := R_Book) (T := F_Book) (N := 65) B 38 rfl rfl (by decide) i_Book (B.2.2.2.1 _ k_1885) rfl d_Book_read_1_105 ?_
    refine mv_if_le (pc := 108) (tgt := 113) B d_Book_read_1_108 rfl (fun h108 => ?_) (fun h108 => ?_)
    · skip
      have hG9 := hZ.C.2.2.2.2.2.2.2.2 (hz9 (Int32.le_iff_toInt_le.mp h108))
      have hcm : csum (mv_a σ71 78) th = (mv_i σ71 74 19).toInt := hG9.2.2.2.1
      have hg5 : ∀ t, t < th → 0 ≤ (mv_a σ71 78 t).toInt := fun t ht => (hG9.2.2.2.2 t ht).1
      have hcc := hZ.C.2.2.2.2.2.2.1
      have hthr : (mv_i τ 74 17).toInt = th := by rw [hF.1 _ _ (by omega)]; exact hZ.C.2.1
      have lp : ∀ (nn : Nat) (S : mv_H) (t9 : Int32) (s9 : Int32) (hV : VF 74 τ S) (hat : ∀ t, t < t9.toNatClampNeg → (mv_a S 79 t).toInt = csum (mv_a σ71 78) t) (hs9 : s9.toInt = csum (mv_a σ71 78) t9.toNatClampNeg) (q0 : 0 ≤ t9.toInt) (q1 : t9.toInt ≤ th), (20000 - t9.toInt).toNat < nn → mv_V p l e ({ frames := 881, cells := 0, slots := 0, locals := 31475 }) s m ([.ref (al 74), .ref (al 71), .int n9] : List Value).toArray below meth c (mg dA D al ext) 5 0 0 (mv_Q (mg dA D al ext) below s 0 0 (mv_Ri (fun v σ1 => BF 74 (mv_sr σ 74 1 (some 71)) σ1 ∧ (v = 0 ∨ (v = 1 ∧ BG 74 σ1))))) S 118 [(4, .int t9), (3, .int s9), (0, .ref (al 74))] [] := by
        intro nn
        induction nn with
        | zero => intro S t9 s9 hV hat hs9 q0 q1 hm; exact absurd hm (Nat.not_lt_zero _)
        | succ nn ih =>
          intro S t9 s9 hV hat hs9 q0 q1 hm
          have hmt : mh (mv_r S) := by rw [hV.2.2.1]; exact hmq
          refine mv_iload (pc := 118) B d_Book_read_1_118 0 rfl ?_
          refine mv_aload_n (pc := 120) B d_Book_read_1_120 rfl 2 rfl ?_
          refine mv_getI (pc := 121) (ci := 12) (C := R_Book) (T := F_Book) (N := 65) B 17 rfl rfl (by decide) i_Book (B.2.2.2.1 _ k_1860) rfl d_Book_read_1_121 ?_
          refine mv_icmp_ge (pc := 124) (tgt := 159) B d_Book_read_1_124 rfl (fun h124 => ?_) (fun h124 => ?_)
          · skip
            rw [Int32.le_iff_toInt_le] at h124
            have e17 : mv_i S 74 17 = mv_i τ 74 17 := hV.1 _ _ id
            rw [e17] at h124
            have hcl := i32_cl q0
            have hte : t9.toNatClampNeg = th := by omega
            rw [hte] at hat hs9
            have lq : ∀ (nn : Nat) (S : mv_H) (i9 : Int32) (hV : VF 74 τ S) (hat : ∀ t, t < th → (mv_a S 79 t).toInt = csum (mv_a σ71 78) t) (r0 : 0 ≤ i9.toInt), (70000 - i9.toInt).toNat < nn → mv_V p l e ({ frames := 881, cells := 0, slots := 0, locals := 31475 }) s m ([.ref (al 74), .ref (al 71), .int n9] : List Value).toArray below meth c (mg dA D al ext) 5 0 0 (mv_Q (mg dA D al ext) below s 0 0 (mv_Ri (fun v σ1 => BF 74 (mv_sr σ 74 1 (some 71)) σ1 ∧ (v = 0 ∨ (v = 1 ∧ BG 74 σ1))))) S 162 [(4, .int i9), (3, .int s9), (0, .ref (al 74))] [] := by
              intro nn
              induction nn with
              | zero => intro S i9 hV hat r0 hm; exact absurd hm (Nat.not_lt_zero _)
              | succ nn ih =>
                intro S i9 hV hat r0 hm
                have hmt : mh (mv_r S) := by rw [hV.2.2.1]; exact hmq
                refine mv_iload (pc := 162) B d_Book_read_1_162 0 rfl ?_
                refine mv_iload_n (pc := 164) B d_Book_read_1_164 rfl 1 rfl ?_
                refine mv_icmp_ge (pc := 165) (tgt := 182) B d_Book_read_1_165 rfl (fun h165 => ?_) (fun h165 => ?_)
                · skip
                  refine mv_iconst (pc := 182) (v := 1) B d_Book_read_1_182 (by decide) ?_
                  exact mv_iret (pc := 183) B hr rfl d_Book_read_1_183 (Nat.le_refl _) (Nat.le_refl _) ⟨_, rfl, ((hb.tr hZ.2.2.2.2.2.2).tr hF.bf).tr hV.bf, Or.inr ⟨rfl, BG.of hZ hG9 hF hV hat⟩⟩
                · skip
                  rw [Int32.le_iff_toInt_le] at h165
                  have w4 : (i9 + 1).toInt = i9.toInt + 1 := i32_inc (by omega)
                  refine mv_aload_n (pc := 168) B d_Book_read_1_168 rfl 2 rfl ?_
                  refine mv_getR (pc := 169) (ci := 12) (C := R_Book) (T := F_Book) (N := 65) B 56 rfl rfl (by decide) i_Book (B.2.2.2.1 _ k_1905) rfl (hmt _ 56 _ rfl) d_Book_read_1_169 ?_
                  refine mv_iload (pc := 172) B d_Book_read_1_172 0 rfl ?_
                  refine mv_lconst (pc := 174) (v := 0) B d_Book_read_1_174 (by decide) ?_
                  refine mv_last (pc := 175) B rfl (i32_in r0 (show i9.toInt < 65536 by omega)) d_Book_read_1_175 ?_
                  refine mv_iinc (pc := 176) (j := 0) (v := 1) B d_Book_read_1_176 rfl (by decide) (by decide) rfl ?_
                  refine mv_goto (pc := 179) (tgt := 162) B d_Book_read_1_179 rfl ?_
                  refine mv_lpick [0, 1, 2] rfl ?_
                  exact ih _ _ (hV.sb (Or.inr rfl)) hat (by omega) (by omega)
            refine mv_iconst (pc := 159) (v := 0) B d_Book_read_1_159 (by decide) ?_
            refine mv_istore (pc := 160) B d_Book_read_1_160 (by decide) rfl ?_
            refine mv_lpick [0, 1, 2] rfl ?_
            exact lq _ _ _ hV hat (by decide) (Nat.lt_succ_self _)
          · skip
            rw [Int32.le_iff_toInt_le] at h124
            have e17 : mv_i S 74 17 = mv_i τ 74 17 := hV.1 _ _ id
            rw [e17] at h124
            have hcl := i32_cl q0
            have hme : mv_a S 78 t9.toNatClampNeg = mv_a σ71 78 t9.toNatClampNeg := (hV.2.2.2.1 _ _ (by omega)).trans (hF.2.2.2.1 _ _ id)
            have m1 := csum_mono hg5 t9.toNatClampNeg (by omega)
            have m2 := csum_mono hg5 (t9.toNatClampNeg + 1) (by omega)
            have e1 : csum (mv_a σ71 78) (t9.toNatClampNeg + 1) = csum (mv_a σ71 78) t9.toNatClampNeg + (mv_a σ71 78 t9.toNatClampNeg).toInt := rfl
            rw [← hme] at e1
            have w2 : (t9 + 1).toInt = t9.toInt + 1 := i32_inc (by omega)
            have hcl2 := i32_cl (x := t9 + 1) (by omega)
            have hc3 : (t9 + 1).toNatClampNeg = t9.toNatClampNeg + 1 := by omega
            refine mv_aload_n (pc := 127) B d_Book_read_1_127 rfl 2 rfl ?_
            refine mv_getR (pc := 128) (ci := 12) (C := R_Book) (T := F_Book) (N := 65) B 14 rfl rfl (by decide) i_Book (B.2.2.2.1 _ k_1857) rfl (hmt _ 14 _ rfl) d_Book_read_1_128 ?_
            refine mv_iload (pc := 131) B d_Book_read_1_131 0 rfl ?_
            refine mv_iload_n (pc := 133) B d_Book_read_1_133 rfl 1 rfl ?_
            refine mv_iast (pc := 134) B rfl (i32_in q0 (show t9.toInt < 4100 by omega)) d_Book_read_1_134 ?_
            refine mv_iload_n (pc := 135) B d_Book_read_1_135 rfl 1 rfl ?_
            refine mv_aload_n (pc := 136) B d_Book_read_1_136 rfl 2 rfl ?_
            refine mv_getR (pc := 137) (ci := 12) (C := R_Book) (T := F_Book) (N := 65) B 13 rfl rfl (by decide) i_Book (B.2.2.2.1 _ k_1856) rfl (hmt _ 13 _ rfl) d_Book_read_1_137 ?_
            refine mv_iload (pc := 140) B d_Book_read_1_140 0 rfl ?_
            refine mv_iald (pc := 142) B rfl (i32_in q0 (show t9.toInt < 4100 by omega)) d_Book_read_1_142 ?_
            refine mv_iadd (pc := 143) B d_Book_read_1_143 ?_
            refine mv_topi (fun y143 ey143 => ?_)
            have ey143 : y143 = s9 + mv_a S 78 t9.toNatClampNeg := ey143
            have fy143 := i32_addE ey143 (by (try simp only [Int32.reduceToInt]); omega) (by (try simp only [Int32.reduceToInt]); omega)
            try simp only [Int32.reduceToInt] at fy143
            refine mv_istore_n (pc := 144) B d_Book_read_1_144 rfl (by decide) rfl ?_
            refine mv_aload_n (pc := 145) B d_Book_read_1_145 rfl 2 rfl ?_
            refine mv_getR (pc := 146) (ci := 12) (C := R_Book) (T := F_Book) (N := 65) B 55 rfl rfl (by decide) i_Book (B.2.2.2.1 _ k_1904) rfl (hmt _ 55 _ rfl) d_Book_read_1_146 ?_
            refine mv_iload (pc := 149) B d_Book_read_1_149 1 rfl ?_
            refine mv_lconst (pc := 151) (v := 0) B d_Book_read_1_151 (by decide) ?_
            refine mv_last (pc := 152) B rfl (i32_in q0 (show t9.toInt < 4100 by omega)) d_Book_read_1_152 ?_
            refine mv_iinc (pc := 153) (j := 1) (v := 1) B d_Book_read_1_153 rfl (by decide) (by decide) rfl ?_
            refine mv_goto (pc := 156) (tgt := 118) B d_Book_read_1_156 rfl ?_
            refine mv_lpick [0, 1, 2] rfl ?_
            exact ih _ _ _ ((hV.sa (o := 79) rfl).sb (Or.inl rfl)) (fun j hj => by
              rw [hc3] at hj
              show Int32.toInt (mv_u (mv_a S) 79 t9.toNatClampNeg s9 79 j) = _
              by_cases z : j = t9.toNatClampNeg
              · subst z; rw [mv_u_same]; exact hs9
              · rw [mv_u_ne _ _ (by omega)]; exact hat j (by omega)) (by rw [hc3, e1, ← hs9]; exact fy143) (by omega) (by omega) (by omega)
      refine mv_iconst (pc := 113) (v := 0) B d_Book_read_1_113 (by decide) ?_
      refine mv_istore_n (pc := 114) B d_Book_read_1_114 rfl (by decide) rfl ?_
      refine mv_iconst (pc := 115) (v := 0) B d_Book_read_1_115 (by decide) ?_
      refine mv_istore (pc := 116) B d_Book_read_1_116 (by decide) rfl ?_
      refine mv_lpick [0, 1, 2] rfl ?_
      exact lp _ _ _ _ Fx.rf (fun t ht => absurd ht (Nat.not_lt_zero _)) rfl (by decide) (by show (0 : Int) ≤ _; omega) (Nat.lt_succ_self _)
    · skip
      refine mv_iconst (pc := 111) (v := 0) B d_Book_read_1_111 (by decide) ?_
      exact mv_iret (pc := 112) B hr rfl d_Book_read_1_112 (Nat.le_refl _) (Nat.le_refl _) ⟨_, rfl, (hb.tr hZ.2.2.2.2.2.2).tr hF.bf, Or.inl rfl⟩
  refine mv_aload_n (pc := 93) B d_Book_read_1_93 rfl 0 rfl ?_
  refine mv_getI (pc := 94) (ci := 12) (C := R_Book) (T := F_Book) (N := 65) B 38 rfl rfl (by decide) i_Book (B.2.2.2.1 _ k_1885) rfl d_Book_read_1_94 ?_
  refine mv_if_ne (pc := 97) (tgt := 104) B d_Book_read_1_97 rfl (fun h97 => ?_) (fun h97 => ?_)
  · skip
    refine mv_lpick [0] rfl ?_
    exact j104 _ (by first | exact Fx.rf | exact hF) (by first | exact id | exact fun _ => by rw [h97]; decide)
  · skip
    have hG9 := hZ.C.2.2.2.2.2.2.2.2 (by rw [h97]; decide)
    refine mv_aload_n (pc := 100) B d_Book_read_1_100 rfl 0 rfl ?_
    refine mv_callVv (pc := 101) (n := 0) (ci := 12) (C := R_Book) B (mK_ok sk sv) hNs rfl rfl (c_Book_clash_x l hi _ k hmt (hG9.co hZ.C.2.2.2.1 (by omega) (by omega))) rfl (ma_goodc kc_Book_clash) (B.2.2.2.1 _ k_2333) (B.2.2.2.1 _ k_2335) (B.2.2.2.1 _ ks_121) (B.2.2.2.1 _ k_13) ⟨by decide +kernel, by decide +kernel, by decide +kernel⟩ rfl d_Book_read_1_101 rfl (Nat.le_of_ble_eq_true rfl) ⟨by decide, by decide⟩ ⟨by decide, by decide⟩ ⟨by decide, by decide⟩ (mt_out htab (by decide)) (fun σ101 h101 => ?_)
    have hF := h101
    refine mv_lpick [0] rfl ?_
    exact j104 _ (by first | exact Fx.rf | exact hF) (by first | exact id | exact fun _ => by rw [h97]; decide)
set_option maxHeartbeats 4000000 in
set_option maxRecDepth 100000 in
theorem c_Book_read_1_y (l : Launch) {dA : FieldType → ClassId} {D : va_G} {al : Nat → Nat} {ext : mv_Sh} {sk sv : Nat → Nat} (hi : mv_inj (mg dA D al ext)) (σ : mv_H) (n9 : Int32) (len : Nat) (hn9 : n9.toInt = len) (hl : len ≤ 10240) (hmr : mh (mv_r σ)) : mv_C l y_Book_read_1 (Cond.codeWith y_Book_read_1 b_Book_read_1 5 (Option.some Jvm.ClassFile.FieldType.boolean) [((70 : Nat), (74 : Nat), (77 : Nat), (7 : Nat))] :: ma) ({ frames := 881, cells := 0, slots := 0, locals := 31475 }) (mg dA D al ext) (mK sk sv) [.ref (al 108), .ref (al 71), .int n9] σ (mv_Ri (fun v σ1 => BF 108 (mv_sr σ 108 1 (some 71)) σ1 ∧ (v = 0 ∨ (v = 1 ∧ BG 108 σ1)))) := by
  refine mv_C.ofVW (cc := b_Book_read_1) (nL := 5) (ret := (Option.some Jvm.ClassFile.FieldType.boolean)) (hh := [((70 : Nat), (74 : Nat), (77 : Nat), (7 : Nat))]) (by decide +kernel) rfl hi (Nat.le_of_ble_eq_true rfl) ?_
  intro p e s m below meth c B hNs hr hnm htab
  refine mv_aload_n (pc := 0) B d_Book_read_1_0 rfl 0 rfl ?_
  refine mv_aload_n (pc := 1) B d_Book_read_1_1 rfl 1 rfl ?_
  refine mv_putR (pc := 2) (ci := 12) (C := R_Book) (T := F_Book) (N := 65) B 1 rfl rfl (by decide) i_Book t_Book_ok n_Book (B.2.2.2.1 _ k_1844) rfl rfl d_Book_read_1_2 ?_
  refine mv_aload_n (pc := 5) B d_Book_read_1_5 rfl 0 rfl ?_
  refine mv_iload_n (pc := 6) B d_Book_read_1_6 rfl 2 rfl ?_
  refine mv_putI (pc := 7) (ci := 12) (C := R_Book) (T := F_Book) (N := 65) B 2 rfl rfl (by decide) i_Book t_Book_ok n_Book (B.2.2.2.1 _ k_1845) rfl rfl rfl rfl d_Book_read_1_7 ?_
  refine mv_aload_n (pc := 10) B d_Book_read_1_10 rfl 0 rfl ?_
  refine mv_iconst (pc := 11) (v := 0) B d_Book_read_1_11 (by decide) ?_
  refine mv_putI (pc := 12) (ci := 12) (C := R_Book) (T := F_Book) (N := 65) B 48 rfl rfl (by decide) i_Book t_Book_ok n_Book (B.2.2.2.1 _ k_1897) rfl rfl rfl rfl d_Book_read_1_12 ?_
  refine mv_aload_n (pc := 15) B d_Book_read_1_15 rfl 0 rfl ?_
  refine mv_iconst (pc := 16) (v := 0) B d_Book_read_1_16 (by decide) ?_
  refine mv_putI (pc := 17) (ci := 12) (C := R_Book) (T := F_Book) (N := 65) B 17 rfl rfl (by decide) i_Book t_Book_ok n_Book (B.2.2.2.1 _ k_1860) rfl rfl rfl rfl d_Book_read_1_17 ?_
  refine mv_aload_n (pc := 20) B d_Book_read_1_20 rfl 0 rfl ?_
  refine mv_iconst (pc := 21) (v := 0) B d_Book_read_1_21 (by decide) ?_
  refine mv_putI (pc := 22) (ci := 12) (C := R_Book) (T := F_Book) (N := 65) B 19 rfl rfl (by decide) i_Book t_Book_ok n_Book (B.2.2.2.1 _ k_1864) rfl rfl rfl rfl d_Book_read_1_22 ?_
  refine mv_aload_n (pc := 25) B d_Book_read_1_25 rfl 0 rfl ?_
  refine mv_iconst (pc := 26) (v := -1) B d_Book_read_1_26 (by decide) ?_
  refine mv_putI (pc := 27) (ci := 12) (C := R_Book) (T := F_Book) (N := 65) B 18 rfl rfl (by decide) i_Book t_Book_ok n_Book (B.2.2.2.1 _ k_1862) rfl rfl rfl rfl d_Book_read_1_27 ?_
  refine mv_aload_n (pc := 30) B d_Book_read_1_30 rfl 0 rfl ?_
  refine mv_iconst (pc := 31) (v := -1) B d_Book_read_1_31 (by decide) ?_
  refine mv_putI (pc := 32) (ci := 12) (C := R_Book) (T := F_Book) (N := 65) B 21 rfl rfl (by decide) i_Book t_Book_ok n_Book (B.2.2.2.1 _ k_1866) rfl rfl rfl rfl d_Book_read_1_32 ?_
  refine mv_aload_n (pc := 35) B d_Book_read_1_35 rfl 0 rfl ?_
  refine mv_iconst (pc := 36) (v := 0) B d_Book_read_1_36 (by decide) ?_
  refine mv_putI (pc := 37) (ci := 12) (C := R_Book) (T := F_Book) (N := 65) B 22 rfl rfl (by decide) i_Book t_Book_ok n_Book (B.2.2.2.1 _ k_1867) rfl rfl rfl rfl d_Book_read_1_37 ?_
  refine mv_aload_n (pc := 40) B d_Book_read_1_40 rfl 0 rfl ?_
  refine mv_iconst (pc := 41) (v := 0) B d_Book_read_1_41 (by decide) ?_
  refine mv_putI (pc := 42) (ci := 12) (C := R_Book) (T := F_Book) (N := 65) B 29 rfl rfl (by decide) i_Book t_Book_ok n_Book (B.2.2.2.1 _ k_1874) rfl rfl rfl rfl d_Book_read_1_42 ?_
  refine mv_aload_n (pc := 45) B d_Book_read_1_45 rfl 0 rfl ?_
  refine mv_iconst (pc := 46) (v := 0) B d_Book_read_1_46 (by decide) ?_
  refine mv_putI (pc := 47) (ci := 12) (C := R_Book) (T := F_Book) (N := 65) B 51 rfl rfl (by decide) i_Book t_Book_ok n_Book (B.2.2.2.1 _ k_1900) rfl rfl rfl rfl d_Book_read_1_47 ?_
  refine mv_aload_n (pc := 50) B d_Book_read_1_50 rfl 0 rfl ?_
  refine mv_iconst (pc := 51) (v := 0) B d_Book_read_1_51 (by decide) ?_
  refine mv_putI (pc := 52) (ci := 12) (C := R_Book) (T := F_Book) (N := 65) B 30 rfl rfl (by decide) i_Book t_Book_ok n_Book (B.2.2.2.1 _ k_1876) rfl rfl rfl rfl d_Book_read_1_52 ?_
  refine mv_aload_n (pc := 55) B d_Book_read_1_55 rfl 0 rfl ?_
  refine mv_iconst (pc := 56) (v := -1) B d_Book_read_1_56 (by decide) ?_
  refine mv_putI (pc := 57) (ci := 12) (C := R_Book) (T := F_Book) (N := 65) B 37 rfl rfl (by decide) i_Book t_Book_ok n_Book (B.2.2.2.1 _ k_1883) rfl rfl rfl rfl d_Book_read_1_57 ?_
  refine mv_aload_n (pc := 60) B d_Book_read_1_60 rfl 0 rfl ?_
  refine mv_iconst (pc := 61) (v := 0) B d_Book_read_1_61 (by decide) ?_
  refine mv_putI (pc := 62) (ci := 12) (C := R_Book) (T := F_Book) (N := 65) B 38 rfl rfl (by decide) i_Book t_Book_ok n_Book (B.2.2.2.1 _ k_1885) rfl rfl rfl rfl d_Book_read_1_62 ?_
  refine mv_aload_n (pc := 65) B d_Book_read_1_65 rfl 0 rfl ?_
  refine mv_iconst (pc := 66) (v := -1) B d_Book_read_1_66 (by decide) ?_
  refine mv_putI (pc := 67) (ci := 12) (C := R_Book) (T := F_Book) (N := 65) B 39 rfl rfl (by decide) i_Book t_Book_ok n_Book (B.2.2.2.1 _ k_1888) rfl rfl rfl rfl d_Book_read_1_67 ?_
  refine mv_gen (fun S70 eS70 => ?_)
  have hmS : mh (mv_r S70) := by rw [eS70]; exact hmr.sr (o := 108) (k := 1) (v := some 71) rfl
  have hR : Br 108 (mv_r S70) := ⟨hmS, by rw [eS70]; rfl⟩
  have hz : (mv_i S70 108 2).toInt = len := by rw [eS70]; exact hn9
  have k17 : mv_i S70 108 17 = 0 := by rw [eS70]; rfl
  have k48 : mv_i S70 108 48 = 0 := by rw [eS70]; rfl
  have k29 : mv_i S70 108 29 = 0 := by rw [eS70]; rfl
  have k51 : mv_i S70 108 51 = 0 := by rw [eS70]; rfl
  have k19 : mv_i S70 108 19 = 0 := by rw [eS70]; rfl
  have k18 : mv_i S70 108 18 = -1 := by rw [eS70]; rfl
  have hb : BF 108 (mv_sr σ 108 1 (some 71)) S70 := by rw [eS70]; exact (((((((((((((BF.rf.si ⟨by omega, by omega⟩).si ⟨by omega, by omega⟩).si ⟨by omega, by omega⟩).si ⟨by omega, by omega⟩).si ⟨by omega, by omega⟩).si ⟨by omega, by omega⟩).si ⟨by omega, by omega⟩).si ⟨by omega, by omega⟩).si ⟨by omega, by omega⟩).si ⟨by omega, by omega⟩).si ⟨by omega, by omega⟩).si ⟨by omega, by omega⟩).si ⟨by omega, by omega⟩)
  clear eS70
  refine mv_aload_n (pc := 70) B d_Book_read_1_70 rfl 0 rfl ?_
  refine mv_callVCUv (pc := 71) (n := 0) (ci := 12) (C := R_Book) B (mK_ok sk sv) hNs rfl rfl (c_Book_text_1_y l hi _ len hR hz hl k17 k48 k29 k51 k19 k18) rfl (ma_goodc kc_Book_text_1) (B.2.2.2.1 _ k_2110) (B.2.2.2.1 _ k_2112) (B.2.2.2.1 _ ks_79) (B.2.2.2.1 _ k_13) ⟨by decide +kernel, by decide +kernel, by decide +kernel⟩ rfl d_Book_read_1_71 rfl (Nat.le_of_ble_eq_true rfl) ⟨by decide, by decide⟩ ⟨by decide, by decide⟩  ?_ ?_
  · skip
    intro σ71 g71
    refine ⟨77, mt_H.one B.2.2.1 htab (by decide) (by decide) (by decide) (B.2.2.2.1 _ k_1822) (mt_cast (B.2.2.2.1 _ k_1823)), ?_⟩
    refine mv_astore_n (pc := 77) B d_Book_read_1_77 rfl (by decide) rfl ?_
    refine mv_aload_n (pc := 78) B d_Book_read_1_78 rfl 1 rfl ?_
    refine mv_aload_n (pc := 79) B d_Book_read_1_79 rfl 0 rfl ?_
    refine mv_getI (pc := 80) (ci := 13) (C := R_Wrong) (T := F_Wrong) (N := 1) B 0 rfl rfl (by decide) i_Wrong (B.2.2.2.1 _ k_1835) rfl d_Book_read_1_80 ?_
    refine mv_putI (pc := 83) (ci := 12) (C := R_Book) (T := F_Book) (N := 65) B 37 rfl rfl (by decide) i_Book t_Book_ok n_Book (B.2.2.2.1 _ k_1883) rfl rfl rfl rfl d_Book_read_1_83 ?_
    refine mv_aload_n (pc := 86) B d_Book_read_1_86 rfl 1 rfl ?_
    refine mv_iconst (pc := 87) (v := 1) B d_Book_read_1_87 (by decide) ?_
    refine mv_putI (pc := 88) (ci := 12) (C := R_Book) (T := F_Book) (N := 65) B 38 rfl rfl (by decide) i_Book t_Book_ok n_Book (B.2.2.2.1 _ k_1885) rfl rfl rfl rfl d_Book_read_1_88 ?_
    refine mv_iconst (pc := 91) (v := 0) B d_Book_read_1_91 (by decide) ?_
    exact mv_iret (pc := 92) B hr rfl d_Book_read_1_92 (Nat.le_refl _) (Nat.le_refl _) ⟨_, rfl, ((hb.tr g71).si ⟨by omega, by omega⟩).si ⟨by omega, by omega⟩, Or.inl rfl⟩
  intro σ71 h71
  obtain ⟨th, n, k, cb, c1, c2, hZ⟩ := h71
  have hL := hZ.le
  have hmt : mh (mv_r σ71) := hZ.1.1.2.1.1
  refine mv_goto (pc := 74) (tgt := 93) B d_Book_read_1_74 rfl ?_
  have j104 : ∀ (τ : mv_H) (hF : CF 108 σ71 τ) (hz9 : (mv_i τ 108 38).toInt ≤ 0 → (mv_i σ71 108 38).toInt ≤ 0), mv_V p l e ({ frames := 881, cells := 0, slots := 0, locals := 31475 }) s m ([.ref (al 108), .ref (al 71), .int n9] : List Value).toArray below meth c (mg dA D al ext) 5 0 0 (mv_Q (mg dA D al ext) below s 0 0 (mv_Ri (fun v σ1 => BF 108 (mv_sr σ 108 1 (some 71)) σ1 ∧ (v = 0 ∨ (v = 1 ∧ BG 108 σ1))))) τ 104 [(0, .ref (al 108))] [] := by
    intro τ hF hz9
    have hmt : mh (mv_r τ) := by rw [hF.2.2.1]; exact hmt
    have hmq := hmt
    refine mv_aload_n (pc := 104) B d_Book_read_1_104 rfl 0 rfl ?_
    refine mv_getI (pc := 105) (ci := 12) (C := R_Book) (T := F_Book) (N := 65) B 38 rfl rfl (by decide) i_Book (B.2.2.2.1 _ k_1885) rfl d_Book_read_1_105 ?_
    refine mv_if_le (pc := 108) (tgt := 113) B d_Book_read_1_108 rfl (fun h108 => ?_) (fun h108 => ?_)
    · skip
      have hG9 := hZ.C.2.2.2.2.2.2.2.2 (hz9 (Int32.le_iff_toInt_le.mp h108))
      have hcm : csum (mv_a σ71 112) th = (mv_i σ71 108 19).toInt := hG9.2.2.2.1
      have hg5 : ∀ t, t < th → 0 ≤ (mv_a σ71 112 t).toInt := fun t ht => (hG9.2.2.2.2 t ht).1
      have hcc := hZ.C.2.2.2.2.2.2.1
      have hthr : (mv_i τ 108 17).toInt = th := by rw [hF.1 _ _ (by omega)]; exact hZ.C.2.1
      have lp : ∀ (nn : Nat) (S : mv_H) (t9 : Int32) (s9 : Int32) (hV : VF 108 τ S) (hat : ∀ t, t < t9.toNatClampNeg → (mv_a S 113 t).toInt = csum (mv_a σ71 112) t) (hs9 : s9.toInt = csum (mv_a σ71 112) t9.toNatClampNeg) (q0 : 0 ≤ t9.toInt) (q1 : t9.toInt ≤ th), (20000 - t9.toInt).toNat < nn → mv_V p l e ({ frames := 881, cells := 0, slots := 0, locals := 31475 }) s m ([.ref (al 108), .ref (al 71), .int n9] : List Value).toArray below meth c (mg dA D al ext) 5 0 0 (mv_Q (mg dA D al ext) below s 0 0 (mv_Ri (fun v σ1 => BF 108 (mv_sr σ 108 1 (some 71)) σ1 ∧ (v = 0 ∨ (v = 1 ∧ BG 108 σ1))))) S 118 [(4, .int t9), (3, .int s9), (0, .ref (al 108))] [] := by
        intro nn
        induction nn with
        | zero => intro S t9 s9 hV hat hs9 q0 q1 hm; exact absurd hm (Nat.not_lt_zero _)
        | succ nn ih =>
          intro S t9 s9 hV hat hs9 q0 q1 hm
          have hmt : mh (mv_r S) := by rw [hV.2.2.1]; exact hmq
          refine mv_iload (pc := 118) B d_Book_read_1_118 0 rfl ?_
          refine mv_aload_n (pc := 120) B d_Book_read_1_120 rfl 2 rfl ?_
          refine mv_getI (pc := 121) (ci := 12) (C := R_Book) (T := F_Book) (N := 65) B 17 rfl rfl (by decide) i_Book (B.2.2.2.1 _ k_1860) rfl d_Book_read_1_121 ?_
          refine mv_icmp_ge (pc := 124) (tgt := 159) B d_Book_read_1_124 rfl (fun h124 => ?_) (fun h124 => ?_)
          · skip
            rw [Int32.le_iff_toInt_le] at h124
            have e17 : mv_i S 108 17 = mv_i τ 108 17 := hV.1 _ _ id
            rw [e17] at h124
            have hcl := i32_cl q0
            have hte : t9.toNatClampNeg = th := by omega
            rw [hte] at hat hs9
            have lq : ∀ (nn : Nat) (S : mv_H) (i9 : Int32) (hV : VF 108 τ S) (hat : ∀ t, t < th → (mv_a S 113 t).toInt = csum (mv_a σ71 112) t) (r0 : 0 ≤ i9.toInt), (70000 - i9.toInt).toNat < nn → mv_V p l e ({ frames := 881, cells := 0, slots := 0, locals := 31475 }) s m ([.ref (al 108), .ref (al 71), .int n9] : List Value).toArray below meth c (mg dA D al ext) 5 0 0 (mv_Q (mg dA D al ext) below s 0 0 (mv_Ri (fun v σ1 => BF 108 (mv_sr σ 108 1 (some 71)) σ1 ∧ (v = 0 ∨ (v = 1 ∧ BG 108 σ1))))) S 162 [(4, .int i9), (3, .int s9), (0, .ref (al 108))] [] := by
              intro nn
              induction nn with
              | zero => intro S i9 hV hat r0 hm; exact absurd hm (Nat.not_lt_zero _)
              | succ nn ih =>
                intro S i9 hV hat r0 hm
                have hmt : mh (mv_r S) := by rw [hV.2.2.1]; exact hmq
                refine mv_iload (pc := 162) B d_Book_read_1_162 0 rfl ?_
                refine mv_iload_n (pc := 164) B d_Book_read_1_164 rfl 1 rfl ?_
                refine mv_icmp_ge (pc := 165) (tgt := 182) B d_Book_read_1_165 rfl (fun h165 => ?_) (fun h165 => ?_)
                · skip
                  refine mv_iconst (pc := 182) (v := 1) B d_Book_read_1_182 (by decide) ?_
                  exact mv_iret (pc := 183) B hr rfl d_Book_read_1_183 (Nat.le_refl _) (Nat.le_refl _) ⟨_, rfl, ((hb.tr hZ.2.2.2.2.2.2).tr hF.bf).tr hV.bf, Or.inr ⟨rfl, BG.of hZ hG9 hF hV hat⟩⟩
                · skip
                  rw [Int32.le_iff_toInt_le] at h165
                  have w4 : (i9 + 1).toInt = i9.toInt + 1 := i32_inc (by omega)
                  refine mv_aload_n (pc := 168) B d_Book_read_1_168 rfl 2 rfl ?_
                  refine mv_getR (pc := 169) (ci := 12) (C := R_Book) (T := F_Book) (N := 65) B 56 rfl rfl (by decide) i_Book (B.2.2.2.1 _ k_1905) rfl (hmt _ 56 _ rfl) d_Book_read_1_169 ?_
                  refine mv_iload (pc := 172) B d_Book_read_1_172 0 rfl ?_
                  refine mv_lconst (pc := 174) (v := 0) B d_Book_read_1_174 (by decide) ?_
                  refine mv_last (pc := 175) B rfl (i32_in r0 (show i9.toInt < 65536 by omega)) d_Book_read_1_175 ?_
                  refine mv_iinc (pc := 176) (j := 0) (v := 1) B d_Book_read_1_176 rfl (by decide) (by decide) rfl ?_
                  refine mv_goto (pc := 179) (tgt := 162) B d_Book_read_1_179 rfl ?_
                  refine mv_lpick [0, 1, 2] rfl ?_
                  exact ih _ _ (hV.sb (Or.inr rfl)) hat (by omega) (by omega)
            refine mv_iconst (pc := 159) (v := 0) B d_Book_read_1_159 (by decide) ?_
            refine mv_istore (pc := 160) B d_Book_read_1_160 (by decide) rfl ?_
            refine mv_lpick [0, 1, 2] rfl ?_
            exact lq _ _ _ hV hat (by decide) (Nat.lt_succ_self _)
          · skip
            rw [Int32.le_iff_toInt_le] at h124
            have e17 : mv_i S 108 17 = mv_i τ 108 17 := hV.1 _ _ id
            rw [e17] at h124
            have hcl := i32_cl q0
            have hme : mv_a S 112 t9.toNatClampNeg = mv_a σ71 112 t9.toNatClampNeg := (hV.2.2.2.1 _ _ (by omega)).trans (hF.2.2.2.1 _ _ id)
            have m1 := csum_mono hg5 t9.toNatClampNeg (by omega)
            have m2 := csum_mono hg5 (t9.toNatClampNeg + 1) (by omega)
            have e1 : csum (mv_a σ71 112) (t9.toNatClampNeg + 1) = csum (mv_a σ71 112) t9.toNatClampNeg + (mv_a σ71 112 t9.toNatClampNeg).toInt := rfl
            rw [← hme] at e1
            have w2 : (t9 + 1).toInt = t9.toInt + 1 := i32_inc (by omega)
            have hcl2 := i32_cl (x := t9 + 1) (by omega)
            have hc3 : (t9 + 1).toNatClampNeg = t9.toNatClampNeg + 1 := by omega
            refine mv_aload_n (pc := 127) B d_Book_read_1_127 rfl 2 rfl ?_
            refine mv_getR (pc := 128) (ci := 12) (C := R_Book) (T := F_Book) (N := 65) B 14 rfl rfl (by decide) i_Book (B.2.2.2.1 _ k_1857) rfl (hmt _ 14 _ rfl) d_Book_read_1_128 ?_
            refine mv_iload (pc := 131) B d_Book_read_1_131 0 rfl ?_
            refine mv_iload_n (pc := 133) B d_Book_read_1_133 rfl 1 rfl ?_
            refine mv_iast (pc := 134) B rfl (i32_in q0 (show t9.toInt < 4100 by omega)) d_Book_read_1_134 ?_
            refine mv_iload_n (pc := 135) B d_Book_read_1_135 rfl 1 rfl ?_
            refine mv_aload_n (pc := 136) B d_Book_read_1_136 rfl 2 rfl ?_
            refine mv_getR (pc := 137) (ci := 12) (C := R_Book) (T := F_Book) (N := 65) B 13 rfl rfl (by decide) i_Book (B.2.2.2.1 _ k_1856) rfl (hmt _ 13 _ rfl) d_Book_read_1_137 ?_
            refine mv_iload (pc := 140) B d_Book_read_1_140 0 rfl ?_
            refine mv_iald (pc := 142) B rfl (i32_in q0 (show t9.toInt < 4100 by omega)) d_Book_read_1_142 ?_
            refine mv_iadd (pc := 143) B d_Book_read_1_143 ?_
            refine mv_topi (fun y143 ey143 => ?_)
            have ey143 : y143 = s9 + mv_a S 112 t9.toNatClampNeg := ey143
            have fy143 := i32_addE ey143 (by (try simp only [Int32.reduceToInt]); omega) (by (try simp only [Int32.reduceToInt]); omega)
            try simp only [Int32.reduceToInt] at fy143
            refine mv_istore_n (pc := 144) B d_Book_read_1_144 rfl (by decide) rfl ?_
            refine mv_aload_n (pc := 145) B d_Book_read_1_145 rfl 2 rfl ?_
            refine mv_getR (pc := 146) (ci := 12) (C := R_Book) (T := F_Book) (N := 65) B 55 rfl rfl (by decide) i_Book (B.2.2.2.1 _ k_1904) rfl (hmt _ 55 _ rfl) d_Book_read_1_146 ?_
            refine mv_iload (pc := 149) B d_Book_read_1_149 1 rfl ?_
            refine mv_lconst (pc := 151) (v := 0) B d_Book_read_1_151 (by decide) ?_
            refine mv_last (pc := 152) B rfl (i32_in q0 (show t9.toInt < 4100 by omega)) d_Book_read_1_152 ?_
            refine mv_iinc (pc := 153) (j := 1) (v := 1) B d_Book_read_1_153 rfl (by decide) (by decide) rfl ?_
            refine mv_goto (pc := 156) (tgt := 118) B d_Book_read_1_156 rfl ?_
            refine mv_lpick [0, 1, 2] rfl ?_
            exact ih _ _ _ ((hV.sa (o := 113) rfl).sb (Or.inl rfl)) (fun j hj => by
              rw [hc3] at hj
              show Int32.toInt (mv_u (mv_a S) 113 t9.toNatClampNeg s9 113 j) = _
              by_cases z : j = t9.toNatClampNeg
              · subst z; rw [mv_u_same]; exact hs9
              · rw [mv_u_ne _ _ (by omega)]; exact hat j (by omega)) (by rw [hc3, e1, ← hs9]; exact fy143) (by omega) (by omega) (by omega)
      refine mv_iconst (pc := 113) (v := 0) B d_Book_read_1_113 (by decide) ?_
      refine mv_istore_n (pc := 114) B d_Book_read_1_114 rfl (by decide) rfl ?_
      refine mv_iconst (pc := 115) (v := 0) B d_Book_read_1_115 (by decide) ?_
      refine mv_istore (pc := 116) B d_Book_read_1_116 (by decide) rfl ?_
      refine mv_lpick [0, 1, 2] rfl ?_
      exact lp _ _ _ _ Fx.rf (fun t ht => absurd ht (Nat.not_lt_zero _)) rfl (by decide) (by show (0 : Int) ≤ _; omega) (Nat.lt_succ_self _)
    · skip
      refine mv_iconst (pc := 111) (v := 0) B d_Book_read_1_111 (by decide) ?_
      exact mv_iret (pc := 112) B hr rfl d_Book_read_1_112 (Nat.le_refl _) (Nat.le_refl _) ⟨_, rfl, (hb.tr hZ.2.2.2.2.2.2).tr hF.bf, Or.inl rfl⟩
  refine mv_aload_n (pc := 93) B d_Book_read_1_93 rfl 0 rfl ?_
  refine mv_getI (pc := 94) (ci := 12) (C := R_Book) (T := F_Book) (N := 65) B 38 rfl rfl (by decide) i_Book (B.2.2.2.1 _ k_1885) rfl d_Book_read_1_94 ?_
  refine mv_if_ne (pc := 97) (tgt := 104) B d_Book_read_1_97 rfl (fun h97 => ?_) (fun h97 => ?_)
  · skip
    refine mv_lpick [0] rfl ?_
    exact j104 _ (by first | exact Fx.rf | exact hF) (by first | exact id | exact fun _ => by rw [h97]; decide)
  · skip
    have hG9 := hZ.C.2.2.2.2.2.2.2.2 (by rw [h97]; decide)
    refine mv_aload_n (pc := 100) B d_Book_read_1_100 rfl 0 rfl ?_
    refine mv_callVv (pc := 101) (n := 0) (ci := 12) (C := R_Book) B (mK_ok sk sv) hNs rfl rfl (c_Book_clash_y l hi _ k hmt (hG9.co hZ.C.2.2.2.1 (by omega) (by omega))) rfl (ma_goodc kc_Book_clash) (B.2.2.2.1 _ k_2333) (B.2.2.2.1 _ k_2335) (B.2.2.2.1 _ ks_121) (B.2.2.2.1 _ k_13) ⟨by decide +kernel, by decide +kernel, by decide +kernel⟩ rfl d_Book_read_1_101 rfl (Nat.le_of_ble_eq_true rfl) ⟨by decide, by decide⟩ ⟨by decide, by decide⟩ ⟨by decide, by decide⟩ (mt_out htab (by decide)) (fun σ101 h101 => ?_)
    have hF := h101
    refine mv_lpick [0] rfl ?_
    exact j104 _ (by first | exact Fx.rf | exact hF) (by first | exact id | exact fun _ => by rw [h97]; decide)
