/-! count, exactly -/
def cnv (n : Int32) (f : Nat → Int32) : Int32 := if 0 ≤ n.toInt ∧ n.toInt < 8 then f n.toInt.toNat else -1
theorem cnv_k {n : Int32} {f : Nat → Int32} (k : Nat) (h : n.toInt = (k : Int)) (hk : k < 8) : f k = cnv n f := by
  unfold cnv
  rw [if_pos (by omega), h]
  rfl
theorem cnv_d {n : Int32} {f : Nat → Int32} (h : ¬ (0 ≤ n.toInt ∧ n.toInt < 8)) : -1 = cnv n f := by
  unfold cnv
  rw [if_neg h]
theorem cnv_c {n : Int32} {f g : Nat → Int32} (h : ∀ k, k < 8 → f k = g k) : cnv n f = cnv n g := by
  unfold cnv
  by_cases c : 0 ≤ n.toInt ∧ n.toInt < 8
  · rw [if_pos c, if_pos c]
    exact h _ (by omega)
  · rw [if_neg c, if_neg c]
def cnC (P : Nat) (σ : mv_H) : Nat → Int32
  | 0 => mv_i σ 0 1
  | 1 => mv_i σ P 0
  | 2 => mv_i σ P 1
  | 3 => mv_i σ P 7
  | 4 => mv_i σ P 10
  | 5 => mv_i σ 64 10
  | 6 => mv_i σ 64 11
  | _ => mv_i σ 64 12
def cnR (N : Nat) (σ : mv_H) : Nat → Int32
  | 0 => mv_i σ 70 1
  | 1 => if mv_i σ 70 11 = 0 then mv_i σ N 20 else 32
  | 2 => if mv_i σ 70 11 = 0 then mv_i σ N 17 else 3
  | 3 => if mv_i σ 70 11 = 0 then mv_i σ N 19 else 32800
  | 4 => if mv_i σ 70 11 = 0 then mv_i σ N 29 else 48
  | 5 => mv_i σ 70 12
  | 6 => mv_i σ 70 13
  | _ => mv_i σ 70 15
theorem cr_t {a b v w x : Int32} (ha : a = b) (h : a = 0) (hv : v = w) : v = (if b = 0 then w else x) := by
  rw [if_pos (ha.symm.trans h), hv]
theorem cr_f {a b w x : Int32} (ha : a = b) (h : ¬ a = 0) : x = (if b = 0 then w else x) := by
  rw [if_neg (fun z => h (ha.trans z))]

set_option maxHeartbeats 4000000 in
set_option maxRecDepth 100000 in
theorem c_kv_Loom_count_a (l : Launch) {dA : FieldType → ClassId} {D : va_G} {al : Nat → Nat} {ext : mv_Sh} {sk sv : Nat → Nat} (hi : mv_inj (mg dA D al ext)) (σ : mv_H) (n9 : Int32) (hR : Rf 32 (mv_r σ)) : mv_C l y_Loom_count (Cond.code y_Loom_count b_Loom_count 2 (Option.some Jvm.ClassFile.FieldType.int) :: ma) ({ frames := 0, cells := 0, slots := 0, locals := 0 }) (mg dA D al ext) (mK sk sv) [.ref (al 0), .int n9] σ (mv_Ri (fun v σ1 => σ1 = σ ∧ v = cnv n9 (cnC 32 σ))) := by
  refine mv_C.ofV (cc := b_Loom_count) (nL := 2) (ret := (Option.some Jvm.ClassFile.FieldType.int)) (by decide +kernel) rfl hi (Nat.le_of_ble_eq_true rfl) ?_
  intro p e s m below meth c B hNs hr hnm hno
  refine mv_iload_n (pc := 0) B d_Loom_count_0 rfl 1 rfl ?_
  refine mv_tsw (pc := 1) B d_Loom_count_1 (by decide) (by decide) ?_
  refine ⟨fun h1 => ?_, fun h1n0 => ?_⟩
  · skip
    refine mv_aload_n (pc := 48) B d_Loom_count_48 rfl 0 rfl ?_
    refine mv_getI (pc := 49) (ci := 0) (C := R_Loom) (T := F_Loom) (N := 10) B 1 rfl rfl (by decide) i_Loom (B.2.2.2.1 _ k_487) rfl d_Loom_count_49 ?_
    exact mv_iret (pc := 52) B hr rfl d_Loom_count_52 (Nat.le_refl _) (Nat.le_refl _) ⟨_, rfl, rfl, cnv_k (f := cnC 32 σ) 0 (by omega) (by decide)⟩
  refine ⟨fun h1 => ?_, fun h1n1 => ?_⟩
  · skip
    refine mv_aload_n (pc := 53) B d_Loom_count_53 rfl 0 rfl ?_
    refine mv_getR (pc := 54) (ci := 0) (C := R_Loom) (T := F_Loom) (N := 10) B 9 rfl rfl (by decide) i_Loom (B.2.2.2.1 _ k_495) rfl (hR.1 _ 9 _ rfl) d_Loom_count_54 ?_
    refine mv_getR (pc := 57) (ci := 9) (C := R_Machine) (T := F_Machine) (N := 13) B 0 rfl rfl (by decide) i_Machine (B.2.2.2.1 _ k_441) rfl hR.2.2 d_Loom_count_57 ?_
    refine mv_getI (pc := 60) (ci := 7) (C := R_Program) (T := F_Program) (N := 19) B 0 rfl rfl (by decide) i_Program (B.2.2.2.1 _ k_314) rfl d_Loom_count_60 ?_
    exact mv_iret (pc := 63) B hr rfl d_Loom_count_63 (Nat.le_refl _) (Nat.le_refl _) ⟨_, rfl, rfl, cnv_k (f := cnC 32 σ) 1 (by omega) (by decide)⟩
  refine ⟨fun h1 => ?_, fun h1n2 => ?_⟩
  · skip
    refine mv_aload_n (pc := 64) B d_Loom_count_64 rfl 0 rfl ?_
    refine mv_getR (pc := 65) (ci := 0) (C := R_Loom) (T := F_Loom) (N := 10) B 9 rfl rfl (by decide) i_Loom (B.2.2.2.1 _ k_495) rfl (hR.1 _ 9 _ rfl) d_Loom_count_65 ?_
    refine mv_getR (pc := 68) (ci := 9) (C := R_Machine) (T := F_Machine) (N := 13) B 0 rfl rfl (by decide) i_Machine (B.2.2.2.1 _ k_441) rfl hR.2.2 d_Loom_count_68 ?_
    refine mv_getI (pc := 71) (ci := 7) (C := R_Program) (T := F_Program) (N := 19) B 1 rfl rfl (by decide) i_Program (B.2.2.2.1 _ k_317) rfl d_Loom_count_71 ?_
    exact mv_iret (pc := 74) B hr rfl d_Loom_count_74 (Nat.le_refl _) (Nat.le_refl _) ⟨_, rfl, rfl, cnv_k (f := cnC 32 σ) 2 (by omega) (by decide)⟩
  refine ⟨fun h1 => ?_, fun h1n3 => ?_⟩
  · skip
    refine mv_aload_n (pc := 75) B d_Loom_count_75 rfl 0 rfl ?_
    refine mv_getR (pc := 76) (ci := 0) (C := R_Loom) (T := F_Loom) (N := 10) B 9 rfl rfl (by decide) i_Loom (B.2.2.2.1 _ k_495) rfl (hR.1 _ 9 _ rfl) d_Loom_count_76 ?_
    refine mv_getR (pc := 79) (ci := 9) (C := R_Machine) (T := F_Machine) (N := 13) B 0 rfl rfl (by decide) i_Machine (B.2.2.2.1 _ k_441) rfl hR.2.2 d_Loom_count_79 ?_
    refine mv_getI (pc := 82) (ci := 7) (C := R_Program) (T := F_Program) (N := 19) B 7 rfl rfl (by decide) i_Program (B.2.2.2.1 _ k_336) rfl d_Loom_count_82 ?_
    exact mv_iret (pc := 85) B hr rfl d_Loom_count_85 (Nat.le_refl _) (Nat.le_refl _) ⟨_, rfl, rfl, cnv_k (f := cnC 32 σ) 3 (by omega) (by decide)⟩
  refine ⟨fun h1 => ?_, fun h1n4 => ?_⟩
  · skip
    refine mv_aload_n (pc := 86) B d_Loom_count_86 rfl 0 rfl ?_
    refine mv_getR (pc := 87) (ci := 0) (C := R_Loom) (T := F_Loom) (N := 10) B 9 rfl rfl (by decide) i_Loom (B.2.2.2.1 _ k_495) rfl (hR.1 _ 9 _ rfl) d_Loom_count_87 ?_
    refine mv_getR (pc := 90) (ci := 9) (C := R_Machine) (T := F_Machine) (N := 13) B 0 rfl rfl (by decide) i_Machine (B.2.2.2.1 _ k_441) rfl hR.2.2 d_Loom_count_90 ?_
    refine mv_getI (pc := 93) (ci := 7) (C := R_Program) (T := F_Program) (N := 19) B 10 rfl rfl (by decide) i_Program (B.2.2.2.1 _ k_346) rfl d_Loom_count_93 ?_
    exact mv_iret (pc := 96) B hr rfl d_Loom_count_96 (Nat.le_refl _) (Nat.le_refl _) ⟨_, rfl, rfl, cnv_k (f := cnC 32 σ) 4 (by omega) (by decide)⟩
  refine ⟨fun h1 => ?_, fun h1n5 => ?_⟩
  · skip
    refine mv_aload_n (pc := 97) B d_Loom_count_97 rfl 0 rfl ?_
    refine mv_getR (pc := 98) (ci := 0) (C := R_Loom) (T := F_Loom) (N := 10) B 9 rfl rfl (by decide) i_Loom (B.2.2.2.1 _ k_495) rfl (hR.1 _ 9 _ rfl) d_Loom_count_98 ?_
    refine mv_getI (pc := 101) (ci := 9) (C := R_Machine) (T := F_Machine) (N := 13) B 10 rfl rfl (by decide) i_Machine (B.2.2.2.1 _ k_454) rfl d_Loom_count_101 ?_
    exact mv_iret (pc := 104) B hr rfl d_Loom_count_104 (Nat.le_refl _) (Nat.le_refl _) ⟨_, rfl, rfl, cnv_k (f := cnC 32 σ) 5 (by omega) (by decide)⟩
  refine ⟨fun h1 => ?_, fun h1n6 => ?_⟩
  · skip
    refine mv_aload_n (pc := 105) B d_Loom_count_105 rfl 0 rfl ?_
    refine mv_getR (pc := 106) (ci := 0) (C := R_Loom) (T := F_Loom) (N := 10) B 9 rfl rfl (by decide) i_Loom (B.2.2.2.1 _ k_495) rfl (hR.1 _ 9 _ rfl) d_Loom_count_106 ?_
    refine mv_getI (pc := 109) (ci := 9) (C := R_Machine) (T := F_Machine) (N := 13) B 11 rfl rfl (by decide) i_Machine (B.2.2.2.1 _ k_456) rfl d_Loom_count_109 ?_
    exact mv_iret (pc := 112) B hr rfl d_Loom_count_112 (Nat.le_refl _) (Nat.le_refl _) ⟨_, rfl, rfl, cnv_k (f := cnC 32 σ) 6 (by omega) (by decide)⟩
  refine ⟨fun h1 => ?_, fun h1n7 => ?_⟩
  · skip
    refine mv_aload_n (pc := 113) B d_Loom_count_113 rfl 0 rfl ?_
    refine mv_getR (pc := 114) (ci := 0) (C := R_Loom) (T := F_Loom) (N := 10) B 9 rfl rfl (by decide) i_Loom (B.2.2.2.1 _ k_495) rfl (hR.1 _ 9 _ rfl) d_Loom_count_114 ?_
    refine mv_getI (pc := 117) (ci := 9) (C := R_Machine) (T := F_Machine) (N := 13) B 12 rfl rfl (by decide) i_Machine (B.2.2.2.1 _ k_458) rfl d_Loom_count_117 ?_
    exact mv_iret (pc := 120) B hr rfl d_Loom_count_120 (Nat.le_refl _) (Nat.le_refl _) ⟨_, rfl, rfl, cnv_k (f := cnC 32 σ) 7 (by omega) (by decide)⟩
  show mv_V _ _ _ _ _ _ _ _ _ _ _ _ _ _ _ _ 121 _ _
  refine mv_iconst (pc := 121) (v := -1) B d_Loom_count_121 (by decide) ?_
  exact mv_iret (pc := 122) B hr rfl d_Loom_count_122 (Nat.le_refl _) (Nat.le_refl _) ⟨_, rfl, rfl, cnv_d (by omega)⟩
set_option maxHeartbeats 4000000 in
set_option maxRecDepth 100000 in
theorem c_kv_Loom_count_b (l : Launch) {dA : FieldType → ClassId} {D : va_G} {al : Nat → Nat} {ext : mv_Sh} {sk sv : Nat → Nat} (hi : mv_inj (mg dA D al ext)) (σ : mv_H) (n9 : Int32) (hR : Rf 48 (mv_r σ)) : mv_C l y_Loom_count (Cond.code y_Loom_count b_Loom_count 2 (Option.some Jvm.ClassFile.FieldType.int) :: ma) ({ frames := 0, cells := 0, slots := 0, locals := 0 }) (mg dA D al ext) (mK sk sv) [.ref (al 0), .int n9] σ (mv_Ri (fun v σ1 => σ1 = σ ∧ v = cnv n9 (cnC 48 σ))) := by
  refine mv_C.ofV (cc := b_Loom_count) (nL := 2) (ret := (Option.some Jvm.ClassFile.FieldType.int)) (by decide +kernel) rfl hi (Nat.le_of_ble_eq_true rfl) ?_
  intro p e s m below meth c B hNs hr hnm hno
  refine mv_iload_n (pc := 0) B d_Loom_count_0 rfl 1 rfl ?_
  refine mv_tsw (pc := 1) B d_Loom_count_1 (by decide) (by decide) ?_
  refine ⟨fun h1 => ?_, fun h1n0 => ?_⟩
  · skip
    refine mv_aload_n (pc := 48) B d_Loom_count_48 rfl 0 rfl ?_
    refine mv_getI (pc := 49) (ci := 0) (C := R_Loom) (T := F_Loom) (N := 10) B 1 rfl rfl (by decide) i_Loom (B.2.2.2.1 _ k_487) rfl d_Loom_count_49 ?_
    exact mv_iret (pc := 52) B hr rfl d_Loom_count_52 (Nat.le_refl _) (Nat.le_refl _) ⟨_, rfl, rfl, cnv_k (f := cnC 48 σ) 0 (by omega) (by decide)⟩
  refine ⟨fun h1 => ?_, fun h1n1 => ?_⟩
  · skip
    refine mv_aload_n (pc := 53) B d_Loom_count_53 rfl 0 rfl ?_
    refine mv_getR (pc := 54) (ci := 0) (C := R_Loom) (T := F_Loom) (N := 10) B 9 rfl rfl (by decide) i_Loom (B.2.2.2.1 _ k_495) rfl (hR.1 _ 9 _ rfl) d_Loom_count_54 ?_
    refine mv_getR (pc := 57) (ci := 9) (C := R_Machine) (T := F_Machine) (N := 13) B 0 rfl rfl (by decide) i_Machine (B.2.2.2.1 _ k_441) rfl hR.2.2 d_Loom_count_57 ?_
    refine mv_getI (pc := 60) (ci := 7) (C := R_Program) (T := F_Program) (N := 19) B 0 rfl rfl (by decide) i_Program (B.2.2.2.1 _ k_314) rfl d_Loom_count_60 ?_
    exact mv_iret (pc := 63) B hr rfl d_Loom_count_63 (Nat.le_refl _) (Nat.le_refl _) ⟨_, rfl, rfl, cnv_k (f := cnC 48 σ) 1 (by omega) (by decide)⟩
  refine ⟨fun h1 => ?_, fun h1n2 => ?_⟩
  · skip
    refine mv_aload_n (pc := 64) B d_Loom_count_64 rfl 0 rfl ?_
    refine mv_getR (pc := 65) (ci := 0) (C := R_Loom) (T := F_Loom) (N := 10) B 9 rfl rfl (by decide) i_Loom (B.2.2.2.1 _ k_495) rfl (hR.1 _ 9 _ rfl) d_Loom_count_65 ?_
    refine mv_getR (pc := 68) (ci := 9) (C := R_Machine) (T := F_Machine) (N := 13) B 0 rfl rfl (by decide) i_Machine (B.2.2.2.1 _ k_441) rfl hR.2.2 d_Loom_count_68 ?_
    refine mv_getI (pc := 71) (ci := 7) (C := R_Program) (T := F_Program) (N := 19) B 1 rfl rfl (by decide) i_Program (B.2.2.2.1 _ k_317) rfl d_Loom_count_71 ?_
    exact mv_iret (pc := 74) B hr rfl d_Loom_count_74 (Nat.le_refl _) (Nat.le_refl _) ⟨_, rfl, rfl, cnv_k (f := cnC 48 σ) 2 (by omega) (by decide)⟩
  refine ⟨fun h1 => ?_, fun h1n3 => ?_⟩
  · skip
    refine mv_aload_n (pc := 75) B d_Loom_count_75 rfl 0 rfl ?_
    refine mv_getR (pc := 76) (ci := 0) (C := R_Loom) (T := F_Loom) (N := 10) B 9 rfl rfl (by decide) i_Loom (B.2.2.2.1 _ k_495) rfl (hR.1 _ 9 _ rfl) d_Loom_count_76 ?_
    refine mv_getR (pc := 79) (ci := 9) (C := R_Machine) (T := F_Machine) (N := 13) B 0 rfl rfl (by decide) i_Machine (B.2.2.2.1 _ k_441) rfl hR.2.2 d_Loom_count_79 ?_
    refine mv_getI (pc := 82) (ci := 7) (C := R_Program) (T := F_Program) (N := 19) B 7 rfl rfl (by decide) i_Program (B.2.2.2.1 _ k_336) rfl d_Loom_count_82 ?_
    exact mv_iret (pc := 85) B hr rfl d_Loom_count_85 (Nat.le_refl _) (Nat.le_refl _) ⟨_, rfl, rfl, cnv_k (f := cnC 48 σ) 3 (by omega) (by decide)⟩
  refine ⟨fun h1 => ?_, fun h1n4 => ?_⟩
  · skip
    refine mv_aload_n (pc := 86) B d_Loom_count_86 rfl 0 rfl ?_
    refine mv_getR (pc := 87) (ci := 0) (C := R_Loom) (T := F_Loom) (N := 10) B 9 rfl rfl (by decide) i_Loom (B.2.2.2.1 _ k_495) rfl (hR.1 _ 9 _ rfl) d_Loom_count_87 ?_
    refine mv_getR (pc := 90) (ci := 9) (C := R_Machine) (T := F_Machine) (N := 13) B 0 rfl rfl (by decide) i_Machine (B.2.2.2.1 _ k_441) rfl hR.2.2 d_Loom_count_90 ?_
    refine mv_getI (pc := 93) (ci := 7) (C := R_Program) (T := F_Program) (N := 19) B 10 rfl rfl (by decide) i_Program (B.2.2.2.1 _ k_346) rfl d_Loom_count_93 ?_
    exact mv_iret (pc := 96) B hr rfl d_Loom_count_96 (Nat.le_refl _) (Nat.le_refl _) ⟨_, rfl, rfl, cnv_k (f := cnC 48 σ) 4 (by omega) (by decide)⟩
  refine ⟨fun h1 => ?_, fun h1n5 => ?_⟩
  · skip
    refine mv_aload_n (pc := 97) B d_Loom_count_97 rfl 0 rfl ?_
    refine mv_getR (pc := 98) (ci := 0) (C := R_Loom) (T := F_Loom) (N := 10) B 9 rfl rfl (by decide) i_Loom (B.2.2.2.1 _ k_495) rfl (hR.1 _ 9 _ rfl) d_Loom_count_98 ?_
    refine mv_getI (pc := 101) (ci := 9) (C := R_Machine) (T := F_Machine) (N := 13) B 10 rfl rfl (by decide) i_Machine (B.2.2.2.1 _ k_454) rfl d_Loom_count_101 ?_
    exact mv_iret (pc := 104) B hr rfl d_Loom_count_104 (Nat.le_refl _) (Nat.le_refl _) ⟨_, rfl, rfl, cnv_k (f := cnC 48 σ) 5 (by omega) (by decide)⟩
  refine ⟨fun h1 => ?_, fun h1n6 => ?_⟩
  · skip
    refine mv_aload_n (pc := 105) B d_Loom_count_105 rfl 0 rfl ?_
    refine mv_getR (pc := 106) (ci := 0) (C := R_Loom) (T := F_Loom) (N := 10) B 9 rfl rfl (by decide) i_Loom (B.2.2.2.1 _ k_495) rfl (hR.1 _ 9 _ rfl) d_Loom_count_106 ?_
    refine mv_getI (pc := 109) (ci := 9) (C := R_Machine) (T := F_Machine) (N := 13) B 11 rfl rfl (by decide) i_Machine (B.2.2.2.1 _ k_456) rfl d_Loom_count_109 ?_
    exact mv_iret (pc := 112) B hr rfl d_Loom_count_112 (Nat.le_refl _) (Nat.le_refl _) ⟨_, rfl, rfl, cnv_k (f := cnC 48 σ) 6 (by omega) (by decide)⟩
  refine ⟨fun h1 => ?_, fun h1n7 => ?_⟩
  · skip
    refine mv_aload_n (pc := 113) B d_Loom_count_113 rfl 0 rfl ?_
    refine mv_getR (pc := 114) (ci := 0) (C := R_Loom) (T := F_Loom) (N := 10) B 9 rfl rfl (by decide) i_Loom (B.2.2.2.1 _ k_495) rfl (hR.1 _ 9 _ rfl) d_Loom_count_114 ?_
    refine mv_getI (pc := 117) (ci := 9) (C := R_Machine) (T := F_Machine) (N := 13) B 12 rfl rfl (by decide) i_Machine (B.2.2.2.1 _ k_458) rfl d_Loom_count_117 ?_
    exact mv_iret (pc := 120) B hr rfl d_Loom_count_120 (Nat.le_refl _) (Nat.le_refl _) ⟨_, rfl, rfl, cnv_k (f := cnC 48 σ) 7 (by omega) (by decide)⟩
  show mv_V _ _ _ _ _ _ _ _ _ _ _ _ _ _ _ _ 121 _ _
  refine mv_iconst (pc := 121) (v := -1) B d_Loom_count_121 (by decide) ?_
  exact mv_iret (pc := 122) B hr rfl d_Loom_count_122 (Nat.le_refl _) (Nat.le_refl _) ⟨_, rfl, rfl, cnv_d (by omega)⟩
set_option maxHeartbeats 4000000 in
set_option maxRecDepth 100000 in
theorem c_kv_Loom_count_c (l : Launch) {dA : FieldType → ClassId} {D : va_G} {al : Nat → Nat} {sk sv : Nat → Nat} (hi : mv_inj (mg dA D al me)) (σ : mv_H) (n9 : Int32) (hR : Rf 145 (mv_r σ)) : mv_C l y_Loom_count (Cond.code y_Loom_count b_Loom_count 2 (Option.some Jvm.ClassFile.FieldType.int) :: ma) ({ frames := 0, cells := 0, slots := 0, locals := 0 }) (mg dA D al me) (mK sk sv) [.ref (al 0), .int n9] σ (mv_Ri (fun v σ1 => σ1 = σ ∧ v = cnv n9 (cnC 145 σ))) := by
  refine mv_C.ofV (cc := b_Loom_count) (nL := 2) (ret := (Option.some Jvm.ClassFile.FieldType.int)) (by decide +kernel) rfl hi (Nat.le_of_ble_eq_true rfl) ?_
  intro p e s m below meth c B hNs hr hnm hno
  refine mv_iload_n (pc := 0) B d_Loom_count_0 rfl 1 rfl ?_
  refine mv_tsw (pc := 1) B d_Loom_count_1 (by decide) (by decide) ?_
  refine ⟨fun h1 => ?_, fun h1n0 => ?_⟩
  · skip
    refine mv_aload_n (pc := 48) B d_Loom_count_48 rfl 0 rfl ?_
    refine mv_getI (pc := 49) (ci := 0) (C := R_Loom) (T := F_Loom) (N := 10) B 1 rfl rfl (by decide) i_Loom (B.2.2.2.1 _ k_487) rfl d_Loom_count_49 ?_
    exact mv_iret (pc := 52) B hr rfl d_Loom_count_52 (Nat.le_refl _) (Nat.le_refl _) ⟨_, rfl, rfl, cnv_k (f := cnC 145 σ) 0 (by omega) (by decide)⟩
  refine ⟨fun h1 => ?_, fun h1n1 => ?_⟩
  · skip
    refine mv_aload_n (pc := 53) B d_Loom_count_53 rfl 0 rfl ?_
    refine mv_getR (pc := 54) (ci := 0) (C := R_Loom) (T := F_Loom) (N := 10) B 9 rfl rfl (by decide) i_Loom (B.2.2.2.1 _ k_495) rfl (hR.1 _ 9 _ rfl) d_Loom_count_54 ?_
    refine mv_getR (pc := 57) (ci := 9) (C := R_Machine) (T := F_Machine) (N := 13) B 0 rfl rfl (by decide) i_Machine (B.2.2.2.1 _ k_441) rfl hR.2.2 d_Loom_count_57 ?_
    refine mv_getI (pc := 60) (ci := 7) (C := R_Program) (T := F_Program) (N := 19) B 0 rfl rfl (by decide) i_Program (B.2.2.2.1 _ k_314) rfl d_Loom_count_60 ?_
    exact mv_iret (pc := 63) B hr rfl d_Loom_count_63 (Nat.le_refl _) (Nat.le_refl _) ⟨_, rfl, rfl, cnv_k (f := cnC 145 σ) 1 (by omega) (by decide)⟩
  refine ⟨fun h1 => ?_, fun h1n2 => ?_⟩
  · skip
    refine mv_aload_n (pc := 64) B d_Loom_count_64 rfl 0 rfl ?_
    refine mv_getR (pc := 65) (ci := 0) (C := R_Loom) (T := F_Loom) (N := 10) B 9 rfl rfl (by decide) i_Loom (B.2.2.2.1 _ k_495) rfl (hR.1 _ 9 _ rfl) d_Loom_count_65 ?_
    refine mv_getR (pc := 68) (ci := 9) (C := R_Machine) (T := F_Machine) (N := 13) B 0 rfl rfl (by decide) i_Machine (B.2.2.2.1 _ k_441) rfl hR.2.2 d_Loom_count_68 ?_
    refine mv_getI (pc := 71) (ci := 7) (C := R_Program) (T := F_Program) (N := 19) B 1 rfl rfl (by decide) i_Program (B.2.2.2.1 _ k_317) rfl d_Loom_count_71 ?_
    exact mv_iret (pc := 74) B hr rfl d_Loom_count_74 (Nat.le_refl _) (Nat.le_refl _) ⟨_, rfl, rfl, cnv_k (f := cnC 145 σ) 2 (by omega) (by decide)⟩
  refine ⟨fun h1 => ?_, fun h1n3 => ?_⟩
  · skip
    refine mv_aload_n (pc := 75) B d_Loom_count_75 rfl 0 rfl ?_
    refine mv_getR (pc := 76) (ci := 0) (C := R_Loom) (T := F_Loom) (N := 10) B 9 rfl rfl (by decide) i_Loom (B.2.2.2.1 _ k_495) rfl (hR.1 _ 9 _ rfl) d_Loom_count_76 ?_
    refine mv_getR (pc := 79) (ci := 9) (C := R_Machine) (T := F_Machine) (N := 13) B 0 rfl rfl (by decide) i_Machine (B.2.2.2.1 _ k_441) rfl hR.2.2 d_Loom_count_79 ?_
    refine mv_getI (pc := 82) (ci := 7) (C := R_Program) (T := F_Program) (N := 19) B 7 rfl rfl (by decide) i_Program (B.2.2.2.1 _ k_336) rfl d_Loom_count_82 ?_
    exact mv_iret (pc := 85) B hr rfl d_Loom_count_85 (Nat.le_refl _) (Nat.le_refl _) ⟨_, rfl, rfl, cnv_k (f := cnC 145 σ) 3 (by omega) (by decide)⟩
  refine ⟨fun h1 => ?_, fun h1n4 => ?_⟩
  · skip
    refine mv_aload_n (pc := 86) B d_Loom_count_86 rfl 0 rfl ?_
    refine mv_getR (pc := 87) (ci := 0) (C := R_Loom) (T := F_Loom) (N := 10) B 9 rfl rfl (by decide) i_Loom (B.2.2.2.1 _ k_495) rfl (hR.1 _ 9 _ rfl) d_Loom_count_87 ?_
    refine mv_getR (pc := 90) (ci := 9) (C := R_Machine) (T := F_Machine) (N := 13) B 0 rfl rfl (by decide) i_Machine (B.2.2.2.1 _ k_441) rfl hR.2.2 d_Loom_count_90 ?_
    refine mv_getI (pc := 93) (ci := 7) (C := R_Program) (T := F_Program) (N := 19) B 10 rfl rfl (by decide) i_Program (B.2.2.2.1 _ k_346) rfl d_Loom_count_93 ?_
    exact mv_iret (pc := 96) B hr rfl d_Loom_count_96 (Nat.le_refl _) (Nat.le_refl _) ⟨_, rfl, rfl, cnv_k (f := cnC 145 σ) 4 (by omega) (by decide)⟩
  refine ⟨fun h1 => ?_, fun h1n5 => ?_⟩
  · skip
    refine mv_aload_n (pc := 97) B d_Loom_count_97 rfl 0 rfl ?_
    refine mv_getR (pc := 98) (ci := 0) (C := R_Loom) (T := F_Loom) (N := 10) B 9 rfl rfl (by decide) i_Loom (B.2.2.2.1 _ k_495) rfl (hR.1 _ 9 _ rfl) d_Loom_count_98 ?_
    refine mv_getI (pc := 101) (ci := 9) (C := R_Machine) (T := F_Machine) (N := 13) B 10 rfl rfl (by decide) i_Machine (B.2.2.2.1 _ k_454) rfl d_Loom_count_101 ?_
    exact mv_iret (pc := 104) B hr rfl d_Loom_count_104 (Nat.le_refl _) (Nat.le_refl _) ⟨_, rfl, rfl, cnv_k (f := cnC 145 σ) 5 (by omega) (by decide)⟩
  refine ⟨fun h1 => ?_, fun h1n6 => ?_⟩
  · skip
    refine mv_aload_n (pc := 105) B d_Loom_count_105 rfl 0 rfl ?_
    refine mv_getR (pc := 106) (ci := 0) (C := R_Loom) (T := F_Loom) (N := 10) B 9 rfl rfl (by decide) i_Loom (B.2.2.2.1 _ k_495) rfl (hR.1 _ 9 _ rfl) d_Loom_count_106 ?_
    refine mv_getI (pc := 109) (ci := 9) (C := R_Machine) (T := F_Machine) (N := 13) B 11 rfl rfl (by decide) i_Machine (B.2.2.2.1 _ k_456) rfl d_Loom_count_109 ?_
    exact mv_iret (pc := 112) B hr rfl d_Loom_count_112 (Nat.le_refl _) (Nat.le_refl _) ⟨_, rfl, rfl, cnv_k (f := cnC 145 σ) 6 (by omega) (by decide)⟩
  refine ⟨fun h1 => ?_, fun h1n7 => ?_⟩
  · skip
    refine mv_aload_n (pc := 113) B d_Loom_count_113 rfl 0 rfl ?_
    refine mv_getR (pc := 114) (ci := 0) (C := R_Loom) (T := F_Loom) (N := 10) B 9 rfl rfl (by decide) i_Loom (B.2.2.2.1 _ k_495) rfl (hR.1 _ 9 _ rfl) d_Loom_count_114 ?_
    refine mv_getI (pc := 117) (ci := 9) (C := R_Machine) (T := F_Machine) (N := 13) B 12 rfl rfl (by decide) i_Machine (B.2.2.2.1 _ k_458) rfl d_Loom_count_117 ?_
    exact mv_iret (pc := 120) B hr rfl d_Loom_count_120 (Nat.le_refl _) (Nat.le_refl _) ⟨_, rfl, rfl, cnv_k (f := cnC 145 σ) 7 (by omega) (by decide)⟩
  show mv_V _ _ _ _ _ _ _ _ _ _ _ _ _ _ _ _ 121 _ _
  refine mv_iconst (pc := 121) (v := -1) B d_Loom_count_121 (by decide) ?_
  exact mv_iret (pc := 122) B hr rfl d_Loom_count_122 (Nat.le_refl _) (Nat.le_refl _) ⟨_, rfl, rfl, cnv_d (by omega)⟩
set_option maxHeartbeats 4000000 in
set_option maxRecDepth 100000 in
theorem c_kv_Book_lengthOf_x (l : Launch) {dA : FieldType → ClassId} {D : va_G} {al : Nat → Nat} {ext : mv_Sh} {sk sv : Nat → Nat} (hi : mv_inj (mg dA D al ext)) (σ : mv_H)  : mv_C l y_Book_lengthOf (Cond.code y_Book_lengthOf b_Book_lengthOf 1 (Option.some Jvm.ClassFile.FieldType.int) :: ma) ({ frames := 0, cells := 0, slots := 0, locals := 0 }) (mg dA D al ext) (mK sk sv) [.ref (al 74)] σ (mv_Ri (fun v σ1 => σ1 = σ ∧ v = mv_i σ 74 20)) := by
  refine mv_C.ofV (cc := b_Book_lengthOf) (nL := 1) (ret := (Option.some Jvm.ClassFile.FieldType.int)) (by decide +kernel) rfl hi (Nat.le_of_ble_eq_true rfl) ?_
  intro p e s m below meth c B hNs hr hnm hno
  refine mv_aload_n (pc := 0) B d_Book_lengthOf_0 rfl 0 rfl ?_
  refine mv_getI (pc := 1) (ci := 12) (C := R_Book) (T := F_Book) (N := 65) B 20 rfl rfl (by decide) i_Book (B.2.2.2.1 _ k_1865) rfl d_Book_lengthOf_1 ?_
  exact mv_iret (pc := 4) B hr rfl d_Book_lengthOf_4 (Nat.le_refl _) (Nat.le_refl _) ⟨_, rfl, rfl, rfl⟩
set_option maxHeartbeats 4000000 in
set_option maxRecDepth 100000 in
theorem c_kv_Book_cellsOfAll_x (l : Launch) {dA : FieldType → ClassId} {D : va_G} {al : Nat → Nat} {ext : mv_Sh} {sk sv : Nat → Nat} (hi : mv_inj (mg dA D al ext)) (σ : mv_H)  : mv_C l y_Book_cellsOfAll (Cond.code y_Book_cellsOfAll b_Book_cellsOfAll 1 (Option.some Jvm.ClassFile.FieldType.int) :: ma) ({ frames := 0, cells := 0, slots := 0, locals := 0 }) (mg dA D al ext) (mK sk sv) [.ref (al 74)] σ (mv_Ri (fun v σ1 => σ1 = σ ∧ v = mv_i σ 74 19)) := by
  refine mv_C.ofV (cc := b_Book_cellsOfAll) (nL := 1) (ret := (Option.some Jvm.ClassFile.FieldType.int)) (by decide +kernel) rfl hi (Nat.le_of_ble_eq_true rfl) ?_
  intro p e s m below meth c B hNs hr hnm hno
  refine mv_aload_n (pc := 0) B d_Book_cellsOfAll_0 rfl 0 rfl ?_
  refine mv_getI (pc := 1) (ci := 12) (C := R_Book) (T := F_Book) (N := 65) B 19 rfl rfl (by decide) i_Book (B.2.2.2.1 _ k_1864) rfl d_Book_cellsOfAll_1 ?_
  exact mv_iret (pc := 4) B hr rfl d_Book_cellsOfAll_4 (Nat.le_refl _) (Nat.le_refl _) ⟨_, rfl, rfl, rfl⟩
set_option maxHeartbeats 4000000 in
set_option maxRecDepth 100000 in
theorem c_kv_Book_lengthOf_y (l : Launch) {dA : FieldType → ClassId} {D : va_G} {al : Nat → Nat} {ext : mv_Sh} {sk sv : Nat → Nat} (hi : mv_inj (mg dA D al ext)) (σ : mv_H)  : mv_C l y_Book_lengthOf (Cond.code y_Book_lengthOf b_Book_lengthOf 1 (Option.some Jvm.ClassFile.FieldType.int) :: ma) ({ frames := 0, cells := 0, slots := 0, locals := 0 }) (mg dA D al ext) (mK sk sv) [.ref (al 108)] σ (mv_Ri (fun v σ1 => σ1 = σ ∧ v = mv_i σ 108 20)) := by
  refine mv_C.ofV (cc := b_Book_lengthOf) (nL := 1) (ret := (Option.some Jvm.ClassFile.FieldType.int)) (by decide +kernel) rfl hi (Nat.le_of_ble_eq_true rfl) ?_
  intro p e s m below meth c B hNs hr hnm hno
  refine mv_aload_n (pc := 0) B d_Book_lengthOf_0 rfl 0 rfl ?_
  refine mv_getI (pc := 1) (ci := 12) (C := R_Book) (T := F_Book) (N := 65) B 20 rfl rfl (by decide) i_Book (B.2.2.2.1 _ k_1865) rfl d_Book_lengthOf_1 ?_
  exact mv_iret (pc := 4) B hr rfl d_Book_lengthOf_4 (Nat.le_refl _) (Nat.le_refl _) ⟨_, rfl, rfl, rfl⟩
set_option maxHeartbeats 4000000 in
set_option maxRecDepth 100000 in
theorem c_kv_Book_cellsOfAll_y (l : Launch) {dA : FieldType → ClassId} {D : va_G} {al : Nat → Nat} {ext : mv_Sh} {sk sv : Nat → Nat} (hi : mv_inj (mg dA D al ext)) (σ : mv_H)  : mv_C l y_Book_cellsOfAll (Cond.code y_Book_cellsOfAll b_Book_cellsOfAll 1 (Option.some Jvm.ClassFile.FieldType.int) :: ma) ({ frames := 0, cells := 0, slots := 0, locals := 0 }) (mg dA D al ext) (mK sk sv) [.ref (al 108)] σ (mv_Ri (fun v σ1 => σ1 = σ ∧ v = mv_i σ 108 19)) := by
  refine mv_C.ofV (cc := b_Book_cellsOfAll) (nL := 1) (ret := (Option.some Jvm.ClassFile.FieldType.int)) (by decide +kernel) rfl hi (Nat.le_of_ble_eq_true rfl) ?_
  intro p e s m below meth c B hNs hr hnm hno
  refine mv_aload_n (pc := 0) B d_Book_cellsOfAll_0 rfl 0 rfl ?_
  refine mv_getI (pc := 1) (ci := 12) (C := R_Book) (T := F_Book) (N := 65) B 19 rfl rfl (by decide) i_Book (B.2.2.2.1 _ k_1864) rfl d_Book_cellsOfAll_1 ?_
  exact mv_iret (pc := 4) B hr rfl d_Book_cellsOfAll_4 (Nat.le_refl _) (Nat.le_refl _) ⟨_, rfl, rfl, rfl⟩
set_option maxHeartbeats 4000000 in
set_option maxRecDepth 100000 in
theorem c_kv_Model_count_x (l : Launch) {dA : FieldType → ClassId} {D : va_G} {al : Nat → Nat} {ext : mv_Sh} {sk sv : Nat → Nat} (hi : mv_inj (mg dA D al ext)) (σ : mv_H) (hM : MI 74 108 σ) (n9 : Int32) : mv_C l y_Model_count (Cond.code y_Model_count b_Model_count 2 (Option.some Jvm.ClassFile.FieldType.int) :: ma) ({ frames := 1, cells := 0, slots := 0, locals := 20 }) (mg dA D al ext) (mK sk sv) [.ref (al 70), .int n9] σ (mv_Ri (fun v σ1 => L2 σ σ1 ∧ v = cnv n9 (cnR 74 σ))) := by
  refine mv_C.ofV (cc := b_Model_count) (nL := 2) (ret := (Option.some Jvm.ClassFile.FieldType.int)) (by decide +kernel) rfl hi (Nat.le_of_ble_eq_true rfl) ?_
  intro p e s m below meth c B hNs hr hnm hno
  have hN : 74 = 74 ∨ 74 = 108 := by decide
  refine mv_aload_n (pc := 0) B d_Model_count_0 rfl 0 rfl ?_
  refine mv_iconst (pc := 1) (v := 0) B d_Model_count_1 (by decide) ?_
  refine mv_putI (pc := 2) (ci := 11) (C := R_Model) (T := F_Model) (N := 16) B 2 rfl rfl (by decide) i_Model t_Model_ok n_Model (B.2.2.2.1 _ k_2047) rfl rfl rfl rfl d_Model_count_2 ?_
  refine mv_gen (fun S5 eS5 => ?_)
  have hL2 : L2 σ S5 := by rw [eS5]; exact L2.si Fx.rf
  have hF : QF 74 σ S5 := hL2.qf
  have hM := hM.qf hF hN
  have e11 := hF.sh hN
  clear eS5
  refine mv_iload_n (pc := 5) B d_Model_count_5 rfl 1 rfl ?_
  refine mv_tsw (pc := 6) B d_Model_count_6 (by decide) (by decide) ?_
  refine ⟨fun h6 => ?_, fun h6n0 => ?_⟩
  · skip
    refine mv_aload_n (pc := 52) B d_Model_count_52 rfl 0 rfl ?_
    refine mv_getI (pc := 53) (ci := 11) (C := R_Model) (T := F_Model) (N := 16) B 1 rfl rfl (by decide) i_Model (B.2.2.2.1 _ k_2046) rfl d_Model_count_53 ?_
    exact mv_iret (pc := 56) B hr rfl d_Model_count_56 (Nat.le_refl _) (Nat.le_refl _) ⟨_, rfl, hL2, (hL2.1 70 1 (by omega)).trans (cnv_k (f := cnR 74 σ) 0 (by omega) (by decide))⟩
  refine ⟨fun h6 => ?_, fun h6n1 => ?_⟩
  · skip
    refine mv_aload_n (pc := 57) B d_Model_count_57 rfl 0 rfl ?_
    refine mv_getI (pc := 58) (ci := 11) (C := R_Model) (T := F_Model) (N := 16) B 11 rfl rfl (by decide) i_Model (B.2.2.2.1 _ k_2056) rfl d_Model_count_58 ?_
    refine mv_if_eq (pc := 61) (tgt := 69) B d_Model_count_61 rfl (fun h61 => ?_) (fun h61 => ?_)
    · skip
      refine mv_aload_n (pc := 69) B d_Model_count_69 rfl 0 rfl ?_
      refine mv_getR (pc := 70) (ci := 11) (C := R_Model) (T := F_Model) (N := 16) B 9 rfl rfl (by decide) i_Model (B.2.2.2.1 _ k_2054) rfl hM.2.1 d_Model_count_70 ?_
      refine mv_callVi (pc := 73) (n := 0) (ci := 12) (C := R_Book) B (mK_ok sk sv) hNs rfl rfl (c_kv_Book_lengthOf_x l hi _) rfl (ma_goodc kc_Book_lengthOf) (B.2.2.2.1 _ k_2602) (B.2.2.2.1 _ k_2603) (B.2.2.2.1 _ k_2604) (B.2.2.2.1 _ k_13) ⟨by decide +kernel, by decide +kernel, by decide +kernel⟩ rfl d_Model_count_73 rfl (Nat.le_of_ble_eq_true rfl) ⟨by decide, by decide⟩ ⟨by decide, by decide⟩ ⟨by decide, by decide⟩ (mv_noH hno _) (fun v73 σ73 h73 => ?_)
      obtain ⟨e73, z73⟩ := h73
      have e73 := e73.symm
      subst e73
      exact mv_iret (pc := 76) B hr rfl d_Model_count_76 (Nat.le_refl _) (Nat.le_refl _) ⟨_, rfl, hL2, by first | exact (cr_t e11 h61 (z73.trans (hL2.1 74 20 (by omega)))).trans (cnv_k (f := cnR 74 σ) 1 (by omega) (by decide)) | exact (cr_f e11 h61).trans (cnv_k (f := cnR 74 σ) 1 (by omega) (by decide))⟩
    · skip
      refine mv_bipush (pc := 64) (v := 32) B d_Model_count_64 (by decide) ?_
      refine mv_goto (pc := 66) (tgt := 76) B d_Model_count_66 rfl ?_
      exact mv_iret (pc := 76) B hr rfl d_Model_count_76 (Nat.le_refl _) (Nat.le_refl _) ⟨_, rfl, hL2, by first | exact (cr_t e11 h61 (z73.trans (hL2.1 74 20 (by omega)))).trans (cnv_k (f := cnR 74 σ) 1 (by omega) (by decide)) | exact (cr_f e11 h61).trans (cnv_k (f := cnR 74 σ) 1 (by omega) (by decide))⟩
  refine ⟨fun h6 => ?_, fun h6n2 => ?_⟩
  · skip
    refine mv_aload_n (pc := 77) B d_Model_count_77 rfl 0 rfl ?_
    refine mv_getI (pc := 78) (ci := 11) (C := R_Model) (T := F_Model) (N := 16) B 11 rfl rfl (by decide) i_Model (B.2.2.2.1 _ k_2056) rfl d_Model_count_78 ?_
    refine mv_if_eq (pc := 81) (tgt := 88) B d_Model_count_81 rfl (fun h81 => ?_) (fun h81 => ?_)
    · skip
      refine mv_aload_n (pc := 88) B d_Model_count_88 rfl 0 rfl ?_
      refine mv_getR (pc := 89) (ci := 11) (C := R_Model) (T := F_Model) (N := 16) B 9 rfl rfl (by decide) i_Model (B.2.2.2.1 _ k_2054) rfl hM.2.1 d_Model_count_89 ?_
      refine mv_getI (pc := 92) (ci := 12) (C := R_Book) (T := F_Book) (N := 65) B 17 rfl rfl (by decide) i_Book (B.2.2.2.1 _ k_1861) rfl d_Model_count_92 ?_
      exact mv_iret (pc := 95) B hr rfl d_Model_count_95 (Nat.le_refl _) (Nat.le_refl _) ⟨_, rfl, hL2, by first | exact (cr_t e11 h81 (hL2.1 74 17 (by omega))).trans (cnv_k (f := cnR 74 σ) 2 (by omega) (by decide)) | exact (cr_f e11 h81).trans (cnv_k (f := cnR 74 σ) 2 (by omega) (by decide))⟩
    · skip
      refine mv_iconst (pc := 84) (v := 3) B d_Model_count_84 (by decide) ?_
      refine mv_goto (pc := 85) (tgt := 95) B d_Model_count_85 rfl ?_
      exact mv_iret (pc := 95) B hr rfl d_Model_count_95 (Nat.le_refl _) (Nat.le_refl _) ⟨_, rfl, hL2, by first | exact (cr_t e11 h81 (hL2.1 74 17 (by omega))).trans (cnv_k (f := cnR 74 σ) 2 (by omega) (by decide)) | exact (cr_f e11 h81).trans (cnv_k (f := cnR 74 σ) 2 (by omega) (by decide))⟩
  refine ⟨fun h6 => ?_, fun h6n3 => ?_⟩
  · skip
    refine mv_aload_n (pc := 96) B d_Model_count_96 rfl 0 rfl ?_
    refine mv_getI (pc := 97) (ci := 11) (C := R_Model) (T := F_Model) (N := 16) B 11 rfl rfl (by decide) i_Model (B.2.2.2.1 _ k_2056) rfl d_Model_count_97 ?_
    refine mv_if_eq (pc := 100) (tgt := 108) B d_Model_count_100 rfl (fun h100 => ?_) (fun h100 => ?_)
    · skip
      refine mv_aload_n (pc := 108) B d_Model_count_108 rfl 0 rfl ?_
      refine mv_getR (pc := 109) (ci := 11) (C := R_Model) (T := F_Model) (N := 16) B 9 rfl rfl (by decide) i_Model (B.2.2.2.1 _ k_2054) rfl hM.2.1 d_Model_count_109 ?_
      refine mv_callVi (pc := 112) (n := 0) (ci := 12) (C := R_Book) B (mK_ok sk sv) hNs rfl rfl (c_kv_Book_cellsOfAll_x l hi _) rfl (ma_goodc kc_Book_cellsOfAll) (B.2.2.2.1 _ k_2607) (B.2.2.2.1 _ k_2608) (B.2.2.2.1 _ k_2609) (B.2.2.2.1 _ k_13) ⟨by decide +kernel, by decide +kernel, by decide +kernel⟩ rfl d_Model_count_112 rfl (Nat.le_of_ble_eq_true rfl) ⟨by decide, by decide⟩ ⟨by decide, by decide⟩ ⟨by decide, by decide⟩ (mv_noH hno _) (fun v112 σ112 h112 => ?_)
      obtain ⟨e112, z112⟩ := h112
      have e112 := e112.symm
      subst e112
      exact mv_iret (pc := 115) B hr rfl d_Model_count_115 (Nat.le_refl _) (Nat.le_refl _) ⟨_, rfl, hL2, by first | exact (cr_t e11 h100 (z112.trans (hL2.1 74 19 (by omega)))).trans (cnv_k (f := cnR 74 σ) 3 (by omega) (by decide)) | exact (cr_f e11 h100).trans (cnv_k (f := cnR 74 σ) 3 (by omega) (by decide))⟩
    · skip
      refine mv_ldc (pc := 103) (v := 32800) B (B.2.2.2.1 _ k_2606) d_Model_count_103 ?_
      refine mv_goto (pc := 105) (tgt := 115) B d_Model_count_105 rfl ?_
      exact mv_iret (pc := 115) B hr rfl d_Model_count_115 (Nat.le_refl _) (Nat.le_refl _) ⟨_, rfl, hL2, by first | exact (cr_t e11 h100 (z112.trans (hL2.1 74 19 (by omega)))).trans (cnv_k (f := cnR 74 σ) 3 (by omega) (by decide)) | exact (cr_f e11 h100).trans (cnv_k (f := cnR 74 σ) 3 (by omega) (by decide))⟩
  refine ⟨fun h6 => ?_, fun h6n4 => ?_⟩
  · skip
    refine mv_aload_n (pc := 116) B d_Model_count_116 rfl 0 rfl ?_
    refine mv_getI (pc := 117) (ci := 11) (C := R_Model) (T := F_Model) (N := 16) B 11 rfl rfl (by decide) i_Model (B.2.2.2.1 _ k_2056) rfl d_Model_count_117 ?_
    refine mv_if_eq (pc := 120) (tgt := 128) B d_Model_count_120 rfl (fun h120 => ?_) (fun h120 => ?_)
    · skip
      refine mv_aload_n (pc := 128) B d_Model_count_128 rfl 0 rfl ?_
      refine mv_getR (pc := 129) (ci := 11) (C := R_Model) (T := F_Model) (N := 16) B 9 rfl rfl (by decide) i_Model (B.2.2.2.1 _ k_2054) rfl hM.2.1 d_Model_count_129 ?_
      refine mv_getI (pc := 132) (ci := 12) (C := R_Book) (T := F_Book) (N := 65) B 29 rfl rfl (by decide) i_Book (B.2.2.2.1 _ k_1875) rfl d_Model_count_132 ?_
      exact mv_iret (pc := 135) B hr rfl d_Model_count_135 (Nat.le_refl _) (Nat.le_refl _) ⟨_, rfl, hL2, by first | exact (cr_t e11 h120 (hL2.1 74 29 (by omega))).trans (cnv_k (f := cnR 74 σ) 4 (by omega) (by decide)) | exact (cr_f e11 h120).trans (cnv_k (f := cnR 74 σ) 4 (by omega) (by decide))⟩
    · skip
      refine mv_bipush (pc := 123) (v := 48) B d_Model_count_123 (by decide) ?_
      refine mv_goto (pc := 125) (tgt := 135) B d_Model_count_125 rfl ?_
      exact mv_iret (pc := 135) B hr rfl d_Model_count_135 (Nat.le_refl _) (Nat.le_refl _) ⟨_, rfl, hL2, by first | exact (cr_t e11 h120 (hL2.1 74 29 (by omega))).trans (cnv_k (f := cnR 74 σ) 4 (by omega) (by decide)) | exact (cr_f e11 h120).trans (cnv_k (f := cnR 74 σ) 4 (by omega) (by decide))⟩
  refine ⟨fun h6 => ?_, fun h6n5 => ?_⟩
  · skip
    refine mv_aload_n (pc := 136) B d_Model_count_136 rfl 0 rfl ?_
    refine mv_getI (pc := 137) (ci := 11) (C := R_Model) (T := F_Model) (N := 16) B 12 rfl rfl (by decide) i_Model (B.2.2.2.1 _ k_2057) rfl d_Model_count_137 ?_
    exact mv_iret (pc := 140) B hr rfl d_Model_count_140 (Nat.le_refl _) (Nat.le_refl _) ⟨_, rfl, hL2, (hL2.1 70 12 (by omega)).trans (cnv_k (f := cnR 74 σ) 5 (by omega) (by decide))⟩
  refine ⟨fun h6 => ?_, fun h6n6 => ?_⟩
  · skip
    refine mv_aload_n (pc := 141) B d_Model_count_141 rfl 0 rfl ?_
    refine mv_getI (pc := 142) (ci := 11) (C := R_Model) (T := F_Model) (N := 16) B 13 rfl rfl (by decide) i_Model (B.2.2.2.1 _ k_2058) rfl d_Model_count_142 ?_
    exact mv_iret (pc := 145) B hr rfl d_Model_count_145 (Nat.le_refl _) (Nat.le_refl _) ⟨_, rfl, hL2, (hL2.1 70 13 (by omega)).trans (cnv_k (f := cnR 74 σ) 6 (by omega) (by decide))⟩
  refine ⟨fun h6 => ?_, fun h6n7 => ?_⟩
  · skip
    refine mv_aload_n (pc := 146) B d_Model_count_146 rfl 0 rfl ?_
    refine mv_getI (pc := 147) (ci := 11) (C := R_Model) (T := F_Model) (N := 16) B 15 rfl rfl (by decide) i_Model (B.2.2.2.1 _ k_2060) rfl d_Model_count_147 ?_
    exact mv_iret (pc := 150) B hr rfl d_Model_count_150 (Nat.le_refl _) (Nat.le_refl _) ⟨_, rfl, hL2, (hL2.1 70 15 (by omega)).trans (cnv_k (f := cnR 74 σ) 7 (by omega) (by decide))⟩
  show mv_V _ _ _ _ _ _ _ _ _ _ _ _ _ _ _ _ 151 _ _
  refine mv_iconst (pc := 151) (v := -1) B d_Model_count_151 (by decide) ?_
  exact mv_iret (pc := 152) B hr rfl d_Model_count_152 (Nat.le_refl _) (Nat.le_refl _) ⟨_, rfl, hL2, cnv_d (by omega)⟩
set_option maxHeartbeats 4000000 in
set_option maxRecDepth 100000 in
theorem c_kv_Model_count_y (l : Launch) {dA : FieldType → ClassId} {D : va_G} {al : Nat → Nat} {ext : mv_Sh} {sk sv : Nat → Nat} (hi : mv_inj (mg dA D al ext)) (σ : mv_H) (hM : MI 108 74 σ) (n9 : Int32) : mv_C l y_Model_count (Cond.code y_Model_count b_Model_count 2 (Option.some Jvm.ClassFile.FieldType.int) :: ma) ({ frames := 1, cells := 0, slots := 0, locals := 20 }) (mg dA D al ext) (mK sk sv) [.ref (al 70), .int n9] σ (mv_Ri (fun v σ1 => L2 σ σ1 ∧ v = cnv n9 (cnR 108 σ))) := by
  refine mv_C.ofV (cc := b_Model_count) (nL := 2) (ret := (Option.some Jvm.ClassFile.FieldType.int)) (by decide +kernel) rfl hi (Nat.le_of_ble_eq_true rfl) ?_
  intro p e s m below meth c B hNs hr hnm hno
  have hN : 108 = 74 ∨ 108 = 108 := by decide
  refine mv_aload_n (pc := 0) B d_Model_count_0 rfl 0 rfl ?_
  refine mv_iconst (pc := 1) (v := 0) B d_Model_count_1 (by decide) ?_
  refine mv_putI (pc := 2) (ci := 11) (C := R_Model) (T := F_Model) (N := 16) B 2 rfl rfl (by decide) i_Model t_Model_ok n_Model (B.2.2.2.1 _ k_2047) rfl rfl rfl rfl d_Model_count_2 ?_
  refine mv_gen (fun S5 eS5 => ?_)
  have hL2 : L2 σ S5 := by rw [eS5]; exact L2.si Fx.rf
  have hF : QF 108 σ S5 := hL2.qf
  have hM := hM.qf hF hN
  have e11 := hF.sh hN
  clear eS5
  refine mv_iload_n (pc := 5) B d_Model_count_5 rfl 1 rfl ?_
  refine mv_tsw (pc := 6) B d_Model_count_6 (by decide) (by decide) ?_
  refine ⟨fun h6 => ?_, fun h6n0 => ?_⟩
  · skip
    refine mv_aload_n (pc := 52) B d_Model_count_52 rfl 0 rfl ?_
    refine mv_getI (pc := 53) (ci := 11) (C := R_Model) (T := F_Model) (N := 16) B 1 rfl rfl (by decide) i_Model (B.2.2.2.1 _ k_2046) rfl d_Model_count_53 ?_
    exact mv_iret (pc := 56) B hr rfl d_Model_count_56 (Nat.le_refl _) (Nat.le_refl _) ⟨_, rfl, hL2, (hL2.1 70 1 (by omega)).trans (cnv_k (f := cnR 108 σ) 0 (by omega) (by decide))⟩
  refine ⟨fun h6 => ?_, fun h6n1 => ?_⟩
  · skip
    refine mv_aload_n (pc := 57) B d_Model_count_57 rfl 0 rfl ?_
    refine mv_getI (pc := 58) (ci := 11) (C := R_Model) (T := F_Model) (N := 16) B 11 rfl rfl (by decide) i_Model (B.2.2.2.1 _ k_2056) rfl d_Model_count_58 ?_
    refine mv_if_eq (pc := 61) (tgt := 69) B d_Model_count_61 rfl (fun h61 => ?_) (fun h61 => ?_)
    · skip
      refine mv_aload_n (pc := 69) B d_Model_count_69 rfl 0 rfl ?_
      refine mv_getR (pc := 70) (ci := 11) (C := R_Model) (T := F_Model) (N := 16) B 9 rfl rfl (by decide) i_Model (B.2.2.2.1 _ k_2054) rfl hM.2.1 d_Model_count_70 ?_
      refine mv_callVi (pc := 73) (n := 0) (ci := 12) (C := R_Book) B (mK_ok sk sv) hNs rfl rfl (c_kv_Book_lengthOf_y l hi _) rfl (ma_goodc kc_Book_lengthOf) (B.2.2.2.1 _ k_2602) (B.2.2.2.1 _ k_2603) (B.2.2.2.1 _ k_2604) (B.2.2.2.1 _ k_13) ⟨by decide +kernel, by decide +kernel, by decide +kernel⟩ rfl d_Model_count_73 rfl (Nat.le_of_ble_eq_true rfl) ⟨by decide, by decide⟩ ⟨by decide, by decide⟩ ⟨by decide, by decide⟩ (mv_noH hno _) (fun v73 σ73 h73 => ?_)
      obtain ⟨e73, z73⟩ := h73
      have e73 := e73.symm
      subst e73
      exact mv_iret (pc := 76) B hr rfl d_Model_count_76 (Nat.le_refl _) (Nat.le_refl _) ⟨_, rfl, hL2, by first | exact (cr_t e11 h61 (z73.trans (hL2.1 108 20 (by omega)))).trans (cnv_k (f := cnR 108 σ) 1 (by omega) (by decide)) | exact (cr_f e11 h61).trans (cnv_k (f := cnR 108 σ) 1 (by omega) (by decide))⟩
    · skip
      refine mv_bipush (pc := 64) (v := 32) B d_Model_count_64 (by decide) ?_
      refine mv_goto (pc := 66) (tgt := 76) B d_Model_count_66 rfl ?_
      exact mv_iret (pc := 76) B hr rfl d_Model_count_76 (Nat.le_refl _) (Nat.le_refl _) ⟨_, rfl, hL2, by first | exact (cr_t e11 h61 (z73.trans (hL2.1 108 20 (by omega)))).trans (cnv_k (f := cnR 108 σ) 1 (by omega) (by decide)) | exact (cr_f e11 h61).trans (cnv_k (f := cnR 108 σ) 1 (by omega) (by decide))⟩
  refine ⟨fun h6 => ?_, fun h6n2 => ?_⟩
  · skip
    refine mv_aload_n (pc := 77) B d_Model_count_77 rfl 0 rfl ?_
    refine mv_getI (pc := 78) (ci := 11) (C := R_Model) (T := F_Model) (N := 16) B 11 rfl rfl (by decide) i_Model (B.2.2.2.1 _ k_2056) rfl d_Model_count_78 ?_
    refine mv_if_eq (pc := 81) (tgt := 88) B d_Model_count_81 rfl (fun h81 => ?_) (fun h81 => ?_)
    · skip
      refine mv_aload_n (pc := 88) B d_Model_count_88 rfl 0 rfl ?_
      refine mv_getR (pc := 89) (ci := 11) (C := R_Model) (T := F_Model) (N := 16) B 9 rfl rfl (by decide) i_Model (B.2.2.2.1 _ k_2054) rfl hM.2.1 d_Model_count_89 ?_
      refine mv_getI (pc := 92) (ci := 12) (C := R_Book) (T := F_Book) (N := 65) B 17 rfl rfl (by decide) i_Book (B.2.2.2.1 _ k_1861) rfl d_Model_count_92 ?_
      exact mv_iret (pc := 95) B hr rfl d_Model_count_95 (Nat.le_refl _) (Nat.le_refl _) ⟨_, rfl, hL2, by first | exact (cr_t e11 h81 (hL2.1 108 17 (by omega))).trans (cnv_k (f := cnR 108 σ) 2 (by omega) (by decide)) | exact (cr_f e11 h81).trans (cnv_k (f := cnR 108 σ) 2 (by omega) (by decide))⟩
    · skip
      refine mv_iconst (pc := 84) (v := 3) B d_Model_count_84 (by decide) ?_
      refine mv_goto (pc := 85) (tgt := 95) B d_Model_count_85 rfl ?_
      exact mv_iret (pc := 95) B hr rfl d_Model_count_95 (Nat.le_refl _) (Nat.le_refl _) ⟨_, rfl, hL2, by first | exact (cr_t e11 h81 (hL2.1 108 17 (by omega))).trans (cnv_k (f := cnR 108 σ) 2 (by omega) (by decide)) | exact (cr_f e11 h81).trans (cnv_k (f := cnR 108 σ) 2 (by omega) (by decide))⟩
  refine ⟨fun h6 => ?_, fun h6n3 => ?_⟩
  · skip
    refine mv_aload_n (pc := 96) B d_Model_count_96 rfl 0 rfl ?_
    refine mv_getI (pc := 97) (ci := 11) (C := R_Model) (T := F_Model) (N := 16) B 11 rfl rfl (by decide) i_Model (B.2.2.2.1 _ k_2056) rfl d_Model_count_97 ?_
    refine mv_if_eq (pc := 100) (tgt := 108) B d_Model_count_100 rfl (fun h100 => ?_) (fun h100 => ?_)
    · skip
      refine mv_aload_n (pc := 108) B d_Model_count_108 rfl 0 rfl ?_
      refine mv_getR (pc := 109) (ci := 11) (C := R_Model) (T := F_Model) (N := 16) B 9 rfl rfl (by decide) i_Model (B.2.2.2.1 _ k_2054) rfl hM.2.1 d_Model_count_109 ?_
      refine mv_callVi (pc := 112) (n := 0) (ci := 12) (C := R_Book) B (mK_ok sk sv) hNs rfl rfl (c_kv_Book_cellsOfAll_y l hi _) rfl (ma_goodc kc_Book_cellsOfAll) (B.2.2.2.1 _ k_2607) (B.2.2.2.1 _ k_2608) (B.2.2.2.1 _ k_2609) (B.2.2.2.1 _ k_13) ⟨by decide +kernel, by decide +kernel, by decide +kernel⟩ rfl d_Model_count_112 rfl (Nat.le_of_ble_eq_true rfl) ⟨by decide, by decide⟩ ⟨by decide, by decide⟩ ⟨by decide, by decide⟩ (mv_noH hno _) (fun v112 σ112 h112 => ?_)
      obtain ⟨e112, z112⟩ := h112
      have e112 := e112.symm
      subst e112
      exact mv_iret (pc := 115) B hr rfl d_Model_count_115 (Nat.le_refl _) (Nat.le_refl _) ⟨_, rfl, hL2, by first | exact (cr_t e11 h100 (z112.trans (hL2.1 108 19 (by omega)))).trans (cnv_k (f := cnR 108 σ) 3 (by omega) (by decide)) | exact (cr_f e11 h100).trans (cnv_k (f := cnR 108 σ) 3 (by omega) (by decide))⟩
    · skip
      refine mv_ldc (pc := 103) (v := 32800) B (B.2.2.2.1 _ k_2606) d_Model_count_103 ?_
      refine mv_goto (pc := 105) (tgt := 115) B d_Model_count_105 rfl ?_
      exact mv_iret (pc := 115) B hr rfl d_Model_count_115 (Nat.le_refl _) (Nat.le_refl _) ⟨_, rfl, hL2, by first | exact (cr_t e11 h100 (z112.trans (hL2.1 108 19 (by omega)))).trans (cnv_k (f := cnR 108 σ) 3 (by omega) (by decide)) | exact (cr_f e11 h100).trans (cnv_k (f := cnR 108 σ) 3 (by omega) (by decide))⟩
  refine ⟨fun h6 => ?_, fun h6n4 => ?_⟩
  · skip
    refine mv_aload_n (pc := 116) B d_Model_count_116 rfl 0 rfl ?_
    refine mv_getI (pc := 117) (ci := 11) (C := R_Model) (T := F_Model) (N := 16) B 11 rfl rfl (by decide) i_Model (B.2.2.2.1 _ k_2056) rfl d_Model_count_117 ?_
    refine mv_if_eq (pc := 120) (tgt := 128) B d_Model_count_120 rfl (fun h120 => ?_) (fun h120 => ?_)
    · skip
      refine mv_aload_n (pc := 128) B d_Model_count_128 rfl 0 rfl ?_
      refine mv_getR (pc := 129) (ci := 11) (C := R_Model) (T := F_Model) (N := 16) B 9 rfl rfl (by decide) i_Model (B.2.2.2.1 _ k_2054) rfl hM.2.1 d_Model_count_129 ?_
      refine mv_getI (pc := 132) (ci := 12) (C := R_Book) (T := F_Book) (N := 65) B 29 rfl rfl (by decide) i_Book (B.2.2.2.1 _ k_1875) rfl d_Model_count_132 ?_
      exact mv_iret (pc := 135) B hr rfl d_Model_count_135 (Nat.le_refl _) (Nat.le_refl _) ⟨_, rfl, hL2, by first | exact (cr_t e11 h120 (hL2.1 108 29 (by omega))).trans (cnv_k (f := cnR 108 σ) 4 (by omega) (by decide)) | exact (cr_f e11 h120).trans (cnv_k (f := cnR 108 σ) 4 (by omega) (by decide))⟩
    · skip
      refine mv_bipush (pc := 123) (v := 48) B d_Model_count_123 (by decide) ?_
      refine mv_goto (pc := 125) (tgt := 135) B d_Model_count_125 rfl ?_
      exact mv_iret (pc := 135) B hr rfl d_Model_count_135 (Nat.le_refl _) (Nat.le_refl _) ⟨_, rfl, hL2, by first | exact (cr_t e11 h120 (hL2.1 108 29 (by omega))).trans (cnv_k (f := cnR 108 σ) 4 (by omega) (by decide)) | exact (cr_f e11 h120).trans (cnv_k (f := cnR 108 σ) 4 (by omega) (by decide))⟩
  refine ⟨fun h6 => ?_, fun h6n5 => ?_⟩
  · skip
    refine mv_aload_n (pc := 136) B d_Model_count_136 rfl 0 rfl ?_
    refine mv_getI (pc := 137) (ci := 11) (C := R_Model) (T := F_Model) (N := 16) B 12 rfl rfl (by decide) i_Model (B.2.2.2.1 _ k_2057) rfl d_Model_count_137 ?_
    exact mv_iret (pc := 140) B hr rfl d_Model_count_140 (Nat.le_refl _) (Nat.le_refl _) ⟨_, rfl, hL2, (hL2.1 70 12 (by omega)).trans (cnv_k (f := cnR 108 σ) 5 (by omega) (by decide))⟩
  refine ⟨fun h6 => ?_, fun h6n6 => ?_⟩
  · skip
    refine mv_aload_n (pc := 141) B d_Model_count_141 rfl 0 rfl ?_
    refine mv_getI (pc := 142) (ci := 11) (C := R_Model) (T := F_Model) (N := 16) B 13 rfl rfl (by decide) i_Model (B.2.2.2.1 _ k_2058) rfl d_Model_count_142 ?_
    exact mv_iret (pc := 145) B hr rfl d_Model_count_145 (Nat.le_refl _) (Nat.le_refl _) ⟨_, rfl, hL2, (hL2.1 70 13 (by omega)).trans (cnv_k (f := cnR 108 σ) 6 (by omega) (by decide))⟩
  refine ⟨fun h6 => ?_, fun h6n7 => ?_⟩
  · skip
    refine mv_aload_n (pc := 146) B d_Model_count_146 rfl 0 rfl ?_
    refine mv_getI (pc := 147) (ci := 11) (C := R_Model) (T := F_Model) (N := 16) B 15 rfl rfl (by decide) i_Model (B.2.2.2.1 _ k_2060) rfl d_Model_count_147 ?_
    exact mv_iret (pc := 150) B hr rfl d_Model_count_150 (Nat.le_refl _) (Nat.le_refl _) ⟨_, rfl, hL2, (hL2.1 70 15 (by omega)).trans (cnv_k (f := cnR 108 σ) 7 (by omega) (by decide))⟩
  show mv_V _ _ _ _ _ _ _ _ _ _ _ _ _ _ _ _ 151 _ _
  refine mv_iconst (pc := 151) (v := -1) B d_Model_count_151 (by decide) ?_
  exact mv_iret (pc := 152) B hr rfl d_Model_count_152 (Nat.le_refl _) (Nat.le_refl _) ⟨_, rfl, hL2, cnv_d (by omega)⟩
