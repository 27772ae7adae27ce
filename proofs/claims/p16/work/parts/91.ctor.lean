/-! the constructors -/
def y_Symbols_init : MethodName := ⟨"MachineLoom$Symbols", "<init>", "()V"⟩
abbrev b_Symbols_init : ByteArray := prog_9_method_1_code
theorem kc_Symbols_init : Cond.code y_Symbols_init b_Symbols_init 1 (Option.none : Option Jvm.ClassFile.FieldType) ∈ ma := ma_of (tb_1 _ (List.mem_of_getElem? (i := 63) rfl)) rfl
theorem k_64 : (Jvm.Cond.methodLink "MachineLoom$Symbols" (3 : Nat) ({ cls := "java/lang/Object", name := "<init>", desc := "()V" } : Jvm.MethodName)) ∈ ma := ma_of (tb_1 _ (List.mem_of_getElem? (i := 64) rfl)) rfl
theorem k_65 : (Jvm.Cond.constant "MachineLoom$Symbols" (9 : Nat) (32896 : Int32)) ∈ ma := ma_of (tb_1 _ (List.mem_of_getElem? (i := 65) rfl)) rfl
theorem k_86 : (Jvm.Cond.arrayClass Jvm.ClassFile.FieldType.byte) ∈ ma := ma_of (tb_1 _ (List.mem_of_getElem? (i := 86) rfl)) rfl
theorem k_87 : (Jvm.Cond.arrayClass Jvm.ClassFile.FieldType.int) ∈ ma := ma_of (tb_1 _ (List.mem_of_getElem? (i := 87) rfl)) rfl
theorem d_Symbols_init_0 : decode b_Symbols_init 0 = .ok (.aload_n 0, 1) := by decide +kernel
theorem d_Symbols_init_1 : decode b_Symbols_init 1 = .ok (.invokespecial 3, 3) := by decide +kernel
theorem d_Symbols_init_4 : decode b_Symbols_init 4 = .ok (.aload_n 0, 1) := by decide +kernel
theorem d_Symbols_init_5 : decode b_Symbols_init 5 = .ok (.ldc 9, 2) := by decide +kernel
theorem d_Symbols_init_7 : decode b_Symbols_init 7 = .ok (.newarray .byte, 2) := by decide +kernel
theorem d_Symbols_init_9 : decode b_Symbols_init 9 = .ok (.putfield 10, 3) := by decide +kernel
theorem d_Symbols_init_12 : decode b_Symbols_init 12 = .ok (.aload_n 0, 1) := by decide +kernel
theorem d_Symbols_init_13 : decode b_Symbols_init 13 = .ok (.sipush 16449, 3) := by decide +kernel
theorem d_Symbols_init_16 : decode b_Symbols_init 16 = .ok (.newarray .int, 2) := by decide +kernel
theorem d_Symbols_init_18 : decode b_Symbols_init 18 = .ok (.putfield 16, 3) := by decide +kernel
theorem d_Symbols_init_21 : decode b_Symbols_init 21 = .ok (.aload_n 0, 1) := by decide +kernel
theorem d_Symbols_init_22 : decode b_Symbols_init 22 = .ok (.sipush 1024, 3) := by decide +kernel
theorem d_Symbols_init_25 : decode b_Symbols_init 25 = .ok (.newarray .int, 2) := by decide +kernel
theorem d_Symbols_init_27 : decode b_Symbols_init 27 = .ok (.putfield 20, 3) := by decide +kernel
theorem d_Symbols_init_30 : decode b_Symbols_init 30 = .ok (.aload_n 0, 1) := by decide +kernel
theorem d_Symbols_init_31 : decode b_Symbols_init 31 = .ok (.sipush 16448, 3) := by decide +kernel
theorem d_Symbols_init_34 : decode b_Symbols_init 34 = .ok (.newarray .int, 2) := by decide +kernel
theorem d_Symbols_init_36 : decode b_Symbols_init 36 = .ok (.putfield 23, 3) := by decide +kernel
theorem d_Symbols_init_39 : decode b_Symbols_init 39 = .ok (.aload_n 0, 1) := by decide +kernel
theorem d_Symbols_init_40 : decode b_Symbols_init 40 = .ok (.sipush 128, 3) := by decide +kernel
theorem d_Symbols_init_43 : decode b_Symbols_init 43 = .ok (.newarray .byte, 2) := by decide +kernel
theorem d_Symbols_init_45 : decode b_Symbols_init 45 = .ok (.putfield 26, 3) := by decide +kernel
theorem d_Symbols_init_48 : decode b_Symbols_init 48 = .ok (.return_, 1) := by decide +kernel
def sg_Symbols (σ : mv_H) : mv_H := (mv_sr (mv_nw (mv_sr (mv_nw (mv_sr (mv_nw (mv_sr (mv_nw (mv_sr (mv_nw σ 8) 7 0 (some 8)) 9) 7 1 (some 9)) 10) 7 2 (some 10)) 11) 7 3 (some 11)) 12) 7 4 (some 12))
theorem ok_Symbols {σ : mv_H} (hok : mv_ok σ 8) : mv_ok (sg_Symbols σ) 13 := by
  have hok := hok.nw
  have hok := hok.sr (o := 7) (k := 0) (r := 8) (by decide)
  have hok := hok.nw
  have hok := hok.sr (o := 7) (k := 1) (r := 9) (by decide)
  have hok := hok.nw
  have hok := hok.sr (o := 7) (k := 2) (r := 10) (by decide)
  have hok := hok.nw
  have hok := hok.sr (o := 7) (k := 3) (r := 11) (by decide)
  have hok := hok.nw
  have hok := hok.sr (o := 7) (k := 4) (r := 12) (by decide)
  exact hok
theorem kb_Symbols {σ : mv_H} (h0 : mv_ok σ 8) (hgh : gh σ) : Kpb 7 σ (sg_Symbols σ) := by
  have hok := h0
  have hk : Kpb 7 σ σ := Kpb.rf
  have hk := hk.nw (m := 8) (by decide)
  have hok := hok.nw
  have hk := hk.sr (a := 7) (k := 0) (v := some 8) (by decide)
  have hok := hok.sr (o := 7) (k := 0) (r := 8) (by decide)
  have hk := hk.nw (m := 9) (by decide)
  have hok := hok.nw
  have hk := hk.sr (a := 7) (k := 1) (v := some 9) (by decide)
  have hok := hok.sr (o := 7) (k := 1) (r := 9) (by decide)
  have hk := hk.nw (m := 10) (by decide)
  have hok := hok.nw
  have hk := hk.sr (a := 7) (k := 2) (v := some 10) (by decide)
  have hok := hok.sr (o := 7) (k := 2) (r := 10) (by decide)
  have hk := hk.nw (m := 11) (by decide)
  have hok := hok.nw
  have hk := hk.sr (a := 7) (k := 3) (v := some 11) (by decide)
  have hok := hok.sr (o := 7) (k := 3) (r := 11) (by decide)
  have hk := hk.nw (m := 12) (by decide)
  have hok := hok.nw
  have hk := hk.sr (a := 7) (k := 4) (v := some 12) (by decide)
  have hok := hok.sr (o := 7) (k := 4) (r := 12) (by decide)
  exact hk
set_option maxHeartbeats 4000000 in
set_option maxRecDepth 100000 in
theorem nc_Symbols (l : Launch) {dA : FieldType → ClassId} {D : va_G} {al : Nat → Nat} {sk sv : Nat → Nat} (hi : mv_inj (mq dA D al 8)) (hlt : l.stackTraces = false) (σ : mv_H) (hok : mv_ok σ 8) : mv_CN l y_Symbols_init (Cond.code y_Symbols_init b_Symbols_init 1 (Option.none : Option Jvm.ClassFile.FieldType) :: ma) ({ frames := 1, cells := 5, slots := 66945, locals := 20 }) dA D al 8 13 (mKt sk sv) [.ref (al 7)] σ (fun v9 σ9 => v9 = none ∧ σ9 = sg_Symbols σ) := by
  refine mv_CN.ofV (cc := b_Symbols_init) (nL := 1) (ret := (Option.none : Option Jvm.ClassFile.FieldType)) (by decide +kernel) rfl hi (Nat.le_of_ble_eq_true rfl) ?_
  intro p e s m args below meth c B hNs hr hnm hno
  have hg : mq_gr al al 8 8 s.heap.size := mq_gr.rf
  refine mv_aload_n (pc := 0) B d_Symbols_init_0 rfl 0 rfl ?_
  refine mv_obj (pc := 1) B (B.2.2.2.1 _ k_64) (B.2.2.2.1 _ k_43) (B.2.2.2.1 _ k_44) d_Symbols_init_1 (Nat.le_of_ble_eq_true rfl) ⟨by decide, by decide⟩ ?_
  refine mv_aload_n (pc := 4) B d_Symbols_init_4 rfl 0 rfl ?_
  refine mv_ldc (pc := 5) (v := 32896) B (B.2.2.2.1 _ k_65) d_Symbols_init_5 ?_
  refine mq_newa (pc := 7) (ty := .byte) (N := 32896) (n2 := 9) B rfl (by decide) rfl hok (B.2.2.2.1 _ k_86) rfl (Or.inr (Or.inr (Or.inl rfl))) (by decide) (by decide) (by decide) (Nat.le_of_ble_eq_true rfl) (Nat.le_of_ble_eq_true rfl) d_Symbols_init_7 (fun al1 g1 B => ?_)
  have hok := hok.nw
  have hNs := mq_K (mKt_ok sk sv) g1 (by decide) (mw_le (by decide)) hNs
  have hg := hg.tr g1 (by decide)
  rw [← g1.1 7 (by decide)]
  refine mv_putRF (pc := 9) (ci := 3) (C := R_Symbols) (T := F_Symbols) (N := 6) (o := 7) (r := 8) B 0 rfl rfl (by decide) i_Symbols t_Symbols_ok n_Symbols (B.2.2.2.1 _ k_66) rfl hnm rfl rfl d_Symbols_init_9 ?_
  have hok := hok.sr (o := 7) (k := 0) (r := 8) (by decide)
  refine mv_aload_n (pc := 12) B d_Symbols_init_12 rfl 0 rfl ?_
  refine mv_sipush (pc := 13) (v := 16449) B d_Symbols_init_13 (by decide) ?_
  refine mq_newa (pc := 16) (ty := .int) (N := 16449) (n2 := 10) B rfl (by decide) rfl hok (B.2.2.2.1 _ k_87) rfl (Or.inl rfl) (by decide) (by decide) (by decide) (Nat.le_of_ble_eq_true rfl) (Nat.le_of_ble_eq_true rfl) d_Symbols_init_16 (fun al2 g2 B => ?_)
  have hok := hok.nw
  have hNs := mq_K (mKt_ok sk sv) g2 (by decide) (mw_le (by decide)) hNs
  have hg := hg.tr g2 (by decide)
  rw [← g2.1 7 (by decide)]
  refine mv_putRF (pc := 18) (ci := 3) (C := R_Symbols) (T := F_Symbols) (N := 6) (o := 7) (r := 9) B 1 rfl rfl (by decide) i_Symbols t_Symbols_ok n_Symbols (B.2.2.2.1 _ k_67) rfl hnm rfl rfl d_Symbols_init_18 ?_
  have hok := hok.sr (o := 7) (k := 1) (r := 9) (by decide)
  refine mv_aload_n (pc := 21) B d_Symbols_init_21 rfl 0 rfl ?_
  refine mv_sipush (pc := 22) (v := 1024) B d_Symbols_init_22 (by decide) ?_
  refine mq_newa (pc := 25) (ty := .int) (N := 1024) (n2 := 11) B rfl (by decide) rfl hok (B.2.2.2.1 _ k_87) rfl (Or.inl rfl) (by decide) (by decide) (by decide) (Nat.le_of_ble_eq_true rfl) (Nat.le_of_ble_eq_true rfl) d_Symbols_init_25 (fun al3 g3 B => ?_)
  have hok := hok.nw
  have hNs := mq_K (mKt_ok sk sv) g3 (by decide) (mw_le (by decide)) hNs
  have hg := hg.tr g3 (by decide)
  rw [← g3.1 7 (by decide)]
  refine mv_putRF (pc := 27) (ci := 3) (C := R_Symbols) (T := F_Symbols) (N := 6) (o := 7) (r := 10) B 2 rfl rfl (by decide) i_Symbols t_Symbols_ok n_Symbols (B.2.2.2.1 _ k_68) rfl hnm rfl rfl d_Symbols_init_27 ?_
  have hok := hok.sr (o := 7) (k := 2) (r := 10) (by decide)
  refine mv_aload_n (pc := 30) B d_Symbols_init_30 rfl 0 rfl ?_
  refine mv_sipush (pc := 31) (v := 16448) B d_Symbols_init_31 (by decide) ?_
  refine mq_newa (pc := 34) (ty := .int) (N := 16448) (n2 := 12) B rfl (by decide) rfl hok (B.2.2.2.1 _ k_87) rfl (Or.inl rfl) (by decide) (by decide) (by decide) (Nat.le_of_ble_eq_true rfl) (Nat.le_of_ble_eq_true rfl) d_Symbols_init_34 (fun al4 g4 B => ?_)
  have hok := hok.nw
  have hNs := mq_K (mKt_ok sk sv) g4 (by decide) (mw_le (by decide)) hNs
  have hg := hg.tr g4 (by decide)
  rw [← g4.1 7 (by decide)]
  refine mv_putRF (pc := 36) (ci := 3) (C := R_Symbols) (T := F_Symbols) (N := 6) (o := 7) (r := 11) B 3 rfl rfl (by decide) i_Symbols t_Symbols_ok n_Symbols (B.2.2.2.1 _ k_69) rfl hnm rfl rfl d_Symbols_init_36 ?_
  have hok := hok.sr (o := 7) (k := 3) (r := 11) (by decide)
  refine mv_aload_n (pc := 39) B d_Symbols_init_39 rfl 0 rfl ?_
  refine mv_sipush (pc := 40) (v := 128) B d_Symbols_init_40 (by decide) ?_
  refine mq_newa (pc := 43) (ty := .byte) (N := 128) (n2 := 13) B rfl (by decide) rfl hok (B.2.2.2.1 _ k_86) rfl (Or.inr (Or.inr (Or.inl rfl))) (by decide) (by decide) (by decide) (Nat.le_of_ble_eq_true rfl) (Nat.le_of_ble_eq_true rfl) d_Symbols_init_43 (fun al5 g5 B => ?_)
  have hok := hok.nw
  have hNs := mq_K (mKt_ok sk sv) g5 (by decide) (mw_le (by decide)) hNs
  have hg := hg.tr g5 (by decide)
  rw [← g5.1 7 (by decide)]
  refine mv_putRF (pc := 45) (ci := 3) (C := R_Symbols) (T := F_Symbols) (N := 6) (o := 7) (r := 12) B 4 rfl rfl (by decide) i_Symbols t_Symbols_ok n_Symbols (B.2.2.2.1 _ k_70) rfl hnm rfl rfl d_Symbols_init_45 ?_
  have hok := hok.sr (o := 7) (k := 4) (r := 12) (by decide)
  exact mq_vret (pc := 48) B hr d_Symbols_init_48 (Nat.le_of_ble_eq_true rfl) (Nat.le_of_ble_eq_true rfl) hg ⟨rfl, rfl⟩
def y_Tokens_init : MethodName := ⟨"MachineLoom$Tokens", "<init>", "()V"⟩
abbrev b_Tokens_init : ByteArray := prog_10_method_1_code
theorem kc_Tokens_init : Cond.code y_Tokens_init b_Tokens_init 1 (Option.none : Option Jvm.ClassFile.FieldType) ∈ ma := ma_of (tb_1 _ (List.mem_of_getElem? (i := 56) rfl)) rfl
theorem k_57 : (Jvm.Cond.methodLink "MachineLoom$Tokens" (3 : Nat) ({ cls := "java/lang/Object", name := "<init>", desc := "()V" } : Jvm.MethodName)) ∈ ma := ma_of (tb_1 _ (List.mem_of_getElem? (i := 57) rfl)) rfl
theorem k_58 : (Jvm.Cond.constant "MachineLoom$Tokens" (9 : Nat) (32770 : Int32)) ∈ ma := ma_of (tb_1 _ (List.mem_of_getElem? (i := 58) rfl)) rfl
theorem k_88 : (Jvm.Cond.arrayClass Jvm.ClassFile.FieldType.long) ∈ ma := ma_of (tb_1 _ (List.mem_of_getElem? (i := 88) rfl)) rfl
theorem k_59 : (Jvm.Cond.classLink "MachineLoom$Tokens" (23 : Nat) "MachineLoom$Symbols") ∈ ma := ma_of (tb_1 _ (List.mem_of_getElem? (i := 59) rfl)) rfl
theorem k_60 : (Jvm.Cond.instantiable "MachineLoom$Symbols" (6 : Nat)) ∈ ma := ma_of (tb_1 _ (List.mem_of_getElem? (i := 60) rfl)) rfl
theorem k_62 : (Jvm.Cond.instanceMethod ({ cls := "MachineLoom$Symbols", name := "<init>", desc := "()V" } : Jvm.MethodName)) ∈ ma := ma_of (tb_1 _ (List.mem_of_getElem? (i := 62) rfl)) rfl
theorem d_Tokens_init_0 : decode b_Tokens_init 0 = .ok (.aload_n 0, 1) := by decide +kernel
theorem d_Tokens_init_1 : decode b_Tokens_init 1 = .ok (.invokespecial 3, 3) := by decide +kernel
theorem d_Tokens_init_4 : decode b_Tokens_init 4 = .ok (.aload_n 0, 1) := by decide +kernel
theorem d_Tokens_init_5 : decode b_Tokens_init 5 = .ok (.ldc 9, 2) := by decide +kernel
theorem d_Tokens_init_7 : decode b_Tokens_init 7 = .ok (.newarray .int, 2) := by decide +kernel
theorem d_Tokens_init_9 : decode b_Tokens_init 9 = .ok (.putfield 10, 3) := by decide +kernel
theorem d_Tokens_init_12 : decode b_Tokens_init 12 = .ok (.aload_n 0, 1) := by decide +kernel
theorem d_Tokens_init_13 : decode b_Tokens_init 13 = .ok (.ldc 9, 2) := by decide +kernel
theorem d_Tokens_init_15 : decode b_Tokens_init 15 = .ok (.newarray .int, 2) := by decide +kernel
theorem d_Tokens_init_17 : decode b_Tokens_init 17 = .ok (.putfield 16, 3) := by decide +kernel
theorem d_Tokens_init_20 : decode b_Tokens_init 20 = .ok (.aload_n 0, 1) := by decide +kernel
theorem d_Tokens_init_21 : decode b_Tokens_init 21 = .ok (.ldc 9, 2) := by decide +kernel
theorem d_Tokens_init_23 : decode b_Tokens_init 23 = .ok (.newarray .long, 2) := by decide +kernel
theorem d_Tokens_init_25 : decode b_Tokens_init 25 = .ok (.putfield 19, 3) := by decide +kernel
theorem d_Tokens_init_28 : decode b_Tokens_init 28 = .ok (.aload_n 0, 1) := by decide +kernel
theorem d_Tokens_init_29 : decode b_Tokens_init 29 = .ok (.new 23, 3) := by decide +kernel
theorem d_Tokens_init_32 : decode b_Tokens_init 32 = .ok (.dup, 1) := by decide +kernel
theorem d_Tokens_init_33 : decode b_Tokens_init 33 = .ok (.invokespecial 25, 3) := by decide +kernel
theorem d_Tokens_init_36 : decode b_Tokens_init 36 = .ok (.putfield 26, 3) := by decide +kernel
theorem d_Tokens_init_39 : decode b_Tokens_init 39 = .ok (.return_, 1) := by decide +kernel
def sg_Tokens (σ : mv_H) : mv_H := (mv_sr (sg_Symbols (mv_nw (mv_sr (mv_nw (mv_sr (mv_nw (mv_sr (mv_nw σ 4) 3 0 (some 4)) 5) 3 1 (some 5)) 6) 3 2 (some 6)) 7)) 3 3 (some 7))
theorem ok_Tokens {σ : mv_H} (hok : mv_ok σ 4) : mv_ok (sg_Tokens σ) 13 := by
  have hok := hok.nw
  have hok := hok.sr (o := 3) (k := 0) (r := 4) (by decide)
  have hok := hok.nw
  have hok := hok.sr (o := 3) (k := 1) (r := 5) (by decide)
  have hok := hok.nw
  have hok := hok.sr (o := 3) (k := 2) (r := 6) (by decide)
  have hok := hok.nw
  have hok := ok_Symbols hok
  have hok := hok.sr (o := 3) (k := 3) (r := 7) (by decide)
  exact hok
theorem kb_Tokens {σ : mv_H} (h0 : mv_ok σ 4) (hgh : gh σ) : Kpb 3 σ (sg_Tokens σ) := by
  have hok := h0
  have hk : Kpb 3 σ σ := Kpb.rf
  have hk := hk.nw (m := 4) (by decide)
  have hok := hok.nw
  have hk := hk.sr (a := 3) (k := 0) (v := some 4) (by decide)
  have hok := hok.sr (o := 3) (k := 0) (r := 4) (by decide)
  have hk := hk.nw (m := 5) (by decide)
  have hok := hok.nw
  have hk := hk.sr (a := 3) (k := 1) (v := some 5) (by decide)
  have hok := hok.sr (o := 3) (k := 1) (r := 5) (by decide)
  have hk := hk.nw (m := 6) (by decide)
  have hok := hok.nw
  have hk := hk.sr (a := 3) (k := 2) (v := some 6) (by decide)
  have hok := hok.sr (o := 3) (k := 2) (r := 6) (by decide)
  have hk := hk.nw (m := 7) (by decide)
  have hok := hok.nw
  have hk := hk.tr2 (kb_Symbols hok (hgh.kb hk)) (by decide)
  have hok := ok_Symbols hok
  have hk := hk.sr (a := 3) (k := 3) (v := some 7) (by decide)
  have hok := hok.sr (o := 3) (k := 3) (r := 7) (by decide)
  exact hk
set_option maxHeartbeats 4000000 in
set_option maxRecDepth 100000 in
theorem nc_Tokens (l : Launch) {dA : FieldType → ClassId} {D : va_G} {al : Nat → Nat} {sk sv : Nat → Nat} (hi : mv_inj (mq dA D al 4)) (hlt : l.stackTraces = false) (σ : mv_H) (hok : mv_ok σ 4) : mv_CN l y_Tokens_init (Cond.code y_Tokens_init b_Tokens_init 1 (Option.none : Option Jvm.ClassFile.FieldType) :: ma) ({ frames := 2, cells := 9, slots := 165261, locals := 40 }) dA D al 4 13 (mKt sk sv) [.ref (al 3)] σ (fun v9 σ9 => v9 = none ∧ σ9 = sg_Tokens σ) := by
  refine mv_CN.ofV (cc := b_Tokens_init) (nL := 1) (ret := (Option.none : Option Jvm.ClassFile.FieldType)) (by decide +kernel) rfl hi (Nat.le_of_ble_eq_true rfl) ?_
  intro p e s m args below meth c B hNs hr hnm hno
  have hg : mq_gr al al 4 4 s.heap.size := mq_gr.rf
  refine mv_aload_n (pc := 0) B d_Tokens_init_0 rfl 0 rfl ?_
  refine mv_obj (pc := 1) B (B.2.2.2.1 _ k_57) (B.2.2.2.1 _ k_43) (B.2.2.2.1 _ k_44) d_Tokens_init_1 (Nat.le_of_ble_eq_true rfl) ⟨by decide, by decide⟩ ?_
  refine mv_aload_n (pc := 4) B d_Tokens_init_4 rfl 0 rfl ?_
  refine mv_ldc (pc := 5) (v := 32770) B (B.2.2.2.1 _ k_58) d_Tokens_init_5 ?_
  refine mq_newa (pc := 7) (ty := .int) (N := 32770) (n2 := 5) B rfl (by decide) rfl hok (B.2.2.2.1 _ k_87) rfl (Or.inl rfl) (by decide) (by decide) (by decide) (Nat.le_of_ble_eq_true rfl) (Nat.le_of_ble_eq_true rfl) d_Tokens_init_7 (fun al1 g1 B => ?_)
  have hok := hok.nw
  have hNs := mq_K (mKt_ok sk sv) g1 (by decide) (mw_le (by decide)) hNs
  have hg := hg.tr g1 (by decide)
  rw [← g1.1 3 (by decide)]
  refine mv_putRF (pc := 9) (ci := 2) (C := R_Tokens) (T := F_Tokens) (N := 10) (o := 3) (r := 4) B 0 rfl rfl (by decide) i_Tokens t_Tokens_ok n_Tokens (B.2.2.2.1 _ k_89) rfl hnm rfl rfl d_Tokens_init_9 ?_
  have hok := hok.sr (o := 3) (k := 0) (r := 4) (by decide)
  refine mv_aload_n (pc := 12) B d_Tokens_init_12 rfl 0 rfl ?_
  refine mv_ldc (pc := 13) (v := 32770) B (B.2.2.2.1 _ k_58) d_Tokens_init_13 ?_
  refine mq_newa (pc := 15) (ty := .int) (N := 32770) (n2 := 6) B rfl (by decide) rfl hok (B.2.2.2.1 _ k_87) rfl (Or.inl rfl) (by decide) (by decide) (by decide) (Nat.le_of_ble_eq_true rfl) (Nat.le_of_ble_eq_true rfl) d_Tokens_init_15 (fun al2 g2 B => ?_)
  have hok := hok.nw
  have hNs := mq_K (mKt_ok sk sv) g2 (by decide) (mw_le (by decide)) hNs
  have hg := hg.tr g2 (by decide)
  rw [← g2.1 3 (by decide)]
  refine mv_putRF (pc := 17) (ci := 2) (C := R_Tokens) (T := F_Tokens) (N := 10) (o := 3) (r := 5) B 1 rfl rfl (by decide) i_Tokens t_Tokens_ok n_Tokens (B.2.2.2.1 _ k_90) rfl hnm rfl rfl d_Tokens_init_17 ?_
  have hok := hok.sr (o := 3) (k := 1) (r := 5) (by decide)
  refine mv_aload_n (pc := 20) B d_Tokens_init_20 rfl 0 rfl ?_
  refine mv_ldc (pc := 21) (v := 32770) B (B.2.2.2.1 _ k_58) d_Tokens_init_21 ?_
  refine mq_newa (pc := 23) (ty := .long) (N := 32770) (n2 := 7) B rfl (by decide) rfl hok (B.2.2.2.1 _ k_88) rfl (Or.inr (Or.inl rfl)) (by decide) (by decide) (by decide) (Nat.le_of_ble_eq_true rfl) (Nat.le_of_ble_eq_true rfl) d_Tokens_init_23 (fun al3 g3 B => ?_)
  have hok := hok.nw
  have hNs := mq_K (mKt_ok sk sv) g3 (by decide) (mw_le (by decide)) hNs
  have hg := hg.tr g3 (by decide)
  rw [← g3.1 3 (by decide)]
  refine mv_putRF (pc := 25) (ci := 2) (C := R_Tokens) (T := F_Tokens) (N := 10) (o := 3) (r := 6) B 2 rfl rfl (by decide) i_Tokens t_Tokens_ok n_Tokens (B.2.2.2.1 _ k_93) rfl hnm rfl rfl d_Tokens_init_25 ?_
  have hok := hok.sr (o := 3) (k := 2) (r := 6) (by decide)
  refine mv_aload_n (pc := 28) B d_Tokens_init_28 rfl 0 rfl ?_
  refine mq_new (pc := 29) (ci := 3) (C := R_Symbols) (T := F_Symbols) (N := 6) (n2 := 8) B rfl (by decide) rfl hok rfl i_Symbols t_Symbols_ok (by decide) (B.2.2.2.1 _ k_59) (B.2.2.2.1 _ k_60) (B.2.2.2.1 _ k_4) (Nat.le_of_ble_eq_true rfl) (Nat.le_of_ble_eq_true rfl) d_Tokens_init_29 (fun al4 g4 B => ?_)
  have hok := hok.nw
  have hNs := mq_K (mKt_ok sk sv) g4 (by decide) (mw_le (by decide)) hNs
  have hg := hg.tr g4 (by decide)
  rw [← g4.1 3 (by decide)]
  refine mv_dup (pc := 32) B d_Tokens_init_32 rfl ?_
  refine mq_callIN (pc := 33) (na := 0) B (mKt_ok sk sv) hNs (by decide) (by decide) (nc_Symbols l B.2.2.2.2.2.1 hlt _ hok) rfl (ma_goodc kc_Symbols_init) (va_Nw.use rfl (hNs.1.1 _ (List.mem_of_getElem? (i := 2) rfl))) (B.2.2.2.1 _ k_62) (B.2.2.2.1 _ k_4) ⟨rfl, ⟨by decide +kernel, by decide +kernel⟩, by decide +kernel⟩ rfl d_Tokens_init_33 rfl (Nat.le_of_ble_eq_true rfl) ⟨by decide, by decide⟩ ⟨Nat.le_of_ble_eq_true rfl, Nat.le_of_ble_eq_true rfl⟩ (fun v9 al5 σ5 g5 B h9 => ?_)
  obtain ⟨rfl, rfl⟩ := h9
  have hok := ok_Symbols hok
  have hNs := mq_K (mKt_ok sk sv) g5 (by decide) (mw_le (by decide)) hNs
  have hg := hg.tr g5 (by decide)
  rw [← g5.1 3 (by decide)]
  rw [← g5.1 7 (by decide)]
  refine mv_putRF (pc := 36) (ci := 2) (C := R_Tokens) (T := F_Tokens) (N := 10) (o := 3) (r := 7) B 3 rfl rfl (by decide) i_Tokens t_Tokens_ok n_Tokens (B.2.2.2.1 _ k_97) rfl hnm rfl rfl d_Tokens_init_36 ?_
  have hok := hok.sr (o := 3) (k := 3) (r := 7) (by decide)
  exact mq_vret (pc := 39) B hr d_Tokens_init_39 (Nat.le_of_ble_eq_true rfl) (Nat.le_of_ble_eq_true rfl) hg ⟨rfl, rfl⟩
def y_Names_init : MethodName := ⟨"MachineLoom$Names", "<init>", "(LMachineLoom$Symbols;)V"⟩
abbrev b_Names_init : ByteArray := prog_6_method_1_code
theorem kc_Names_init : Cond.code y_Names_init b_Names_init 2 (Option.none : Option Jvm.ClassFile.FieldType) ∈ ma := ma_of (tb_1 _ (List.mem_of_getElem? (i := 132) rfl)) rfl
theorem k_133 : (Jvm.Cond.methodLink "MachineLoom$Names" (3 : Nat) ({ cls := "java/lang/Object", name := "<init>", desc := "()V" } : Jvm.MethodName)) ∈ ma := ma_of (tb_1 _ (List.mem_of_getElem? (i := 133) rfl)) rfl
theorem d_Names_init_0 : decode b_Names_init 0 = .ok (.aload_n 0, 1) := by decide +kernel
theorem d_Names_init_1 : decode b_Names_init 1 = .ok (.invokespecial 3, 3) := by decide +kernel
theorem d_Names_init_4 : decode b_Names_init 4 = .ok (.aload_n 0, 1) := by decide +kernel
theorem d_Names_init_5 : decode b_Names_init 5 = .ok (.sipush 16448, 3) := by decide +kernel
theorem d_Names_init_8 : decode b_Names_init 8 = .ok (.newarray .int, 2) := by decide +kernel
theorem d_Names_init_10 : decode b_Names_init 10 = .ok (.putfield 9, 3) := by decide +kernel
theorem d_Names_init_13 : decode b_Names_init 13 = .ok (.aload_n 0, 1) := by decide +kernel
theorem d_Names_init_14 : decode b_Names_init 14 = .ok (.sipush 16448, 3) := by decide +kernel
theorem d_Names_init_17 : decode b_Names_init 17 = .ok (.newarray .int, 2) := by decide +kernel
theorem d_Names_init_19 : decode b_Names_init 19 = .ok (.putfield 15, 3) := by decide +kernel
theorem d_Names_init_22 : decode b_Names_init 22 = .ok (.aload_n 0, 1) := by decide +kernel
theorem d_Names_init_23 : decode b_Names_init 23 = .ok (.sipush 16448, 3) := by decide +kernel
theorem d_Names_init_26 : decode b_Names_init 26 = .ok (.newarray .byte, 2) := by decide +kernel
theorem d_Names_init_28 : decode b_Names_init 28 = .ok (.putfield 18, 3) := by decide +kernel
theorem d_Names_init_31 : decode b_Names_init 31 = .ok (.aload_n 0, 1) := by decide +kernel
theorem d_Names_init_32 : decode b_Names_init 32 = .ok (.sipush 128, 3) := by decide +kernel
theorem d_Names_init_35 : decode b_Names_init 35 = .ok (.newarray .int, 2) := by decide +kernel
theorem d_Names_init_37 : decode b_Names_init 37 = .ok (.putfield 22, 3) := by decide +kernel
theorem d_Names_init_40 : decode b_Names_init 40 = .ok (.aload_n 0, 1) := by decide +kernel
theorem d_Names_init_41 : decode b_Names_init 41 = .ok (.sipush 128, 3) := by decide +kernel
theorem d_Names_init_44 : decode b_Names_init 44 = .ok (.newarray .long, 2) := by decide +kernel
theorem d_Names_init_46 : decode b_Names_init 46 = .ok (.putfield 25, 3) := by decide +kernel
theorem d_Names_init_49 : decode b_Names_init 49 = .ok (.aload_n 0, 1) := by decide +kernel
theorem d_Names_init_50 : decode b_Names_init 50 = .ok (.bipush 64, 2) := by decide +kernel
theorem d_Names_init_52 : decode b_Names_init 52 = .ok (.newarray .int, 2) := by decide +kernel
theorem d_Names_init_54 : decode b_Names_init 54 = .ok (.putfield 29, 3) := by decide +kernel
theorem d_Names_init_57 : decode b_Names_init 57 = .ok (.aload_n 0, 1) := by decide +kernel
theorem d_Names_init_58 : decode b_Names_init 58 = .ok (.bipush 64, 2) := by decide +kernel
theorem d_Names_init_60 : decode b_Names_init 60 = .ok (.newarray .int, 2) := by decide +kernel
theorem d_Names_init_62 : decode b_Names_init 62 = .ok (.putfield 32, 3) := by decide +kernel
theorem d_Names_init_65 : decode b_Names_init 65 = .ok (.aload_n 0, 1) := by decide +kernel
theorem d_Names_init_66 : decode b_Names_init 66 = .ok (.aload_n 1, 1) := by decide +kernel
theorem d_Names_init_67 : decode b_Names_init 67 = .ok (.putfield 35, 3) := by decide +kernel
theorem d_Names_init_70 : decode b_Names_init 70 = .ok (.return_, 1) := by decide +kernel
def sg_Names (σ : mv_H) : mv_H := (mv_sr (mv_sr (mv_nw (mv_sr (mv_nw (mv_sr (mv_nw (mv_sr (mv_nw (mv_sr (mv_nw (mv_sr (mv_nw (mv_sr (mv_nw σ 14) 13 1 (some 14)) 15) 13 2 (some 15)) 16) 13 3 (some 16)) 17) 13 4 (some 17)) 18) 13 5 (some 18)) 19) 13 6 (some 19)) 20) 13 8 (some 20)) 13 0 (some 7))
theorem ok_Names {σ : mv_H} (hok : mv_ok σ 14) : mv_ok (sg_Names σ) 21 := by
  have hok := hok.nw
  have hok := hok.sr (o := 13) (k := 1) (r := 14) (by decide)
  have hok := hok.nw
  have hok := hok.sr (o := 13) (k := 2) (r := 15) (by decide)
  have hok := hok.nw
  have hok := hok.sr (o := 13) (k := 3) (r := 16) (by decide)
  have hok := hok.nw
  have hok := hok.sr (o := 13) (k := 4) (r := 17) (by decide)
  have hok := hok.nw
  have hok := hok.sr (o := 13) (k := 5) (r := 18) (by decide)
  have hok := hok.nw
  have hok := hok.sr (o := 13) (k := 6) (r := 19) (by decide)
  have hok := hok.nw
  have hok := hok.sr (o := 13) (k := 8) (r := 20) (by decide)
  have hok := hok.sr (o := 13) (k := 0) (r := 7) (by decide)
  exact hok
theorem kb_Names {σ : mv_H} (h0 : mv_ok σ 14) (hgh : gh σ) : Kpb 13 σ (sg_Names σ) := by
  have hok := h0
  have hk : Kpb 13 σ σ := Kpb.rf
  have hk := hk.nw (m := 14) (by decide)
  have hok := hok.nw
  have hk := hk.sr (a := 13) (k := 1) (v := some 14) (by decide)
  have hok := hok.sr (o := 13) (k := 1) (r := 14) (by decide)
  have hk := hk.nw (m := 15) (by decide)
  have hok := hok.nw
  have hk := hk.sr (a := 13) (k := 2) (v := some 15) (by decide)
  have hok := hok.sr (o := 13) (k := 2) (r := 15) (by decide)
  have hk := hk.nw (m := 16) (by decide)
  have hok := hok.nw
  have hk := hk.sr (a := 13) (k := 3) (v := some 16) (by decide)
  have hok := hok.sr (o := 13) (k := 3) (r := 16) (by decide)
  have hk := hk.nw (m := 17) (by decide)
  have hok := hok.nw
  have hk := hk.sr (a := 13) (k := 4) (v := some 17) (by decide)
  have hok := hok.sr (o := 13) (k := 4) (r := 17) (by decide)
  have hk := hk.nw (m := 18) (by decide)
  have hok := hok.nw
  have hk := hk.sr (a := 13) (k := 5) (v := some 18) (by decide)
  have hok := hok.sr (o := 13) (k := 5) (r := 18) (by decide)
  have hk := hk.nw (m := 19) (by decide)
  have hok := hok.nw
  have hk := hk.sr (a := 13) (k := 6) (v := some 19) (by decide)
  have hok := hok.sr (o := 13) (k := 6) (r := 19) (by decide)
  have hk := hk.nw (m := 20) (by decide)
  have hok := hok.nw
  have hk := hk.sr (a := 13) (k := 8) (v := some 20) (by decide)
  have hok := hok.sr (o := 13) (k := 8) (r := 20) (by decide)
  have hk := hk.sr (a := 13) (k := 0) (v := some 7) (by decide)
  have hok := hok.sr (o := 13) (k := 0) (r := 7) (by decide)
  exact hk
set_option maxHeartbeats 4000000 in
set_option maxRecDepth 100000 in
theorem nc_Names (l : Launch) {dA : FieldType → ClassId} {D : va_G} {al : Nat → Nat} {sk sv : Nat → Nat} (hi : mv_inj (mq dA D al 14)) (hlt : l.stackTraces = false) (σ : mv_H) (hok : mv_ok σ 14) : mv_CN l y_Names_init (Cond.code y_Names_init b_Names_init 2 (Option.none : Option Jvm.ClassFile.FieldType) :: ma) ({ frames := 1, cells := 7, slots := 49728, locals := 20 }) dA D al 14 21 (mKt sk sv) [.ref (al 13), .ref (al 7)] σ (fun v9 σ9 => v9 = none ∧ σ9 = sg_Names σ) := by
  refine mv_CN.ofV (cc := b_Names_init) (nL := 2) (ret := (Option.none : Option Jvm.ClassFile.FieldType)) (by decide +kernel) rfl hi (Nat.le_of_ble_eq_true rfl) ?_
  intro p e s m args below meth c B hNs hr hnm hno
  have hg : mq_gr al al 14 14 s.heap.size := mq_gr.rf
  refine mv_aload_n (pc := 0) B d_Names_init_0 rfl 0 rfl ?_
  refine mv_obj (pc := 1) B (B.2.2.2.1 _ k_133) (B.2.2.2.1 _ k_43) (B.2.2.2.1 _ k_44) d_Names_init_1 (Nat.le_of_ble_eq_true rfl) ⟨by decide, by decide⟩ ?_
  refine mv_aload_n (pc := 4) B d_Names_init_4 rfl 0 rfl ?_
  refine mv_sipush (pc := 5) (v := 16448) B d_Names_init_5 (by decide) ?_
  refine mq_newa (pc := 8) (ty := .int) (N := 16448) (n2 := 15) B rfl (by decide) rfl hok (B.2.2.2.1 _ k_87) rfl (Or.inl rfl) (by decide) (by decide) (by decide) (Nat.le_of_ble_eq_true rfl) (Nat.le_of_ble_eq_true rfl) d_Names_init_8 (fun al1 g1 B => ?_)
  have hok := hok.nw
  have hNs := mq_K (mKt_ok sk sv) g1 (by decide) (mw_le (by decide)) hNs
  have hg := hg.tr g1 (by decide)
  rw [← g1.1 13 (by decide)]
  rw [← g1.1 7 (by decide)]
  refine mv_putRF (pc := 10) (ci := 4) (C := R_Names) (T := F_Names) (N := 10) (o := 13) (r := 14) B 1 rfl rfl (by decide) i_Names t_Names_ok n_Names (B.2.2.2.1 _ k_135) rfl hnm rfl rfl d_Names_init_10 ?_
  have hok := hok.sr (o := 13) (k := 1) (r := 14) (by decide)
  refine mv_aload_n (pc := 13) B d_Names_init_13 rfl 0 rfl ?_
  refine mv_sipush (pc := 14) (v := 16448) B d_Names_init_14 (by decide) ?_
  refine mq_newa (pc := 17) (ty := .int) (N := 16448) (n2 := 16) B rfl (by decide) rfl hok (B.2.2.2.1 _ k_87) rfl (Or.inl rfl) (by decide) (by decide) (by decide) (Nat.le_of_ble_eq_true rfl) (Nat.le_of_ble_eq_true rfl) d_Names_init_17 (fun al2 g2 B => ?_)
  have hok := hok.nw
  have hNs := mq_K (mKt_ok sk sv) g2 (by decide) (mw_le (by decide)) hNs
  have hg := hg.tr g2 (by decide)
  rw [← g2.1 13 (by decide)]
  rw [← g2.1 7 (by decide)]
  refine mv_putRF (pc := 19) (ci := 4) (C := R_Names) (T := F_Names) (N := 10) (o := 13) (r := 15) B 2 rfl rfl (by decide) i_Names t_Names_ok n_Names (B.2.2.2.1 _ k_136) rfl hnm rfl rfl d_Names_init_19 ?_
  have hok := hok.sr (o := 13) (k := 2) (r := 15) (by decide)
  refine mv_aload_n (pc := 22) B d_Names_init_22 rfl 0 rfl ?_
  refine mv_sipush (pc := 23) (v := 16448) B d_Names_init_23 (by decide) ?_
  refine mq_newa (pc := 26) (ty := .byte) (N := 16448) (n2 := 17) B rfl (by decide) rfl hok (B.2.2.2.1 _ k_86) rfl (Or.inr (Or.inr (Or.inl rfl))) (by decide) (by decide) (by decide) (Nat.le_of_ble_eq_true rfl) (Nat.le_of_ble_eq_true rfl) d_Names_init_26 (fun al3 g3 B => ?_)
  have hok := hok.nw
  have hNs := mq_K (mKt_ok sk sv) g3 (by decide) (mw_le (by decide)) hNs
  have hg := hg.tr g3 (by decide)
  rw [← g3.1 13 (by decide)]
  rw [← g3.1 7 (by decide)]
  refine mv_putRF (pc := 28) (ci := 4) (C := R_Names) (T := F_Names) (N := 10) (o := 13) (r := 16) B 3 rfl rfl (by decide) i_Names t_Names_ok n_Names (B.2.2.2.1 _ k_139) rfl hnm rfl rfl d_Names_init_28 ?_
  have hok := hok.sr (o := 13) (k := 3) (r := 16) (by decide)
  refine mv_aload_n (pc := 31) B d_Names_init_31 rfl 0 rfl ?_
  refine mv_sipush (pc := 32) (v := 128) B d_Names_init_32 (by decide) ?_
  refine mq_newa (pc := 35) (ty := .int) (N := 128) (n2 := 18) B rfl (by decide) rfl hok (B.2.2.2.1 _ k_87) rfl (Or.inl rfl) (by decide) (by decide) (by decide) (Nat.le_of_ble_eq_true rfl) (Nat.le_of_ble_eq_true rfl) d_Names_init_35 (fun al4 g4 B => ?_)
  have hok := hok.nw
  have hNs := mq_K (mKt_ok sk sv) g4 (by decide) (mw_le (by decide)) hNs
  have hg := hg.tr g4 (by decide)
  rw [← g4.1 13 (by decide)]
  rw [← g4.1 7 (by decide)]
  refine mv_putRF (pc := 37) (ci := 4) (C := R_Names) (T := F_Names) (N := 10) (o := 13) (r := 17) B 4 rfl rfl (by decide) i_Names t_Names_ok n_Names (B.2.2.2.1 _ k_141) rfl hnm rfl rfl d_Names_init_37 ?_
  have hok := hok.sr (o := 13) (k := 4) (r := 17) (by decide)
  refine mv_aload_n (pc := 40) B d_Names_init_40 rfl 0 rfl ?_
  refine mv_sipush (pc := 41) (v := 128) B d_Names_init_41 (by decide) ?_
  refine mq_newa (pc := 44) (ty := .long) (N := 128) (n2 := 19) B rfl (by decide) rfl hok (B.2.2.2.1 _ k_88) rfl (Or.inr (Or.inl rfl)) (by decide) (by decide) (by decide) (Nat.le_of_ble_eq_true rfl) (Nat.le_of_ble_eq_true rfl) d_Names_init_44 (fun al5 g5 B => ?_)
  have hok := hok.nw
  have hNs := mq_K (mKt_ok sk sv) g5 (by decide) (mw_le (by decide)) hNs
  have hg := hg.tr g5 (by decide)
  rw [← g5.1 13 (by decide)]
  rw [← g5.1 7 (by decide)]
  refine mv_putRF (pc := 46) (ci := 4) (C := R_Names) (T := F_Names) (N := 10) (o := 13) (r := 18) B 5 rfl rfl (by decide) i_Names t_Names_ok n_Names (B.2.2.2.1 _ k_142) rfl hnm rfl rfl d_Names_init_46 ?_
  have hok := hok.sr (o := 13) (k := 5) (r := 18) (by decide)
  refine mv_aload_n (pc := 49) B d_Names_init_49 rfl 0 rfl ?_
  refine mv_bipush (pc := 50) (v := 64) B d_Names_init_50 (by decide) ?_
  refine mq_newa (pc := 52) (ty := .int) (N := 64) (n2 := 20) B rfl (by decide) rfl hok (B.2.2.2.1 _ k_87) rfl (Or.inl rfl) (by decide) (by decide) (by decide) (Nat.le_of_ble_eq_true rfl) (Nat.le_of_ble_eq_true rfl) d_Names_init_52 (fun al6 g6 B => ?_)
  have hok := hok.nw
  have hNs := mq_K (mKt_ok sk sv) g6 (by decide) (mw_le (by decide)) hNs
  have hg := hg.tr g6 (by decide)
  rw [← g6.1 13 (by decide)]
  rw [← g6.1 7 (by decide)]
  refine mv_putRF (pc := 54) (ci := 4) (C := R_Names) (T := F_Names) (N := 10) (o := 13) (r := 19) B 6 rfl rfl (by decide) i_Names t_Names_ok n_Names (B.2.2.2.1 _ k_143) rfl hnm rfl rfl d_Names_init_54 ?_
  have hok := hok.sr (o := 13) (k := 6) (r := 19) (by decide)
  refine mv_aload_n (pc := 57) B d_Names_init_57 rfl 0 rfl ?_
  refine mv_bipush (pc := 58) (v := 64) B d_Names_init_58 (by decide) ?_
  refine mq_newa (pc := 60) (ty := .int) (N := 64) (n2 := 21) B rfl (by decide) rfl hok (B.2.2.2.1 _ k_87) rfl (Or.inl rfl) (by decide) (by decide) (by decide) (Nat.le_of_ble_eq_true rfl) (Nat.le_of_ble_eq_true rfl) d_Names_init_60 (fun al7 g7 B => ?_)
  have hok := hok.nw
  have hNs := mq_K (mKt_ok sk sv) g7 (by decide) (mw_le (by decide)) hNs
  have hg := hg.tr g7 (by decide)
  rw [← g7.1 13 (by decide)]
  rw [← g7.1 7 (by decide)]
  refine mv_putRF (pc := 62) (ci := 4) (C := R_Names) (T := F_Names) (N := 10) (o := 13) (r := 20) B 8 rfl rfl (by decide) i_Names t_Names_ok n_Names (B.2.2.2.1 _ k_146) rfl hnm rfl rfl d_Names_init_62 ?_
  have hok := hok.sr (o := 13) (k := 8) (r := 20) (by decide)
  refine mv_aload_n (pc := 65) B d_Names_init_65 rfl 0 rfl ?_
  refine mv_aload_n (pc := 66) B d_Names_init_66 rfl 1 rfl ?_
  refine mv_putRF (pc := 67) (ci := 4) (C := R_Names) (T := F_Names) (N := 10) (o := 13) (r := 7) B 0 rfl rfl (by decide) i_Names t_Names_ok n_Names (B.2.2.2.1 _ k_134) rfl hnm rfl rfl d_Names_init_67 ?_
  have hok := hok.sr (o := 13) (k := 0) (r := 7) (by decide)
  exact mq_vret (pc := 70) B hr d_Names_init_70 (Nat.le_of_ble_eq_true rfl) (Nat.le_of_ble_eq_true rfl) hg ⟨rfl, rfl⟩
def y_Faults_init : MethodName := ⟨"MachineLoom$Faults", "<init>", "()V"⟩
abbrev b_Faults_init : ByteArray := prog_4_method_1_code
theorem kc_Faults_init : Cond.code y_Faults_init b_Faults_init 1 (Option.none : Option Jvm.ClassFile.FieldType) ∈ ma := ma_of (tb_1 _ (List.mem_of_getElem? (i := 175) rfl)) rfl
theorem k_176 : (Jvm.Cond.methodLink "MachineLoom$Faults" (1 : Nat) ({ cls := "java/lang/Object", name := "<init>", desc := "()V" } : Jvm.MethodName)) ∈ ma := ma_of (tb_1 _ (List.mem_of_getElem? (i := 176) rfl)) rfl
theorem d_Faults_init_0 : decode b_Faults_init 0 = .ok (.aload_n 0, 1) := by decide +kernel
theorem d_Faults_init_1 : decode b_Faults_init 1 = .ok (.invokespecial 1, 3) := by decide +kernel
theorem d_Faults_init_4 : decode b_Faults_init 4 = .ok (.return_, 1) := by decide +kernel
def sg_Faults (σ : mv_H) : mv_H := σ
theorem ok_Faults {σ : mv_H} (hok : mv_ok σ 22) : mv_ok (sg_Faults σ) 22 := by
  exact hok
theorem kb_Faults {σ : mv_H} (h0 : mv_ok σ 22) (hgh : gh σ) : Kpb 21 σ (sg_Faults σ) := by
  have hok := h0
  have hk : Kpb 21 σ σ := Kpb.rf
  exact hk
set_option maxHeartbeats 4000000 in
set_option maxRecDepth 100000 in
theorem nc_Faults (l : Launch) {dA : FieldType → ClassId} {D : va_G} {al : Nat → Nat} {sk sv : Nat → Nat} (hi : mv_inj (mq dA D al 22)) (hlt : l.stackTraces = false) (σ : mv_H) (hok : mv_ok σ 22) : mv_CN l y_Faults_init (Cond.code y_Faults_init b_Faults_init 1 (Option.none : Option Jvm.ClassFile.FieldType) :: ma) ({ frames := 1, cells := 0, slots := 0, locals := 20 }) dA D al 22 22 (mKt sk sv) [.ref (al 21)] σ (fun v9 σ9 => v9 = none ∧ σ9 = sg_Faults σ) := by
  refine mv_CN.ofV (cc := b_Faults_init) (nL := 1) (ret := (Option.none : Option Jvm.ClassFile.FieldType)) (by decide +kernel) rfl hi (Nat.le_of_ble_eq_true rfl) ?_
  intro p e s m args below meth c B hNs hr hnm hno
  have hg : mq_gr al al 22 22 s.heap.size := mq_gr.rf
  refine mv_aload_n (pc := 0) B d_Faults_init_0 rfl 0 rfl ?_
  refine mv_obj (pc := 1) B (B.2.2.2.1 _ k_176) (B.2.2.2.1 _ k_43) (B.2.2.2.1 _ k_44) d_Faults_init_1 (Nat.le_of_ble_eq_true rfl) ⟨by decide, by decide⟩ ?_
  exact mq_vret (pc := 4) B hr d_Faults_init_4 (Nat.le_of_ble_eq_true rfl) (Nat.le_of_ble_eq_true rfl) hg ⟨rfl, rfl⟩
def y_Exprs_init : MethodName := ⟨"MachineLoom$Exprs", "<init>", "(LMachineLoom$Tokens;LMachineLoom$Names;LMachineLoom$Faults;)V"⟩
abbrev b_Exprs_init : ByteArray := prog_3_method_1_code
theorem kc_Exprs_init : Cond.code y_Exprs_init b_Exprs_init 4 (Option.none : Option Jvm.ClassFile.FieldType) ∈ ma := ma_of (tb_1 _ (List.mem_of_getElem? (i := 191) rfl)) rfl
theorem k_192 : (Jvm.Cond.methodLink "MachineLoom$Exprs" (3 : Nat) ({ cls := "java/lang/Object", name := "<init>", desc := "()V" } : Jvm.MethodName)) ∈ ma := ma_of (tb_1 _ (List.mem_of_getElem? (i := 192) rfl)) rfl
theorem d_Exprs_init_0 : decode b_Exprs_init 0 = .ok (.aload_n 0, 1) := by decide +kernel
theorem d_Exprs_init_1 : decode b_Exprs_init 1 = .ok (.invokespecial 3, 3) := by decide +kernel
theorem d_Exprs_init_4 : decode b_Exprs_init 4 = .ok (.aload_n 0, 1) := by decide +kernel
theorem d_Exprs_init_5 : decode b_Exprs_init 5 = .ok (.sipush 1024, 3) := by decide +kernel
theorem d_Exprs_init_8 : decode b_Exprs_init 8 = .ok (.newarray .int, 2) := by decide +kernel
theorem d_Exprs_init_10 : decode b_Exprs_init 10 = .ok (.putfield 9, 3) := by decide +kernel
theorem d_Exprs_init_13 : decode b_Exprs_init 13 = .ok (.aload_n 0, 1) := by decide +kernel
theorem d_Exprs_init_14 : decode b_Exprs_init 14 = .ok (.sipush 1024, 3) := by decide +kernel
theorem d_Exprs_init_17 : decode b_Exprs_init 17 = .ok (.newarray .int, 2) := by decide +kernel
theorem d_Exprs_init_19 : decode b_Exprs_init 19 = .ok (.putfield 15, 3) := by decide +kernel
theorem d_Exprs_init_22 : decode b_Exprs_init 22 = .ok (.aload_n 0, 1) := by decide +kernel
theorem d_Exprs_init_23 : decode b_Exprs_init 23 = .ok (.sipush 1024, 3) := by decide +kernel
theorem d_Exprs_init_26 : decode b_Exprs_init 26 = .ok (.newarray .int, 2) := by decide +kernel
theorem d_Exprs_init_28 : decode b_Exprs_init 28 = .ok (.putfield 18, 3) := by decide +kernel
theorem d_Exprs_init_31 : decode b_Exprs_init 31 = .ok (.aload_n 0, 1) := by decide +kernel
theorem d_Exprs_init_32 : decode b_Exprs_init 32 = .ok (.sipush 1024, 3) := by decide +kernel
theorem d_Exprs_init_35 : decode b_Exprs_init 35 = .ok (.newarray .int, 2) := by decide +kernel
theorem d_Exprs_init_37 : decode b_Exprs_init 37 = .ok (.putfield 21, 3) := by decide +kernel
theorem d_Exprs_init_40 : decode b_Exprs_init 40 = .ok (.aload_n 0, 1) := by decide +kernel
theorem d_Exprs_init_41 : decode b_Exprs_init 41 = .ok (.sipush 1024, 3) := by decide +kernel
theorem d_Exprs_init_44 : decode b_Exprs_init 44 = .ok (.newarray .int, 2) := by decide +kernel
theorem d_Exprs_init_46 : decode b_Exprs_init 46 = .ok (.putfield 24, 3) := by decide +kernel
theorem d_Exprs_init_49 : decode b_Exprs_init 49 = .ok (.aload_n 0, 1) := by decide +kernel
theorem d_Exprs_init_50 : decode b_Exprs_init 50 = .ok (.aload_n 1, 1) := by decide +kernel
theorem d_Exprs_init_51 : decode b_Exprs_init 51 = .ok (.putfield 27, 3) := by decide +kernel
theorem d_Exprs_init_54 : decode b_Exprs_init 54 = .ok (.aload_n 0, 1) := by decide +kernel
theorem d_Exprs_init_55 : decode b_Exprs_init 55 = .ok (.aload_n 2, 1) := by decide +kernel
theorem d_Exprs_init_56 : decode b_Exprs_init 56 = .ok (.putfield 31, 3) := by decide +kernel
theorem d_Exprs_init_59 : decode b_Exprs_init 59 = .ok (.aload_n 0, 1) := by decide +kernel
theorem d_Exprs_init_60 : decode b_Exprs_init 60 = .ok (.aload_n 3, 1) := by decide +kernel
theorem d_Exprs_init_61 : decode b_Exprs_init 61 = .ok (.putfield 35, 3) := by decide +kernel
theorem d_Exprs_init_64 : decode b_Exprs_init 64 = .ok (.return_, 1) := by decide +kernel
def sg_Exprs (σ : mv_H) : mv_H := (mv_sr (mv_sr (mv_sr (mv_sr (mv_nw (mv_sr (mv_nw (mv_sr (mv_nw (mv_sr (mv_nw (mv_sr (mv_nw σ 23) 22 4 (some 23)) 24) 22 5 (some 24)) 25) 22 6 (some 25)) 26) 22 7 (some 26)) 27) 22 9 (some 27)) 22 0 (some 3)) 22 1 (some 13)) 22 2 (some 21))
theorem ok_Exprs {σ : mv_H} (hok : mv_ok σ 23) : mv_ok (sg_Exprs σ) 28 := by
  have hok := hok.nw
  have hok := hok.sr (o := 22) (k := 4) (r := 23) (by decide)
  have hok := hok.nw
  have hok := hok.sr (o := 22) (k := 5) (r := 24) (by decide)
  have hok := hok.nw
  have hok := hok.sr (o := 22) (k := 6) (r := 25) (by decide)
  have hok := hok.nw
  have hok := hok.sr (o := 22) (k := 7) (r := 26) (by decide)
  have hok := hok.nw
  have hok := hok.sr (o := 22) (k := 9) (r := 27) (by decide)
  have hok := hok.sr (o := 22) (k := 0) (r := 3) (by decide)
  have hok := hok.sr (o := 22) (k := 1) (r := 13) (by decide)
  have hok := hok.sr (o := 22) (k := 2) (r := 21) (by decide)
  exact hok
theorem kb_Exprs {σ : mv_H} (h0 : mv_ok σ 23) (hgh : gh σ) : Kpb 22 σ (sg_Exprs σ) := by
  have hok := h0
  have hk : Kpb 22 σ σ := Kpb.rf
  have hk := hk.nw (m := 23) (by decide)
  have hok := hok.nw
  have hk := hk.sr (a := 22) (k := 4) (v := some 23) (by decide)
  have hok := hok.sr (o := 22) (k := 4) (r := 23) (by decide)
  have hk := hk.nw (m := 24) (by decide)
  have hok := hok.nw
  have hk := hk.sr (a := 22) (k := 5) (v := some 24) (by decide)
  have hok := hok.sr (o := 22) (k := 5) (r := 24) (by decide)
  have hk := hk.nw (m := 25) (by decide)
  have hok := hok.nw
  have hk := hk.sr (a := 22) (k := 6) (v := some 25) (by decide)
  have hok := hok.sr (o := 22) (k := 6) (r := 25) (by decide)
  have hk := hk.nw (m := 26) (by decide)
  have hok := hok.nw
  have hk := hk.sr (a := 22) (k := 7) (v := some 26) (by decide)
  have hok := hok.sr (o := 22) (k := 7) (r := 26) (by decide)
  have hk := hk.nw (m := 27) (by decide)
  have hok := hok.nw
  have hk := hk.sr (a := 22) (k := 9) (v := some 27) (by decide)
  have hok := hok.sr (o := 22) (k := 9) (r := 27) (by decide)
  have hk := hk.sr (a := 22) (k := 0) (v := some 3) (by decide)
  have hok := hok.sr (o := 22) (k := 0) (r := 3) (by decide)
  have hk := hk.sr (a := 22) (k := 1) (v := some 13) (by decide)
  have hok := hok.sr (o := 22) (k := 1) (r := 13) (by decide)
  have hk := hk.sr (a := 22) (k := 2) (v := some 21) (by decide)
  have hok := hok.sr (o := 22) (k := 2) (r := 21) (by decide)
  exact hk
set_option maxHeartbeats 4000000 in
set_option maxRecDepth 100000 in
theorem nc_Exprs (l : Launch) {dA : FieldType → ClassId} {D : va_G} {al : Nat → Nat} {sk sv : Nat → Nat} (hi : mv_inj (mq dA D al 23)) (hlt : l.stackTraces = false) (σ : mv_H) (hok : mv_ok σ 23) : mv_CN l y_Exprs_init (Cond.code y_Exprs_init b_Exprs_init 4 (Option.none : Option Jvm.ClassFile.FieldType) :: ma) ({ frames := 1, cells := 5, slots := 5120, locals := 20 }) dA D al 23 28 (mKt sk sv) [.ref (al 22), .ref (al 3), .ref (al 13), .ref (al 21)] σ (fun v9 σ9 => v9 = none ∧ σ9 = sg_Exprs σ) := by
  refine mv_CN.ofV (cc := b_Exprs_init) (nL := 4) (ret := (Option.none : Option Jvm.ClassFile.FieldType)) (by decide +kernel) rfl hi (Nat.le_of_ble_eq_true rfl) ?_
  intro p e s m args below meth c B hNs hr hnm hno
  have hg : mq_gr al al 23 23 s.heap.size := mq_gr.rf
  refine mv_aload_n (pc := 0) B d_Exprs_init_0 rfl 0 rfl ?_
  refine mv_obj (pc := 1) B (B.2.2.2.1 _ k_192) (B.2.2.2.1 _ k_43) (B.2.2.2.1 _ k_44) d_Exprs_init_1 (Nat.le_of_ble_eq_true rfl) ⟨by decide, by decide⟩ ?_
  refine mv_aload_n (pc := 4) B d_Exprs_init_4 rfl 0 rfl ?_
  refine mv_sipush (pc := 5) (v := 1024) B d_Exprs_init_5 (by decide) ?_
  refine mq_newa (pc := 8) (ty := .int) (N := 1024) (n2 := 24) B rfl (by decide) rfl hok (B.2.2.2.1 _ k_87) rfl (Or.inl rfl) (by decide) (by decide) (by decide) (Nat.le_of_ble_eq_true rfl) (Nat.le_of_ble_eq_true rfl) d_Exprs_init_8 (fun al1 g1 B => ?_)
  have hok := hok.nw
  have hNs := mq_K (mKt_ok sk sv) g1 (by decide) (mw_le (by decide)) hNs
  have hg := hg.tr g1 (by decide)
  rw [← g1.1 22 (by decide)]
  rw [← g1.1 3 (by decide)]
  rw [← g1.1 13 (by decide)]
  rw [← g1.1 21 (by decide)]
  refine mv_putRF (pc := 10) (ci := 6) (C := R_Exprs) (T := F_Exprs) (N := 11) (o := 22) (r := 23) B 4 rfl rfl (by decide) i_Exprs t_Exprs_ok n_Exprs (B.2.2.2.1 _ k_198) rfl hnm rfl rfl d_Exprs_init_10 ?_
  have hok := hok.sr (o := 22) (k := 4) (r := 23) (by decide)
  refine mv_aload_n (pc := 13) B d_Exprs_init_13 rfl 0 rfl ?_
  refine mv_sipush (pc := 14) (v := 1024) B d_Exprs_init_14 (by decide) ?_
  refine mq_newa (pc := 17) (ty := .int) (N := 1024) (n2 := 25) B rfl (by decide) rfl hok (B.2.2.2.1 _ k_87) rfl (Or.inl rfl) (by decide) (by decide) (by decide) (Nat.le_of_ble_eq_true rfl) (Nat.le_of_ble_eq_true rfl) d_Exprs_init_17 (fun al2 g2 B => ?_)
  have hok := hok.nw
  have hNs := mq_K (mKt_ok sk sv) g2 (by decide) (mw_le (by decide)) hNs
  have hg := hg.tr g2 (by decide)
  rw [← g2.1 22 (by decide)]
  rw [← g2.1 3 (by decide)]
  rw [← g2.1 13 (by decide)]
  rw [← g2.1 21 (by decide)]
  refine mv_putRF (pc := 19) (ci := 6) (C := R_Exprs) (T := F_Exprs) (N := 11) (o := 22) (r := 24) B 5 rfl rfl (by decide) i_Exprs t_Exprs_ok n_Exprs (B.2.2.2.1 _ k_199) rfl hnm rfl rfl d_Exprs_init_19 ?_
  have hok := hok.sr (o := 22) (k := 5) (r := 24) (by decide)
  refine mv_aload_n (pc := 22) B d_Exprs_init_22 rfl 0 rfl ?_
  refine mv_sipush (pc := 23) (v := 1024) B d_Exprs_init_23 (by decide) ?_
  refine mq_newa (pc := 26) (ty := .int) (N := 1024) (n2 := 26) B rfl (by decide) rfl hok (B.2.2.2.1 _ k_87) rfl (Or.inl rfl) (by decide) (by decide) (by decide) (Nat.le_of_ble_eq_true rfl) (Nat.le_of_ble_eq_true rfl) d_Exprs_init_26 (fun al3 g3 B => ?_)
  have hok := hok.nw
  have hNs := mq_K (mKt_ok sk sv) g3 (by decide) (mw_le (by decide)) hNs
  have hg := hg.tr g3 (by decide)
  rw [← g3.1 22 (by decide)]
  rw [← g3.1 3 (by decide)]
  rw [← g3.1 13 (by decide)]
  rw [← g3.1 21 (by decide)]
  refine mv_putRF (pc := 28) (ci := 6) (C := R_Exprs) (T := F_Exprs) (N := 11) (o := 22) (r := 25) B 6 rfl rfl (by decide) i_Exprs t_Exprs_ok n_Exprs (B.2.2.2.1 _ k_200) rfl hnm rfl rfl d_Exprs_init_28 ?_
  have hok := hok.sr (o := 22) (k := 6) (r := 25) (by decide)
  refine mv_aload_n (pc := 31) B d_Exprs_init_31 rfl 0 rfl ?_
  refine mv_sipush (pc := 32) (v := 1024) B d_Exprs_init_32 (by decide) ?_
  refine mq_newa (pc := 35) (ty := .int) (N := 1024) (n2 := 27) B rfl (by decide) rfl hok (B.2.2.2.1 _ k_87) rfl (Or.inl rfl) (by decide) (by decide) (by decide) (Nat.le_of_ble_eq_true rfl) (Nat.le_of_ble_eq_true rfl) d_Exprs_init_35 (fun al4 g4 B => ?_)
  have hok := hok.nw
  have hNs := mq_K (mKt_ok sk sv) g4 (by decide) (mw_le (by decide)) hNs
  have hg := hg.tr g4 (by decide)
  rw [← g4.1 22 (by decide)]
  rw [← g4.1 3 (by decide)]
  rw [← g4.1 13 (by decide)]
  rw [← g4.1 21 (by decide)]
  refine mv_putRF (pc := 37) (ci := 6) (C := R_Exprs) (T := F_Exprs) (N := 11) (o := 22) (r := 26) B 7 rfl rfl (by decide) i_Exprs t_Exprs_ok n_Exprs (B.2.2.2.1 _ k_201) rfl hnm rfl rfl d_Exprs_init_37 ?_
  have hok := hok.sr (o := 22) (k := 7) (r := 26) (by decide)
  refine mv_aload_n (pc := 40) B d_Exprs_init_40 rfl 0 rfl ?_
  refine mv_sipush (pc := 41) (v := 1024) B d_Exprs_init_41 (by decide) ?_
  refine mq_newa (pc := 44) (ty := .int) (N := 1024) (n2 := 28) B rfl (by decide) rfl hok (B.2.2.2.1 _ k_87) rfl (Or.inl rfl) (by decide) (by decide) (by decide) (Nat.le_of_ble_eq_true rfl) (Nat.le_of_ble_eq_true rfl) d_Exprs_init_44 (fun al5 g5 B => ?_)
  have hok := hok.nw
  have hNs := mq_K (mKt_ok sk sv) g5 (by decide) (mw_le (by decide)) hNs
  have hg := hg.tr g5 (by decide)
  rw [← g5.1 22 (by decide)]
  rw [← g5.1 3 (by decide)]
  rw [← g5.1 13 (by decide)]
  rw [← g5.1 21 (by decide)]
  refine mv_putRF (pc := 46) (ci := 6) (C := R_Exprs) (T := F_Exprs) (N := 11) (o := 22) (r := 27) B 9 rfl rfl (by decide) i_Exprs t_Exprs_ok n_Exprs (B.2.2.2.1 _ k_203) rfl hnm rfl rfl d_Exprs_init_46 ?_
  have hok := hok.sr (o := 22) (k := 9) (r := 27) (by decide)
  refine mv_aload_n (pc := 49) B d_Exprs_init_49 rfl 0 rfl ?_
  refine mv_aload_n (pc := 50) B d_Exprs_init_50 rfl 1 rfl ?_
  refine mv_putRF (pc := 51) (ci := 6) (C := R_Exprs) (T := F_Exprs) (N := 11) (o := 22) (r := 3) B 0 rfl rfl (by decide) i_Exprs t_Exprs_ok n_Exprs (B.2.2.2.1 _ k_193) rfl hnm rfl rfl d_Exprs_init_51 ?_
  have hok := hok.sr (o := 22) (k := 0) (r := 3) (by decide)
  refine mv_aload_n (pc := 54) B d_Exprs_init_54 rfl 0 rfl ?_
  refine mv_aload_n (pc := 55) B d_Exprs_init_55 rfl 2 rfl ?_
  refine mv_putRF (pc := 56) (ci := 6) (C := R_Exprs) (T := F_Exprs) (N := 11) (o := 22) (r := 13) B 1 rfl rfl (by decide) i_Exprs t_Exprs_ok n_Exprs (B.2.2.2.1 _ k_194) rfl hnm rfl rfl d_Exprs_init_56 ?_
  have hok := hok.sr (o := 22) (k := 1) (r := 13) (by decide)
  refine mv_aload_n (pc := 59) B d_Exprs_init_59 rfl 0 rfl ?_
  refine mv_aload_n (pc := 60) B d_Exprs_init_60 rfl 3 rfl ?_
  refine mv_putRF (pc := 61) (ci := 6) (C := R_Exprs) (T := F_Exprs) (N := 11) (o := 22) (r := 21) B 2 rfl rfl (by decide) i_Exprs t_Exprs_ok n_Exprs (B.2.2.2.1 _ k_195) rfl hnm rfl rfl d_Exprs_init_61 ?_
  have hok := hok.sr (o := 22) (k := 2) (r := 21) (by decide)
  exact mq_vret (pc := 64) B hr d_Exprs_init_64 (Nat.le_of_ble_eq_true rfl) (Nat.le_of_ble_eq_true rfl) hg ⟨rfl, rfl⟩
def y_Weaver_init : MethodName := ⟨"MachineLoom$Weaver", "<init>", "()V"⟩
abbrev b_Weaver_init : ByteArray := prog_12_method_1_code
theorem kc_Weaver_init : Cond.code y_Weaver_init b_Weaver_init 1 (Option.none : Option Jvm.ClassFile.FieldType) ∈ ma := ma_of (tb_1 _ (List.mem_of_getElem? (i := 50) rfl)) rfl
theorem k_51 : (Jvm.Cond.methodLink "MachineLoom$Weaver" (3 : Nat) ({ cls := "java/lang/Object", name := "<init>", desc := "()V" } : Jvm.MethodName)) ∈ ma := ma_of (tb_1 _ (List.mem_of_getElem? (i := 51) rfl)) rfl
theorem k_52 : (Jvm.Cond.classLink "MachineLoom$Weaver" (9 : Nat) "MachineLoom$Tokens") ∈ ma := ma_of (tb_1 _ (List.mem_of_getElem? (i := 52) rfl)) rfl
theorem k_53 : (Jvm.Cond.instantiable "MachineLoom$Tokens" (10 : Nat)) ∈ ma := ma_of (tb_1 _ (List.mem_of_getElem? (i := 53) rfl)) rfl
theorem k_55 : (Jvm.Cond.instanceMethod ({ cls := "MachineLoom$Tokens", name := "<init>", desc := "()V" } : Jvm.MethodName)) ∈ ma := ma_of (tb_1 _ (List.mem_of_getElem? (i := 55) rfl)) rfl
theorem k_128 : (Jvm.Cond.classLink "MachineLoom$Weaver" (18 : Nat) "MachineLoom$Names") ∈ ma := ma_of (tb_1 _ (List.mem_of_getElem? (i := 128) rfl)) rfl
theorem k_129 : (Jvm.Cond.instantiable "MachineLoom$Names" (10 : Nat)) ∈ ma := ma_of (tb_1 _ (List.mem_of_getElem? (i := 129) rfl)) rfl
theorem k_96 : (Jvm.Cond.fieldLink "MachineLoom$Weaver" (20 : Nat) "MachineLoom$Tokens" "symbols" "LMachineLoom$Symbols;") ∈ ma := ma_of (tb_1 _ (List.mem_of_getElem? (i := 96) rfl)) rfl
theorem k_131 : (Jvm.Cond.instanceMethod ({ cls := "MachineLoom$Names", name := "<init>", desc := "(LMachineLoom$Symbols;)V" } : Jvm.MethodName)) ∈ ma := ma_of (tb_1 _ (List.mem_of_getElem? (i := 131) rfl)) rfl
theorem k_130 : (Jvm.Cond.methodLink "MachineLoom$Weaver" (24 : Nat) ({ cls := "MachineLoom$Names", name := "<init>", desc := "(LMachineLoom$Symbols;)V" } : Jvm.MethodName)) ∈ ma := ma_of (tb_1 _ (List.mem_of_getElem? (i := 130) rfl)) rfl
theorem k_171 : (Jvm.Cond.classLink "MachineLoom$Weaver" (31 : Nat) "MachineLoom$Faults") ∈ ma := ma_of (tb_1 _ (List.mem_of_getElem? (i := 171) rfl)) rfl
theorem k_172 : (Jvm.Cond.instantiable "MachineLoom$Faults" (2 : Nat)) ∈ ma := ma_of (tb_1 _ (List.mem_of_getElem? (i := 172) rfl)) rfl
theorem k_174 : (Jvm.Cond.instanceMethod ({ cls := "MachineLoom$Faults", name := "<init>", desc := "()V" } : Jvm.MethodName)) ∈ ma := ma_of (tb_1 _ (List.mem_of_getElem? (i := 174) rfl)) rfl
theorem k_187 : (Jvm.Cond.classLink "MachineLoom$Weaver" (38 : Nat) "MachineLoom$Exprs") ∈ ma := ma_of (tb_1 _ (List.mem_of_getElem? (i := 187) rfl)) rfl
theorem k_188 : (Jvm.Cond.instantiable "MachineLoom$Exprs" (11 : Nat)) ∈ ma := ma_of (tb_1 _ (List.mem_of_getElem? (i := 188) rfl)) rfl
theorem k_190 : (Jvm.Cond.instanceMethod ({ cls := "MachineLoom$Exprs", name := "<init>", desc := "(LMachineLoom$Tokens;LMachineLoom$Names;LMachineLoom$Faults;)V" } : Jvm.MethodName)) ∈ ma := ma_of (tb_1 _ (List.mem_of_getElem? (i := 190) rfl)) rfl
theorem k_189 : (Jvm.Cond.methodLink "MachineLoom$Weaver" (40 : Nat) ({ cls := "MachineLoom$Exprs", name := "<init>", desc := "(LMachineLoom$Tokens;LMachineLoom$Names;LMachineLoom$Faults;)V" } : Jvm.MethodName)) ∈ ma := ma_of (tb_1 _ (List.mem_of_getElem? (i := 189) rfl)) rfl
theorem d_Weaver_init_0 : decode b_Weaver_init 0 = .ok (.aload_n 0, 1) := by decide +kernel
theorem d_Weaver_init_1 : decode b_Weaver_init 1 = .ok (.invokespecial 3, 3) := by decide +kernel
theorem d_Weaver_init_4 : decode b_Weaver_init 4 = .ok (.aload_n 0, 1) := by decide +kernel
theorem d_Weaver_init_5 : decode b_Weaver_init 5 = .ok (.new 9, 3) := by decide +kernel
theorem d_Weaver_init_8 : decode b_Weaver_init 8 = .ok (.dup, 1) := by decide +kernel
theorem d_Weaver_init_9 : decode b_Weaver_init 9 = .ok (.invokespecial 11, 3) := by decide +kernel
theorem d_Weaver_init_12 : decode b_Weaver_init 12 = .ok (.putfield 12, 3) := by decide +kernel
theorem d_Weaver_init_15 : decode b_Weaver_init 15 = .ok (.aload_n 0, 1) := by decide +kernel
theorem d_Weaver_init_16 : decode b_Weaver_init 16 = .ok (.new 18, 3) := by decide +kernel
theorem d_Weaver_init_19 : decode b_Weaver_init 19 = .ok (.dup, 1) := by decide +kernel
theorem d_Weaver_init_20 : decode b_Weaver_init 20 = .ok (.aload_n 0, 1) := by decide +kernel
theorem d_Weaver_init_21 : decode b_Weaver_init 21 = .ok (.getfield 12, 3) := by decide +kernel
theorem d_Weaver_init_24 : decode b_Weaver_init 24 = .ok (.getfield 20, 3) := by decide +kernel
theorem d_Weaver_init_27 : decode b_Weaver_init 27 = .ok (.invokespecial 24, 3) := by decide +kernel
theorem d_Weaver_init_30 : decode b_Weaver_init 30 = .ok (.putfield 27, 3) := by decide +kernel
theorem d_Weaver_init_33 : decode b_Weaver_init 33 = .ok (.aload_n 0, 1) := by decide +kernel
theorem d_Weaver_init_34 : decode b_Weaver_init 34 = .ok (.new 31, 3) := by decide +kernel
theorem d_Weaver_init_37 : decode b_Weaver_init 37 = .ok (.dup, 1) := by decide +kernel
theorem d_Weaver_init_38 : decode b_Weaver_init 38 = .ok (.invokespecial 33, 3) := by decide +kernel
theorem d_Weaver_init_41 : decode b_Weaver_init 41 = .ok (.putfield 34, 3) := by decide +kernel
theorem d_Weaver_init_44 : decode b_Weaver_init 44 = .ok (.aload_n 0, 1) := by decide +kernel
theorem d_Weaver_init_45 : decode b_Weaver_init 45 = .ok (.new 38, 3) := by decide +kernel
theorem d_Weaver_init_48 : decode b_Weaver_init 48 = .ok (.dup, 1) := by decide +kernel
theorem d_Weaver_init_49 : decode b_Weaver_init 49 = .ok (.aload_n 0, 1) := by decide +kernel
theorem d_Weaver_init_50 : decode b_Weaver_init 50 = .ok (.getfield 12, 3) := by decide +kernel
theorem d_Weaver_init_53 : decode b_Weaver_init 53 = .ok (.aload_n 0, 1) := by decide +kernel
theorem d_Weaver_init_54 : decode b_Weaver_init 54 = .ok (.getfield 27, 3) := by decide +kernel
theorem d_Weaver_init_57 : decode b_Weaver_init 57 = .ok (.aload_n 0, 1) := by decide +kernel
theorem d_Weaver_init_58 : decode b_Weaver_init 58 = .ok (.getfield 34, 3) := by decide +kernel
theorem d_Weaver_init_61 : decode b_Weaver_init 61 = .ok (.invokespecial 40, 3) := by decide +kernel
theorem d_Weaver_init_64 : decode b_Weaver_init 64 = .ok (.putfield 43, 3) := by decide +kernel
theorem d_Weaver_init_67 : decode b_Weaver_init 67 = .ok (.aload_n 0, 1) := by decide +kernel
theorem d_Weaver_init_68 : decode b_Weaver_init 68 = .ok (.bipush 61, 2) := by decide +kernel
theorem d_Weaver_init_70 : decode b_Weaver_init 70 = .ok (.newarray .int, 2) := by decide +kernel
theorem d_Weaver_init_72 : decode b_Weaver_init 72 = .ok (.putfield 47, 3) := by decide +kernel
theorem d_Weaver_init_75 : decode b_Weaver_init 75 = .ok (.aload_n 0, 1) := by decide +kernel
theorem d_Weaver_init_76 : decode b_Weaver_init 76 = .ok (.bipush 61, 2) := by decide +kernel
theorem d_Weaver_init_78 : decode b_Weaver_init 78 = .ok (.newarray .int, 2) := by decide +kernel
theorem d_Weaver_init_80 : decode b_Weaver_init 80 = .ok (.putfield 51, 3) := by decide +kernel
theorem d_Weaver_init_83 : decode b_Weaver_init 83 = .ok (.aload_n 0, 1) := by decide +kernel
theorem d_Weaver_init_84 : decode b_Weaver_init 84 = .ok (.bipush 61, 2) := by decide +kernel
theorem d_Weaver_init_86 : decode b_Weaver_init 86 = .ok (.newarray .int, 2) := by decide +kernel
theorem d_Weaver_init_88 : decode b_Weaver_init 88 = .ok (.putfield 54, 3) := by decide +kernel
theorem d_Weaver_init_91 : decode b_Weaver_init 91 = .ok (.aload_n 0, 1) := by decide +kernel
theorem d_Weaver_init_92 : decode b_Weaver_init 92 = .ok (.bipush 61, 2) := by decide +kernel
theorem d_Weaver_init_94 : decode b_Weaver_init 94 = .ok (.newarray .int, 2) := by decide +kernel
theorem d_Weaver_init_96 : decode b_Weaver_init 96 = .ok (.putfield 57, 3) := by decide +kernel
theorem d_Weaver_init_99 : decode b_Weaver_init 99 = .ok (.return_, 1) := by decide +kernel
def sg_Weaver (σ : mv_H) : mv_H := (mv_sr (mv_nw (mv_sr (mv_nw (mv_sr (mv_nw (mv_sr (mv_nw (mv_sr (sg_Exprs (mv_nw (mv_sr (sg_Faults (mv_nw (mv_sr (sg_Names (mv_nw (mv_sr (sg_Tokens (mv_nw σ 3)) 2 0 (some 3)) 13)) 2 1 (some 13)) 21)) 2 2 (some 21)) 22)) 2 3 (some 22)) 28) 2 11 (some 28)) 29) 2 12 (some 29)) 30) 2 13 (some 30)) 31) 2 14 (some 31))
theorem ok_Weaver {σ : mv_H} (hok : mv_ok σ 3) : mv_ok (sg_Weaver σ) 32 := by
  have hok := hok.nw
  have hok := ok_Tokens hok
  have hok := hok.sr (o := 2) (k := 0) (r := 3) (by decide)
  have hok := hok.nw
  have hok := ok_Names hok
  have hok := hok.sr (o := 2) (k := 1) (r := 13) (by decide)
  have hok := hok.nw
  have hok := ok_Faults hok
  have hok := hok.sr (o := 2) (k := 2) (r := 21) (by decide)
  have hok := hok.nw
  have hok := ok_Exprs hok
  have hok := hok.sr (o := 2) (k := 3) (r := 22) (by decide)
  have hok := hok.nw
  have hok := hok.sr (o := 2) (k := 11) (r := 28) (by decide)
  have hok := hok.nw
  have hok := hok.sr (o := 2) (k := 12) (r := 29) (by decide)
  have hok := hok.nw
  have hok := hok.sr (o := 2) (k := 13) (r := 30) (by decide)
  have hok := hok.nw
  have hok := hok.sr (o := 2) (k := 14) (r := 31) (by decide)
  exact hok
theorem kb_Weaver {σ : mv_H} (h0 : mv_ok σ 3) (hgh : gh σ) : Kpb 2 σ (sg_Weaver σ) := by
  have hok := h0
  have hk : Kpb 2 σ σ := Kpb.rf
  have hk := hk.nw (m := 3) (by decide)
  have hok := hok.nw
  have hk := hk.tr2 (kb_Tokens hok (hgh.kb hk)) (by decide)
  have hok := ok_Tokens hok
  have hk := hk.sr (a := 2) (k := 0) (v := some 3) (by decide)
  have hok := hok.sr (o := 2) (k := 0) (r := 3) (by decide)
  have hk := hk.nw (m := 13) (by decide)
  have hok := hok.nw
  have hk := hk.tr2 (kb_Names hok (hgh.kb hk)) (by decide)
  have hok := ok_Names hok
  have hk := hk.sr (a := 2) (k := 1) (v := some 13) (by decide)
  have hok := hok.sr (o := 2) (k := 1) (r := 13) (by decide)
  have hk := hk.nw (m := 21) (by decide)
  have hok := hok.nw
  have hk := hk.tr2 (kb_Faults hok (hgh.kb hk)) (by decide)
  have hok := ok_Faults hok
  have hk := hk.sr (a := 2) (k := 2) (v := some 21) (by decide)
  have hok := hok.sr (o := 2) (k := 2) (r := 21) (by decide)
  have hk := hk.nw (m := 22) (by decide)
  have hok := hok.nw
  have hk := hk.tr2 (kb_Exprs hok (hgh.kb hk)) (by decide)
  have hok := ok_Exprs hok
  have hk := hk.sr (a := 2) (k := 3) (v := some 22) (by decide)
  have hok := hok.sr (o := 2) (k := 3) (r := 22) (by decide)
  have hk := hk.nw (m := 28) (by decide)
  have hok := hok.nw
  have hk := hk.sr (a := 2) (k := 11) (v := some 28) (by decide)
  have hok := hok.sr (o := 2) (k := 11) (r := 28) (by decide)
  have hk := hk.nw (m := 29) (by decide)
  have hok := hok.nw
  have hk := hk.sr (a := 2) (k := 12) (v := some 29) (by decide)
  have hok := hok.sr (o := 2) (k := 12) (r := 29) (by decide)
  have hk := hk.nw (m := 30) (by decide)
  have hok := hok.nw
  have hk := hk.sr (a := 2) (k := 13) (v := some 30) (by decide)
  have hok := hok.sr (o := 2) (k := 13) (r := 30) (by decide)
  have hk := hk.nw (m := 31) (by decide)
  have hok := hok.nw
  have hk := hk.sr (a := 2) (k := 14) (v := some 31) (by decide)
  have hok := hok.sr (o := 2) (k := 14) (r := 31) (by decide)
  exact hk
set_option maxHeartbeats 4000000 in
set_option maxRecDepth 100000 in
theorem nc_Weaver (l : Launch) {dA : FieldType → ClassId} {D : va_G} {al : Nat → Nat} {sk sv : Nat → Nat} (hi : mv_inj (mq dA D al 3)) (hlt : l.stackTraces = false) (σ : mv_H) (hok : mv_ok σ 3) : mv_CN l y_Weaver_init (Cond.code y_Weaver_init b_Weaver_init 1 (Option.none : Option Jvm.ClassFile.FieldType) :: ma) ({ frames := 3, cells := 29, slots := 220386, locals := 60 }) dA D al 3 32 (mKt sk sv) [.ref (al 2)] σ (fun v9 σ9 => v9 = none ∧ σ9 = sg_Weaver σ) := by
  refine mv_CN.ofV (cc := b_Weaver_init) (nL := 1) (ret := (Option.none : Option Jvm.ClassFile.FieldType)) (by decide +kernel) rfl hi (Nat.le_of_ble_eq_true rfl) ?_
  intro p e s m args below meth c B hNs hr hnm hno
  have hg : mq_gr al al 3 3 s.heap.size := mq_gr.rf
  refine mv_aload_n (pc := 0) B d_Weaver_init_0 rfl 0 rfl ?_
  refine mv_obj (pc := 1) B (B.2.2.2.1 _ k_51) (B.2.2.2.1 _ k_43) (B.2.2.2.1 _ k_44) d_Weaver_init_1 (Nat.le_of_ble_eq_true rfl) ⟨by decide, by decide⟩ ?_
  refine mv_aload_n (pc := 4) B d_Weaver_init_4 rfl 0 rfl ?_
  refine mq_new (pc := 5) (ci := 2) (C := R_Tokens) (T := F_Tokens) (N := 10) (n2 := 4) B rfl (by decide) rfl hok rfl i_Tokens t_Tokens_ok (by decide) (B.2.2.2.1 _ k_52) (B.2.2.2.1 _ k_53) (B.2.2.2.1 _ k_3) (Nat.le_of_ble_eq_true rfl) (Nat.le_of_ble_eq_true rfl) d_Weaver_init_5 (fun al1 g1 B => ?_)
  have hok := hok.nw
  have hNs := mq_K (mKt_ok sk sv) g1 (by decide) (mw_le (by decide)) hNs
  have hg := hg.tr g1 (by decide)
  rw [← g1.1 2 (by decide)]
  refine mv_dup (pc := 8) B d_Weaver_init_8 rfl ?_
  refine mq_callIN (pc := 9) (na := 0) B (mKt_ok sk sv) hNs (by decide) (by decide) (nc_Tokens l B.2.2.2.2.2.1 hlt _ hok) rfl (ma_goodc kc_Tokens_init) (va_Nw.use rfl (hNs.1.1 _ (List.mem_of_getElem? (i := 1) rfl))) (B.2.2.2.1 _ k_55) (B.2.2.2.1 _ k_3) ⟨rfl, ⟨by decide +kernel, by decide +kernel⟩, by decide +kernel⟩ rfl d_Weaver_init_9 rfl (Nat.le_of_ble_eq_true rfl) ⟨by decide, by decide⟩ ⟨Nat.le_of_ble_eq_true rfl, Nat.le_of_ble_eq_true rfl⟩ (fun v9 al2 σ2 g2 B h9 => ?_)
  obtain ⟨rfl, rfl⟩ := h9
  have hok := ok_Tokens hok
  have hNs := mq_K (mKt_ok sk sv) g2 (by decide) (mw_le (by decide)) hNs
  have hg := hg.tr g2 (by decide)
  rw [← g2.1 2 (by decide)]
  rw [← g2.1 3 (by decide)]
  refine mv_putRF (pc := 12) (ci := 1) (C := R_Weaver) (T := F_Weaver) (N := 16) (o := 2) (r := 3) B 0 rfl rfl (by decide) i_Weaver t_Weaver_ok n_Weaver (B.2.2.2.1 _ k_228) rfl hnm rfl rfl d_Weaver_init_12 ?_
  have hok := hok.sr (o := 2) (k := 0) (r := 3) (by decide)
  refine mv_aload_n (pc := 15) B d_Weaver_init_15 rfl 0 rfl ?_
  refine mq_new (pc := 16) (ci := 4) (C := R_Names) (T := F_Names) (N := 10) (n2 := 14) B rfl (by decide) rfl hok rfl i_Names t_Names_ok (by decide) (B.2.2.2.1 _ k_128) (B.2.2.2.1 _ k_129) (B.2.2.2.1 _ k_5) (Nat.le_of_ble_eq_true rfl) (Nat.le_of_ble_eq_true rfl) d_Weaver_init_16 (fun al3 g3 B => ?_)
  have hok := hok.nw
  have hNs := mq_K (mKt_ok sk sv) g3 (by decide) (mw_le (by decide)) hNs
  have hg := hg.tr g3 (by decide)
  rw [← g3.1 2 (by decide)]
  refine mv_dup (pc := 19) B d_Weaver_init_19 rfl ?_
  refine mv_aload_n (pc := 20) B d_Weaver_init_20 rfl 0 rfl ?_
  refine mv_getR (pc := 21) (ci := 1) (C := R_Weaver) (T := F_Weaver) (N := 16) (o := 2) (r := 3) B 0 rfl rfl (by decide) i_Weaver (B.2.2.2.1 _ k_228) rfl rfl d_Weaver_init_21 ?_
  refine mv_getR (pc := 24) (ci := 2) (C := R_Tokens) (T := F_Tokens) (N := 10) (o := 3) (r := 7) B 3 rfl rfl (by decide) i_Tokens (B.2.2.2.1 _ k_96) rfl rfl d_Weaver_init_24 ?_
  refine mq_callI (pc := 27) (na := 1) B (mKt_ok sk sv) hNs (by decide) (by decide) (nc_Names l B.2.2.2.2.2.1 hlt _ hok) rfl (ma_goodc kc_Names_init) (B.2.2.2.1 _ k_130) (B.2.2.2.1 _ k_131) (B.2.2.2.1 _ k_5) ⟨rfl, ⟨by decide +kernel, by decide +kernel⟩, by decide +kernel⟩ rfl d_Weaver_init_27 rfl (Nat.le_of_ble_eq_true rfl) ⟨by decide, by decide⟩ ⟨Nat.le_of_ble_eq_true rfl, Nat.le_of_ble_eq_true rfl⟩ (fun v9 al4 σ4 g4 B h9 => ?_)
  obtain ⟨rfl, rfl⟩ := h9
  have hok := ok_Names hok
  have hNs := mq_K (mKt_ok sk sv) g4 (by decide) (mw_le (by decide)) hNs
  have hg := hg.tr g4 (by decide)
  rw [← g4.1 2 (by decide)]
  rw [← g4.1 13 (by decide)]
  refine mv_putRF (pc := 30) (ci := 1) (C := R_Weaver) (T := F_Weaver) (N := 16) (o := 2) (r := 13) B 1 rfl rfl (by decide) i_Weaver t_Weaver_ok n_Weaver (B.2.2.2.1 _ k_229) rfl hnm rfl rfl d_Weaver_init_30 ?_
  have hok := hok.sr (o := 2) (k := 1) (r := 13) (by decide)
  refine mv_aload_n (pc := 33) B d_Weaver_init_33 rfl 0 rfl ?_
  refine mq_new (pc := 34) (ci := 5) (C := R_Faults) (T := F_Faults) (N := 2) (n2 := 22) B rfl (by decide) rfl hok rfl i_Faults t_Faults_ok (by decide) (B.2.2.2.1 _ k_171) (B.2.2.2.1 _ k_172) (B.2.2.2.1 _ k_6) (Nat.le_of_ble_eq_true rfl) (Nat.le_of_ble_eq_true rfl) d_Weaver_init_34 (fun al5 g5 B => ?_)
  have hok := hok.nw
  have hNs := mq_K (mKt_ok sk sv) g5 (by decide) (mw_le (by decide)) hNs
  have hg := hg.tr g5 (by decide)
  rw [← g5.1 2 (by decide)]
  refine mv_dup (pc := 37) B d_Weaver_init_37 rfl ?_
  refine mq_callIN (pc := 38) (na := 0) B (mKt_ok sk sv) hNs (by decide) (by decide) (nc_Faults l B.2.2.2.2.2.1 hlt _ hok) rfl (ma_goodc kc_Faults_init) (va_Nw.use rfl (hNs.1.1 _ (List.mem_of_getElem? (i := 3) rfl))) (B.2.2.2.1 _ k_174) (B.2.2.2.1 _ k_6) ⟨rfl, ⟨by decide +kernel, by decide +kernel⟩, by decide +kernel⟩ rfl d_Weaver_init_38 rfl (Nat.le_of_ble_eq_true rfl) ⟨by decide, by decide⟩ ⟨Nat.le_of_ble_eq_true rfl, Nat.le_of_ble_eq_true rfl⟩ (fun v9 al6 σ6 g6 B h9 => ?_)
  obtain ⟨rfl, rfl⟩ := h9
  have hok := ok_Faults hok
  have hNs := mq_K (mKt_ok sk sv) g6 (by decide) (mw_le (by decide)) hNs
  have hg := hg.tr g6 (by decide)
  rw [← g6.1 2 (by decide)]
  rw [← g6.1 21 (by decide)]
  refine mv_putRF (pc := 41) (ci := 1) (C := R_Weaver) (T := F_Weaver) (N := 16) (o := 2) (r := 21) B 2 rfl rfl (by decide) i_Weaver t_Weaver_ok n_Weaver (B.2.2.2.1 _ k_230) rfl hnm rfl rfl d_Weaver_init_41 ?_
  have hok := hok.sr (o := 2) (k := 2) (r := 21) (by decide)
  refine mv_aload_n (pc := 44) B d_Weaver_init_44 rfl 0 rfl ?_
  refine mq_new (pc := 45) (ci := 6) (C := R_Exprs) (T := F_Exprs) (N := 11) (n2 := 23) B rfl (by decide) rfl hok rfl i_Exprs t_Exprs_ok (by decide) (B.2.2.2.1 _ k_187) (B.2.2.2.1 _ k_188) (B.2.2.2.1 _ k_7) (Nat.le_of_ble_eq_true rfl) (Nat.le_of_ble_eq_true rfl) d_Weaver_init_45 (fun al7 g7 B => ?_)
  have hok := hok.nw
  have hNs := mq_K (mKt_ok sk sv) g7 (by decide) (mw_le (by decide)) hNs
  have hg := hg.tr g7 (by decide)
  rw [← g7.1 2 (by decide)]
  refine mv_dup (pc := 48) B d_Weaver_init_48 rfl ?_
  refine mv_aload_n (pc := 49) B d_Weaver_init_49 rfl 0 rfl ?_
  refine mv_getR (pc := 50) (ci := 1) (C := R_Weaver) (T := F_Weaver) (N := 16) (o := 2) (r := 3) B 0 rfl rfl (by decide) i_Weaver (B.2.2.2.1 _ k_228) rfl rfl d_Weaver_init_50 ?_
  refine mv_aload_n (pc := 53) B d_Weaver_init_53 rfl 0 rfl ?_
  refine mv_getR (pc := 54) (ci := 1) (C := R_Weaver) (T := F_Weaver) (N := 16) (o := 2) (r := 13) B 1 rfl rfl (by decide) i_Weaver (B.2.2.2.1 _ k_229) rfl rfl d_Weaver_init_54 ?_
  refine mv_aload_n (pc := 57) B d_Weaver_init_57 rfl 0 rfl ?_
  refine mv_getR (pc := 58) (ci := 1) (C := R_Weaver) (T := F_Weaver) (N := 16) (o := 2) (r := 21) B 2 rfl rfl (by decide) i_Weaver (B.2.2.2.1 _ k_230) rfl rfl d_Weaver_init_58 ?_
  refine mq_callI (pc := 61) (na := 3) B (mKt_ok sk sv) hNs (by decide) (by decide) (nc_Exprs l B.2.2.2.2.2.1 hlt _ hok) rfl (ma_goodc kc_Exprs_init) (B.2.2.2.1 _ k_189) (B.2.2.2.1 _ k_190) (B.2.2.2.1 _ k_7) ⟨rfl, ⟨by decide +kernel, by decide +kernel⟩, by decide +kernel⟩ rfl d_Weaver_init_61 rfl (Nat.le_of_ble_eq_true rfl) ⟨by decide, by decide⟩ ⟨Nat.le_of_ble_eq_true rfl, Nat.le_of_ble_eq_true rfl⟩ (fun v9 al8 σ8 g8 B h9 => ?_)
  obtain ⟨rfl, rfl⟩ := h9
  have hok := ok_Exprs hok
  have hNs := mq_K (mKt_ok sk sv) g8 (by decide) (mw_le (by decide)) hNs
  have hg := hg.tr g8 (by decide)
  rw [← g8.1 2 (by decide)]
  rw [← g8.1 22 (by decide)]
  refine mv_putRF (pc := 64) (ci := 1) (C := R_Weaver) (T := F_Weaver) (N := 16) (o := 2) (r := 22) B 3 rfl rfl (by decide) i_Weaver t_Weaver_ok n_Weaver (B.2.2.2.1 _ k_232) rfl hnm rfl rfl d_Weaver_init_64 ?_
  have hok := hok.sr (o := 2) (k := 3) (r := 22) (by decide)
  refine mv_aload_n (pc := 67) B d_Weaver_init_67 rfl 0 rfl ?_
  refine mv_bipush (pc := 68) (v := 61) B d_Weaver_init_68 (by decide) ?_
  refine mq_newa (pc := 70) (ty := .int) (N := 61) (n2 := 29) B rfl (by decide) rfl hok (B.2.2.2.1 _ k_87) rfl (Or.inl rfl) (by decide) (by decide) (by decide) (Nat.le_of_ble_eq_true rfl) (Nat.le_of_ble_eq_true rfl) d_Weaver_init_70 (fun al9 g9 B => ?_)
  have hok := hok.nw
  have hNs := mq_K (mKt_ok sk sv) g9 (by decide) (mw_le (by decide)) hNs
  have hg := hg.tr g9 (by decide)
  rw [← g9.1 2 (by decide)]
  refine mv_putRF (pc := 72) (ci := 1) (C := R_Weaver) (T := F_Weaver) (N := 16) (o := 2) (r := 28) B 11 rfl rfl (by decide) i_Weaver t_Weaver_ok n_Weaver (B.2.2.2.1 _ k_241) rfl hnm rfl rfl d_Weaver_init_72 ?_
  have hok := hok.sr (o := 2) (k := 11) (r := 28) (by decide)
  refine mv_aload_n (pc := 75) B d_Weaver_init_75 rfl 0 rfl ?_
  refine mv_bipush (pc := 76) (v := 61) B d_Weaver_init_76 (by decide) ?_
  refine mq_newa (pc := 78) (ty := .int) (N := 61) (n2 := 30) B rfl (by decide) rfl hok (B.2.2.2.1 _ k_87) rfl (Or.inl rfl) (by decide) (by decide) (by decide) (Nat.le_of_ble_eq_true rfl) (Nat.le_of_ble_eq_true rfl) d_Weaver_init_78 (fun al10 g10 B => ?_)
  have hok := hok.nw
  have hNs := mq_K (mKt_ok sk sv) g10 (by decide) (mw_le (by decide)) hNs
  have hg := hg.tr g10 (by decide)
  rw [← g10.1 2 (by decide)]
  refine mv_putRF (pc := 80) (ci := 1) (C := R_Weaver) (T := F_Weaver) (N := 16) (o := 2) (r := 29) B 12 rfl rfl (by decide) i_Weaver t_Weaver_ok n_Weaver (B.2.2.2.1 _ k_242) rfl hnm rfl rfl d_Weaver_init_80 ?_
  have hok := hok.sr (o := 2) (k := 12) (r := 29) (by decide)
  refine mv_aload_n (pc := 83) B d_Weaver_init_83 rfl 0 rfl ?_
  refine mv_bipush (pc := 84) (v := 61) B d_Weaver_init_84 (by decide) ?_
  refine mq_newa (pc := 86) (ty := .int) (N := 61) (n2 := 31) B rfl (by decide) rfl hok (B.2.2.2.1 _ k_87) rfl (Or.inl rfl) (by decide) (by decide) (by decide) (Nat.le_of_ble_eq_true rfl) (Nat.le_of_ble_eq_true rfl) d_Weaver_init_86 (fun al11 g11 B => ?_)
  have hok := hok.nw
  have hNs := mq_K (mKt_ok sk sv) g11 (by decide) (mw_le (by decide)) hNs
  have hg := hg.tr g11 (by decide)
  rw [← g11.1 2 (by decide)]
  refine mv_putRF (pc := 88) (ci := 1) (C := R_Weaver) (T := F_Weaver) (N := 16) (o := 2) (r := 30) B 13 rfl rfl (by decide) i_Weaver t_Weaver_ok n_Weaver (B.2.2.2.1 _ k_243) rfl hnm rfl rfl d_Weaver_init_88 ?_
  have hok := hok.sr (o := 2) (k := 13) (r := 30) (by decide)
  refine mv_aload_n (pc := 91) B d_Weaver_init_91 rfl 0 rfl ?_
  refine mv_bipush (pc := 92) (v := 61) B d_Weaver_init_92 (by decide) ?_
  refine mq_newa (pc := 94) (ty := .int) (N := 61) (n2 := 32) B rfl (by decide) rfl hok (B.2.2.2.1 _ k_87) rfl (Or.inl rfl) (by decide) (by decide) (by decide) (Nat.le_of_ble_eq_true rfl) (Nat.le_of_ble_eq_true rfl) d_Weaver_init_94 (fun al12 g12 B => ?_)
  have hok := hok.nw
  have hNs := mq_K (mKt_ok sk sv) g12 (by decide) (mw_le (by decide)) hNs
  have hg := hg.tr g12 (by decide)
  rw [← g12.1 2 (by decide)]
  refine mv_putRF (pc := 96) (ci := 1) (C := R_Weaver) (T := F_Weaver) (N := 16) (o := 2) (r := 31) B 14 rfl rfl (by decide) i_Weaver t_Weaver_ok n_Weaver (B.2.2.2.1 _ k_244) rfl hnm rfl rfl d_Weaver_init_96 ?_
  have hok := hok.sr (o := 2) (k := 14) (r := 31) (by decide)
  exact mq_vret (pc := 99) B hr d_Weaver_init_99 (Nat.le_of_ble_eq_true rfl) (Nat.le_of_ble_eq_true rfl) hg ⟨rfl, rfl⟩
def y_Tree_init : MethodName := ⟨"MachineLoom$Tree", "<init>", "(I)V"⟩
abbrev b_Tree_init : ByteArray := prog_11_method_1_code
theorem kc_Tree_init : Cond.code y_Tree_init b_Tree_init 2 (Option.none : Option Jvm.ClassFile.FieldType) ∈ ma := ma_of (tb_2 _ (List.mem_of_getElem? (i := 49) rfl)) rfl
theorem k_290 : (Jvm.Cond.methodLink "MachineLoom$Tree" (3 : Nat) ({ cls := "java/lang/Object", name := "<init>", desc := "()V" } : Jvm.MethodName)) ∈ ma := ma_of (tb_2 _ (List.mem_of_getElem? (i := 50) rfl)) rfl
theorem d_Tree_init_0 : decode b_Tree_init 0 = .ok (.aload_n 0, 1) := by decide +kernel
theorem d_Tree_init_1 : decode b_Tree_init 1 = .ok (.invokespecial 3, 3) := by decide +kernel
theorem d_Tree_init_4 : decode b_Tree_init 4 = .ok (.aload_n 0, 1) := by decide +kernel
theorem d_Tree_init_5 : decode b_Tree_init 5 = .ok (.iload_n 1, 1) := by decide +kernel
theorem d_Tree_init_6 : decode b_Tree_init 6 = .ok (.newarray .int, 2) := by decide +kernel
theorem d_Tree_init_8 : decode b_Tree_init 8 = .ok (.putfield 9, 3) := by decide +kernel
theorem d_Tree_init_11 : decode b_Tree_init 11 = .ok (.aload_n 0, 1) := by decide +kernel
theorem d_Tree_init_12 : decode b_Tree_init 12 = .ok (.iconst 2, 1) := by decide +kernel
theorem d_Tree_init_13 : decode b_Tree_init 13 = .ok (.iload_n 1, 1) := by decide +kernel
theorem d_Tree_init_14 : decode b_Tree_init 14 = .ok (.imul, 1) := by decide +kernel
theorem d_Tree_init_15 : decode b_Tree_init 15 = .ok (.iconst 1, 1) := by decide +kernel
theorem d_Tree_init_16 : decode b_Tree_init 16 = .ok (.iadd, 1) := by decide +kernel
theorem d_Tree_init_17 : decode b_Tree_init 17 = .ok (.newarray .int, 2) := by decide +kernel
theorem d_Tree_init_19 : decode b_Tree_init 19 = .ok (.putfield 15, 3) := by decide +kernel
theorem d_Tree_init_22 : decode b_Tree_init 22 = .ok (.aload_n 0, 1) := by decide +kernel
theorem d_Tree_init_23 : decode b_Tree_init 23 = .ok (.iconst 2, 1) := by decide +kernel
theorem d_Tree_init_24 : decode b_Tree_init 24 = .ok (.iload_n 1, 1) := by decide +kernel
theorem d_Tree_init_25 : decode b_Tree_init 25 = .ok (.imul, 1) := by decide +kernel
theorem d_Tree_init_26 : decode b_Tree_init 26 = .ok (.iconst 1, 1) := by decide +kernel
theorem d_Tree_init_27 : decode b_Tree_init 27 = .ok (.iadd, 1) := by decide +kernel
theorem d_Tree_init_28 : decode b_Tree_init 28 = .ok (.newarray .int, 2) := by decide +kernel
theorem d_Tree_init_30 : decode b_Tree_init 30 = .ok (.putfield 18, 3) := by decide +kernel
theorem d_Tree_init_33 : decode b_Tree_init 33 = .ok (.aload_n 0, 1) := by decide +kernel
theorem d_Tree_init_34 : decode b_Tree_init 34 = .ok (.iconst 2, 1) := by decide +kernel
theorem d_Tree_init_35 : decode b_Tree_init 35 = .ok (.iload_n 1, 1) := by decide +kernel
theorem d_Tree_init_36 : decode b_Tree_init 36 = .ok (.imul, 1) := by decide +kernel
theorem d_Tree_init_37 : decode b_Tree_init 37 = .ok (.iconst 1, 1) := by decide +kernel
theorem d_Tree_init_38 : decode b_Tree_init 38 = .ok (.iadd, 1) := by decide +kernel
theorem d_Tree_init_39 : decode b_Tree_init 39 = .ok (.newarray .int, 2) := by decide +kernel
theorem d_Tree_init_41 : decode b_Tree_init 41 = .ok (.putfield 21, 3) := by decide +kernel
theorem d_Tree_init_44 : decode b_Tree_init 44 = .ok (.return_, 1) := by decide +kernel
def sg_Tree_a (σ : mv_H) : mv_H := (mv_sr (mv_nw (mv_sr (mv_nw (mv_sr (mv_nw (mv_sr (mv_nw σ 44) 43 0 (some 44)) 45) 43 1 (some 45)) 46) 43 2 (some 46)) 47) 43 3 (some 47))
theorem ok_Tree_a {σ : mv_H} (hok : mv_ok σ 44) : mv_ok (sg_Tree_a σ) 48 := by
  have hok := hok.nw
  have hok := hok.sr (o := 43) (k := 0) (r := 44) (by decide)
  have hok := hok.nw
  have hok := hok.sr (o := 43) (k := 1) (r := 45) (by decide)
  have hok := hok.nw
  have hok := hok.sr (o := 43) (k := 2) (r := 46) (by decide)
  have hok := hok.nw
  have hok := hok.sr (o := 43) (k := 3) (r := 47) (by decide)
  exact hok
theorem kb_Tree_a {σ : mv_H} (h0 : mv_ok σ 44) (hgh : gh σ) : Kpb 43 σ (sg_Tree_a σ) := by
  have hok := h0
  have hk : Kpb 43 σ σ := Kpb.rf
  have hk := hk.nw (m := 44) (by decide)
  have hok := hok.nw
  have hk := hk.sr (a := 43) (k := 0) (v := some 44) (by decide)
  have hok := hok.sr (o := 43) (k := 0) (r := 44) (by decide)
  have hk := hk.nw (m := 45) (by decide)
  have hok := hok.nw
  have hk := hk.sr (a := 43) (k := 1) (v := some 45) (by decide)
  have hok := hok.sr (o := 43) (k := 1) (r := 45) (by decide)
  have hk := hk.nw (m := 46) (by decide)
  have hok := hok.nw
  have hk := hk.sr (a := 43) (k := 2) (v := some 46) (by decide)
  have hok := hok.sr (o := 43) (k := 2) (r := 46) (by decide)
  have hk := hk.nw (m := 47) (by decide)
  have hok := hok.nw
  have hk := hk.sr (a := 43) (k := 3) (v := some 47) (by decide)
  have hok := hok.sr (o := 43) (k := 3) (r := 47) (by decide)
  exact hk
set_option maxHeartbeats 4000000 in
set_option maxRecDepth 100000 in
theorem nc_Tree_a (l : Launch) {dA : FieldType → ClassId} {D : va_G} {al : Nat → Nat} {sk sv : Nat → Nat} (hi : mv_inj (mq dA D al 44)) (hlt : l.stackTraces = false) (σ : mv_H) (hok : mv_ok σ 44) : mv_CN l y_Tree_init (Cond.code y_Tree_init b_Tree_init 2 (Option.none : Option Jvm.ClassFile.FieldType) :: ma) ({ frames := 1, cells := 4, slots := 3587, locals := 20 }) dA D al 44 48 (mKt sk sv) [.ref (al 43), .int 512] σ (fun v9 σ9 => v9 = none ∧ σ9 = sg_Tree_a σ) := by
  refine mv_CN.ofV (cc := b_Tree_init) (nL := 2) (ret := (Option.none : Option Jvm.ClassFile.FieldType)) (by decide +kernel) rfl hi (Nat.le_of_ble_eq_true rfl) ?_
  intro p e s m args below meth c B hNs hr hnm hno
  have hg : mq_gr al al 44 44 s.heap.size := mq_gr.rf
  refine mv_aload_n (pc := 0) B d_Tree_init_0 rfl 0 rfl ?_
  refine mv_obj (pc := 1) B (B.2.2.2.1 _ k_290) (B.2.2.2.1 _ k_43) (B.2.2.2.1 _ k_44) d_Tree_init_1 (Nat.le_of_ble_eq_true rfl) ⟨by decide, by decide⟩ ?_
  refine mv_aload_n (pc := 4) B d_Tree_init_4 rfl 0 rfl ?_
  refine mv_iload_n (pc := 5) B d_Tree_init_5 rfl 1 rfl ?_
  refine mq_newa (pc := 6) (ty := .int) (N := 512) (n2 := 45) B rfl (by decide) rfl hok (B.2.2.2.1 _ k_87) rfl (Or.inl rfl) (by decide) (by decide) (by decide) (Nat.le_of_ble_eq_true rfl) (Nat.le_of_ble_eq_true rfl) d_Tree_init_6 (fun al1 g1 B => ?_)
  have hok := hok.nw
  have hNs := mq_K (mKt_ok sk sv) g1 (by decide) (mw_le (by decide)) hNs
  have hg := hg.tr g1 (by decide)
  rw [← g1.1 43 (by decide)]
  refine mv_putRF (pc := 8) (ci := 8) (C := R_Tree) (T := F_Tree) (N := 5) (o := 43) (r := 44) B 0 rfl rfl (by decide) i_Tree t_Tree_ok n_Tree (B.2.2.2.1 _ k_291) rfl hnm rfl rfl d_Tree_init_8 ?_
  have hok := hok.sr (o := 43) (k := 0) (r := 44) (by decide)
  refine mv_aload_n (pc := 11) B d_Tree_init_11 rfl 0 rfl ?_
  refine mv_iconst (pc := 12) (v := 2) B d_Tree_init_12 (by decide) ?_
  refine mv_iload_n (pc := 13) B d_Tree_init_13 rfl 1 rfl ?_
  refine mv_imul (pc := 14) B d_Tree_init_14 ?_
  refine mv_iconst (pc := 15) (v := 1) B d_Tree_init_15 (by decide) ?_
  refine mv_iadd (pc := 16) B d_Tree_init_16 ?_
  refine mq_newa (pc := 17) (ty := .int) (N := 1025) (n2 := 46) B rfl (by decide) rfl hok (B.2.2.2.1 _ k_87) rfl (Or.inl rfl) (by decide) (by decide) (by decide) (Nat.le_of_ble_eq_true rfl) (Nat.le_of_ble_eq_true rfl) d_Tree_init_17 (fun al2 g2 B => ?_)
  have hok := hok.nw
  have hNs := mq_K (mKt_ok sk sv) g2 (by decide) (mw_le (by decide)) hNs
  have hg := hg.tr g2 (by decide)
  rw [← g2.1 43 (by decide)]
  refine mv_putRF (pc := 19) (ci := 8) (C := R_Tree) (T := F_Tree) (N := 5) (o := 43) (r := 45) B 1 rfl rfl (by decide) i_Tree t_Tree_ok n_Tree (B.2.2.2.1 _ k_293) rfl hnm rfl rfl d_Tree_init_19 ?_
  have hok := hok.sr (o := 43) (k := 1) (r := 45) (by decide)
  refine mv_aload_n (pc := 22) B d_Tree_init_22 rfl 0 rfl ?_
  refine mv_iconst (pc := 23) (v := 2) B d_Tree_init_23 (by decide) ?_
  refine mv_iload_n (pc := 24) B d_Tree_init_24 rfl 1 rfl ?_
  refine mv_imul (pc := 25) B d_Tree_init_25 ?_
  refine mv_iconst (pc := 26) (v := 1) B d_Tree_init_26 (by decide) ?_
  refine mv_iadd (pc := 27) B d_Tree_init_27 ?_
  refine mq_newa (pc := 28) (ty := .int) (N := 1025) (n2 := 47) B rfl (by decide) rfl hok (B.2.2.2.1 _ k_87) rfl (Or.inl rfl) (by decide) (by decide) (by decide) (Nat.le_of_ble_eq_true rfl) (Nat.le_of_ble_eq_true rfl) d_Tree_init_28 (fun al3 g3 B => ?_)
  have hok := hok.nw
  have hNs := mq_K (mKt_ok sk sv) g3 (by decide) (mw_le (by decide)) hNs
  have hg := hg.tr g3 (by decide)
  rw [← g3.1 43 (by decide)]
  refine mv_putRF (pc := 30) (ci := 8) (C := R_Tree) (T := F_Tree) (N := 5) (o := 43) (r := 46) B 2 rfl rfl (by decide) i_Tree t_Tree_ok n_Tree (B.2.2.2.1 _ k_294) rfl hnm rfl rfl d_Tree_init_30 ?_
  have hok := hok.sr (o := 43) (k := 2) (r := 46) (by decide)
  refine mv_aload_n (pc := 33) B d_Tree_init_33 rfl 0 rfl ?_
  refine mv_iconst (pc := 34) (v := 2) B d_Tree_init_34 (by decide) ?_
  refine mv_iload_n (pc := 35) B d_Tree_init_35 rfl 1 rfl ?_
  refine mv_imul (pc := 36) B d_Tree_init_36 ?_
  refine mv_iconst (pc := 37) (v := 1) B d_Tree_init_37 (by decide) ?_
  refine mv_iadd (pc := 38) B d_Tree_init_38 ?_
  refine mq_newa (pc := 39) (ty := .int) (N := 1025) (n2 := 48) B rfl (by decide) rfl hok (B.2.2.2.1 _ k_87) rfl (Or.inl rfl) (by decide) (by decide) (by decide) (Nat.le_of_ble_eq_true rfl) (Nat.le_of_ble_eq_true rfl) d_Tree_init_39 (fun al4 g4 B => ?_)
  have hok := hok.nw
  have hNs := mq_K (mKt_ok sk sv) g4 (by decide) (mw_le (by decide)) hNs
  have hg := hg.tr g4 (by decide)
  rw [← g4.1 43 (by decide)]
  refine mv_putRF (pc := 41) (ci := 8) (C := R_Tree) (T := F_Tree) (N := 5) (o := 43) (r := 47) B 3 rfl rfl (by decide) i_Tree t_Tree_ok n_Tree (B.2.2.2.1 _ k_296) rfl hnm rfl rfl d_Tree_init_41 ?_
  have hok := hok.sr (o := 43) (k := 3) (r := 47) (by decide)
  exact mq_vret (pc := 44) B hr d_Tree_init_44 (Nat.le_of_ble_eq_true rfl) (Nat.le_of_ble_eq_true rfl) hg ⟨rfl, rfl⟩
def y_Program_init : MethodName := ⟨"MachineLoom$Program", "<init>", "(II)V"⟩
abbrev b_Program_init : ByteArray := prog_7_method_1_code
theorem kc_Program_init : Cond.code y_Program_init b_Program_init 3 (Option.none : Option Jvm.ClassFile.FieldType) ∈ ma := ma_of (tb_2 _ (List.mem_of_getElem? (i := 43) rfl)) rfl
theorem k_284 : (Jvm.Cond.methodLink "MachineLoom$Program" (3 : Nat) ({ cls := "java/lang/Object", name := "<init>", desc := "()V" } : Jvm.MethodName)) ∈ ma := ma_of (tb_2 _ (List.mem_of_getElem? (i := 44) rfl)) rfl
theorem k_310 : (Jvm.Cond.arrayClass Jvm.ClassFile.FieldType.boolean) ∈ ma := ma_of (tb_2 _ (List.mem_of_getElem? (i := 70) rfl)) rfl
theorem k_285 : (Jvm.Cond.classLink "MachineLoom$Program" (45 : Nat) "MachineLoom$Tree") ∈ ma := ma_of (tb_2 _ (List.mem_of_getElem? (i := 45) rfl)) rfl
theorem k_286 : (Jvm.Cond.instantiable "MachineLoom$Tree" (5 : Nat)) ∈ ma := ma_of (tb_2 _ (List.mem_of_getElem? (i := 46) rfl)) rfl
theorem k_288 : (Jvm.Cond.instanceMethod ({ cls := "MachineLoom$Tree", name := "<init>", desc := "(I)V" } : Jvm.MethodName)) ∈ ma := ma_of (tb_2 _ (List.mem_of_getElem? (i := 48) rfl)) rfl
theorem k_287 : (Jvm.Cond.methodLink "MachineLoom$Program" (47 : Nat) ({ cls := "MachineLoom$Tree", name := "<init>", desc := "(I)V" } : Jvm.MethodName)) ∈ ma := ma_of (tb_2 _ (List.mem_of_getElem? (i := 47) rfl)) rfl
theorem k_364 : (Jvm.Cond.fieldLink "MachineLoom$Program" (50 : Nat) "MachineLoom$Program" "tree" "LMachineLoom$Tree;") ∈ ma := ma_of (tb_2 _ (List.mem_of_getElem? (i := 124) rfl)) rfl
theorem d_Program_init_0 : decode b_Program_init 0 = .ok (.aload_n 0, 1) := by decide +kernel
theorem d_Program_init_1 : decode b_Program_init 1 = .ok (.invokespecial 3, 3) := by decide +kernel
theorem d_Program_init_4 : decode b_Program_init 4 = .ok (.aload_n 0, 1) := by decide +kernel
theorem d_Program_init_5 : decode b_Program_init 5 = .ok (.bipush 64, 2) := by decide +kernel
theorem d_Program_init_7 : decode b_Program_init 7 = .ok (.newarray .int, 2) := by decide +kernel
theorem d_Program_init_9 : decode b_Program_init 9 = .ok (.putfield 9, 3) := by decide +kernel
theorem d_Program_init_12 : decode b_Program_init 12 = .ok (.aload_n 0, 1) := by decide +kernel
theorem d_Program_init_13 : decode b_Program_init 13 = .ok (.bipush 64, 2) := by decide +kernel
theorem d_Program_init_15 : decode b_Program_init 15 = .ok (.newarray .int, 2) := by decide +kernel
theorem d_Program_init_17 : decode b_Program_init 17 = .ok (.putfield 15, 3) := by decide +kernel
theorem d_Program_init_20 : decode b_Program_init 20 = .ok (.aload_n 0, 1) := by decide +kernel
theorem d_Program_init_21 : decode b_Program_init 21 = .ok (.bipush 64, 2) := by decide +kernel
theorem d_Program_init_23 : decode b_Program_init 23 = .ok (.newarray .int, 2) := by decide +kernel
theorem d_Program_init_25 : decode b_Program_init 25 = .ok (.putfield 18, 3) := by decide +kernel
theorem d_Program_init_28 : decode b_Program_init 28 = .ok (.aload_n 0, 1) := by decide +kernel
theorem d_Program_init_29 : decode b_Program_init 29 = .ok (.bipush 64, 2) := by decide +kernel
theorem d_Program_init_31 : decode b_Program_init 31 = .ok (.newarray .boolean, 2) := by decide +kernel
theorem d_Program_init_33 : decode b_Program_init 33 = .ok (.putfield 21, 3) := by decide +kernel
theorem d_Program_init_36 : decode b_Program_init 36 = .ok (.aload_n 0, 1) := by decide +kernel
theorem d_Program_init_37 : decode b_Program_init 37 = .ok (.iload_n 2, 1) := by decide +kernel
theorem d_Program_init_38 : decode b_Program_init 38 = .ok (.newarray .long, 2) := by decide +kernel
theorem d_Program_init_40 : decode b_Program_init 40 = .ok (.putfield 25, 3) := by decide +kernel
theorem d_Program_init_43 : decode b_Program_init 43 = .ok (.aload_n 0, 1) := by decide +kernel
theorem d_Program_init_44 : decode b_Program_init 44 = .ok (.iload_n 2, 1) := by decide +kernel
theorem d_Program_init_45 : decode b_Program_init 45 = .ok (.newarray .long, 2) := by decide +kernel
theorem d_Program_init_47 : decode b_Program_init 47 = .ok (.putfield 29, 3) := by decide +kernel
theorem d_Program_init_50 : decode b_Program_init 50 = .ok (.aload_n 0, 1) := by decide +kernel
theorem d_Program_init_51 : decode b_Program_init 51 = .ok (.iload_n 2, 1) := by decide +kernel
theorem d_Program_init_52 : decode b_Program_init 52 = .ok (.newarray .int, 2) := by decide +kernel
theorem d_Program_init_54 : decode b_Program_init 54 = .ok (.putfield 32, 3) := by decide +kernel
theorem d_Program_init_57 : decode b_Program_init 57 = .ok (.aload_n 0, 1) := by decide +kernel
theorem d_Program_init_58 : decode b_Program_init 58 = .ok (.iload_n 2, 1) := by decide +kernel
theorem d_Program_init_59 : decode b_Program_init 59 = .ok (.bipush 64, 2) := by decide +kernel
theorem d_Program_init_61 : decode b_Program_init 61 = .ok (.imul, 1) := by decide +kernel
theorem d_Program_init_62 : decode b_Program_init 62 = .ok (.newarray .byte, 2) := by decide +kernel
theorem d_Program_init_64 : decode b_Program_init 64 = .ok (.putfield 35, 3) := by decide +kernel
theorem d_Program_init_67 : decode b_Program_init 67 = .ok (.aload_n 0, 1) := by decide +kernel
theorem d_Program_init_68 : decode b_Program_init 68 = .ok (.iload_n 1, 1) := by decide +kernel
theorem d_Program_init_69 : decode b_Program_init 69 = .ok (.newarray .int, 2) := by decide +kernel
theorem d_Program_init_71 : decode b_Program_init 71 = .ok (.putfield 39, 3) := by decide +kernel
theorem d_Program_init_74 : decode b_Program_init 74 = .ok (.aload_n 0, 1) := by decide +kernel
theorem d_Program_init_75 : decode b_Program_init 75 = .ok (.iload_n 1, 1) := by decide +kernel
theorem d_Program_init_76 : decode b_Program_init 76 = .ok (.newarray .long, 2) := by decide +kernel
theorem d_Program_init_78 : decode b_Program_init 78 = .ok (.putfield 42, 3) := by decide +kernel
theorem d_Program_init_81 : decode b_Program_init 81 = .ok (.aload_n 0, 1) := by decide +kernel
theorem d_Program_init_82 : decode b_Program_init 82 = .ok (.new 45, 3) := by decide +kernel
theorem d_Program_init_85 : decode b_Program_init 85 = .ok (.dup, 1) := by decide +kernel
theorem d_Program_init_86 : decode b_Program_init 86 = .ok (.iload_n 2, 1) := by decide +kernel
theorem d_Program_init_87 : decode b_Program_init 87 = .ok (.invokespecial 47, 3) := by decide +kernel
theorem d_Program_init_90 : decode b_Program_init 90 = .ok (.putfield 50, 3) := by decide +kernel
theorem d_Program_init_93 : decode b_Program_init 93 = .ok (.return_, 1) := by decide +kernel
def sg_Program_a (σ : mv_H) : mv_H := (mv_sr (sg_Tree_a (mv_nw (mv_sr (mv_nw (mv_sr (mv_nw (mv_sr (mv_nw (mv_sr (mv_nw (mv_sr (mv_nw (mv_sr (mv_nw (mv_sr (mv_nw (mv_sr (mv_nw (mv_sr (mv_nw (mv_sr (mv_nw σ 33) 32 2 (some 33)) 34) 32 3 (some 34)) 35) 32 4 (some 35)) 36) 32 5 (some 36)) 37) 32 11 (some 37)) 38) 32 12 (some 38)) 39) 32 13 (some 39)) 40) 32 14 (some 40)) 41) 32 15 (some 41)) 42) 32 16 (some 42)) 43)) 32 18 (some 43))
theorem ok_Program_a {σ : mv_H} (hok : mv_ok σ 33) : mv_ok (sg_Program_a σ) 48 := by
  have hok := hok.nw
  have hok := hok.sr (o := 32) (k := 2) (r := 33) (by decide)
  have hok := hok.nw
  have hok := hok.sr (o := 32) (k := 3) (r := 34) (by decide)
  have hok := hok.nw
  have hok := hok.sr (o := 32) (k := 4) (r := 35) (by decide)
  have hok := hok.nw
  have hok := hok.sr (o := 32) (k := 5) (r := 36) (by decide)
  have hok := hok.nw
  have hok := hok.sr (o := 32) (k := 11) (r := 37) (by decide)
  have hok := hok.nw
  have hok := hok.sr (o := 32) (k := 12) (r := 38) (by decide)
  have hok := hok.nw
  have hok := hok.sr (o := 32) (k := 13) (r := 39) (by decide)
  have hok := hok.nw
  have hok := hok.sr (o := 32) (k := 14) (r := 40) (by decide)
  have hok := hok.nw
  have hok := hok.sr (o := 32) (k := 15) (r := 41) (by decide)
  have hok := hok.nw
  have hok := hok.sr (o := 32) (k := 16) (r := 42) (by decide)
  have hok := hok.nw
  have hok := ok_Tree_a hok
  have hok := hok.sr (o := 32) (k := 18) (r := 43) (by decide)
  exact hok
theorem kb_Program_a {σ : mv_H} (h0 : mv_ok σ 33) (hgh : gh σ) : Kpb 32 σ (sg_Program_a σ) := by
  have hok := h0
  have hk : Kpb 32 σ σ := Kpb.rf
  have hk := hk.nw (m := 33) (by decide)
  have hok := hok.nw
  have hk := hk.sr (a := 32) (k := 2) (v := some 33) (by decide)
  have hok := hok.sr (o := 32) (k := 2) (r := 33) (by decide)
  have hk := hk.nw (m := 34) (by decide)
  have hok := hok.nw
  have hk := hk.sr (a := 32) (k := 3) (v := some 34) (by decide)
  have hok := hok.sr (o := 32) (k := 3) (r := 34) (by decide)
  have hk := hk.nw (m := 35) (by decide)
  have hok := hok.nw
  have hk := hk.sr (a := 32) (k := 4) (v := some 35) (by decide)
  have hok := hok.sr (o := 32) (k := 4) (r := 35) (by decide)
  have hk := hk.nw (m := 36) (by decide)
  have hok := hok.nw
  have hk := hk.sr (a := 32) (k := 5) (v := some 36) (by decide)
  have hok := hok.sr (o := 32) (k := 5) (r := 36) (by decide)
  have hk := hk.nw (m := 37) (by decide)
  have hok := hok.nw
  have hk := hk.sr (a := 32) (k := 11) (v := some 37) (by decide)
  have hok := hok.sr (o := 32) (k := 11) (r := 37) (by decide)
  have hk := hk.nw (m := 38) (by decide)
  have hok := hok.nw
  have hk := hk.sr (a := 32) (k := 12) (v := some 38) (by decide)
  have hok := hok.sr (o := 32) (k := 12) (r := 38) (by decide)
  have hk := hk.nw (m := 39) (by decide)
  have hok := hok.nw
  have hk := hk.sr (a := 32) (k := 13) (v := some 39) (by decide)
  have hok := hok.sr (o := 32) (k := 13) (r := 39) (by decide)
  have hk := hk.nw (m := 40) (by decide)
  have hok := hok.nw
  have hk := hk.sr (a := 32) (k := 14) (v := some 40) (by decide)
  have hok := hok.sr (o := 32) (k := 14) (r := 40) (by decide)
  have hk := hk.nw (m := 41) (by decide)
  have hok := hok.nw
  have hk := hk.sr (a := 32) (k := 15) (v := some 41) (by decide)
  have hok := hok.sr (o := 32) (k := 15) (r := 41) (by decide)
  have hk := hk.nw (m := 42) (by decide)
  have hok := hok.nw
  have hk := hk.sr (a := 32) (k := 16) (v := some 42) (by decide)
  have hok := hok.sr (o := 32) (k := 16) (r := 42) (by decide)
  have hk := hk.nw (m := 43) (by decide)
  have hok := hok.nw
  have hk := hk.tr2 (kb_Tree_a hok (hgh.kb hk)) (by decide)
  have hok := ok_Tree_a hok
  have hk := hk.sr (a := 32) (k := 18) (v := some 43) (by decide)
  have hok := hok.sr (o := 32) (k := 18) (r := 43) (by decide)
  exact hk
set_option maxHeartbeats 4000000 in
set_option maxRecDepth 100000 in
theorem nc_Program_a (l : Launch) {dA : FieldType → ClassId} {D : va_G} {al : Nat → Nat} {sk sv : Nat → Nat} (hi : mv_inj (mq dA D al 33)) (hlt : l.stackTraces = false) (σ : mv_H) (hok : mv_ok σ 33) : mv_CN l y_Program_init (Cond.code y_Program_init b_Program_init 3 (Option.none : Option Jvm.ClassFile.FieldType) :: ma) ({ frames := 2, cells := 15, slots := 103688, locals := 41 }) dA D al 33 48 (mKt sk sv) [.ref (al 32), .int 32768, .int 512] σ (fun v9 σ9 => v9 = none ∧ σ9 = sg_Program_a σ) := by
  refine mv_CN.ofV (cc := b_Program_init) (nL := 3) (ret := (Option.none : Option Jvm.ClassFile.FieldType)) (by decide +kernel) rfl hi (Nat.le_of_ble_eq_true rfl) ?_
  intro p e s m args below meth c B hNs hr hnm hno
  have hg : mq_gr al al 33 33 s.heap.size := mq_gr.rf
  refine mv_aload_n (pc := 0) B d_Program_init_0 rfl 0 rfl ?_
  refine mv_obj (pc := 1) B (B.2.2.2.1 _ k_284) (B.2.2.2.1 _ k_43) (B.2.2.2.1 _ k_44) d_Program_init_1 (Nat.le_of_ble_eq_true rfl) ⟨by decide, by decide⟩ ?_
  refine mv_aload_n (pc := 4) B d_Program_init_4 rfl 0 rfl ?_
  refine mv_bipush (pc := 5) (v := 64) B d_Program_init_5 (by decide) ?_
  refine mq_newa (pc := 7) (ty := .int) (N := 64) (n2 := 34) B rfl (by decide) rfl hok (B.2.2.2.1 _ k_87) rfl (Or.inl rfl) (by decide) (by decide) (by decide) (Nat.le_of_ble_eq_true rfl) (Nat.le_of_ble_eq_true rfl) d_Program_init_7 (fun al1 g1 B => ?_)
  have hok := hok.nw
  have hNs := mq_K (mKt_ok sk sv) g1 (by decide) (mw_le (by decide)) hNs
  have hg := hg.tr g1 (by decide)
  rw [← g1.1 32 (by decide)]
  refine mv_putRF (pc := 9) (ci := 7) (C := R_Program) (T := F_Program) (N := 19) (o := 32) (r := 33) B 2 rfl rfl (by decide) i_Program t_Program_ok n_Program (B.2.2.2.1 _ k_318) rfl hnm rfl rfl d_Program_init_9 ?_
  have hok := hok.sr (o := 32) (k := 2) (r := 33) (by decide)
  refine mv_aload_n (pc := 12) B d_Program_init_12 rfl 0 rfl ?_
  refine mv_bipush (pc := 13) (v := 64) B d_Program_init_13 (by decide) ?_
  refine mq_newa (pc := 15) (ty := .int) (N := 64) (n2 := 35) B rfl (by decide) rfl hok (B.2.2.2.1 _ k_87) rfl (Or.inl rfl) (by decide) (by decide) (by decide) (Nat.le_of_ble_eq_true rfl) (Nat.le_of_ble_eq_true rfl) d_Program_init_15 (fun al2 g2 B => ?_)
  have hok := hok.nw
  have hNs := mq_K (mKt_ok sk sv) g2 (by decide) (mw_le (by decide)) hNs
  have hg := hg.tr g2 (by decide)
  rw [← g2.1 32 (by decide)]
  refine mv_putRF (pc := 17) (ci := 7) (C := R_Program) (T := F_Program) (N := 19) (o := 32) (r := 34) B 3 rfl rfl (by decide) i_Program t_Program_ok n_Program (B.2.2.2.1 _ k_323) rfl hnm rfl rfl d_Program_init_17 ?_
  have hok := hok.sr (o := 32) (k := 3) (r := 34) (by decide)
  refine mv_aload_n (pc := 20) B d_Program_init_20 rfl 0 rfl ?_
  refine mv_bipush (pc := 21) (v := 64) B d_Program_init_21 (by decide) ?_
  refine mq_newa (pc := 23) (ty := .int) (N := 64) (n2 := 36) B rfl (by decide) rfl hok (B.2.2.2.1 _ k_87) rfl (Or.inl rfl) (by decide) (by decide) (by decide) (Nat.le_of_ble_eq_true rfl) (Nat.le_of_ble_eq_true rfl) d_Program_init_23 (fun al3 g3 B => ?_)
  have hok := hok.nw
  have hNs := mq_K (mKt_ok sk sv) g3 (by decide) (mw_le (by decide)) hNs
  have hg := hg.tr g3 (by decide)
  rw [← g3.1 32 (by decide)]
  refine mv_putRF (pc := 25) (ci := 7) (C := R_Program) (T := F_Program) (N := 19) (o := 32) (r := 35) B 4 rfl rfl (by decide) i_Program t_Program_ok n_Program (B.2.2.2.1 _ k_326) rfl hnm rfl rfl d_Program_init_25 ?_
  have hok := hok.sr (o := 32) (k := 4) (r := 35) (by decide)
  refine mv_aload_n (pc := 28) B d_Program_init_28 rfl 0 rfl ?_
  refine mv_bipush (pc := 29) (v := 64) B d_Program_init_29 (by decide) ?_
  refine mq_newa (pc := 31) (ty := .boolean) (N := 64) (n2 := 37) B rfl (by decide) rfl hok (B.2.2.2.1 _ k_310) rfl (Or.inr (Or.inr (Or.inr rfl))) (by decide) (by decide) (by decide) (Nat.le_of_ble_eq_true rfl) (Nat.le_of_ble_eq_true rfl) d_Program_init_31 (fun al4 g4 B => ?_)
  have hok := hok.nw
  have hNs := mq_K (mKt_ok sk sv) g4 (by decide) (mw_le (by decide)) hNs
  have hg := hg.tr g4 (by decide)
  rw [← g4.1 32 (by decide)]
  refine mv_putRF (pc := 33) (ci := 7) (C := R_Program) (T := F_Program) (N := 19) (o := 32) (r := 36) B 5 rfl rfl (by decide) i_Program t_Program_ok n_Program (B.2.2.2.1 _ k_330) rfl hnm rfl rfl d_Program_init_33 ?_
  have hok := hok.sr (o := 32) (k := 5) (r := 36) (by decide)
  refine mv_aload_n (pc := 36) B d_Program_init_36 rfl 0 rfl ?_
  refine mv_iload_n (pc := 37) B d_Program_init_37 rfl 2 rfl ?_
  refine mq_newa (pc := 38) (ty := .long) (N := 512) (n2 := 38) B rfl (by decide) rfl hok (B.2.2.2.1 _ k_88) rfl (Or.inr (Or.inl rfl)) (by decide) (by decide) (by decide) (Nat.le_of_ble_eq_true rfl) (Nat.le_of_ble_eq_true rfl) d_Program_init_38 (fun al5 g5 B => ?_)
  have hok := hok.nw
  have hNs := mq_K (mKt_ok sk sv) g5 (by decide) (mw_le (by decide)) hNs
  have hg := hg.tr g5 (by decide)
  rw [← g5.1 32 (by decide)]
  refine mv_putRF (pc := 40) (ci := 7) (C := R_Program) (T := F_Program) (N := 19) (o := 32) (r := 37) B 11 rfl rfl (by decide) i_Program t_Program_ok n_Program (B.2.2.2.1 _ k_348) rfl hnm rfl rfl d_Program_init_40 ?_
  have hok := hok.sr (o := 32) (k := 11) (r := 37) (by decide)
  refine mv_aload_n (pc := 43) B d_Program_init_43 rfl 0 rfl ?_
  refine mv_iload_n (pc := 44) B d_Program_init_44 rfl 2 rfl ?_
  refine mq_newa (pc := 45) (ty := .long) (N := 512) (n2 := 39) B rfl (by decide) rfl hok (B.2.2.2.1 _ k_88) rfl (Or.inr (Or.inl rfl)) (by decide) (by decide) (by decide) (Nat.le_of_ble_eq_true rfl) (Nat.le_of_ble_eq_true rfl) d_Program_init_45 (fun al6 g6 B => ?_)
  have hok := hok.nw
  have hNs := mq_K (mKt_ok sk sv) g6 (by decide) (mw_le (by decide)) hNs
  have hg := hg.tr g6 (by decide)
  rw [← g6.1 32 (by decide)]
  refine mv_putRF (pc := 47) (ci := 7) (C := R_Program) (T := F_Program) (N := 19) (o := 32) (r := 38) B 12 rfl rfl (by decide) i_Program t_Program_ok n_Program (B.2.2.2.1 _ k_351) rfl hnm rfl rfl d_Program_init_47 ?_
  have hok := hok.sr (o := 32) (k := 12) (r := 38) (by decide)
  refine mv_aload_n (pc := 50) B d_Program_init_50 rfl 0 rfl ?_
  refine mv_iload_n (pc := 51) B d_Program_init_51 rfl 2 rfl ?_
  refine mq_newa (pc := 52) (ty := .int) (N := 512) (n2 := 40) B rfl (by decide) rfl hok (B.2.2.2.1 _ k_87) rfl (Or.inl rfl) (by decide) (by decide) (by decide) (Nat.le_of_ble_eq_true rfl) (Nat.le_of_ble_eq_true rfl) d_Program_init_52 (fun al7 g7 B => ?_)
  have hok := hok.nw
  have hNs := mq_K (mKt_ok sk sv) g7 (by decide) (mw_le (by decide)) hNs
  have hg := hg.tr g7 (by decide)
  rw [← g7.1 32 (by decide)]
  refine mv_putRF (pc := 54) (ci := 7) (C := R_Program) (T := F_Program) (N := 19) (o := 32) (r := 39) B 13 rfl rfl (by decide) i_Program t_Program_ok n_Program (B.2.2.2.1 _ k_354) rfl hnm rfl rfl d_Program_init_54 ?_
  have hok := hok.sr (o := 32) (k := 13) (r := 39) (by decide)
  refine mv_aload_n (pc := 57) B d_Program_init_57 rfl 0 rfl ?_
  refine mv_iload_n (pc := 58) B d_Program_init_58 rfl 2 rfl ?_
  refine mv_bipush (pc := 59) (v := 64) B d_Program_init_59 (by decide) ?_
  refine mv_imul (pc := 61) B d_Program_init_61 ?_
  refine mq_newa (pc := 62) (ty := .byte) (N := 32768) (n2 := 41) B rfl (by decide) rfl hok (B.2.2.2.1 _ k_86) rfl (Or.inr (Or.inr (Or.inl rfl))) (by decide) (by decide) (by decide) (Nat.le_of_ble_eq_true rfl) (Nat.le_of_ble_eq_true rfl) d_Program_init_62 (fun al8 g8 B => ?_)
  have hok := hok.nw
  have hNs := mq_K (mKt_ok sk sv) g8 (by decide) (mw_le (by decide)) hNs
  have hg := hg.tr g8 (by decide)
  rw [← g8.1 32 (by decide)]
  refine mv_putRF (pc := 64) (ci := 7) (C := R_Program) (T := F_Program) (N := 19) (o := 32) (r := 40) B 14 rfl rfl (by decide) i_Program t_Program_ok n_Program (B.2.2.2.1 _ k_356) rfl hnm rfl rfl d_Program_init_64 ?_
  have hok := hok.sr (o := 32) (k := 14) (r := 40) (by decide)
  refine mv_aload_n (pc := 67) B d_Program_init_67 rfl 0 rfl ?_
  refine mv_iload_n (pc := 68) B d_Program_init_68 rfl 1 rfl ?_
  refine mq_newa (pc := 69) (ty := .int) (N := 32768) (n2 := 42) B rfl (by decide) rfl hok (B.2.2.2.1 _ k_87) rfl (Or.inl rfl) (by decide) (by decide) (by decide) (Nat.le_of_ble_eq_true rfl) (Nat.le_of_ble_eq_true rfl) d_Program_init_69 (fun al9 g9 B => ?_)
  have hok := hok.nw
  have hNs := mq_K (mKt_ok sk sv) g9 (by decide) (mw_le (by decide)) hNs
  have hg := hg.tr g9 (by decide)
  rw [← g9.1 32 (by decide)]
  refine mv_putRF (pc := 71) (ci := 7) (C := R_Program) (T := F_Program) (N := 19) (o := 32) (r := 41) B 15 rfl rfl (by decide) i_Program t_Program_ok n_Program (B.2.2.2.1 _ k_357) rfl hnm rfl rfl d_Program_init_71 ?_
  have hok := hok.sr (o := 32) (k := 15) (r := 41) (by decide)
  refine mv_aload_n (pc := 74) B d_Program_init_74 rfl 0 rfl ?_
  refine mv_iload_n (pc := 75) B d_Program_init_75 rfl 1 rfl ?_
  refine mq_newa (pc := 76) (ty := .long) (N := 32768) (n2 := 43) B rfl (by decide) rfl hok (B.2.2.2.1 _ k_88) rfl (Or.inr (Or.inl rfl)) (by decide) (by decide) (by decide) (Nat.le_of_ble_eq_true rfl) (Nat.le_of_ble_eq_true rfl) d_Program_init_76 (fun al10 g10 B => ?_)
  have hok := hok.nw
  have hNs := mq_K (mKt_ok sk sv) g10 (by decide) (mw_le (by decide)) hNs
  have hg := hg.tr g10 (by decide)
  rw [← g10.1 32 (by decide)]
  refine mv_putRF (pc := 78) (ci := 7) (C := R_Program) (T := F_Program) (N := 19) (o := 32) (r := 42) B 16 rfl rfl (by decide) i_Program t_Program_ok n_Program (B.2.2.2.1 _ k_359) rfl hnm rfl rfl d_Program_init_78 ?_
  have hok := hok.sr (o := 32) (k := 16) (r := 42) (by decide)
  refine mv_aload_n (pc := 81) B d_Program_init_81 rfl 0 rfl ?_
  refine mq_new (pc := 82) (ci := 8) (C := R_Tree) (T := F_Tree) (N := 5) (n2 := 44) B rfl (by decide) rfl hok rfl i_Tree t_Tree_ok (by decide) (B.2.2.2.1 _ k_285) (B.2.2.2.1 _ k_286) (B.2.2.2.1 _ k_9) (Nat.le_of_ble_eq_true rfl) (Nat.le_of_ble_eq_true rfl) d_Program_init_82 (fun al11 g11 B => ?_)
  have hok := hok.nw
  have hNs := mq_K (mKt_ok sk sv) g11 (by decide) (mw_le (by decide)) hNs
  have hg := hg.tr g11 (by decide)
  rw [← g11.1 32 (by decide)]
  refine mv_dup (pc := 85) B d_Program_init_85 rfl ?_
  refine mv_iload_n (pc := 86) B d_Program_init_86 rfl 2 rfl ?_
  refine mq_callI (pc := 87) (na := 1) B (mKt_ok sk sv) hNs (by decide) (by decide) (nc_Tree_a l B.2.2.2.2.2.1 hlt _ hok) rfl (ma_goodc kc_Tree_init) (B.2.2.2.1 _ k_287) (B.2.2.2.1 _ k_288) (B.2.2.2.1 _ k_9) ⟨rfl, ⟨by decide +kernel, by decide +kernel⟩, by decide +kernel⟩ rfl d_Program_init_87 rfl (Nat.le_of_ble_eq_true rfl) ⟨by decide, by decide⟩ ⟨Nat.le_of_ble_eq_true rfl, Nat.le_of_ble_eq_true rfl⟩ (fun v9 al12 σ12 g12 B h9 => ?_)
  obtain ⟨rfl, rfl⟩ := h9
  have hok := ok_Tree_a hok
  have hNs := mq_K (mKt_ok sk sv) g12 (by decide) (mw_le (by decide)) hNs
  have hg := hg.tr g12 (by decide)
  rw [← g12.1 32 (by decide)]
  rw [← g12.1 43 (by decide)]
  refine mv_putRF (pc := 90) (ci := 7) (C := R_Program) (T := F_Program) (N := 19) (o := 32) (r := 43) B 18 rfl rfl (by decide) i_Program t_Program_ok n_Program (B.2.2.2.1 _ k_364) rfl hnm rfl rfl d_Program_init_90 ?_
  have hok := hok.sr (o := 32) (k := 18) (r := 43) (by decide)
  exact mq_vret (pc := 93) B hr d_Program_init_93 (Nat.le_of_ble_eq_true rfl) (Nat.le_of_ble_eq_true rfl) hg ⟨rfl, rfl⟩
def sg_Tree_b (σ : mv_H) : mv_H := (mv_sr (mv_nw (mv_sr (mv_nw (mv_sr (mv_nw (mv_sr (mv_nw σ 60) 59 0 (some 60)) 61) 59 1 (some 61)) 62) 59 2 (some 62)) 63) 59 3 (some 63))
theorem ok_Tree_b {σ : mv_H} (hok : mv_ok σ 60) : mv_ok (sg_Tree_b σ) 64 := by
  have hok := hok.nw
  have hok := hok.sr (o := 59) (k := 0) (r := 60) (by decide)
  have hok := hok.nw
  have hok := hok.sr (o := 59) (k := 1) (r := 61) (by decide)
  have hok := hok.nw
  have hok := hok.sr (o := 59) (k := 2) (r := 62) (by decide)
  have hok := hok.nw
  have hok := hok.sr (o := 59) (k := 3) (r := 63) (by decide)
  exact hok
theorem kb_Tree_b {σ : mv_H} (h0 : mv_ok σ 60) (hgh : gh σ) : Kpb 59 σ (sg_Tree_b σ) := by
  have hok := h0
  have hk : Kpb 59 σ σ := Kpb.rf
  have hk := hk.nw (m := 60) (by decide)
  have hok := hok.nw
  have hk := hk.sr (a := 59) (k := 0) (v := some 60) (by decide)
  have hok := hok.sr (o := 59) (k := 0) (r := 60) (by decide)
  have hk := hk.nw (m := 61) (by decide)
  have hok := hok.nw
  have hk := hk.sr (a := 59) (k := 1) (v := some 61) (by decide)
  have hok := hok.sr (o := 59) (k := 1) (r := 61) (by decide)
  have hk := hk.nw (m := 62) (by decide)
  have hok := hok.nw
  have hk := hk.sr (a := 59) (k := 2) (v := some 62) (by decide)
  have hok := hok.sr (o := 59) (k := 2) (r := 62) (by decide)
  have hk := hk.nw (m := 63) (by decide)
  have hok := hok.nw
  have hk := hk.sr (a := 59) (k := 3) (v := some 63) (by decide)
  have hok := hok.sr (o := 59) (k := 3) (r := 63) (by decide)
  exact hk
set_option maxHeartbeats 4000000 in
set_option maxRecDepth 100000 in
theorem nc_Tree_b (l : Launch) {dA : FieldType → ClassId} {D : va_G} {al : Nat → Nat} {sk sv : Nat → Nat} (hi : mv_inj (mq dA D al 60)) (hlt : l.stackTraces = false) (σ : mv_H) (hok : mv_ok σ 60) : mv_CN l y_Tree_init (Cond.code y_Tree_init b_Tree_init 2 (Option.none : Option Jvm.ClassFile.FieldType) :: ma) ({ frames := 1, cells := 4, slots := 3587, locals := 20 }) dA D al 60 64 (mKt sk sv) [.ref (al 59), .int 512] σ (fun v9 σ9 => v9 = none ∧ σ9 = sg_Tree_b σ) := by
  refine mv_CN.ofV (cc := b_Tree_init) (nL := 2) (ret := (Option.none : Option Jvm.ClassFile.FieldType)) (by decide +kernel) rfl hi (Nat.le_of_ble_eq_true rfl) ?_
  intro p e s m args below meth c B hNs hr hnm hno
  have hg : mq_gr al al 60 60 s.heap.size := mq_gr.rf
  refine mv_aload_n (pc := 0) B d_Tree_init_0 rfl 0 rfl ?_
  refine mv_obj (pc := 1) B (B.2.2.2.1 _ k_290) (B.2.2.2.1 _ k_43) (B.2.2.2.1 _ k_44) d_Tree_init_1 (Nat.le_of_ble_eq_true rfl) ⟨by decide, by decide⟩ ?_
  refine mv_aload_n (pc := 4) B d_Tree_init_4 rfl 0 rfl ?_
  refine mv_iload_n (pc := 5) B d_Tree_init_5 rfl 1 rfl ?_
  refine mq_newa (pc := 6) (ty := .int) (N := 512) (n2 := 61) B rfl (by decide) rfl hok (B.2.2.2.1 _ k_87) rfl (Or.inl rfl) (by decide) (by decide) (by decide) (Nat.le_of_ble_eq_true rfl) (Nat.le_of_ble_eq_true rfl) d_Tree_init_6 (fun al1 g1 B => ?_)
  have hok := hok.nw
  have hNs := mq_K (mKt_ok sk sv) g1 (by decide) (mw_le (by decide)) hNs
  have hg := hg.tr g1 (by decide)
  rw [← g1.1 59 (by decide)]
  refine mv_putRF (pc := 8) (ci := 8) (C := R_Tree) (T := F_Tree) (N := 5) (o := 59) (r := 60) B 0 rfl rfl (by decide) i_Tree t_Tree_ok n_Tree (B.2.2.2.1 _ k_291) rfl hnm rfl rfl d_Tree_init_8 ?_
  have hok := hok.sr (o := 59) (k := 0) (r := 60) (by decide)
  refine mv_aload_n (pc := 11) B d_Tree_init_11 rfl 0 rfl ?_
  refine mv_iconst (pc := 12) (v := 2) B d_Tree_init_12 (by decide) ?_
  refine mv_iload_n (pc := 13) B d_Tree_init_13 rfl 1 rfl ?_
  refine mv_imul (pc := 14) B d_Tree_init_14 ?_
  refine mv_iconst (pc := 15) (v := 1) B d_Tree_init_15 (by decide) ?_
  refine mv_iadd (pc := 16) B d_Tree_init_16 ?_
  refine mq_newa (pc := 17) (ty := .int) (N := 1025) (n2 := 62) B rfl (by decide) rfl hok (B.2.2.2.1 _ k_87) rfl (Or.inl rfl) (by decide) (by decide) (by decide) (Nat.le_of_ble_eq_true rfl) (Nat.le_of_ble_eq_true rfl) d_Tree_init_17 (fun al2 g2 B => ?_)
  have hok := hok.nw
  have hNs := mq_K (mKt_ok sk sv) g2 (by decide) (mw_le (by decide)) hNs
  have hg := hg.tr g2 (by decide)
  rw [← g2.1 59 (by decide)]
  refine mv_putRF (pc := 19) (ci := 8) (C := R_Tree) (T := F_Tree) (N := 5) (o := 59) (r := 61) B 1 rfl rfl (by decide) i_Tree t_Tree_ok n_Tree (B.2.2.2.1 _ k_293) rfl hnm rfl rfl d_Tree_init_19 ?_
  have hok := hok.sr (o := 59) (k := 1) (r := 61) (by decide)
  refine mv_aload_n (pc := 22) B d_Tree_init_22 rfl 0 rfl ?_
  refine mv_iconst (pc := 23) (v := 2) B d_Tree_init_23 (by decide) ?_
  refine mv_iload_n (pc := 24) B d_Tree_init_24 rfl 1 rfl ?_
  refine mv_imul (pc := 25) B d_Tree_init_25 ?_
  refine mv_iconst (pc := 26) (v := 1) B d_Tree_init_26 (by decide) ?_
  refine mv_iadd (pc := 27) B d_Tree_init_27 ?_
  refine mq_newa (pc := 28) (ty := .int) (N := 1025) (n2 := 63) B rfl (by decide) rfl hok (B.2.2.2.1 _ k_87) rfl (Or.inl rfl) (by decide) (by decide) (by decide) (Nat.le_of_ble_eq_true rfl) (Nat.le_of_ble_eq_true rfl) d_Tree_init_28 (fun al3 g3 B => ?_)
  have hok := hok.nw
  have hNs := mq_K (mKt_ok sk sv) g3 (by decide) (mw_le (by decide)) hNs
  have hg := hg.tr g3 (by decide)
  rw [← g3.1 59 (by decide)]
  refine mv_putRF (pc := 30) (ci := 8) (C := R_Tree) (T := F_Tree) (N := 5) (o := 59) (r := 62) B 2 rfl rfl (by decide) i_Tree t_Tree_ok n_Tree (B.2.2.2.1 _ k_294) rfl hnm rfl rfl d_Tree_init_30 ?_
  have hok := hok.sr (o := 59) (k := 2) (r := 62) (by decide)
  refine mv_aload_n (pc := 33) B d_Tree_init_33 rfl 0 rfl ?_
  refine mv_iconst (pc := 34) (v := 2) B d_Tree_init_34 (by decide) ?_
  refine mv_iload_n (pc := 35) B d_Tree_init_35 rfl 1 rfl ?_
  refine mv_imul (pc := 36) B d_Tree_init_36 ?_
  refine mv_iconst (pc := 37) (v := 1) B d_Tree_init_37 (by decide) ?_
  refine mv_iadd (pc := 38) B d_Tree_init_38 ?_
  refine mq_newa (pc := 39) (ty := .int) (N := 1025) (n2 := 64) B rfl (by decide) rfl hok (B.2.2.2.1 _ k_87) rfl (Or.inl rfl) (by decide) (by decide) (by decide) (Nat.le_of_ble_eq_true rfl) (Nat.le_of_ble_eq_true rfl) d_Tree_init_39 (fun al4 g4 B => ?_)
  have hok := hok.nw
  have hNs := mq_K (mKt_ok sk sv) g4 (by decide) (mw_le (by decide)) hNs
  have hg := hg.tr g4 (by decide)
  rw [← g4.1 59 (by decide)]
  refine mv_putRF (pc := 41) (ci := 8) (C := R_Tree) (T := F_Tree) (N := 5) (o := 59) (r := 63) B 3 rfl rfl (by decide) i_Tree t_Tree_ok n_Tree (B.2.2.2.1 _ k_296) rfl hnm rfl rfl d_Tree_init_41 ?_
  have hok := hok.sr (o := 59) (k := 3) (r := 63) (by decide)
  exact mq_vret (pc := 44) B hr d_Tree_init_44 (Nat.le_of_ble_eq_true rfl) (Nat.le_of_ble_eq_true rfl) hg ⟨rfl, rfl⟩
def sg_Program_b (σ : mv_H) : mv_H := (mv_sr (sg_Tree_b (mv_nw (mv_sr (mv_nw (mv_sr (mv_nw (mv_sr (mv_nw (mv_sr (mv_nw (mv_sr (mv_nw (mv_sr (mv_nw (mv_sr (mv_nw (mv_sr (mv_nw (mv_sr (mv_nw (mv_sr (mv_nw σ 49) 48 2 (some 49)) 50) 48 3 (some 50)) 51) 48 4 (some 51)) 52) 48 5 (some 52)) 53) 48 11 (some 53)) 54) 48 12 (some 54)) 55) 48 13 (some 55)) 56) 48 14 (some 56)) 57) 48 15 (some 57)) 58) 48 16 (some 58)) 59)) 48 18 (some 59))
theorem ok_Program_b {σ : mv_H} (hok : mv_ok σ 49) : mv_ok (sg_Program_b σ) 64 := by
  have hok := hok.nw
  have hok := hok.sr (o := 48) (k := 2) (r := 49) (by decide)
  have hok := hok.nw
  have hok := hok.sr (o := 48) (k := 3) (r := 50) (by decide)
  have hok := hok.nw
  have hok := hok.sr (o := 48) (k := 4) (r := 51) (by decide)
  have hok := hok.nw
  have hok := hok.sr (o := 48) (k := 5) (r := 52) (by decide)
  have hok := hok.nw
  have hok := hok.sr (o := 48) (k := 11) (r := 53) (by decide)
  have hok := hok.nw
  have hok := hok.sr (o := 48) (k := 12) (r := 54) (by decide)
  have hok := hok.nw
  have hok := hok.sr (o := 48) (k := 13) (r := 55) (by decide)
  have hok := hok.nw
  have hok := hok.sr (o := 48) (k := 14) (r := 56) (by decide)
  have hok := hok.nw
  have hok := hok.sr (o := 48) (k := 15) (r := 57) (by decide)
  have hok := hok.nw
  have hok := hok.sr (o := 48) (k := 16) (r := 58) (by decide)
  have hok := hok.nw
  have hok := ok_Tree_b hok
  have hok := hok.sr (o := 48) (k := 18) (r := 59) (by decide)
  exact hok
theorem kb_Program_b {σ : mv_H} (h0 : mv_ok σ 49) (hgh : gh σ) : Kpb 48 σ (sg_Program_b σ) := by
  have hok := h0
  have hk : Kpb 48 σ σ := Kpb.rf
  have hk := hk.nw (m := 49) (by decide)
  have hok := hok.nw
  have hk := hk.sr (a := 48) (k := 2) (v := some 49) (by decide)
  have hok := hok.sr (o := 48) (k := 2) (r := 49) (by decide)
  have hk := hk.nw (m := 50) (by decide)
  have hok := hok.nw
  have hk := hk.sr (a := 48) (k := 3) (v := some 50) (by decide)
  have hok := hok.sr (o := 48) (k := 3) (r := 50) (by decide)
  have hk := hk.nw (m := 51) (by decide)
  have hok := hok.nw
  have hk := hk.sr (a := 48) (k := 4) (v := some 51) (by decide)
  have hok := hok.sr (o := 48) (k := 4) (r := 51) (by decide)
  have hk := hk.nw (m := 52) (by decide)
  have hok := hok.nw
  have hk := hk.sr (a := 48) (k := 5) (v := some 52) (by decide)
  have hok := hok.sr (o := 48) (k := 5) (r := 52) (by decide)
  have hk := hk.nw (m := 53) (by decide)
  have hok := hok.nw
  have hk := hk.sr (a := 48) (k := 11) (v := some 53) (by decide)
  have hok := hok.sr (o := 48) (k := 11) (r := 53) (by decide)
  have hk := hk.nw (m := 54) (by decide)
  have hok := hok.nw
  have hk := hk.sr (a := 48) (k := 12) (v := some 54) (by decide)
  have hok := hok.sr (o := 48) (k := 12) (r := 54) (by decide)
  have hk := hk.nw (m := 55) (by decide)
  have hok := hok.nw
  have hk := hk.sr (a := 48) (k := 13) (v := some 55) (by decide)
  have hok := hok.sr (o := 48) (k := 13) (r := 55) (by decide)
  have hk := hk.nw (m := 56) (by decide)
  have hok := hok.nw
  have hk := hk.sr (a := 48) (k := 14) (v := some 56) (by decide)
  have hok := hok.sr (o := 48) (k := 14) (r := 56) (by decide)
  have hk := hk.nw (m := 57) (by decide)
  have hok := hok.nw
  have hk := hk.sr (a := 48) (k := 15) (v := some 57) (by decide)
  have hok := hok.sr (o := 48) (k := 15) (r := 57) (by decide)
  have hk := hk.nw (m := 58) (by decide)
  have hok := hok.nw
  have hk := hk.sr (a := 48) (k := 16) (v := some 58) (by decide)
  have hok := hok.sr (o := 48) (k := 16) (r := 58) (by decide)
  have hk := hk.nw (m := 59) (by decide)
  have hok := hok.nw
  have hk := hk.tr2 (kb_Tree_b hok (hgh.kb hk)) (by decide)
  have hok := ok_Tree_b hok
  have hk := hk.sr (a := 48) (k := 18) (v := some 59) (by decide)
  have hok := hok.sr (o := 48) (k := 18) (r := 59) (by decide)
  exact hk
set_option maxHeartbeats 4000000 in
set_option maxRecDepth 100000 in
theorem nc_Program_b (l : Launch) {dA : FieldType → ClassId} {D : va_G} {al : Nat → Nat} {sk sv : Nat → Nat} (hi : mv_inj (mq dA D al 49)) (hlt : l.stackTraces = false) (σ : mv_H) (hok : mv_ok σ 49) : mv_CN l y_Program_init (Cond.code y_Program_init b_Program_init 3 (Option.none : Option Jvm.ClassFile.FieldType) :: ma) ({ frames := 2, cells := 15, slots := 103688, locals := 41 }) dA D al 49 64 (mKt sk sv) [.ref (al 48), .int 32768, .int 512] σ (fun v9 σ9 => v9 = none ∧ σ9 = sg_Program_b σ) := by
  refine mv_CN.ofV (cc := b_Program_init) (nL := 3) (ret := (Option.none : Option Jvm.ClassFile.FieldType)) (by decide +kernel) rfl hi (Nat.le_of_ble_eq_true rfl) ?_
  intro p e s m args below meth c B hNs hr hnm hno
  have hg : mq_gr al al 49 49 s.heap.size := mq_gr.rf
  refine mv_aload_n (pc := 0) B d_Program_init_0 rfl 0 rfl ?_
  refine mv_obj (pc := 1) B (B.2.2.2.1 _ k_284) (B.2.2.2.1 _ k_43) (B.2.2.2.1 _ k_44) d_Program_init_1 (Nat.le_of_ble_eq_true rfl) ⟨by decide, by decide⟩ ?_
  refine mv_aload_n (pc := 4) B d_Program_init_4 rfl 0 rfl ?_
  refine mv_bipush (pc := 5) (v := 64) B d_Program_init_5 (by decide) ?_
  refine mq_newa (pc := 7) (ty := .int) (N := 64) (n2 := 50) B rfl (by decide) rfl hok (B.2.2.2.1 _ k_87) rfl (Or.inl rfl) (by decide) (by decide) (by decide) (Nat.le_of_ble_eq_true rfl) (Nat.le_of_ble_eq_true rfl) d_Program_init_7 (fun al1 g1 B => ?_)
  have hok := hok.nw
  have hNs := mq_K (mKt_ok sk sv) g1 (by decide) (mw_le (by decide)) hNs
  have hg := hg.tr g1 (by decide)
  rw [← g1.1 48 (by decide)]
  refine mv_putRF (pc := 9) (ci := 7) (C := R_Program) (T := F_Program) (N := 19) (o := 48) (r := 49) B 2 rfl rfl (by decide) i_Program t_Program_ok n_Program (B.2.2.2.1 _ k_318) rfl hnm rfl rfl d_Program_init_9 ?_
  have hok := hok.sr (o := 48) (k := 2) (r := 49) (by decide)
  refine mv_aload_n (pc := 12) B d_Program_init_12 rfl 0 rfl ?_
  refine mv_bipush (pc := 13) (v := 64) B d_Program_init_13 (by decide) ?_
  refine mq_newa (pc := 15) (ty := .int) (N := 64) (n2 := 51) B rfl (by decide) rfl hok (B.2.2.2.1 _ k_87) rfl (Or.inl rfl) (by decide) (by decide) (by decide) (Nat.le_of_ble_eq_true rfl) (Nat.le_of_ble_eq_true rfl) d_Program_init_15 (fun al2 g2 B => ?_)
  have hok := hok.nw
  have hNs := mq_K (mKt_ok sk sv) g2 (by decide) (mw_le (by decide)) hNs
  have hg := hg.tr g2 (by decide)
  rw [← g2.1 48 (by decide)]
  refine mv_putRF (pc := 17) (ci := 7) (C := R_Program) (T := F_Program) (N := 19) (o := 48) (r := 50) B 3 rfl rfl (by decide) i_Program t_Program_ok n_Program (B.2.2.2.1 _ k_323) rfl hnm rfl rfl d_Program_init_17 ?_
  have hok := hok.sr (o := 48) (k := 3) (r := 50) (by decide)
  refine mv_aload_n (pc := 20) B d_Program_init_20 rfl 0 rfl ?_
  refine mv_bipush (pc := 21) (v := 64) B d_Program_init_21 (by decide) ?_
  refine mq_newa (pc := 23) (ty := .int) (N := 64) (n2 := 52) B rfl (by decide) rfl hok (B.2.2.2.1 _ k_87) rfl (Or.inl rfl) (by decide) (by decide) (by decide) (Nat.le_of_ble_eq_true rfl) (Nat.le_of_ble_eq_true rfl) d_Program_init_23 (fun al3 g3 B => ?_)
  have hok := hok.nw
  have hNs := mq_K (mKt_ok sk sv) g3 (by decide) (mw_le (by decide)) hNs
  have hg := hg.tr g3 (by decide)
  rw [← g3.1 48 (by decide)]
  refine mv_putRF (pc := 25) (ci := 7) (C := R_Program) (T := F_Program) (N := 19) (o := 48) (r := 51) B 4 rfl rfl (by decide) i_Program t_Program_ok n_Program (B.2.2.2.1 _ k_326) rfl hnm rfl rfl d_Program_init_25 ?_
  have hok := hok.sr (o := 48) (k := 4) (r := 51) (by decide)
  refine mv_aload_n (pc := 28) B d_Program_init_28 rfl 0 rfl ?_
  refine mv_bipush (pc := 29) (v := 64) B d_Program_init_29 (by decide) ?_
  refine mq_newa (pc := 31) (ty := .boolean) (N := 64) (n2 := 53) B rfl (by decide) rfl hok (B.2.2.2.1 _ k_310) rfl (Or.inr (Or.inr (Or.inr rfl))) (by decide) (by decide) (by decide) (Nat.le_of_ble_eq_true rfl) (Nat.le_of_ble_eq_true rfl) d_Program_init_31 (fun al4 g4 B => ?_)
  have hok := hok.nw
  have hNs := mq_K (mKt_ok sk sv) g4 (by decide) (mw_le (by decide)) hNs
  have hg := hg.tr g4 (by decide)
  rw [← g4.1 48 (by decide)]
  refine mv_putRF (pc := 33) (ci := 7) (C := R_Program) (T := F_Program) (N := 19) (o := 48) (r := 52) B 5 rfl rfl (by decide) i_Program t_Program_ok n_Program (B.2.2.2.1 _ k_330) rfl hnm rfl rfl d_Program_init_33 ?_
  have hok := hok.sr (o := 48) (k := 5) (r := 52) (by decide)
  refine mv_aload_n (pc := 36) B d_Program_init_36 rfl 0 rfl ?_
  refine mv_iload_n (pc := 37) B d_Program_init_37 rfl 2 rfl ?_
  refine mq_newa (pc := 38) (ty := .long) (N := 512) (n2 := 54) B rfl (by decide) rfl hok (B.2.2.2.1 _ k_88) rfl (Or.inr (Or.inl rfl)) (by decide) (by decide) (by decide) (Nat.le_of_ble_eq_true rfl) (Nat.le_of_ble_eq_true rfl) d_Program_init_38 (fun al5 g5 B => ?_)
  have hok := hok.nw
  have hNs := mq_K (mKt_ok sk sv) g5 (by decide) (mw_le (by decide)) hNs
  have hg := hg.tr g5 (by decide)
  rw [← g5.1 48 (by decide)]
  refine mv_putRF (pc := 40) (ci := 7) (C := R_Program) (T := F_Program) (N := 19) (o := 48) (r := 53) B 11 rfl rfl (by decide) i_Program t_Program_ok n_Program (B.2.2.2.1 _ k_348) rfl hnm rfl rfl d_Program_init_40 ?_
  have hok := hok.sr (o := 48) (k := 11) (r := 53) (by decide)
  refine mv_aload_n (pc := 43) B d_Program_init_43 rfl 0 rfl ?_
  refine mv_iload_n (pc := 44) B d_Program_init_44 rfl 2 rfl ?_
  refine mq_newa (pc := 45) (ty := .long) (N := 512) (n2 := 55) B rfl (by decide) rfl hok (B.2.2.2.1 _ k_88) rfl (Or.inr (Or.inl rfl)) (by decide) (by decide) (by decide) (Nat.le_of_ble_eq_true rfl) (Nat.le_of_ble_eq_true rfl) d_Program_init_45 (fun al6 g6 B => ?_)
  have hok := hok.nw
  have hNs := mq_K (mKt_ok sk sv) g6 (by decide) (mw_le (by decide)) hNs
  have hg := hg.tr g6 (by decide)
  rw [← g6.1 48 (by decide)]
  refine mv_putRF (pc := 47) (ci := 7) (C := R_Program) (T := F_Program) (N := 19) (o := 48) (r := 54) B 12 rfl rfl (by decide) i_Program t_Program_ok n_Program (B.2.2.2.1 _ k_351) rfl hnm rfl rfl d_Program_init_47 ?_
  have hok := hok.sr (o := 48) (k := 12) (r := 54) (by decide)
  refine mv_aload_n (pc := 50) B d_Program_init_50 rfl 0 rfl ?_
  refine mv_iload_n (pc := 51) B d_Program_init_51 rfl 2 rfl ?_
  refine mq_newa (pc := 52) (ty := .int) (N := 512) (n2 := 56) B rfl (by decide) rfl hok (B.2.2.2.1 _ k_87) rfl (Or.inl rfl) (by decide) (by decide) (by decide) (Nat.le_of_ble_eq_true rfl) (Nat.le_of_ble_eq_true rfl) d_Program_init_52 (fun al7 g7 B => ?_)
  have hok := hok.nw
  have hNs := mq_K (mKt_ok sk sv) g7 (by decide) (mw_le (by decide)) hNs
  have hg := hg.tr g7 (by decide)
  rw [← g7.1 48 (by decide)]
  refine mv_putRF (pc := 54) (ci := 7) (C := R_Program) (T := F_Program) (N := 19) (o := 48) (r := 55) B 13 rfl rfl (by decide) i_Program t_Program_ok n_Program (B.2.2.2.1 _ k_354) rfl hnm rfl rfl d_Program_init_54 ?_
  have hok := hok.sr (o := 48) (k := 13) (r := 55) (by decide)
  refine mv_aload_n (pc := 57) B d_Program_init_57 rfl 0 rfl ?_
  refine mv_iload_n (pc := 58) B d_Program_init_58 rfl 2 rfl ?_
  refine mv_bipush (pc := 59) (v := 64) B d_Program_init_59 (by decide) ?_
  refine mv_imul (pc := 61) B d_Program_init_61 ?_
  refine mq_newa (pc := 62) (ty := .byte) (N := 32768) (n2 := 57) B rfl (by decide) rfl hok (B.2.2.2.1 _ k_86) rfl (Or.inr (Or.inr (Or.inl rfl))) (by decide) (by decide) (by decide) (Nat.le_of_ble_eq_true rfl) (Nat.le_of_ble_eq_true rfl) d_Program_init_62 (fun al8 g8 B => ?_)
  have hok := hok.nw
  have hNs := mq_K (mKt_ok sk sv) g8 (by decide) (mw_le (by decide)) hNs
  have hg := hg.tr g8 (by decide)
  rw [← g8.1 48 (by decide)]
  refine mv_putRF (pc := 64) (ci := 7) (C := R_Program) (T := F_Program) (N := 19) (o := 48) (r := 56) B 14 rfl rfl (by decide) i_Program t_Program_ok n_Program (B.2.2.2.1 _ k_356) rfl hnm rfl rfl d_Program_init_64 ?_
  have hok := hok.sr (o := 48) (k := 14) (r := 56) (by decide)
  refine mv_aload_n (pc := 67) B d_Program_init_67 rfl 0 rfl ?_
  refine mv_iload_n (pc := 68) B d_Program_init_68 rfl 1 rfl ?_
  refine mq_newa (pc := 69) (ty := .int) (N := 32768) (n2 := 58) B rfl (by decide) rfl hok (B.2.2.2.1 _ k_87) rfl (Or.inl rfl) (by decide) (by decide) (by decide) (Nat.le_of_ble_eq_true rfl) (Nat.le_of_ble_eq_true rfl) d_Program_init_69 (fun al9 g9 B => ?_)
  have hok := hok.nw
  have hNs := mq_K (mKt_ok sk sv) g9 (by decide) (mw_le (by decide)) hNs
  have hg := hg.tr g9 (by decide)
  rw [← g9.1 48 (by decide)]
  refine mv_putRF (pc := 71) (ci := 7) (C := R_Program) (T := F_Program) (N := 19) (o := 48) (r := 57) B 15 rfl rfl (by decide) i_Program t_Program_ok n_Program (B.2.2.2.1 _ k_357) rfl hnm rfl rfl d_Program_init_71 ?_
  have hok := hok.sr (o := 48) (k := 15) (r := 57) (by decide)
  refine mv_aload_n (pc := 74) B d_Program_init_74 rfl 0 rfl ?_
  refine mv_iload_n (pc := 75) B d_Program_init_75 rfl 1 rfl ?_
  refine mq_newa (pc := 76) (ty := .long) (N := 32768) (n2 := 59) B rfl (by decide) rfl hok (B.2.2.2.1 _ k_88) rfl (Or.inr (Or.inl rfl)) (by decide) (by decide) (by decide) (Nat.le_of_ble_eq_true rfl) (Nat.le_of_ble_eq_true rfl) d_Program_init_76 (fun al10 g10 B => ?_)
  have hok := hok.nw
  have hNs := mq_K (mKt_ok sk sv) g10 (by decide) (mw_le (by decide)) hNs
  have hg := hg.tr g10 (by decide)
  rw [← g10.1 48 (by decide)]
  refine mv_putRF (pc := 78) (ci := 7) (C := R_Program) (T := F_Program) (N := 19) (o := 48) (r := 58) B 16 rfl rfl (by decide) i_Program t_Program_ok n_Program (B.2.2.2.1 _ k_359) rfl hnm rfl rfl d_Program_init_78 ?_
  have hok := hok.sr (o := 48) (k := 16) (r := 58) (by decide)
  refine mv_aload_n (pc := 81) B d_Program_init_81 rfl 0 rfl ?_
  refine mq_new (pc := 82) (ci := 8) (C := R_Tree) (T := F_Tree) (N := 5) (n2 := 60) B rfl (by decide) rfl hok rfl i_Tree t_Tree_ok (by decide) (B.2.2.2.1 _ k_285) (B.2.2.2.1 _ k_286) (B.2.2.2.1 _ k_9) (Nat.le_of_ble_eq_true rfl) (Nat.le_of_ble_eq_true rfl) d_Program_init_82 (fun al11 g11 B => ?_)
  have hok := hok.nw
  have hNs := mq_K (mKt_ok sk sv) g11 (by decide) (mw_le (by decide)) hNs
  have hg := hg.tr g11 (by decide)
  rw [← g11.1 48 (by decide)]
  refine mv_dup (pc := 85) B d_Program_init_85 rfl ?_
  refine mv_iload_n (pc := 86) B d_Program_init_86 rfl 2 rfl ?_
  refine mq_callI (pc := 87) (na := 1) B (mKt_ok sk sv) hNs (by decide) (by decide) (nc_Tree_b l B.2.2.2.2.2.1 hlt _ hok) rfl (ma_goodc kc_Tree_init) (B.2.2.2.1 _ k_287) (B.2.2.2.1 _ k_288) (B.2.2.2.1 _ k_9) ⟨rfl, ⟨by decide +kernel, by decide +kernel⟩, by decide +kernel⟩ rfl d_Program_init_87 rfl (Nat.le_of_ble_eq_true rfl) ⟨by decide, by decide⟩ ⟨Nat.le_of_ble_eq_true rfl, Nat.le_of_ble_eq_true rfl⟩ (fun v9 al12 σ12 g12 B h9 => ?_)
  obtain ⟨rfl, rfl⟩ := h9
  have hok := ok_Tree_b hok
  have hNs := mq_K (mKt_ok sk sv) g12 (by decide) (mw_le (by decide)) hNs
  have hg := hg.tr g12 (by decide)
  rw [← g12.1 48 (by decide)]
  rw [← g12.1 59 (by decide)]
  refine mv_putRF (pc := 90) (ci := 7) (C := R_Program) (T := F_Program) (N := 19) (o := 48) (r := 59) B 18 rfl rfl (by decide) i_Program t_Program_ok n_Program (B.2.2.2.1 _ k_364) rfl hnm rfl rfl d_Program_init_90 ?_
  have hok := hok.sr (o := 48) (k := 18) (r := 59) (by decide)
  exact mq_vret (pc := 93) B hr d_Program_init_93 (Nat.le_of_ble_eq_true rfl) (Nat.le_of_ble_eq_true rfl) hg ⟨rfl, rfl⟩
def sg_Tree_c (σ : mv_H) : mv_H := (mv_sr (mv_nw (mv_sr (mv_nw (mv_sr (mv_nw (mv_sr (mv_nw σ 157) 156 0 (some 157)) 158) 156 1 (some 158)) 159) 156 2 (some 159)) 160) 156 3 (some 160))
theorem ok_Tree_c {σ : mv_H} (hok : mv_ok σ 157) : mv_ok (sg_Tree_c σ) 161 := by
  have hok := hok.nw
  have hok := hok.sr (o := 156) (k := 0) (r := 157) (by decide)
  have hok := hok.nw
  have hok := hok.sr (o := 156) (k := 1) (r := 158) (by decide)
  have hok := hok.nw
  have hok := hok.sr (o := 156) (k := 2) (r := 159) (by decide)
  have hok := hok.nw
  have hok := hok.sr (o := 156) (k := 3) (r := 160) (by decide)
  exact hok
set_option maxHeartbeats 4000000 in
set_option maxRecDepth 100000 in
theorem nc_Tree_c (l : Launch) {dA : FieldType → ClassId} {D : va_G} {al : Nat → Nat} {sk sv : Nat → Nat} (hi : mv_inj (mq dA D al 157)) (hlt : l.stackTraces = false) (σ : mv_H) (hok : mv_ok σ 157) : mv_CN l y_Tree_init (Cond.code y_Tree_init b_Tree_init 2 (Option.none : Option Jvm.ClassFile.FieldType) :: ma) ({ frames := 1, cells := 4, slots := 339, locals := 20 }) dA D al 157 161 (mKt sk sv) [.ref (al 156), .int 48] σ (fun v9 σ9 => v9 = none ∧ σ9 = sg_Tree_c σ) := by
  refine mv_CN.ofV (cc := b_Tree_init) (nL := 2) (ret := (Option.none : Option Jvm.ClassFile.FieldType)) (by decide +kernel) rfl hi (Nat.le_of_ble_eq_true rfl) ?_
  intro p e s m args below meth c B hNs hr hnm hno
  have hg : mq_gr al al 157 157 s.heap.size := mq_gr.rf
  refine mv_aload_n (pc := 0) B d_Tree_init_0 rfl 0 rfl ?_
  refine mv_obj (pc := 1) B (B.2.2.2.1 _ k_290) (B.2.2.2.1 _ k_43) (B.2.2.2.1 _ k_44) d_Tree_init_1 (Nat.le_of_ble_eq_true rfl) ⟨by decide, by decide⟩ ?_
  refine mv_aload_n (pc := 4) B d_Tree_init_4 rfl 0 rfl ?_
  refine mv_iload_n (pc := 5) B d_Tree_init_5 rfl 1 rfl ?_
  refine mq_newa (pc := 6) (ty := .int) (N := 48) (n2 := 158) B rfl (by decide) rfl hok (B.2.2.2.1 _ k_87) rfl (Or.inl rfl) (by decide) (by decide) (by decide) (Nat.le_of_ble_eq_true rfl) (Nat.le_of_ble_eq_true rfl) d_Tree_init_6 (fun al1 g1 B => ?_)
  have hok := hok.nw
  have hNs := mq_K (mKt_ok sk sv) g1 (by decide) (mw_le (by decide)) hNs
  have hg := hg.tr g1 (by decide)
  rw [← g1.1 156 (by decide)]
  refine mv_putRF (pc := 8) (ci := 8) (C := R_Tree) (T := F_Tree) (N := 5) (o := 156) (r := 157) B 0 rfl rfl (by decide) i_Tree t_Tree_ok n_Tree (B.2.2.2.1 _ k_291) rfl hnm rfl rfl d_Tree_init_8 ?_
  have hok := hok.sr (o := 156) (k := 0) (r := 157) (by decide)
  refine mv_aload_n (pc := 11) B d_Tree_init_11 rfl 0 rfl ?_
  refine mv_iconst (pc := 12) (v := 2) B d_Tree_init_12 (by decide) ?_
  refine mv_iload_n (pc := 13) B d_Tree_init_13 rfl 1 rfl ?_
  refine mv_imul (pc := 14) B d_Tree_init_14 ?_
  refine mv_iconst (pc := 15) (v := 1) B d_Tree_init_15 (by decide) ?_
  refine mv_iadd (pc := 16) B d_Tree_init_16 ?_
  refine mq_newa (pc := 17) (ty := .int) (N := 97) (n2 := 159) B rfl (by decide) rfl hok (B.2.2.2.1 _ k_87) rfl (Or.inl rfl) (by decide) (by decide) (by decide) (Nat.le_of_ble_eq_true rfl) (Nat.le_of_ble_eq_true rfl) d_Tree_init_17 (fun al2 g2 B => ?_)
  have hok := hok.nw
  have hNs := mq_K (mKt_ok sk sv) g2 (by decide) (mw_le (by decide)) hNs
  have hg := hg.tr g2 (by decide)
  rw [← g2.1 156 (by decide)]
  refine mv_putRF (pc := 19) (ci := 8) (C := R_Tree) (T := F_Tree) (N := 5) (o := 156) (r := 158) B 1 rfl rfl (by decide) i_Tree t_Tree_ok n_Tree (B.2.2.2.1 _ k_293) rfl hnm rfl rfl d_Tree_init_19 ?_
  have hok := hok.sr (o := 156) (k := 1) (r := 158) (by decide)
  refine mv_aload_n (pc := 22) B d_Tree_init_22 rfl 0 rfl ?_
  refine mv_iconst (pc := 23) (v := 2) B d_Tree_init_23 (by decide) ?_
  refine mv_iload_n (pc := 24) B d_Tree_init_24 rfl 1 rfl ?_
  refine mv_imul (pc := 25) B d_Tree_init_25 ?_
  refine mv_iconst (pc := 26) (v := 1) B d_Tree_init_26 (by decide) ?_
  refine mv_iadd (pc := 27) B d_Tree_init_27 ?_
  refine mq_newa (pc := 28) (ty := .int) (N := 97) (n2 := 160) B rfl (by decide) rfl hok (B.2.2.2.1 _ k_87) rfl (Or.inl rfl) (by decide) (by decide) (by decide) (Nat.le_of_ble_eq_true rfl) (Nat.le_of_ble_eq_true rfl) d_Tree_init_28 (fun al3 g3 B => ?_)
  have hok := hok.nw
  have hNs := mq_K (mKt_ok sk sv) g3 (by decide) (mw_le (by decide)) hNs
  have hg := hg.tr g3 (by decide)
  rw [← g3.1 156 (by decide)]
  refine mv_putRF (pc := 30) (ci := 8) (C := R_Tree) (T := F_Tree) (N := 5) (o := 156) (r := 159) B 2 rfl rfl (by decide) i_Tree t_Tree_ok n_Tree (B.2.2.2.1 _ k_294) rfl hnm rfl rfl d_Tree_init_30 ?_
  have hok := hok.sr (o := 156) (k := 2) (r := 159) (by decide)
  refine mv_aload_n (pc := 33) B d_Tree_init_33 rfl 0 rfl ?_
  refine mv_iconst (pc := 34) (v := 2) B d_Tree_init_34 (by decide) ?_
  refine mv_iload_n (pc := 35) B d_Tree_init_35 rfl 1 rfl ?_
  refine mv_imul (pc := 36) B d_Tree_init_36 ?_
  refine mv_iconst (pc := 37) (v := 1) B d_Tree_init_37 (by decide) ?_
  refine mv_iadd (pc := 38) B d_Tree_init_38 ?_
  refine mq_newa (pc := 39) (ty := .int) (N := 97) (n2 := 161) B rfl (by decide) rfl hok (B.2.2.2.1 _ k_87) rfl (Or.inl rfl) (by decide) (by decide) (by decide) (Nat.le_of_ble_eq_true rfl) (Nat.le_of_ble_eq_true rfl) d_Tree_init_39 (fun al4 g4 B => ?_)
  have hok := hok.nw
  have hNs := mq_K (mKt_ok sk sv) g4 (by decide) (mw_le (by decide)) hNs
  have hg := hg.tr g4 (by decide)
  rw [← g4.1 156 (by decide)]
  refine mv_putRF (pc := 41) (ci := 8) (C := R_Tree) (T := F_Tree) (N := 5) (o := 156) (r := 160) B 3 rfl rfl (by decide) i_Tree t_Tree_ok n_Tree (B.2.2.2.1 _ k_296) rfl hnm rfl rfl d_Tree_init_41 ?_
  have hok := hok.sr (o := 156) (k := 3) (r := 160) (by decide)
  exact mq_vret (pc := 44) B hr d_Tree_init_44 (Nat.le_of_ble_eq_true rfl) (Nat.le_of_ble_eq_true rfl) hg ⟨rfl, rfl⟩
def sg_Program_c (σ : mv_H) : mv_H := (mv_sr (sg_Tree_c (mv_nw (mv_sr (mv_nw (mv_sr (mv_nw (mv_sr (mv_nw (mv_sr (mv_nw (mv_sr (mv_nw (mv_sr (mv_nw (mv_sr (mv_nw (mv_sr (mv_nw (mv_sr (mv_nw (mv_sr (mv_nw σ 146) 145 2 (some 146)) 147) 145 3 (some 147)) 148) 145 4 (some 148)) 149) 145 5 (some 149)) 150) 145 11 (some 150)) 151) 145 12 (some 151)) 152) 145 13 (some 152)) 153) 145 14 (some 153)) 154) 145 15 (some 154)) 155) 145 16 (some 155)) 156)) 145 18 (some 156))
theorem ok_Program_c {σ : mv_H} (hok : mv_ok σ 146) : mv_ok (sg_Program_c σ) 161 := by
  have hok := hok.nw
  have hok := hok.sr (o := 145) (k := 2) (r := 146) (by decide)
  have hok := hok.nw
  have hok := hok.sr (o := 145) (k := 3) (r := 147) (by decide)
  have hok := hok.nw
  have hok := hok.sr (o := 145) (k := 4) (r := 148) (by decide)
  have hok := hok.nw
  have hok := hok.sr (o := 145) (k := 5) (r := 149) (by decide)
  have hok := hok.nw
  have hok := hok.sr (o := 145) (k := 11) (r := 150) (by decide)
  have hok := hok.nw
  have hok := hok.sr (o := 145) (k := 12) (r := 151) (by decide)
  have hok := hok.nw
  have hok := hok.sr (o := 145) (k := 13) (r := 152) (by decide)
  have hok := hok.nw
  have hok := hok.sr (o := 145) (k := 14) (r := 153) (by decide)
  have hok := hok.nw
  have hok := hok.sr (o := 145) (k := 15) (r := 154) (by decide)
  have hok := hok.nw
  have hok := hok.sr (o := 145) (k := 16) (r := 155) (by decide)
  have hok := hok.nw
  have hok := ok_Tree_c hok
  have hok := hok.sr (o := 145) (k := 18) (r := 156) (by decide)
  exact hok
set_option maxHeartbeats 4000000 in
set_option maxRecDepth 100000 in
theorem nc_Program_c (l : Launch) {dA : FieldType → ClassId} {D : va_G} {al : Nat → Nat} {sk sv : Nat → Nat} (hi : mv_inj (mq dA D al 146)) (hlt : l.stackTraces = false) (σ : mv_H) (hok : mv_ok σ 146) : mv_CN l y_Program_init (Cond.code y_Program_init b_Program_init 3 (Option.none : Option Jvm.ClassFile.FieldType) :: ma) ({ frames := 2, cells := 15, slots := 20200, locals := 41 }) dA D al 146 161 (mKt sk sv) [.ref (al 145), .int 8192, .int 48] σ (fun v9 σ9 => v9 = none ∧ σ9 = sg_Program_c σ) := by
  refine mv_CN.ofV (cc := b_Program_init) (nL := 3) (ret := (Option.none : Option Jvm.ClassFile.FieldType)) (by decide +kernel) rfl hi (Nat.le_of_ble_eq_true rfl) ?_
  intro p e s m args below meth c B hNs hr hnm hno
  have hg : mq_gr al al 146 146 s.heap.size := mq_gr.rf
  refine mv_aload_n (pc := 0) B d_Program_init_0 rfl 0 rfl ?_
  refine mv_obj (pc := 1) B (B.2.2.2.1 _ k_284) (B.2.2.2.1 _ k_43) (B.2.2.2.1 _ k_44) d_Program_init_1 (Nat.le_of_ble_eq_true rfl) ⟨by decide, by decide⟩ ?_
  refine mv_aload_n (pc := 4) B d_Program_init_4 rfl 0 rfl ?_
  refine mv_bipush (pc := 5) (v := 64) B d_Program_init_5 (by decide) ?_
  refine mq_newa (pc := 7) (ty := .int) (N := 64) (n2 := 147) B rfl (by decide) rfl hok (B.2.2.2.1 _ k_87) rfl (Or.inl rfl) (by decide) (by decide) (by decide) (Nat.le_of_ble_eq_true rfl) (Nat.le_of_ble_eq_true rfl) d_Program_init_7 (fun al1 g1 B => ?_)
  have hok := hok.nw
  have hNs := mq_K (mKt_ok sk sv) g1 (by decide) (mw_le (by decide)) hNs
  have hg := hg.tr g1 (by decide)
  rw [← g1.1 145 (by decide)]
  refine mv_putRF (pc := 9) (ci := 7) (C := R_Program) (T := F_Program) (N := 19) (o := 145) (r := 146) B 2 rfl rfl (by decide) i_Program t_Program_ok n_Program (B.2.2.2.1 _ k_318) rfl hnm rfl rfl d_Program_init_9 ?_
  have hok := hok.sr (o := 145) (k := 2) (r := 146) (by decide)
  refine mv_aload_n (pc := 12) B d_Program_init_12 rfl 0 rfl ?_
  refine mv_bipush (pc := 13) (v := 64) B d_Program_init_13 (by decide) ?_
  refine mq_newa (pc := 15) (ty := .int) (N := 64) (n2 := 148) B rfl (by decide) rfl hok (B.2.2.2.1 _ k_87) rfl (Or.inl rfl) (by decide) (by decide) (by decide) (Nat.le_of_ble_eq_true rfl) (Nat.le_of_ble_eq_true rfl) d_Program_init_15 (fun al2 g2 B => ?_)
  have hok := hok.nw
  have hNs := mq_K (mKt_ok sk sv) g2 (by decide) (mw_le (by decide)) hNs
  have hg := hg.tr g2 (by decide)
  rw [← g2.1 145 (by decide)]
  refine mv_putRF (pc := 17) (ci := 7) (C := R_Program) (T := F_Program) (N := 19) (o := 145) (r := 147) B 3 rfl rfl (by decide) i_Program t_Program_ok n_Program (B.2.2.2.1 _ k_323) rfl hnm rfl rfl d_Program_init_17 ?_
  have hok := hok.sr (o := 145) (k := 3) (r := 147) (by decide)
  refine mv_aload_n (pc := 20) B d_Program_init_20 rfl 0 rfl ?_
  refine mv_bipush (pc := 21) (v := 64) B d_Program_init_21 (by decide) ?_
  refine mq_newa (pc := 23) (ty := .int) (N := 64) (n2 := 149) B rfl (by decide) rfl hok (B.2.2.2.1 _ k_87) rfl (Or.inl rfl) (by decide) (by decide) (by decide) (Nat.le_of_ble_eq_true rfl) (Nat.le_of_ble_eq_true rfl) d_Program_init_23 (fun al3 g3 B => ?_)
  have hok := hok.nw
  have hNs := mq_K (mKt_ok sk sv) g3 (by decide) (mw_le (by decide)) hNs
  have hg := hg.tr g3 (by decide)
  rw [← g3.1 145 (by decide)]
  refine mv_putRF (pc := 25) (ci := 7) (C := R_Program) (T := F_Program) (N := 19) (o := 145) (r := 148) B 4 rfl rfl (by decide) i_Program t_Program_ok n_Program (B.2.2.2.1 _ k_326) rfl hnm rfl rfl d_Program_init_25 ?_
  have hok := hok.sr (o := 145) (k := 4) (r := 148) (by decide)
  refine mv_aload_n (pc := 28) B d_Program_init_28 rfl 0 rfl ?_
  refine mv_bipush (pc := 29) (v := 64) B d_Program_init_29 (by decide) ?_
  refine mq_newa (pc := 31) (ty := .boolean) (N := 64) (n2 := 150) B rfl (by decide) rfl hok (B.2.2.2.1 _ k_310) rfl (Or.inr (Or.inr (Or.inr rfl))) (by decide) (by decide) (by decide) (Nat.le_of_ble_eq_true rfl) (Nat.le_of_ble_eq_true rfl) d_Program_init_31 (fun al4 g4 B => ?_)
  have hok := hok.nw
  have hNs := mq_K (mKt_ok sk sv) g4 (by decide) (mw_le (by decide)) hNs
  have hg := hg.tr g4 (by decide)
  rw [← g4.1 145 (by decide)]
  refine mv_putRF (pc := 33) (ci := 7) (C := R_Program) (T := F_Program) (N := 19) (o := 145) (r := 149) B 5 rfl rfl (by decide) i_Program t_Program_ok n_Program (B.2.2.2.1 _ k_330) rfl hnm rfl rfl d_Program_init_33 ?_
  have hok := hok.sr (o := 145) (k := 5) (r := 149) (by decide)
  refine mv_aload_n (pc := 36) B d_Program_init_36 rfl 0 rfl ?_
  refine mv_iload_n (pc := 37) B d_Program_init_37 rfl 2 rfl ?_
  refine mq_newa (pc := 38) (ty := .long) (N := 48) (n2 := 151) B rfl (by decide) rfl hok (B.2.2.2.1 _ k_88) rfl (Or.inr (Or.inl rfl)) (by decide) (by decide) (by decide) (Nat.le_of_ble_eq_true rfl) (Nat.le_of_ble_eq_true rfl) d_Program_init_38 (fun al5 g5 B => ?_)
  have hok := hok.nw
  have hNs := mq_K (mKt_ok sk sv) g5 (by decide) (mw_le (by decide)) hNs
  have hg := hg.tr g5 (by decide)
  rw [← g5.1 145 (by decide)]
  refine mv_putRF (pc := 40) (ci := 7) (C := R_Program) (T := F_Program) (N := 19) (o := 145) (r := 150) B 11 rfl rfl (by decide) i_Program t_Program_ok n_Program (B.2.2.2.1 _ k_348) rfl hnm rfl rfl d_Program_init_40 ?_
  have hok := hok.sr (o := 145) (k := 11) (r := 150) (by decide)
  refine mv_aload_n (pc := 43) B d_Program_init_43 rfl 0 rfl ?_
  refine mv_iload_n (pc := 44) B d_Program_init_44 rfl 2 rfl ?_
  refine mq_newa (pc := 45) (ty := .long) (N := 48) (n2 := 152) B rfl (by decide) rfl hok (B.2.2.2.1 _ k_88) rfl (Or.inr (Or.inl rfl)) (by decide) (by decide) (by decide) (Nat.le_of_ble_eq_true rfl) (Nat.le_of_ble_eq_true rfl) d_Program_init_45 (fun al6 g6 B => ?_)
  have hok := hok.nw
  have hNs := mq_K (mKt_ok sk sv) g6 (by decide) (mw_le (by decide)) hNs
  have hg := hg.tr g6 (by decide)
  rw [← g6.1 145 (by decide)]
  refine mv_putRF (pc := 47) (ci := 7) (C := R_Program) (T := F_Program) (N := 19) (o := 145) (r := 151) B 12 rfl rfl (by decide) i_Program t_Program_ok n_Program (B.2.2.2.1 _ k_351) rfl hnm rfl rfl d_Program_init_47 ?_
  have hok := hok.sr (o := 145) (k := 12) (r := 151) (by decide)
  refine mv_aload_n (pc := 50) B d_Program_init_50 rfl 0 rfl ?_
  refine mv_iload_n (pc := 51) B d_Program_init_51 rfl 2 rfl ?_
  refine mq_newa (pc := 52) (ty := .int) (N := 48) (n2 := 153) B rfl (by decide) rfl hok (B.2.2.2.1 _ k_87) rfl (Or.inl rfl) (by decide) (by decide) (by decide) (Nat.le_of_ble_eq_true rfl) (Nat.le_of_ble_eq_true rfl) d_Program_init_52 (fun al7 g7 B => ?_)
  have hok := hok.nw
  have hNs := mq_K (mKt_ok sk sv) g7 (by decide) (mw_le (by decide)) hNs
  have hg := hg.tr g7 (by decide)
  rw [← g7.1 145 (by decide)]
  refine mv_putRF (pc := 54) (ci := 7) (C := R_Program) (T := F_Program) (N := 19) (o := 145) (r := 152) B 13 rfl rfl (by decide) i_Program t_Program_ok n_Program (B.2.2.2.1 _ k_354) rfl hnm rfl rfl d_Program_init_54 ?_
  have hok := hok.sr (o := 145) (k := 13) (r := 152) (by decide)
  refine mv_aload_n (pc := 57) B d_Program_init_57 rfl 0 rfl ?_
  refine mv_iload_n (pc := 58) B d_Program_init_58 rfl 2 rfl ?_
  refine mv_bipush (pc := 59) (v := 64) B d_Program_init_59 (by decide) ?_
  refine mv_imul (pc := 61) B d_Program_init_61 ?_
  refine mq_newa (pc := 62) (ty := .byte) (N := 3072) (n2 := 154) B rfl (by decide) rfl hok (B.2.2.2.1 _ k_86) rfl (Or.inr (Or.inr (Or.inl rfl))) (by decide) (by decide) (by decide) (Nat.le_of_ble_eq_true rfl) (Nat.le_of_ble_eq_true rfl) d_Program_init_62 (fun al8 g8 B => ?_)
  have hok := hok.nw
  have hNs := mq_K (mKt_ok sk sv) g8 (by decide) (mw_le (by decide)) hNs
  have hg := hg.tr g8 (by decide)
  rw [← g8.1 145 (by decide)]
  refine mv_putRF (pc := 64) (ci := 7) (C := R_Program) (T := F_Program) (N := 19) (o := 145) (r := 153) B 14 rfl rfl (by decide) i_Program t_Program_ok n_Program (B.2.2.2.1 _ k_356) rfl hnm rfl rfl d_Program_init_64 ?_
  have hok := hok.sr (o := 145) (k := 14) (r := 153) (by decide)
  refine mv_aload_n (pc := 67) B d_Program_init_67 rfl 0 rfl ?_
  refine mv_iload_n (pc := 68) B d_Program_init_68 rfl 1 rfl ?_
  refine mq_newa (pc := 69) (ty := .int) (N := 8192) (n2 := 155) B rfl (by decide) rfl hok (B.2.2.2.1 _ k_87) rfl (Or.inl rfl) (by decide) (by decide) (by decide) (Nat.le_of_ble_eq_true rfl) (Nat.le_of_ble_eq_true rfl) d_Program_init_69 (fun al9 g9 B => ?_)
  have hok := hok.nw
  have hNs := mq_K (mKt_ok sk sv) g9 (by decide) (mw_le (by decide)) hNs
  have hg := hg.tr g9 (by decide)
  rw [← g9.1 145 (by decide)]
  refine mv_putRF (pc := 71) (ci := 7) (C := R_Program) (T := F_Program) (N := 19) (o := 145) (r := 154) B 15 rfl rfl (by decide) i_Program t_Program_ok n_Program (B.2.2.2.1 _ k_357) rfl hnm rfl rfl d_Program_init_71 ?_
  have hok := hok.sr (o := 145) (k := 15) (r := 154) (by decide)
  refine mv_aload_n (pc := 74) B d_Program_init_74 rfl 0 rfl ?_
  refine mv_iload_n (pc := 75) B d_Program_init_75 rfl 1 rfl ?_
  refine mq_newa (pc := 76) (ty := .long) (N := 8192) (n2 := 156) B rfl (by decide) rfl hok (B.2.2.2.1 _ k_88) rfl (Or.inr (Or.inl rfl)) (by decide) (by decide) (by decide) (Nat.le_of_ble_eq_true rfl) (Nat.le_of_ble_eq_true rfl) d_Program_init_76 (fun al10 g10 B => ?_)
  have hok := hok.nw
  have hNs := mq_K (mKt_ok sk sv) g10 (by decide) (mw_le (by decide)) hNs
  have hg := hg.tr g10 (by decide)
  rw [← g10.1 145 (by decide)]
  refine mv_putRF (pc := 78) (ci := 7) (C := R_Program) (T := F_Program) (N := 19) (o := 145) (r := 155) B 16 rfl rfl (by decide) i_Program t_Program_ok n_Program (B.2.2.2.1 _ k_359) rfl hnm rfl rfl d_Program_init_78 ?_
  have hok := hok.sr (o := 145) (k := 16) (r := 155) (by decide)
  refine mv_aload_n (pc := 81) B d_Program_init_81 rfl 0 rfl ?_
  refine mq_new (pc := 82) (ci := 8) (C := R_Tree) (T := F_Tree) (N := 5) (n2 := 157) B rfl (by decide) rfl hok rfl i_Tree t_Tree_ok (by decide) (B.2.2.2.1 _ k_285) (B.2.2.2.1 _ k_286) (B.2.2.2.1 _ k_9) (Nat.le_of_ble_eq_true rfl) (Nat.le_of_ble_eq_true rfl) d_Program_init_82 (fun al11 g11 B => ?_)
  have hok := hok.nw
  have hNs := mq_K (mKt_ok sk sv) g11 (by decide) (mw_le (by decide)) hNs
  have hg := hg.tr g11 (by decide)
  rw [← g11.1 145 (by decide)]
  refine mv_dup (pc := 85) B d_Program_init_85 rfl ?_
  refine mv_iload_n (pc := 86) B d_Program_init_86 rfl 2 rfl ?_
  refine mq_callI (pc := 87) (na := 1) B (mKt_ok sk sv) hNs (by decide) (by decide) (nc_Tree_c l B.2.2.2.2.2.1 hlt _ hok) rfl (ma_goodc kc_Tree_init) (B.2.2.2.1 _ k_287) (B.2.2.2.1 _ k_288) (B.2.2.2.1 _ k_9) ⟨rfl, ⟨by decide +kernel, by decide +kernel⟩, by decide +kernel⟩ rfl d_Program_init_87 rfl (Nat.le_of_ble_eq_true rfl) ⟨by decide, by decide⟩ ⟨Nat.le_of_ble_eq_true rfl, Nat.le_of_ble_eq_true rfl⟩ (fun v9 al12 σ12 g12 B h9 => ?_)
  obtain ⟨rfl, rfl⟩ := h9
  have hok := ok_Tree_c hok
  have hNs := mq_K (mKt_ok sk sv) g12 (by decide) (mw_le (by decide)) hNs
  have hg := hg.tr g12 (by decide)
  rw [← g12.1 145 (by decide)]
  rw [← g12.1 156 (by decide)]
  refine mv_putRF (pc := 90) (ci := 7) (C := R_Program) (T := F_Program) (N := 19) (o := 145) (r := 156) B 18 rfl rfl (by decide) i_Program t_Program_ok n_Program (B.2.2.2.1 _ k_364) rfl hnm rfl rfl d_Program_init_90 ?_
  have hok := hok.sr (o := 145) (k := 18) (r := 156) (by decide)
  exact mq_vret (pc := 93) B hr d_Program_init_93 (Nat.le_of_ble_eq_true rfl) (Nat.le_of_ble_eq_true rfl) hg ⟨rfl, rfl⟩
def y_Machine_init : MethodName := ⟨"MachineLoom$Machine", "<init>", "(LMachineLoom$Program;)V"⟩
abbrev b_Machine_init : ByteArray := prog_5_method_1_code
theorem kc_Machine_init : Cond.code y_Machine_init b_Machine_init 2 (Option.none : Option Jvm.ClassFile.FieldType) ∈ ma := ma_of (tb_2 _ (List.mem_of_getElem? (i := 197) rfl)) rfl
theorem k_438 : (Jvm.Cond.methodLink "MachineLoom$Machine" (3 : Nat) ({ cls := "java/lang/Object", name := "<init>", desc := "()V" } : Jvm.MethodName)) ∈ ma := ma_of (tb_2 _ (List.mem_of_getElem? (i := 198) rfl)) rfl
theorem k_439 : (Jvm.Cond.constant "MachineLoom$Machine" (9 : Nat) (65600 : Int32)) ∈ ma := ma_of (tb_2 _ (List.mem_of_getElem? (i := 199) rfl)) rfl
theorem d_Machine_init_0 : decode b_Machine_init 0 = .ok (.aload_n 0, 1) := by decide +kernel
theorem d_Machine_init_1 : decode b_Machine_init 1 = .ok (.invokespecial 3, 3) := by decide +kernel
theorem d_Machine_init_4 : decode b_Machine_init 4 = .ok (.aload_n 0, 1) := by decide +kernel
theorem d_Machine_init_5 : decode b_Machine_init 5 = .ok (.ldc 9, 2) := by decide +kernel
theorem d_Machine_init_7 : decode b_Machine_init 7 = .ok (.newarray .long, 2) := by decide +kernel
theorem d_Machine_init_9 : decode b_Machine_init 9 = .ok (.putfield 10, 3) := by decide +kernel
theorem d_Machine_init_12 : decode b_Machine_init 12 = .ok (.aload_n 0, 1) := by decide +kernel
theorem d_Machine_init_13 : decode b_Machine_init 13 = .ok (.bipush 64, 2) := by decide +kernel
theorem d_Machine_init_15 : decode b_Machine_init 15 = .ok (.newarray .long, 2) := by decide +kernel
theorem d_Machine_init_17 : decode b_Machine_init 17 = .ok (.putfield 16, 3) := by decide +kernel
theorem d_Machine_init_20 : decode b_Machine_init 20 = .ok (.aload_n 0, 1) := by decide +kernel
theorem d_Machine_init_21 : decode b_Machine_init 21 = .ok (.sipush 1024, 3) := by decide +kernel
theorem d_Machine_init_24 : decode b_Machine_init 24 = .ok (.newarray .long, 2) := by decide +kernel
theorem d_Machine_init_26 : decode b_Machine_init 26 = .ok (.putfield 19, 3) := by decide +kernel
theorem d_Machine_init_29 : decode b_Machine_init 29 = .ok (.aload_n 0, 1) := by decide +kernel
theorem d_Machine_init_30 : decode b_Machine_init 30 = .ok (.sipush 8193, 3) := by decide +kernel
theorem d_Machine_init_33 : decode b_Machine_init 33 = .ok (.newarray .int, 2) := by decide +kernel
theorem d_Machine_init_35 : decode b_Machine_init 35 = .ok (.putfield 22, 3) := by decide +kernel
theorem d_Machine_init_38 : decode b_Machine_init 38 = .ok (.aload_n 0, 1) := by decide +kernel
theorem d_Machine_init_39 : decode b_Machine_init 39 = .ok (.sipush 8193, 3) := by decide +kernel
theorem d_Machine_init_42 : decode b_Machine_init 42 = .ok (.newarray .long, 2) := by decide +kernel
theorem d_Machine_init_44 : decode b_Machine_init 44 = .ok (.putfield 26, 3) := by decide +kernel
theorem d_Machine_init_47 : decode b_Machine_init 47 = .ok (.aload_n 0, 1) := by decide +kernel
theorem d_Machine_init_48 : decode b_Machine_init 48 = .ok (.aload_n 1, 1) := by decide +kernel
theorem d_Machine_init_49 : decode b_Machine_init 49 = .ok (.putfield 29, 3) := by decide +kernel
theorem d_Machine_init_52 : decode b_Machine_init 52 = .ok (.return_, 1) := by decide +kernel
def sg_Machine (σ : mv_H) : mv_H := (mv_sr (mv_sr (mv_nw (mv_sr (mv_nw (mv_sr (mv_nw (mv_sr (mv_nw (mv_sr (mv_nw σ 65) 64 1 (some 65)) 66) 64 2 (some 66)) 67) 64 3 (some 67)) 68) 64 5 (some 68)) 69) 64 6 (some 69)) 64 0 (some 32))
theorem ok_Machine {σ : mv_H} (hok : mv_ok σ 65) : mv_ok (sg_Machine σ) 70 := by
  have hok := hok.nw
  have hok := hok.sr (o := 64) (k := 1) (r := 65) (by decide)
  have hok := hok.nw
  have hok := hok.sr (o := 64) (k := 2) (r := 66) (by decide)
  have hok := hok.nw
  have hok := hok.sr (o := 64) (k := 3) (r := 67) (by decide)
  have hok := hok.nw
  have hok := hok.sr (o := 64) (k := 5) (r := 68) (by decide)
  have hok := hok.nw
  have hok := hok.sr (o := 64) (k := 6) (r := 69) (by decide)
  have hok := hok.sr (o := 64) (k := 0) (r := 32) (by decide)
  exact hok
theorem kb_Machine {σ : mv_H} (h0 : mv_ok σ 65) (hgh : gh σ) : Kpb 64 σ (sg_Machine σ) := by
  have hok := h0
  have hk : Kpb 64 σ σ := Kpb.rf
  have hk := hk.nw (m := 65) (by decide)
  have hok := hok.nw
  have hk := hk.sr (a := 64) (k := 1) (v := some 65) (by decide)
  have hok := hok.sr (o := 64) (k := 1) (r := 65) (by decide)
  have hk := hk.nw (m := 66) (by decide)
  have hok := hok.nw
  have hk := hk.sr (a := 64) (k := 2) (v := some 66) (by decide)
  have hok := hok.sr (o := 64) (k := 2) (r := 66) (by decide)
  have hk := hk.nw (m := 67) (by decide)
  have hok := hok.nw
  have hk := hk.sr (a := 64) (k := 3) (v := some 67) (by decide)
  have hok := hok.sr (o := 64) (k := 3) (r := 67) (by decide)
  have hk := hk.nw (m := 68) (by decide)
  have hok := hok.nw
  have hk := hk.sr (a := 64) (k := 5) (v := some 68) (by decide)
  have hok := hok.sr (o := 64) (k := 5) (r := 68) (by decide)
  have hk := hk.nw (m := 69) (by decide)
  have hok := hok.nw
  have hk := hk.sr (a := 64) (k := 6) (v := some 69) (by decide)
  have hok := hok.sr (o := 64) (k := 6) (r := 69) (by decide)
  have hk := hk.sr (a := 64) (k := 0) (v := some 32) (by decide)
  have hok := hok.sr (o := 64) (k := 0) (r := 32) (by decide)
  exact hk
set_option maxHeartbeats 4000000 in
set_option maxRecDepth 100000 in
theorem nc_Machine (l : Launch) {dA : FieldType → ClassId} {D : va_G} {al : Nat → Nat} {sk sv : Nat → Nat} (hi : mv_inj (mq dA D al 65)) (hlt : l.stackTraces = false) (σ : mv_H) (hok : mv_ok σ 65) : mv_CN l y_Machine_init (Cond.code y_Machine_init b_Machine_init 2 (Option.none : Option Jvm.ClassFile.FieldType) :: ma) ({ frames := 1, cells := 5, slots := 83074, locals := 20 }) dA D al 65 70 (mKt sk sv) [.ref (al 64), .ref (al 32)] σ (fun v9 σ9 => v9 = none ∧ σ9 = sg_Machine σ) := by
  refine mv_CN.ofV (cc := b_Machine_init) (nL := 2) (ret := (Option.none : Option Jvm.ClassFile.FieldType)) (by decide +kernel) rfl hi (Nat.le_of_ble_eq_true rfl) ?_
  intro p e s m args below meth c B hNs hr hnm hno
  have hg : mq_gr al al 65 65 s.heap.size := mq_gr.rf
  refine mv_aload_n (pc := 0) B d_Machine_init_0 rfl 0 rfl ?_
  refine mv_obj (pc := 1) B (B.2.2.2.1 _ k_438) (B.2.2.2.1 _ k_43) (B.2.2.2.1 _ k_44) d_Machine_init_1 (Nat.le_of_ble_eq_true rfl) ⟨by decide, by decide⟩ ?_
  refine mv_aload_n (pc := 4) B d_Machine_init_4 rfl 0 rfl ?_
  refine mv_ldc (pc := 5) (v := 65600) B (B.2.2.2.1 _ k_439) d_Machine_init_5 ?_
  refine mq_newa (pc := 7) (ty := .long) (N := 65600) (n2 := 66) B rfl (by decide) rfl hok (B.2.2.2.1 _ k_88) rfl (Or.inr (Or.inl rfl)) (by decide) (by decide) (by decide) (Nat.le_of_ble_eq_true rfl) (Nat.le_of_ble_eq_true rfl) d_Machine_init_7 (fun al1 g1 B => ?_)
  have hok := hok.nw
  have hNs := mq_K (mKt_ok sk sv) g1 (by decide) (mw_le (by decide)) hNs
  have hg := hg.tr g1 (by decide)
  rw [← g1.1 64 (by decide)]
  rw [← g1.1 32 (by decide)]
  refine mv_putRF (pc := 9) (ci := 9) (C := R_Machine) (T := F_Machine) (N := 13) (o := 64) (r := 65) B 1 rfl rfl (by decide) i_Machine t_Machine_ok n_Machine (B.2.2.2.1 _ k_442) rfl hnm rfl rfl d_Machine_init_9 ?_
  have hok := hok.sr (o := 64) (k := 1) (r := 65) (by decide)
  refine mv_aload_n (pc := 12) B d_Machine_init_12 rfl 0 rfl ?_
  refine mv_bipush (pc := 13) (v := 64) B d_Machine_init_13 (by decide) ?_
  refine mq_newa (pc := 15) (ty := .long) (N := 64) (n2 := 67) B rfl (by decide) rfl hok (B.2.2.2.1 _ k_88) rfl (Or.inr (Or.inl rfl)) (by decide) (by decide) (by decide) (Nat.le_of_ble_eq_true rfl) (Nat.le_of_ble_eq_true rfl) d_Machine_init_15 (fun al2 g2 B => ?_)
  have hok := hok.nw
  have hNs := mq_K (mKt_ok sk sv) g2 (by decide) (mw_le (by decide)) hNs
  have hg := hg.tr g2 (by decide)
  rw [← g2.1 64 (by decide)]
  rw [← g2.1 32 (by decide)]
  refine mv_putRF (pc := 17) (ci := 9) (C := R_Machine) (T := F_Machine) (N := 13) (o := 64) (r := 66) B 2 rfl rfl (by decide) i_Machine t_Machine_ok n_Machine (B.2.2.2.1 _ k_444) rfl hnm rfl rfl d_Machine_init_17 ?_
  have hok := hok.sr (o := 64) (k := 2) (r := 66) (by decide)
  refine mv_aload_n (pc := 20) B d_Machine_init_20 rfl 0 rfl ?_
  refine mv_sipush (pc := 21) (v := 1024) B d_Machine_init_21 (by decide) ?_
  refine mq_newa (pc := 24) (ty := .long) (N := 1024) (n2 := 68) B rfl (by decide) rfl hok (B.2.2.2.1 _ k_88) rfl (Or.inr (Or.inl rfl)) (by decide) (by decide) (by decide) (Nat.le_of_ble_eq_true rfl) (Nat.le_of_ble_eq_true rfl) d_Machine_init_24 (fun al3 g3 B => ?_)
  have hok := hok.nw
  have hNs := mq_K (mKt_ok sk sv) g3 (by decide) (mw_le (by decide)) hNs
  have hg := hg.tr g3 (by decide)
  rw [← g3.1 64 (by decide)]
  rw [← g3.1 32 (by decide)]
  refine mv_putRF (pc := 26) (ci := 9) (C := R_Machine) (T := F_Machine) (N := 13) (o := 64) (r := 67) B 3 rfl rfl (by decide) i_Machine t_Machine_ok n_Machine (B.2.2.2.1 _ k_445) rfl hnm rfl rfl d_Machine_init_26 ?_
  have hok := hok.sr (o := 64) (k := 3) (r := 67) (by decide)
  refine mv_aload_n (pc := 29) B d_Machine_init_29 rfl 0 rfl ?_
  refine mv_sipush (pc := 30) (v := 8193) B d_Machine_init_30 (by decide) ?_
  refine mq_newa (pc := 33) (ty := .int) (N := 8193) (n2 := 69) B rfl (by decide) rfl hok (B.2.2.2.1 _ k_87) rfl (Or.inl rfl) (by decide) (by decide) (by decide) (Nat.le_of_ble_eq_true rfl) (Nat.le_of_ble_eq_true rfl) d_Machine_init_33 (fun al4 g4 B => ?_)
  have hok := hok.nw
  have hNs := mq_K (mKt_ok sk sv) g4 (by decide) (mw_le (by decide)) hNs
  have hg := hg.tr g4 (by decide)
  rw [← g4.1 64 (by decide)]
  rw [← g4.1 32 (by decide)]
  refine mv_putRF (pc := 35) (ci := 9) (C := R_Machine) (T := F_Machine) (N := 13) (o := 64) (r := 68) B 5 rfl rfl (by decide) i_Machine t_Machine_ok n_Machine (B.2.2.2.1 _ k_447) rfl hnm rfl rfl d_Machine_init_35 ?_
  have hok := hok.sr (o := 64) (k := 5) (r := 68) (by decide)
  refine mv_aload_n (pc := 38) B d_Machine_init_38 rfl 0 rfl ?_
  refine mv_sipush (pc := 39) (v := 8193) B d_Machine_init_39 (by decide) ?_
  refine mq_newa (pc := 42) (ty := .long) (N := 8193) (n2 := 70) B rfl (by decide) rfl hok (B.2.2.2.1 _ k_88) rfl (Or.inr (Or.inl rfl)) (by decide) (by decide) (by decide) (Nat.le_of_ble_eq_true rfl) (Nat.le_of_ble_eq_true rfl) d_Machine_init_42 (fun al5 g5 B => ?_)
  have hok := hok.nw
  have hNs := mq_K (mKt_ok sk sv) g5 (by decide) (mw_le (by decide)) hNs
  have hg := hg.tr g5 (by decide)
  rw [← g5.1 64 (by decide)]
  rw [← g5.1 32 (by decide)]
  refine mv_putRF (pc := 44) (ci := 9) (C := R_Machine) (T := F_Machine) (N := 13) (o := 64) (r := 69) B 6 rfl rfl (by decide) i_Machine t_Machine_ok n_Machine (B.2.2.2.1 _ k_448) rfl hnm rfl rfl d_Machine_init_44 ?_
  have hok := hok.sr (o := 64) (k := 6) (r := 69) (by decide)
  refine mv_aload_n (pc := 47) B d_Machine_init_47 rfl 0 rfl ?_
  refine mv_aload_n (pc := 48) B d_Machine_init_48 rfl 1 rfl ?_
  refine mv_putR (pc := 49) (ci := 9) (C := R_Machine) (T := F_Machine) (N := 13) (o := 64) (r := 32) B 0 rfl rfl (by decide) i_Machine t_Machine_ok n_Machine (B.2.2.2.1 _ k_440) rfl rfl d_Machine_init_49 ?_
  have hok := hok.sr (o := 64) (k := 0) (r := 32) (by decide)
  exact mq_vret (pc := 52) B hr d_Machine_init_52 (Nat.le_of_ble_eq_true rfl) (Nat.le_of_ble_eq_true rfl) hg ⟨rfl, rfl⟩
def y_Shipped_init : MethodName := ⟨"MachineLoom$Shipped", "<init>", "()V"⟩
abbrev b_Shipped_init : ByteArray := prog_8_method_1_code
theorem kc_Shipped_init : Cond.code y_Shipped_init b_Shipped_init 1 (Option.none : Option Jvm.ClassFile.FieldType) ∈ ma := ma_of (tb_3 _ (List.mem_of_getElem? (i := 45) rfl)) rfl
theorem k_526 : (Jvm.Cond.methodLink "MachineLoom$Shipped" (3 : Nat) ({ cls := "java/lang/Object", name := "<init>", desc := "()V" } : Jvm.MethodName)) ∈ ma := ma_of (tb_3 _ (List.mem_of_getElem? (i := 46) rfl)) rfl
theorem d_Shipped_init_0 : decode b_Shipped_init 0 = .ok (.aload_n 0, 1) := by decide +kernel
theorem d_Shipped_init_1 : decode b_Shipped_init 1 = .ok (.invokespecial 3, 3) := by decide +kernel
theorem d_Shipped_init_4 : decode b_Shipped_init 4 = .ok (.aload_n 0, 1) := by decide +kernel
theorem d_Shipped_init_5 : decode b_Shipped_init 5 = .ok (.sipush 8192, 3) := by decide +kernel
theorem d_Shipped_init_8 : decode b_Shipped_init 8 = .ok (.newarray .byte, 2) := by decide +kernel
theorem d_Shipped_init_10 : decode b_Shipped_init 10 = .ok (.putfield 9, 3) := by decide +kernel
theorem d_Shipped_init_13 : decode b_Shipped_init 13 = .ok (.return_, 1) := by decide +kernel
def sg_Shipped (σ : mv_H) : mv_H := (mv_sr (mv_nw σ 144) 143 0 (some 144))
theorem ok_Shipped {σ : mv_H} (hok : mv_ok σ 144) : mv_ok (sg_Shipped σ) 145 := by
  have hok := hok.nw
  have hok := hok.sr (o := 143) (k := 0) (r := 144) (by decide)
  exact hok
set_option maxHeartbeats 4000000 in
set_option maxRecDepth 100000 in
theorem nc_Shipped (l : Launch) {dA : FieldType → ClassId} {D : va_G} {al : Nat → Nat} {sk sv : Nat → Nat} (hi : mv_inj (mq dA D al 144)) (hlt : l.stackTraces = false) (σ : mv_H) (hok : mv_ok σ 144) : mv_CN l y_Shipped_init (Cond.code y_Shipped_init b_Shipped_init 1 (Option.none : Option Jvm.ClassFile.FieldType) :: ma) ({ frames := 1, cells := 1, slots := 8192, locals := 20 }) dA D al 144 145 (mKt sk sv) [.ref (al 143)] σ (fun v9 σ9 => v9 = none ∧ σ9 = sg_Shipped σ) := by
  refine mv_CN.ofV (cc := b_Shipped_init) (nL := 1) (ret := (Option.none : Option Jvm.ClassFile.FieldType)) (by decide +kernel) rfl hi (Nat.le_of_ble_eq_true rfl) ?_
  intro p e s m args below meth c B hNs hr hnm hno
  have hg : mq_gr al al 144 144 s.heap.size := mq_gr.rf
  refine mv_aload_n (pc := 0) B d_Shipped_init_0 rfl 0 rfl ?_
  refine mv_obj (pc := 1) B (B.2.2.2.1 _ k_526) (B.2.2.2.1 _ k_43) (B.2.2.2.1 _ k_44) d_Shipped_init_1 (Nat.le_of_ble_eq_true rfl) ⟨by decide, by decide⟩ ?_
  refine mv_aload_n (pc := 4) B d_Shipped_init_4 rfl 0 rfl ?_
  refine mv_sipush (pc := 5) (v := 8192) B d_Shipped_init_5 (by decide) ?_
  refine mq_newa (pc := 8) (ty := .byte) (N := 8192) (n2 := 145) B rfl (by decide) rfl hok (B.2.2.2.1 _ k_86) rfl (Or.inr (Or.inr (Or.inl rfl))) (by decide) (by decide) (by decide) (Nat.le_of_ble_eq_true rfl) (Nat.le_of_ble_eq_true rfl) d_Shipped_init_8 (fun al1 g1 B => ?_)
  have hok := hok.nw
  have hNs := mq_K (mKt_ok sk sv) g1 (by decide) (mw_le (by decide)) hNs
  have hg := hg.tr g1 (by decide)
  rw [← g1.1 143 (by decide)]
  refine mv_putRF (pc := 10) (ci := 10) (C := R_Shipped) (T := F_Shipped) (N := 2) (o := 143) (r := 144) B 0 rfl rfl (by decide) i_Shipped t_Shipped_ok n_Shipped (B.2.2.2.1 _ k_527) rfl hnm rfl rfl d_Shipped_init_10 ?_
  have hok := hok.sr (o := 143) (k := 0) (r := 144) (by decide)
  exact mq_vret (pc := 13) B hr d_Shipped_init_13 (Nat.le_of_ble_eq_true rfl) (Nat.le_of_ble_eq_true rfl) hg ⟨rfl, rfl⟩
def y_Book_init : MethodName := ⟨"MachineLoomModel$Book", "<init>", "()V"⟩
abbrev b_Book_init : ByteArray := prog_15_method_1_code
theorem kc_Book_init : Cond.code y_Book_init b_Book_init 1 (Option.none : Option Jvm.ClassFile.FieldType) ∈ ma := ma_of (tb_8 _ (List.mem_of_getElem? (i := 140) rfl)) rfl
theorem k_1821 : (Jvm.Cond.methodLink "MachineLoomModel$Book" (1 : Nat) ({ cls := "java/lang/Object", name := "<init>", desc := "()V" } : Jvm.MethodName)) ∈ ma := ma_of (tb_8 _ (List.mem_of_getElem? (i := 141) rfl)) rfl
theorem k_1840 : (Jvm.Cond.constant "MachineLoomModel$Book" (64 : Nat) (32768 : Int32)) ∈ ma := ma_of (tb_8 _ (List.mem_of_getElem? (i := 160) rfl)) rfl
theorem k_1841 : (Jvm.Cond.constant "MachineLoomModel$Book" (81 : Nat) (33000 : Int32)) ∈ ma := ma_of (tb_8 _ (List.mem_of_getElem? (i := 161) rfl)) rfl
theorem d_Book_init_0 : decode b_Book_init 0 = .ok (.aload_n 0, 1) := by decide +kernel
theorem d_Book_init_1 : decode b_Book_init 1 = .ok (.invokespecial 1, 3) := by decide +kernel
theorem d_Book_init_4 : decode b_Book_init 4 = .ok (.aload_n 0, 1) := by decide +kernel
theorem d_Book_init_5 : decode b_Book_init 5 = .ok (.new 7, 3) := by decide +kernel
theorem d_Book_init_8 : decode b_Book_init 8 = .ok (.dup, 1) := by decide +kernel
theorem d_Book_init_9 : decode b_Book_init 9 = .ok (.invokespecial 9, 3) := by decide +kernel
theorem d_Book_init_12 : decode b_Book_init 12 = .ok (.putfield 10, 3) := by decide +kernel
theorem d_Book_init_15 : decode b_Book_init 15 = .ok (.aload_n 0, 1) := by decide +kernel
theorem d_Book_init_16 : decode b_Book_init 16 = .ok (.sipush 4100, 3) := by decide +kernel
theorem d_Book_init_19 : decode b_Book_init 19 = .ok (.newarray .int, 2) := by decide +kernel
theorem d_Book_init_21 : decode b_Book_init 21 = .ok (.putfield 16, 3) := by decide +kernel
theorem d_Book_init_24 : decode b_Book_init 24 = .ok (.aload_n 0, 1) := by decide +kernel
theorem d_Book_init_25 : decode b_Book_init 25 = .ok (.sipush 4100, 3) := by decide +kernel
theorem d_Book_init_28 : decode b_Book_init 28 = .ok (.newarray .int, 2) := by decide +kernel
theorem d_Book_init_30 : decode b_Book_init 30 = .ok (.putfield 20, 3) := by decide +kernel
theorem d_Book_init_33 : decode b_Book_init 33 = .ok (.aload_n 0, 1) := by decide +kernel
theorem d_Book_init_34 : decode b_Book_init 34 = .ok (.sipush 4100, 3) := by decide +kernel
theorem d_Book_init_37 : decode b_Book_init 37 = .ok (.newarray .int, 2) := by decide +kernel
theorem d_Book_init_39 : decode b_Book_init 39 = .ok (.putfield 23, 3) := by decide +kernel
theorem d_Book_init_42 : decode b_Book_init 42 = .ok (.aload_n 0, 1) := by decide +kernel
theorem d_Book_init_43 : decode b_Book_init 43 = .ok (.sipush 4100, 3) := by decide +kernel
theorem d_Book_init_46 : decode b_Book_init 46 = .ok (.newarray .int, 2) := by decide +kernel
theorem d_Book_init_48 : decode b_Book_init 48 = .ok (.putfield 26, 3) := by decide +kernel
theorem d_Book_init_51 : decode b_Book_init 51 = .ok (.aload_n 0, 1) := by decide +kernel
theorem d_Book_init_52 : decode b_Book_init 52 = .ok (.sipush 4100, 3) := by decide +kernel
theorem d_Book_init_55 : decode b_Book_init 55 = .ok (.newarray .int, 2) := by decide +kernel
theorem d_Book_init_57 : decode b_Book_init 57 = .ok (.putfield 29, 3) := by decide +kernel
theorem d_Book_init_60 : decode b_Book_init 60 = .ok (.aload_n 0, 1) := by decide +kernel
theorem d_Book_init_61 : decode b_Book_init 61 = .ok (.sipush 4100, 3) := by decide +kernel
theorem d_Book_init_64 : decode b_Book_init 64 = .ok (.newarray .boolean, 2) := by decide +kernel
theorem d_Book_init_66 : decode b_Book_init 66 = .ok (.putfield 32, 3) := by decide +kernel
theorem d_Book_init_69 : decode b_Book_init 69 = .ok (.aload_n 0, 1) := by decide +kernel
theorem d_Book_init_70 : decode b_Book_init 70 = .ok (.sipush 4100, 3) := by decide +kernel
theorem d_Book_init_73 : decode b_Book_init 73 = .ok (.newarray .boolean, 2) := by decide +kernel
theorem d_Book_init_75 : decode b_Book_init 75 = .ok (.putfield 36, 3) := by decide +kernel
theorem d_Book_init_78 : decode b_Book_init 78 = .ok (.aload_n 0, 1) := by decide +kernel
theorem d_Book_init_79 : decode b_Book_init 79 = .ok (.iconst (-1), 1) := by decide +kernel
theorem d_Book_init_80 : decode b_Book_init 80 = .ok (.putfield 39, 3) := by decide +kernel
theorem d_Book_init_83 : decode b_Book_init 83 = .ok (.aload_n 0, 1) := by decide +kernel
theorem d_Book_init_84 : decode b_Book_init 84 = .ok (.bipush 8, 2) := by decide +kernel
theorem d_Book_init_86 : decode b_Book_init 86 = .ok (.putfield 43, 3) := by decide +kernel
theorem d_Book_init_89 : decode b_Book_init 89 = .ok (.aload_n 0, 1) := by decide +kernel
theorem d_Book_init_90 : decode b_Book_init 90 = .ok (.iconst (-1), 1) := by decide +kernel
theorem d_Book_init_91 : decode b_Book_init 91 = .ok (.putfield 46, 3) := by decide +kernel
theorem d_Book_init_94 : decode b_Book_init 94 = .ok (.aload_n 0, 1) := by decide +kernel
theorem d_Book_init_95 : decode b_Book_init 95 = .ok (.sipush 4100, 3) := by decide +kernel
theorem d_Book_init_98 : decode b_Book_init 98 = .ok (.newarray .int, 2) := by decide +kernel
theorem d_Book_init_100 : decode b_Book_init 100 = .ok (.putfield 49, 3) := by decide +kernel
theorem d_Book_init_103 : decode b_Book_init 103 = .ok (.aload_n 0, 1) := by decide +kernel
theorem d_Book_init_104 : decode b_Book_init 104 = .ok (.sipush 4100, 3) := by decide +kernel
theorem d_Book_init_107 : decode b_Book_init 107 = .ok (.newarray .int, 2) := by decide +kernel
theorem d_Book_init_109 : decode b_Book_init 109 = .ok (.putfield 52, 3) := by decide +kernel
theorem d_Book_init_112 : decode b_Book_init 112 = .ok (.aload_n 0, 1) := by decide +kernel
theorem d_Book_init_113 : decode b_Book_init 113 = .ok (.sipush 4100, 3) := by decide +kernel
theorem d_Book_init_116 : decode b_Book_init 116 = .ok (.newarray .int, 2) := by decide +kernel
theorem d_Book_init_118 : decode b_Book_init 118 = .ok (.putfield 55, 3) := by decide +kernel
theorem d_Book_init_121 : decode b_Book_init 121 = .ok (.aload_n 0, 1) := by decide +kernel
theorem d_Book_init_122 : decode b_Book_init 122 = .ok (.sipush 4100, 3) := by decide +kernel
theorem d_Book_init_125 : decode b_Book_init 125 = .ok (.newarray .int, 2) := by decide +kernel
theorem d_Book_init_127 : decode b_Book_init 127 = .ok (.putfield 58, 3) := by decide +kernel
theorem d_Book_init_130 : decode b_Book_init 130 = .ok (.aload_n 0, 1) := by decide +kernel
theorem d_Book_init_131 : decode b_Book_init 131 = .ok (.sipush 4100, 3) := by decide +kernel
theorem d_Book_init_134 : decode b_Book_init 134 = .ok (.newarray .int, 2) := by decide +kernel
theorem d_Book_init_136 : decode b_Book_init 136 = .ok (.putfield 61, 3) := by decide +kernel
theorem d_Book_init_139 : decode b_Book_init 139 = .ok (.aload_n 0, 1) := by decide +kernel
theorem d_Book_init_140 : decode b_Book_init 140 = .ok (.ldc 64, 2) := by decide +kernel
theorem d_Book_init_142 : decode b_Book_init 142 = .ok (.newarray .byte, 2) := by decide +kernel
theorem d_Book_init_144 : decode b_Book_init 144 = .ok (.putfield 65, 3) := by decide +kernel
theorem d_Book_init_147 : decode b_Book_init 147 = .ok (.aload_n 0, 1) := by decide +kernel
theorem d_Book_init_148 : decode b_Book_init 148 = .ok (.sipush 4100, 3) := by decide +kernel
theorem d_Book_init_151 : decode b_Book_init 151 = .ok (.newarray .int, 2) := by decide +kernel
theorem d_Book_init_153 : decode b_Book_init 153 = .ok (.putfield 69, 3) := by decide +kernel
theorem d_Book_init_156 : decode b_Book_init 156 = .ok (.aload_n 0, 1) := by decide +kernel
theorem d_Book_init_157 : decode b_Book_init 157 = .ok (.sipush 4100, 3) := by decide +kernel
theorem d_Book_init_160 : decode b_Book_init 160 = .ok (.newarray .int, 2) := by decide +kernel
theorem d_Book_init_162 : decode b_Book_init 162 = .ok (.putfield 72, 3) := by decide +kernel
theorem d_Book_init_165 : decode b_Book_init 165 = .ok (.aload_n 0, 1) := by decide +kernel
theorem d_Book_init_166 : decode b_Book_init 166 = .ok (.sipush 4100, 3) := by decide +kernel
theorem d_Book_init_169 : decode b_Book_init 169 = .ok (.newarray .int, 2) := by decide +kernel
theorem d_Book_init_171 : decode b_Book_init 171 = .ok (.putfield 75, 3) := by decide +kernel
theorem d_Book_init_174 : decode b_Book_init 174 = .ok (.aload_n 0, 1) := by decide +kernel
theorem d_Book_init_175 : decode b_Book_init 175 = .ok (.sipush 4100, 3) := by decide +kernel
theorem d_Book_init_178 : decode b_Book_init 178 = .ok (.newarray .int, 2) := by decide +kernel
theorem d_Book_init_180 : decode b_Book_init 180 = .ok (.putfield 78, 3) := by decide +kernel
theorem d_Book_init_183 : decode b_Book_init 183 = .ok (.aload_n 0, 1) := by decide +kernel
theorem d_Book_init_184 : decode b_Book_init 184 = .ok (.ldc 81, 2) := by decide +kernel
theorem d_Book_init_186 : decode b_Book_init 186 = .ok (.newarray .int, 2) := by decide +kernel
theorem d_Book_init_188 : decode b_Book_init 188 = .ok (.putfield 82, 3) := by decide +kernel
theorem d_Book_init_191 : decode b_Book_init 191 = .ok (.aload_n 0, 1) := by decide +kernel
theorem d_Book_init_192 : decode b_Book_init 192 = .ok (.ldc 81, 2) := by decide +kernel
theorem d_Book_init_194 : decode b_Book_init 194 = .ok (.newarray .int, 2) := by decide +kernel
theorem d_Book_init_196 : decode b_Book_init 196 = .ok (.putfield 85, 3) := by decide +kernel
theorem d_Book_init_199 : decode b_Book_init 199 = .ok (.aload_n 0, 1) := by decide +kernel
theorem d_Book_init_200 : decode b_Book_init 200 = .ok (.ldc 81, 2) := by decide +kernel
theorem d_Book_init_202 : decode b_Book_init 202 = .ok (.newarray .int, 2) := by decide +kernel
theorem d_Book_init_204 : decode b_Book_init 204 = .ok (.putfield 88, 3) := by decide +kernel
theorem d_Book_init_207 : decode b_Book_init 207 = .ok (.aload_n 0, 1) := by decide +kernel
theorem d_Book_init_208 : decode b_Book_init 208 = .ok (.ldc 81, 2) := by decide +kernel
theorem d_Book_init_210 : decode b_Book_init 210 = .ok (.newarray .int, 2) := by decide +kernel
theorem d_Book_init_212 : decode b_Book_init 212 = .ok (.putfield 91, 3) := by decide +kernel
theorem d_Book_init_215 : decode b_Book_init 215 = .ok (.aload_n 0, 1) := by decide +kernel
theorem d_Book_init_216 : decode b_Book_init 216 = .ok (.ldc 81, 2) := by decide +kernel
theorem d_Book_init_218 : decode b_Book_init 218 = .ok (.newarray .int, 2) := by decide +kernel
theorem d_Book_init_220 : decode b_Book_init 220 = .ok (.putfield 94, 3) := by decide +kernel
theorem d_Book_init_223 : decode b_Book_init 223 = .ok (.aload_n 0, 1) := by decide +kernel
theorem d_Book_init_224 : decode b_Book_init 224 = .ok (.ldc 81, 2) := by decide +kernel
theorem d_Book_init_226 : decode b_Book_init 226 = .ok (.newarray .int, 2) := by decide +kernel
theorem d_Book_init_228 : decode b_Book_init 228 = .ok (.putfield 97, 3) := by decide +kernel
theorem d_Book_init_231 : decode b_Book_init 231 = .ok (.aload_n 0, 1) := by decide +kernel
theorem d_Book_init_232 : decode b_Book_init 232 = .ok (.ldc 81, 2) := by decide +kernel
theorem d_Book_init_234 : decode b_Book_init 234 = .ok (.newarray .long, 2) := by decide +kernel
theorem d_Book_init_236 : decode b_Book_init 236 = .ok (.putfield 100, 3) := by decide +kernel
theorem d_Book_init_239 : decode b_Book_init 239 = .ok (.aload_n 0, 1) := by decide +kernel
theorem d_Book_init_240 : decode b_Book_init 240 = .ok (.ldc 81, 2) := by decide +kernel
theorem d_Book_init_242 : decode b_Book_init 242 = .ok (.newarray .boolean, 2) := by decide +kernel
theorem d_Book_init_244 : decode b_Book_init 244 = .ok (.putfield 104, 3) := by decide +kernel
theorem d_Book_init_247 : decode b_Book_init 247 = .ok (.aload_n 0, 1) := by decide +kernel
theorem d_Book_init_248 : decode b_Book_init 248 = .ok (.sipush 4100, 3) := by decide +kernel
theorem d_Book_init_251 : decode b_Book_init 251 = .ok (.newarray .long, 2) := by decide +kernel
theorem d_Book_init_253 : decode b_Book_init 253 = .ok (.putfield 107, 3) := by decide +kernel
theorem d_Book_init_256 : decode b_Book_init 256 = .ok (.aload_n 0, 1) := by decide +kernel
theorem d_Book_init_257 : decode b_Book_init 257 = .ok (.sipush 4100, 3) := by decide +kernel
theorem d_Book_init_260 : decode b_Book_init 260 = .ok (.newarray .long, 2) := by decide +kernel
theorem d_Book_init_262 : decode b_Book_init 262 = .ok (.putfield 110, 3) := by decide +kernel
theorem d_Book_init_265 : decode b_Book_init 265 = .ok (.aload_n 0, 1) := by decide +kernel
theorem d_Book_init_266 : decode b_Book_init 266 = .ok (.ldc 113, 2) := by decide +kernel
theorem d_Book_init_268 : decode b_Book_init 268 = .ok (.newarray .long, 2) := by decide +kernel
theorem d_Book_init_270 : decode b_Book_init 270 = .ok (.putfield 114, 3) := by decide +kernel
theorem d_Book_init_273 : decode b_Book_init 273 = .ok (.aload_n 0, 1) := by decide +kernel
theorem d_Book_init_274 : decode b_Book_init 274 = .ok (.sipush 12000, 3) := by decide +kernel
theorem d_Book_init_277 : decode b_Book_init 277 = .ok (.newarray .int, 2) := by decide +kernel
theorem d_Book_init_279 : decode b_Book_init 279 = .ok (.putfield 117, 3) := by decide +kernel
theorem d_Book_init_282 : decode b_Book_init 282 = .ok (.aload_n 0, 1) := by decide +kernel
theorem d_Book_init_283 : decode b_Book_init 283 = .ok (.sipush 12000, 3) := by decide +kernel
theorem d_Book_init_286 : decode b_Book_init 286 = .ok (.newarray .int, 2) := by decide +kernel
theorem d_Book_init_288 : decode b_Book_init 288 = .ok (.putfield 120, 3) := by decide +kernel
theorem d_Book_init_291 : decode b_Book_init 291 = .ok (.aload_n 0, 1) := by decide +kernel
theorem d_Book_init_292 : decode b_Book_init 292 = .ok (.ldc 81, 2) := by decide +kernel
theorem d_Book_init_294 : decode b_Book_init 294 = .ok (.newarray .int, 2) := by decide +kernel
theorem d_Book_init_296 : decode b_Book_init 296 = .ok (.putfield 123, 3) := by decide +kernel
theorem d_Book_init_299 : decode b_Book_init 299 = .ok (.aload_n 0, 1) := by decide +kernel
theorem d_Book_init_300 : decode b_Book_init 300 = .ok (.sipush 12000, 3) := by decide +kernel
theorem d_Book_init_303 : decode b_Book_init 303 = .ok (.newarray .long, 2) := by decide +kernel
theorem d_Book_init_305 : decode b_Book_init 305 = .ok (.putfield 126, 3) := by decide +kernel
theorem d_Book_init_308 : decode b_Book_init 308 = .ok (.return_, 1) := by decide +kernel
def sg_Book_x (σ : mv_H) : mv_H := mv_pm (pmB 74) (piB 74) (mv_sr (mv_nw (mv_sr (mv_nw (mv_sr (mv_nw (mv_sr (mv_nw (mv_sr (mv_nw (mv_sr (mv_nw (mv_sr (mv_nw (mv_sr (mv_nw (mv_sr (mv_nw (mv_sr (mv_nw (mv_sr (mv_nw (mv_sr (mv_nw (mv_sr (mv_nw (mv_sr (mv_nw (mv_sr (mv_nw (mv_sr (mv_nw (mv_sr (mv_nw (mv_sr (mv_nw (mv_sr (mv_nw (mv_sr (mv_nw (mv_sr (mv_nw (mv_sr (mv_nw (mv_sr (mv_nw (mv_sr (mv_nw (mv_sr (mv_nw (mv_si (mv_si (mv_si (mv_sr (mv_nw (mv_sr (mv_nw (mv_sr (mv_nw (mv_sr (mv_nw (mv_sr (mv_nw (mv_sr (mv_nw (mv_sr (mv_nw (mv_sr (mv_nw σ 75) 74 0 (some 75)) 76) 74 10 (some 76)) 77) 74 11 (some 77)) 78) 74 12 (some 78)) 79) 74 13 (some 79)) 80) 74 14 (some 80)) 81) 74 15 (some 81)) 82) 74 16 (some 82)) 74 18 (-1)) 74 20 (8)) 74 21 (-1)) 83) 74 23 (some 83)) 84) 74 24 (some 84)) 85) 74 25 (some 85)) 86) 74 26 (some 86)) 87) 74 27 (some 87)) 88) 74 28 (some 88)) 89) 74 31 (some 89)) 90) 74 32 (some 90)) 91) 74 33 (some 91)) 92) 74 34 (some 92)) 93) 74 40 (some 93)) 94) 74 41 (some 94)) 95) 74 42 (some 95)) 96) 74 43 (some 96)) 97) 74 44 (some 97)) 98) 74 45 (some 98)) 99) 74 46 (some 99)) 100) 74 47 (some 100)) 101) 74 54 (some 101)) 102) 74 55 (some 102)) 103) 74 56 (some 103)) 104) 74 57 (some 104)) 105) 74 58 (some 105)) 106) 74 59 (some 106)) 107) 74 60 (some 107))
theorem ok_Book_x {σ : mv_H} (hok : mv_ok σ 75) : mv_ok (sg_Book_x σ) 108 := by
  have hok := hok.nw
  have hok := hok.sr (o := 74) (k := 0) (r := 75) (by decide)
  have hok := hok.nw
  have hok := hok.sr (o := 74) (k := 10) (r := 76) (by decide)
  have hok := hok.nw
  have hok := hok.sr (o := 74) (k := 11) (r := 77) (by decide)
  have hok := hok.nw
  have hok := hok.sr (o := 74) (k := 12) (r := 78) (by decide)
  have hok := hok.nw
  have hok := hok.sr (o := 74) (k := 13) (r := 79) (by decide)
  have hok := hok.nw
  have hok := hok.sr (o := 74) (k := 14) (r := 80) (by decide)
  have hok := hok.nw
  have hok := hok.sr (o := 74) (k := 15) (r := 81) (by decide)
  have hok := hok.nw
  have hok := hok.sr (o := 74) (k := 16) (r := 82) (by decide)
  have hok := mv_ok.r (σ := (mv_sr (mv_nw (mv_sr (mv_nw (mv_sr (mv_nw (mv_sr (mv_nw (mv_sr (mv_nw (mv_sr (mv_nw (mv_sr (mv_nw (mv_sr (mv_nw σ 75) 74 0 (some 75)) 76) 74 10 (some 76)) 77) 74 11 (some 77)) 78) 74 12 (some 78)) 79) 74 13 (some 79)) 80) 74 14 (some 80)) 81) 74 15 (some 81)) 82) 74 16 (some 82))) (τ := (mv_si (mv_sr (mv_nw (mv_sr (mv_nw (mv_sr (mv_nw (mv_sr (mv_nw (mv_sr (mv_nw (mv_sr (mv_nw (mv_sr (mv_nw (mv_sr (mv_nw σ 75) 74 0 (some 75)) 76) 74 10 (some 76)) 77) 74 11 (some 77)) 78) 74 12 (some 78)) 79) 74 13 (some 79)) 80) 74 14 (some 80)) 81) 74 15 (some 81)) 82) 74 16 (some 82)) 74 18 (-1))) hok rfl
  have hok := mv_ok.r (σ := (mv_si (mv_sr (mv_nw (mv_sr (mv_nw (mv_sr (mv_nw (mv_sr (mv_nw (mv_sr (mv_nw (mv_sr (mv_nw (mv_sr (mv_nw (mv_sr (mv_nw σ 75) 74 0 (some 75)) 76) 74 10 (some 76)) 77) 74 11 (some 77)) 78) 74 12 (some 78)) 79) 74 13 (some 79)) 80) 74 14 (some 80)) 81) 74 15 (some 81)) 82) 74 16 (some 82)) 74 18 (-1))) (τ := (mv_si (mv_si (mv_sr (mv_nw (mv_sr (mv_nw (mv_sr (mv_nw (mv_sr (mv_nw (mv_sr (mv_nw (mv_sr (mv_nw (mv_sr (mv_nw (mv_sr (mv_nw σ 75) 74 0 (some 75)) 76) 74 10 (some 76)) 77) 74 11 (some 77)) 78) 74 12 (some 78)) 79) 74 13 (some 79)) 80) 74 14 (some 80)) 81) 74 15 (some 81)) 82) 74 16 (some 82)) 74 18 (-1)) 74 20 (8))) hok rfl
  have hok := mv_ok.r (σ := (mv_si (mv_si (mv_sr (mv_nw (mv_sr (mv_nw (mv_sr (mv_nw (mv_sr (mv_nw (mv_sr (mv_nw (mv_sr (mv_nw (mv_sr (mv_nw (mv_sr (mv_nw σ 75) 74 0 (some 75)) 76) 74 10 (some 76)) 77) 74 11 (some 77)) 78) 74 12 (some 78)) 79) 74 13 (some 79)) 80) 74 14 (some 80)) 81) 74 15 (some 81)) 82) 74 16 (some 82)) 74 18 (-1)) 74 20 (8))) (τ := (mv_si (mv_si (mv_si (mv_sr (mv_nw (mv_sr (mv_nw (mv_sr (mv_nw (mv_sr (mv_nw (mv_sr (mv_nw (mv_sr (mv_nw (mv_sr (mv_nw (mv_sr (mv_nw σ 75) 74 0 (some 75)) 76) 74 10 (some 76)) 77) 74 11 (some 77)) 78) 74 12 (some 78)) 79) 74 13 (some 79)) 80) 74 14 (some 80)) 81) 74 15 (some 81)) 82) 74 16 (some 82)) 74 18 (-1)) 74 20 (8)) 74 21 (-1))) hok rfl
  have hok := hok.nw
  have hok := hok.sr (o := 74) (k := 23) (r := 83) (by decide)
  have hok := hok.nw
  have hok := hok.sr (o := 74) (k := 24) (r := 84) (by decide)
  have hok := hok.nw
  have hok := hok.sr (o := 74) (k := 25) (r := 85) (by decide)
  have hok := hok.nw
  have hok := hok.sr (o := 74) (k := 26) (r := 86) (by decide)
  have hok := hok.nw
  have hok := hok.sr (o := 74) (k := 27) (r := 87) (by decide)
  have hok := hok.nw
  have hok := hok.sr (o := 74) (k := 28) (r := 88) (by decide)
  have hok := hok.nw
  have hok := hok.sr (o := 74) (k := 31) (r := 89) (by decide)
  have hok := hok.nw
  have hok := hok.sr (o := 74) (k := 32) (r := 90) (by decide)
  have hok := hok.nw
  have hok := hok.sr (o := 74) (k := 33) (r := 91) (by decide)
  have hok := hok.nw
  have hok := hok.sr (o := 74) (k := 34) (r := 92) (by decide)
  have hok := hok.nw
  have hok := hok.sr (o := 74) (k := 40) (r := 93) (by decide)
  have hok := hok.nw
  have hok := hok.sr (o := 74) (k := 41) (r := 94) (by decide)
  have hok := hok.nw
  have hok := hok.sr (o := 74) (k := 42) (r := 95) (by decide)
  have hok := hok.nw
  have hok := hok.sr (o := 74) (k := 43) (r := 96) (by decide)
  have hok := hok.nw
  have hok := hok.sr (o := 74) (k := 44) (r := 97) (by decide)
  have hok := hok.nw
  have hok := hok.sr (o := 74) (k := 45) (r := 98) (by decide)
  have hok := hok.nw
  have hok := hok.sr (o := 74) (k := 46) (r := 99) (by decide)
  have hok := hok.nw
  have hok := hok.sr (o := 74) (k := 47) (r := 100) (by decide)
  have hok := hok.nw
  have hok := hok.sr (o := 74) (k := 54) (r := 101) (by decide)
  have hok := hok.nw
  have hok := hok.sr (o := 74) (k := 55) (r := 102) (by decide)
  have hok := hok.nw
  have hok := hok.sr (o := 74) (k := 56) (r := 103) (by decide)
  have hok := hok.nw
  have hok := hok.sr (o := 74) (k := 57) (r := 104) (by decide)
  have hok := hok.nw
  have hok := hok.sr (o := 74) (k := 58) (r := 105) (by decide)
  have hok := hok.nw
  have hok := hok.sr (o := 74) (k := 59) (r := 106) (by decide)
  have hok := hok.nw
  have hok := hok.sr (o := 74) (k := 60) (r := 107) (by decide)
  have hok := hok.pm (π := pmB 74) (πi := piB 74) (fun k hk => pmB_lt hk) (fun r hr => piB_ok (by decide) hr)
  exact hok
theorem kb_Book_x {σ : mv_H} (h0 : mv_ok σ 75) (hgh : gh σ) : Kpb 74 σ (sg_Book_x σ) := by
  have hok := h0
  have hk : Kpb 74 σ σ := Kpb.rf
  have hk := hk.nw (m := 75) (by decide)
  have hok := hok.nw
  have hk := hk.sr (a := 74) (k := 0) (v := some 75) (by decide)
  have hok := hok.sr (o := 74) (k := 0) (r := 75) (by decide)
  have hk := hk.nw (m := 76) (by decide)
  have hok := hok.nw
  have hk := hk.sr (a := 74) (k := 10) (v := some 76) (by decide)
  have hok := hok.sr (o := 74) (k := 10) (r := 76) (by decide)
  have hk := hk.nw (m := 77) (by decide)
  have hok := hok.nw
  have hk := hk.sr (a := 74) (k := 11) (v := some 77) (by decide)
  have hok := hok.sr (o := 74) (k := 11) (r := 77) (by decide)
  have hk := hk.nw (m := 78) (by decide)
  have hok := hok.nw
  have hk := hk.sr (a := 74) (k := 12) (v := some 78) (by decide)
  have hok := hok.sr (o := 74) (k := 12) (r := 78) (by decide)
  have hk := hk.nw (m := 79) (by decide)
  have hok := hok.nw
  have hk := hk.sr (a := 74) (k := 13) (v := some 79) (by decide)
  have hok := hok.sr (o := 74) (k := 13) (r := 79) (by decide)
  have hk := hk.nw (m := 80) (by decide)
  have hok := hok.nw
  have hk := hk.sr (a := 74) (k := 14) (v := some 80) (by decide)
  have hok := hok.sr (o := 74) (k := 14) (r := 80) (by decide)
  have hk := hk.nw (m := 81) (by decide)
  have hok := hok.nw
  have hk := hk.sr (a := 74) (k := 15) (v := some 81) (by decide)
  have hok := hok.sr (o := 74) (k := 15) (r := 81) (by decide)
  have hk := hk.nw (m := 82) (by decide)
  have hok := hok.nw
  have hk := hk.sr (a := 74) (k := 16) (v := some 82) (by decide)
  have hok := hok.sr (o := 74) (k := 16) (r := 82) (by decide)
  have hk := hk.si (a := 74) (k := 18) (v := -1) (by decide)
  have hok := mv_ok.r (σ := (mv_sr (mv_nw (mv_sr (mv_nw (mv_sr (mv_nw (mv_sr (mv_nw (mv_sr (mv_nw (mv_sr (mv_nw (mv_sr (mv_nw (mv_sr (mv_nw σ 75) 74 0 (some 75)) 76) 74 10 (some 76)) 77) 74 11 (some 77)) 78) 74 12 (some 78)) 79) 74 13 (some 79)) 80) 74 14 (some 80)) 81) 74 15 (some 81)) 82) 74 16 (some 82))) (τ := (mv_si (mv_sr (mv_nw (mv_sr (mv_nw (mv_sr (mv_nw (mv_sr (mv_nw (mv_sr (mv_nw (mv_sr (mv_nw (mv_sr (mv_nw (mv_sr (mv_nw σ 75) 74 0 (some 75)) 76) 74 10 (some 76)) 77) 74 11 (some 77)) 78) 74 12 (some 78)) 79) 74 13 (some 79)) 80) 74 14 (some 80)) 81) 74 15 (some 81)) 82) 74 16 (some 82)) 74 18 (-1))) hok rfl
  have hk := hk.si (a := 74) (k := 20) (v := 8) (by decide)
  have hok := mv_ok.r (σ := (mv_si (mv_sr (mv_nw (mv_sr (mv_nw (mv_sr (mv_nw (mv_sr (mv_nw (mv_sr (mv_nw (mv_sr (mv_nw (mv_sr (mv_nw (mv_sr (mv_nw σ 75) 74 0 (some 75)) 76) 74 10 (some 76)) 77) 74 11 (some 77)) 78) 74 12 (some 78)) 79) 74 13 (some 79)) 80) 74 14 (some 80)) 81) 74 15 (some 81)) 82) 74 16 (some 82)) 74 18 (-1))) (τ := (mv_si (mv_si (mv_sr (mv_nw (mv_sr (mv_nw (mv_sr (mv_nw (mv_sr (mv_nw (mv_sr (mv_nw (mv_sr (mv_nw (mv_sr (mv_nw (mv_sr (mv_nw σ 75) 74 0 (some 75)) 76) 74 10 (some 76)) 77) 74 11 (some 77)) 78) 74 12 (some 78)) 79) 74 13 (some 79)) 80) 74 14 (some 80)) 81) 74 15 (some 81)) 82) 74 16 (some 82)) 74 18 (-1)) 74 20 (8))) hok rfl
  have hk := hk.si (a := 74) (k := 21) (v := -1) (by decide)
  have hok := mv_ok.r (σ := (mv_si (mv_si (mv_sr (mv_nw (mv_sr (mv_nw (mv_sr (mv_nw (mv_sr (mv_nw (mv_sr (mv_nw (mv_sr (mv_nw (mv_sr (mv_nw (mv_sr (mv_nw σ 75) 74 0 (some 75)) 76) 74 10 (some 76)) 77) 74 11 (some 77)) 78) 74 12 (some 78)) 79) 74 13 (some 79)) 80) 74 14 (some 80)) 81) 74 15 (some 81)) 82) 74 16 (some 82)) 74 18 (-1)) 74 20 (8))) (τ := (mv_si (mv_si (mv_si (mv_sr (mv_nw (mv_sr (mv_nw (mv_sr (mv_nw (mv_sr (mv_nw (mv_sr (mv_nw (mv_sr (mv_nw (mv_sr (mv_nw (mv_sr (mv_nw σ 75) 74 0 (some 75)) 76) 74 10 (some 76)) 77) 74 11 (some 77)) 78) 74 12 (some 78)) 79) 74 13 (some 79)) 80) 74 14 (some 80)) 81) 74 15 (some 81)) 82) 74 16 (some 82)) 74 18 (-1)) 74 20 (8)) 74 21 (-1))) hok rfl
  have hk := hk.nw (m := 83) (by decide)
  have hok := hok.nw
  have hk := hk.sr (a := 74) (k := 23) (v := some 83) (by decide)
  have hok := hok.sr (o := 74) (k := 23) (r := 83) (by decide)
  have hk := hk.nw (m := 84) (by decide)
  have hok := hok.nw
  have hk := hk.sr (a := 74) (k := 24) (v := some 84) (by decide)
  have hok := hok.sr (o := 74) (k := 24) (r := 84) (by decide)
  have hk := hk.nw (m := 85) (by decide)
  have hok := hok.nw
  have hk := hk.sr (a := 74) (k := 25) (v := some 85) (by decide)
  have hok := hok.sr (o := 74) (k := 25) (r := 85) (by decide)
  have hk := hk.nw (m := 86) (by decide)
  have hok := hok.nw
  have hk := hk.sr (a := 74) (k := 26) (v := some 86) (by decide)
  have hok := hok.sr (o := 74) (k := 26) (r := 86) (by decide)
  have hk := hk.nw (m := 87) (by decide)
  have hok := hok.nw
  have hk := hk.sr (a := 74) (k := 27) (v := some 87) (by decide)
  have hok := hok.sr (o := 74) (k := 27) (r := 87) (by decide)
  have hk := hk.nw (m := 88) (by decide)
  have hok := hok.nw
  have hk := hk.sr (a := 74) (k := 28) (v := some 88) (by decide)
  have hok := hok.sr (o := 74) (k := 28) (r := 88) (by decide)
  have hk := hk.nw (m := 89) (by decide)
  have hok := hok.nw
  have hk := hk.sr (a := 74) (k := 31) (v := some 89) (by decide)
  have hok := hok.sr (o := 74) (k := 31) (r := 89) (by decide)
  have hk := hk.nw (m := 90) (by decide)
  have hok := hok.nw
  have hk := hk.sr (a := 74) (k := 32) (v := some 90) (by decide)
  have hok := hok.sr (o := 74) (k := 32) (r := 90) (by decide)
  have hk := hk.nw (m := 91) (by decide)
  have hok := hok.nw
  have hk := hk.sr (a := 74) (k := 33) (v := some 91) (by decide)
  have hok := hok.sr (o := 74) (k := 33) (r := 91) (by decide)
  have hk := hk.nw (m := 92) (by decide)
  have hok := hok.nw
  have hk := hk.sr (a := 74) (k := 34) (v := some 92) (by decide)
  have hok := hok.sr (o := 74) (k := 34) (r := 92) (by decide)
  have hk := hk.nw (m := 93) (by decide)
  have hok := hok.nw
  have hk := hk.sr (a := 74) (k := 40) (v := some 93) (by decide)
  have hok := hok.sr (o := 74) (k := 40) (r := 93) (by decide)
  have hk := hk.nw (m := 94) (by decide)
  have hok := hok.nw
  have hk := hk.sr (a := 74) (k := 41) (v := some 94) (by decide)
  have hok := hok.sr (o := 74) (k := 41) (r := 94) (by decide)
  have hk := hk.nw (m := 95) (by decide)
  have hok := hok.nw
  have hk := hk.sr (a := 74) (k := 42) (v := some 95) (by decide)
  have hok := hok.sr (o := 74) (k := 42) (r := 95) (by decide)
  have hk := hk.nw (m := 96) (by decide)
  have hok := hok.nw
  have hk := hk.sr (a := 74) (k := 43) (v := some 96) (by decide)
  have hok := hok.sr (o := 74) (k := 43) (r := 96) (by decide)
  have hk := hk.nw (m := 97) (by decide)
  have hok := hok.nw
  have hk := hk.sr (a := 74) (k := 44) (v := some 97) (by decide)
  have hok := hok.sr (o := 74) (k := 44) (r := 97) (by decide)
  have hk := hk.nw (m := 98) (by decide)
  have hok := hok.nw
  have hk := hk.sr (a := 74) (k := 45) (v := some 98) (by decide)
  have hok := hok.sr (o := 74) (k := 45) (r := 98) (by decide)
  have hk := hk.nw (m := 99) (by decide)
  have hok := hok.nw
  have hk := hk.sr (a := 74) (k := 46) (v := some 99) (by decide)
  have hok := hok.sr (o := 74) (k := 46) (r := 99) (by decide)
  have hk := hk.nw (m := 100) (by decide)
  have hok := hok.nw
  have hk := hk.sr (a := 74) (k := 47) (v := some 100) (by decide)
  have hok := hok.sr (o := 74) (k := 47) (r := 100) (by decide)
  have hk := hk.nw (m := 101) (by decide)
  have hok := hok.nw
  have hk := hk.sr (a := 74) (k := 54) (v := some 101) (by decide)
  have hok := hok.sr (o := 74) (k := 54) (r := 101) (by decide)
  have hk := hk.nw (m := 102) (by decide)
  have hok := hok.nw
  have hk := hk.sr (a := 74) (k := 55) (v := some 102) (by decide)
  have hok := hok.sr (o := 74) (k := 55) (r := 102) (by decide)
  have hk := hk.nw (m := 103) (by decide)
  have hok := hok.nw
  have hk := hk.sr (a := 74) (k := 56) (v := some 103) (by decide)
  have hok := hok.sr (o := 74) (k := 56) (r := 103) (by decide)
  have hk := hk.nw (m := 104) (by decide)
  have hok := hok.nw
  have hk := hk.sr (a := 74) (k := 57) (v := some 104) (by decide)
  have hok := hok.sr (o := 74) (k := 57) (r := 104) (by decide)
  have hk := hk.nw (m := 105) (by decide)
  have hok := hok.nw
  have hk := hk.sr (a := 74) (k := 58) (v := some 105) (by decide)
  have hok := hok.sr (o := 74) (k := 58) (r := 105) (by decide)
  have hk := hk.nw (m := 106) (by decide)
  have hok := hok.nw
  have hk := hk.sr (a := 74) (k := 59) (v := some 106) (by decide)
  have hok := hok.sr (o := 74) (k := 59) (r := 106) (by decide)
  have hk := hk.nw (m := 107) (by decide)
  have hok := hok.nw
  have hk := hk.sr (a := 74) (k := 60) (v := some 107) (by decide)
  have hok := hok.sr (o := 74) (k := 60) (r := 107) (by decide)
  have hk := hk.pm h0 hgh (by decide)
  have hok := hok.pm (π := pmB 74) (πi := piB 74) (fun k hk => pmB_lt hk) (fun r hr => piB_ok (by decide) hr)
  exact hk
set_option maxHeartbeats 4000000 in
set_option maxRecDepth 100000 in
theorem nc_Book_x (l : Launch) {dA : FieldType → ClassId} {D : va_G} {al : Nat → Nat} {sk sv : Nat → Nat} (hi : mv_inj (mq dA D al 75)) (hlt : l.stackTraces = false) (σ : mv_H) (hok : mv_ok σ 75) : mv_CN l y_Book_init (Cond.code y_Book_init b_Book_init 1 (Option.none : Option Jvm.ClassFile.FieldType) :: ma) ({ frames := 6, cells := 33, slots := 505111, locals := 90 }) dA D al 75 108 (mKt sk sv) [.ref (al 74)] σ (fun v9 σ9 => v9 = none ∧ σ9 = sg_Book_x σ) := by
  refine mv_CN.ofV (cc := b_Book_init) (nL := 1) (ret := (Option.none : Option Jvm.ClassFile.FieldType)) (by decide +kernel) rfl hi (Nat.le_of_ble_eq_true rfl) ?_
  intro p e s m args below meth c B hNs hr hnm hno
  have hg : mq_gr al al 75 75 s.heap.size := mq_gr.rf
  have wx_le : ∀ {n : Nat}, n ≤ 108 → n ≤ (wxB 74).length := fun h => by rw [wx_len (by decide)]; exact h
  have e9 : mq dA D al 75 = mpw (wxB 74) dA D al 75 := congrArg (fun t9 : mv_Sh => ((mc_cl, mc_ft, dA, D, al, t9) : mv_G)) (wx_eq (B := 74) (by decide))
  rw [e9] at B hNs ⊢
  clear e9
  refine mv_aload_n (pc := 0) B d_Book_init_0 rfl 0 rfl ?_
  refine mv_obj (pc := 1) B (B.2.2.2.1 _ k_1821) (B.2.2.2.1 _ k_43) (B.2.2.2.1 _ k_44) d_Book_init_1 (Nat.le_of_ble_eq_true rfl) ⟨by decide, by decide⟩ ?_
  refine mv_aload_n (pc := 4) B d_Book_init_4 rfl 0 rfl ?_
  refine mq_wrong (pc := 5) (ik := 7) (ic := 9) (n2 := 76) B rfl (by decide) hlt hNs.2.1 rfl hok (B.2.2.2.1 _ k_1822) (va_Nw.use rfl (hNs.1.1 _ (List.mem_of_getElem? (i := 6) rfl))) d_Book_init_5 d_Book_init_8 d_Book_init_9 (Nat.le_of_ble_eq_true rfl) ⟨by decide, by decide⟩ (Nat.le_of_ble_eq_true rfl) (Nat.le_of_ble_eq_true rfl) (fun al1 g1 B => ?_)
  have hok := hok.nw
  have hNs := mq_K (mKt_ok sk sv) g1 (by decide) (wx_le (by decide)) hNs
  have hg := hg.tr g1 (by decide)
  rw [← g1.1 74 (by decide)]
  refine mv_putRF (pc := 12) (ci := 12) (C := R_Book) (T := F_Book) (N := 65) (o := 74) (r := 75) B 0 rfl rfl (by decide) i_Book t_Book_ok n_Book (B.2.2.2.1 _ k_1843) rfl hnm rfl rfl d_Book_init_12 ?_
  have hok := hok.sr (o := 74) (k := 0) (r := 75) (by decide)
  refine mv_aload_n (pc := 15) B d_Book_init_15 rfl 0 rfl ?_
  refine mv_sipush (pc := 16) (v := 4100) B d_Book_init_16 (by decide) ?_
  refine mq_newa (pc := 19) (ty := .int) (N := 4100) (n2 := 77) B rfl (by decide) rfl hok (B.2.2.2.1 _ k_87) rfl (Or.inl rfl) (by decide) (by decide) (by decide) (Nat.le_of_ble_eq_true rfl) (Nat.le_of_ble_eq_true rfl) d_Book_init_19 (fun al2 g2 B => ?_)
  have hok := hok.nw
  have hNs := mq_K (mKt_ok sk sv) g2 (by decide) (wx_le (by decide)) hNs
  have hg := hg.tr g2 (by decide)
  rw [← g2.1 74 (by decide)]
  refine mv_putRF (pc := 21) (ci := 12) (C := R_Book) (T := F_Book) (N := 65) (o := 74) (r := 76) B 10 rfl rfl (by decide) i_Book t_Book_ok n_Book (B.2.2.2.1 _ k_1853) rfl hnm rfl rfl d_Book_init_21 ?_
  have hok := hok.sr (o := 74) (k := 10) (r := 76) (by decide)
  refine mv_aload_n (pc := 24) B d_Book_init_24 rfl 0 rfl ?_
  refine mv_sipush (pc := 25) (v := 4100) B d_Book_init_25 (by decide) ?_
  refine mq_newa (pc := 28) (ty := .int) (N := 4100) (n2 := 78) B rfl (by decide) rfl hok (B.2.2.2.1 _ k_87) rfl (Or.inl rfl) (by decide) (by decide) (by decide) (Nat.le_of_ble_eq_true rfl) (Nat.le_of_ble_eq_true rfl) d_Book_init_28 (fun al3 g3 B => ?_)
  have hok := hok.nw
  have hNs := mq_K (mKt_ok sk sv) g3 (by decide) (wx_le (by decide)) hNs
  have hg := hg.tr g3 (by decide)
  rw [← g3.1 74 (by decide)]
  refine mv_putRF (pc := 30) (ci := 12) (C := R_Book) (T := F_Book) (N := 65) (o := 74) (r := 77) B 11 rfl rfl (by decide) i_Book t_Book_ok n_Book (B.2.2.2.1 _ k_1854) rfl hnm rfl rfl d_Book_init_30 ?_
  have hok := hok.sr (o := 74) (k := 11) (r := 77) (by decide)
  refine mv_aload_n (pc := 33) B d_Book_init_33 rfl 0 rfl ?_
  refine mv_sipush (pc := 34) (v := 4100) B d_Book_init_34 (by decide) ?_
  refine mq_newa (pc := 37) (ty := .int) (N := 4100) (n2 := 79) B rfl (by decide) rfl hok (B.2.2.2.1 _ k_87) rfl (Or.inl rfl) (by decide) (by decide) (by decide) (Nat.le_of_ble_eq_true rfl) (Nat.le_of_ble_eq_true rfl) d_Book_init_37 (fun al4 g4 B => ?_)
  have hok := hok.nw
  have hNs := mq_K (mKt_ok sk sv) g4 (by decide) (wx_le (by decide)) hNs
  have hg := hg.tr g4 (by decide)
  rw [← g4.1 74 (by decide)]
  refine mv_putRF (pc := 39) (ci := 12) (C := R_Book) (T := F_Book) (N := 65) (o := 74) (r := 78) B 12 rfl rfl (by decide) i_Book t_Book_ok n_Book (B.2.2.2.1 _ k_1855) rfl hnm rfl rfl d_Book_init_39 ?_
  have hok := hok.sr (o := 74) (k := 12) (r := 78) (by decide)
  refine mv_aload_n (pc := 42) B d_Book_init_42 rfl 0 rfl ?_
  refine mv_sipush (pc := 43) (v := 4100) B d_Book_init_43 (by decide) ?_
  refine mq_newa (pc := 46) (ty := .int) (N := 4100) (n2 := 80) B rfl (by decide) rfl hok (B.2.2.2.1 _ k_87) rfl (Or.inl rfl) (by decide) (by decide) (by decide) (Nat.le_of_ble_eq_true rfl) (Nat.le_of_ble_eq_true rfl) d_Book_init_46 (fun al5 g5 B => ?_)
  have hok := hok.nw
  have hNs := mq_K (mKt_ok sk sv) g5 (by decide) (wx_le (by decide)) hNs
  have hg := hg.tr g5 (by decide)
  rw [← g5.1 74 (by decide)]
  refine mv_putRF (pc := 48) (ci := 12) (C := R_Book) (T := F_Book) (N := 65) (o := 74) (r := 79) B 13 rfl rfl (by decide) i_Book t_Book_ok n_Book (B.2.2.2.1 _ k_1856) rfl hnm rfl rfl d_Book_init_48 ?_
  have hok := hok.sr (o := 74) (k := 13) (r := 79) (by decide)
  refine mv_aload_n (pc := 51) B d_Book_init_51 rfl 0 rfl ?_
  refine mv_sipush (pc := 52) (v := 4100) B d_Book_init_52 (by decide) ?_
  refine mq_newa (pc := 55) (ty := .int) (N := 4100) (n2 := 81) B rfl (by decide) rfl hok (B.2.2.2.1 _ k_87) rfl (Or.inl rfl) (by decide) (by decide) (by decide) (Nat.le_of_ble_eq_true rfl) (Nat.le_of_ble_eq_true rfl) d_Book_init_55 (fun al6 g6 B => ?_)
  have hok := hok.nw
  have hNs := mq_K (mKt_ok sk sv) g6 (by decide) (wx_le (by decide)) hNs
  have hg := hg.tr g6 (by decide)
  rw [← g6.1 74 (by decide)]
  refine mv_putRF (pc := 57) (ci := 12) (C := R_Book) (T := F_Book) (N := 65) (o := 74) (r := 80) B 14 rfl rfl (by decide) i_Book t_Book_ok n_Book (B.2.2.2.1 _ k_1857) rfl hnm rfl rfl d_Book_init_57 ?_
  have hok := hok.sr (o := 74) (k := 14) (r := 80) (by decide)
  refine mv_aload_n (pc := 60) B d_Book_init_60 rfl 0 rfl ?_
  refine mv_sipush (pc := 61) (v := 4100) B d_Book_init_61 (by decide) ?_
  refine mq_newa (pc := 64) (ty := .boolean) (N := 4100) (n2 := 82) B rfl (by decide) rfl hok (B.2.2.2.1 _ k_310) rfl (Or.inr (Or.inr (Or.inr rfl))) (by decide) (by decide) (by decide) (Nat.le_of_ble_eq_true rfl) (Nat.le_of_ble_eq_true rfl) d_Book_init_64 (fun al7 g7 B => ?_)
  have hok := hok.nw
  have hNs := mq_K (mKt_ok sk sv) g7 (by decide) (wx_le (by decide)) hNs
  have hg := hg.tr g7 (by decide)
  rw [← g7.1 74 (by decide)]
  refine mv_putRF (pc := 66) (ci := 12) (C := R_Book) (T := F_Book) (N := 65) (o := 74) (r := 81) B 15 rfl rfl (by decide) i_Book t_Book_ok n_Book (B.2.2.2.1 _ k_1858) rfl hnm rfl rfl d_Book_init_66 ?_
  have hok := hok.sr (o := 74) (k := 15) (r := 81) (by decide)
  refine mv_aload_n (pc := 69) B d_Book_init_69 rfl 0 rfl ?_
  refine mv_sipush (pc := 70) (v := 4100) B d_Book_init_70 (by decide) ?_
  refine mq_newa (pc := 73) (ty := .boolean) (N := 4100) (n2 := 83) B rfl (by decide) rfl hok (B.2.2.2.1 _ k_310) rfl (Or.inr (Or.inr (Or.inr rfl))) (by decide) (by decide) (by decide) (Nat.le_of_ble_eq_true rfl) (Nat.le_of_ble_eq_true rfl) d_Book_init_73 (fun al8 g8 B => ?_)
  have hok := hok.nw
  have hNs := mq_K (mKt_ok sk sv) g8 (by decide) (wx_le (by decide)) hNs
  have hg := hg.tr g8 (by decide)
  rw [← g8.1 74 (by decide)]
  refine mv_putRF (pc := 75) (ci := 12) (C := R_Book) (T := F_Book) (N := 65) (o := 74) (r := 82) B 16 rfl rfl (by decide) i_Book t_Book_ok n_Book (B.2.2.2.1 _ k_1859) rfl hnm rfl rfl d_Book_init_75 ?_
  have hok := hok.sr (o := 74) (k := 16) (r := 82) (by decide)
  refine mv_aload_n (pc := 78) B d_Book_init_78 rfl 0 rfl ?_
  refine mv_iconst (pc := 79) (v := -1) B d_Book_init_79 (by decide) ?_
  refine mv_putI (pc := 80) (ci := 12) (C := R_Book) (T := F_Book) (N := 65) (o := 74) B 18 rfl rfl (by decide) i_Book t_Book_ok n_Book (B.2.2.2.1 _ k_1862) rfl rfl rfl rfl d_Book_init_80 ?_
  have hok := mv_ok.r (σ := (mv_sr (mv_nw (mv_sr (mv_nw (mv_sr (mv_nw (mv_sr (mv_nw (mv_sr (mv_nw (mv_sr (mv_nw (mv_sr (mv_nw (mv_sr (mv_nw σ 75) 74 0 (some 75)) 76) 74 10 (some 76)) 77) 74 11 (some 77)) 78) 74 12 (some 78)) 79) 74 13 (some 79)) 80) 74 14 (some 80)) 81) 74 15 (some 81)) 82) 74 16 (some 82))) (τ := (mv_si (mv_sr (mv_nw (mv_sr (mv_nw (mv_sr (mv_nw (mv_sr (mv_nw (mv_sr (mv_nw (mv_sr (mv_nw (mv_sr (mv_nw (mv_sr (mv_nw σ 75) 74 0 (some 75)) 76) 74 10 (some 76)) 77) 74 11 (some 77)) 78) 74 12 (some 78)) 79) 74 13 (some 79)) 80) 74 14 (some 80)) 81) 74 15 (some 81)) 82) 74 16 (some 82)) 74 18 (-1))) hok rfl
  refine mv_aload_n (pc := 83) B d_Book_init_83 rfl 0 rfl ?_
  refine mv_bipush (pc := 84) (v := 8) B d_Book_init_84 (by decide) ?_
  refine mv_putI (pc := 86) (ci := 12) (C := R_Book) (T := F_Book) (N := 65) (o := 74) B 20 rfl rfl (by decide) i_Book t_Book_ok n_Book (B.2.2.2.1 _ k_1865) rfl rfl rfl rfl d_Book_init_86 ?_
  have hok := mv_ok.r (σ := (mv_si (mv_sr (mv_nw (mv_sr (mv_nw (mv_sr (mv_nw (mv_sr (mv_nw (mv_sr (mv_nw (mv_sr (mv_nw (mv_sr (mv_nw (mv_sr (mv_nw σ 75) 74 0 (some 75)) 76) 74 10 (some 76)) 77) 74 11 (some 77)) 78) 74 12 (some 78)) 79) 74 13 (some 79)) 80) 74 14 (some 80)) 81) 74 15 (some 81)) 82) 74 16 (some 82)) 74 18 (-1))) (τ := (mv_si (mv_si (mv_sr (mv_nw (mv_sr (mv_nw (mv_sr (mv_nw (mv_sr (mv_nw (mv_sr (mv_nw (mv_sr (mv_nw (mv_sr (mv_nw (mv_sr (mv_nw σ 75) 74 0 (some 75)) 76) 74 10 (some 76)) 77) 74 11 (some 77)) 78) 74 12 (some 78)) 79) 74 13 (some 79)) 80) 74 14 (some 80)) 81) 74 15 (some 81)) 82) 74 16 (some 82)) 74 18 (-1)) 74 20 (8))) hok rfl
  refine mv_aload_n (pc := 89) B d_Book_init_89 rfl 0 rfl ?_
  refine mv_iconst (pc := 90) (v := -1) B d_Book_init_90 (by decide) ?_
  refine mv_putI (pc := 91) (ci := 12) (C := R_Book) (T := F_Book) (N := 65) (o := 74) B 21 rfl rfl (by decide) i_Book t_Book_ok n_Book (B.2.2.2.1 _ k_1866) rfl rfl rfl rfl d_Book_init_91 ?_
  have hok := mv_ok.r (σ := (mv_si (mv_si (mv_sr (mv_nw (mv_sr (mv_nw (mv_sr (mv_nw (mv_sr (mv_nw (mv_sr (mv_nw (mv_sr (mv_nw (mv_sr (mv_nw (mv_sr (mv_nw σ 75) 74 0 (some 75)) 76) 74 10 (some 76)) 77) 74 11 (some 77)) 78) 74 12 (some 78)) 79) 74 13 (some 79)) 80) 74 14 (some 80)) 81) 74 15 (some 81)) 82) 74 16 (some 82)) 74 18 (-1)) 74 20 (8))) (τ := (mv_si (mv_si (mv_si (mv_sr (mv_nw (mv_sr (mv_nw (mv_sr (mv_nw (mv_sr (mv_nw (mv_sr (mv_nw (mv_sr (mv_nw (mv_sr (mv_nw (mv_sr (mv_nw σ 75) 74 0 (some 75)) 76) 74 10 (some 76)) 77) 74 11 (some 77)) 78) 74 12 (some 78)) 79) 74 13 (some 79)) 80) 74 14 (some 80)) 81) 74 15 (some 81)) 82) 74 16 (some 82)) 74 18 (-1)) 74 20 (8)) 74 21 (-1))) hok rfl
  refine mv_aload_n (pc := 94) B d_Book_init_94 rfl 0 rfl ?_
  refine mv_sipush (pc := 95) (v := 4100) B d_Book_init_95 (by decide) ?_
  refine mq_newa (pc := 98) (ty := .int) (N := 4100) (n2 := 84) B rfl (by decide) rfl hok (B.2.2.2.1 _ k_87) rfl (Or.inl rfl) (by decide) (by decide) (by decide) (Nat.le_of_ble_eq_true rfl) (Nat.le_of_ble_eq_true rfl) d_Book_init_98 (fun al9 g9 B => ?_)
  have hok := hok.nw
  have hNs := mq_K (mKt_ok sk sv) g9 (by decide) (wx_le (by decide)) hNs
  have hg := hg.tr g9 (by decide)
  rw [← g9.1 74 (by decide)]
  refine mv_putRF (pc := 100) (ci := 12) (C := R_Book) (T := F_Book) (N := 65) (o := 74) (r := 83) B 23 rfl rfl (by decide) i_Book t_Book_ok n_Book (B.2.2.2.1 _ k_1868) rfl hnm rfl rfl d_Book_init_100 ?_
  have hok := hok.sr (o := 74) (k := 23) (r := 83) (by decide)
  refine mv_aload_n (pc := 103) B d_Book_init_103 rfl 0 rfl ?_
  refine mv_sipush (pc := 104) (v := 4100) B d_Book_init_104 (by decide) ?_
  refine mq_newa (pc := 107) (ty := .int) (N := 4100) (n2 := 85) B rfl (by decide) rfl hok (B.2.2.2.1 _ k_87) rfl (Or.inl rfl) (by decide) (by decide) (by decide) (Nat.le_of_ble_eq_true rfl) (Nat.le_of_ble_eq_true rfl) d_Book_init_107 (fun al10 g10 B => ?_)
  have hok := hok.nw
  have hNs := mq_K (mKt_ok sk sv) g10 (by decide) (wx_le (by decide)) hNs
  have hg := hg.tr g10 (by decide)
  rw [← g10.1 74 (by decide)]
  refine mv_putRF (pc := 109) (ci := 12) (C := R_Book) (T := F_Book) (N := 65) (o := 74) (r := 84) B 24 rfl rfl (by decide) i_Book t_Book_ok n_Book (B.2.2.2.1 _ k_1869) rfl hnm rfl rfl d_Book_init_109 ?_
  have hok := hok.sr (o := 74) (k := 24) (r := 84) (by decide)
  refine mv_aload_n (pc := 112) B d_Book_init_112 rfl 0 rfl ?_
  refine mv_sipush (pc := 113) (v := 4100) B d_Book_init_113 (by decide) ?_
  refine mq_newa (pc := 116) (ty := .int) (N := 4100) (n2 := 86) B rfl (by decide) rfl hok (B.2.2.2.1 _ k_87) rfl (Or.inl rfl) (by decide) (by decide) (by decide) (Nat.le_of_ble_eq_true rfl) (Nat.le_of_ble_eq_true rfl) d_Book_init_116 (fun al11 g11 B => ?_)
  have hok := hok.nw
  have hNs := mq_K (mKt_ok sk sv) g11 (by decide) (wx_le (by decide)) hNs
  have hg := hg.tr g11 (by decide)
  rw [← g11.1 74 (by decide)]
  refine mv_putRF (pc := 118) (ci := 12) (C := R_Book) (T := F_Book) (N := 65) (o := 74) (r := 85) B 25 rfl rfl (by decide) i_Book t_Book_ok n_Book (B.2.2.2.1 _ k_1870) rfl hnm rfl rfl d_Book_init_118 ?_
  have hok := hok.sr (o := 74) (k := 25) (r := 85) (by decide)
  refine mv_aload_n (pc := 121) B d_Book_init_121 rfl 0 rfl ?_
  refine mv_sipush (pc := 122) (v := 4100) B d_Book_init_122 (by decide) ?_
  refine mq_newa (pc := 125) (ty := .int) (N := 4100) (n2 := 87) B rfl (by decide) rfl hok (B.2.2.2.1 _ k_87) rfl (Or.inl rfl) (by decide) (by decide) (by decide) (Nat.le_of_ble_eq_true rfl) (Nat.le_of_ble_eq_true rfl) d_Book_init_125 (fun al12 g12 B => ?_)
  have hok := hok.nw
  have hNs := mq_K (mKt_ok sk sv) g12 (by decide) (wx_le (by decide)) hNs
  have hg := hg.tr g12 (by decide)
  rw [← g12.1 74 (by decide)]
  refine mv_putRF (pc := 127) (ci := 12) (C := R_Book) (T := F_Book) (N := 65) (o := 74) (r := 86) B 26 rfl rfl (by decide) i_Book t_Book_ok n_Book (B.2.2.2.1 _ k_1871) rfl hnm rfl rfl d_Book_init_127 ?_
  have hok := hok.sr (o := 74) (k := 26) (r := 86) (by decide)
  refine mv_aload_n (pc := 130) B d_Book_init_130 rfl 0 rfl ?_
  refine mv_sipush (pc := 131) (v := 4100) B d_Book_init_131 (by decide) ?_
  refine mq_newa (pc := 134) (ty := .int) (N := 4100) (n2 := 88) B rfl (by decide) rfl hok (B.2.2.2.1 _ k_87) rfl (Or.inl rfl) (by decide) (by decide) (by decide) (Nat.le_of_ble_eq_true rfl) (Nat.le_of_ble_eq_true rfl) d_Book_init_134 (fun al13 g13 B => ?_)
  have hok := hok.nw
  have hNs := mq_K (mKt_ok sk sv) g13 (by decide) (wx_le (by decide)) hNs
  have hg := hg.tr g13 (by decide)
  rw [← g13.1 74 (by decide)]
  refine mv_putRF (pc := 136) (ci := 12) (C := R_Book) (T := F_Book) (N := 65) (o := 74) (r := 87) B 27 rfl rfl (by decide) i_Book t_Book_ok n_Book (B.2.2.2.1 _ k_1872) rfl hnm rfl rfl d_Book_init_136 ?_
  have hok := hok.sr (o := 74) (k := 27) (r := 87) (by decide)
  refine mv_aload_n (pc := 139) B d_Book_init_139 rfl 0 rfl ?_
  refine mv_ldc (pc := 140) (v := 32768) B (B.2.2.2.1 _ k_1840) d_Book_init_140 ?_
  refine mq_newa (pc := 142) (ty := .byte) (N := 32768) (n2 := 89) B rfl (by decide) rfl hok (B.2.2.2.1 _ k_86) rfl (Or.inr (Or.inr (Or.inl rfl))) (by decide) (by decide) (by decide) (Nat.le_of_ble_eq_true rfl) (Nat.le_of_ble_eq_true rfl) d_Book_init_142 (fun al14 g14 B => ?_)
  have hok := hok.nw
  have hNs := mq_K (mKt_ok sk sv) g14 (by decide) (wx_le (by decide)) hNs
  have hg := hg.tr g14 (by decide)
  rw [← g14.1 74 (by decide)]
  refine mv_putRF (pc := 144) (ci := 12) (C := R_Book) (T := F_Book) (N := 65) (o := 74) (r := 88) B 28 rfl rfl (by decide) i_Book t_Book_ok n_Book (B.2.2.2.1 _ k_1873) rfl hnm rfl rfl d_Book_init_144 ?_
  have hok := hok.sr (o := 74) (k := 28) (r := 88) (by decide)
  refine mv_aload_n (pc := 147) B d_Book_init_147 rfl 0 rfl ?_
  refine mv_sipush (pc := 148) (v := 4100) B d_Book_init_148 (by decide) ?_
  refine mq_newa (pc := 151) (ty := .int) (N := 4100) (n2 := 90) B rfl (by decide) rfl hok (B.2.2.2.1 _ k_87) rfl (Or.inl rfl) (by decide) (by decide) (by decide) (Nat.le_of_ble_eq_true rfl) (Nat.le_of_ble_eq_true rfl) d_Book_init_151 (fun al15 g15 B => ?_)
  have hok := hok.nw
  have hNs := mq_K (mKt_ok sk sv) g15 (by decide) (wx_le (by decide)) hNs
  have hg := hg.tr g15 (by decide)
  rw [← g15.1 74 (by decide)]
  refine mv_putRF (pc := 153) (ci := 12) (C := R_Book) (T := F_Book) (N := 65) (o := 74) (r := 89) B 31 rfl rfl (by decide) i_Book t_Book_ok n_Book (B.2.2.2.1 _ k_1877) rfl hnm rfl rfl d_Book_init_153 ?_
  have hok := hok.sr (o := 74) (k := 31) (r := 89) (by decide)
  refine mv_aload_n (pc := 156) B d_Book_init_156 rfl 0 rfl ?_
  refine mv_sipush (pc := 157) (v := 4100) B d_Book_init_157 (by decide) ?_
  refine mq_newa (pc := 160) (ty := .int) (N := 4100) (n2 := 91) B rfl (by decide) rfl hok (B.2.2.2.1 _ k_87) rfl (Or.inl rfl) (by decide) (by decide) (by decide) (Nat.le_of_ble_eq_true rfl) (Nat.le_of_ble_eq_true rfl) d_Book_init_160 (fun al16 g16 B => ?_)
  have hok := hok.nw
  have hNs := mq_K (mKt_ok sk sv) g16 (by decide) (wx_le (by decide)) hNs
  have hg := hg.tr g16 (by decide)
  rw [← g16.1 74 (by decide)]
  refine mv_putRF (pc := 162) (ci := 12) (C := R_Book) (T := F_Book) (N := 65) (o := 74) (r := 90) B 32 rfl rfl (by decide) i_Book t_Book_ok n_Book (B.2.2.2.1 _ k_1878) rfl hnm rfl rfl d_Book_init_162 ?_
  have hok := hok.sr (o := 74) (k := 32) (r := 90) (by decide)
  refine mv_aload_n (pc := 165) B d_Book_init_165 rfl 0 rfl ?_
  refine mv_sipush (pc := 166) (v := 4100) B d_Book_init_166 (by decide) ?_
  refine mq_newa (pc := 169) (ty := .int) (N := 4100) (n2 := 92) B rfl (by decide) rfl hok (B.2.2.2.1 _ k_87) rfl (Or.inl rfl) (by decide) (by decide) (by decide) (Nat.le_of_ble_eq_true rfl) (Nat.le_of_ble_eq_true rfl) d_Book_init_169 (fun al17 g17 B => ?_)
  have hok := hok.nw
  have hNs := mq_K (mKt_ok sk sv) g17 (by decide) (wx_le (by decide)) hNs
  have hg := hg.tr g17 (by decide)
  rw [← g17.1 74 (by decide)]
  refine mv_putRF (pc := 171) (ci := 12) (C := R_Book) (T := F_Book) (N := 65) (o := 74) (r := 91) B 33 rfl rfl (by decide) i_Book t_Book_ok n_Book (B.2.2.2.1 _ k_1879) rfl hnm rfl rfl d_Book_init_171 ?_
  have hok := hok.sr (o := 74) (k := 33) (r := 91) (by decide)
  refine mv_aload_n (pc := 174) B d_Book_init_174 rfl 0 rfl ?_
  refine mv_sipush (pc := 175) (v := 4100) B d_Book_init_175 (by decide) ?_
  refine mq_newa (pc := 178) (ty := .int) (N := 4100) (n2 := 93) B rfl (by decide) rfl hok (B.2.2.2.1 _ k_87) rfl (Or.inl rfl) (by decide) (by decide) (by decide) (Nat.le_of_ble_eq_true rfl) (Nat.le_of_ble_eq_true rfl) d_Book_init_178 (fun al18 g18 B => ?_)
  have hok := hok.nw
  have hNs := mq_K (mKt_ok sk sv) g18 (by decide) (wx_le (by decide)) hNs
  have hg := hg.tr g18 (by decide)
  rw [← g18.1 74 (by decide)]
  refine mv_putRF (pc := 180) (ci := 12) (C := R_Book) (T := F_Book) (N := 65) (o := 74) (r := 92) B 34 rfl rfl (by decide) i_Book t_Book_ok n_Book (B.2.2.2.1 _ k_1880) rfl hnm rfl rfl d_Book_init_180 ?_
  have hok := hok.sr (o := 74) (k := 34) (r := 92) (by decide)
  refine mv_aload_n (pc := 183) B d_Book_init_183 rfl 0 rfl ?_
  refine mv_ldc (pc := 184) (v := 33000) B (B.2.2.2.1 _ k_1841) d_Book_init_184 ?_
  refine mq_newa (pc := 186) (ty := .int) (N := 33000) (n2 := 94) B rfl (by decide) rfl hok (B.2.2.2.1 _ k_87) rfl (Or.inl rfl) (by decide) (by decide) (by decide) (Nat.le_of_ble_eq_true rfl) (Nat.le_of_ble_eq_true rfl) d_Book_init_186 (fun al19 g19 B => ?_)
  have hok := hok.nw
  have hNs := mq_K (mKt_ok sk sv) g19 (by decide) (wx_le (by decide)) hNs
  have hg := hg.tr g19 (by decide)
  rw [← g19.1 74 (by decide)]
  refine mv_putRF (pc := 188) (ci := 12) (C := R_Book) (T := F_Book) (N := 65) (o := 74) (r := 93) B 40 rfl rfl (by decide) i_Book t_Book_ok n_Book (B.2.2.2.1 _ k_1889) rfl hnm rfl rfl d_Book_init_188 ?_
  have hok := hok.sr (o := 74) (k := 40) (r := 93) (by decide)
  refine mv_aload_n (pc := 191) B d_Book_init_191 rfl 0 rfl ?_
  refine mv_ldc (pc := 192) (v := 33000) B (B.2.2.2.1 _ k_1841) d_Book_init_192 ?_
  refine mq_newa (pc := 194) (ty := .int) (N := 33000) (n2 := 95) B rfl (by decide) rfl hok (B.2.2.2.1 _ k_87) rfl (Or.inl rfl) (by decide) (by decide) (by decide) (Nat.le_of_ble_eq_true rfl) (Nat.le_of_ble_eq_true rfl) d_Book_init_194 (fun al20 g20 B => ?_)
  have hok := hok.nw
  have hNs := mq_K (mKt_ok sk sv) g20 (by decide) (wx_le (by decide)) hNs
  have hg := hg.tr g20 (by decide)
  rw [← g20.1 74 (by decide)]
  refine mv_putRF (pc := 196) (ci := 12) (C := R_Book) (T := F_Book) (N := 65) (o := 74) (r := 94) B 41 rfl rfl (by decide) i_Book t_Book_ok n_Book (B.2.2.2.1 _ k_1890) rfl hnm rfl rfl d_Book_init_196 ?_
  have hok := hok.sr (o := 74) (k := 41) (r := 94) (by decide)
  refine mv_aload_n (pc := 199) B d_Book_init_199 rfl 0 rfl ?_
  refine mv_ldc (pc := 200) (v := 33000) B (B.2.2.2.1 _ k_1841) d_Book_init_200 ?_
  refine mq_newa (pc := 202) (ty := .int) (N := 33000) (n2 := 96) B rfl (by decide) rfl hok (B.2.2.2.1 _ k_87) rfl (Or.inl rfl) (by decide) (by decide) (by decide) (Nat.le_of_ble_eq_true rfl) (Nat.le_of_ble_eq_true rfl) d_Book_init_202 (fun al21 g21 B => ?_)
  have hok := hok.nw
  have hNs := mq_K (mKt_ok sk sv) g21 (by decide) (wx_le (by decide)) hNs
  have hg := hg.tr g21 (by decide)
  rw [← g21.1 74 (by decide)]
  refine mv_putRF (pc := 204) (ci := 12) (C := R_Book) (T := F_Book) (N := 65) (o := 74) (r := 95) B 42 rfl rfl (by decide) i_Book t_Book_ok n_Book (B.2.2.2.1 _ k_1891) rfl hnm rfl rfl d_Book_init_204 ?_
  have hok := hok.sr (o := 74) (k := 42) (r := 95) (by decide)
  refine mv_aload_n (pc := 207) B d_Book_init_207 rfl 0 rfl ?_
  refine mv_ldc (pc := 208) (v := 33000) B (B.2.2.2.1 _ k_1841) d_Book_init_208 ?_
  refine mq_newa (pc := 210) (ty := .int) (N := 33000) (n2 := 97) B rfl (by decide) rfl hok (B.2.2.2.1 _ k_87) rfl (Or.inl rfl) (by decide) (by decide) (by decide) (Nat.le_of_ble_eq_true rfl) (Nat.le_of_ble_eq_true rfl) d_Book_init_210 (fun al22 g22 B => ?_)
  have hok := hok.nw
  have hNs := mq_K (mKt_ok sk sv) g22 (by decide) (wx_le (by decide)) hNs
  have hg := hg.tr g22 (by decide)
  rw [← g22.1 74 (by decide)]
  refine mv_putRF (pc := 212) (ci := 12) (C := R_Book) (T := F_Book) (N := 65) (o := 74) (r := 96) B 43 rfl rfl (by decide) i_Book t_Book_ok n_Book (B.2.2.2.1 _ k_1892) rfl hnm rfl rfl d_Book_init_212 ?_
  have hok := hok.sr (o := 74) (k := 43) (r := 96) (by decide)
  refine mv_aload_n (pc := 215) B d_Book_init_215 rfl 0 rfl ?_
  refine mv_ldc (pc := 216) (v := 33000) B (B.2.2.2.1 _ k_1841) d_Book_init_216 ?_
  refine mq_newa (pc := 218) (ty := .int) (N := 33000) (n2 := 98) B rfl (by decide) rfl hok (B.2.2.2.1 _ k_87) rfl (Or.inl rfl) (by decide) (by decide) (by decide) (Nat.le_of_ble_eq_true rfl) (Nat.le_of_ble_eq_true rfl) d_Book_init_218 (fun al23 g23 B => ?_)
  have hok := hok.nw
  have hNs := mq_K (mKt_ok sk sv) g23 (by decide) (wx_le (by decide)) hNs
  have hg := hg.tr g23 (by decide)
  rw [← g23.1 74 (by decide)]
  refine mv_putRF (pc := 220) (ci := 12) (C := R_Book) (T := F_Book) (N := 65) (o := 74) (r := 97) B 44 rfl rfl (by decide) i_Book t_Book_ok n_Book (B.2.2.2.1 _ k_1893) rfl hnm rfl rfl d_Book_init_220 ?_
  have hok := hok.sr (o := 74) (k := 44) (r := 97) (by decide)
  refine mv_aload_n (pc := 223) B d_Book_init_223 rfl 0 rfl ?_
  refine mv_ldc (pc := 224) (v := 33000) B (B.2.2.2.1 _ k_1841) d_Book_init_224 ?_
  refine mq_newa (pc := 226) (ty := .int) (N := 33000) (n2 := 99) B rfl (by decide) rfl hok (B.2.2.2.1 _ k_87) rfl (Or.inl rfl) (by decide) (by decide) (by decide) (Nat.le_of_ble_eq_true rfl) (Nat.le_of_ble_eq_true rfl) d_Book_init_226 (fun al24 g24 B => ?_)
  have hok := hok.nw
  have hNs := mq_K (mKt_ok sk sv) g24 (by decide) (wx_le (by decide)) hNs
  have hg := hg.tr g24 (by decide)
  rw [← g24.1 74 (by decide)]
  refine mv_putRF (pc := 228) (ci := 12) (C := R_Book) (T := F_Book) (N := 65) (o := 74) (r := 98) B 45 rfl rfl (by decide) i_Book t_Book_ok n_Book (B.2.2.2.1 _ k_1894) rfl hnm rfl rfl d_Book_init_228 ?_
  have hok := hok.sr (o := 74) (k := 45) (r := 98) (by decide)
  refine mv_aload_n (pc := 231) B d_Book_init_231 rfl 0 rfl ?_
  refine mv_ldc (pc := 232) (v := 33000) B (B.2.2.2.1 _ k_1841) d_Book_init_232 ?_
  refine mq_newa (pc := 234) (ty := .long) (N := 33000) (n2 := 100) B rfl (by decide) rfl hok (B.2.2.2.1 _ k_88) rfl (Or.inr (Or.inl rfl)) (by decide) (by decide) (by decide) (Nat.le_of_ble_eq_true rfl) (Nat.le_of_ble_eq_true rfl) d_Book_init_234 (fun al25 g25 B => ?_)
  have hok := hok.nw
  have hNs := mq_K (mKt_ok sk sv) g25 (by decide) (wx_le (by decide)) hNs
  have hg := hg.tr g25 (by decide)
  rw [← g25.1 74 (by decide)]
  refine mv_putRF (pc := 236) (ci := 12) (C := R_Book) (T := F_Book) (N := 65) (o := 74) (r := 99) B 46 rfl rfl (by decide) i_Book t_Book_ok n_Book (B.2.2.2.1 _ k_1895) rfl hnm rfl rfl d_Book_init_236 ?_
  have hok := hok.sr (o := 74) (k := 46) (r := 99) (by decide)
  refine mv_aload_n (pc := 239) B d_Book_init_239 rfl 0 rfl ?_
  refine mv_ldc (pc := 240) (v := 33000) B (B.2.2.2.1 _ k_1841) d_Book_init_240 ?_
  refine mq_newa (pc := 242) (ty := .boolean) (N := 33000) (n2 := 101) B rfl (by decide) rfl hok (B.2.2.2.1 _ k_310) rfl (Or.inr (Or.inr (Or.inr rfl))) (by decide) (by decide) (by decide) (Nat.le_of_ble_eq_true rfl) (Nat.le_of_ble_eq_true rfl) d_Book_init_242 (fun al26 g26 B => ?_)
  have hok := hok.nw
  have hNs := mq_K (mKt_ok sk sv) g26 (by decide) (wx_le (by decide)) hNs
  have hg := hg.tr g26 (by decide)
  rw [← g26.1 74 (by decide)]
  refine mv_putRF (pc := 244) (ci := 12) (C := R_Book) (T := F_Book) (N := 65) (o := 74) (r := 100) B 47 rfl rfl (by decide) i_Book t_Book_ok n_Book (B.2.2.2.1 _ k_1896) rfl hnm rfl rfl d_Book_init_244 ?_
  have hok := hok.sr (o := 74) (k := 47) (r := 100) (by decide)
  refine mv_aload_n (pc := 247) B d_Book_init_247 rfl 0 rfl ?_
  refine mv_sipush (pc := 248) (v := 4100) B d_Book_init_248 (by decide) ?_
  refine mq_newa (pc := 251) (ty := .long) (N := 4100) (n2 := 102) B rfl (by decide) rfl hok (B.2.2.2.1 _ k_88) rfl (Or.inr (Or.inl rfl)) (by decide) (by decide) (by decide) (Nat.le_of_ble_eq_true rfl) (Nat.le_of_ble_eq_true rfl) d_Book_init_251 (fun al27 g27 B => ?_)
  have hok := hok.nw
  have hNs := mq_K (mKt_ok sk sv) g27 (by decide) (wx_le (by decide)) hNs
  have hg := hg.tr g27 (by decide)
  rw [← g27.1 74 (by decide)]
  refine mv_putRF (pc := 253) (ci := 12) (C := R_Book) (T := F_Book) (N := 65) (o := 74) (r := 101) B 54 rfl rfl (by decide) i_Book t_Book_ok n_Book (B.2.2.2.1 _ k_1903) rfl hnm rfl rfl d_Book_init_253 ?_
  have hok := hok.sr (o := 74) (k := 54) (r := 101) (by decide)
  refine mv_aload_n (pc := 256) B d_Book_init_256 rfl 0 rfl ?_
  refine mv_sipush (pc := 257) (v := 4100) B d_Book_init_257 (by decide) ?_
  refine mq_newa (pc := 260) (ty := .long) (N := 4100) (n2 := 103) B rfl (by decide) rfl hok (B.2.2.2.1 _ k_88) rfl (Or.inr (Or.inl rfl)) (by decide) (by decide) (by decide) (Nat.le_of_ble_eq_true rfl) (Nat.le_of_ble_eq_true rfl) d_Book_init_260 (fun al28 g28 B => ?_)
  have hok := hok.nw
  have hNs := mq_K (mKt_ok sk sv) g28 (by decide) (wx_le (by decide)) hNs
  have hg := hg.tr g28 (by decide)
  rw [← g28.1 74 (by decide)]
  refine mv_putRF (pc := 262) (ci := 12) (C := R_Book) (T := F_Book) (N := 65) (o := 74) (r := 102) B 55 rfl rfl (by decide) i_Book t_Book_ok n_Book (B.2.2.2.1 _ k_1904) rfl hnm rfl rfl d_Book_init_262 ?_
  have hok := hok.sr (o := 74) (k := 55) (r := 102) (by decide)
  refine mv_aload_n (pc := 265) B d_Book_init_265 rfl 0 rfl ?_
  refine mv_ldc (pc := 266) (v := 65536) B (B.2.2.2.1 _ k_1842) d_Book_init_266 ?_
  refine mq_newa (pc := 268) (ty := .long) (N := 65536) (n2 := 104) B rfl (by decide) rfl hok (B.2.2.2.1 _ k_88) rfl (Or.inr (Or.inl rfl)) (by decide) (by decide) (by decide) (Nat.le_of_ble_eq_true rfl) (Nat.le_of_ble_eq_true rfl) d_Book_init_268 (fun al29 g29 B => ?_)
  have hok := hok.nw
  have hNs := mq_K (mKt_ok sk sv) g29 (by decide) (wx_le (by decide)) hNs
  have hg := hg.tr g29 (by decide)
  rw [← g29.1 74 (by decide)]
  refine mv_putRF (pc := 270) (ci := 12) (C := R_Book) (T := F_Book) (N := 65) (o := 74) (r := 103) B 56 rfl rfl (by decide) i_Book t_Book_ok n_Book (B.2.2.2.1 _ k_1905) rfl hnm rfl rfl d_Book_init_270 ?_
  have hok := hok.sr (o := 74) (k := 56) (r := 103) (by decide)
  refine mv_aload_n (pc := 273) B d_Book_init_273 rfl 0 rfl ?_
  refine mv_sipush (pc := 274) (v := 12000) B d_Book_init_274 (by decide) ?_
  refine mq_newa (pc := 277) (ty := .int) (N := 12000) (n2 := 105) B rfl (by decide) rfl hok (B.2.2.2.1 _ k_87) rfl (Or.inl rfl) (by decide) (by decide) (by decide) (Nat.le_of_ble_eq_true rfl) (Nat.le_of_ble_eq_true rfl) d_Book_init_277 (fun al30 g30 B => ?_)
  have hok := hok.nw
  have hNs := mq_K (mKt_ok sk sv) g30 (by decide) (wx_le (by decide)) hNs
  have hg := hg.tr g30 (by decide)
  rw [← g30.1 74 (by decide)]
  refine mv_putRF (pc := 279) (ci := 12) (C := R_Book) (T := F_Book) (N := 65) (o := 74) (r := 104) B 57 rfl rfl (by decide) i_Book t_Book_ok n_Book (B.2.2.2.1 _ k_1906) rfl hnm rfl rfl d_Book_init_279 ?_
  have hok := hok.sr (o := 74) (k := 57) (r := 104) (by decide)
  refine mv_aload_n (pc := 282) B d_Book_init_282 rfl 0 rfl ?_
  refine mv_sipush (pc := 283) (v := 12000) B d_Book_init_283 (by decide) ?_
  refine mq_newa (pc := 286) (ty := .int) (N := 12000) (n2 := 106) B rfl (by decide) rfl hok (B.2.2.2.1 _ k_87) rfl (Or.inl rfl) (by decide) (by decide) (by decide) (Nat.le_of_ble_eq_true rfl) (Nat.le_of_ble_eq_true rfl) d_Book_init_286 (fun al31 g31 B => ?_)
  have hok := hok.nw
  have hNs := mq_K (mKt_ok sk sv) g31 (by decide) (wx_le (by decide)) hNs
  have hg := hg.tr g31 (by decide)
  rw [← g31.1 74 (by decide)]
  refine mv_putRF (pc := 288) (ci := 12) (C := R_Book) (T := F_Book) (N := 65) (o := 74) (r := 105) B 58 rfl rfl (by decide) i_Book t_Book_ok n_Book (B.2.2.2.1 _ k_1907) rfl hnm rfl rfl d_Book_init_288 ?_
  have hok := hok.sr (o := 74) (k := 58) (r := 105) (by decide)
  refine mv_aload_n (pc := 291) B d_Book_init_291 rfl 0 rfl ?_
  refine mv_ldc (pc := 292) (v := 33000) B (B.2.2.2.1 _ k_1841) d_Book_init_292 ?_
  refine mq_newa (pc := 294) (ty := .int) (N := 33000) (n2 := 107) B rfl (by decide) rfl hok (B.2.2.2.1 _ k_87) rfl (Or.inl rfl) (by decide) (by decide) (by decide) (Nat.le_of_ble_eq_true rfl) (Nat.le_of_ble_eq_true rfl) d_Book_init_294 (fun al32 g32 B => ?_)
  have hok := hok.nw
  have hNs := mq_K (mKt_ok sk sv) g32 (by decide) (wx_le (by decide)) hNs
  have hg := hg.tr g32 (by decide)
  rw [← g32.1 74 (by decide)]
  refine mv_putRF (pc := 296) (ci := 12) (C := R_Book) (T := F_Book) (N := 65) (o := 74) (r := 106) B 59 rfl rfl (by decide) i_Book t_Book_ok n_Book (B.2.2.2.1 _ k_1908) rfl hnm rfl rfl d_Book_init_296 ?_
  have hok := hok.sr (o := 74) (k := 59) (r := 106) (by decide)
  refine mv_aload_n (pc := 299) B d_Book_init_299 rfl 0 rfl ?_
  refine mv_sipush (pc := 300) (v := 12000) B d_Book_init_300 (by decide) ?_
  refine mq_newa (pc := 303) (ty := .long) (N := 12000) (n2 := 108) B rfl (by decide) rfl hok (B.2.2.2.1 _ k_88) rfl (Or.inr (Or.inl rfl)) (by decide) (by decide) (by decide) (Nat.le_of_ble_eq_true rfl) (Nat.le_of_ble_eq_true rfl) d_Book_init_303 (fun al33 g33 B => ?_)
  have hok := hok.nw
  have hNs := mq_K (mKt_ok sk sv) g33 (by decide) (wx_le (by decide)) hNs
  have hg := hg.tr g33 (by decide)
  rw [← g33.1 74 (by decide)]
  refine mv_putRF (pc := 305) (ci := 12) (C := R_Book) (T := F_Book) (N := 65) (o := 74) (r := 107) B 60 rfl rfl (by decide) i_Book t_Book_ok n_Book (B.2.2.2.1 _ k_1909) rfl hnm rfl rfl d_Book_init_305 ?_
  have hok := hok.sr (o := 74) (k := 60) (r := 107) (by decide)
  refine mq_perm (w8 := mw) (π := pmB 74) (πi := piB 74) B (mv_pm (pmB 74) (piB 74) _) (mw_le (by decide)) (wx_le (by decide)) (wx_at (B := 74) (by decide) rfl) (fun k hk => pmB_lt hk) (fun k hk => piB_lt hk) (pmB_pi 74) (fun r _ => piB_pm 74 r) (fun o _ => mv_pm_at _ _ _ o) (fun B => ?_)
  exact mq_vret (pc := 308) B hr d_Book_init_308 (Nat.le_of_ble_eq_true rfl) (Nat.le_of_ble_eq_true rfl) (mq_pgr hg (fun k hk => pmB_fix hk) (fun k hk => pmB_lt hk) (piB_pm 74)) ⟨rfl, rfl⟩
def sg_Book_y (σ : mv_H) : mv_H := mv_pm (pmB 108) (piB 108) (mv_sr (mv_nw (mv_sr (mv_nw (mv_sr (mv_nw (mv_sr (mv_nw (mv_sr (mv_nw (mv_sr (mv_nw (mv_sr (mv_nw (mv_sr (mv_nw (mv_sr (mv_nw (mv_sr (mv_nw (mv_sr (mv_nw (mv_sr (mv_nw (mv_sr (mv_nw (mv_sr (mv_nw (mv_sr (mv_nw (mv_sr (mv_nw (mv_sr (mv_nw (mv_sr (mv_nw (mv_sr (mv_nw (mv_sr (mv_nw (mv_sr (mv_nw (mv_sr (mv_nw (mv_sr (mv_nw (mv_sr (mv_nw (mv_sr (mv_nw (mv_si (mv_si (mv_si (mv_sr (mv_nw (mv_sr (mv_nw (mv_sr (mv_nw (mv_sr (mv_nw (mv_sr (mv_nw (mv_sr (mv_nw (mv_sr (mv_nw (mv_sr (mv_nw σ 109) 108 0 (some 109)) 110) 108 10 (some 110)) 111) 108 11 (some 111)) 112) 108 12 (some 112)) 113) 108 13 (some 113)) 114) 108 14 (some 114)) 115) 108 15 (some 115)) 116) 108 16 (some 116)) 108 18 (-1)) 108 20 (8)) 108 21 (-1)) 117) 108 23 (some 117)) 118) 108 24 (some 118)) 119) 108 25 (some 119)) 120) 108 26 (some 120)) 121) 108 27 (some 121)) 122) 108 28 (some 122)) 123) 108 31 (some 123)) 124) 108 32 (some 124)) 125) 108 33 (some 125)) 126) 108 34 (some 126)) 127) 108 40 (some 127)) 128) 108 41 (some 128)) 129) 108 42 (some 129)) 130) 108 43 (some 130)) 131) 108 44 (some 131)) 132) 108 45 (some 132)) 133) 108 46 (some 133)) 134) 108 47 (some 134)) 135) 108 54 (some 135)) 136) 108 55 (some 136)) 137) 108 56 (some 137)) 138) 108 57 (some 138)) 139) 108 58 (some 139)) 140) 108 59 (some 140)) 141) 108 60 (some 141))
theorem ok_Book_y {σ : mv_H} (hok : mv_ok σ 109) : mv_ok (sg_Book_y σ) 142 := by
  have hok := hok.nw
  have hok := hok.sr (o := 108) (k := 0) (r := 109) (by decide)
  have hok := hok.nw
  have hok := hok.sr (o := 108) (k := 10) (r := 110) (by decide)
  have hok := hok.nw
  have hok := hok.sr (o := 108) (k := 11) (r := 111) (by decide)
  have hok := hok.nw
  have hok := hok.sr (o := 108) (k := 12) (r := 112) (by decide)
  have hok := hok.nw
  have hok := hok.sr (o := 108) (k := 13) (r := 113) (by decide)
  have hok := hok.nw
  have hok := hok.sr (o := 108) (k := 14) (r := 114) (by decide)
  have hok := hok.nw
  have hok := hok.sr (o := 108) (k := 15) (r := 115) (by decide)
  have hok := hok.nw
  have hok := hok.sr (o := 108) (k := 16) (r := 116) (by decide)
  have hok := mv_ok.r (σ := (mv_sr (mv_nw (mv_sr (mv_nw (mv_sr (mv_nw (mv_sr (mv_nw (mv_sr (mv_nw (mv_sr (mv_nw (mv_sr (mv_nw (mv_sr (mv_nw σ 109) 108 0 (some 109)) 110) 108 10 (some 110)) 111) 108 11 (some 111)) 112) 108 12 (some 112)) 113) 108 13 (some 113)) 114) 108 14 (some 114)) 115) 108 15 (some 115)) 116) 108 16 (some 116))) (τ := (mv_si (mv_sr (mv_nw (mv_sr (mv_nw (mv_sr (mv_nw (mv_sr (mv_nw (mv_sr (mv_nw (mv_sr (mv_nw (mv_sr (mv_nw (mv_sr (mv_nw σ 109) 108 0 (some 109)) 110) 108 10 (some 110)) 111) 108 11 (some 111)) 112) 108 12 (some 112)) 113) 108 13 (some 113)) 114) 108 14 (some 114)) 115) 108 15 (some 115)) 116) 108 16 (some 116)) 108 18 (-1))) hok rfl
  have hok := mv_ok.r (σ := (mv_si (mv_sr (mv_nw (mv_sr (mv_nw (mv_sr (mv_nw (mv_sr (mv_nw (mv_sr (mv_nw (mv_sr (mv_nw (mv_sr (mv_nw (mv_sr (mv_nw σ 109) 108 0 (some 109)) 110) 108 10 (some 110)) 111) 108 11 (some 111)) 112) 108 12 (some 112)) 113) 108 13 (some 113)) 114) 108 14 (some 114)) 115) 108 15 (some 115)) 116) 108 16 (some 116)) 108 18 (-1))) (τ := (mv_si (mv_si (mv_sr (mv_nw (mv_sr (mv_nw (mv_sr (mv_nw (mv_sr (mv_nw (mv_sr (mv_nw (mv_sr (mv_nw (mv_sr (mv_nw (mv_sr (mv_nw σ 109) 108 0 (some 109)) 110) 108 10 (some 110)) 111) 108 11 (some 111)) 112) 108 12 (some 112)) 113) 108 13 (some 113)) 114) 108 14 (some 114)) 115) 108 15 (some 115)) 116) 108 16 (some 116)) 108 18 (-1)) 108 20 (8))) hok rfl
  have hok := mv_ok.r (σ := (mv_si (mv_si (mv_sr (mv_nw (mv_sr (mv_nw (mv_sr (mv_nw (mv_sr (mv_nw (mv_sr (mv_nw (mv_sr (mv_nw (mv_sr (mv_nw (mv_sr (mv_nw σ 109) 108 0 (some 109)) 110) 108 10 (some 110)) 111) 108 11 (some 111)) 112) 108 12 (some 112)) 113) 108 13 (some 113)) 114) 108 14 (some 114)) 115) 108 15 (some 115)) 116) 108 16 (some 116)) 108 18 (-1)) 108 20 (8))) (τ := (mv_si (mv_si (mv_si (mv_sr (mv_nw (mv_sr (mv_nw (mv_sr (mv_nw (mv_sr (mv_nw (mv_sr (mv_nw (mv_sr (mv_nw (mv_sr (mv_nw (mv_sr (mv_nw σ 109) 108 0 (some 109)) 110) 108 10 (some 110)) 111) 108 11 (some 111)) 112) 108 12 (some 112)) 113) 108 13 (some 113)) 114) 108 14 (some 114)) 115) 108 15 (some 115)) 116) 108 16 (some 116)) 108 18 (-1)) 108 20 (8)) 108 21 (-1))) hok rfl
  have hok := hok.nw
  have hok := hok.sr (o := 108) (k := 23) (r := 117) (by decide)
  have hok := hok.nw
  have hok := hok.sr (o := 108) (k := 24) (r := 118) (by decide)
  have hok := hok.nw
  have hok := hok.sr (o := 108) (k := 25) (r := 119) (by decide)
  have hok := hok.nw
  have hok := hok.sr (o := 108) (k := 26) (r := 120) (by decide)
  have hok := hok.nw
  have hok := hok.sr (o := 108) (k := 27) (r := 121) (by decide)
  have hok := hok.nw
  have hok := hok.sr (o := 108) (k := 28) (r := 122) (by decide)
  have hok := hok.nw
  have hok := hok.sr (o := 108) (k := 31) (r := 123) (by decide)
  have hok := hok.nw
  have hok := hok.sr (o := 108) (k := 32) (r := 124) (by decide)
  have hok := hok.nw
  have hok := hok.sr (o := 108) (k := 33) (r := 125) (by decide)
  have hok := hok.nw
  have hok := hok.sr (o := 108) (k := 34) (r := 126) (by decide)
  have hok := hok.nw
  have hok := hok.sr (o := 108) (k := 40) (r := 127) (by decide)
  have hok := hok.nw
  have hok := hok.sr (o := 108) (k := 41) (r := 128) (by decide)
  have hok := hok.nw
  have hok := hok.sr (o := 108) (k := 42) (r := 129) (by decide)
  have hok := hok.nw
  have hok := hok.sr (o := 108) (k := 43) (r := 130) (by decide)
  have hok := hok.nw
  have hok := hok.sr (o := 108) (k := 44) (r := 131) (by decide)
  have hok := hok.nw
  have hok := hok.sr (o := 108) (k := 45) (r := 132) (by decide)
  have hok := hok.nw
  have hok := hok.sr (o := 108) (k := 46) (r := 133) (by decide)
  have hok := hok.nw
  have hok := hok.sr (o := 108) (k := 47) (r := 134) (by decide)
  have hok := hok.nw
  have hok := hok.sr (o := 108) (k := 54) (r := 135) (by decide)
  have hok := hok.nw
  have hok := hok.sr (o := 108) (k := 55) (r := 136) (by decide)
  have hok := hok.nw
  have hok := hok.sr (o := 108) (k := 56) (r := 137) (by decide)
  have hok := hok.nw
  have hok := hok.sr (o := 108) (k := 57) (r := 138) (by decide)
  have hok := hok.nw
  have hok := hok.sr (o := 108) (k := 58) (r := 139) (by decide)
  have hok := hok.nw
  have hok := hok.sr (o := 108) (k := 59) (r := 140) (by decide)
  have hok := hok.nw
  have hok := hok.sr (o := 108) (k := 60) (r := 141) (by decide)
  have hok := hok.pm (π := pmB 108) (πi := piB 108) (fun k hk => pmB_lt hk) (fun r hr => piB_ok (by decide) hr)
  exact hok
theorem kb_Book_y {σ : mv_H} (h0 : mv_ok σ 109) (hgh : gh σ) : Kpb 108 σ (sg_Book_y σ) := by
  have hok := h0
  have hk : Kpb 108 σ σ := Kpb.rf
  have hk := hk.nw (m := 109) (by decide)
  have hok := hok.nw
  have hk := hk.sr (a := 108) (k := 0) (v := some 109) (by decide)
  have hok := hok.sr (o := 108) (k := 0) (r := 109) (by decide)
  have hk := hk.nw (m := 110) (by decide)
  have hok := hok.nw
  have hk := hk.sr (a := 108) (k := 10) (v := some 110) (by decide)
  have hok := hok.sr (o := 108) (k := 10) (r := 110) (by decide)
  have hk := hk.nw (m := 111) (by decide)
  have hok := hok.nw
  have hk := hk.sr (a := 108) (k := 11) (v := some 111) (by decide)
  have hok := hok.sr (o := 108) (k := 11) (r := 111) (by decide)
  have hk := hk.nw (m := 112) (by decide)
  have hok := hok.nw
  have hk := hk.sr (a := 108) (k := 12) (v := some 112) (by decide)
  have hok := hok.sr (o := 108) (k := 12) (r := 112) (by decide)
  have hk := hk.nw (m := 113) (by decide)
  have hok := hok.nw
  have hk := hk.sr (a := 108) (k := 13) (v := some 113) (by decide)
  have hok := hok.sr (o := 108) (k := 13) (r := 113) (by decide)
  have hk := hk.nw (m := 114) (by decide)
  have hok := hok.nw
  have hk := hk.sr (a := 108) (k := 14) (v := some 114) (by decide)
  have hok := hok.sr (o := 108) (k := 14) (r := 114) (by decide)
  have hk := hk.nw (m := 115) (by decide)
  have hok := hok.nw
  have hk := hk.sr (a := 108) (k := 15) (v := some 115) (by decide)
  have hok := hok.sr (o := 108) (k := 15) (r := 115) (by decide)
  have hk := hk.nw (m := 116) (by decide)
  have hok := hok.nw
  have hk := hk.sr (a := 108) (k := 16) (v := some 116) (by decide)
  have hok := hok.sr (o := 108) (k := 16) (r := 116) (by decide)
  have hk := hk.si (a := 108) (k := 18) (v := -1) (by decide)
  have hok := mv_ok.r (σ := (mv_sr (mv_nw (mv_sr (mv_nw (mv_sr (mv_nw (mv_sr (mv_nw (mv_sr (mv_nw (mv_sr (mv_nw (mv_sr (mv_nw (mv_sr (mv_nw σ 109) 108 0 (some 109)) 110) 108 10 (some 110)) 111) 108 11 (some 111)) 112) 108 12 (some 112)) 113) 108 13 (some 113)) 114) 108 14 (some 114)) 115) 108 15 (some 115)) 116) 108 16 (some 116))) (τ := (mv_si (mv_sr (mv_nw (mv_sr (mv_nw (mv_sr (mv_nw (mv_sr (mv_nw (mv_sr (mv_nw (mv_sr (mv_nw (mv_sr (mv_nw (mv_sr (mv_nw σ 109) 108 0 (some 109)) 110) 108 10 (some 110)) 111) 108 11 (some 111)) 112) 108 12 (some 112)) 113) 108 13 (some 113)) 114) 108 14 (some 114)) 115) 108 15 (some 115)) 116) 108 16 (some 116)) 108 18 (-1))) hok rfl
  have hk := hk.si (a := 108) (k := 20) (v := 8) (by decide)
  have hok := mv_ok.r (σ := (mv_si (mv_sr (mv_nw (mv_sr (mv_nw (mv_sr (mv_nw (mv_sr (mv_nw (mv_sr (mv_nw (mv_sr (mv_nw (mv_sr (mv_nw (mv_sr (mv_nw σ 109) 108 0 (some 109)) 110) 108 10 (some 110)) 111) 108 11 (some 111)) 112) 108 12 (some 112)) 113) 108 13 (some 113)) 114) 108 14 (some 114)) 115) 108 15 (some 115)) 116) 108 16 (some 116)) 108 18 (-1))) (τ := (mv_si (mv_si (mv_sr (mv_nw (mv_sr (mv_nw (mv_sr (mv_nw (mv_sr (mv_nw (mv_sr (mv_nw (mv_sr (mv_nw (mv_sr (mv_nw (mv_sr (mv_nw σ 109) 108 0 (some 109)) 110) 108 10 (some 110)) 111) 108 11 (some 111)) 112) 108 12 (some 112)) 113) 108 13 (some 113)) 114) 108 14 (some 114)) 115) 108 15 (some 115)) 116) 108 16 (some 116)) 108 18 (-1)) 108 20 (8))) hok rfl
  have hk := hk.si (a := 108) (k := 21) (v := -1) (by decide)
  have hok := mv_ok.r (σ := (mv_si (mv_si (mv_sr (mv_nw (mv_sr (mv_nw (mv_sr (mv_nw (mv_sr (mv_nw (mv_sr (mv_nw (mv_sr (mv_nw (mv_sr (mv_nw (mv_sr (mv_nw σ 109) 108 0 (some 109)) 110) 108 10 (some 110)) 111) 108 11 (some 111)) 112) 108 12 (some 112)) 113) 108 13 (some 113)) 114) 108 14 (some 114)) 115) 108 15 (some 115)) 116) 108 16 (some 116)) 108 18 (-1)) 108 20 (8))) (τ := (mv_si (mv_si (mv_si (mv_sr (mv_nw (mv_sr (mv_nw (mv_sr (mv_nw (mv_sr (mv_nw (mv_sr (mv_nw (mv_sr (mv_nw (mv_sr (mv_nw (mv_sr (mv_nw σ 109) 108 0 (some 109)) 110) 108 10 (some 110)) 111) 108 11 (some 111)) 112) 108 12 (some 112)) 113) 108 13 (some 113)) 114) 108 14 (some 114)) 115) 108 15 (some 115)) 116) 108 16 (some 116)) 108 18 (-1)) 108 20 (8)) 108 21 (-1))) hok rfl
  have hk := hk.nw (m := 117) (by decide)
  have hok := hok.nw
  have hk := hk.sr (a := 108) (k := 23) (v := some 117) (by decide)
  have hok := hok.sr (o := 108) (k := 23) (r := 117) (by decide)
  have hk := hk.nw (m := 118) (by decide)
  have hok := hok.nw
  have hk := hk.sr (a := 108) (k := 24) (v := some 118) (by decide)
  have hok := hok.sr (o := 108) (k := 24) (r := 118) (by decide)
  have hk := hk.nw (m := 119) (by decide)
  have hok := hok.nw
  have hk := hk.sr (a := 108) (k := 25) (v := some 119) (by decide)
  have hok := hok.sr (o := 108) (k := 25) (r := 119) (by decide)
  have hk := hk.nw (m := 120) (by decide)
  have hok := hok.nw
  have hk := hk.sr (a := 108) (k := 26) (v := some 120) (by decide)
  have hok := hok.sr (o := 108) (k := 26) (r := 120) (by decide)
  have hk := hk.nw (m := 121) (by decide)
  have hok := hok.nw
  have hk := hk.sr (a := 108) (k := 27) (v := some 121) (by decide)
  have hok := hok.sr (o := 108) (k := 27) (r := 121) (by decide)
  have hk := hk.nw (m := 122) (by decide)
  have hok := hok.nw
  have hk := hk.sr (a := 108) (k := 28) (v := some 122) (by decide)
  have hok := hok.sr (o := 108) (k := 28) (r := 122) (by decide)
  have hk := hk.nw (m := 123) (by decide)
  have hok := hok.nw
  have hk := hk.sr (a := 108) (k := 31) (v := some 123) (by decide)
  have hok := hok.sr (o := 108) (k := 31) (r := 123) (by decide)
  have hk := hk.nw (m := 124) (by decide)
  have hok := hok.nw
  have hk := hk.sr (a := 108) (k := 32) (v := some 124) (by decide)
  have hok := hok.sr (o := 108) (k := 32) (r := 124) (by decide)
  have hk := hk.nw (m := 125) (by decide)
  have hok := hok.nw
  have hk := hk.sr (a := 108) (k := 33) (v := some 125) (by decide)
  have hok := hok.sr (o := 108) (k := 33) (r := 125) (by decide)
  have hk := hk.nw (m := 126) (by decide)
  have hok := hok.nw
  have hk := hk.sr (a := 108) (k := 34) (v := some 126) (by decide)
  have hok := hok.sr (o := 108) (k := 34) (r := 126) (by decide)
  have hk := hk.nw (m := 127) (by decide)
  have hok := hok.nw
  have hk := hk.sr (a := 108) (k := 40) (v := some 127) (by decide)
  have hok := hok.sr (o := 108) (k := 40) (r := 127) (by decide)
  have hk := hk.nw (m := 128) (by decide)
  have hok := hok.nw
  have hk := hk.sr (a := 108) (k := 41) (v := some 128) (by decide)
  have hok := hok.sr (o := 108) (k := 41) (r := 128) (by decide)
  have hk := hk.nw (m := 129) (by decide)
  have hok := hok.nw
  have hk := hk.sr (a := 108) (k := 42) (v := some 129) (by decide)
  have hok := hok.sr (o := 108) (k := 42) (r := 129) (by decide)
  have hk := hk.nw (m := 130) (by decide)
  have hok := hok.nw
  have hk := hk.sr (a := 108) (k := 43) (v := some 130) (by decide)
  have hok := hok.sr (o := 108) (k := 43) (r := 130) (by decide)
  have hk := hk.nw (m := 131) (by decide)
  have hok := hok.nw
  have hk := hk.sr (a := 108) (k := 44) (v := some 131) (by decide)
  have hok := hok.sr (o := 108) (k := 44) (r := 131) (by decide)
  have hk := hk.nw (m := 132) (by decide)
  have hok := hok.nw
  have hk := hk.sr (a := 108) (k := 45) (v := some 132) (by decide)
  have hok := hok.sr (o := 108) (k := 45) (r := 132) (by decide)
  have hk := hk.nw (m := 133) (by decide)
  have hok := hok.nw
  have hk := hk.sr (a := 108) (k := 46) (v := some 133) (by decide)
  have hok := hok.sr (o := 108) (k := 46) (r := 133) (by decide)
  have hk := hk.nw (m := 134) (by decide)
  have hok := hok.nw
  have hk := hk.sr (a := 108) (k := 47) (v := some 134) (by decide)
  have hok := hok.sr (o := 108) (k := 47) (r := 134) (by decide)
  have hk := hk.nw (m := 135) (by decide)
  have hok := hok.nw
  have hk := hk.sr (a := 108) (k := 54) (v := some 135) (by decide)
  have hok := hok.sr (o := 108) (k := 54) (r := 135) (by decide)
  have hk := hk.nw (m := 136) (by decide)
  have hok := hok.nw
  have hk := hk.sr (a := 108) (k := 55) (v := some 136) (by decide)
  have hok := hok.sr (o := 108) (k := 55) (r := 136) (by decide)
  have hk := hk.nw (m := 137) (by decide)
  have hok := hok.nw
  have hk := hk.sr (a := 108) (k := 56) (v := some 137) (by decide)
  have hok := hok.sr (o := 108) (k := 56) (r := 137) (by decide)
  have hk := hk.nw (m := 138) (by decide)
  have hok := hok.nw
  have hk := hk.sr (a := 108) (k := 57) (v := some 138) (by decide)
  have hok := hok.sr (o := 108) (k := 57) (r := 138) (by decide)
  have hk := hk.nw (m := 139) (by decide)
  have hok := hok.nw
  have hk := hk.sr (a := 108) (k := 58) (v := some 139) (by decide)
  have hok := hok.sr (o := 108) (k := 58) (r := 139) (by decide)
  have hk := hk.nw (m := 140) (by decide)
  have hok := hok.nw
  have hk := hk.sr (a := 108) (k := 59) (v := some 140) (by decide)
  have hok := hok.sr (o := 108) (k := 59) (r := 140) (by decide)
  have hk := hk.nw (m := 141) (by decide)
  have hok := hok.nw
  have hk := hk.sr (a := 108) (k := 60) (v := some 141) (by decide)
  have hok := hok.sr (o := 108) (k := 60) (r := 141) (by decide)
  have hk := hk.pm h0 hgh (by decide)
  have hok := hok.pm (π := pmB 108) (πi := piB 108) (fun k hk => pmB_lt hk) (fun r hr => piB_ok (by decide) hr)
  exact hk
set_option maxHeartbeats 4000000 in
set_option maxRecDepth 100000 in
theorem nc_Book_y (l : Launch) {dA : FieldType → ClassId} {D : va_G} {al : Nat → Nat} {sk sv : Nat → Nat} (hi : mv_inj (mq dA D al 109)) (hlt : l.stackTraces = false) (σ : mv_H) (hok : mv_ok σ 109) : mv_CN l y_Book_init (Cond.code y_Book_init b_Book_init 1 (Option.none : Option Jvm.ClassFile.FieldType) :: ma) ({ frames := 6, cells := 33, slots := 505111, locals := 90 }) dA D al 109 142 (mKt sk sv) [.ref (al 108)] σ (fun v9 σ9 => v9 = none ∧ σ9 = sg_Book_y σ) := by
  refine mv_CN.ofV (cc := b_Book_init) (nL := 1) (ret := (Option.none : Option Jvm.ClassFile.FieldType)) (by decide +kernel) rfl hi (Nat.le_of_ble_eq_true rfl) ?_
  intro p e s m args below meth c B hNs hr hnm hno
  have hg : mq_gr al al 109 109 s.heap.size := mq_gr.rf
  have wx_le : ∀ {n : Nat}, n ≤ 142 → n ≤ (wxB 108).length := fun h => by rw [wx_len (by decide)]; exact h
  have e9 : mq dA D al 109 = mpw (wxB 108) dA D al 109 := congrArg (fun t9 : mv_Sh => ((mc_cl, mc_ft, dA, D, al, t9) : mv_G)) (wx_eq (B := 108) (by decide))
  rw [e9] at B hNs ⊢
  clear e9
  refine mv_aload_n (pc := 0) B d_Book_init_0 rfl 0 rfl ?_
  refine mv_obj (pc := 1) B (B.2.2.2.1 _ k_1821) (B.2.2.2.1 _ k_43) (B.2.2.2.1 _ k_44) d_Book_init_1 (Nat.le_of_ble_eq_true rfl) ⟨by decide, by decide⟩ ?_
  refine mv_aload_n (pc := 4) B d_Book_init_4 rfl 0 rfl ?_
  refine mq_wrong (pc := 5) (ik := 7) (ic := 9) (n2 := 110) B rfl (by decide) hlt hNs.2.1 rfl hok (B.2.2.2.1 _ k_1822) (va_Nw.use rfl (hNs.1.1 _ (List.mem_of_getElem? (i := 6) rfl))) d_Book_init_5 d_Book_init_8 d_Book_init_9 (Nat.le_of_ble_eq_true rfl) ⟨by decide, by decide⟩ (Nat.le_of_ble_eq_true rfl) (Nat.le_of_ble_eq_true rfl) (fun al1 g1 B => ?_)
  have hok := hok.nw
  have hNs := mq_K (mKt_ok sk sv) g1 (by decide) (wx_le (by decide)) hNs
  have hg := hg.tr g1 (by decide)
  rw [← g1.1 108 (by decide)]
  refine mv_putRF (pc := 12) (ci := 12) (C := R_Book) (T := F_Book) (N := 65) (o := 108) (r := 109) B 0 rfl rfl (by decide) i_Book t_Book_ok n_Book (B.2.2.2.1 _ k_1843) rfl hnm rfl rfl d_Book_init_12 ?_
  have hok := hok.sr (o := 108) (k := 0) (r := 109) (by decide)
  refine mv_aload_n (pc := 15) B d_Book_init_15 rfl 0 rfl ?_
  refine mv_sipush (pc := 16) (v := 4100) B d_Book_init_16 (by decide) ?_
  refine mq_newa (pc := 19) (ty := .int) (N := 4100) (n2 := 111) B rfl (by decide) rfl hok (B.2.2.2.1 _ k_87) rfl (Or.inl rfl) (by decide) (by decide) (by decide) (Nat.le_of_ble_eq_true rfl) (Nat.le_of_ble_eq_true rfl) d_Book_init_19 (fun al2 g2 B => ?_)
  have hok := hok.nw
  have hNs := mq_K (mKt_ok sk sv) g2 (by decide) (wx_le (by decide)) hNs
  have hg := hg.tr g2 (by decide)
  rw [← g2.1 108 (by decide)]
  refine mv_putRF (pc := 21) (ci := 12) (C := R_Book) (T := F_Book) (N := 65) (o := 108) (r := 110) B 10 rfl rfl (by decide) i_Book t_Book_ok n_Book (B.2.2.2.1 _ k_1853) rfl hnm rfl rfl d_Book_init_21 ?_
  have hok := hok.sr (o := 108) (k := 10) (r := 110) (by decide)
  refine mv_aload_n (pc := 24) B d_Book_init_24 rfl 0 rfl ?_
  refine mv_sipush (pc := 25) (v := 4100) B d_Book_init_25 (by decide) ?_
  refine mq_newa (pc := 28) (ty := .int) (N := 4100) (n2 := 112) B rfl (by decide) rfl hok (B.2.2.2.1 _ k_87) rfl (Or.inl rfl) (by decide) (by decide) (by decide) (Nat.le_of_ble_eq_true rfl) (Nat.le_of_ble_eq_true rfl) d_Book_init_28 (fun al3 g3 B => ?_)
  have hok := hok.nw
  have hNs := mq_K (mKt_ok sk sv) g3 (by decide) (wx_le (by decide)) hNs
  have hg := hg.tr g3 (by decide)
  rw [← g3.1 108 (by decide)]
  refine mv_putRF (pc := 30) (ci := 12) (C := R_Book) (T := F_Book) (N := 65) (o := 108) (r := 111) B 11 rfl rfl (by decide) i_Book t_Book_ok n_Book (B.2.2.2.1 _ k_1854) rfl hnm rfl rfl d_Book_init_30 ?_
  have hok := hok.sr (o := 108) (k := 11) (r := 111) (by decide)
  refine mv_aload_n (pc := 33) B d_Book_init_33 rfl 0 rfl ?_
  refine mv_sipush (pc := 34) (v := 4100) B d_Book_init_34 (by decide) ?_
  refine mq_newa (pc := 37) (ty := .int) (N := 4100) (n2 := 113) B rfl (by decide) rfl hok (B.2.2.2.1 _ k_87) rfl (Or.inl rfl) (by decide) (by decide) (by decide) (Nat.le_of_ble_eq_true rfl) (Nat.le_of_ble_eq_true rfl) d_Book_init_37 (fun al4 g4 B => ?_)
  have hok := hok.nw
  have hNs := mq_K (mKt_ok sk sv) g4 (by decide) (wx_le (by decide)) hNs
  have hg := hg.tr g4 (by decide)
  rw [← g4.1 108 (by decide)]
  refine mv_putRF (pc := 39) (ci := 12) (C := R_Book) (T := F_Book) (N := 65) (o := 108) (r := 112) B 12 rfl rfl (by decide) i_Book t_Book_ok n_Book (B.2.2.2.1 _ k_1855) rfl hnm rfl rfl d_Book_init_39 ?_
  have hok := hok.sr (o := 108) (k := 12) (r := 112) (by decide)
  refine mv_aload_n (pc := 42) B d_Book_init_42 rfl 0 rfl ?_
  refine mv_sipush (pc := 43) (v := 4100) B d_Book_init_43 (by decide) ?_
  refine mq_newa (pc := 46) (ty := .int) (N := 4100) (n2 := 114) B rfl (by decide) rfl hok (B.2.2.2.1 _ k_87) rfl (Or.inl rfl) (by decide) (by decide) (by decide) (Nat.le_of_ble_eq_true rfl) (Nat.le_of_ble_eq_true rfl) d_Book_init_46 (fun al5 g5 B => ?_)
  have hok := hok.nw
  have hNs := mq_K (mKt_ok sk sv) g5 (by decide) (wx_le (by decide)) hNs
  have hg := hg.tr g5 (by decide)
  rw [← g5.1 108 (by decide)]
  refine mv_putRF (pc := 48) (ci := 12) (C := R_Book) (T := F_Book) (N := 65) (o := 108) (r := 113) B 13 rfl rfl (by decide) i_Book t_Book_ok n_Book (B.2.2.2.1 _ k_1856) rfl hnm rfl rfl d_Book_init_48 ?_
  have hok := hok.sr (o := 108) (k := 13) (r := 113) (by decide)
  refine mv_aload_n (pc := 51) B d_Book_init_51 rfl 0 rfl ?_
  refine mv_sipush (pc := 52) (v := 4100) B d_Book_init_52 (by decide) ?_
  refine mq_newa (pc := 55) (ty := .int) (N := 4100) (n2 := 115) B rfl (by decide) rfl hok (B.2.2.2.1 _ k_87) rfl (Or.inl rfl) (by decide) (by decide) (by decide) (Nat.le_of_ble_eq_true rfl) (Nat.le_of_ble_eq_true rfl) d_Book_init_55 (fun al6 g6 B => ?_)
  have hok := hok.nw
  have hNs := mq_K (mKt_ok sk sv) g6 (by decide) (wx_le (by decide)) hNs
  have hg := hg.tr g6 (by decide)
  rw [← g6.1 108 (by decide)]
  refine mv_putRF (pc := 57) (ci := 12) (C := R_Book) (T := F_Book) (N := 65) (o := 108) (r := 114) B 14 rfl rfl (by decide) i_Book t_Book_ok n_Book (B.2.2.2.1 _ k_1857) rfl hnm rfl rfl d_Book_init_57 ?_
  have hok := hok.sr (o := 108) (k := 14) (r := 114) (by decide)
  refine mv_aload_n (pc := 60) B d_Book_init_60 rfl 0 rfl ?_
  refine mv_sipush (pc := 61) (v := 4100) B d_Book_init_61 (by decide) ?_
  refine mq_newa (pc := 64) (ty := .boolean) (N := 4100) (n2 := 116) B rfl (by decide) rfl hok (B.2.2.2.1 _ k_310) rfl (Or.inr (Or.inr (Or.inr rfl))) (by decide) (by decide) (by decide) (Nat.le_of_ble_eq_true rfl) (Nat.le_of_ble_eq_true rfl) d_Book_init_64 (fun al7 g7 B => ?_)
  have hok := hok.nw
  have hNs := mq_K (mKt_ok sk sv) g7 (by decide) (wx_le (by decide)) hNs
  have hg := hg.tr g7 (by decide)
  rw [← g7.1 108 (by decide)]
  refine mv_putRF (pc := 66) (ci := 12) (C := R_Book) (T := F_Book) (N := 65) (o := 108) (r := 115) B 15 rfl rfl (by decide) i_Book t_Book_ok n_Book (B.2.2.2.1 _ k_1858) rfl hnm rfl rfl d_Book_init_66 ?_
  have hok := hok.sr (o := 108) (k := 15) (r := 115) (by decide)
  refine mv_aload_n (pc := 69) B d_Book_init_69 rfl 0 rfl ?_
  refine mv_sipush (pc := 70) (v := 4100) B d_Book_init_70 (by decide) ?_
  refine mq_newa (pc := 73) (ty := .boolean) (N := 4100) (n2 := 117) B rfl (by decide) rfl hok (B.2.2.2.1 _ k_310) rfl (Or.inr (Or.inr (Or.inr rfl))) (by decide) (by decide) (by decide) (Nat.le_of_ble_eq_true rfl) (Nat.le_of_ble_eq_true rfl) d_Book_init_73 (fun al8 g8 B => ?_)
  have hok := hok.nw
  have hNs := mq_K (mKt_ok sk sv) g8 (by decide) (wx_le (by decide)) hNs
  have hg := hg.tr g8 (by decide)
  rw [← g8.1 108 (by decide)]
  refine mv_putRF (pc := 75) (ci := 12) (C := R_Book) (T := F_Book) (N := 65) (o := 108) (r := 116) B 16 rfl rfl (by decide) i_Book t_Book_ok n_Book (B.2.2.2.1 _ k_1859) rfl hnm rfl rfl d_Book_init_75 ?_
  have hok := hok.sr (o := 108) (k := 16) (r := 116) (by decide)
  refine mv_aload_n (pc := 78) B d_Book_init_78 rfl 0 rfl ?_
  refine mv_iconst (pc := 79) (v := -1) B d_Book_init_79 (by decide) ?_
  refine mv_putI (pc := 80) (ci := 12) (C := R_Book) (T := F_Book) (N := 65) (o := 108) B 18 rfl rfl (by decide) i_Book t_Book_ok n_Book (B.2.2.2.1 _ k_1862) rfl rfl rfl rfl d_Book_init_80 ?_
  have hok := mv_ok.r (σ := (mv_sr (mv_nw (mv_sr (mv_nw (mv_sr (mv_nw (mv_sr (mv_nw (mv_sr (mv_nw (mv_sr (mv_nw (mv_sr (mv_nw (mv_sr (mv_nw σ 109) 108 0 (some 109)) 110) 108 10 (some 110)) 111) 108 11 (some 111)) 112) 108 12 (some 112)) 113) 108 13 (some 113)) 114) 108 14 (some 114)) 115) 108 15 (some 115)) 116) 108 16 (some 116))) (τ := (mv_si (mv_sr (mv_nw (mv_sr (mv_nw (mv_sr (mv_nw (mv_sr (mv_nw (mv_sr (mv_nw (mv_sr (mv_nw (mv_sr (mv_nw (mv_sr (mv_nw σ 109) 108 0 (some 109)) 110) 108 10 (some 110)) 111) 108 11 (some 111)) 112) 108 12 (some 112)) 113) 108 13 (some 113)) 114) 108 14 (some 114)) 115) 108 15 (some 115)) 116) 108 16 (some 116)) 108 18 (-1))) hok rfl
  refine mv_aload_n (pc := 83) B d_Book_init_83 rfl 0 rfl ?_
  refine mv_bipush (pc := 84) (v := 8) B d_Book_init_84 (by decide) ?_
  refine mv_putI (pc := 86) (ci := 12) (C := R_Book) (T := F_Book) (N := 65) (o := 108) B 20 rfl rfl (by decide) i_Book t_Book_ok n_Book (B.2.2.2.1 _ k_1865) rfl rfl rfl rfl d_Book_init_86 ?_
  have hok := mv_ok.r (σ := (mv_si (mv_sr (mv_nw (mv_sr (mv_nw (mv_sr (mv_nw (mv_sr (mv_nw (mv_sr (mv_nw (mv_sr (mv_nw (mv_sr (mv_nw (mv_sr (mv_nw σ 109) 108 0 (some 109)) 110) 108 10 (some 110)) 111) 108 11 (some 111)) 112) 108 12 (some 112)) 113) 108 13 (some 113)) 114) 108 14 (some 114)) 115) 108 15 (some 115)) 116) 108 16 (some 116)) 108 18 (-1))) (τ := (mv_si (mv_si (mv_sr (mv_nw (mv_sr (mv_nw (mv_sr (mv_nw (mv_sr (mv_nw (mv_sr (mv_nw (mv_sr (mv_nw (mv_sr (mv_nw (mv_sr (mv_nw σ 109) 108 0 (some 109)) 110) 108 10 (some 110)) 111) 108 11 (some 111)) 112) 108 12 (some 112)) 113) 108 13 (some 113)) 114) 108 14 (some 114)) 115) 108 15 (some 115)) 116) 108 16 (some 116)) 108 18 (-1)) 108 20 (8))) hok rfl
  refine mv_aload_n (pc := 89) B d_Book_init_89 rfl 0 rfl ?_
  refine mv_iconst (pc := 90) (v := -1) B d_Book_init_90 (by decide) ?_
  refine mv_putI (pc := 91) (ci := 12) (C := R_Book) (T := F_Book) (N := 65) (o := 108) B 21 rfl rfl (by decide) i_Book t_Book_ok n_Book (B.2.2.2.1 _ k_1866) rfl rfl rfl rfl d_Book_init_91 ?_
  have hok := mv_ok.r (σ := (mv_si (mv_si (mv_sr (mv_nw (mv_sr (mv_nw (mv_sr (mv_nw (mv_sr (mv_nw (mv_sr (mv_nw (mv_sr (mv_nw (mv_sr (mv_nw (mv_sr (mv_nw σ 109) 108 0 (some 109)) 110) 108 10 (some 110)) 111) 108 11 (some 111)) 112) 108 12 (some 112)) 113) 108 13 (some 113)) 114) 108 14 (some 114)) 115) 108 15 (some 115)) 116) 108 16 (some 116)) 108 18 (-1)) 108 20 (8))) (τ := (mv_si (mv_si (mv_si (mv_sr (mv_nw (mv_sr (mv_nw (mv_sr (mv_nw (mv_sr (mv_nw (mv_sr (mv_nw (mv_sr (mv_nw (mv_sr (mv_nw (mv_sr (mv_nw σ 109) 108 0 (some 109)) 110) 108 10 (some 110)) 111) 108 11 (some 111)) 112) 108 12 (some 112)) 113) 108 13 (some 113)) 114) 108 14 (some 114)) 115) 108 15 (some 115)) 116) 108 16 (some 116)) 108 18 (-1)) 108 20 (8)) 108 21 (-1))) hok rfl
  refine mv_aload_n (pc := 94) B d_Book_init_94 rfl 0 rfl ?_
  refine mv_sipush (pc := 95) (v := 4100) B d_Book_init_95 (by decide) ?_
  refine mq_newa (pc := 98) (ty := .int) (N := 4100) (n2 := 118) B rfl (by decide) rfl hok (B.2.2.2.1 _ k_87) rfl (Or.inl rfl) (by decide) (by decide) (by decide) (Nat.le_of_ble_eq_true rfl) (Nat.le_of_ble_eq_true rfl) d_Book_init_98 (fun al9 g9 B => ?_)
  have hok := hok.nw
  have hNs := mq_K (mKt_ok sk sv) g9 (by decide) (wx_le (by decide)) hNs
  have hg := hg.tr g9 (by decide)
  rw [← g9.1 108 (by decide)]
  refine mv_putRF (pc := 100) (ci := 12) (C := R_Book) (T := F_Book) (N := 65) (o := 108) (r := 117) B 23 rfl rfl (by decide) i_Book t_Book_ok n_Book (B.2.2.2.1 _ k_1868) rfl hnm rfl rfl d_Book_init_100 ?_
  have hok := hok.sr (o := 108) (k := 23) (r := 117) (by decide)
  refine mv_aload_n (pc := 103) B d_Book_init_103 rfl 0 rfl ?_
  refine mv_sipush (pc := 104) (v := 4100) B d_Book_init_104 (by decide) ?_
  refine mq_newa (pc := 107) (ty := .int) (N := 4100) (n2 := 119) B rfl (by decide) rfl hok (B.2.2.2.1 _ k_87) rfl (Or.inl rfl) (by decide) (by decide) (by decide) (Nat.le_of_ble_eq_true rfl) (Nat.le_of_ble_eq_true rfl) d_Book_init_107 (fun al10 g10 B => ?_)
  have hok := hok.nw
  have hNs := mq_K (mKt_ok sk sv) g10 (by decide) (wx_le (by decide)) hNs
  have hg := hg.tr g10 (by decide)
  rw [← g10.1 108 (by decide)]
  refine mv_putRF (pc := 109) (ci := 12) (C := R_Book) (T := F_Book) (N := 65) (o := 108) (r := 118) B 24 rfl rfl (by decide) i_Book t_Book_ok n_Book (B.2.2.2.1 _ k_1869) rfl hnm rfl rfl d_Book_init_109 ?_
  have hok := hok.sr (o := 108) (k := 24) (r := 118) (by decide)
  refine mv_aload_n (pc := 112) B d_Book_init_112 rfl 0 rfl ?_
  refine mv_sipush (pc := 113) (v := 4100) B d_Book_init_113 (by decide) ?_
  refine mq_newa (pc := 116) (ty := .int) (N := 4100) (n2 := 120) B rfl (by decide) rfl hok (B.2.2.2.1 _ k_87) rfl (Or.inl rfl) (by decide) (by decide) (by decide) (Nat.le_of_ble_eq_true rfl) (Nat.le_of_ble_eq_true rfl) d_Book_init_116 (fun al11 g11 B => ?_)
  have hok := hok.nw
  have hNs := mq_K (mKt_ok sk sv) g11 (by decide) (wx_le (by decide)) hNs
  have hg := hg.tr g11 (by decide)
  rw [← g11.1 108 (by decide)]
  refine mv_putRF (pc := 118) (ci := 12) (C := R_Book) (T := F_Book) (N := 65) (o := 108) (r := 119) B 25 rfl rfl (by decide) i_Book t_Book_ok n_Book (B.2.2.2.1 _ k_1870) rfl hnm rfl rfl d_Book_init_118 ?_
  have hok := hok.sr (o := 108) (k := 25) (r := 119) (by decide)
  refine mv_aload_n (pc := 121) B d_Book_init_121 rfl 0 rfl ?_
  refine mv_sipush (pc := 122) (v := 4100) B d_Book_init_122 (by decide) ?_
  refine mq_newa (pc := 125) (ty := .int) (N := 4100) (n2 := 121) B rfl (by decide) rfl hok (B.2.2.2.1 _ k_87) rfl (Or.inl rfl) (by decide) (by decide) (by decide) (Nat.le_of_ble_eq_true rfl) (Nat.le_of_ble_eq_true rfl) d_Book_init_125 (fun al12 g12 B => ?_)
  have hok := hok.nw
  have hNs := mq_K (mKt_ok sk sv) g12 (by decide) (wx_le (by decide)) hNs
  have hg := hg.tr g12 (by decide)
  rw [← g12.1 108 (by decide)]
  refine mv_putRF (pc := 127) (ci := 12) (C := R_Book) (T := F_Book) (N := 65) (o := 108) (r := 120) B 26 rfl rfl (by decide) i_Book t_Book_ok n_Book (B.2.2.2.1 _ k_1871) rfl hnm rfl rfl d_Book_init_127 ?_
  have hok := hok.sr (o := 108) (k := 26) (r := 120) (by decide)
  refine mv_aload_n (pc := 130) B d_Book_init_130 rfl 0 rfl ?_
  refine mv_sipush (pc := 131) (v := 4100) B d_Book_init_131 (by decide) ?_
  refine mq_newa (pc := 134) (ty := .int) (N := 4100) (n2 := 122) B rfl (by decide) rfl hok (B.2.2.2.1 _ k_87) rfl (Or.inl rfl) (by decide) (by decide) (by decide) (Nat.le_of_ble_eq_true rfl) (Nat.le_of_ble_eq_true rfl) d_Book_init_134 (fun al13 g13 B => ?_)
  have hok := hok.nw
  have hNs := mq_K (mKt_ok sk sv) g13 (by decide) (wx_le (by decide)) hNs
  have hg := hg.tr g13 (by decide)
  rw [← g13.1 108 (by decide)]
  refine mv_putRF (pc := 136) (ci := 12) (C := R_Book) (T := F_Book) (N := 65) (o := 108) (r := 121) B 27 rfl rfl (by decide) i_Book t_Book_ok n_Book (B.2.2.2.1 _ k_1872) rfl hnm rfl rfl d_Book_init_136 ?_
  have hok := hok.sr (o := 108) (k := 27) (r := 121) (by decide)
  refine mv_aload_n (pc := 139) B d_Book_init_139 rfl 0 rfl ?_
  refine mv_ldc (pc := 140) (v := 32768) B (B.2.2.2.1 _ k_1840) d_Book_init_140 ?_
  refine mq_newa (pc := 142) (ty := .byte) (N := 32768) (n2 := 123) B rfl (by decide) rfl hok (B.2.2.2.1 _ k_86) rfl (Or.inr (Or.inr (Or.inl rfl))) (by decide) (by decide) (by decide) (Nat.le_of_ble_eq_true rfl) (Nat.le_of_ble_eq_true rfl) d_Book_init_142 (fun al14 g14 B => ?_)
  have hok := hok.nw
  have hNs := mq_K (mKt_ok sk sv) g14 (by decide) (wx_le (by decide)) hNs
  have hg := hg.tr g14 (by decide)
  rw [← g14.1 108 (by decide)]
  refine mv_putRF (pc := 144) (ci := 12) (C := R_Book) (T := F_Book) (N := 65) (o := 108) (r := 122) B 28 rfl rfl (by decide) i_Book t_Book_ok n_Book (B.2.2.2.1 _ k_1873) rfl hnm rfl rfl d_Book_init_144 ?_
  have hok := hok.sr (o := 108) (k := 28) (r := 122) (by decide)
  refine mv_aload_n (pc := 147) B d_Book_init_147 rfl 0 rfl ?_
  refine mv_sipush (pc := 148) (v := 4100) B d_Book_init_148 (by decide) ?_
  refine mq_newa (pc := 151) (ty := .int) (N := 4100) (n2 := 124) B rfl (by decide) rfl hok (B.2.2.2.1 _ k_87) rfl (Or.inl rfl) (by decide) (by decide) (by decide) (Nat.le_of_ble_eq_true rfl) (Nat.le_of_ble_eq_true rfl) d_Book_init_151 (fun al15 g15 B => ?_)
  have hok := hok.nw
  have hNs := mq_K (mKt_ok sk sv) g15 (by decide) (wx_le (by decide)) hNs
  have hg := hg.tr g15 (by decide)
  rw [← g15.1 108 (by decide)]
  refine mv_putRF (pc := 153) (ci := 12) (C := R_Book) (T := F_Book) (N := 65) (o := 108) (r := 123) B 31 rfl rfl (by decide) i_Book t_Book_ok n_Book (B.2.2.2.1 _ k_1877) rfl hnm rfl rfl d_Book_init_153 ?_
  have hok := hok.sr (o := 108) (k := 31) (r := 123) (by decide)
  refine mv_aload_n (pc := 156) B d_Book_init_156 rfl 0 rfl ?_
  refine mv_sipush (pc := 157) (v := 4100) B d_Book_init_157 (by decide) ?_
  refine mq_newa (pc := 160) (ty := .int) (N := 4100) (n2 := 125) B rfl (by decide) rfl hok (B.2.2.2.1 _ k_87) rfl (Or.inl rfl) (by decide) (by decide) (by decide) (Nat.le_of_ble_eq_true rfl) (Nat.le_of_ble_eq_true rfl) d_Book_init_160 (fun al16 g16 B => ?_)
  have hok := hok.nw
  have hNs := mq_K (mKt_ok sk sv) g16 (by decide) (wx_le (by decide)) hNs
  have hg := hg.tr g16 (by decide)
  rw [← g16.1 108 (by decide)]
  refine mv_putRF (pc := 162) (ci := 12) (C := R_Book) (T := F_Book) (N := 65) (o := 108) (r := 124) B 32 rfl rfl (by decide) i_Book t_Book_ok n_Book (B.2.2.2.1 _ k_1878) rfl hnm rfl rfl d_Book_init_162 ?_
  have hok := hok.sr (o := 108) (k := 32) (r := 124) (by decide)
  refine mv_aload_n (pc := 165) B d_Book_init_165 rfl 0 rfl ?_
  refine mv_sipush (pc := 166) (v := 4100) B d_Book_init_166 (by decide) ?_
  refine mq_newa (pc := 169) (ty := .int) (N := 4100) (n2 := 126) B rfl (by decide) rfl hok (B.2.2.2.1 _ k_87) rfl (Or.inl rfl) (by decide) (by decide) (by decide) (Nat.le_of_ble_eq_true rfl) (Nat.le_of_ble_eq_true rfl) d_Book_init_169 (fun al17 g17 B => ?_)
  have hok := hok.nw
  have hNs := mq_K (mKt_ok sk sv) g17 (by decide) (wx_le (by decide)) hNs
  have hg := hg.tr g17 (by decide)
  rw [← g17.1 108 (by decide)]
  refine mv_putRF (pc := 171) (ci := 12) (C := R_Book) (T := F_Book) (N := 65) (o := 108) (r := 125) B 33 rfl rfl (by decide) i_Book t_Book_ok n_Book (B.2.2.2.1 _ k_1879) rfl hnm rfl rfl d_Book_init_171 ?_
  have hok := hok.sr (o := 108) (k := 33) (r := 125) (by decide)
  refine mv_aload_n (pc := 174) B d_Book_init_174 rfl 0 rfl ?_
  refine mv_sipush (pc := 175) (v := 4100) B d_Book_init_175 (by decide) ?_
  refine mq_newa (pc := 178) (ty := .int) (N := 4100) (n2 := 127) B rfl (by decide) rfl hok (B.2.2.2.1 _ k_87) rfl (Or.inl rfl) (by decide) (by decide) (by decide) (Nat.le_of_ble_eq_true rfl) (Nat.le_of_ble_eq_true rfl) d_Book_init_178 (fun al18 g18 B => ?_)
  have hok := hok.nw
  have hNs := mq_K (mKt_ok sk sv) g18 (by decide) (wx_le (by decide)) hNs
  have hg := hg.tr g18 (by decide)
  rw [← g18.1 108 (by decide)]
  refine mv_putRF (pc := 180) (ci := 12) (C := R_Book) (T := F_Book) (N := 65) (o := 108) (r := 126) B 34 rfl rfl (by decide) i_Book t_Book_ok n_Book (B.2.2.2.1 _ k_1880) rfl hnm rfl rfl d_Book_init_180 ?_
  have hok := hok.sr (o := 108) (k := 34) (r := 126) (by decide)
  refine mv_aload_n (pc := 183) B d_Book_init_183 rfl 0 rfl ?_
  refine mv_ldc (pc := 184) (v := 33000) B (B.2.2.2.1 _ k_1841) d_Book_init_184 ?_
  refine mq_newa (pc := 186) (ty := .int) (N := 33000) (n2 := 128) B rfl (by decide) rfl hok (B.2.2.2.1 _ k_87) rfl (Or.inl rfl) (by decide) (by decide) (by decide) (Nat.le_of_ble_eq_true rfl) (Nat.le_of_ble_eq_true rfl) d_Book_init_186 (fun al19 g19 B => ?_)
  have hok := hok.nw
  have hNs := mq_K (mKt_ok sk sv) g19 (by decide) (wx_le (by decide)) hNs
  have hg := hg.tr g19 (by decide)
  rw [← g19.1 108 (by decide)]
  refine mv_putRF (pc := 188) (ci := 12) (C := R_Book) (T := F_Book) (N := 65) (o := 108) (r := 127) B 40 rfl rfl (by decide) i_Book t_Book_ok n_Book (B.2.2.2.1 _ k_1889) rfl hnm rfl rfl d_Book_init_188 ?_
  have hok := hok.sr (o := 108) (k := 40) (r := 127) (by decide)
  refine mv_aload_n (pc := 191) B d_Book_init_191 rfl 0 rfl ?_
  refine mv_ldc (pc := 192) (v := 33000) B (B.2.2.2.1 _ k_1841) d_Book_init_192 ?_
  refine mq_newa (pc := 194) (ty := .int) (N := 33000) (n2 := 129) B rfl (by decide) rfl hok (B.2.2.2.1 _ k_87) rfl (Or.inl rfl) (by decide) (by decide) (by decide) (Nat.le_of_ble_eq_true rfl) (Nat.le_of_ble_eq_true rfl) d_Book_init_194 (fun al20 g20 B => ?_)
  have hok := hok.nw
  have hNs := mq_K (mKt_ok sk sv) g20 (by decide) (wx_le (by decide)) hNs
  have hg := hg.tr g20 (by decide)
  rw [← g20.1 108 (by decide)]
  refine mv_putRF (pc := 196) (ci := 12) (C := R_Book) (T := F_Book) (N := 65) (o := 108) (r := 128) B 41 rfl rfl (by decide) i_Book t_Book_ok n_Book (B.2.2.2.1 _ k_1890) rfl hnm rfl rfl d_Book_init_196 ?_
  have hok := hok.sr (o := 108) (k := 41) (r := 128) (by decide)
  refine mv_aload_n (pc := 199) B d_Book_init_199 rfl 0 rfl ?_
  refine mv_ldc (pc := 200) (v := 33000) B (B.2.2.2.1 _ k_1841) d_Book_init_200 ?_
  refine mq_newa (pc := 202) (ty := .int) (N := 33000) (n2 := 130) B rfl (by decide) rfl hok (B.2.2.2.1 _ k_87) rfl (Or.inl rfl) (by decide) (by decide) (by decide) (Nat.le_of_ble_eq_true rfl) (Nat.le_of_ble_eq_true rfl) d_Book_init_202 (fun al21 g21 B => ?_)
  have hok := hok.nw
  have hNs := mq_K (mKt_ok sk sv) g21 (by decide) (wx_le (by decide)) hNs
  have hg := hg.tr g21 (by decide)
  rw [← g21.1 108 (by decide)]
  refine mv_putRF (pc := 204) (ci := 12) (C := R_Book) (T := F_Book) (N := 65) (o := 108) (r := 129) B 42 rfl rfl (by decide) i_Book t_Book_ok n_Book (B.2.2.2.1 _ k_1891) rfl hnm rfl rfl d_Book_init_204 ?_
  have hok := hok.sr (o := 108) (k := 42) (r := 129) (by decide)
  refine mv_aload_n (pc := 207) B d_Book_init_207 rfl 0 rfl ?_
  refine mv_ldc (pc := 208) (v := 33000) B (B.2.2.2.1 _ k_1841) d_Book_init_208 ?_
  refine mq_newa (pc := 210) (ty := .int) (N := 33000) (n2 := 131) B rfl (by decide) rfl hok (B.2.2.2.1 _ k_87) rfl (Or.inl rfl) (by decide) (by decide) (by decide) (Nat.le_of_ble_eq_true rfl) (Nat.le_of_ble_eq_true rfl) d_Book_init_210 (fun al22 g22 B => ?_)
  have hok := hok.nw
  have hNs := mq_K (mKt_ok sk sv) g22 (by decide) (wx_le (by decide)) hNs
  have hg := hg.tr g22 (by decide)
  rw [← g22.1 108 (by decide)]
  refine mv_putRF (pc := 212) (ci := 12) (C := R_Book) (T := F_Book) (N := 65) (o := 108) (r := 130) B 43 rfl rfl (by decide) i_Book t_Book_ok n_Book (B.2.2.2.1 _ k_1892) rfl hnm rfl rfl d_Book_init_212 ?_
  have hok := hok.sr (o := 108) (k := 43) (r := 130) (by decide)
  refine mv_aload_n (pc := 215) B d_Book_init_215 rfl 0 rfl ?_
  refine mv_ldc (pc := 216) (v := 33000) B (B.2.2.2.1 _ k_1841) d_Book_init_216 ?_
  refine mq_newa (pc := 218) (ty := .int) (N := 33000) (n2 := 132) B rfl (by decide) rfl hok (B.2.2.2.1 _ k_87) rfl (Or.inl rfl) (by decide) (by decide) (by decide) (Nat.le_of_ble_eq_true rfl) (Nat.le_of_ble_eq_true rfl) d_Book_init_218 (fun al23 g23 B => ?_)
  have hok := hok.nw
  have hNs := mq_K (mKt_ok sk sv) g23 (by decide) (wx_le (by decide)) hNs
  have hg := hg.tr g23 (by decide)
  rw [← g23.1 108 (by decide)]
  refine mv_putRF (pc := 220) (ci := 12) (C := R_Book) (T := F_Book) (N := 65) (o := 108) (r := 131) B 44 rfl rfl (by decide) i_Book t_Book_ok n_Book (B.2.2.2.1 _ k_1893) rfl hnm rfl rfl d_Book_init_220 ?_
  have hok := hok.sr (o := 108) (k := 44) (r := 131) (by decide)
  refine mv_aload_n (pc := 223) B d_Book_init_223 rfl 0 rfl ?_
  refine mv_ldc (pc := 224) (v := 33000) B (B.2.2.2.1 _ k_1841) d_Book_init_224 ?_
  refine mq_newa (pc := 226) (ty := .int) (N := 33000) (n2 := 133) B rfl (by decide) rfl hok (B.2.2.2.1 _ k_87) rfl (Or.inl rfl) (by decide) (by decide) (by decide) (Nat.le_of_ble_eq_true rfl) (Nat.le_of_ble_eq_true rfl) d_Book_init_226 (fun al24 g24 B => ?_)
  have hok := hok.nw
  have hNs := mq_K (mKt_ok sk sv) g24 (by decide) (wx_le (by decide)) hNs
  have hg := hg.tr g24 (by decide)
  rw [← g24.1 108 (by decide)]
  refine mv_putRF (pc := 228) (ci := 12) (C := R_Book) (T := F_Book) (N := 65) (o := 108) (r := 132) B 45 rfl rfl (by decide) i_Book t_Book_ok n_Book (B.2.2.2.1 _ k_1894) rfl hnm rfl rfl d_Book_init_228 ?_
  have hok := hok.sr (o := 108) (k := 45) (r := 132) (by decide)
  refine mv_aload_n (pc := 231) B d_Book_init_231 rfl 0 rfl ?_
  refine mv_ldc (pc := 232) (v := 33000) B (B.2.2.2.1 _ k_1841) d_Book_init_232 ?_
  refine mq_newa (pc := 234) (ty := .long) (N := 33000) (n2 := 134) B rfl (by decide) rfl hok (B.2.2.2.1 _ k_88) rfl (Or.inr (Or.inl rfl)) (by decide) (by decide) (by decide) (Nat.le_of_ble_eq_true rfl) (Nat.le_of_ble_eq_true rfl) d_Book_init_234 (fun al25 g25 B => ?_)
  have hok := hok.nw
  have hNs := mq_K (mKt_ok sk sv) g25 (by decide) (wx_le (by decide)) hNs
  have hg := hg.tr g25 (by decide)
  rw [← g25.1 108 (by decide)]
  refine mv_putRF (pc := 236) (ci := 12) (C := R_Book) (T := F_Book) (N := 65) (o := 108) (r := 133) B 46 rfl rfl (by decide) i_Book t_Book_ok n_Book (B.2.2.2.1 _ k_1895) rfl hnm rfl rfl d_Book_init_236 ?_
  have hok := hok.sr (o := 108) (k := 46) (r := 133) (by decide)
  refine mv_aload_n (pc := 239) B d_Book_init_239 rfl 0 rfl ?_
  refine mv_ldc (pc := 240) (v := 33000) B (B.2.2.2.1 _ k_1841) d_Book_init_240 ?_
  refine mq_newa (pc := 242) (ty := .boolean) (N := 33000) (n2 := 135) B rfl (by decide) rfl hok (B.2.2.2.1 _ k_310) rfl (Or.inr (Or.inr (Or.inr rfl))) (by decide) (by decide) (by decide) (Nat.le_of_ble_eq_true rfl) (Nat.le_of_ble_eq_true rfl) d_Book_init_242 (fun al26 g26 B => ?_)
  have hok := hok.nw
  have hNs := mq_K (mKt_ok sk sv) g26 (by decide) (wx_le (by decide)) hNs
  have hg := hg.tr g26 (by decide)
  rw [← g26.1 108 (by decide)]
  refine mv_putRF (pc := 244) (ci := 12) (C := R_Book) (T := F_Book) (N := 65) (o := 108) (r := 134) B 47 rfl rfl (by decide) i_Book t_Book_ok n_Book (B.2.2.2.1 _ k_1896) rfl hnm rfl rfl d_Book_init_244 ?_
  have hok := hok.sr (o := 108) (k := 47) (r := 134) (by decide)
  refine mv_aload_n (pc := 247) B d_Book_init_247 rfl 0 rfl ?_
  refine mv_sipush (pc := 248) (v := 4100) B d_Book_init_248 (by decide) ?_
  refine mq_newa (pc := 251) (ty := .long) (N := 4100) (n2 := 136) B rfl (by decide) rfl hok (B.2.2.2.1 _ k_88) rfl (Or.inr (Or.inl rfl)) (by decide) (by decide) (by decide) (Nat.le_of_ble_eq_true rfl) (Nat.le_of_ble_eq_true rfl) d_Book_init_251 (fun al27 g27 B => ?_)
  have hok := hok.nw
  have hNs := mq_K (mKt_ok sk sv) g27 (by decide) (wx_le (by decide)) hNs
  have hg := hg.tr g27 (by decide)
  rw [← g27.1 108 (by decide)]
  refine mv_putRF (pc := 253) (ci := 12) (C := R_Book) (T := F_Book) (N := 65) (o := 108) (r := 135) B 54 rfl rfl (by decide) i_Book t_Book_ok n_Book (B.2.2.2.1 _ k_1903) rfl hnm rfl rfl d_Book_init_253 ?_
  have hok := hok.sr (o := 108) (k := 54) (r := 135) (by decide)
  refine mv_aload_n (pc := 256) B d_Book_init_256 rfl 0 rfl ?_
  refine mv_sipush (pc := 257) (v := 4100) B d_Book_init_257 (by decide) ?_
  refine mq_newa (pc := 260) (ty := .long) (N := 4100) (n2 := 137) B rfl (by decide) rfl hok (B.2.2.2.1 _ k_88) rfl (Or.inr (Or.inl rfl)) (by decide) (by decide) (by decide) (Nat.le_of_ble_eq_true rfl) (Nat.le_of_ble_eq_true rfl) d_Book_init_260 (fun al28 g28 B => ?_)
  have hok := hok.nw
  have hNs := mq_K (mKt_ok sk sv) g28 (by decide) (wx_le (by decide)) hNs
  have hg := hg.tr g28 (by decide)
  rw [← g28.1 108 (by decide)]
  refine mv_putRF (pc := 262) (ci := 12) (C := R_Book) (T := F_Book) (N := 65) (o := 108) (r := 136) B 55 rfl rfl (by decide) i_Book t_Book_ok n_Book (B.2.2.2.1 _ k_1904) rfl hnm rfl rfl d_Book_init_262 ?_
  have hok := hok.sr (o := 108) (k := 55) (r := 136) (by decide)
  refine mv_aload_n (pc := 265) B d_Book_init_265 rfl 0 rfl ?_
  refine mv_ldc (pc := 266) (v := 65536) B (B.2.2.2.1 _ k_1842) d_Book_init_266 ?_
  refine mq_newa (pc := 268) (ty := .long) (N := 65536) (n2 := 138) B rfl (by decide) rfl hok (B.2.2.2.1 _ k_88) rfl (Or.inr (Or.inl rfl)) (by decide) (by decide) (by decide) (Nat.le_of_ble_eq_true rfl) (Nat.le_of_ble_eq_true rfl) d_Book_init_268 (fun al29 g29 B => ?_)
  have hok := hok.nw
  have hNs := mq_K (mKt_ok sk sv) g29 (by decide) (wx_le (by decide)) hNs
  have hg := hg.tr g29 (by decide)
  rw [← g29.1 108 (by decide)]
  refine mv_putRF (pc := 270) (ci := 12) (C := R_Book) (T := F_Book) (N := 65) (o := 108) (r := 137) B 56 rfl rfl (by decide) i_Book t_Book_ok n_Book (B.2.2.2.1 _ k_1905) rfl hnm rfl rfl d_Book_init_270 ?_
  have hok := hok.sr (o := 108) (k := 56) (r := 137) (by decide)
  refine mv_aload_n (pc := 273) B d_Book_init_273 rfl 0 rfl ?_
  refine mv_sipush (pc := 274) (v := 12000) B d_Book_init_274 (by decide) ?_
  refine mq_newa (pc := 277) (ty := .int) (N := 12000) (n2 := 139) B rfl (by decide) rfl hok (B.2.2.2.1 _ k_87) rfl (Or.inl rfl) (by decide) (by decide) (by decide) (Nat.le_of_ble_eq_true rfl) (Nat.le_of_ble_eq_true rfl) d_Book_init_277 (fun al30 g30 B => ?_)
  have hok := hok.nw
  have hNs := mq_K (mKt_ok sk sv) g30 (by decide) (wx_le (by decide)) hNs
  have hg := hg.tr g30 (by decide)
  rw [← g30.1 108 (by decide)]
  refine mv_putRF (pc := 279) (ci := 12) (C := R_Book) (T := F_Book) (N := 65) (o := 108) (r := 138) B 57 rfl rfl (by decide) i_Book t_Book_ok n_Book (B.2.2.2.1 _ k_1906) rfl hnm rfl rfl d_Book_init_279 ?_
  have hok := hok.sr (o := 108) (k := 57) (r := 138) (by decide)
  refine mv_aload_n (pc := 282) B d_Book_init_282 rfl 0 rfl ?_
  refine mv_sipush (pc := 283) (v := 12000) B d_Book_init_283 (by decide) ?_
  refine mq_newa (pc := 286) (ty := .int) (N := 12000) (n2 := 140) B rfl (by decide) rfl hok (B.2.2.2.1 _ k_87) rfl (Or.inl rfl) (by decide) (by decide) (by decide) (Nat.le_of_ble_eq_true rfl) (Nat.le_of_ble_eq_true rfl) d_Book_init_286 (fun al31 g31 B => ?_)
  have hok := hok.nw
  have hNs := mq_K (mKt_ok sk sv) g31 (by decide) (wx_le (by decide)) hNs
  have hg := hg.tr g31 (by decide)
  rw [← g31.1 108 (by decide)]
  refine mv_putRF (pc := 288) (ci := 12) (C := R_Book) (T := F_Book) (N := 65) (o := 108) (r := 139) B 58 rfl rfl (by decide) i_Book t_Book_ok n_Book (B.2.2.2.1 _ k_1907) rfl hnm rfl rfl d_Book_init_288 ?_
  have hok := hok.sr (o := 108) (k := 58) (r := 139) (by decide)
  refine mv_aload_n (pc := 291) B d_Book_init_291 rfl 0 rfl ?_
  refine mv_ldc (pc := 292) (v := 33000) B (B.2.2.2.1 _ k_1841) d_Book_init_292 ?_
  refine mq_newa (pc := 294) (ty := .int) (N := 33000) (n2 := 141) B rfl (by decide) rfl hok (B.2.2.2.1 _ k_87) rfl (Or.inl rfl) (by decide) (by decide) (by decide) (Nat.le_of_ble_eq_true rfl) (Nat.le_of_ble_eq_true rfl) d_Book_init_294 (fun al32 g32 B => ?_)
  have hok := hok.nw
  have hNs := mq_K (mKt_ok sk sv) g32 (by decide) (wx_le (by decide)) hNs
  have hg := hg.tr g32 (by decide)
  rw [← g32.1 108 (by decide)]
  refine mv_putRF (pc := 296) (ci := 12) (C := R_Book) (T := F_Book) (N := 65) (o := 108) (r := 140) B 59 rfl rfl (by decide) i_Book t_Book_ok n_Book (B.2.2.2.1 _ k_1908) rfl hnm rfl rfl d_Book_init_296 ?_
  have hok := hok.sr (o := 108) (k := 59) (r := 140) (by decide)
  refine mv_aload_n (pc := 299) B d_Book_init_299 rfl 0 rfl ?_
  refine mv_sipush (pc := 300) (v := 12000) B d_Book_init_300 (by decide) ?_
  refine mq_newa (pc := 303) (ty := .long) (N := 12000) (n2 := 142) B rfl (by decide) rfl hok (B.2.2.2.1 _ k_88) rfl (Or.inr (Or.inl rfl)) (by decide) (by decide) (by decide) (Nat.le_of_ble_eq_true rfl) (Nat.le_of_ble_eq_true rfl) d_Book_init_303 (fun al33 g33 B => ?_)
  have hok := hok.nw
  have hNs := mq_K (mKt_ok sk sv) g33 (by decide) (wx_le (by decide)) hNs
  have hg := hg.tr g33 (by decide)
  rw [← g33.1 108 (by decide)]
  refine mv_putRF (pc := 305) (ci := 12) (C := R_Book) (T := F_Book) (N := 65) (o := 108) (r := 141) B 60 rfl rfl (by decide) i_Book t_Book_ok n_Book (B.2.2.2.1 _ k_1909) rfl hnm rfl rfl d_Book_init_305 ?_
  have hok := hok.sr (o := 108) (k := 60) (r := 141) (by decide)
  refine mq_perm (w8 := mw) (π := pmB 108) (πi := piB 108) B (mv_pm (pmB 108) (piB 108) _) (mw_le (by decide)) (wx_le (by decide)) (wx_at (B := 108) (by decide) rfl) (fun k hk => pmB_lt hk) (fun k hk => piB_lt hk) (pmB_pi 108) (fun r _ => piB_pm 108 r) (fun o _ => mv_pm_at _ _ _ o) (fun B => ?_)
  exact mq_vret (pc := 308) B hr d_Book_init_308 (Nat.le_of_ble_eq_true rfl) (Nat.le_of_ble_eq_true rfl) (mq_pgr hg (fun k hk => pmB_fix hk) (fun k hk => pmB_lt hk) (piB_pm 108)) ⟨rfl, rfl⟩
def y_Model_init : MethodName := ⟨"MachineLoomModel", "<init>", "()V"⟩
abbrev b_Model_init : ByteArray := prog_14_method_1_code
theorem kc_Model_init : Cond.code y_Model_init b_Model_init 1 (Option.none : Option Jvm.ClassFile.FieldType) ∈ ma := ma_of (tb_8 _ (List.mem_of_getElem? (i := 133) rfl)) rfl
theorem k_1814 : (Jvm.Cond.methodLink "MachineLoomModel" (1 : Nat) ({ cls := "java/lang/Object", name := "<init>", desc := "()V" } : Jvm.MethodName)) ∈ ma := ma_of (tb_8 _ (List.mem_of_getElem? (i := 134) rfl)) rfl
theorem k_1816 : (Jvm.Cond.classLink "MachineLoomModel" (28 : Nat) "MachineLoomModel$Book") ∈ ma := ma_of (tb_8 _ (List.mem_of_getElem? (i := 136) rfl)) rfl
theorem k_1817 : (Jvm.Cond.instantiable "MachineLoomModel$Book" (65 : Nat)) ∈ ma := ma_of (tb_8 _ (List.mem_of_getElem? (i := 137) rfl)) rfl
theorem k_1819 : (Jvm.Cond.instanceMethod ({ cls := "MachineLoomModel$Book", name := "<init>", desc := "()V" } : Jvm.MethodName)) ∈ ma := ma_of (tb_8 _ (List.mem_of_getElem? (i := 139) rfl)) rfl
theorem d_Model_init_0 : decode b_Model_init 0 = .ok (.aload_n 0, 1) := by decide +kernel
theorem d_Model_init_1 : decode b_Model_init 1 = .ok (.invokespecial 1, 3) := by decide +kernel
theorem d_Model_init_4 : decode b_Model_init 4 = .ok (.aload_n 0, 1) := by decide +kernel
theorem d_Model_init_5 : decode b_Model_init 5 = .ok (.ldc 7, 2) := by decide +kernel
theorem d_Model_init_7 : decode b_Model_init 7 = .ok (.newarray .byte, 2) := by decide +kernel
theorem d_Model_init_9 : decode b_Model_init 9 = .ok (.putfield 8, 3) := by decide +kernel
theorem d_Model_init_12 : decode b_Model_init 12 = .ok (.aload_n 0, 1) := by decide +kernel
theorem d_Model_init_13 : decode b_Model_init 13 = .ok (.iconst (-1), 1) := by decide +kernel
theorem d_Model_init_14 : decode b_Model_init 14 = .ok (.putfield 14, 3) := by decide +kernel
theorem d_Model_init_17 : decode b_Model_init 17 = .ok (.aload_n 0, 1) := by decide +kernel
theorem d_Model_init_18 : decode b_Model_init 18 = .ok (.iconst (-1), 1) := by decide +kernel
theorem d_Model_init_19 : decode b_Model_init 19 = .ok (.putfield 18, 3) := by decide +kernel
theorem d_Model_init_22 : decode b_Model_init 22 = .ok (.aload_n 0, 1) := by decide +kernel
theorem d_Model_init_23 : decode b_Model_init 23 = .ok (.bipush 32, 2) := by decide +kernel
theorem d_Model_init_25 : decode b_Model_init 25 = .ok (.newarray .int, 2) := by decide +kernel
theorem d_Model_init_27 : decode b_Model_init 27 = .ok (.putfield 21, 3) := by decide +kernel
theorem d_Model_init_30 : decode b_Model_init 30 = .ok (.aload_n 0, 1) := by decide +kernel
theorem d_Model_init_31 : decode b_Model_init 31 = .ok (.ldc 7, 2) := by decide +kernel
theorem d_Model_init_33 : decode b_Model_init 33 = .ok (.newarray .byte, 2) := by decide +kernel
theorem d_Model_init_35 : decode b_Model_init 35 = .ok (.putfield 25, 3) := by decide +kernel
theorem d_Model_init_38 : decode b_Model_init 38 = .ok (.aload_n 0, 1) := by decide +kernel
theorem d_Model_init_39 : decode b_Model_init 39 = .ok (.new 28, 3) := by decide +kernel
theorem d_Model_init_42 : decode b_Model_init 42 = .ok (.dup, 1) := by decide +kernel
theorem d_Model_init_43 : decode b_Model_init 43 = .ok (.invokespecial 30, 3) := by decide +kernel
theorem d_Model_init_46 : decode b_Model_init 46 = .ok (.putfield 31, 3) := by decide +kernel
theorem d_Model_init_49 : decode b_Model_init 49 = .ok (.aload_n 0, 1) := by decide +kernel
theorem d_Model_init_50 : decode b_Model_init 50 = .ok (.new 28, 3) := by decide +kernel
theorem d_Model_init_53 : decode b_Model_init 53 = .ok (.dup, 1) := by decide +kernel
theorem d_Model_init_54 : decode b_Model_init 54 = .ok (.invokespecial 30, 3) := by decide +kernel
theorem d_Model_init_57 : decode b_Model_init 57 = .ok (.putfield 35, 3) := by decide +kernel
theorem d_Model_init_60 : decode b_Model_init 60 = .ok (.return_, 1) := by decide +kernel
def sg_Model (σ : mv_H) : mv_H := (mv_sr (sg_Book_y (mv_nw (mv_sr (sg_Book_x (mv_nw (mv_sr (mv_nw (mv_sr (mv_nw (mv_si (mv_si (mv_sr (mv_nw σ 71) 70 0 (some 71)) 70 4 (-1)) 70 5 (-1)) 72) 70 7 (some 72)) 73) 70 8 (some 73)) 74)) 70 9 (some 74)) 108)) 70 10 (some 108))
theorem ok_Model {σ : mv_H} (hok : mv_ok σ 71) : mv_ok (sg_Model σ) 142 := by
  have hok := hok.nw
  have hok := hok.sr (o := 70) (k := 0) (r := 71) (by decide)
  have hok := mv_ok.r (σ := (mv_sr (mv_nw σ 71) 70 0 (some 71))) (τ := (mv_si (mv_sr (mv_nw σ 71) 70 0 (some 71)) 70 4 (-1))) hok rfl
  have hok := mv_ok.r (σ := (mv_si (mv_sr (mv_nw σ 71) 70 0 (some 71)) 70 4 (-1))) (τ := (mv_si (mv_si (mv_sr (mv_nw σ 71) 70 0 (some 71)) 70 4 (-1)) 70 5 (-1))) hok rfl
  have hok := hok.nw
  have hok := hok.sr (o := 70) (k := 7) (r := 72) (by decide)
  have hok := hok.nw
  have hok := hok.sr (o := 70) (k := 8) (r := 73) (by decide)
  have hok := hok.nw
  have hok := ok_Book_x hok
  have hok := hok.sr (o := 70) (k := 9) (r := 74) (by decide)
  have hok := hok.nw
  have hok := ok_Book_y hok
  have hok := hok.sr (o := 70) (k := 10) (r := 108) (by decide)
  exact hok
theorem kb_Model {σ : mv_H} (h0 : mv_ok σ 71) (hgh : gh σ) : Kpb 70 σ (sg_Model σ) := by
  have hok := h0
  have hk : Kpb 70 σ σ := Kpb.rf
  have hk := hk.nw (m := 71) (by decide)
  have hok := hok.nw
  have hk := hk.sr (a := 70) (k := 0) (v := some 71) (by decide)
  have hok := hok.sr (o := 70) (k := 0) (r := 71) (by decide)
  have hk := hk.si (a := 70) (k := 4) (v := -1) (by decide)
  have hok := mv_ok.r (σ := (mv_sr (mv_nw σ 71) 70 0 (some 71))) (τ := (mv_si (mv_sr (mv_nw σ 71) 70 0 (some 71)) 70 4 (-1))) hok rfl
  have hk := hk.si (a := 70) (k := 5) (v := -1) (by decide)
  have hok := mv_ok.r (σ := (mv_si (mv_sr (mv_nw σ 71) 70 0 (some 71)) 70 4 (-1))) (τ := (mv_si (mv_si (mv_sr (mv_nw σ 71) 70 0 (some 71)) 70 4 (-1)) 70 5 (-1))) hok rfl
  have hk := hk.nw (m := 72) (by decide)
  have hok := hok.nw
  have hk := hk.sr (a := 70) (k := 7) (v := some 72) (by decide)
  have hok := hok.sr (o := 70) (k := 7) (r := 72) (by decide)
  have hk := hk.nw (m := 73) (by decide)
  have hok := hok.nw
  have hk := hk.sr (a := 70) (k := 8) (v := some 73) (by decide)
  have hok := hok.sr (o := 70) (k := 8) (r := 73) (by decide)
  have hk := hk.nw (m := 74) (by decide)
  have hok := hok.nw
  have hk := hk.tr2 (kb_Book_x hok (hgh.kb hk)) (by decide)
  have hok := ok_Book_x hok
  have hk := hk.sr (a := 70) (k := 9) (v := some 74) (by decide)
  have hok := hok.sr (o := 70) (k := 9) (r := 74) (by decide)
  have hk := hk.nw (m := 108) (by decide)
  have hok := hok.nw
  have hk := hk.tr2 (kb_Book_y hok (hgh.kb hk)) (by decide)
  have hok := ok_Book_y hok
  have hk := hk.sr (a := 70) (k := 10) (v := some 108) (by decide)
  have hok := hok.sr (o := 70) (k := 10) (r := 108) (by decide)
  exact hk
set_option maxHeartbeats 4000000 in
set_option maxRecDepth 100000 in
theorem nc_Model (l : Launch) {dA : FieldType → ClassId} {D : va_G} {al : Nat → Nat} {sk sv : Nat → Nat} (hi : mv_inj (mq dA D al 71)) (hlt : l.stackTraces = false) (σ : mv_H) (hok : mv_ok σ 71) : mv_CN l y_Model_init (Cond.code y_Model_init b_Model_init 1 (Option.none : Option Jvm.ClassFile.FieldType) :: ma) ({ frames := 7, cells := 71, slots := 1075920, locals := 110 }) dA D al 71 142 (mKt sk sv) [.ref (al 70)] σ (fun v9 σ9 => v9 = none ∧ σ9 = sg_Model σ) := by
  refine mv_CN.ofV (cc := b_Model_init) (nL := 1) (ret := (Option.none : Option Jvm.ClassFile.FieldType)) (by decide +kernel) rfl hi (Nat.le_of_ble_eq_true rfl) ?_
  intro p e s m args below meth c B hNs hr hnm hno
  have hg : mq_gr al al 71 71 s.heap.size := mq_gr.rf
  refine mv_aload_n (pc := 0) B d_Model_init_0 rfl 0 rfl ?_
  refine mv_obj (pc := 1) B (B.2.2.2.1 _ k_1814) (B.2.2.2.1 _ k_43) (B.2.2.2.1 _ k_44) d_Model_init_1 (Nat.le_of_ble_eq_true rfl) ⟨by decide, by decide⟩ ?_
  refine mv_aload_n (pc := 4) B d_Model_init_4 rfl 0 rfl ?_
  refine mv_ldc (pc := 5) (v := 32768) B (B.2.2.2.1 _ k_1815) d_Model_init_5 ?_
  refine mq_newa (pc := 7) (ty := .byte) (N := 32768) (n2 := 72) B rfl (by decide) rfl hok (B.2.2.2.1 _ k_86) rfl (Or.inr (Or.inr (Or.inl rfl))) (by decide) (by decide) (by decide) (Nat.le_of_ble_eq_true rfl) (Nat.le_of_ble_eq_true rfl) d_Model_init_7 (fun al1 g1 B => ?_)
  have hok := hok.nw
  have hNs := mq_K (mKt_ok sk sv) g1 (by decide) (mw_le (by decide)) hNs
  have hg := hg.tr g1 (by decide)
  rw [← g1.1 70 (by decide)]
  refine mv_putRF (pc := 9) (ci := 11) (C := R_Model) (T := F_Model) (N := 16) (o := 70) (r := 71) B 0 rfl rfl (by decide) i_Model t_Model_ok n_Model (B.2.2.2.1 _ k_2045) rfl hnm rfl rfl d_Model_init_9 ?_
  have hok := hok.sr (o := 70) (k := 0) (r := 71) (by decide)
  refine mv_aload_n (pc := 12) B d_Model_init_12 rfl 0 rfl ?_
  refine mv_iconst (pc := 13) (v := -1) B d_Model_init_13 (by decide) ?_
  refine mv_putI (pc := 14) (ci := 11) (C := R_Model) (T := F_Model) (N := 16) (o := 70) B 4 rfl rfl (by decide) i_Model t_Model_ok n_Model (B.2.2.2.1 _ k_2049) rfl rfl rfl rfl d_Model_init_14 ?_
  have hok := mv_ok.r (σ := (mv_sr (mv_nw σ 71) 70 0 (some 71))) (τ := (mv_si (mv_sr (mv_nw σ 71) 70 0 (some 71)) 70 4 (-1))) hok rfl
  refine mv_aload_n (pc := 17) B d_Model_init_17 rfl 0 rfl ?_
  refine mv_iconst (pc := 18) (v := -1) B d_Model_init_18 (by decide) ?_
  refine mv_putI (pc := 19) (ci := 11) (C := R_Model) (T := F_Model) (N := 16) (o := 70) B 5 rfl rfl (by decide) i_Model t_Model_ok n_Model (B.2.2.2.1 _ k_2050) rfl rfl rfl rfl d_Model_init_19 ?_
  have hok := mv_ok.r (σ := (mv_si (mv_sr (mv_nw σ 71) 70 0 (some 71)) 70 4 (-1))) (τ := (mv_si (mv_si (mv_sr (mv_nw σ 71) 70 0 (some 71)) 70 4 (-1)) 70 5 (-1))) hok rfl
  refine mv_aload_n (pc := 22) B d_Model_init_22 rfl 0 rfl ?_
  refine mv_bipush (pc := 23) (v := 32) B d_Model_init_23 (by decide) ?_
  refine mq_newa (pc := 25) (ty := .int) (N := 32) (n2 := 73) B rfl (by decide) rfl hok (B.2.2.2.1 _ k_87) rfl (Or.inl rfl) (by decide) (by decide) (by decide) (Nat.le_of_ble_eq_true rfl) (Nat.le_of_ble_eq_true rfl) d_Model_init_25 (fun al2 g2 B => ?_)
  have hok := hok.nw
  have hNs := mq_K (mKt_ok sk sv) g2 (by decide) (mw_le (by decide)) hNs
  have hg := hg.tr g2 (by decide)
  rw [← g2.1 70 (by decide)]
  refine mv_putRF (pc := 27) (ci := 11) (C := R_Model) (T := F_Model) (N := 16) (o := 70) (r := 72) B 7 rfl rfl (by decide) i_Model t_Model_ok n_Model (B.2.2.2.1 _ k_2052) rfl hnm rfl rfl d_Model_init_27 ?_
  have hok := hok.sr (o := 70) (k := 7) (r := 72) (by decide)
  refine mv_aload_n (pc := 30) B d_Model_init_30 rfl 0 rfl ?_
  refine mv_ldc (pc := 31) (v := 32768) B (B.2.2.2.1 _ k_1815) d_Model_init_31 ?_
  refine mq_newa (pc := 33) (ty := .byte) (N := 32768) (n2 := 74) B rfl (by decide) rfl hok (B.2.2.2.1 _ k_86) rfl (Or.inr (Or.inr (Or.inl rfl))) (by decide) (by decide) (by decide) (Nat.le_of_ble_eq_true rfl) (Nat.le_of_ble_eq_true rfl) d_Model_init_33 (fun al3 g3 B => ?_)
  have hok := hok.nw
  have hNs := mq_K (mKt_ok sk sv) g3 (by decide) (mw_le (by decide)) hNs
  have hg := hg.tr g3 (by decide)
  rw [← g3.1 70 (by decide)]
  refine mv_putRF (pc := 35) (ci := 11) (C := R_Model) (T := F_Model) (N := 16) (o := 70) (r := 73) B 8 rfl rfl (by decide) i_Model t_Model_ok n_Model (B.2.2.2.1 _ k_2053) rfl hnm rfl rfl d_Model_init_35 ?_
  have hok := hok.sr (o := 70) (k := 8) (r := 73) (by decide)
  refine mv_aload_n (pc := 38) B d_Model_init_38 rfl 0 rfl ?_
  refine mq_new (pc := 39) (ci := 12) (C := R_Book) (T := F_Book) (N := 65) (n2 := 75) B rfl (by decide) rfl hok rfl i_Book t_Book_ok (by decide) (B.2.2.2.1 _ k_1816) (B.2.2.2.1 _ k_1817) (B.2.2.2.1 _ k_13) (Nat.le_of_ble_eq_true rfl) (Nat.le_of_ble_eq_true rfl) d_Model_init_39 (fun al4 g4 B => ?_)
  have hok := hok.nw
  have hNs := mq_K (mKt_ok sk sv) g4 (by decide) (mw_le (by decide)) hNs
  have hg := hg.tr g4 (by decide)
  rw [← g4.1 70 (by decide)]
  refine mv_dup (pc := 42) B d_Model_init_42 rfl ?_
  refine mq_callIN (pc := 43) (na := 0) B (mKt_ok sk sv) hNs (by decide) (by decide) (nc_Book_x l B.2.2.2.2.2.1 hlt _ hok) rfl (ma_goodc kc_Book_init) (va_Nw.use rfl (hNs.1.1 _ (List.mem_of_getElem? (i := 5) rfl))) (B.2.2.2.1 _ k_1819) (B.2.2.2.1 _ k_13) ⟨rfl, ⟨by decide +kernel, by decide +kernel⟩, by decide +kernel⟩ rfl d_Model_init_43 rfl (Nat.le_of_ble_eq_true rfl) ⟨by decide, by decide⟩ ⟨Nat.le_of_ble_eq_true rfl, Nat.le_of_ble_eq_true rfl⟩ (fun v9 al5 σ5 g5 B h9 => ?_)
  obtain ⟨rfl, rfl⟩ := h9
  have hok := ok_Book_x hok
  have hNs := mq_K (mKt_ok sk sv) g5 (by decide) (mw_le (by decide)) hNs
  have hg := hg.tr g5 (by decide)
  rw [← g5.1 70 (by decide)]
  rw [← g5.1 74 (by decide)]
  refine mv_putR (pc := 46) (ci := 11) (C := R_Model) (T := F_Model) (N := 16) (o := 70) (r := 74) B 9 rfl rfl (by decide) i_Model t_Model_ok n_Model (B.2.2.2.1 _ k_2054) rfl rfl d_Model_init_46 ?_
  have hok := hok.sr (o := 70) (k := 9) (r := 74) (by decide)
  refine mv_aload_n (pc := 49) B d_Model_init_49 rfl 0 rfl ?_
  refine mq_new (pc := 50) (ci := 12) (C := R_Book) (T := F_Book) (N := 65) (n2 := 109) B rfl (by decide) rfl hok rfl i_Book t_Book_ok (by decide) (B.2.2.2.1 _ k_1816) (B.2.2.2.1 _ k_1817) (B.2.2.2.1 _ k_13) (Nat.le_of_ble_eq_true rfl) (Nat.le_of_ble_eq_true rfl) d_Model_init_50 (fun al6 g6 B => ?_)
  have hok := hok.nw
  have hNs := mq_K (mKt_ok sk sv) g6 (by decide) (mw_le (by decide)) hNs
  have hg := hg.tr g6 (by decide)
  rw [← g6.1 70 (by decide)]
  refine mv_dup (pc := 53) B d_Model_init_53 rfl ?_
  refine mq_callIN (pc := 54) (na := 0) B (mKt_ok sk sv) hNs (by decide) (by decide) (nc_Book_y l B.2.2.2.2.2.1 hlt _ hok) rfl (ma_goodc kc_Book_init) (va_Nw.use rfl (hNs.1.1 _ (List.mem_of_getElem? (i := 5) rfl))) (B.2.2.2.1 _ k_1819) (B.2.2.2.1 _ k_13) ⟨rfl, ⟨by decide +kernel, by decide +kernel⟩, by decide +kernel⟩ rfl d_Model_init_54 rfl (Nat.le_of_ble_eq_true rfl) ⟨by decide, by decide⟩ ⟨Nat.le_of_ble_eq_true rfl, Nat.le_of_ble_eq_true rfl⟩ (fun v9 al7 σ7 g7 B h9 => ?_)
  obtain ⟨rfl, rfl⟩ := h9
  have hok := ok_Book_y hok
  have hNs := mq_K (mKt_ok sk sv) g7 (by decide) (mw_le (by decide)) hNs
  have hg := hg.tr g7 (by decide)
  rw [← g7.1 70 (by decide)]
  rw [← g7.1 108 (by decide)]
  refine mv_putR (pc := 57) (ci := 11) (C := R_Model) (T := F_Model) (N := 16) (o := 70) (r := 108) B 10 rfl rfl (by decide) i_Model t_Model_ok n_Model (B.2.2.2.1 _ k_2055) rfl rfl d_Model_init_57 ?_
  have hok := hok.sr (o := 70) (k := 10) (r := 108) (by decide)
  exact mq_vret (pc := 60) B hr d_Model_init_60 (Nat.le_of_ble_eq_true rfl) (Nat.le_of_ble_eq_true rfl) hg ⟨rfl, rfl⟩
