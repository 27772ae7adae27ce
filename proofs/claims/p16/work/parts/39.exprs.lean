/-! Exprs: mark, hold, release, tell, levelOf -/
section RFS
variable {P : Nat} {σ τ : mv_H}
theorem RF.c3 (h : RF P σ τ) {k : Nat} (hk : 7 ≤ k ∧ k ≤ 9) (v : Int32) : RF P σ (mv_si τ 3 k v) := h.si (Or.inl ⟨rfl, hk⟩)
theorem RF.tk3 (h : RF P σ τ) (a d w : Int32) : RF P σ (tk3 τ a d w) := ((h.c3 ⟨by omega, by omega⟩ a).c3 ⟨by omega, by omega⟩ d).c3 ⟨by omega, by omega⟩ w
theorem RF.hold (h : RF P σ τ) (w : Int32) : RF P σ (ex_hold τ w) := (h.sa (Or.inl ⟨by omega, by omega⟩)).si (Or.inr (Or.inl ⟨rfl, Or.inr rfl⟩))
theorem RF.rel (h : RF P σ τ) : RF P σ (ex_rel τ) := h.si (Or.inr (Or.inl ⟨rfl, Or.inr rfl⟩))
theorem RF.pop (h : RF P σ τ) : RF P σ (ex_pop τ) := h.si (Or.inr (Or.inl ⟨rfl, Or.inl rfl⟩))
theorem RF.tell (h : RF P σ τ) (x y : Int32) : RF P σ (ex_tell τ x y) := (h.si (Or.inr (Or.inr (Or.inr rfl)))).si (Or.inr (Or.inr (Or.inr rfl)))
theorem RF.row (h : RF P σ τ) {o : Nat} (ho : 23 ≤ o ∧ o ≤ 27) (i : Nat) (v : Int32) : RF P σ (mv_sa τ o i v) := h.sa (Or.inl ho)
theorem RF.mark (h : RF P σ τ) (k v : Int32) : RF P σ (ex_mark τ k v) := (((h.row ⟨by omega, by omega⟩ _ _).row ⟨by omega, by omega⟩ _ _).row ⟨by omega, by omega⟩ _ _).si (Or.inr (Or.inl ⟨rfl, Or.inl rfl⟩))
theorem RF.emit (h : RF P σ τ) (d : Int32) (w : Int64) : RF P σ (pr_emit P τ d w) := ((h.sa (Or.inr rfl)).sb rfl).si (Or.inr (Or.inr (Or.inl ⟨rfl, rfl⟩)))
theorem RF.aim (h : RF P σ τ) (i : Nat) (w : Int64) : RF P σ (mv_sb τ (P + 10) i w) := h.sb rfl
end RFS
/-- where the reader is, in an EXPR -/
def Wm (a : Nat) (ms : List Mk) : Prop := ∀ m ∈ ms, m.1 = 123 → 0 ≤ m.2.toInt ∧ m.2.toInt ≤ a
def TI (σ : mv_H) (sz bd : Nat) (ms : List Mk) (s a : Nat) : Prop := (mv_i σ 3 7).toInt = a ∧ (mv_i σ 3 9).toInt < 0 ∧ (bd + sm wd ms : Nat) ≤ (mv_i σ 3 8).toInt ∧ (mv_i σ 3 8).toInt ≤ 60 ∧ s + sm wc ms + 3 ≤ a ∧ a < sz ∧ Wm a ms
theorem Wm.up {a a' : Nat} {ms : List Mk} (h : Wm a ms) (ha : a ≤ a') : Wm a' ms := fun m hm q => by have := h m hm q; omega
theorem Wm.tail {a : Nat} {m : Mk} {ms : List Mk} (h : Wm a (m :: ms)) : Wm a ms := fun x hx => h x (List.mem_cons_of_mem _ hx)
theorem Wm.cons {a : Nat} {m : Mk} {ms : List Mk} (h : Wm a ms) (h1 : m.1 = 123 → 0 ≤ m.2.toInt ∧ m.2.toInt ≤ a) : Wm a (m :: ms) := fun x hx => by
  rcases List.mem_cons.mp hx with e | e
  · rw [e]; exact h1
  · exact h x e
theorem TI.len {P th e0 bs : Nat} {BL : (Nat → Nat) → Prop} {f0 : Nat → Int32} {g0 : Nat → Int64} {ns : Nat} {σ : mv_H} {ms : List Mk} {hl ht s sz bd a : Nat} (h : TI σ sz bd ms s a) (hX : XM P th e0 bs BL f0 g0 ns σ ms hl ht s) : ms.length ≤ 548 ∧ sm wt ms ≤ 548 ∧ sm wr ms ≤ 548 := by
  have h1 := ms_le (ms := ms) (d := (mv_i σ 3 8).toInt.toNat) hX.1.2.2.2.2.1 (by have := h.2.2.1; omega) (by have := h.2.2.2.1; omega)
  have h2 := sm_wt ms
  have h3 := sm_wr ms
  omega
/-- kinds that are made of two parts -/
def bin (k : Int32) : Prop := 0 < lvl k ∨ k = 213 ∨ k = 214 ∨ k = 215 ∨ k = 216
theorem bin_op {k : Int32} (h : bin k) : opd k = (2, 1) ∧ isSet k = 0 ∧ (¬ k = 311 ∧ ¬ k = 312 ∧ ¬ k = 316 ∧ ¬ k = 317) ∧ ∀ (th : Nat) (w : Int64), vok th k w := by
  have hn : ∀ q : Int32, ¬ bin q → ¬ k = q := fun q hq e => hq (e ▸ h)
  have n0 := hn 300 (by unfold bin; decide)
  have n1 := hn 301 (by unfold bin; decide)
  have n2 := hn 302 (by unfold bin; decide)
  have n3 := hn 303 (by unfold bin; decide)
  have n4 := hn 304 (by unfold bin; decide)
  have n5 := hn 305 (by unfold bin; decide)
  have n6 := hn 306 (by unfold bin; decide)
  have n7 := hn 307 (by unfold bin; decide)
  have n8 := hn 308 (by unfold bin; decide)
  have n10 := hn 310 (by unfold bin; decide)
  have n11 := hn 311 (by unfold bin; decide)
  have n12 := hn 312 (by unfold bin; decide)
  have n13 := hn 313 (by unfold bin; decide)
  have n14 := hn 314 (by unfold bin; decide)
  have n15 := hn 315 (by unfold bin; decide)
  have n16 := hn 316 (by unfold bin; decide)
  have n17 := hn 317 (by unfold bin; decide)
  refine ⟨?_, ?_, ⟨n11, n12, n16, n17⟩, fun th w => ⟨?_, ?_, ?_⟩⟩
  · unfold opd
    rw [if_neg (by rintro (q | q | q | q) <;> contradiction), if_neg (by rintro (q | q | q | q | q | q) <;> contradiction), if_neg (by rintro (q | q) <;> contradiction), if_neg n15]
  · unfold isSet
    rw [if_neg (by rintro (q | q) <;> contradiction)]
  · rintro (q | q) <;> contradiction
  · intro q; contradiction
  · rintro (q | q | q) <;> contradiction
section XTOP
variable {P th e0 bs : Nat} {BL : (Nat → Nat) → Prop} {f0 : Nat → Int32} {g0 : Nat → Int64} {ns : Nat} {σ τ : mv_H} {ms ms' : List Mk} {hl ht s s' sz bd a : Nat}
theorem XM.nil (h : XM P th e0 bs BL f0 g0 ns σ ms hl ht s) (hm : (mv_i σ 22 8).toInt ≤ 0) : ms = [] := by
  cases ms with
  | nil => rfl
  | cons m ms =>
    have h1 := h.1.1
    have h2 : (m :: ms).length = ms.length + 1 := rfl
    omega
theorem XM.ne (h : XM P th e0 bs BL f0 g0 ns σ ms hl ht s) (hm : 0 < (mv_i σ 22 8).toInt) : ∃ k w ms2, ms = (k, w) :: ms2 := by
  cases ms with
  | nil =>
    have h1 := h.1.1
    have h2 : ([] : List Mk).length = 0 := rfl
    omega
  | cons m ms => exact ⟨m.1, m.2, ms, rfl⟩
theorem XM.top {k w : Int32} (h : XM P th e0 bs BL f0 g0 ns σ ((k, w) :: ms) hl ht s) : (mv_i σ 22 8 - 1).toInt = ms.length ∧ (mv_i σ 22 8 - 1).toNatClampNeg = ms.length ∧ mv_a σ 23 (mv_i σ 22 8 - 1).toNatClampNeg = k ∧ mv_a σ 25 (mv_i σ 22 8 - 1).toNatClampNeg = w := by
  have h1 := h.1.1
  have h2 : (((k, w) : Mk) :: ms).length = ms.length + 1 := rfl
  have h3 := sub_one (x := mv_i σ 22 8) (by omega)
  have h4 := i32_cl (x := mv_i σ 22 8 - 1) (by omega)
  have h5 : (mv_i σ 22 8 - 1).toNatClampNeg = ms.length := by omega
  rw [h5]
  exact ⟨by omega, rfl, h.1.2.1.1, h.1.2.1.2.1⟩
theorem XM.tok (h : XM P th e0 bs BL f0 g0 ns σ ms hl ht s) {i : Nat} (hi : i < 1024) : 0 ≤ (mv_a σ 24 i).toInt ∧ (mv_a σ 24 i).toInt < 32770 := h.1.2.2.2.1 i hi
theorem TI.up (h : TI σ sz bd ms s a) (e : mv_i τ 3 = mv_i σ 3) (h1 : sm wd ms' ≤ sm wd ms) (h2 : s' + sm wc ms' ≤ s + sm wc ms) (hw : Wm a ms') : TI τ sz bd ms' s' a := by
  obtain ⟨k1, k2, k3, k4, k5, k6, k7⟩ := h
  unfold TI
  rw [e]
  exact ⟨k1, k2, by omega, k4, by omega, k6, hw⟩
/-- the same with one less in DEPTH -/
theorem TI.dn (h : TI σ sz bd ms s a) (e7 : mv_i τ 3 7 = mv_i σ 3 7) (e8 : mv_i τ 3 8 = mv_i σ 3 8 - 1) (e9 : mv_i τ 3 9 = mv_i σ 3 9) (h1 : sm wd ms' + 1 ≤ sm wd ms) (h2 : s' + sm wc ms' ≤ s + sm wc ms) (hw : Wm a ms') : TI τ sz bd ms' s' a := by
  obtain ⟨k1, k2, k3, k4, k5, k6, k7⟩ := h
  have k8 := sub_one (x := mv_i σ 3 8) (by omega)
  unfold TI
  rw [e7, e8, e9]
  exact ⟨k1, k2, by omega, by omega, by omega, k6, hw⟩
end XTOP
theorem lvl_wt {k w : Int32} (h : 0 < lvl k) : wt (k, w) = 1 ∧ wr (k, w) = 1 ∧ wc (k, w) = 1 ∧ wd (k, w) = 0 ∧ ¬ k = 63 ∧ ¬ k = 58 ∧ ¬ k = 91 ∧ ¬ k = 123 := by
  have n : ∀ q : Int32, lvl q = 0 → ¬ k = q := fun q hq e => by rw [e, hq] at h; omega
  have n58 := n 58 (by decide)
  refine ⟨if_pos (Or.inl h), ?_, if_pos (Or.inl h), if_pos h, n 63 (by decide), n58, n 91 (by decide), n 123 (by decide)⟩
  unfold wr
  rw [if_neg n58]
  exact if_pos (Or.inl h)
theorem XM.emit0 {P th e0 bs : Nat} {BL : (Nat → Nat) → Prop} {f0 : Nat → Int32} {g0 : Nat → Int64} {ns : Nat} {σ : mv_H} {ms : List Mk} {hl ht s : Nat} (h : XM P th e0 bs BL f0 g0 ns σ ms hl ht s) (hP : PQ P) (hs : s < 1000000) {d : Int32} {w : Int64} (ht' : Nat) (hz : isSet d = 0) (hd : ¬ d = 311 ∧ ¬ d = 312 ∧ ¬ d = 316 ∧ ¬ d = 317) (hO : Op1 th d w (bs + ht) (bs + ht')) (hb : bs + ht' ≤ 1000) : XM P th e0 bs BL f0 g0 ns (pr_emit P σ d w) ms hl ht' (s + 1) := by
  have := h.emit hP hs ht' hd hO hb
  rw [hz] at this
  exact this
def y_Exprs_begin : MethodName := ⟨"MachineLoom$Exprs", "begin", "()V"⟩
abbrev b_Exprs_begin : ByteArray := prog_3_method_2_code
theorem kc_Exprs_begin : Cond.code y_Exprs_begin b_Exprs_begin 1 (Option.none : Option Jvm.ClassFile.FieldType) ∈ ma := ma_of (tb_6 _ (List.mem_of_getElem? (i := 178) rfl)) rfl
theorem k_202 : (Jvm.Cond.fieldLink "MachineLoom$Exprs" (39 : Nat) "MachineLoom$Exprs" "marked" "I") ∈ ma := ma_of (tb_1 _ (List.mem_of_getElem? (i := 202) rfl)) rfl
theorem k_204 : (Jvm.Cond.fieldLink "MachineLoom$Exprs" (43 : Nat) "MachineLoom$Exprs" "held" "I") ∈ ma := ma_of (tb_1 _ (List.mem_of_getElem? (i := 204) rfl)) rfl
theorem d_Exprs_begin_0 : decode b_Exprs_begin 0 = .ok (.aload_n 0, 1) := by decide +kernel
theorem d_Exprs_begin_1 : decode b_Exprs_begin 1 = .ok (.iconst 0, 1) := by decide +kernel
theorem d_Exprs_begin_2 : decode b_Exprs_begin 2 = .ok (.putfield 39, 3) := by decide +kernel
theorem d_Exprs_begin_5 : decode b_Exprs_begin 5 = .ok (.aload_n 0, 1) := by decide +kernel
theorem d_Exprs_begin_6 : decode b_Exprs_begin 6 = .ok (.iconst 0, 1) := by decide +kernel
theorem d_Exprs_begin_7 : decode b_Exprs_begin 7 = .ok (.putfield 43, 3) := by decide +kernel
theorem d_Exprs_begin_10 : decode b_Exprs_begin 10 = .ok (.return_, 1) := by decide +kernel
set_option maxHeartbeats 4000000 in
set_option maxRecDepth 100000 in
theorem c_Exprs_begin (l : Launch) {dA : FieldType → ClassId} {D : va_G} {al : Nat → Nat} {ext : mv_Sh} {sk sv : Nat → Nat} (hi : mv_inj (mg dA D al ext)) (σ : mv_H)  : mv_C l y_Exprs_begin (Cond.code y_Exprs_begin b_Exprs_begin 1 (Option.none : Option Jvm.ClassFile.FieldType) :: ma) ({ frames := 0, cells := 0, slots := 0, locals := 0 }) (mg dA D al ext) (mK sk sv) [.ref (al 22)] σ (mv_Rv (fun σ1 => σ1 = mv_si (mv_si σ 22 8 0) 22 10 0)) := by
  refine mv_C.ofV (cc := b_Exprs_begin) (nL := 1) (ret := (Option.none : Option Jvm.ClassFile.FieldType)) (by decide +kernel) rfl hi (Nat.le_of_ble_eq_true rfl) ?_
  intro p e s m below meth c B hNs hr hnm hno
  refine mv_aload_n (pc := 0) B d_Exprs_begin_0 rfl 0 rfl ?_
  refine mv_iconst (pc := 1) (v := 0) B d_Exprs_begin_1 (by decide) ?_
  refine mv_putI (pc := 2) (ci := 6) (C := R_Exprs) (T := F_Exprs) (N := 11) B 8 rfl rfl (by decide) i_Exprs t_Exprs_ok n_Exprs (B.2.2.2.1 _ k_202) rfl rfl rfl rfl d_Exprs_begin_2 ?_
  refine mv_aload_n (pc := 5) B d_Exprs_begin_5 rfl 0 rfl ?_
  refine mv_iconst (pc := 6) (v := 0) B d_Exprs_begin_6 (by decide) ?_
  refine mv_putI (pc := 7) (ci := 6) (C := R_Exprs) (T := F_Exprs) (N := 11) B 10 rfl rfl (by decide) i_Exprs t_Exprs_ok n_Exprs (B.2.2.2.1 _ k_204) rfl rfl rfl rfl d_Exprs_begin_7 ?_
  exact mv_vret (pc := 10) B hr d_Exprs_begin_10 (Nat.le_refl _) (Nat.le_refl _) ⟨rfl, rfl⟩
def y_Exprs_mark : MethodName := ⟨"MachineLoom$Exprs", "mark", "(II)V"⟩
abbrev b_Exprs_mark : ByteArray := prog_3_method_3_code
theorem kc_Exprs_mark : Cond.code y_Exprs_mark b_Exprs_mark 3 (Option.none : Option Jvm.ClassFile.FieldType) ∈ ma := ma_of (tb_6 _ (List.mem_of_getElem? (i := 219) rfl)) rfl
theorem k_198 : (Jvm.Cond.fieldLink "MachineLoom$Exprs" (9 : Nat) "MachineLoom$Exprs" "marks" "[I") ∈ ma := ma_of (tb_1 _ (List.mem_of_getElem? (i := 198) rfl)) rfl
theorem k_199 : (Jvm.Cond.fieldLink "MachineLoom$Exprs" (15 : Nat) "MachineLoom$Exprs" "markTokens" "[I") ∈ ma := ma_of (tb_1 _ (List.mem_of_getElem? (i := 199) rfl)) rfl
theorem k_200 : (Jvm.Cond.fieldLink "MachineLoom$Exprs" (18 : Nat) "MachineLoom$Exprs" "markWiths" "[I") ∈ ma := ma_of (tb_1 _ (List.mem_of_getElem? (i := 200) rfl)) rfl
theorem d_Exprs_mark_0 : decode b_Exprs_mark 0 = .ok (.aload_n 0, 1) := by decide +kernel
theorem d_Exprs_mark_1 : decode b_Exprs_mark 1 = .ok (.getfield 9, 3) := by decide +kernel
theorem d_Exprs_mark_4 : decode b_Exprs_mark 4 = .ok (.aload_n 0, 1) := by decide +kernel
theorem d_Exprs_mark_5 : decode b_Exprs_mark 5 = .ok (.getfield 39, 3) := by decide +kernel
theorem d_Exprs_mark_8 : decode b_Exprs_mark 8 = .ok (.iload_n 1, 1) := by decide +kernel
theorem d_Exprs_mark_9 : decode b_Exprs_mark 9 = .ok (.iastore, 1) := by decide +kernel
theorem d_Exprs_mark_10 : decode b_Exprs_mark 10 = .ok (.aload_n 0, 1) := by decide +kernel
theorem d_Exprs_mark_11 : decode b_Exprs_mark 11 = .ok (.getfield 15, 3) := by decide +kernel
theorem d_Exprs_mark_14 : decode b_Exprs_mark 14 = .ok (.aload_n 0, 1) := by decide +kernel
theorem d_Exprs_mark_15 : decode b_Exprs_mark 15 = .ok (.getfield 39, 3) := by decide +kernel
theorem d_Exprs_mark_18 : decode b_Exprs_mark 18 = .ok (.iload_n 2, 1) := by decide +kernel
theorem d_Exprs_mark_19 : decode b_Exprs_mark 19 = .ok (.iastore, 1) := by decide +kernel
theorem d_Exprs_mark_20 : decode b_Exprs_mark 20 = .ok (.aload_n 0, 1) := by decide +kernel
theorem d_Exprs_mark_21 : decode b_Exprs_mark 21 = .ok (.getfield 18, 3) := by decide +kernel
theorem d_Exprs_mark_24 : decode b_Exprs_mark 24 = .ok (.aload_n 0, 1) := by decide +kernel
theorem d_Exprs_mark_25 : decode b_Exprs_mark 25 = .ok (.getfield 39, 3) := by decide +kernel
theorem d_Exprs_mark_28 : decode b_Exprs_mark 28 = .ok (.iconst 0, 1) := by decide +kernel
theorem d_Exprs_mark_29 : decode b_Exprs_mark 29 = .ok (.iastore, 1) := by decide +kernel
theorem d_Exprs_mark_30 : decode b_Exprs_mark 30 = .ok (.aload_n 0, 1) := by decide +kernel
theorem d_Exprs_mark_31 : decode b_Exprs_mark 31 = .ok (.dup, 1) := by decide +kernel
theorem d_Exprs_mark_32 : decode b_Exprs_mark 32 = .ok (.getfield 39, 3) := by decide +kernel
theorem d_Exprs_mark_35 : decode b_Exprs_mark 35 = .ok (.iconst 1, 1) := by decide +kernel
theorem d_Exprs_mark_36 : decode b_Exprs_mark 36 = .ok (.iadd, 1) := by decide +kernel
theorem d_Exprs_mark_37 : decode b_Exprs_mark 37 = .ok (.putfield 39, 3) := by decide +kernel
theorem d_Exprs_mark_40 : decode b_Exprs_mark 40 = .ok (.return_, 1) := by decide +kernel
set_option maxHeartbeats 4000000 in
set_option maxRecDepth 100000 in
theorem c_Exprs_mark (l : Launch) {dA : FieldType → ClassId} {D : va_G} {al : Nat → Nat} {ext : mv_Sh} {sk sv : Nat → Nat} (hi : mv_inj (mg dA D al ext)) (σ : mv_H) (k9 v9 : Int32) (hsh : mh (mv_r σ)) (g0 : 0 ≤ (mv_i σ 22 8).toInt) (g1 : (mv_i σ 22 8).toInt < 1024) : mv_C l y_Exprs_mark (Cond.code y_Exprs_mark b_Exprs_mark 3 (Option.none : Option Jvm.ClassFile.FieldType) :: ma) ({ frames := 0, cells := 0, slots := 0, locals := 0 }) (mg dA D al ext) (mK sk sv) [.ref (al 22), .int k9, .int v9] σ (mv_Rv (fun σ1 => σ1 = ex_mark σ k9 v9)) := by
  refine mv_C.ofV (cc := b_Exprs_mark) (nL := 3) (ret := (Option.none : Option Jvm.ClassFile.FieldType)) (by decide +kernel) rfl hi (Nat.le_of_ble_eq_true rfl) ?_
  intro p e s m below meth c B hNs hr hnm hno
  refine mv_aload_n (pc := 0) B d_Exprs_mark_0 rfl 0 rfl ?_
  refine mv_getR (pc := 1) (ci := 6) (C := R_Exprs) (T := F_Exprs) (N := 11) B 4 rfl rfl (by decide) i_Exprs (B.2.2.2.1 _ k_198) rfl (hsh _ 4 _ rfl) d_Exprs_mark_1 ?_
  refine mv_aload_n (pc := 4) B d_Exprs_mark_4 rfl 0 rfl ?_
  refine mv_getI (pc := 5) (ci := 6) (C := R_Exprs) (T := F_Exprs) (N := 11) B 8 rfl rfl (by decide) i_Exprs (B.2.2.2.1 _ k_202) rfl d_Exprs_mark_5 ?_
  refine mv_iload_n (pc := 8) B d_Exprs_mark_8 rfl 1 rfl ?_
  refine mv_iast (pc := 9) B rfl (i32_in g0 g1) d_Exprs_mark_9 ?_
  refine mv_aload_n (pc := 10) B d_Exprs_mark_10 rfl 0 rfl ?_
  refine mv_getR (pc := 11) (ci := 6) (C := R_Exprs) (T := F_Exprs) (N := 11) B 5 rfl rfl (by decide) i_Exprs (B.2.2.2.1 _ k_199) rfl (hsh _ 5 _ rfl) d_Exprs_mark_11 ?_
  refine mv_aload_n (pc := 14) B d_Exprs_mark_14 rfl 0 rfl ?_
  refine mv_getI (pc := 15) (ci := 6) (C := R_Exprs) (T := F_Exprs) (N := 11) B 8 rfl rfl (by decide) i_Exprs (B.2.2.2.1 _ k_202) rfl d_Exprs_mark_15 ?_
  refine mv_iload_n (pc := 18) B d_Exprs_mark_18 rfl 2 rfl ?_
  refine mv_iast (pc := 19) B rfl (i32_in g0 g1) d_Exprs_mark_19 ?_
  refine mv_aload_n (pc := 20) B d_Exprs_mark_20 rfl 0 rfl ?_
  refine mv_getR (pc := 21) (ci := 6) (C := R_Exprs) (T := F_Exprs) (N := 11) B 6 rfl rfl (by decide) i_Exprs (B.2.2.2.1 _ k_200) rfl (hsh _ 6 _ rfl) d_Exprs_mark_21 ?_
  refine mv_aload_n (pc := 24) B d_Exprs_mark_24 rfl 0 rfl ?_
  refine mv_getI (pc := 25) (ci := 6) (C := R_Exprs) (T := F_Exprs) (N := 11) B 8 rfl rfl (by decide) i_Exprs (B.2.2.2.1 _ k_202) rfl d_Exprs_mark_25 ?_
  refine mv_iconst (pc := 28) (v := 0) B d_Exprs_mark_28 (by decide) ?_
  refine mv_iast (pc := 29) B rfl (i32_in g0 g1) d_Exprs_mark_29 ?_
  refine mv_aload_n (pc := 30) B d_Exprs_mark_30 rfl 0 rfl ?_
  refine mv_dup (pc := 31) B d_Exprs_mark_31 rfl ?_
  refine mv_getI (pc := 32) (ci := 6) (C := R_Exprs) (T := F_Exprs) (N := 11) B 8 rfl rfl (by decide) i_Exprs (B.2.2.2.1 _ k_202) rfl d_Exprs_mark_32 ?_
  refine mv_iconst (pc := 35) (v := 1) B d_Exprs_mark_35 (by decide) ?_
  refine mv_iadd (pc := 36) B d_Exprs_mark_36 ?_
  refine mv_putI (pc := 37) (ci := 6) (C := R_Exprs) (T := F_Exprs) (N := 11) B 8 rfl rfl (by decide) i_Exprs t_Exprs_ok n_Exprs (B.2.2.2.1 _ k_202) rfl rfl rfl rfl d_Exprs_mark_37 ?_
  exact mv_vret (pc := 40) B hr d_Exprs_mark_40 (Nat.le_refl _) (Nat.le_refl _) ⟨rfl, rfl⟩
def y_Exprs_hold : MethodName := ⟨"MachineLoom$Exprs", "hold", "(I)V"⟩
abbrev b_Exprs_hold : ByteArray := prog_3_method_4_code
theorem kc_Exprs_hold : Cond.code y_Exprs_hold b_Exprs_hold 2 (Option.none : Option Jvm.ClassFile.FieldType) ∈ ma := ma_of (tb_6 _ (List.mem_of_getElem? (i := 235) rfl)) rfl
theorem k_203 : (Jvm.Cond.fieldLink "MachineLoom$Exprs" (24 : Nat) "MachineLoom$Exprs" "widths" "[I") ∈ ma := ma_of (tb_1 _ (List.mem_of_getElem? (i := 203) rfl)) rfl
theorem d_Exprs_hold_0 : decode b_Exprs_hold 0 = .ok (.aload_n 0, 1) := by decide +kernel
theorem d_Exprs_hold_1 : decode b_Exprs_hold 1 = .ok (.getfield 24, 3) := by decide +kernel
theorem d_Exprs_hold_4 : decode b_Exprs_hold 4 = .ok (.aload_n 0, 1) := by decide +kernel
theorem d_Exprs_hold_5 : decode b_Exprs_hold 5 = .ok (.getfield 43, 3) := by decide +kernel
theorem d_Exprs_hold_8 : decode b_Exprs_hold 8 = .ok (.iload_n 1, 1) := by decide +kernel
theorem d_Exprs_hold_9 : decode b_Exprs_hold 9 = .ok (.iastore, 1) := by decide +kernel
theorem d_Exprs_hold_10 : decode b_Exprs_hold 10 = .ok (.aload_n 0, 1) := by decide +kernel
theorem d_Exprs_hold_11 : decode b_Exprs_hold 11 = .ok (.dup, 1) := by decide +kernel
theorem d_Exprs_hold_12 : decode b_Exprs_hold 12 = .ok (.getfield 43, 3) := by decide +kernel
theorem d_Exprs_hold_15 : decode b_Exprs_hold 15 = .ok (.iconst 1, 1) := by decide +kernel
theorem d_Exprs_hold_16 : decode b_Exprs_hold 16 = .ok (.iadd, 1) := by decide +kernel
theorem d_Exprs_hold_17 : decode b_Exprs_hold 17 = .ok (.putfield 43, 3) := by decide +kernel
theorem d_Exprs_hold_20 : decode b_Exprs_hold 20 = .ok (.return_, 1) := by decide +kernel
set_option maxHeartbeats 4000000 in
set_option maxRecDepth 100000 in
theorem c_Exprs_hold (l : Launch) {dA : FieldType → ClassId} {D : va_G} {al : Nat → Nat} {ext : mv_Sh} {sk sv : Nat → Nat} (hi : mv_inj (mg dA D al ext)) (σ : mv_H) (w9 : Int32) (hsh : mh (mv_r σ)) (g0 : 0 ≤ (mv_i σ 22 10).toInt) (g1 : (mv_i σ 22 10).toInt < 1024) : mv_C l y_Exprs_hold (Cond.code y_Exprs_hold b_Exprs_hold 2 (Option.none : Option Jvm.ClassFile.FieldType) :: ma) ({ frames := 0, cells := 0, slots := 0, locals := 0 }) (mg dA D al ext) (mK sk sv) [.ref (al 22), .int w9] σ (mv_Rv (fun σ1 => σ1 = ex_hold σ w9)) := by
  refine mv_C.ofV (cc := b_Exprs_hold) (nL := 2) (ret := (Option.none : Option Jvm.ClassFile.FieldType)) (by decide +kernel) rfl hi (Nat.le_of_ble_eq_true rfl) ?_
  intro p e s m below meth c B hNs hr hnm hno
  refine mv_aload_n (pc := 0) B d_Exprs_hold_0 rfl 0 rfl ?_
  refine mv_getR (pc := 1) (ci := 6) (C := R_Exprs) (T := F_Exprs) (N := 11) B 9 rfl rfl (by decide) i_Exprs (B.2.2.2.1 _ k_203) rfl (hsh _ 9 _ rfl) d_Exprs_hold_1 ?_
  refine mv_aload_n (pc := 4) B d_Exprs_hold_4 rfl 0 rfl ?_
  refine mv_getI (pc := 5) (ci := 6) (C := R_Exprs) (T := F_Exprs) (N := 11) B 10 rfl rfl (by decide) i_Exprs (B.2.2.2.1 _ k_204) rfl d_Exprs_hold_5 ?_
  refine mv_iload_n (pc := 8) B d_Exprs_hold_8 rfl 1 rfl ?_
  refine mv_iast (pc := 9) B rfl (i32_in g0 g1) d_Exprs_hold_9 ?_
  refine mv_aload_n (pc := 10) B d_Exprs_hold_10 rfl 0 rfl ?_
  refine mv_dup (pc := 11) B d_Exprs_hold_11 rfl ?_
  refine mv_getI (pc := 12) (ci := 6) (C := R_Exprs) (T := F_Exprs) (N := 11) B 10 rfl rfl (by decide) i_Exprs (B.2.2.2.1 _ k_204) rfl d_Exprs_hold_12 ?_
  refine mv_iconst (pc := 15) (v := 1) B d_Exprs_hold_15 (by decide) ?_
  refine mv_iadd (pc := 16) B d_Exprs_hold_16 ?_
  refine mv_putI (pc := 17) (ci := 6) (C := R_Exprs) (T := F_Exprs) (N := 11) B 10 rfl rfl (by decide) i_Exprs t_Exprs_ok n_Exprs (B.2.2.2.1 _ k_204) rfl rfl rfl rfl d_Exprs_hold_17 ?_
  exact mv_vret (pc := 20) B hr d_Exprs_hold_20 (Nat.le_refl _) (Nat.le_refl _) ⟨rfl, rfl⟩
def y_Exprs_release : MethodName := ⟨"MachineLoom$Exprs", "release", "()I"⟩
abbrev b_Exprs_release : ByteArray := prog_3_method_5_code
theorem kc_Exprs_release : Cond.code y_Exprs_release b_Exprs_release 1 (Option.some Jvm.ClassFile.FieldType.int) ∈ ma := ma_of (tb_7 _ (List.mem_of_getElem? (i := 32) rfl)) rfl
theorem d_Exprs_release_0 : decode b_Exprs_release 0 = .ok (.aload_n 0, 1) := by decide +kernel
theorem d_Exprs_release_1 : decode b_Exprs_release 1 = .ok (.dup, 1) := by decide +kernel
theorem d_Exprs_release_2 : decode b_Exprs_release 2 = .ok (.getfield 43, 3) := by decide +kernel
theorem d_Exprs_release_5 : decode b_Exprs_release 5 = .ok (.iconst 1, 1) := by decide +kernel
theorem d_Exprs_release_6 : decode b_Exprs_release 6 = .ok (.isub, 1) := by decide +kernel
theorem d_Exprs_release_7 : decode b_Exprs_release 7 = .ok (.putfield 43, 3) := by decide +kernel
theorem d_Exprs_release_10 : decode b_Exprs_release 10 = .ok (.aload_n 0, 1) := by decide +kernel
theorem d_Exprs_release_11 : decode b_Exprs_release 11 = .ok (.getfield 24, 3) := by decide +kernel
theorem d_Exprs_release_14 : decode b_Exprs_release 14 = .ok (.aload_n 0, 1) := by decide +kernel
theorem d_Exprs_release_15 : decode b_Exprs_release 15 = .ok (.getfield 43, 3) := by decide +kernel
theorem d_Exprs_release_18 : decode b_Exprs_release 18 = .ok (.iaload, 1) := by decide +kernel
theorem d_Exprs_release_19 : decode b_Exprs_release 19 = .ok (.ireturn, 1) := by decide +kernel
set_option maxHeartbeats 4000000 in
set_option maxRecDepth 100000 in
theorem c_Exprs_release (l : Launch) {dA : FieldType → ClassId} {D : va_G} {al : Nat → Nat} {ext : mv_Sh} {sk sv : Nat → Nat} (hi : mv_inj (mg dA D al ext)) (σ : mv_H) (hsh : mh (mv_r σ)) (g0 : 1 ≤ (mv_i σ 22 10).toInt) (g1 : (mv_i σ 22 10).toInt ≤ 1024) : mv_C l y_Exprs_release (Cond.code y_Exprs_release b_Exprs_release 1 (Option.some Jvm.ClassFile.FieldType.int) :: ma) ({ frames := 0, cells := 0, slots := 0, locals := 0 }) (mg dA D al ext) (mK sk sv) [.ref (al 22)] σ (mv_Ri (fun v σ1 => σ1 = ex_rel σ)) := by
  refine mv_C.ofV (cc := b_Exprs_release) (nL := 1) (ret := (Option.some Jvm.ClassFile.FieldType.int)) (by decide +kernel) rfl hi (Nat.le_of_ble_eq_true rfl) ?_
  intro p e s m below meth c B hNs hr hnm hno
  refine mv_aload_n (pc := 0) B d_Exprs_release_0 rfl 0 rfl ?_
  refine mv_dup (pc := 1) B d_Exprs_release_1 rfl ?_
  refine mv_getI (pc := 2) (ci := 6) (C := R_Exprs) (T := F_Exprs) (N := 11) B 10 rfl rfl (by decide) i_Exprs (B.2.2.2.1 _ k_204) rfl d_Exprs_release_2 ?_
  refine mv_iconst (pc := 5) (v := 1) B d_Exprs_release_5 (by decide) ?_
  refine mv_isub (pc := 6) B d_Exprs_release_6 ?_
  refine mv_putI (pc := 7) (ci := 6) (C := R_Exprs) (T := F_Exprs) (N := 11) B 10 rfl rfl (by decide) i_Exprs t_Exprs_ok n_Exprs (B.2.2.2.1 _ k_204) rfl rfl rfl rfl d_Exprs_release_7 ?_
  refine mv_aload_n (pc := 10) B d_Exprs_release_10 rfl 0 rfl ?_
  refine mv_getR (pc := 11) (ci := 6) (C := R_Exprs) (T := F_Exprs) (N := 11) B 9 rfl rfl (by decide) i_Exprs (B.2.2.2.1 _ k_203) rfl (hsh _ 9 _ rfl) d_Exprs_release_11 ?_
  refine mv_aload_n (pc := 14) B d_Exprs_release_14 rfl 0 rfl ?_
  refine mv_getI (pc := 15) (ci := 6) (C := R_Exprs) (T := F_Exprs) (N := 11) B 10 rfl rfl (by decide) i_Exprs (B.2.2.2.1 _ k_204) rfl d_Exprs_release_15 ?_
  refine mv_iald (pc := 18) B rfl (i32_in (show 0 ≤ (mv_i σ 22 10 - 1).toInt by rw [sub_one g0]; omega) (show (mv_i σ 22 10 - 1).toInt < 1024 by rw [sub_one g0]; omega)) d_Exprs_release_18 ?_
  exact mv_iret (pc := 19) B hr rfl d_Exprs_release_19 (Nat.le_refl _) (Nat.le_refl _) ⟨_, rfl, rfl⟩
theorem tell_n {σ τ : mv_H} {a b : Int32} (hb : ¬ b = 0) (h : (τ = σ ∧ ¬ mv_i σ 21 0 = 0) ∨ τ = mv_si (mv_si σ 21 0 b) 21 1 a) : ∃ x y, τ = ex_tell σ x y ∧ ¬ x = 0 := by
  rcases h with ⟨h1, h2⟩ | h
  · exact ⟨mv_i σ 21 0, mv_i σ 21 1, by unfold ex_tell; rw [mv_si_self, mv_si_self]; exact h1, h2⟩
  · exact ⟨b, a, h, hb⟩
def y_Exprs_tell : MethodName := ⟨"MachineLoom$Exprs", "tell", "(II)V"⟩
abbrev b_Exprs_tell : ByteArray := prog_3_method_6_code
theorem kc_Exprs_tell : Cond.code y_Exprs_tell b_Exprs_tell 3 (Option.none : Option Jvm.ClassFile.FieldType) ∈ ma := ma_of (tb_6 _ (List.mem_of_getElem? (i := 230) rfl)) rfl
theorem k_195 : (Jvm.Cond.fieldLink "MachineLoom$Exprs" (35 : Nat) "MachineLoom$Exprs" "faults" "LMachineLoom$Faults;") ∈ ma := ma_of (tb_1 _ (List.mem_of_getElem? (i := 195) rfl)) rfl
theorem k_193 : (Jvm.Cond.fieldLink "MachineLoom$Exprs" (27 : Nat) "MachineLoom$Exprs" "tokens" "LMachineLoom$Tokens;") ∈ ma := ma_of (tb_1 _ (List.mem_of_getElem? (i := 193) rfl)) rfl
theorem k_92 : (Jvm.Cond.fieldLink "MachineLoom$Exprs" (46 : Nat) "MachineLoom$Tokens" "places" "[I") ∈ ma := ma_of (tb_1 _ (List.mem_of_getElem? (i := 92) rfl)) rfl
theorem k_1431 : (Jvm.Cond.methodLink "MachineLoom$Exprs" (51 : Nat) ({ cls := "MachineLoom$Faults", name := "tell", desc := "(II)V" } : Jvm.MethodName)) ∈ ma := ma_of (tb_6 _ (List.mem_of_getElem? (i := 231) rfl)) rfl
theorem k_6 : (Jvm.Cond.initialized "MachineLoom$Faults") ∈ ma := ma_of (tb_1 _ (List.mem_of_getElem? (i := 6) rfl)) rfl
theorem k_1287 : (Jvm.Cond.instanceMethod ({ cls := "MachineLoom$Faults", name := "tell", desc := "(II)V" } : Jvm.MethodName)) ∈ ma := ma_of (tb_6 _ (List.mem_of_getElem? (i := 87) rfl)) rfl
theorem k_1288 : (Jvm.Cond.selects "MachineLoom$Faults" ({ cls := "MachineLoom$Faults", name := "tell", desc := "(II)V" } : Jvm.MethodName) ({ cls := "MachineLoom$Faults", name := "tell", desc := "(II)V" } : Jvm.MethodName)) ∈ ma := ma_of (tb_6 _ (List.mem_of_getElem? (i := 88) rfl)) rfl
theorem d_Exprs_tell_0 : decode b_Exprs_tell 0 = .ok (.aload_n 0, 1) := by decide +kernel
theorem d_Exprs_tell_1 : decode b_Exprs_tell 1 = .ok (.getfield 35, 3) := by decide +kernel
theorem d_Exprs_tell_4 : decode b_Exprs_tell 4 = .ok (.aload_n 0, 1) := by decide +kernel
theorem d_Exprs_tell_5 : decode b_Exprs_tell 5 = .ok (.getfield 27, 3) := by decide +kernel
theorem d_Exprs_tell_8 : decode b_Exprs_tell 8 = .ok (.getfield 46, 3) := by decide +kernel
theorem d_Exprs_tell_11 : decode b_Exprs_tell 11 = .ok (.iload_n 1, 1) := by decide +kernel
theorem d_Exprs_tell_12 : decode b_Exprs_tell 12 = .ok (.iaload, 1) := by decide +kernel
theorem d_Exprs_tell_13 : decode b_Exprs_tell 13 = .ok (.iload_n 2, 1) := by decide +kernel
theorem d_Exprs_tell_14 : decode b_Exprs_tell 14 = .ok (.invokevirtual 51, 3) := by decide +kernel
theorem d_Exprs_tell_17 : decode b_Exprs_tell 17 = .ok (.return_, 1) := by decide +kernel
set_option maxHeartbeats 4000000 in
set_option maxRecDepth 100000 in
theorem c_Exprs_tell (l : Launch) {dA : FieldType → ClassId} {D : va_G} {al : Nat → Nat} {ext : mv_Sh} {sk sv : Nat → Nat} (hi : mv_inj (mg dA D al ext)) (σ : mv_H) (t9 b9 : Int32) (hsh : mh (mv_r σ)) (g0 : 0 ≤ t9.toInt) (g1 : t9.toInt < 32770) (hb9 : ¬ b9 = 0) : mv_C l y_Exprs_tell (Cond.code y_Exprs_tell b_Exprs_tell 3 (Option.none : Option Jvm.ClassFile.FieldType) :: ma) ({ frames := 1, cells := 0, slots := 0, locals := 22 }) (mg dA D al ext) (mK sk sv) [.ref (al 22), .int t9, .int b9] σ (mv_Rv (fun σ1 => ∃ x y, σ1 = ex_tell σ x y ∧ ¬ x = 0)) := by
  refine mv_C.ofV (cc := b_Exprs_tell) (nL := 3) (ret := (Option.none : Option Jvm.ClassFile.FieldType)) (by decide +kernel) rfl hi (Nat.le_of_ble_eq_true rfl) ?_
  intro p e s m below meth c B hNs hr hnm hno
  refine mv_aload_n (pc := 0) B d_Exprs_tell_0 rfl 0 rfl ?_
  refine mv_getR (pc := 1) (ci := 6) (C := R_Exprs) (T := F_Exprs) (N := 11) B 2 rfl rfl (by decide) i_Exprs (B.2.2.2.1 _ k_195) rfl (hsh _ 2 _ rfl) d_Exprs_tell_1 ?_
  refine mv_aload_n (pc := 4) B d_Exprs_tell_4 rfl 0 rfl ?_
  refine mv_getR (pc := 5) (ci := 6) (C := R_Exprs) (T := F_Exprs) (N := 11) B 0 rfl rfl (by decide) i_Exprs (B.2.2.2.1 _ k_193) rfl (hsh _ 0 _ rfl) d_Exprs_tell_5 ?_
  refine mv_getR (pc := 8) (ci := 2) (C := R_Tokens) (T := F_Tokens) (N := 10) B 1 rfl rfl (by decide) i_Tokens (B.2.2.2.1 _ k_92) rfl (hsh _ 1 _ rfl) d_Exprs_tell_8 ?_
  refine mv_iload_n (pc := 11) B d_Exprs_tell_11 rfl 1 rfl ?_
  refine mv_iald (pc := 12) B rfl (i32_in g0 g1) d_Exprs_tell_12 ?_
  refine mv_iload_n (pc := 13) B d_Exprs_tell_13 rfl 2 rfl ?_
  refine mv_callVv (pc := 14) (n := 2) (ci := 5) (C := R_Faults) B (mK_ok sk sv) hNs rfl rfl (c_Faults_tell l hi _ _ _) rfl (ma_goodc kc_Faults_tell) (B.2.2.2.1 _ k_1431) (B.2.2.2.1 _ k_1287) (B.2.2.2.1 _ k_1288) (B.2.2.2.1 _ k_6) ⟨by decide +kernel, by decide +kernel, by decide +kernel⟩ rfl d_Exprs_tell_14 rfl (Nat.le_of_ble_eq_true rfl) ⟨by decide, by decide⟩ ⟨by decide, by decide⟩ ⟨by decide, by decide⟩ (mv_noH hno _) (fun σ14 h14 => ?_)
  exact mv_vret (pc := 17) B hr d_Exprs_tell_17 (Nat.le_refl _) (Nat.le_refl _) ⟨rfl, tell_n hb9 h14⟩
def y_Exprs_levelOf : MethodName := ⟨"MachineLoom$Exprs", "levelOf", "(I)I"⟩
abbrev b_Exprs_levelOf : ByteArray := prog_3_method_13_code
theorem kc_Exprs_levelOf : Cond.code y_Exprs_levelOf b_Exprs_levelOf 1 (Option.some Jvm.ClassFile.FieldType.int) ∈ ma := ma_of (tb_7 _ (List.mem_of_getElem? (i := 44) rfl)) rfl
theorem d_Exprs_levelOf_0 : decode b_Exprs_levelOf 0 = .ok (.iload_n 0, 1) := by decide +kernel
theorem d_Exprs_levelOf_1 : decode b_Exprs_levelOf 1 = .ok (.lookupswitch (142) #[(37, 139), (38, 127), (42, 139), (43, 136), (45, 136), (47, 139), (60, 131), (94, 125), (124, 123), (128, 129), (129, 129), (130, 131), (131, 133), (132, 133)], 123) := by decide +kernel
theorem d_Exprs_levelOf_124 : decode b_Exprs_levelOf 124 = .ok (.iconst 1, 1) := by decide +kernel
theorem d_Exprs_levelOf_125 : decode b_Exprs_levelOf 125 = .ok (.ireturn, 1) := by decide +kernel
theorem d_Exprs_levelOf_126 : decode b_Exprs_levelOf 126 = .ok (.iconst 2, 1) := by decide +kernel
theorem d_Exprs_levelOf_127 : decode b_Exprs_levelOf 127 = .ok (.ireturn, 1) := by decide +kernel
theorem d_Exprs_levelOf_128 : decode b_Exprs_levelOf 128 = .ok (.iconst 3, 1) := by decide +kernel
theorem d_Exprs_levelOf_129 : decode b_Exprs_levelOf 129 = .ok (.ireturn, 1) := by decide +kernel
theorem d_Exprs_levelOf_130 : decode b_Exprs_levelOf 130 = .ok (.iconst 4, 1) := by decide +kernel
theorem d_Exprs_levelOf_131 : decode b_Exprs_levelOf 131 = .ok (.ireturn, 1) := by decide +kernel
theorem d_Exprs_levelOf_132 : decode b_Exprs_levelOf 132 = .ok (.iconst 5, 1) := by decide +kernel
theorem d_Exprs_levelOf_133 : decode b_Exprs_levelOf 133 = .ok (.ireturn, 1) := by decide +kernel
theorem d_Exprs_levelOf_134 : decode b_Exprs_levelOf 134 = .ok (.bipush 6, 2) := by decide +kernel
theorem d_Exprs_levelOf_136 : decode b_Exprs_levelOf 136 = .ok (.ireturn, 1) := by decide +kernel
theorem d_Exprs_levelOf_137 : decode b_Exprs_levelOf 137 = .ok (.bipush 7, 2) := by decide +kernel
theorem d_Exprs_levelOf_139 : decode b_Exprs_levelOf 139 = .ok (.ireturn, 1) := by decide +kernel
theorem d_Exprs_levelOf_140 : decode b_Exprs_levelOf 140 = .ok (.bipush 8, 2) := by decide +kernel
theorem d_Exprs_levelOf_142 : decode b_Exprs_levelOf 142 = .ok (.ireturn, 1) := by decide +kernel
theorem d_Exprs_levelOf_143 : decode b_Exprs_levelOf 143 = .ok (.iconst 0, 1) := by decide +kernel
theorem d_Exprs_levelOf_144 : decode b_Exprs_levelOf 144 = .ok (.ireturn, 1) := by decide +kernel
set_option maxHeartbeats 4000000 in
set_option maxRecDepth 100000 in
theorem c_Exprs_levelOf (l : Launch) {dA : FieldType → ClassId} {D : va_G} {al : Nat → Nat} {ext : mv_Sh} {sk sv : Nat → Nat} (hi : mv_inj (mg dA D al ext)) (σ : mv_H) (k9 : Int32) : mv_C l y_Exprs_levelOf (Cond.code y_Exprs_levelOf b_Exprs_levelOf 1 (Option.some Jvm.ClassFile.FieldType.int) :: ma) ({ frames := 0, cells := 0, slots := 0, locals := 0 }) (mg dA D al ext) (mK sk sv) [.int k9] σ (mv_Ri (fun v σ1 => σ1 = σ ∧ v.toInt = lvl k9)) := by
  refine mv_C.ofV (cc := b_Exprs_levelOf) (nL := 1) (ret := (Option.some Jvm.ClassFile.FieldType.int)) (by decide +kernel) rfl hi (Nat.le_of_ble_eq_true rfl) ?_
  intro p e s m below meth c B hNs hr hnm hno
  refine mv_iload_n (pc := 0) B d_Exprs_levelOf_0 rfl 0 rfl ?_
  refine mv_lsw (pc := 1) B d_Exprs_levelOf_1 (by decide) (by decide) ?_
  refine ⟨fun h1 => ?_, fun h1n37 => ?_⟩
  · skip
    have h1 : k9 = 37 := Int32.toInt_inj.mp (show k9.toInt = (37 : Int32).toInt from h1)
    subst h1
    refine mv_bipush (pc := 140) (v := 8) B d_Exprs_levelOf_140 (by decide) ?_
    exact mv_iret (pc := 142) B hr rfl d_Exprs_levelOf_142 (Nat.le_refl _) (Nat.le_refl _) ⟨_, rfl, rfl, by decide⟩
  refine ⟨fun h1 => ?_, fun h1n38 => ?_⟩
  · skip
    have h1 : k9 = 38 := Int32.toInt_inj.mp (show k9.toInt = (38 : Int32).toInt from h1)
    subst h1
    refine mv_iconst (pc := 128) (v := 3) B d_Exprs_levelOf_128 (by decide) ?_
    exact mv_iret (pc := 129) B hr rfl d_Exprs_levelOf_129 (Nat.le_refl _) (Nat.le_refl _) ⟨_, rfl, rfl, by decide⟩
  refine ⟨fun h1 => ?_, fun h1n42 => ?_⟩
  · skip
    have h1 : k9 = 42 := Int32.toInt_inj.mp (show k9.toInt = (42 : Int32).toInt from h1)
    subst h1
    refine mv_bipush (pc := 140) (v := 8) B d_Exprs_levelOf_140 (by decide) ?_
    exact mv_iret (pc := 142) B hr rfl d_Exprs_levelOf_142 (Nat.le_refl _) (Nat.le_refl _) ⟨_, rfl, rfl, by decide⟩
  refine ⟨fun h1 => ?_, fun h1n43 => ?_⟩
  · skip
    have h1 : k9 = 43 := Int32.toInt_inj.mp (show k9.toInt = (43 : Int32).toInt from h1)
    subst h1
    refine mv_bipush (pc := 137) (v := 7) B d_Exprs_levelOf_137 (by decide) ?_
    exact mv_iret (pc := 139) B hr rfl d_Exprs_levelOf_139 (Nat.le_refl _) (Nat.le_refl _) ⟨_, rfl, rfl, by decide⟩
  refine ⟨fun h1 => ?_, fun h1n45 => ?_⟩
  · skip
    have h1 : k9 = 45 := Int32.toInt_inj.mp (show k9.toInt = (45 : Int32).toInt from h1)
    subst h1
    refine mv_bipush (pc := 137) (v := 7) B d_Exprs_levelOf_137 (by decide) ?_
    exact mv_iret (pc := 139) B hr rfl d_Exprs_levelOf_139 (Nat.le_refl _) (Nat.le_refl _) ⟨_, rfl, rfl, by decide⟩
  refine ⟨fun h1 => ?_, fun h1n47 => ?_⟩
  · skip
    have h1 : k9 = 47 := Int32.toInt_inj.mp (show k9.toInt = (47 : Int32).toInt from h1)
    subst h1
    refine mv_bipush (pc := 140) (v := 8) B d_Exprs_levelOf_140 (by decide) ?_
    exact mv_iret (pc := 142) B hr rfl d_Exprs_levelOf_142 (Nat.le_refl _) (Nat.le_refl _) ⟨_, rfl, rfl, by decide⟩
  refine ⟨fun h1 => ?_, fun h1n60 => ?_⟩
  · skip
    have h1 : k9 = 60 := Int32.toInt_inj.mp (show k9.toInt = (60 : Int32).toInt from h1)
    subst h1
    refine mv_iconst (pc := 132) (v := 5) B d_Exprs_levelOf_132 (by decide) ?_
    exact mv_iret (pc := 133) B hr rfl d_Exprs_levelOf_133 (Nat.le_refl _) (Nat.le_refl _) ⟨_, rfl, rfl, by decide⟩
  refine ⟨fun h1 => ?_, fun h1n94 => ?_⟩
  · skip
    have h1 : k9 = 94 := Int32.toInt_inj.mp (show k9.toInt = (94 : Int32).toInt from h1)
    subst h1
    refine mv_iconst (pc := 126) (v := 2) B d_Exprs_levelOf_126 (by decide) ?_
    exact mv_iret (pc := 127) B hr rfl d_Exprs_levelOf_127 (Nat.le_refl _) (Nat.le_refl _) ⟨_, rfl, rfl, by decide⟩
  refine ⟨fun h1 => ?_, fun h1n124 => ?_⟩
  · skip
    have h1 : k9 = 124 := Int32.toInt_inj.mp (show k9.toInt = (124 : Int32).toInt from h1)
    subst h1
    refine mv_iconst (pc := 124) (v := 1) B d_Exprs_levelOf_124 (by decide) ?_
    exact mv_iret (pc := 125) B hr rfl d_Exprs_levelOf_125 (Nat.le_refl _) (Nat.le_refl _) ⟨_, rfl, rfl, by decide⟩
  refine ⟨fun h1 => ?_, fun h1n128 => ?_⟩
  · skip
    have h1 : k9 = 128 := Int32.toInt_inj.mp (show k9.toInt = (128 : Int32).toInt from h1)
    subst h1
    refine mv_iconst (pc := 130) (v := 4) B d_Exprs_levelOf_130 (by decide) ?_
    exact mv_iret (pc := 131) B hr rfl d_Exprs_levelOf_131 (Nat.le_refl _) (Nat.le_refl _) ⟨_, rfl, rfl, by decide⟩
  refine ⟨fun h1 => ?_, fun h1n129 => ?_⟩
  · skip
    have h1 : k9 = 129 := Int32.toInt_inj.mp (show k9.toInt = (129 : Int32).toInt from h1)
    subst h1
    refine mv_iconst (pc := 130) (v := 4) B d_Exprs_levelOf_130 (by decide) ?_
    exact mv_iret (pc := 131) B hr rfl d_Exprs_levelOf_131 (Nat.le_refl _) (Nat.le_refl _) ⟨_, rfl, rfl, by decide⟩
  refine ⟨fun h1 => ?_, fun h1n130 => ?_⟩
  · skip
    have h1 : k9 = 130 := Int32.toInt_inj.mp (show k9.toInt = (130 : Int32).toInt from h1)
    subst h1
    refine mv_iconst (pc := 132) (v := 5) B d_Exprs_levelOf_132 (by decide) ?_
    exact mv_iret (pc := 133) B hr rfl d_Exprs_levelOf_133 (Nat.le_refl _) (Nat.le_refl _) ⟨_, rfl, rfl, by decide⟩
  refine ⟨fun h1 => ?_, fun h1n131 => ?_⟩
  · skip
    have h1 : k9 = 131 := Int32.toInt_inj.mp (show k9.toInt = (131 : Int32).toInt from h1)
    subst h1
    refine mv_bipush (pc := 134) (v := 6) B d_Exprs_levelOf_134 (by decide) ?_
    exact mv_iret (pc := 136) B hr rfl d_Exprs_levelOf_136 (Nat.le_refl _) (Nat.le_refl _) ⟨_, rfl, rfl, by decide⟩
  refine ⟨fun h1 => ?_, fun h1n132 => ?_⟩
  · skip
    have h1 : k9 = 132 := Int32.toInt_inj.mp (show k9.toInt = (132 : Int32).toInt from h1)
    subst h1
    refine mv_bipush (pc := 134) (v := 6) B d_Exprs_levelOf_134 (by decide) ?_
    exact mv_iret (pc := 136) B hr rfl d_Exprs_levelOf_136 (Nat.le_refl _) (Nat.le_refl _) ⟨_, rfl, rfl, by decide⟩
  show mv_V _ _ _ _ _ _ _ _ _ _ _ _ _ _ _ _ 143 _ _
  have n37 : ¬ k9 = 37 := fun q => h1n37 (by rw [q]; rfl)
  have n38 : ¬ k9 = 38 := fun q => h1n38 (by rw [q]; rfl)
  have n42 : ¬ k9 = 42 := fun q => h1n42 (by rw [q]; rfl)
  have n43 : ¬ k9 = 43 := fun q => h1n43 (by rw [q]; rfl)
  have n45 : ¬ k9 = 45 := fun q => h1n45 (by rw [q]; rfl)
  have n47 : ¬ k9 = 47 := fun q => h1n47 (by rw [q]; rfl)
  have n60 : ¬ k9 = 60 := fun q => h1n60 (by rw [q]; rfl)
  have n94 : ¬ k9 = 94 := fun q => h1n94 (by rw [q]; rfl)
  have n124 : ¬ k9 = 124 := fun q => h1n124 (by rw [q]; rfl)
  have n128 : ¬ k9 = 128 := fun q => h1n128 (by rw [q]; rfl)
  have n129 : ¬ k9 = 129 := fun q => h1n129 (by rw [q]; rfl)
  have n130 : ¬ k9 = 130 := fun q => h1n130 (by rw [q]; rfl)
  have n131 : ¬ k9 = 131 := fun q => h1n131 (by rw [q]; rfl)
  have n132 : ¬ k9 = 132 := fun q => h1n132 (by rw [q]; rfl)
  refine mv_iconst (pc := 143) (v := 0) B d_Exprs_levelOf_143 (by decide) ?_
  exact mv_iret (pc := 144) B hr rfl d_Exprs_levelOf_144 (Nat.le_refl _) (Nat.le_refl _) ⟨_, rfl, rfl, by unfold lvl; rw [if_neg n124, if_neg n94, if_neg n38, if_neg (by rintro (q | q) <;> contradiction), if_neg (by rintro (q | q) <;> contradiction), if_neg (by rintro (q | q) <;> contradiction), if_neg (by rintro (q | q) <;> contradiction), if_neg (by rintro (q | q | q) <;> contradiction)]; decide⟩
