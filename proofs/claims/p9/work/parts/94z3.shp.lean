/-! the shipped program's codes -/
/-- what the shipped program's tables say of its codes -/
def SHP (σ : mv_H) : Prop := mv_i σ 145 0 = nI 32 ∧ (∀ k, k < 48 → bcI (mv_b σ 150 k) = nI (32 - (shO (nI k)).toNatClampNeg)) ∧ mv_i σ 145 1 = nI 3 ∧ (mv_a σ 146 0 = nI 32 ∧ mv_a σ 146 1 = nI 32 ∧ mv_a σ 146 2 = nI 8) ∧ mv_a σ 147 0 = nI 0 ∧ mv_a σ 147 1 = nI 32 ∧ mv_a σ 147 2 = nI 32768
theorem SHP.fr {σ τ : mv_H} (h : SHP σ) (e0 : mv_i τ 145 = mv_i σ 145) (e5 : mv_b τ 150 = mv_b σ 150) (e1 : mv_a τ 146 = mv_a σ 146) (e2 : mv_a τ 147 = mv_a σ 147) : SHP τ := by
  unfold SHP
  rw [e0, e5, e1, e2]
  exact h
def uF : Nat → Int64
  | 0 => pwr (nI 32)
  | n + 1 => uF n - pwr (nI 32 - nI (32 - (shO (nI n)).toNatClampNeg))
theorem uF_48 : uF 48 = 4294967296 - shT 48 := by decide +kernel
theorem SHP.free {σ : mv_H} (h : SHP σ) : uC (mv_b σ 150) (mv_i σ 145 0) 48 = 4294967296 - shT 48 := by
  rw [h.1, ← uF_48]
  have go : ∀ n, n ≤ 48 → uC (mv_b σ 150) (nI 32) n = uF n := by
    intro n
    induction n with
    | zero => intro _; rfl
    | succ n ih =>
      intro hn
      show uC (mv_b σ 150) (nI 32) n - pwr (nI 32 - bcI (mv_b σ 150 n)) = uF n - pwr (nI 32 - nI (32 - (shO (nI n)).toNatClampNeg))
      rw [ih (by omega), h.2.1 n (by omega)]
  exact go 48 (Nat.le_refl _)
def xck2 (r : xE) : Bool := Nat.beq (ep_g r.1 21) 4 && Nat.beq (ep_g (xL_146 r.2) 0) 33 && Nat.beq (ep_g (xL_146 r.2) 1) 33 && Nat.beq (ep_g (xL_146 r.2) 2) 9 && Nat.beq (ep_g (xL_147 r.2) 0) 1 && Nat.beq (ep_g (xL_147 r.2) 1) 33 && Nat.beq (ep_g (xL_147 r.2) 2) 32769
def xck (r : xE) : Bool := xck2 r && Nat.beq (ep_g r.1 20) 33 && Nat.beq (ep_g r.1 26) 49 && (List.range 48).all (fun k => Nat.ble 1 (ep_g (xL_150 r.2) k) && Nat.beq (pcK 64 (ep_g (xL_150 r.2) k - 1)) (32 - (shO (nI k)).toNatClampNeg) && Nat.ble (ep_g (xL_150 r.2) k) 4294967296)
theorem xwv_ok2 : (match xwv with
  | some r => xck r.2
  | none => false) = true := by decide +kernel
theorem xwv_e2 : ∃ rv rg, g_Weaver_weave xtx xsz = some (rv, rg) ∧ ep_g rg.1 26 = 48 + 1 ∧ ep_g rg.1 20 = 32 + 1 ∧ (∀ k, k < 48 → ∃ v, ep_g (xL_150 rg.2) k = v + 1 ∧ v < 4294967296 ∧ pcK 64 v = 32 - (shO (nI k)).toNatClampNeg) ∧ xck2 rg = true := by
  have h := xwv_ok2
  cases e : xwv with
  | none => rw [e] at h; cases h
  | some r =>
    rw [e] at h
    have h : (xck2 r.2 && Nat.beq (ep_g r.2.1 20) 33 && Nat.beq (ep_g r.2.1 26) 49 && (List.range 48).all (fun k => Nat.ble 1 (ep_g (xL_150 r.2.2) k) && Nat.beq (pcK 64 (ep_g (xL_150 r.2.2) k - 1)) (32 - (shO (nI k)).toNatClampNeg) && Nat.ble (ep_g (xL_150 r.2.2) k) 4294967296)) = true := h
    rw [Bool.and_eq_true, Bool.and_eq_true, Bool.and_eq_true, List.all_eq_true] at h
    obtain ⟨⟨⟨h0, h1⟩, h2⟩, h3⟩ := h
    refine ⟨r.1, r.2, e, Nat.eq_of_beq_eq_true h2, Nat.eq_of_beq_eq_true h1, fun k hk => ?_, h0⟩
    have h4 := h3 k (List.mem_range.mpr hk)
    rw [Bool.and_eq_true, Bool.and_eq_true] at h4
    obtain ⟨⟨a, b⟩, d⟩ := h4
    have a := Nat.le_of_ble_eq_true a
    have d := Nat.le_of_ble_eq_true d
    exact ⟨ep_g (xL_150 r.2.2) k - 1, by omega, by omega, Nat.eq_of_beq_eq_true b⟩
theorem c_Weaver_weave_t2 (l : Launch) {dA : FieldType → ClassId} {D : va_G} {al : Nat → Nat} {sk sv : Nat → Nat} (hi : mv_inj (mg dA D al me)) (σ : mv_H) (len : Nat) (w : Int32) (hm : mh (mv_r σ)) (hq : Ph 145 (mv_r σ)) (hw : w.toInt = len) (hl1 : len ≤ 8192) (hby8 : ∀ i, i < 8192 → -128 ≤ (mv_a σ 144 i).toInt ∧ (mv_a σ 144 i).toInt ≤ 127) (hk0 : mv_a σ 4 0 = 0) (hp0 : 0 ≤ (mv_a σ 5 0).toInt) (hb0 : mv_b σ 6 0 = 0) (hNs0 : Ns σ) (hMt0 : Mt (mv_a σ 24)) (hM9 : qc (mv_a σ 144) len ≤ 96) (hT : TXT σ) (hw9 : w = mv_i σ 143 1) : mv_C l y_Weaver_weave (Cond.code y_Weaver_weave b_Weaver_weave 6 (Option.some Jvm.ClassFile.FieldType.boolean) :: ma) ({ frames := 7, cells := 0, slots := 0, locals := 176 }) (mg dA D al me) (mK sk sv) [.ref (al 2), .ref (al 144), .int w, .ref (al 145)] σ (mv_Ri (fun v σ1 => WV 145 8192 48 144 σ v σ1 ∧ mv_i σ1 145 10 = 48 ∧ SHP σ1)) := by
  obtain ⟨rv, rg, e1, e2, e3, e4, e5⟩ := xwv_e2
  unfold xck2 at e5
  simp only [Bool.and_eq_true] at e5
  obtain ⟨⟨⟨⟨⟨⟨t0, t1⟩, t2⟩, t3⟩, t4⟩, t5⟩, t6⟩ := e5
  have es := ab_txt hT xtl_0
  have ew : w = nI xsz := hw9.trans hT.1
  have X := cx_Weaver_weave (sk := sk) (sv := sv) l hi σ ⟨hm, hq⟩ hNs0 xtx xsz e1
  rw [es] at X
  have S := c_Weaver_weave_c (sk := sk) (sv := sv) l hi σ 144 8192 len w hm hq rfl (Or.inr rfl) hw hl1 (by decide) hby8 hk0 hp0 hb0 hNs0 hMt0 hl1 (by omega) (Or.inr hM9)
  rw [← ew] at X
  refine (S.twoi X).imp (fun r τ q => ?_)
  obtain ⟨v, q1, q2, υ, q3, q4⟩ := q
  obtain ⟨-, b2, -, q5⟩ := q3
  have q6 := q4.ag
  have ta : ∀ k u, k < 64 → ep_g (xL_146 rg.2) k = u + 1 → mv_a τ 146 k = nI u := fun k u hk hu => by
    have w1 := xfa_146 (b := b2) (h := rg) hk hu
    rw [cln (by omega)] at w1
    rw [q6.a (o := 146) (n := 64) rfl (by decide) hk, q5, w1]
  have tb : ∀ k u, k < 64 → ep_g (xL_147 rg.2) k = u + 1 → mv_a τ 147 k = nI u := fun k u hk hu => by
    have w1 := xfa_147 (b := b2) (h := rg) hk hu
    rw [cln (by omega)] at w1
    rw [q6.a (o := 147) (n := 64) rfl (by decide) hk, q5, w1]
  refine ⟨v, q1, q2, ?_, ?_, fun k hk => ?_, ?_, ⟨ta 0 32 (by decide) (Nat.eq_of_beq_eq_true t1), ta 1 32 (by decide) (Nat.eq_of_beq_eq_true t2), ta 2 8 (by decide) (Nat.eq_of_beq_eq_true t3)⟩, tb 0 0 (by decide) (Nat.eq_of_beq_eq_true t4), tb 1 32 (by decide) (Nat.eq_of_beq_eq_true t5), tb 2 32768 (by decide) (Nat.eq_of_beq_eq_true t6)⟩
  · rw [q4.i (o := 145) (ci := 7) (k := 10) rfl (by show 10 < mv_nf mc_cl 7; decide) rfl, q5]
    exact xfi_145_10 e2
  · rw [q4.i (o := 145) (ci := 7) (k := 0) rfl (by show 0 < mv_nf mc_cl 7; decide) rfl, q5]
    exact xfi_145_0 e3
  · obtain ⟨u, u1, u2, u3⟩ := e4 k hk
    have u4 := xfb_150 (b := b2) (h := rg) hk u1
    rw [cln (by omega)] at u4
    rw [q6.b (o := 150) (n := 48) rfl hk, q5, u4]
    unfold bcI
    rw [nJ_n (by omega), u3]
  · rw [q4.i (o := 145) (ci := 7) (k := 1) rfl (by show 1 < mv_nf mc_cl 7; decide) rfl, q5]
    exact xfi_145_1 (Nat.eq_of_beq_eq_true t0)
