/-! the shipped program's codes -/
/-! the letters of the shipped codes: where they lie -/
def bt9 (a k b : Nat) : Bool := Nat.ble a k && Nat.ble k b
def shL (k c : Nat) : Option (Nat × Nat) :=
  bif bt9 37 k 39 then none
  else bif Nat.beq c 100 then (bif bt9 4 k 9 || bt9 15 k 17 then none else some (11, 7))
  else bif Nat.beq c 115 then (bif Nat.ble k 2 then none else some (19, 15))
  else bif Nat.beq c 116 then (bif bt9 4 k 9 || bt9 15 k 17 || Nat.ble 27 k then some (24, 20) else none)
  else bif Nat.beq c 105 then (bif Nat.ble k 1 then some (31, 12) else bif bt9 15 k 17 then some (31, 25) else bif Nat.beq k 3 || bt9 10 k 14 || bt9 18 k 23 then some (31, 20) else none)
  else bif Nat.beq c 106 then (bif bt9 15 k 17 then some (11, 7) else none)
  else bif Nat.beq c 104 then (bif bt9 24 k 26 then some (24, 20) else none)
  else bif Nat.beq c 97 then (bif bt9 4 k 9 || Nat.beq k 2 then some (31, 31) else none)
  else bif Nat.beq c 98 then (bif bt9 4 k 9 then some (30, 25) else bif Nat.beq k 2 then some (30, 21) else none)
  else bif Nat.beq c 99 then (bif bt9 4 k 9 then some (11, 8) else bif Nat.beq k 2 then some (20, 20) else none)
  else bif Nat.beq c 101 then (bif bt9 4 k 9 then some (7, 7) else bif Nat.beq k 2 then some (19, 12) else none)
  else none
def cov (k c p : Nat) : Bool := match shL k c with
  | none => false
  | some x => Nat.ble x.2 p && Nat.ble p x.1
def lk9 (k p : Nat) : Nat := (([100, 115, 116, 105, 106, 104, 97, 98, 99, 101] : List Nat).find? (fun c => cov k c p)).getD 0
def ltB (c : Nat) : Bool := bt9 97 c 122 || bt9 65 c 90
def sgO (b l : Nat) : Bool := bif ltB b then Nat.beq l b else Nat.beq l 0
theorem lk_all : ((List.range 48).all fun k => (List.range 32).all fun p => (List.range 128).all fun c => !ltB c || (Nat.beq (lk9 k p) c == cov k c p)) = true := by decide +kernel
theorem lk_ok {k p c : Nat} (hk : k < 48) (hp : p < 32) (hc : c < 128) (hl : ltB c = true) : lk9 k p = c ↔ cov k c p = true := by
  have h : (!ltB c || (Nat.beq (lk9 k p) c == cov k c p)) = true := List.all_eq_true.mp (List.all_eq_true.mp (List.all_eq_true.mp lk_all k (List.mem_range.mpr hk)) p (List.mem_range.mpr hp)) c (List.mem_range.mpr hc)
  rw [hl, Bool.not_true, Bool.false_or, beq_iff_eq] at h
  rw [← h]
  exact ⟨fun e => by rw [e]; first | exact Nat.beq_refl _ | simp, Nat.eq_of_beq_eq_true⟩
theorem shL_all : ((List.range 48).all fun k => (List.range 128).all fun c => match shL k c with
  | none => true
  | some x => Nat.ble 1 x.2 && Nat.ble x.2 x.1 && Nat.ble x.1 31) = true := by decide +kernel
theorem shL_b {k c hi lo : Nat} (hk : k < 48) (hc : c < 128) (h : shL k c = some (hi, lo)) : 1 ≤ lo ∧ lo ≤ hi ∧ hi ≤ 31 := by
  have q : (match shL k c with
    | none => true
    | some x => Nat.ble 1 x.2 && Nat.ble x.2 x.1 && Nat.ble x.1 31) = true := List.all_eq_true.mp (List.all_eq_true.mp shL_all k (List.mem_range.mpr hk)) c (List.mem_range.mpr hc)
  rw [h] at q
  have q : (Nat.ble 1 lo && Nat.ble lo hi && Nat.ble hi 31) = true := q
  rw [Bool.and_eq_true, Bool.and_eq_true] at q
  exact ⟨Nat.le_of_ble_eq_true q.1.1, Nat.le_of_ble_eq_true q.1.2, Nat.le_of_ble_eq_true q.2⟩
theorem shL_rA : ((List.range 48).all fun k => (List.range 128).all fun c => match shL k c with
  | none => true
  | some _ => Nat.ble 97 c && Nat.ble c 116) = true := by decide +kernel
theorem shL_r {k c : Nat} {x : Nat × Nat} (hk : k < 48) (hc : c < 128) (h : shL k c = some x) : 97 ≤ c ∧ c ≤ 116 := by
  have q : (match shL k c with
    | none => true
    | some _ => Nat.ble 97 c && Nat.ble c 116) = true := List.all_eq_true.mp (List.all_eq_true.mp shL_rA k (List.mem_range.mpr hk)) c (List.mem_range.mpr hc)
  rw [h] at q
  have q : (Nat.ble 97 c && Nat.ble c 116) = true := q
  rw [Bool.and_eq_true] at q
  exact ⟨Nat.le_of_ble_eq_true q.1, Nat.le_of_ble_eq_true q.2⟩
/-- the shipped codes: which fields are fixed (0: the low 7; 1: and 14..12; 2: and 31..25; 3: all), and to what -/
def fmT : List (Nat × Nat × Nat × Nat) := [(0, 55, 0, 0), (0, 23, 0, 0), (0, 111, 0, 0), (1, 103, 0, 0), (1, 99, 0, 0), (1, 99, 1, 0), (1, 99, 4, 0), (1, 99, 5, 0), (1, 99, 6, 0), (1, 99, 7, 0), (1, 3, 0, 0), (1, 3, 1, 0), (1, 3, 2, 0), (1, 3, 4, 0), (1, 3, 5, 0), (1, 35, 0, 0), (1, 35, 1, 0), (1, 35, 2, 0), (1, 19, 0, 0), (1, 19, 2, 0), (1, 19, 3, 0), (1, 19, 4, 0), (1, 19, 6, 0), (1, 19, 7, 0), (2, 19, 1, 0), (2, 19, 5, 0), (2, 19, 5, 32), (2, 51, 0, 0), (2, 51, 0, 32), (2, 51, 1, 0), (2, 51, 2, 0), (2, 51, 3, 0), (2, 51, 4, 0), (2, 51, 5, 0), (2, 51, 5, 32), (2, 51, 6, 0), (2, 51, 7, 0), (1, 15, 0, 0), (3, 115, 0, 0), (3, 115, 0, 0), (2, 51, 0, 1), (2, 51, 1, 1), (2, 51, 2, 1), (2, 51, 3, 1), (2, 51, 4, 1), (2, 51, 5, 1), (2, 51, 6, 1), (2, 51, 7, 1)]
def fmG (a : Nat) : Nat × Nat × Nat × Nat := fmT.getD a (0, 0, 0, 0)
def mA9 (a : Nat) : Nat := bif Nat.beq (fmG a).1 0 then 127 else bif Nat.beq (fmG a).1 1 then 28799 else bif Nat.beq (fmG a).1 2 then 4261441663 else 4294967295
def vA9 (a : Nat) : Nat := bif Nat.beq (fmG a).1 3 then (bif Nat.beq a 38 then 115 else 1048691) else (fmG a).2.1 + (fmG a).2.2.1 * 4096 + (fmG a).2.2.2 * 33554432
/-- the shipped program's codes, as numbers -/
def X7q (σ : mv_H) : Prop := ∀ k, k < 48 → mv_b σ 150 k = nJ (mA9 k) ∧ mv_b σ 151 k = nJ (vA9 k)
/-- the shipped program's signs -/
def X8q (σ : mv_H) : Prop := ∀ k, k < 48 → ∀ i, i < 32 → ∃ b, b < 128 ∧ mv_a σ 153 (k * 64 + i) = nI b ∧ sgO b (lk9 k (31 - i)) = true
def xck8 (r : xE) : Bool := (List.range 48).all (fun k => (List.range 32).all (fun i => Nat.ble 1 (ep_g (xL_153 r.2) (k * 64 + i)) && Nat.ble (ep_g (xL_153 r.2) (k * 64 + i)) 128 && sgO (ep_g (xL_153 r.2) (k * 64 + i) - 1) (lk9 k (31 - i))))
/-- what the shipped program's tables say of its codes -/
def SHP (σ : mv_H) : Prop := mv_i σ 145 0 = nI 32 ∧ (((∀ k, k < 48 → bcI (mv_b σ 150 k) = nI (32 - (shO (nI k)).toNatClampNeg)) ∧ X7q σ ∧ TreeOK 145 48 σ) ∧ X8q σ) ∧ mv_i σ 145 1 = nI 3 ∧ (mv_a σ 146 0 = nI 32 ∧ mv_a σ 146 1 = nI 32 ∧ mv_a σ 146 2 = nI 8) ∧ mv_a σ 147 0 = nI 0 ∧ mv_a σ 147 1 = nI 32 ∧ mv_a σ 147 2 = nI 32768
theorem SHP.fr {σ τ : mv_H} (h : SHP σ) (e : ∀ o, 145 ≤ o → o ≤ 160 → mv_i τ o = mv_i σ o ∧ mv_a τ o = mv_a σ o ∧ mv_b τ o = mv_b σ o) : SHP τ := by
  obtain ⟨h1, ⟨⟨h2, h3, h4⟩, h5⟩, h6, h7, h8⟩ := h
  have ei := (e 145 (by decide) (by decide)).1
  have b0 := (e 150 (by decide) (by decide)).2.2
  have b1 := (e 151 (by decide) (by decide)).2.2
  have a6 := (e 146 (by decide) (by decide)).2.1
  have a7 := (e 147 (by decide) (by decide)).2.1
  have a3 := (e 153 (by decide) (by decide)).2.1
  exact ⟨by rw [ei]; exact h1, ⟨⟨fun k hk => by rw [b0]; exact h2 k hk, fun k hk => by rw [b0, b1]; exact h3 k hk, h4.fr ei (fun j a b => (e (145 + j) (by omega) (by omega)).2.1) (fun j a b => (e (145 + j) (by omega) (by omega)).2.2)⟩, fun k hk i hi => by rw [a3]; exact h5 k hk i hi⟩, by rw [ei]; exact h6, by rw [a6]; exact h7, by rw [a7]; exact h8⟩
def uF : Nat → Int64
  | 0 => pwr (nI 32)
  | n + 1 => uF n - pwr (nI 32 - nI (32 - (shO (nI n)).toNatClampNeg))
theorem uF_48 : uF 48 = 4294967296 - shT 48 := by decide +kernel
theorem SHP.free {σ : mv_H} (h : SHP σ) : uC (mv_b σ 150) (mv_i σ 145 0) 48 = 4294967296 - shT 48 := by
  rw [h.1, ← uF_48]
  have go : ∀ n, n ≤ 48 → uC (mv_b σ 150) (nI 32) n = uF n := by
    intro n
    induction n with
    | zero => intro _; rfl
    | succ n ih =>
      intro hn
      show uC (mv_b σ 150) (nI 32) n - pwr (nI 32 - bcI (mv_b σ 150 n)) = uF n - pwr (nI 32 - nI (32 - (shO (nI n)).toNatClampNeg))
      rw [ih (by omega), h.2.1.1.1 n (by omega)]
  exact go 48 (Nat.le_refl _)
def xck7 (r : xE) : Bool := (List.range 48).all (fun k => Nat.beq (ep_g (xL_150 r.2) k) (mA9 k + 1) && Nat.beq (ep_g (xL_151 r.2) k) (vA9 k + 1))
def xck2 (r : xE) : Bool := xck7 r && xck8 r && Nat.beq (ep_g r.1 21) 4 && Nat.beq (ep_g (xL_146 r.2) 0) 33 && Nat.beq (ep_g (xL_146 r.2) 1) 33 && Nat.beq (ep_g (xL_146 r.2) 2) 9 && Nat.beq (ep_g (xL_147 r.2) 0) 1 && Nat.beq (ep_g (xL_147 r.2) 1) 33 && Nat.beq (ep_g (xL_147 r.2) 2) 32769
def xck (r : xE) : Bool := xck2 r && Nat.beq (ep_g r.1 20) 33 && Nat.beq (ep_g r.1 26) 49 && (List.range 48).all (fun k => Nat.ble 1 (ep_g (xL_150 r.2) k) && Nat.beq (pcK 64 (ep_g (xL_150 r.2) k - 1)) (32 - (shO (nI k)).toNatClampNeg) && Nat.ble (ep_g (xL_150 r.2) k) 4294967296)
theorem xwv_ok2 : (match xwv with
  | some r => xck r.2 && Nat.beq r.1 1
  | none => false) = true := by decide +kernel
theorem xwv_e2 : ∃ rv rg, g_Weaver_weave xtx xsz = some (rv, rg) ∧ ep_g rg.1 26 = 48 + 1 ∧ ep_g rg.1 20 = 32 + 1 ∧ (∀ k, k < 48 → ∃ v, ep_g (xL_150 rg.2) k = v + 1 ∧ v < 4294967296 ∧ pcK 64 v = 32 - (shO (nI k)).toNatClampNeg) ∧ xck2 rg = true ∧ rv = 1 := by
  have h := xwv_ok2
  cases e : xwv with
  | none => rw [e] at h; cases h
  | some r =>
    rw [e] at h
    have h : ((xck2 r.2 && Nat.beq (ep_g r.2.1 20) 33 && Nat.beq (ep_g r.2.1 26) 49 && (List.range 48).all (fun k => Nat.ble 1 (ep_g (xL_150 r.2.2) k) && Nat.beq (pcK 64 (ep_g (xL_150 r.2.2) k - 1)) (32 - (shO (nI k)).toNatClampNeg) && Nat.ble (ep_g (xL_150 r.2.2) k) 4294967296)) && Nat.beq r.1 1) = true := h
    rw [Bool.and_eq_true, Bool.and_eq_true, Bool.and_eq_true, Bool.and_eq_true, List.all_eq_true] at h
    obtain ⟨⟨⟨⟨h0, h1⟩, h2⟩, h3⟩, h9⟩ := h
    refine ⟨r.1, r.2, e, Nat.eq_of_beq_eq_true h2, Nat.eq_of_beq_eq_true h1, fun k hk => ?_, h0, Nat.eq_of_beq_eq_true h9⟩
    have h4 := h3 k (List.mem_range.mpr hk)
    rw [Bool.and_eq_true, Bool.and_eq_true] at h4
    obtain ⟨⟨a, b⟩, d⟩ := h4
    have a := Nat.le_of_ble_eq_true a
    have d := Nat.le_of_ble_eq_true d
    exact ⟨ep_g (xL_150 r.2.2) k - 1, by omega, by omega, Nat.eq_of_beq_eq_true b⟩
theorem c_Weaver_weave_t2 (l : Launch) {dA : FieldType → ClassId} {D : va_G} {al : Nat → Nat} {sk sv : Nat → Nat} (hi : mv_inj (mg dA D al me)) (σ : mv_H) (len : Nat) (w : Int32) (hm : mh (mv_r σ)) (hq : Ph 145 (mv_r σ)) (hw : w.toInt = len) (hl1 : len ≤ 8192) (hby8 : ∀ i, i < 8192 → -128 ≤ (mv_a σ 144 i).toInt ∧ (mv_a σ 144 i).toInt ≤ 127) (hk0 : mv_a σ 4 0 = 0) (hp0 : 0 ≤ (mv_a σ 5 0).toInt) (hb0 : mv_b σ 6 0 = 0) (hNs0 : Ns σ) (hMt0 : Mt (mv_a σ 24)) (hM9 : qc (mv_a σ 144) len ≤ 96) (hT : TXT σ) (hw9 : w = mv_i σ 143 1) : mv_C l y_Weaver_weave (Cond.code y_Weaver_weave b_Weaver_weave 6 (Option.some Jvm.ClassFile.FieldType.boolean) :: ma) ({ frames := 7, cells := 0, slots := 0, locals := 176 }) (mg dA D al me) (mK sk sv) [.ref (al 2), .ref (al 144), .int w, .ref (al 145)] σ (mv_Ri (fun v σ1 => WV 145 8192 48 144 σ v σ1 ∧ mv_i σ1 145 10 = 48 ∧ SHP σ1)) := by
  obtain ⟨rv, rg, e1, e2, e3, e4, e5, e9⟩ := xwv_e2
  unfold xck2 at e5
  simp only [Bool.and_eq_true] at e5
  obtain ⟨⟨⟨⟨⟨⟨⟨⟨t7, t8⟩, t0⟩, t1⟩, t2⟩, t3⟩, t4⟩, t5⟩, t6⟩ := e5
  have es := ab_txt hT xtl_0
  have ew : w = nI xsz := hw9.trans hT.1
  have X := cx_Weaver_weave (sk := sk) (sv := sv) l hi σ ⟨hm, hq⟩ hNs0 xtx xsz e1
  rw [es] at X
  have S := c_Weaver_weave_c (sk := sk) (sv := sv) l hi σ 144 8192 len w hm hq rfl (Or.inr rfl) hw hl1 (by decide) hby8 hk0 hp0 hb0 hNs0 hMt0 hl1 (by omega) (Or.inr hM9)
  rw [← ew] at X
  refine (S.twoi X).imp (fun r τ q => ?_)
  obtain ⟨v, q1, q2, υ, q3, q4⟩ := q
  obtain ⟨q9, b2, -, q5⟩ := q3
  have hTr : TreeOK 145 48 τ := by
    obtain ⟨-, _, _, -, -, -, hv⟩ := id q2
    rcases hv with ⟨z, -⟩ | ⟨-, -, z, -⟩
    · rw [z, e9] at q9
      exact absurd q9 (by decide)
    · exact z
  have q6 := q4.ag
  have ta : ∀ k u, k < 64 → ep_g (xL_146 rg.2) k = u + 1 → mv_a τ 146 k = nI u := fun k u hk hu => by
    have w1 := xfa_146 (b := b2) (h := rg) hk hu
    rw [cln (by omega)] at w1
    rw [q6.a (o := 146) (n := 64) rfl (by decide) hk, q5, w1]
  have tb : ∀ k u, k < 64 → ep_g (xL_147 rg.2) k = u + 1 → mv_a τ 147 k = nI u := fun k u hk hu => by
    have w1 := xfa_147 (b := b2) (h := rg) hk hu
    rw [cln (by omega)] at w1
    rw [q6.a (o := 147) (n := 64) rfl (by decide) hk, q5, w1]
  refine ⟨v, q1, q2, ?_, ?_, ⟨⟨fun k hk => ?_, fun k hk => ?_, hTr⟩, fun k hk i hi => ?_⟩, ?_, ⟨ta 0 32 (by decide) (Nat.eq_of_beq_eq_true t1), ta 1 32 (by decide) (Nat.eq_of_beq_eq_true t2), ta 2 8 (by decide) (Nat.eq_of_beq_eq_true t3)⟩, tb 0 0 (by decide) (Nat.eq_of_beq_eq_true t4), tb 1 32 (by decide) (Nat.eq_of_beq_eq_true t5), tb 2 32768 (by decide) (Nat.eq_of_beq_eq_true t6)⟩
  · rw [q4.i (o := 145) (ci := 7) (k := 10) rfl (by show 10 < mv_nf mc_cl 7; decide) rfl, q5]
    exact xfi_145_10 e2
  · rw [q4.i (o := 145) (ci := 7) (k := 0) rfl (by show 0 < mv_nf mc_cl 7; decide) rfl, q5]
    exact xfi_145_0 e3
  · obtain ⟨u, u1, u2, u3⟩ := e4 k hk
    have u4 := xfb_150 (b := b2) (h := rg) hk u1
    rw [cln (by omega)] at u4
    rw [q6.b (o := 150) (n := 48) rfl hk, q5, u4]
    unfold bcI
    rw [nJ_n (by omega), u3]
  · have t : (Nat.beq (ep_g (xL_150 rg.2) k) (mA9 k + 1) && Nat.beq (ep_g (xL_151 rg.2) k) (vA9 k + 1)) = true := List.all_eq_true.mp t7 k (List.mem_range.mpr hk)
    rw [Bool.and_eq_true] at t
    have w1 := xfb_150 (b := b2) (h := rg) hk (Nat.eq_of_beq_eq_true t.1)
    have w2 := xfb_151 (b := b2) (h := rg) hk (Nat.eq_of_beq_eq_true t.2)
    rw [cln (by omega)] at w1 w2
    exact ⟨by rw [q6.b (o := 150) (n := 48) rfl hk, q5, w1], by rw [q6.b (o := 151) (n := 48) rfl hk, q5, w2]⟩
  · have t : (Nat.ble 1 (ep_g (xL_153 rg.2) (k * 64 + i)) && Nat.ble (ep_g (xL_153 rg.2) (k * 64 + i)) 128 && sgO (ep_g (xL_153 rg.2) (k * 64 + i) - 1) (lk9 k (31 - i))) = true := List.all_eq_true.mp (List.all_eq_true.mp t8 k (List.mem_range.mpr hk)) i (List.mem_range.mpr hi)
    rw [Bool.and_eq_true, Bool.and_eq_true] at t
    obtain ⟨⟨a, b⟩, d⟩ := t
    have a := Nat.le_of_ble_eq_true a
    have b := Nat.le_of_ble_eq_true b
    refine ⟨ep_g (xL_153 rg.2) (k * 64 + i) - 1, by omega, ?_, d⟩
    have w1 := xfa_153 (b := b2) (h := rg) (k := k * 64 + i) (v := ep_g (xL_153 rg.2) (k * 64 + i) - 1) (by omega) (by omega)
    rw [cln (by omega)] at w1
    rw [q6.a (o := 153) (n := 3072) rfl (by decide) (by omega), q5, w1]
  · rw [q4.i (o := 145) (ci := 7) (k := 1) rfl (by show 1 < mv_nf mc_cl 7; decide) rfl, q5]
    exact xfi_145_1 (Nat.eq_of_beq_eq_true t0)
