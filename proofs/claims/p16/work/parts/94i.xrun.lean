/-! two contracts of one call hold together; the shipped text, woven -/
theorem met_two {l : Launch} {x : MethodName} {S : Spec} {P : Array Value → State → Prop} {K : Program → Env → List Frame → State → Array Value → Prop} {Q1 Q2 : Array Value → State → Outcome → State → Prop} (h1 : MetFree l x S P K Q1) (h2 : MetFree l x S P K Q2) : MetFree l x S P K (fun a s o t => Q1 a s o t ∧ Q2 a s o t) := by
  intro p e he hc hk s m args below hf hs hp hK
  obtain ⟨n1, o1, w1, r1, e1, q1⟩ := h1 p e he hc hk s m args below hf hs hp hK
  obtain ⟨n2, o2, w2, r2, e2, q2⟩ := h2 p e he hc hk s m args below hf hs hp hK
  have en : n1 = n2 := by
    rcases Nat.lt_trichotomy n1 n2 with h | h | h
    · exact absurd (w2 n1 h) e1.not_within
    · exact h
    · exact absurd (w1 n2 h) e2.not_within
  subst en
  have eo := e1.outcome_unique e2
  subst eo
  exact ⟨n1, o1, w1, r1, e1, q1, q2⟩
/-- two heaps that tell of the same cells -/
def mv_same (G : mv_G) (τ υ : mv_H) : Prop := ∃ H : Heap, va_P (mv_D G) (mv_cl G) (mv_wl G τ) H ∧ va_P (mv_D G) (mv_cl G) (mv_wl G υ) H
theorem mv_same.i {G : mv_G} {τ υ : mv_H} (h : mv_same G τ υ) {o ci k : Nat} (hs : (mv_sh G)[o]? = some (.inl ci)) (hk : k < mv_nf (mv_cl G) ci) (hty : mv_isI (mv_ft G ci k) = true) : mv_i τ o k = mv_i υ o k := by
  obtain ⟨H, h1, h2⟩ := h
  obtain ⟨r1, z1, c1, q1, -, -, s1⟩ := h1 o _ (mv_wl_o τ hs)
  obtain ⟨r2, z2, c2, q2, -, -, s2⟩ := h2 o _ (mv_wl_o υ hs)
  have er : r1 = r2 := Option.some.inj (z1.symm.trans z2)
  subst er
  have ec : c1 = c2 := Option.some.inj (q1.symm.trans q2)
  subst ec
  have z3 : (mv_cl G)[ci]? = some r1 := z1
  have hn : mv_nf (mv_cl G) ci = r1.2.2 := by unfold mv_nf; rw [z3]
  have e1 := s1 k (by rw [← hn]; exact hk)
  have e2 := s2 k (by rw [← hn]; exact hk)
  have e3 : vp_V (mv_fs G τ ci o) k = vp_V (mv_fs G υ ci o) k := Option.some.inj (e1.symm.trans e2)
  have v : ∀ ρ : mv_H, vp_V (mv_fs G ρ ci o) k = .int (mv_i ρ o k) := fun ρ => by
    unfold vp_V
    rw [List.getD_eq_getElem?_getD, mv_fs_at ρ hk, mv_fvI hty]
    rfl
  rw [v, v] at e3
  injection e3
theorem mv_same.a {G : mv_G} {τ υ : mv_H} (h : mv_same G τ υ) {o n k : Nat} {ty : FieldType} (hs : (mv_sh G)[o]? = some (.inr (ty, n))) (hty : ¬ ty = .long) (hk : k < n) : mv_a τ o k = mv_a υ o k := by
  obtain ⟨H, h1, h2⟩ := h
  have v : ∀ ρ : mv_H, mv_ac ty n ρ o = (n, .inl (mv_a ρ o)) := fun ρ => by
    unfold mv_ac
    split
    · exact absurd rfl hty
    · rfl
  have e1 : H[mv_al G o]? = some (vp_cell (mv_dA G ty) (mv_ac ty n τ o)) := h1 o _ (mv_wl_a τ hs)
  have e2 : H[mv_al G o]? = some (vp_cell (mv_dA G ty) (mv_ac ty n υ o)) := h2 o _ (mv_wl_a υ hs)
  rw [v, vp_cell_i] at e1 e2
  have e3 := Option.some.inj (e1.symm.trans e2)
  have e4 := arrV_read (mv_dA G ty) (fun j => Value.int (mv_a τ o j)) hk
  rw [e3, arrV_read _ _ hk] at e4
  injection (Option.some.inj e4) with e5
  exact e5.symm
section TWO
variable {l : Launch} {y : MethodName} {ws : List Cond} {rm : Room} {G : mv_G} {K : mv_T} {av : List Value} {σ : mv_H}
theorem mv_C.twoi {P Q : Int32 → mv_H → Prop} (h1 : mv_C l y ws rm G K av σ (mv_Ri P)) (h2 : mv_C l y ws rm G K av σ (mv_Ri Q)) : mv_C l y ws rm G K av σ (mv_Ri (fun v τ => P v τ ∧ ∃ υ, Q v υ ∧ mv_same G τ υ)) :=
  Jvm.Free.MetFree.mono (met_two h1 h2) (fun _ _ q => q) (fun _ _ _ _ _ q => q) (fun _ s o t _ q => by
    obtain ⟨⟨r, τ, a1, ⟨v, a2, a3⟩, a4⟩, r2, υ, b1, ⟨v2, b2, b3⟩, b4⟩ := q
    subst a2; subst b2
    have ev : v = v2 := by
      have e1 : o = .returned (some (.int v)) := a1
      have e2 : o = .returned (some (.int v2)) := b1
      rw [e1] at e2
      injection e2 with e3
      injection e3 with e4
      injection e4
    subst ev
    exact ⟨_, τ, a1, ⟨v, rfl, a3, υ, b3, t.heap, a4.1, b4.1⟩, a4⟩)
theorem mv_C.twov {P Q : mv_H → Prop} (h1 : mv_C l y ws rm G K av σ (mv_Rv P)) (h2 : mv_C l y ws rm G K av σ (mv_Rv Q)) : mv_C l y ws rm G K av σ (mv_Rv (fun τ => P τ ∧ ∃ υ, Q υ ∧ mv_same G τ υ)) :=
  Jvm.Free.MetFree.mono (met_two h1 h2) (fun _ _ q => q) (fun _ _ _ _ _ q => q) (fun _ s o t _ q => by
    obtain ⟨⟨r, τ, a1, ⟨a2, a3⟩, a4⟩, r2, υ, b1, ⟨b2, b3⟩, b4⟩ := q
    subst a2
    exact ⟨_, τ, a1, ⟨rfl, a3, υ, b3, t.heap, a4.1, b4.1⟩, a4⟩)
end TWO
def xo6 : x6 := ((((((0, 0), (0, 0)), ((0, 0), (0, 0))), (((0, 0), (0, 0)), ((0, 0), (0, 0)))), ((((0, 0), (0, 0)), ((0, 0), (0, 0))), (((0, 0), (0, 0)), ((0, 0), (0, 0))))), (((((0, 0), (0, 0)), ((0, 0), (0, 0))), (((0, 0), (0, 0)), ((0, 0), (0, 0)))), ((((0, 0), (0, 0)), ((0, 0), (0, 0))), (((0, 0), (0, 0)), ((0, 0), (0, 0))))))
def xh0 : xE := (ep_s 0 19 0, xo6)
def xw1 : Option xE := g_Shipped_write xh0
/-- the text's row, and how long it is -/
def xtlO (o : Option xE) : Nat := match o with
  | some h => xL_144 h.2
  | none => 0
def xszO (o : Option xE) : Nat := match o with
  | some h => ep_g h.1 19 - 1
  | none => 0
def xtl : Nat := xtlO xw1
def xsz : Nat := xszO xw1
def xtx : xE := (0, xS_144 xo6 xtl)
def xwv : Option (Nat × xE) := g_Weaver_weave xtx xsz
theorem xw1_ok : (match xw1 with
  | some h => Nat.ble (ep_g h.1 19) 8193 && Nat.ble 2 (ep_g h.1 19)
  | none => false) = true := by decide +kernel
theorem xwv_ok : (match xwv with
  | some r => Nat.beq (ep_g r.2.1 26) 49
  | none => false) = true := by decide +kernel
theorem xwv_e : ∃ rv rg, g_Weaver_weave xtx xsz = some (rv, rg) ∧ ep_g rg.1 26 = 48 + 1 := by
  have h := xwv_ok
  cases e : xwv with
  | none => rw [e] at h; cases h
  | some r => rw [e] at h; exact ⟨r.1, r.2, e, Nat.eq_of_beq_eq_true h⟩
/-- the text stands in its row -/
def TXT (τ : mv_H) : Prop := mv_i τ 143 1 = nI xsz ∧ ∀ k v, ep_g xtl k = v + 1 → k < 8192 → mv_a τ 144 k = nI v
theorem xo6_0 (i : Nat) : xg6 xo6 i = 0 := by
  unfold xg6 xgS xg1 xo6
  repeat' split
  all_goals rfl
theorem ab_0 (b : mv_H) : ab b (0, xo6) = b := ab_nil b
theorem ab_txt {ψ : mv_H} (h : TXT ψ) (hb : ∀ k, 8192 ≤ k → ep_g xtl k = 0) : ab ψ xtx = ψ := by
  have e1 : ab ψ xtx = mv_ca (ab ψ (0, xo6)) 144 (mv_a ψ 144) := by
    refine (ab_ca ψ (0, xo6) (o := 144) (j := 22) (N1 := xtl) (by decide) (by decide) (fun k => ?_)).symm
    cases e : ep_g xtl k with
    | zero => rfl
    | succ v =>
      by_cases hk : k < 8192
      · exact h.2 k v e hk
      · rw [hb k (by omega)] at e; cases e
  rw [e1, ab_0]
  refine Prod.ext rfl (Prod.ext rfl (Prod.ext rfl (Prod.ext ?_ rfl)))
  funext o
  show (if o = 144 then mv_a ψ 144 else mv_a ψ o) = mv_a ψ o
  split
  · rename_i q; rw [q]
  · rfl
def xN8 : Nat := 540738
def xhi : Nat := xtl >>> xN8
def xisz (x : Nat) : Bool := Nat.beq x 0
theorem xisz_e {x : Nat} (h : xisz x = true) : x = 0 := Nat.eq_of_beq_eq_true h
theorem xtl_hi : xisz xhi = true := by decide +kernel
theorem xtl_0 (k : Nat) (hk : 8192 ≤ k) : ep_g xtl k = 0 := by
  have h1 : xhi = 0 := xisz_e xtl_hi
  unfold xhi at h1
  unfold ep_g
  rw [show 66 * k + 66 = xN8 + 66 * (k - 8192) by unfold xN8; omega, Nat.shiftRight_add, h1, Nat.zero_shiftRight]
theorem xw1_e : ∃ rg, g_Shipped_write xh0 = some rg ∧ xL_144 rg.2 = xtl ∧ ep_g rg.1 19 = xsz + 1 ∧ xsz ≤ 8192 := by
  have h := xw1_ok
  cases e : xw1 with
  | none => rw [e] at h; cases h
  | some r =>
    rw [e] at h
    have e1 : xtl = xL_144 r.2 := by unfold xtl; rw [e]; rfl
    have e2 : xsz = ep_g r.1 19 - 1 := by unfold xsz; rw [e]; rfl
    have h : (Nat.ble (ep_g r.1 19) 8193 && Nat.ble 2 (ep_g r.1 19)) = true := h
    rw [Bool.and_eq_true] at h
    have h1 := Nat.le_of_ble_eq_true h.1
    have h2 := Nat.le_of_ble_eq_true h.2
    exact ⟨r, e, e1.symm, by omega, by omega⟩
/-- writing the text: what it leaves, and the text itself -/
theorem c_Shipped_write_t (l : Launch) {dA : FieldType → ClassId} {D : va_G} {al : Nat → Nat} {sk sv : Nat → Nat} (hi : mv_inj (mg dA D al me2)) (σ : mv_H) (hQ : ShQ σ 0) (h0 : mv_i σ 143 1 = 0) : mv_C l y_Shipped_write (Cond.code y_Shipped_write b_Shipped_write 1 (Option.none : Option Jvm.ClassFile.FieldType) :: ma) ({ frames := 8, cells := 0, slots := 0, locals := 174 }) (mg dA D al me2) (mK sk sv) [.ref (al 143)] σ (mv_Rv (fun σ1 => (ShF σ σ1 ∧ ShQ σ1 (96)) ∧ TXT σ1)) := by
  obtain ⟨rg, e1, e2, e3, -⟩ := xw1_e
  have es : ab σ xh0 = σ := by
    have e4 : mv_si (ab σ (0, xo6)) 143 1 (nI 0) = ab σ (ep_s 0 19 0, xo6) := xwi_143_1 σ (0, xo6) 0
    rw [ab_0] at e4
    have e5 : mv_si σ 143 1 (nI 0) = σ := by
      have e6 : nI 0 = mv_i σ 143 1 := h0.symm
      rw [e6, mv_si_self]
    exact e4.symm.trans e5
  have X := cx_Shipped_write (sk := sk) (sv := sv) l hi σ hQ.1 xh0 e1
  rw [es] at X
  refine ((c_Shipped_write_k l hi σ hQ).twov X).imp (fun r τ q => ?_)
  obtain ⟨q1, q2, υ, q3, q4⟩ := q
  refine ⟨q1, q2, ?_, fun k v ek hk => ?_⟩
  · rw [q4.i (o := 143) (ci := 10) (k := 1) rfl (by show 1 < mv_nf mc_cl 10; decide) rfl, q3]
    exact xfi_143_1 e3
  · rw [q4.a (o := 144) (n := 8192) (ty := .byte) rfl (by decide) hk, q3]
    rw [← e2] at ek
    exact ab_a (j := 22) (by decide) (by decide) ek
/-- weaving it: what it leaves, and 48 ops -/
theorem c_Weaver_weave_t (l : Launch) {dA : FieldType → ClassId} {D : va_G} {al : Nat → Nat} {sk sv : Nat → Nat} (hi : mv_inj (mg dA D al me)) (σ : mv_H) (len : Nat) (w : Int32) (hm : mh (mv_r σ)) (hq : Ph 145 (mv_r σ)) (hw : w.toInt = len) (hl1 : len ≤ 8192) (hby8 : ∀ i, i < 8192 → -128 ≤ (mv_a σ 144 i).toInt ∧ (mv_a σ 144 i).toInt ≤ 127) (hk0 : mv_a σ 4 0 = 0) (hp0 : 0 ≤ (mv_a σ 5 0).toInt) (hb0 : mv_b σ 6 0 = 0) (hNs0 : Ns σ) (hMt0 : Mt (mv_a σ 24)) (hM9 : qc (mv_a σ 144) len ≤ 96) (hT : TXT σ) (hw9 : w = mv_i σ 143 1) : mv_C l y_Weaver_weave (Cond.code y_Weaver_weave b_Weaver_weave 6 (Option.some Jvm.ClassFile.FieldType.boolean) :: ma) ({ frames := 7, cells := 0, slots := 0, locals := 176 }) (mg dA D al me) (mK sk sv) [.ref (al 2), .ref (al 144), .int w, .ref (al 145)] σ (mv_Ri (fun v σ1 => WV 145 8192 48 144 σ v σ1 ∧ mv_i σ1 145 10 = 48)) := by
  obtain ⟨rv, rg, e1, e2⟩ := xwv_e
  have es := ab_txt hT xtl_0
  have ew : w = nI xsz := hw9.trans hT.1
  have X := cx_Weaver_weave (sk := sk) (sv := sv) l hi σ ⟨hm, hq⟩ hNs0 xtx xsz e1
  rw [es] at X
  have S := c_Weaver_weave_c (sk := sk) (sv := sv) l hi σ 144 8192 len w hm hq rfl (Or.inr rfl) hw hl1 (by decide) hby8 hk0 hp0 hb0 hNs0 hMt0 hl1 (by omega) (Or.inr hM9)
  rw [← ew] at X
  refine (S.twoi X).imp (fun r τ q => ?_)
  obtain ⟨v, q1, q2, υ, q3, q4⟩ := q
  refine ⟨v, q1, q2, ?_⟩
  rw [q4.i (o := 145) (ci := 7) (k := 10) rfl (by show 10 < mv_nf mc_cl 7; decide) rfl]
  obtain ⟨-, b2, -, q5⟩ := q3
  rw [q5]
  exact xfi_145_10 e2

