/-! reading: the TOKENS where the reader is; marks and code -/
theorem mv_C.imp {l : Launch} {y : MethodName} {ws : List Cond} {rm : Room} {G : mv_G} {K : mv_T} {av : List Value} {σ : mv_H} {P Q : mv_O → mv_H → Prop} (h : mv_C l y ws rm G K av σ P) (hp : ∀ r τ, P r τ → Q r τ) : mv_C l y ws rm G K av σ Q :=
  Jvm.Free.MetFree.mono h (fun _ _ q => q) (fun _ _ _ _ _ q => q) (fun _ _ _ _ _ q => by obtain ⟨r, τ, h1, h2, h3⟩ := q; exact ⟨r, τ, h1, hp r τ h2, h3⟩)
theorem mv_u_self {β : Type} (f : Nat → Nat → β) (o k : Nat) : mv_u f o k (f o k) = f := by
  funext a b
  unfold mv_u
  by_cases h : a = o ∧ b = k
  · rw [if_pos h, h.1, h.2]
  · rw [if_neg h]
theorem mv_si_self (σ : mv_H) (o k : Nat) : mv_si σ o k (mv_i σ o k) = σ := by
  show (mv_u (mv_i σ) o k (mv_i σ o k), σ.2) = σ
  rw [mv_u_self]
def tk3 (σ : mv_H) (a d w : Int32) : mv_H := mv_si (mv_si (mv_si σ 3 7 a) 3 8 d) 3 9 w
theorem tk3_self (σ : mv_H) : tk3 σ (mv_i σ 3 7) (mv_i σ 3 8) (mv_i σ 3 9) = σ := by
  unfold tk3
  rw [mv_si_self, mv_si_self, mv_si_self]
/-- what reading rests on -/
def TE (σ : mv_H) (t len n z sz : Nat) : Prop := Sy σ n z ∧ Tk σ t len sz n ∧ 2 ≤ sz ∧ sz ≤ 32770 ∧ (mv_a σ 4 (sz - 1) = 1 ∨ mv_a σ 4 (sz - 1) = 2) ∧ sz ≤ len + 2
/-- the end of take, open and close -/
def TkR (σ : mv_H) (sz : Nat) (c : Prop) (k v a w : Int32) : Prop := ((w.toInt < 0 ∧ a.toInt = (mv_i σ 3 7).toInt + 1 ∧ a.toInt < sz) ∨ (0 ≤ w.toInt ∧ a.toInt = (mv_i σ 3 7).toInt)) ∧ (w.toInt < 0 → (mv_i σ 3 9).toInt < 0 ∧ mv_a σ 4 (mv_i σ 3 7).toNatClampNeg = k ∧ c ∧ v = mv_i σ 3 7) ∧ ((mv_i σ 3 9).toInt < 0 → mv_a σ 4 (mv_i σ 3 7).toNatClampNeg = k → c → w.toInt < 0) ∧ 0 ≤ v.toInt ∧ v.toInt < sz ∧ (0 ≤ w.toInt → v = 0)
theorem lt0 {x : Int32} : x < 0 ↔ x.toInt < 0 := by rw [Int32.lt_iff_toInt_lt]; exact Iff.rfl
theorem take_n {σ : mv_H} {t len n z sz : Nat} {k : Int32} (hE : TE σ t len n z sz) (h1 : 1 ≤ (mv_i σ 3 7).toInt) (h2 : (mv_i σ 3 7).toInt < sz) (hk : ¬ k = 0 ∧ ¬ k = 1 ∧ ¬ k = 2) : ∃ a w, (tk_take σ k).2 = tk3 σ a (mv_i σ 3 8) w ∧ TkR σ sz True k (tk_take σ k).1 a w := by
  obtain ⟨-, hT, hs2, -, hl, -⟩ := hE
  have ec := i32_cl (x := mv_i σ 3 7) (by omega)
  have hs8 : sz < 2147483648 := by have := i32_rng (mv_i σ 3 6); have := hT.1; omega
  by_cases hw : mv_i σ 3 9 < 0
  · have hw2 := lt0.mp hw
    have ek : tk_kind σ = mv_a σ 4 (mv_i σ 3 7).toNatClampNeg := if_pos hw
    by_cases e : tk_kind σ = k
    · have e1 : tk_take σ k = (mv_i σ 3 7, mv_si σ 3 7 (mv_i σ 3 7 + 1)) := if_pos e
      rw [e1]
      have hne : ¬ (mv_i σ 3 7).toNatClampNeg = sz - 1 := fun q => by
        rw [ek, q] at e
        rcases hl with hl | hl <;> rw [hl] at e
        · exact hk.2.1 e.symm
        · exact hk.2.2 e.symm
      have ea := i32_inc (x := mv_i σ 3 7) (by omega)
      refine ⟨mv_i σ 3 7 + 1, mv_i σ 3 9, ?_, Or.inl ⟨hw2, ea, by rw [ea]; omega⟩, fun _ => ⟨hw2, ek ▸ e, trivial, rfl⟩, fun _ _ _ => hw2, by show 0 ≤ (mv_i σ 3 7).toInt; omega, h2, fun q => by omega⟩
      show mv_si σ 3 7 _ = tk3 σ _ _ _
      unfold tk3
      have q1 : mv_si (mv_si σ 3 7 (mv_i σ 3 7 + 1)) 3 8 (mv_i σ 3 8) = mv_si σ 3 7 (mv_i σ 3 7 + 1) := mv_si_self (mv_si σ 3 7 (mv_i σ 3 7 + 1)) 3 8
      rw [q1]
      exact (mv_si_self (mv_si σ 3 7 (mv_i σ 3 7 + 1)) 3 9).symm
    · have e1 : tk_take σ k = (0, tk_wrong σ) := if_neg e
      have e2 : tk_wrong σ = mv_si σ 3 9 (mv_a σ 5 (mv_i σ 3 7).toNatClampNeg) := if_pos hw
      rw [e1]
      have hp := (hT.2.2.2.2 (mv_i σ 3 7).toNatClampNeg (by omega)).2.2
      refine ⟨mv_i σ 3 7, mv_a σ 5 (mv_i σ 3 7).toNatClampNeg, ?_, Or.inr ⟨hp, rfl⟩, fun q => by omega, fun _ q _ => absurd (ek.trans q) e, by show 0 ≤ (0 : Int32).toInt; decide, by show (0 : Int32).toInt < sz; show (0 : Int) < sz; omega, fun _ => rfl⟩
      show tk_wrong σ = tk3 σ _ _ _
      rw [e2]
      unfold tk3
      rw [mv_si_self, mv_si_self]
  · have hw2 : ¬ (mv_i σ 3 9).toInt < 0 := fun q => hw (lt0.mpr q)
    have ek : tk_kind σ = 0 := if_neg hw
    have e1 : tk_take σ k = (0, tk_wrong σ) := if_neg (fun e => hk.1 (e.symm.trans ek))
    have e2 : tk_wrong σ = σ := if_neg hw
    rw [e1]
    refine ⟨mv_i σ 3 7, mv_i σ 3 9, ?_, Or.inr ⟨by omega, rfl⟩, fun q => absurd q hw2, fun q => absurd q hw2, by show 0 ≤ (0 : Int32).toInt; decide, by show (0 : Int32).toInt < sz; show (0 : Int) < sz; omega, fun _ => rfl⟩
    show tk_wrong σ = tk3 σ _ _ _
    rw [e2, tk3_self]
theorem tk3_tk3 (σ : mv_H) (a d w a' d' w' : Int32) : tk3 (tk3 σ a d w) a' d' w' = tk3 σ a' d' w' := by
  unfold tk3 mv_si
  refine Prod.ext ?_ rfl
  funext o k
  show mv_u (mv_u (mv_u (mv_u (mv_u (mv_u (mv_i σ) 3 7 a) 3 8 d) 3 9 w) 3 7 a') 3 8 d') 3 9 w' o k = mv_u (mv_u (mv_u (mv_i σ) 3 7 a') 3 8 d') 3 9 w' o k
  unfold mv_u
  by_cases h9 : o = 3 ∧ k = 9
  · simp only [if_pos h9]
  · by_cases h8 : o = 3 ∧ k = 8
    · simp only [if_neg h9, if_pos h8]
    · by_cases h7 : o = 3 ∧ k = 7
      · simp only [if_neg h9, if_neg h8, if_pos h7]
      · simp only [if_neg h9, if_neg h8, if_neg h7]
theorem TE.tk3 {σ : mv_H} {t len n z sz : Nat} (h : TE σ t len n z sz) (a d w : Int32) : TE (tk3 σ a d w) t len n z sz := h
theorem wrong_n {σ : mv_H} {t len n z sz : Nat} (hE : TE σ t len n z sz) (h1 : 1 ≤ (mv_i σ 3 7).toInt) (h2 : (mv_i σ 3 7).toInt < sz) : ∃ w : Int32, tk_wrong σ = tk3 σ (mv_i σ 3 7) (mv_i σ 3 8) w ∧ 0 ≤ w.toInt := by
  obtain ⟨-, hT, -⟩ := hE
  have ec := i32_cl (x := mv_i σ 3 7) (by omega)
  by_cases hw : mv_i σ 3 9 < 0
  · have e2 : tk_wrong σ = mv_si σ 3 9 (mv_a σ 5 (mv_i σ 3 7).toNatClampNeg) := if_pos hw
    refine ⟨_, ?_, (hT.2.2.2.2 (mv_i σ 3 7).toNatClampNeg (by omega)).2.2⟩
    rw [e2]
    unfold tk3
    rw [mv_si_self, mv_si_self]
  · have hw2 : ¬ (mv_i σ 3 9).toInt < 0 := fun q => hw (lt0.mpr q)
    have e2 : tk_wrong σ = σ := if_neg hw
    exact ⟨mv_i σ 3 9, by rw [e2, tk3_self], by omega⟩
theorem tk3_d (σ : mv_H) (d : Int32) : mv_si σ 3 8 d = tk3 σ (mv_i σ 3 7) d (mv_i σ 3 9) := by
  unfold tk3
  rw [mv_si_self]
  exact (mv_si_self (mv_si σ 3 8 d) 3 9).symm
theorem close_n {σ : mv_H} {t len n z sz : Nat} {k : Int32} (hE : TE σ t len n z sz) (h1 : 1 ≤ (mv_i σ 3 7).toInt) (h2 : (mv_i σ 3 7).toInt < sz) (hk : ¬ k = 0 ∧ ¬ k = 1 ∧ ¬ k = 2) : ∃ a w, (tk_close σ k).2 = tk3 σ a (mv_i σ 3 8 - 1) w ∧ TkR σ sz True k (tk_close σ k).1 a w := by
  unfold tk_close
  rw [tk3_d]
  obtain ⟨a, w, e, r⟩ := take_n (σ := tk3 σ (mv_i σ 3 7) (mv_i σ 3 8 - 1) (mv_i σ 3 9)) (hE.tk3 _ _ _) h1 h2 hk
  refine ⟨a, w, ?_, r⟩
  rw [e, tk3_tk3]
  rfl
theorem open_n {σ : mv_H} {t len n z sz : Nat} {k : Int32} (hE : TE σ t len n z sz) (h1 : 1 ≤ (mv_i σ 3 7).toInt) (h2 : (mv_i σ 3 7).toInt < sz) (hk : ¬ k = 0 ∧ ¬ k = 1 ∧ ¬ k = 2) : ∃ a w, (tk_open σ k).2 = tk3 σ a (mv_i σ 3 8 + 1) w ∧ TkR σ sz (¬ mv_i σ 3 8 = 60) k (tk_open σ k).1 a w := by
  unfold tk_open
  by_cases hd : mv_i σ 3 8 = 60
  · rw [if_pos hd]
    obtain ⟨w1, e1, hw1⟩ := wrong_n hE h1 h2
    rw [e1, tk3_d, tk3_tk3]
    obtain ⟨a, w, e, r⟩ := take_n (σ := tk3 σ (mv_i σ 3 7) (mv_i σ 3 8 + 1) w1) (k := k) (hE.tk3 _ _ _) h1 h2 hk
    have r1 : ¬ w.toInt < 0 := fun q => by
      have := (r.2.1 q).1
      have : w1.toInt < 0 := this
      omega
    refine ⟨a, w, ?_, ?_⟩
    · show (tk_take (tk3 σ (mv_i σ 3 7) (mv_i σ 3 8 + 1) w1) k).2 = _
      rw [e, tk3_tk3]
      rfl
    · obtain ⟨r2, -, -, r3, r4, r5⟩ := r
      exact ⟨r2, fun q => absurd q r1, fun _ _ q => absurd hd q, r3, r4, r5⟩
  · rw [if_neg hd, tk3_d]
    obtain ⟨a, w, e, r⟩ := take_n (σ := tk3 σ (mv_i σ 3 7) (mv_i σ 3 8 + 1) (mv_i σ 3 9)) (k := k) (hE.tk3 _ _ _) h1 h2 hk
    refine ⟨a, w, ?_, r.1, fun q => ⟨(r.2.1 q).1, (r.2.1 q).2.1, hd, (r.2.1 q).2.2.2⟩, fun q1 q2 _ => r.2.2.1 q1 q2 trivial, r.2.2.2⟩
    rw [e, tk3_tk3]
    rfl
/-- the number of a NAME that was taken is a symbol -/
theorem TkR.sym {σ : mv_H} {t len n z sz : Nat} {c : Prop} {v a w : Int32} (hE : TE σ t len n z sz) (h : TkR σ sz c 3 v a w) : 0 ≤ (mv_b σ 6 v.toNatClampNeg).toInt ∧ (mv_b σ 6 v.toNatClampNeg).toInt < n := by
  obtain ⟨h1, h2, -, h4, h5, h6⟩ := h
  obtain ⟨-, hT, -⟩ := hE
  have ev := i32_cl h4
  rcases h1 with h1 | h1
  · obtain ⟨-, q2, -, q4⟩ := h2 h1.1
    rw [← q4] at q2
    exact (hT.2.2.2.2 v.toNatClampNeg (by omega)).1 q2
  · have : v = 0 := h6 h1.1
    subst this
    have e : mv_b σ 6 (0 : Int32).toNatClampNeg = 0 := hT.2.2.2.1
    rw [e]
    have := hT.2.1.2
    exact ⟨by decide, by show (0 : Int) < n; omega⟩
theorem c_Tokens_takeN (l : Launch) {dA : FieldType → ClassId} {D : va_G} {al : Nat → Nat} {ext : mv_Sh} {sk sv : Nat → Nat} (hi : mv_inj (mg dA D al ext)) (σ : mv_H) (k : Int32) {t len n z sz : Nat} (hsh : mh (mv_r σ)) (hE : TE σ t len n z sz) (h1 : 1 ≤ (mv_i σ 3 7).toInt) (h2 : (mv_i σ 3 7).toInt < sz) (hk : ¬ k = 0 ∧ ¬ k = 1 ∧ ¬ k = 2) : mv_C l y_Tokens_take (Cond.code y_Tokens_take b_Tokens_take 3 (Option.some Jvm.ClassFile.FieldType.int) :: ma) ({ frames := 1, cells := 0, slots := 0, locals := 20 }) (mg dA D al ext) (mK sk sv) [.ref (al 3), .int k] σ (mv_Ri (fun v σ1 => ∃ a w, σ1 = tk3 σ a (mv_i σ 3 8) w ∧ TkR σ sz True k v a w)) :=
  (c_Tokens_take l hi σ k hsh (i32_in (by omega) (by have := hE.2.2.2.1; omega))).imp (fun r τ q => by
    obtain ⟨v, e1, e2⟩ := q
    obtain ⟨a, w, e3, e4⟩ := take_n hE h1 h2 hk
    rw [← e2] at e3 e4
    exact ⟨v, e1, a, w, e3, e4⟩)
theorem c_Tokens_openN (l : Launch) {dA : FieldType → ClassId} {D : va_G} {al : Nat → Nat} {ext : mv_Sh} {sk sv : Nat → Nat} (hi : mv_inj (mg dA D al ext)) (σ : mv_H) (k : Int32) {t len n z sz : Nat} (hsh : mh (mv_r σ)) (hE : TE σ t len n z sz) (h1 : 1 ≤ (mv_i σ 3 7).toInt) (h2 : (mv_i σ 3 7).toInt < sz) (hk : ¬ k = 0 ∧ ¬ k = 1 ∧ ¬ k = 2) : mv_C l y_Tokens_open (Cond.code y_Tokens_open b_Tokens_open 2 (Option.some Jvm.ClassFile.FieldType.int) :: ma) ({ frames := 2, cells := 0, slots := 0, locals := 42 }) (mg dA D al ext) (mK sk sv) [.ref (al 3), .int k] σ (mv_Ri (fun v σ1 => ∃ a w, σ1 = tk3 σ a (mv_i σ 3 8 + 1) w ∧ TkR σ sz (¬ mv_i σ 3 8 = 60) k v a w)) :=
  (c_Tokens_open l hi σ k hsh (i32_in (by omega) (by have := hE.2.2.2.1; omega))).imp (fun r τ q => by
    obtain ⟨v, e1, e2⟩ := q
    obtain ⟨a, w, e3, e4⟩ := open_n hE h1 h2 hk
    rw [← e2] at e3 e4
    exact ⟨v, e1, a, w, e3, e4⟩)
theorem c_Tokens_closeN (l : Launch) {dA : FieldType → ClassId} {D : va_G} {al : Nat → Nat} {ext : mv_Sh} {sk sv : Nat → Nat} (hi : mv_inj (mg dA D al ext)) (σ : mv_H) (k : Int32) {t len n z sz : Nat} (hsh : mh (mv_r σ)) (hE : TE σ t len n z sz) (h1 : 1 ≤ (mv_i σ 3 7).toInt) (h2 : (mv_i σ 3 7).toInt < sz) (hk : ¬ k = 0 ∧ ¬ k = 1 ∧ ¬ k = 2) : mv_C l y_Tokens_close (Cond.code y_Tokens_close b_Tokens_close 2 (Option.some Jvm.ClassFile.FieldType.int) :: ma) ({ frames := 2, cells := 0, slots := 0, locals := 42 }) (mg dA D al ext) (mK sk sv) [.ref (al 3), .int k] σ (mv_Ri (fun v σ1 => ∃ a w, σ1 = tk3 σ a (mv_i σ 3 8 - 1) w ∧ TkR σ sz True k v a w)) :=
  (c_Tokens_close l hi σ k hsh (i32_in (by omega) (by have := hE.2.2.2.1; omega))).imp (fun r τ q => by
    obtain ⟨v, e1, e2⟩ := q
    obtain ⟨a, w, e3, e4⟩ := close_n hE h1 h2 hk
    rw [← e2] at e3 e4
    exact ⟨v, e1, a, w, e3, e4⟩)
theorem c_Tokens_wrongN (l : Launch) {dA : FieldType → ClassId} {D : va_G} {al : Nat → Nat} {ext : mv_Sh} {sk sv : Nat → Nat} (hi : mv_inj (mg dA D al ext)) (σ : mv_H) {t len n z sz : Nat} (hsh : mh (mv_r σ)) (hE : TE σ t len n z sz) (h1 : 1 ≤ (mv_i σ 3 7).toInt) (h2 : (mv_i σ 3 7).toInt < sz) : mv_C l y_Tokens_wrong (Cond.code y_Tokens_wrong b_Tokens_wrong 1 (Option.none : Option Jvm.ClassFile.FieldType) :: ma) ({ frames := 0, cells := 0, slots := 0, locals := 0 }) (mg dA D al ext) (mK sk sv) [.ref (al 3)] σ (mv_Rv (fun σ1 => ∃ w : Int32, σ1 = tk3 σ (mv_i σ 3 7) (mv_i σ 3 8) w ∧ 0 ≤ w.toInt)) :=
  (c_Tokens_wrong l hi σ hsh (i32_in (by omega) (by have := hE.2.2.2.1; omega))).imp (fun r τ q => by
    obtain ⟨w, e3, e4⟩ := wrong_n hE h1 h2
    exact ⟨q.1, w, q.2.trans e3, e4⟩)
