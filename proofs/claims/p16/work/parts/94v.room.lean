/-! a contract may be given more room -/
theorem rm_more {s : State} {pl : Platform} {r r' : Room} (hf : r.frames ≤ r'.frames) (hl : r.locals ≤ r'.locals) (hc : r'.cells = r.cells) (hs : r'.slots = r.slots) (h : s.hasRoom pl r' = true) : s.hasRoom pl r = true := by
  unfold State.hasRoom at h ⊢
  rw [hc, hs] at h
  simp only [Bool.and_eq_true, decide_eq_true_eq] at h ⊢
  obtain ⟨⟨⟨⟨q1, q2, q3, q4, q5, q6⟩, q7⟩, q8⟩, q9⟩ := h
  exact ⟨⟨⟨⟨by omega, by omega, by omega, by omega, by omega, q6⟩, q7⟩, q8⟩, q9⟩
theorem mv_C.room {l : Launch} {y : MethodName} {ws : List Cond} {rm rm' : Room} {G : mv_G} {K : mv_T} {av : List Value} {σ : mv_H} {Post : mv_O → mv_H → Prop} (h : mv_C l y ws rm G K av σ Post) (hf : rm.frames ≤ rm'.frames) (hl : rm.locals ≤ rm'.locals) (hc : rm'.cells = rm.cells) (hs : rm'.slots = rm.slots) : mv_C l y ws rm' G K av σ Post := by
  intro p e he hca hk s m args below hfr happ hP hK
  obtain ⟨a1, a2, a3, a4, a5, a6, a7, a8⟩ := (Spec.appliesLoose_iff hfr).mp happ
  have g := h p e he hca hk s m args below hfr ((Spec.appliesLoose_iff hfr).mpr ⟨a1, a2, a3, a4, a5, a6, rm_more hf hl hc hs a7, a8⟩) hP hK
  rw [hc, hs]
  exact g
theorem mv_C.twoU {l : Launch} {y : MethodName} {ws : List Cond} {rm : Room} {G : mv_G} {K : mv_T} {av : List Value} {σ : mv_H} {P Q T U : mv_H → Prop} {x : String × Nat} (h1 : mv_C l y ws rm G K av σ (mv_Uv P x T)) (h2 : mv_C l y ws rm G K av σ (mv_Uv Q x U)) : mv_C l y ws rm G K av σ (mv_Uv (fun τ => P τ ∧ ∃ υ, Q υ ∧ mv_same G τ υ) x (fun τ => T τ ∧ ∃ υ, U υ ∧ mv_same G τ υ)) :=
  Jvm.Free.MetFree.mono (met_two h1 h2) (fun _ _ q => q) (fun _ _ _ _ _ q => q) (fun _ s o t _ q => by
    obtain ⟨⟨r, τ, a1, a3, a4⟩, r2, υ, b1, b3, b4⟩ := q
    rcases a3 with ⟨a2, a3⟩ | ⟨a2, a3⟩ <;> rcases b3 with ⟨b2, b3⟩ | ⟨b2, b3⟩ <;> subst a2 <;> subst b2
    · exact ⟨_, τ, a1, Or.inl ⟨rfl, a3, υ, b3, t.heap, a4.1, b4.1⟩, a4⟩
    · have e1 : o = .returned none := a1
      have e2 : o = .threw x.2 := b1.1
      rw [e1] at e2
      cases e2
    · have e1 : o = .threw x.2 := a1.1
      have e2 : o = .returned none := b1
      rw [e1] at e2
      cases e2
    · exact ⟨_, τ, a1, Or.inr ⟨rfl, a3, υ, b3, t.heap, a4.1, b4.1⟩, a4⟩)
/-- the reference's text: what it leaves, and its answer -/
theorem k_Book_text_1_x (l : Launch) {dA : FieldType → ClassId} {D : va_G} {al : Nat → Nat} {ext : mv_Sh} {sk sv : Nat → Nat} (hi : mv_inj (mg dA D al ext)) (σ : mv_H) (len : Nat) (hR : Br 74 (mv_r σ)) (hz : (mv_i σ 74 2).toInt = len) (hl : len ≤ 10240) (h17 : mv_i σ 74 17 = 0) (hn48 : mv_i σ 74 48 = 0) (hn29 : mv_i σ 74 29 = 0) (hn51 : mv_i σ 74 51 = 0) (hn19 : mv_i σ 74 19 = 0) (hn18 : mv_i σ 74 18 = -1) {rv : Option Int32} {rg : mv_H} (hf : f_Book_text_1 74 σ = some (rv, rg)) : mv_C l y_Book_text_1 (Cond.code y_Book_text_1 b_Book_text_1 4 (Option.none : Option Jvm.ClassFile.FieldType) :: ma) ({ frames := 1083, cells := 0, slots := 0, locals := 65132 }) (mg dA D al ext) (mK sk sv) [.ref (al 74)] σ (mv_Uv (fun τ => TO 74 len σ τ ∧ ∃ υ, (rv = some 0 ∧ rg = υ ∧ mv_r υ = mv_r σ) ∧ mv_same (mg dA D al ext) τ υ) ("MachineLoomModel$Book$Wrong", al 107) (fun τ => BF 74 σ τ ∧ ∃ υ, (rv = none ∧ rg = υ ∧ mv_r υ = mv_r σ) ∧ mv_same (mg dA D al ext) τ υ)) :=
  mv_C.twoU (mv_C.room (c_Book_text_1_x l hi σ len hR hz hl h17 hn48 hn29 hn51 hn19 hn18) (by decide) (by decide) rfl rfl) (ch_Book_text_1_x l hi σ hR hf)
/-- the reference's text: what it leaves, and its answer -/
theorem k_Book_text_1_y (l : Launch) {dA : FieldType → ClassId} {D : va_G} {al : Nat → Nat} {ext : mv_Sh} {sk sv : Nat → Nat} (hi : mv_inj (mg dA D al ext)) (σ : mv_H) (len : Nat) (hR : Br 108 (mv_r σ)) (hz : (mv_i σ 108 2).toInt = len) (hl : len ≤ 10240) (h17 : mv_i σ 108 17 = 0) (hn48 : mv_i σ 108 48 = 0) (hn29 : mv_i σ 108 29 = 0) (hn51 : mv_i σ 108 51 = 0) (hn19 : mv_i σ 108 19 = 0) (hn18 : mv_i σ 108 18 = -1) {rv : Option Int32} {rg : mv_H} (hf : f_Book_text_1 108 σ = some (rv, rg)) : mv_C l y_Book_text_1 (Cond.code y_Book_text_1 b_Book_text_1 4 (Option.none : Option Jvm.ClassFile.FieldType) :: ma) ({ frames := 1083, cells := 0, slots := 0, locals := 65132 }) (mg dA D al ext) (mK sk sv) [.ref (al 108)] σ (mv_Uv (fun τ => TO 108 len σ τ ∧ ∃ υ, (rv = some 0 ∧ rg = υ ∧ mv_r υ = mv_r σ) ∧ mv_same (mg dA D al ext) τ υ) ("MachineLoomModel$Book$Wrong", al 141) (fun τ => BF 108 σ τ ∧ ∃ υ, (rv = none ∧ rg = υ ∧ mv_r υ = mv_r σ) ∧ mv_same (mg dA D al ext) τ υ)) :=
  mv_C.twoU (mv_C.room (c_Book_text_1_y l hi σ len hR hz hl h17 hn48 hn29 hn51 hn19 hn18) (by decide) (by decide) rfl rfl) (ch_Book_text_1_y l hi σ hR hf)
