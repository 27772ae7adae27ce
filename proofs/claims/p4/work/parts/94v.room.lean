/-! a contract may be given more room -/
theorem rm_more {s : State} {pl : Platform} {r r' : Room} (hf : r.frames ≤ r'.frames) (hl : r.locals ≤ r'.locals) (hc : r'.cells = r.cells) (hs : r'.slots = r.slots) (h : s.hasRoom pl r' = true) : s.hasRoom pl r = true := by
  unfold State.hasRoom at h ⊢
  rw [hc, hs] at h
  simp only [Bool.and_eq_true, decide_eq_true_eq] at h ⊢
  obtain ⟨⟨⟨⟨q1, q2, q3, q4, q5, q6⟩, q7⟩, q8⟩, q9⟩ := h
  exact ⟨⟨⟨⟨by omega, by omega, by omega, by omega, by omega, q6⟩, q7⟩, q8⟩, q9⟩
theorem mv_C.room {l : Launch} {y : MethodName} {ws : List Cond} {rm rm' : Room} {G : mv_G} {K : mv_T} {av : List Value} {σ : mv_H} {Post : mv_O → mv_H → Prop} (h : mv_C l y ws rm G K av σ Post) (hf : rm.frames ≤ rm'.frames) (hl : rm.locals ≤ rm'.locals) (hc : rm'.cells = rm.cells) (hs : rm'.slots = rm.slots) : mv_C l y ws rm' G K av σ Post := by
  intro p e he hca hk s m args below hfr happ hP hK
  obtain ⟨a1, a2, a3, a4, a5, a6, a7, a8⟩ := (Spec.appliesLoose_iff hfr).mp happ
  have g := h p e he hca hk s m args below hfr ((Spec.appliesLoose_iff hfr).mpr ⟨a1, a2, a3, a4, a5, a6, rm_more hf hl hc hs a7, a8⟩) hP hK
  rw [hc, hs]
  exact g
