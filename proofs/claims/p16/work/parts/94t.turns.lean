/-! heaps that agree on the shape; turns of weave, exactly -/
/-! heaps that agree on the shape are one -/
def mv_ag (G : mv_G) (τ υ : mv_H) : Prop := (∀ o c, (mv_sh G)[o]? = some (.inl c) → ∀ k, k < mv_nf (mv_cl G) c → mv_fv (mv_al G) τ (mv_ft G c k) o k = mv_fv (mv_al G) υ (mv_ft G c k) o k) ∧ (∀ o ty n, (mv_sh G)[o]? = some (.inr (ty, n)) → ∀ k, k < n → (ty = .long → mv_b τ o k = mv_b υ o k) ∧ (¬ ty = .long → mv_a τ o k = mv_a υ o k))
theorem mv_ag.rf {G : mv_G} (τ : mv_H) : mv_ag G τ τ := ⟨fun _ _ _ _ _ => rfl, fun _ _ _ _ _ _ => ⟨fun _ => rfl, fun _ => rfl⟩⟩
theorem mv_ag.sy {G : mv_G} {τ υ : mv_H} (h : mv_ag G τ υ) : mv_ag G υ τ := ⟨fun o c h1 k h2 => (h.1 o c h1 k h2).symm, fun o ty n h1 k h2 => ⟨fun z => ((h.2 o ty n h1 k h2).1 z).symm, fun z => ((h.2 o ty n h1 k h2).2 z).symm⟩⟩
theorem mv_ag.tr {G : mv_G} {τ υ ω : mv_H} (h : mv_ag G τ υ) (g : mv_ag G υ ω) : mv_ag G τ ω := ⟨fun o c h1 k h2 => (h.1 o c h1 k h2).trans (g.1 o c h1 k h2), fun o ty n h1 k h2 => ⟨fun z => ((h.2 o ty n h1 k h2).1 z).trans ((g.2 o ty n h1 k h2).1 z), fun z => ((h.2 o ty n h1 k h2).2 z).trans ((g.2 o ty n h1 k h2).2 z)⟩⟩
theorem arrV_cg (c : ClassId) {N : Nat} {f g : Nat → Value} (h : ∀ j, j < N → f j = g j) : arrV c N f = arrV c N g := by
  unfold arrV
  have e : (fun j : Fin N => f j.val) = fun j => g j.val := funext fun j => h j.val j.isLt
  rw [e]
theorem mv_ag.P {G : mv_G} {τ υ : mv_H} (h : mv_ag G τ υ) {H : Heap} (hP : va_P (mv_D G) (mv_cl G) (mv_wl G τ) H) : va_P (mv_D G) (mv_cl G) (mv_wl G υ) H := by
  intro k q e
  rw [mv_wl_at] at e
  cases ht : (mv_sh G)[k]? with
  | none => rw [ht] at e; cases e
  | some t =>
    rw [ht] at e
    have e : (mv_al G k, mv_ce G υ k t) = q := Option.some.inj e
    rw [← e]
    have h1 := hP k (mv_al G k, mv_ce G τ k t) (by rw [mv_wl_at, ht]; rfl)
    cases t with
    | inl c =>
      have ef : mv_fs G τ c k = mv_fs G υ c k := by
        unfold mv_fs
        exact List.map_congr_left (fun x hx => h.1 k c ht x (List.mem_range.mp hx))
      have h1 : va_at (mv_D G) (mv_cl G) (mv_al G k, .inr (c, mv_fs G τ c k)) H := h1
      rw [ef] at h1
      exact h1
    | inr p =>
      obtain ⟨ty, n⟩ := p
      have h1 : H[mv_al G k]? = some (vp_cell (mv_dA G ty) (mv_ac ty n τ k)) := h1
      show H[mv_al G k]? = some (vp_cell (mv_dA G ty) (mv_ac ty n υ k))
      rw [h1]
      congr 1
      have hr := h.2 k ty n ht
      by_cases hl : ty = .long
      · subst hl
        show vp_cell _ (n, .inr (.inl (mv_b τ k))) = vp_cell _ (n, .inr (.inl (mv_b υ k)))
        rw [vp_cell_l, vp_cell_l]
        exact arrV_cg _ (fun j hj => by rw [(hr j hj).1 rfl])
      · have v : ∀ ρ : mv_H, mv_ac ty n ρ k = (n, .inl (mv_a ρ k)) := fun ρ => by
          unfold mv_ac
          split
          · exact absurd rfl hl
          · rfl
        rw [v, v, vp_cell_i, vp_cell_i]
        exact arrV_cg _ (fun j hj => by rw [(hr j hj).2 hl])
/-- a contract at a heap that agrees -/
theorem mv_ag.C {l : Launch} {y : MethodName} {ws : List Cond} {rm : Room} {G : mv_G} {K : mv_T} {av : List Value} {τ υ : mv_H} {Q : mv_O → mv_H → Prop} (h : mv_ag G τ υ) (c : mv_C l y ws rm G K av υ Q) : mv_C l y ws rm G K av τ Q :=
  Jvm.Free.MetFree.mono c (fun _ _ q => ⟨q.1, h.P q.2.1, q.2.2⟩) (fun _ _ _ _ _ q => q) (fun _ _ _ _ _ q => q)
theorem mv_ag.i {G : mv_G} {τ υ : mv_H} (h : mv_ag G τ υ) {o ci k : Nat} (hs : (mv_sh G)[o]? = some (.inl ci)) (hk : k < mv_nf (mv_cl G) ci) (hty : mv_isI (mv_ft G ci k) = true) : mv_i τ o k = mv_i υ o k := by
  have e := h.1 o ci hs k hk
  rw [mv_fvI hty, mv_fvI hty] at e
  injection e
theorem mv_ag.a {G : mv_G} {τ υ : mv_H} (h : mv_ag G τ υ) {o n k : Nat} {ty : FieldType} (hs : (mv_sh G)[o]? = some (.inr (ty, n))) (hty : ¬ ty = .long) (hk : k < n) : mv_a τ o k = mv_a υ o k := (h.2 o ty n hs k hk).2 hty
theorem mv_ag.b {G : mv_G} {τ υ : mv_H} (h : mv_ag G τ υ) {o n k : Nat} (hs : (mv_sh G)[o]? = some (.inr (.long, n))) (hk : k < n) : mv_b τ o k = mv_b υ o k := (h.2 o .long n hs k hk).1 rfl
/-- the same write -/
theorem mv_ag.si {G : mv_G} {τ υ : mv_H} (h : mv_ag G τ υ) (o0 k0 : Nat) (v : Int32) : mv_ag G (mv_si τ o0 k0 v) (mv_si υ o0 k0 v) := by
  refine ⟨fun o c hs k hk => ?_, h.2⟩
  have e := h.1 o c hs k hk
  have ei : (∀ ρ : mv_H, mv_fv (mv_al G) ρ (mv_ft G c k) o k = .int (mv_i ρ o k)) ∨ (∀ (ρ : mv_H) (w : Int32), mv_fv (mv_al G) (mv_si ρ o0 k0 w) (mv_ft G c k) o k = mv_fv (mv_al G) ρ (mv_ft G c k) o k) := by
    cases mv_ft G c k <;> first | exact Or.inl (fun _ => rfl) | exact Or.inr (fun _ _ => rfl)
  rcases ei with q | q
  · rw [q, q] at e ⊢
    have e : mv_i τ o k = mv_i υ o k := by injection e
    show Value.int (if o = o0 ∧ k = k0 then v else mv_i τ o k) = Value.int (if o = o0 ∧ k = k0 then v else mv_i υ o k)
    rw [e]
  · rw [q, q]; exact e

theorem mv_same.ag {G : mv_G} {τ υ : mv_H} (h : mv_same G τ υ) : mv_ag G τ υ := by
  obtain ⟨H, h1, h2⟩ := h
  refine ⟨fun o c hs k hk => ?_, fun o ty n hs k hk => ?_⟩
  · obtain ⟨r1, z1, c1, q1, -, -, s1⟩ := h1 o _ (mv_wl_o τ hs)
    obtain ⟨r2, z2, c2, q2, -, -, s2⟩ := h2 o _ (mv_wl_o υ hs)
    have er : r1 = r2 := Option.some.inj (z1.symm.trans z2)
    subst er
    have ec : c1 = c2 := Option.some.inj (q1.symm.trans q2)
    subst ec
    have z3 : (mv_cl G)[c]? = some r1 := z1
    have hn : mv_nf (mv_cl G) c = r1.2.2 := by unfold mv_nf; rw [z3]
    have e1 := s1 k (by rw [← hn]; exact hk)
    have e2 := s2 k (by rw [← hn]; exact hk)
    have e3 : vp_V (mv_fs G τ c o) k = vp_V (mv_fs G υ c o) k := Option.some.inj (e1.symm.trans e2)
    have v : ∀ ρ : mv_H, vp_V (mv_fs G ρ c o) k = mv_fv (mv_al G) ρ (mv_ft G c k) o k := fun ρ => by
      unfold vp_V
      rw [List.getD_eq_getElem?_getD, mv_fs_at ρ hk]
      rfl
    rw [v, v] at e3
    exact e3
  · have e1 : H[mv_al G o]? = some (vp_cell (mv_dA G ty) (mv_ac ty n τ o)) := h1 o _ (mv_wl_a τ hs)
    have e2 : H[mv_al G o]? = some (vp_cell (mv_dA G ty) (mv_ac ty n υ o)) := h2 o _ (mv_wl_a υ hs)
    have e0 := Option.some.inj (e1.symm.trans e2)
    refine ⟨fun hl => ?_, fun hl => ?_⟩
    · subst hl
      have e3 : vp_cell (mv_dA G .long) (n, .inr (.inl (mv_b τ o))) = vp_cell (mv_dA G .long) (n, .inr (.inl (mv_b υ o))) := e0
      rw [vp_cell_l, vp_cell_l] at e3
      have e4 := arrV_read (mv_dA G .long) (fun j => Value.long (mv_b τ o j)) hk
      rw [e3, arrV_read _ _ hk] at e4
      injection (Option.some.inj e4) with e5
      exact e5.symm
    · have v : ∀ ρ : mv_H, mv_ac ty n ρ o = (n, .inl (mv_a ρ o)) := fun ρ => by
        unfold mv_ac
        split
        · exact absurd rfl hl
        · rfl
      rw [v, v, vp_cell_i, vp_cell_i] at e0
      have e4 := arrV_read (mv_dA G ty) (fun j => Value.int (mv_a τ o j)) hk
      rw [e0, arrV_read _ _ hk] at e4
      injection (Option.some.inj e4) with e5
      exact e5.symm
/-- a field's value: an int, or one of the maps of longs and references -/
theorem mv_fv_c (al : Nat → Nat) (ty : FieldType) (o k : Nat) : (∀ ρ : mv_H, mv_fv al ρ ty o k = .int (mv_i ρ o k)) ∨ (∀ ρ ρ' : mv_H, ρ.2.1 = ρ'.2.1 → ρ.2.2.1 = ρ'.2.2.1 → mv_fv al ρ ty o k = mv_fv al ρ' ty o k) := by
  cases ty <;> first
    | exact Or.inl (fun _ => rfl)
    | exact Or.inr (fun ρ ρ' h1 h2 => by show Value.long (ρ.2.1 o k) = Value.long (ρ'.2.1 o k); rw [h1])
    | exact Or.inr (fun ρ ρ' h1 h2 => by show va_rf ((ρ.2.2.1 o k).map al) = va_rf ((ρ'.2.2.1 o k).map al); rw [h2])
/-- a heap put together of two that agree -/
theorem mv_ag.pt {G : mv_G} {τ υ σ1 ω π : mv_H} (hA : mv_ag G τ υ) (h1 : mv_ag G σ1 ω) (e1 : π.2.1 = ω.2.1) (e2 : π.2.2.1 = ω.2.2.1) (hi : ∀ o k, mv_i π o k = mv_i ω o k ∨ (mv_i π o k = mv_i υ o k ∧ mv_i σ1 o k = mv_i τ o k)) (ha : ∀ o, mv_a π o = mv_a ω o ∨ (mv_a π o = mv_a υ o ∧ mv_a σ1 o = mv_a τ o)) (hb : ∀ o, mv_b π o = mv_b ω o ∨ (mv_b π o = mv_b υ o ∧ mv_b σ1 o = mv_b τ o)) : mv_ag G σ1 π := by
  refine ⟨fun o c hs k hk => ?_, fun o ty n hs k hk => ⟨fun hl => ?_, fun hl => ?_⟩⟩
  · rcases mv_fv_c (mv_al G) (mv_ft G c k) o k with q | q
    · have a1 := hA.1 o c hs k hk
      have a2 := h1.1 o c hs k hk
      rw [q, q] at a1 a2 ⊢
      rcases hi o k with z | ⟨z1, z2⟩
      · rw [z]; exact a2
      · rw [z1, z2]; exact a1
    · rw [q π ω e1 e2]; exact h1.1 o c hs k hk
  · rcases hb o with z | ⟨z1, z2⟩
    · rw [z]; exact (h1.2 o ty n hs k hk).1 hl
    · rw [z1, z2]; exact (hA.2 o ty n hs k hk).1 hl
  · rcases ha o with z | ⟨z1, z2⟩
    · rw [z]; exact (h1.2 o ty n hs k hk).2 hl
    · rw [z1, z2]; exact (hA.2 o ty n hs k hk).2 hl
theorem mv_ag.pE {G : mv_G} {P : Nat} {τ υ σ1 ω : mv_H} (hF : RF P τ σ1) (hA : mv_ag G τ υ) (h1 : mv_ag G σ1 ω) : mv_ag G σ1 (patE P υ ω) := by
  refine hA.pt h1 rfl rfl (fun o k => ?_) (fun o => ?_) (fun o => ?_)
  · rw [patE_i]
    split
    · exact Or.inl rfl
    · rename_i z; exact Or.inr ⟨rfl, hF.1 o k z⟩
  · rw [patE_a]
    split
    · exact Or.inl rfl
    · rename_i z; exact Or.inr ⟨rfl, hF.2.1 o z⟩
  · rw [patE_b]
    split
    · exact Or.inl rfl
    · rename_i z; exact Or.inr ⟨rfl, hF.2.2.1 o z⟩
theorem mv_ag.pS {G : mv_G} {τ υ σ1 ω : mv_H} (ha : ∀ o, o = 1 ∨ o = 4 ∨ o = 5 ∨ o = 8 ∨ o = 9 → mv_a σ1 o = mv_a τ o) (hb : mv_b σ1 6 = mv_b τ 6) (hA : mv_ag G τ υ) (h1 : mv_ag G σ1 ω) : mv_ag G σ1 (patS υ ω) := by
  refine hA.pt h1 rfl rfl (fun o k => Or.inl rfl) (fun o => ?_) (fun o => ?_)
  · show (if o = 1 ∨ o = 4 ∨ o = 5 ∨ o = 8 ∨ o = 9 then mv_a υ o else mv_a ω o) = _ ∨ ((if o = 1 ∨ o = 4 ∨ o = 5 ∨ o = 8 ∨ o = 9 then mv_a υ o else mv_a ω o) = _ ∧ _)
    split
    · rename_i z; exact Or.inr ⟨rfl, ha o z⟩
    · exact Or.inl rfl
  · show (if o = 6 then mv_b υ o else mv_b ω o) = _ ∨ ((if o = 6 then mv_b υ o else mv_b ω o) = _ ∧ _)
    split
    · rename_i z; subst z; exact Or.inr ⟨rfl, hb⟩
    · exact Or.inl rfl

theorem mv_ag.f32 {dA : FieldType → ClassId} {D : va_G} {al : Nat → Nat} {ext : mv_Sh} {τ υ : mv_H} (h : mv_ag (mg dA D al ext) τ υ) : AgF 32 τ υ := by
  have g := h.sy
  refine ⟨fun k h1 h2 => ?_, g.i (ci := _) rfl (Nat.le_of_ble_eq_true rfl) rfl, fun k h1 => ?_, fun k h1 => ?_, fun k h1 => ?_, fun k h1 => ?_, fun y hy => ⟨g.a rfl (by decide) hy, g.a rfl (by decide) hy⟩, fun y hy => g.a rfl (by decide) hy, fun y hy => ⟨g.a rfl (by decide) hy, g.a rfl (by decide) hy, g.a rfl (by decide) hy⟩, fun y hy => g.a rfl (by decide) hy, fun y hy => g.b rfl hy⟩
  · have e : k = 5 ∨ k = 6 ∨ k = 7 ∨ k = 8 ∨ k = 9 := by omega
    rcases e with e | e | e | e | e <;> subst e
    · exact g.i rfl (Nat.le_of_ble_eq_true rfl) rfl
    · exact g.i rfl (Nat.le_of_ble_eq_true rfl) rfl
    · exact g.i rfl (Nat.le_of_ble_eq_true rfl) rfl
    · exact g.i rfl (Nat.le_of_ble_eq_true rfl) rfl
    · exact g.i rfl (Nat.le_of_ble_eq_true rfl) rfl
  · have e : k = 6 ∨ k = 7 ∨ k = 8 ∨ k = 9 ∨ k = 10 ∨ k = 15 := by omega
    rcases e with e | e | e | e | e | e <;> subst e
    · exact g.i rfl (Nat.le_of_ble_eq_true rfl) rfl
    · exact g.i rfl (Nat.le_of_ble_eq_true rfl) rfl
    · exact g.i rfl (Nat.le_of_ble_eq_true rfl) rfl
    · exact g.i rfl (Nat.le_of_ble_eq_true rfl) rfl
    · exact g.i rfl (Nat.le_of_ble_eq_true rfl) rfl
    · exact g.i rfl (Nat.le_of_ble_eq_true rfl) rfl
  · have e : k = 7 ∨ k = 9 := by omega
    rcases e with e | e <;> subst e
    · exact g.i rfl (Nat.le_of_ble_eq_true rfl) rfl
    · exact g.i rfl (Nat.le_of_ble_eq_true rfl) rfl
  · have e : k = 8 ∨ k = 10 := by omega
    rcases e with e | e <;> subst e
    · exact g.i rfl (Nat.le_of_ble_eq_true rfl) rfl
    · exact g.i rfl (Nat.le_of_ble_eq_true rfl) rfl
  · have e : k = 0 ∨ k = 1 ∨ k = 7 ∨ k = 9 ∨ k = 10 ∨ k = 17 := by omega
    rcases e with e | e | e | e | e | e <;> subst e
    · exact g.i rfl (Nat.le_of_ble_eq_true rfl) rfl
    · exact g.i rfl (Nat.le_of_ble_eq_true rfl) rfl
    · exact g.i rfl (Nat.le_of_ble_eq_true rfl) rfl
    · exact g.i rfl (Nat.le_of_ble_eq_true rfl) rfl
    · exact g.i rfl (Nat.le_of_ble_eq_true rfl) rfl
    · exact g.i rfl (Nat.le_of_ble_eq_true rfl) rfl
theorem mv_ag.f48 {dA : FieldType → ClassId} {D : va_G} {al : Nat → Nat} {ext : mv_Sh} {τ υ : mv_H} (h : mv_ag (mg dA D al ext) τ υ) : AgF 48 τ υ := by
  have g := h.sy
  refine ⟨fun k h1 h2 => ?_, g.i (ci := _) rfl (Nat.le_of_ble_eq_true rfl) rfl, fun k h1 => ?_, fun k h1 => ?_, fun k h1 => ?_, fun k h1 => ?_, fun y hy => ⟨g.a rfl (by decide) hy, g.a rfl (by decide) hy⟩, fun y hy => g.a rfl (by decide) hy, fun y hy => ⟨g.a rfl (by decide) hy, g.a rfl (by decide) hy, g.a rfl (by decide) hy⟩, fun y hy => g.a rfl (by decide) hy, fun y hy => g.b rfl hy⟩
  · have e : k = 5 ∨ k = 6 ∨ k = 7 ∨ k = 8 ∨ k = 9 := by omega
    rcases e with e | e | e | e | e <;> subst e
    · exact g.i rfl (Nat.le_of_ble_eq_true rfl) rfl
    · exact g.i rfl (Nat.le_of_ble_eq_true rfl) rfl
    · exact g.i rfl (Nat.le_of_ble_eq_true rfl) rfl
    · exact g.i rfl (Nat.le_of_ble_eq_true rfl) rfl
    · exact g.i rfl (Nat.le_of_ble_eq_true rfl) rfl
  · have e : k = 6 ∨ k = 7 ∨ k = 8 ∨ k = 9 ∨ k = 10 ∨ k = 15 := by omega
    rcases e with e | e | e | e | e | e <;> subst e
    · exact g.i rfl (Nat.le_of_ble_eq_true rfl) rfl
    · exact g.i rfl (Nat.le_of_ble_eq_true rfl) rfl
    · exact g.i rfl (Nat.le_of_ble_eq_true rfl) rfl
    · exact g.i rfl (Nat.le_of_ble_eq_true rfl) rfl
    · exact g.i rfl (Nat.le_of_ble_eq_true rfl) rfl
    · exact g.i rfl (Nat.le_of_ble_eq_true rfl) rfl
  · have e : k = 7 ∨ k = 9 := by omega
    rcases e with e | e <;> subst e
    · exact g.i rfl (Nat.le_of_ble_eq_true rfl) rfl
    · exact g.i rfl (Nat.le_of_ble_eq_true rfl) rfl
  · have e : k = 8 ∨ k = 10 := by omega
    rcases e with e | e <;> subst e
    · exact g.i rfl (Nat.le_of_ble_eq_true rfl) rfl
    · exact g.i rfl (Nat.le_of_ble_eq_true rfl) rfl
  · have e : k = 0 ∨ k = 1 ∨ k = 7 ∨ k = 9 ∨ k = 10 ∨ k = 17 := by omega
    rcases e with e | e | e | e | e | e <;> subst e
    · exact g.i rfl (Nat.le_of_ble_eq_true rfl) rfl
    · exact g.i rfl (Nat.le_of_ble_eq_true rfl) rfl
    · exact g.i rfl (Nat.le_of_ble_eq_true rfl) rfl
    · exact g.i rfl (Nat.le_of_ble_eq_true rfl) rfl
    · exact g.i rfl (Nat.le_of_ble_eq_true rfl) rfl
    · exact g.i rfl (Nat.le_of_ble_eq_true rfl) rfl


def Zst (X : TX) (J : Nat) (sy : List Nat → Nat) (n sz : Nat) : Prop := (X.kd J = 1 ∨ X.kd J = 2) ∧ (∀ i, i ≤ J → X.kd i = 3 → sy (X.nm i) < n) ∧ (n ≤ 16448) ∧ (sz = J + 2) ∧ (sz ≤ 32770)
theorem Zst.hJ {X : TX} {J : Nat} {sy : List Nat → Nat} {n sz : Nat} (h : Zst X J sy n sz) : X.kd J = 1 ∨ X.kd J = 2 := h.1
theorem Zst.s {X : TX} {J : Nat} {sy : List Nat → Nat} {n sz : Nat} (h : Zst X J sy n sz) : ∀ i, i ≤ J → X.kd i = 3 → sy (X.nm i) < n := h.2.1
theorem Zst.n {X : TX} {J : Nat} {sy : List Nat → Nat} {n sz : Nat} (h : Zst X J sy n sz) : n ≤ 16448 := h.2.2.1
theorem Zst.sz {X : TX} {J : Nat} {sy : List Nat → Nat} {n sz : Nat} (h : Zst X J sy n sz) : sz = J + 2 := h.2.2.2.1
theorem Zst.z {X : TX} {J : Nat} {sy : List Nat → Nat} {n sz : Nat} (h : Zst X J sy n sz) : sz ≤ 32770 := h.2.2.2.2
/-- what the walk carries beside its safety -/
def EXG (G : mv_G) (X : TX) (J P : Nat) (sy : List Nat → Nat) (r : Option SI) (τ : mv_H) : Prop := ∃ υ, mv_ag G τ υ ∧ xRP P (mv_r υ) ∧ EXq X J P sy r υ
def EXF (G : mv_G) (X : TX) (J P : Nat) (sy : List Nat → Nat) (r : Option SI) (τ : mv_H) : Prop := ∃ u1, mv_ag G τ u1 ∧ xRP P (mv_r u1) ∧ EXf X J P sy r u1
theorem EXG.of {G : mv_G} {X : TX} {J P : Nat} {sy : List Nat → Nat} {r : Option SI} {τ υ σ1 h' : mv_H} (hA : mv_ag G τ υ) (hx : xRP P (mv_r υ)) (hs : mv_same G σ1 h') (hr1 : mv_r h' = mv_r υ) (ha : ∀ o, o = 1 ∨ o = 4 ∨ o = 5 ∨ o = 8 ∨ o = 9 → mv_a σ1 o = mv_a τ o) (hb : mv_b σ1 6 = mv_b τ 6) (q : EXq X J P sy r h' ∨ (r = none ∧ TB X J υ ∧ SyQ X J sy υ ∧ Fl h')) : EXG G X J P sy r σ1 := by
  rcases q with q | ⟨hr, T, S, F⟩
  · exact ⟨h', hs.ag, by rw [hr1]; exact hx, q⟩
  · exact ⟨patS υ h', mv_ag.pS ha hb hA hs.ag, by show xRP P (mv_r h'); rw [hr1]; exact hx, Or.inr (Or.inr ⟨hr, patS_T T h', patS_S S h', patS_F F υ⟩)⟩
theorem XM.fl {P th e0 bs ns hl ht s : Nat} {BL BL' : (Nat → Nat) → Prop} {f0 : Nat → Int32} {g0 : Nat → Int64} {σ : mv_H} {ms : List Mk} (h : XM P th e0 bs BL f0 g0 ns σ ms hl ht s) (nn : ¬ mv_i σ 21 0 = 0) (hB : BLok e0 BL') : XM P th e0 bs BL' f0 g0 ns σ ms hl ht s := ⟨h.1, ⟨h.2.1.1, h.2.1.2.1, h.2.1.2.2.1, h.2.1.2.2.2.1, hB⟩, fun q => absurd q nn⟩
theorem XM.no {P th e0 bs ns hl ht s : Nat} {f0 : Nat → Int32} {g0 : Nat → Int64} {σ : mv_H} {ms : List Mk} (h : XM P th e0 bs (fun _ => False) f0 g0 ns σ ms hl ht s) : ¬ mv_i σ 21 0 = 0 := fun q => by
  obtain ⟨hg, z, -⟩ := h.2.2 q
  exact z
theorem blF (e0 : Nat) : BLok e0 (fun _ => False) := fun _ _ _ q => q
theorem len_of {X : TX} {J P : Nat} {sy : List Nat → Nat} {υ τ : mv_H} {c : CfA} {lkB : LK} {C : List Nat} {SC : List (List Nat)} (A : AgF P τ υ) (R : RW X J P sy υ c lkB C SC) (hm : c.md = 2 ∨ c.md = 3) (ml : c.M.length ≤ c.j) {k : Nat} (e8 : (mv_i τ 22 8).toInt = k) (hk : k ≤ 600) : c.M.length ≤ 600 ∧ nH c.M ≤ c.M.length ∧ c.H.length ≤ c.M.length + 1 := by
  obtain ⟨Cx, hA, hW, G⟩ := R.ex hm
  have jb := Cx.jb
  have e := Cx.ml
  rw [A.i22 8 (by omega), nI_o2 e8] at e
  have e2 := (nIinj (a := k) (b := c.M.length) (by omega) (by omega)).mp e
  have hn : ∀ M : List MkA, nH M ≤ M.length := by
    intro M
    induction M with
    | nil => exact Nat.le_refl _
    | cons m M ih =>
      show nHm m + nH M ≤ M.length + 1
      rcases nHm_01 m with z | z <;> omega
  have n1 := hn c.M
  refine ⟨by omega, n1, ?_⟩
  unfold HW at hW
  split at hW
  · obtain ⟨w, H', eH, -, hK⟩ := hW
    rw [eH, List.length_cons, hK.len]; omega
  · rw [hW.len]; omega

theorem k_Weaver_item_a (l : Launch) {dA : FieldType → ClassId} {D : va_G} {al : Nat → Nat} {ext : mv_Sh} {sk sv : Nat → Nat} (hi : mv_inj (mg dA D al ext)) (σ : mv_H) {t tn len n z sz th sl s0 a ns no : Nat} (hG : WG 32 32768 512 ext σ t tn len n z sz) (hM : Mt (mv_a σ 24)) (hW : WN 32 512 σ n th sl no) (hS : WS 32 σ sz th s0 a ns no []) (hm0 : mv_i σ 2 6 = 0) {X : TX} {J : Nat} {sy : List Nat → Nat} {r : Option SI} (Z : Zst X J sy n sz) (E : EXG (mg dA D al ext) X J 32 sy r σ) : mv_C l y_Weaver_item (Cond.code y_Weaver_item b_Weaver_item 1 (Option.none : Option Jvm.ClassFile.FieldType) :: ma) ({ frames := 5, cells := 0, slots := 0, locals := 111 }) (mg dA D al ext) (mK sk sv) [.ref (al 2)] σ (mv_Rv (fun σ1 => (TP 32 512 σ σ1 n sz a ∨ σ1 = mv_si σ 2 6 4) ∧ EXG (mg dA D al ext) X J 32 sy r σ1)) := by
  obtain ⟨υ, hA, hx, E⟩ := E
  obtain ⟨h', e, q⟩ := it_T hA.f32 (by decide) Z.hJ Z.s Z.n Z.sz Z.z hW E hS hm0
  refine (mv_C.twov (c_Weaver_item_a l hi σ hG hM hW hS hm0) (hA.C (ch_Weaver_item_a l hi υ hx e))).imp (fun o σ1 w => ?_)
  obtain ⟨w1, w2, υ1, ⟨e1, hr1⟩, hs⟩ := w
  subst e1
  refine ⟨w1, w2, EXG.of hA hx hs hr1 ?_ ?_ q⟩
  · intro o ho
    rcases w2 with w | w
    · exact w.1.2.1 o (by omega)
    · rw [w]; rfl
  · rcases w2 with w | w
    · exact w.1.2.2.1 6 (by omega)
    · rw [w]; rfl
theorem k_Weaver_statement_a (l : Launch) {dA : FieldType → ClassId} {D : va_G} {al : Nat → Nat} {ext : mv_Sh} {sk sv : Nat → Nat} (hi : mv_inj (mg dA D al ext)) (σ : mv_H) {t tn len n z sz th sl s0 a ns no : Nat} (hG : WG 32 32768 512 ext σ t tn len n z sz) (hM : Mt (mv_a σ 24)) (hW : WN 32 512 σ n th sl no) {bl : List Bk} (hS : WS 32 σ sz th s0 a ns no bl) (hne : ¬ bl = []) (hm1 : mv_i σ 2 6 = 1) {X : TX} {J : Nat} {sy : List Nat → Nat} {r : Option SI} (Z : Zst X J sy n sz) (E : EXG (mg dA D al ext) X J 32 sy r σ) : mv_C l y_Weaver_statement (Cond.code y_Weaver_statement b_Weaver_statement 1 (Option.none : Option Jvm.ClassFile.FieldType) :: ma) ({ frames := 5, cells := 0, slots := 0, locals := 108 }) (mg dA D al ext) (mK sk sv) [.ref (al 2)] σ (mv_Rv (fun σ1 => TP 32 512 σ σ1 n sz a ∧ EXG (mg dA D al ext) X J 32 sy r σ1)) := by
  obtain ⟨υ, hA, hx, E⟩ := E
  obtain ⟨h', e, q⟩ := st_T hA.f32 (by decide) Z.hJ Z.s Z.n Z.sz Z.z hW E hne hS hm1
  refine (mv_C.twov (c_Weaver_statement_a l hi σ hG hM hW hS hne hm1) (hA.C (ch_Weaver_statement_a l hi υ hx e))).imp (fun o σ1 w => ?_)
  obtain ⟨w1, w2, υ1, ⟨e1, hr1⟩, hs⟩ := w
  subst e1
  exact ⟨w1, w2, EXG.of hA hx hs hr1 (fun o ho => w2.1.2.1 o (by omega)) (w2.1.2.2.1 6 (by omega)) q⟩
theorem k_Weaver_finish_a (l : Launch) {dA : FieldType → ClassId} {D : va_G} {al : Nat → Nat} {ext : mv_Sh} {sk sv : Nat → Nat} (hi : mv_inj (mg dA D al ext)) (σ : mv_H) {t tn len n z sz th sl s0 a ns no e0 bs bd : Nat} {f0 : Nat → Int32} {g0 : Nat → Int64} {bl ol : List Bk} (hG : WG 32 32768 512 ext σ t tn len n z sz) (hM : Mt (mv_a σ 24)) (hW : WN 32 512 σ n th sl no) (hX : XM 32 th e0 bs (BLx th e0 f0 g0 (mv_a σ 39) no ol (mv_i σ 2 7 = 4 ∨ 0 ≤ (mv_i σ 2 9).toInt)) f0 g0 ns σ [] 1 1 s0) (hI : TI σ sz bd [] s0 a) (hne : ¬ bl = []) (hb15 : (mv_i σ 2 15).toInt = bl.length) (hB : BkR (mv_a σ 28) (mv_a σ 29) (mv_a σ 30) (mv_a σ 31) g0 (mv_i σ 13 7).toInt bl) (hO : Bo f0 e0 ol) (hGl : Gl (mv_i σ 2 7) bs bd bl.length (mv_i σ 2 9).toInt n th (mv_i σ 13 9).toInt) (hGx : Gx (mv_i σ 2 7) g0 (mv_i σ 2 10) bl ol) (hgt : mv_i σ 2 7 = 1 ∨ (0 ≤ (mv_i σ 2 8).toInt ∧ (mv_i σ 2 8).toInt < 32770)) (hn2 : 2 * ns + 2 ≤ a) (hn4 : mv_i σ 2 7 = 1 ∨ mv_i σ 2 7 = 2 ∨ mv_i σ 2 7 = 3 → 2 * ns + 4 ≤ a) (hnc : no ≤ nCd (mv_a σ 4) a) {X : TX} {J : Nat} {sy : List Nat → Nat} {r : Option SI} (Z : Zst X J sy n sz) {u1 : mv_H} (hA : mv_ag (mg dA D al ext) σ (mv_si u1 2 6 3)) (hx : xRP 32 (mv_r u1)) (E : EXf X J 32 sy r u1) : mv_C l y_Weaver_finish (Cond.code y_Weaver_finish b_Weaver_finish 2 (Option.none : Option Jvm.ClassFile.FieldType) :: ma) ({ frames := 4, cells := 0, slots := 0, locals := 86 }) (mg dA D al ext) (mK sk sv) [.ref (al 2)] σ (mv_Rv (fun σ1 => TP 32 512 σ σ1 n sz a ∧ EXG (mg dA D al ext) X J 32 sy r σ1)) := by
  obtain ⟨h', e, q⟩ := fn_T hA.f32 (by decide) Z.hJ Z.s Z.n Z.sz Z.z hW E hX hI hb15 hGl hgt
  have hx2 : xRP 32 (mv_r (mv_si u1 2 6 3)) := hx
  refine (mv_C.twov (c_Weaver_finish_a l hi σ hG hM hW hX hI hne hb15 hB hO hGl hGx hgt hn2 hn4 hnc) (hA.C (ch_Weaver_finish_a l hi (mv_si u1 2 6 3) hx2 e))).imp (fun o σ1 w => ?_)
  obtain ⟨w1, w2, υ1, ⟨e1, hr1⟩, hs⟩ := w
  subst e1
  refine ⟨w1, w2, EXG.of hA hx2 hs hr1 (fun o ho => w2.1.2.1 o (by omega)) (w2.1.2.2.1 6 (by omega)) ?_⟩
  rcases q with q | ⟨q1, q2, q3, q4⟩
  · exact Or.inl q
  · exact Or.inr ⟨q1, q2.fr rfl rfl rfl, q3.fr rfl rfl rfl rfl rfl, q4⟩
theorem k_Exprs_operand_a (l : Launch) {dA : FieldType → ClassId} {D : va_G} {al : Nat → Nat} {ext : mv_Sh} {sk sv : Nat → Nat} (hi : mv_inj (mg dA D al ext)) (σ : mv_H) {t len n z sz th sl e0 bs ns : Nat} {BL : (Nat → Nat) → Prop} {f0 : Nat → Int32} {g0 : Nat → Int64} {ms : List Mk} {s0 bd a : Nat} (hB0 : SB 32 σ t len n z sz th sl) (ht2 : t = 1 ∨ t = 144) (hX : XM 32 th e0 bs BL f0 g0 ns σ (ms) (sm wt ms + 0) (sm wr ms + 0) (s0)) (hI : TI σ sz bd ms s0 a) (hlen : len ≤ 32768) (hbs : bs ≤ 1) (hm : mv_i σ 2 6 = 2) (h34 : mv_r σ 3 4 = some 1) {X : TX} {J : Nat} {sy : List Nat → Nat} {r : Option SI} (E : EXG (mg dA D al ext) X J 32 sy r σ) : mv_C l y_Exprs_operand (Cond.code y_Exprs_operand b_Exprs_operand 2 (Option.some Jvm.ClassFile.FieldType.boolean) :: ma) ({ frames := 4, cells := 0, slots := 0, locals := 90 }) (mg dA D al ext) (mK sk sv) [.ref (al 22)] σ (mv_Ri (fun v σ1 => (RF 32 σ σ1 ∧ Mt (mv_a σ1 24) ∧ (v = 0 ∨ v = 1) ∧ (0 ≤ (mv_i σ1 3 9).toInt ∨ ∃ ms2 s2 a2, a < a2 ∧ XM 32 th e0 bs BL f0 g0 ns σ1 (ms2) (sm wt ms2 + v.toNatClampNeg) (sm wr ms2 + v.toNatClampNeg) (s2) ∧ TI σ1 sz bd ms2 s2 a2)) ∧ EXG (mg dA D al ext) X J 32 sy r (mv_si σ1 2 6 (if v = 0 then 2 else 3)))) := by
  obtain ⟨υ, hA, hx, E⟩ := E
  have A := hA.f32
  have hm' : mv_i υ 2 6 = 2 := by rw [A.i2 6 (by omega)]; exact hm
  rcases E with ⟨c, lkB, C, SC, R, ew, ml, ke⟩ | ⟨⟨h4, -⟩, -⟩ | ⟨hr, T, S, F⟩
  · have hc : c.md = 2 := by
      have := R.md
      rw [hm'] at this
      have m3 := R.m3
      exact ((nIinj (a := 2) (b := c.md) (by omega) (by omega)).mp this).symm
    obtain ⟨l1, l2, l3⟩ := len_of A R (Or.inl hc) ml hX.1.1 (by have := (hI.len hX).1; omega)
    obtain ⟨v, h', e, q⟩ := op_G R ew ml ke hc (by omega) (by omega)
    refine (mv_C.twoi (c_Exprs_operand_a l hi σ hB0 ht2 hX hI hlen hbs) (hA.C (ch_Exprs_operand_a l hi υ hx e))).imp (fun o σ1 w => ?_)
    obtain ⟨v', w1, w2, υ1, ⟨e0', e1, hr1⟩, hs⟩ := w
    subst e0'; subst e1
    have h2 := hs.ag
    refine ⟨v, w1, w2, mv_si (patE 32 υ h') 2 6 (if v = 0 then 2 else 3), (mv_ag.pE w2.1 hA h2).si _ _ _, by show xRP 32 (mv_r h'); rw [hr1]; exact hx, q (fun t ht => ?_)⟩
    have a1 : mv_a h' (32 + 1) t = mv_a σ1 (32 + 1) t := (h2.a rfl (by decide) ht).symm
    have a2 : mv_a σ (32 + 1) t = mv_a υ (32 + 1) t := hA.a rfl (by decide) ht
    rw [a1, w2.1.2.1 (32 + 1) (by decide)]; exact a2
  · rw [h4] at hm'; exact absurd hm' (by decide)
  · have nn : ¬ mv_i σ 21 0 = 0 := by
      rcases F with F | F
      · have := hI.2.1
        rw [A.i3 9 (by omega) (by omega)] at F
        omega
      · rw [A.i21] at F; exact F
    refine (c_Exprs_operand_a l hi σ hB0 ht2 (hX.fl nn (blF e0)) hI hlen hbs).imp (fun o σ1 w => ?_)
    obtain ⟨v, w1, w2, w3, w4, w5⟩ := w
    have F1 : Fl σ1 := by
      rcases w5 with q | ⟨ms2, s2, a2, q1, q2, q3⟩
      · exact Or.inl q
      · exact Or.inr q2.no
    refine ⟨v, w1, ⟨w2, w3, w4, ?_⟩, mv_si (patE 32 υ σ1) 2 6 (if v = 0 then 2 else 3), (mv_ag.pE w2 hA (mv_ag.rf σ1)).si _ _ _, ?_, Or.inr (Or.inr ⟨hr, patE_T (by decide) T σ1 _, patE_S (by decide) S σ1 _, (patE_Fl F1 υ).q26 _⟩)⟩
    · rcases w5 with q | ⟨ms2, s2, a2, q1, q2, q3⟩
      · exact Or.inl q
      · exact Or.inr ⟨ms2, s2, a2, q1, q2.fl q2.no hX.2.1.2.2.2.2, q3⟩
    · show xRP 32 (mv_r σ1)
      rw [w2.2.2.2.2]
      exact ⟨hB0.1, h34⟩
theorem k_Exprs_after_a (l : Launch) {dA : FieldType → ClassId} {D : va_G} {al : Nat → Nat} {ext : mv_Sh} {sk sv : Nat → Nat} (hi : mv_inj (mg dA D al ext)) (σ : mv_H) {t len n z sz th sl e0 bs ns : Nat} {BL : (Nat → Nat) → Prop} {f0 : Nat → Int32} {g0 : Nat → Int64} {ms : List Mk} {s0 bd a : Nat} (hB0 : SB 32 σ t len n z sz th sl) (ht2 : t = 1 ∨ t = 144) (hX : XM 32 th e0 bs BL f0 g0 ns σ (ms) (sm wt ms + 1) (sm wr ms + 1) (s0)) (hI : TI σ sz bd ms s0 a) (hlen : len ≤ 32768) (hbs : bs ≤ 1) (hm : mv_i σ 2 6 = 3) (h34 : mv_r σ 3 4 = some 1) {X : TX} {J : Nat} {sy : List Nat → Nat} {r : Option SI} (E : EXG (mg dA D al ext) X J 32 sy r σ) : mv_C l y_Exprs_after (Cond.code y_Exprs_after b_Exprs_after 3 (Option.some Jvm.ClassFile.FieldType.int) :: ma) ({ frames := 5, cells := 0, slots := 0, locals := 112 }) (mg dA D al ext) (mK sk sv) [.ref (al 22)] σ (mv_Ri (fun v σ1 => (RF 32 σ σ1 ∧ Mt (mv_a σ1 24) ∧ ((v = 2 ∧ ∃ s2, XM 32 th e0 bs BL f0 g0 ns σ1 ([]) (1) (1) (s2) ∧ TI σ1 sz bd [] s2 a) ∨ ((v = 0 ∨ v = 1) ∧ (0 ≤ (mv_i σ1 3 9).toInt ∨ ∃ ms2 s2 a2, a < a2 ∧ XM 32 th e0 bs BL f0 g0 ns σ1 (ms2) (sm wt ms2 + v.toNatClampNeg) (sm wr ms2 + v.toNatClampNeg) (s2) ∧ TI σ1 sz bd ms2 s2 a2)))) ∧ (¬ v = 2 → EXG (mg dA D al ext) X J 32 sy r (mv_si σ1 2 6 (if v = 0 then 2 else 3))) ∧ (v = 2 → EXF (mg dA D al ext) X J 32 sy r σ1))) := by
  obtain ⟨υ, hA, hx, E⟩ := E
  have A := hA.f32
  have hm' : mv_i υ 2 6 = 3 := by rw [A.i2 6 (by omega)]; exact hm
  rcases E with ⟨c, lkB, C, SC, R, ew, ml, ke⟩ | ⟨⟨h4, -⟩, -⟩ | ⟨hr, T, S, F⟩
  · have hc : c.md = 3 := by
      have := R.md
      rw [hm'] at this
      have m3 := R.m3
      exact ((nIinj (a := 3) (b := c.md) (by omega) (by omega)).mp this).symm
    obtain ⟨l1, l2, l3⟩ := len_of A R (Or.inr hc) ml hX.1.1 (by have := (hI.len hX).1; omega)
    obtain ⟨v, h', e, q⟩ := af_G R ew ml ke hc (by omega) (by omega)
    refine (mv_C.twoi (c_Exprs_after_a l hi σ hB0 ht2 hX hI hlen hbs) (hA.C (ch_Exprs_after_a l hi υ hx e))).imp (fun o σ1 w => ?_)
    obtain ⟨v', w1, w2, υ1, ⟨e0', e1, hr1⟩, hs⟩ := w
    subst e0'; subst e1
    have h2 := hs.ag
    obtain ⟨q1, q2⟩ := q (fun t ht => by
      have a1 : mv_a h' (32 + 1) t = mv_a σ1 (32 + 1) t := (h2.a rfl (by decide) ht).symm
      have a2 : mv_a σ (32 + 1) t = mv_a υ (32 + 1) t := hA.a rfl (by decide) ht
      rw [a1, w2.1.2.1 (32 + 1) (by decide)]; exact a2)
    have hx1 : xRP 32 (mv_r h') := by rw [hr1]; exact hx
    exact ⟨v, w1, w2, fun z => ⟨_, (mv_ag.pE w2.1 hA h2).si _ _ _, hx1, q1 z⟩, fun z => ⟨_, mv_ag.pE w2.1 hA h2, hx1, q2 z⟩⟩
  · rw [h4] at hm'; exact absurd hm' (by decide)
  · have nn : ¬ mv_i σ 21 0 = 0 := by
      rcases F with F | F
      · have := hI.2.1
        rw [A.i3 9 (by omega) (by omega)] at F
        omega
      · rw [A.i21] at F; exact F
    refine (c_Exprs_after_a l hi σ hB0 ht2 (hX.fl nn (blF e0)) hI hlen hbs).imp (fun o σ1 w => ?_)
    obtain ⟨v, w1, w2, w3, w4⟩ := w
    have F1 : Fl σ1 := by
      rcases w4 with ⟨-, s2, q2, q3⟩ | ⟨-, q | ⟨ms2, s2, a2, q1, q2, q3⟩⟩
      · exact Or.inr q2.no
      · exact Or.inl q
      · exact Or.inr q2.no
    have hB := hX.2.1.2.2.2.2
    have hx1 : xRP 32 (mv_r σ1) := by rw [w2.2.2.2.2]; exact ⟨hB0.1, h34⟩
    have hP := mv_ag.pE w2 hA (mv_ag.rf σ1)
    refine ⟨v, w1, ⟨w2, w3, ?_⟩, fun _ => ⟨mv_si (patE 32 υ σ1) 2 6 (if v = 0 then 2 else 3), hP.si _ _ _, hx1, Or.inr (Or.inr ⟨hr, patE_T (by decide) T σ1 _, patE_S (by decide) S σ1 _, (patE_Fl F1 υ).q26 _⟩)⟩, fun _ => ⟨patE 32 υ σ1, hP, hx1, Or.inr ⟨hr, (patE_T (by decide) T σ1 0).fr rfl rfl rfl, (patE_S (by decide) S σ1 0).fr rfl rfl rfl rfl rfl, patE_Fl F1 υ⟩⟩⟩
    rcases w4 with ⟨q0, s2, q2, q3⟩ | ⟨q0, q | ⟨ms2, s2, a2, q1, q2, q3⟩⟩
    · exact Or.inl ⟨q0, s2, q2.fl q2.no hB, q3⟩
    · exact Or.inr ⟨q0, Or.inl q⟩
    · exact Or.inr ⟨q0, Or.inr ⟨ms2, s2, a2, q1, q2.fl q2.no hB, q3⟩⟩

theorem k_Weaver_item_b (l : Launch) {dA : FieldType → ClassId} {D : va_G} {al : Nat → Nat} {ext : mv_Sh} {sk sv : Nat → Nat} (hi : mv_inj (mg dA D al ext)) (σ : mv_H) {t tn len n z sz th sl s0 a ns no : Nat} (hG : WG 48 32768 512 ext σ t tn len n z sz) (hM : Mt (mv_a σ 24)) (hW : WN 48 512 σ n th sl no) (hS : WS 48 σ sz th s0 a ns no []) (hm0 : mv_i σ 2 6 = 0) {X : TX} {J : Nat} {sy : List Nat → Nat} {r : Option SI} (Z : Zst X J sy n sz) (E : EXG (mg dA D al ext) X J 48 sy r σ) : mv_C l y_Weaver_item (Cond.code y_Weaver_item b_Weaver_item 1 (Option.none : Option Jvm.ClassFile.FieldType) :: ma) ({ frames := 5, cells := 0, slots := 0, locals := 111 }) (mg dA D al ext) (mK sk sv) [.ref (al 2)] σ (mv_Rv (fun σ1 => (TP 48 512 σ σ1 n sz a ∨ σ1 = mv_si σ 2 6 4) ∧ EXG (mg dA D al ext) X J 48 sy r σ1)) := by
  obtain ⟨υ, hA, hx, E⟩ := E
  obtain ⟨h', e, q⟩ := it_T hA.f48 (by decide) Z.hJ Z.s Z.n Z.sz Z.z hW E hS hm0
  refine (mv_C.twov (c_Weaver_item_b l hi σ hG hM hW hS hm0) (hA.C (ch_Weaver_item_b l hi υ hx e))).imp (fun o σ1 w => ?_)
  obtain ⟨w1, w2, υ1, ⟨e1, hr1⟩, hs⟩ := w
  subst e1
  refine ⟨w1, w2, EXG.of hA hx hs hr1 ?_ ?_ q⟩
  · intro o ho
    rcases w2 with w | w
    · exact w.1.2.1 o (by omega)
    · rw [w]; rfl
  · rcases w2 with w | w
    · exact w.1.2.2.1 6 (by omega)
    · rw [w]; rfl
theorem k_Weaver_statement_b (l : Launch) {dA : FieldType → ClassId} {D : va_G} {al : Nat → Nat} {ext : mv_Sh} {sk sv : Nat → Nat} (hi : mv_inj (mg dA D al ext)) (σ : mv_H) {t tn len n z sz th sl s0 a ns no : Nat} (hG : WG 48 32768 512 ext σ t tn len n z sz) (hM : Mt (mv_a σ 24)) (hW : WN 48 512 σ n th sl no) {bl : List Bk} (hS : WS 48 σ sz th s0 a ns no bl) (hne : ¬ bl = []) (hm1 : mv_i σ 2 6 = 1) {X : TX} {J : Nat} {sy : List Nat → Nat} {r : Option SI} (Z : Zst X J sy n sz) (E : EXG (mg dA D al ext) X J 48 sy r σ) : mv_C l y_Weaver_statement (Cond.code y_Weaver_statement b_Weaver_statement 1 (Option.none : Option Jvm.ClassFile.FieldType) :: ma) ({ frames := 5, cells := 0, slots := 0, locals := 108 }) (mg dA D al ext) (mK sk sv) [.ref (al 2)] σ (mv_Rv (fun σ1 => TP 48 512 σ σ1 n sz a ∧ EXG (mg dA D al ext) X J 48 sy r σ1)) := by
  obtain ⟨υ, hA, hx, E⟩ := E
  obtain ⟨h', e, q⟩ := st_T hA.f48 (by decide) Z.hJ Z.s Z.n Z.sz Z.z hW E hne hS hm1
  refine (mv_C.twov (c_Weaver_statement_b l hi σ hG hM hW hS hne hm1) (hA.C (ch_Weaver_statement_b l hi υ hx e))).imp (fun o σ1 w => ?_)
  obtain ⟨w1, w2, υ1, ⟨e1, hr1⟩, hs⟩ := w
  subst e1
  exact ⟨w1, w2, EXG.of hA hx hs hr1 (fun o ho => w2.1.2.1 o (by omega)) (w2.1.2.2.1 6 (by omega)) q⟩
theorem k_Weaver_finish_b (l : Launch) {dA : FieldType → ClassId} {D : va_G} {al : Nat → Nat} {ext : mv_Sh} {sk sv : Nat → Nat} (hi : mv_inj (mg dA D al ext)) (σ : mv_H) {t tn len n z sz th sl s0 a ns no e0 bs bd : Nat} {f0 : Nat → Int32} {g0 : Nat → Int64} {bl ol : List Bk} (hG : WG 48 32768 512 ext σ t tn len n z sz) (hM : Mt (mv_a σ 24)) (hW : WN 48 512 σ n th sl no) (hX : XM 48 th e0 bs (BLx th e0 f0 g0 (mv_a σ 55) no ol (mv_i σ 2 7 = 4 ∨ 0 ≤ (mv_i σ 2 9).toInt)) f0 g0 ns σ [] 1 1 s0) (hI : TI σ sz bd [] s0 a) (hne : ¬ bl = []) (hb15 : (mv_i σ 2 15).toInt = bl.length) (hB : BkR (mv_a σ 28) (mv_a σ 29) (mv_a σ 30) (mv_a σ 31) g0 (mv_i σ 13 7).toInt bl) (hO : Bo f0 e0 ol) (hGl : Gl (mv_i σ 2 7) bs bd bl.length (mv_i σ 2 9).toInt n th (mv_i σ 13 9).toInt) (hGx : Gx (mv_i σ 2 7) g0 (mv_i σ 2 10) bl ol) (hgt : mv_i σ 2 7 = 1 ∨ (0 ≤ (mv_i σ 2 8).toInt ∧ (mv_i σ 2 8).toInt < 32770)) (hn2 : 2 * ns + 2 ≤ a) (hn4 : mv_i σ 2 7 = 1 ∨ mv_i σ 2 7 = 2 ∨ mv_i σ 2 7 = 3 → 2 * ns + 4 ≤ a) (hnc : no ≤ nCd (mv_a σ 4) a) {X : TX} {J : Nat} {sy : List Nat → Nat} {r : Option SI} (Z : Zst X J sy n sz) {u1 : mv_H} (hA : mv_ag (mg dA D al ext) σ (mv_si u1 2 6 3)) (hx : xRP 48 (mv_r u1)) (E : EXf X J 48 sy r u1) : mv_C l y_Weaver_finish (Cond.code y_Weaver_finish b_Weaver_finish 2 (Option.none : Option Jvm.ClassFile.FieldType) :: ma) ({ frames := 4, cells := 0, slots := 0, locals := 86 }) (mg dA D al ext) (mK sk sv) [.ref (al 2)] σ (mv_Rv (fun σ1 => TP 48 512 σ σ1 n sz a ∧ EXG (mg dA D al ext) X J 48 sy r σ1)) := by
  obtain ⟨h', e, q⟩ := fn_T hA.f48 (by decide) Z.hJ Z.s Z.n Z.sz Z.z hW E hX hI hb15 hGl hgt
  have hx2 : xRP 48 (mv_r (mv_si u1 2 6 3)) := hx
  refine (mv_C.twov (c_Weaver_finish_b l hi σ hG hM hW hX hI hne hb15 hB hO hGl hGx hgt hn2 hn4 hnc) (hA.C (ch_Weaver_finish_b l hi (mv_si u1 2 6 3) hx2 e))).imp (fun o σ1 w => ?_)
  obtain ⟨w1, w2, υ1, ⟨e1, hr1⟩, hs⟩ := w
  subst e1
  refine ⟨w1, w2, EXG.of hA hx2 hs hr1 (fun o ho => w2.1.2.1 o (by omega)) (w2.1.2.2.1 6 (by omega)) ?_⟩
  rcases q with q | ⟨q1, q2, q3, q4⟩
  · exact Or.inl q
  · exact Or.inr ⟨q1, q2.fr rfl rfl rfl, q3.fr rfl rfl rfl rfl rfl, q4⟩
theorem k_Exprs_operand_b (l : Launch) {dA : FieldType → ClassId} {D : va_G} {al : Nat → Nat} {ext : mv_Sh} {sk sv : Nat → Nat} (hi : mv_inj (mg dA D al ext)) (σ : mv_H) {t len n z sz th sl e0 bs ns : Nat} {BL : (Nat → Nat) → Prop} {f0 : Nat → Int32} {g0 : Nat → Int64} {ms : List Mk} {s0 bd a : Nat} (hB0 : SB 48 σ t len n z sz th sl) (ht2 : t = 1 ∨ t = 144) (hX : XM 48 th e0 bs BL f0 g0 ns σ (ms) (sm wt ms + 0) (sm wr ms + 0) (s0)) (hI : TI σ sz bd ms s0 a) (hlen : len ≤ 32768) (hbs : bs ≤ 1) (hm : mv_i σ 2 6 = 2) (h34 : mv_r σ 3 4 = some 1) {X : TX} {J : Nat} {sy : List Nat → Nat} {r : Option SI} (E : EXG (mg dA D al ext) X J 48 sy r σ) : mv_C l y_Exprs_operand (Cond.code y_Exprs_operand b_Exprs_operand 2 (Option.some Jvm.ClassFile.FieldType.boolean) :: ma) ({ frames := 4, cells := 0, slots := 0, locals := 90 }) (mg dA D al ext) (mK sk sv) [.ref (al 22)] σ (mv_Ri (fun v σ1 => (RF 48 σ σ1 ∧ Mt (mv_a σ1 24) ∧ (v = 0 ∨ v = 1) ∧ (0 ≤ (mv_i σ1 3 9).toInt ∨ ∃ ms2 s2 a2, a < a2 ∧ XM 48 th e0 bs BL f0 g0 ns σ1 (ms2) (sm wt ms2 + v.toNatClampNeg) (sm wr ms2 + v.toNatClampNeg) (s2) ∧ TI σ1 sz bd ms2 s2 a2)) ∧ EXG (mg dA D al ext) X J 48 sy r (mv_si σ1 2 6 (if v = 0 then 2 else 3)))) := by
  obtain ⟨υ, hA, hx, E⟩ := E
  have A := hA.f48
  have hm' : mv_i υ 2 6 = 2 := by rw [A.i2 6 (by omega)]; exact hm
  rcases E with ⟨c, lkB, C, SC, R, ew, ml, ke⟩ | ⟨⟨h4, -⟩, -⟩ | ⟨hr, T, S, F⟩
  · have hc : c.md = 2 := by
      have := R.md
      rw [hm'] at this
      have m3 := R.m3
      exact ((nIinj (a := 2) (b := c.md) (by omega) (by omega)).mp this).symm
    obtain ⟨l1, l2, l3⟩ := len_of A R (Or.inl hc) ml hX.1.1 (by have := (hI.len hX).1; omega)
    obtain ⟨v, h', e, q⟩ := op_G R ew ml ke hc (by omega) (by omega)
    refine (mv_C.twoi (c_Exprs_operand_b l hi σ hB0 ht2 hX hI hlen hbs) (hA.C (ch_Exprs_operand_b l hi υ hx e))).imp (fun o σ1 w => ?_)
    obtain ⟨v', w1, w2, υ1, ⟨e0', e1, hr1⟩, hs⟩ := w
    subst e0'; subst e1
    have h2 := hs.ag
    refine ⟨v, w1, w2, mv_si (patE 48 υ h') 2 6 (if v = 0 then 2 else 3), (mv_ag.pE w2.1 hA h2).si _ _ _, by show xRP 48 (mv_r h'); rw [hr1]; exact hx, q (fun t ht => ?_)⟩
    have a1 : mv_a h' (48 + 1) t = mv_a σ1 (48 + 1) t := (h2.a rfl (by decide) ht).symm
    have a2 : mv_a σ (48 + 1) t = mv_a υ (48 + 1) t := hA.a rfl (by decide) ht
    rw [a1, w2.1.2.1 (48 + 1) (by decide)]; exact a2
  · rw [h4] at hm'; exact absurd hm' (by decide)
  · have nn : ¬ mv_i σ 21 0 = 0 := by
      rcases F with F | F
      · have := hI.2.1
        rw [A.i3 9 (by omega) (by omega)] at F
        omega
      · rw [A.i21] at F; exact F
    refine (c_Exprs_operand_b l hi σ hB0 ht2 (hX.fl nn (blF e0)) hI hlen hbs).imp (fun o σ1 w => ?_)
    obtain ⟨v, w1, w2, w3, w4, w5⟩ := w
    have F1 : Fl σ1 := by
      rcases w5 with q | ⟨ms2, s2, a2, q1, q2, q3⟩
      · exact Or.inl q
      · exact Or.inr q2.no
    refine ⟨v, w1, ⟨w2, w3, w4, ?_⟩, mv_si (patE 48 υ σ1) 2 6 (if v = 0 then 2 else 3), (mv_ag.pE w2 hA (mv_ag.rf σ1)).si _ _ _, ?_, Or.inr (Or.inr ⟨hr, patE_T (by decide) T σ1 _, patE_S (by decide) S σ1 _, (patE_Fl F1 υ).q26 _⟩)⟩
    · rcases w5 with q | ⟨ms2, s2, a2, q1, q2, q3⟩
      · exact Or.inl q
      · exact Or.inr ⟨ms2, s2, a2, q1, q2.fl q2.no hX.2.1.2.2.2.2, q3⟩
    · show xRP 48 (mv_r σ1)
      rw [w2.2.2.2.2]
      exact ⟨hB0.1, h34⟩
theorem k_Exprs_after_b (l : Launch) {dA : FieldType → ClassId} {D : va_G} {al : Nat → Nat} {ext : mv_Sh} {sk sv : Nat → Nat} (hi : mv_inj (mg dA D al ext)) (σ : mv_H) {t len n z sz th sl e0 bs ns : Nat} {BL : (Nat → Nat) → Prop} {f0 : Nat → Int32} {g0 : Nat → Int64} {ms : List Mk} {s0 bd a : Nat} (hB0 : SB 48 σ t len n z sz th sl) (ht2 : t = 1 ∨ t = 144) (hX : XM 48 th e0 bs BL f0 g0 ns σ (ms) (sm wt ms + 1) (sm wr ms + 1) (s0)) (hI : TI σ sz bd ms s0 a) (hlen : len ≤ 32768) (hbs : bs ≤ 1) (hm : mv_i σ 2 6 = 3) (h34 : mv_r σ 3 4 = some 1) {X : TX} {J : Nat} {sy : List Nat → Nat} {r : Option SI} (E : EXG (mg dA D al ext) X J 48 sy r σ) : mv_C l y_Exprs_after (Cond.code y_Exprs_after b_Exprs_after 3 (Option.some Jvm.ClassFile.FieldType.int) :: ma) ({ frames := 5, cells := 0, slots := 0, locals := 112 }) (mg dA D al ext) (mK sk sv) [.ref (al 22)] σ (mv_Ri (fun v σ1 => (RF 48 σ σ1 ∧ Mt (mv_a σ1 24) ∧ ((v = 2 ∧ ∃ s2, XM 48 th e0 bs BL f0 g0 ns σ1 ([]) (1) (1) (s2) ∧ TI σ1 sz bd [] s2 a) ∨ ((v = 0 ∨ v = 1) ∧ (0 ≤ (mv_i σ1 3 9).toInt ∨ ∃ ms2 s2 a2, a < a2 ∧ XM 48 th e0 bs BL f0 g0 ns σ1 (ms2) (sm wt ms2 + v.toNatClampNeg) (sm wr ms2 + v.toNatClampNeg) (s2) ∧ TI σ1 sz bd ms2 s2 a2)))) ∧ (¬ v = 2 → EXG (mg dA D al ext) X J 48 sy r (mv_si σ1 2 6 (if v = 0 then 2 else 3))) ∧ (v = 2 → EXF (mg dA D al ext) X J 48 sy r σ1))) := by
  obtain ⟨υ, hA, hx, E⟩ := E
  have A := hA.f48
  have hm' : mv_i υ 2 6 = 3 := by rw [A.i2 6 (by omega)]; exact hm
  rcases E with ⟨c, lkB, C, SC, R, ew, ml, ke⟩ | ⟨⟨h4, -⟩, -⟩ | ⟨hr, T, S, F⟩
  · have hc : c.md = 3 := by
      have := R.md
      rw [hm'] at this
      have m3 := R.m3
      exact ((nIinj (a := 3) (b := c.md) (by omega) (by omega)).mp this).symm
    obtain ⟨l1, l2, l3⟩ := len_of A R (Or.inr hc) ml hX.1.1 (by have := (hI.len hX).1; omega)
    obtain ⟨v, h', e, q⟩ := af_G R ew ml ke hc (by omega) (by omega)
    refine (mv_C.twoi (c_Exprs_after_b l hi σ hB0 ht2 hX hI hlen hbs) (hA.C (ch_Exprs_after_b l hi υ hx e))).imp (fun o σ1 w => ?_)
    obtain ⟨v', w1, w2, υ1, ⟨e0', e1, hr1⟩, hs⟩ := w
    subst e0'; subst e1
    have h2 := hs.ag
    obtain ⟨q1, q2⟩ := q (fun t ht => by
      have a1 : mv_a h' (48 + 1) t = mv_a σ1 (48 + 1) t := (h2.a rfl (by decide) ht).symm
      have a2 : mv_a σ (48 + 1) t = mv_a υ (48 + 1) t := hA.a rfl (by decide) ht
      rw [a1, w2.1.2.1 (48 + 1) (by decide)]; exact a2)
    have hx1 : xRP 48 (mv_r h') := by rw [hr1]; exact hx
    exact ⟨v, w1, w2, fun z => ⟨_, (mv_ag.pE w2.1 hA h2).si _ _ _, hx1, q1 z⟩, fun z => ⟨_, mv_ag.pE w2.1 hA h2, hx1, q2 z⟩⟩
  · rw [h4] at hm'; exact absurd hm' (by decide)
  · have nn : ¬ mv_i σ 21 0 = 0 := by
      rcases F with F | F
      · have := hI.2.1
        rw [A.i3 9 (by omega) (by omega)] at F
        omega
      · rw [A.i21] at F; exact F
    refine (c_Exprs_after_b l hi σ hB0 ht2 (hX.fl nn (blF e0)) hI hlen hbs).imp (fun o σ1 w => ?_)
    obtain ⟨v, w1, w2, w3, w4⟩ := w
    have F1 : Fl σ1 := by
      rcases w4 with ⟨-, s2, q2, q3⟩ | ⟨-, q | ⟨ms2, s2, a2, q1, q2, q3⟩⟩
      · exact Or.inr q2.no
      · exact Or.inl q
      · exact Or.inr q2.no
    have hB := hX.2.1.2.2.2.2
    have hx1 : xRP 48 (mv_r σ1) := by rw [w2.2.2.2.2]; exact ⟨hB0.1, h34⟩
    have hP := mv_ag.pE w2 hA (mv_ag.rf σ1)
    refine ⟨v, w1, ⟨w2, w3, ?_⟩, fun _ => ⟨mv_si (patE 48 υ σ1) 2 6 (if v = 0 then 2 else 3), hP.si _ _ _, hx1, Or.inr (Or.inr ⟨hr, patE_T (by decide) T σ1 _, patE_S (by decide) S σ1 _, (patE_Fl F1 υ).q26 _⟩)⟩, fun _ => ⟨patE 48 υ σ1, hP, hx1, Or.inr ⟨hr, (patE_T (by decide) T σ1 0).fr rfl rfl rfl, (patE_S (by decide) S σ1 0).fr rfl rfl rfl rfl rfl, patE_Fl F1 υ⟩⟩⟩
    rcases w4 with ⟨q0, s2, q2, q3⟩ | ⟨q0, q | ⟨ms2, s2, a2, q1, q2, q3⟩⟩
    · exact Or.inl ⟨q0, s2, q2.fl q2.no hB, q3⟩
    · exact Or.inr ⟨q0, Or.inl q⟩
    · exact Or.inr ⟨q0, Or.inr ⟨ms2, s2, a2, q1, q2.fl q2.no hB, q3⟩⟩

/-- a program's tables are s's -/
def SPq (P : Nat) (s : SI) (σ : mv_H) : Prop := mv_i σ P 0 = nI s.bits ∧ mv_i σ P 1 = nI s.tl.length ∧ mv_i σ P 7 = nI s.cells ∧ mv_i σ P 10 = nI s.ops.length ∧ (s.bits ≤ 64 ∧ s.tl.length ≤ 64 ∧ s.cells ≤ 65536 ∧ s.ops.length ≤ 512) ∧ (∀ k, k < s.ops.length → mv_b σ (P + 5) k = nJ (mkN (fun i => is01 ((s.ops.getD k ([], [])).2.getD i 0)) s.bits) ∧ mv_b σ (P + 6) k = nJ (mkN (fun i => is1 ((s.ops.getD k ([], [])).2.getD i 0)) s.bits) ∧ (s.ops.getD k ([], [])).2.length = s.bits) ∧ (∀ i, i < s.tl.length → mv_a σ (P + 1) i = nI (s.tl.getD i (0, 0, false)).1 ∧ mv_a σ (P + 2) i = nI (s.tl.getD i (0, 0, false)).2.1 ∧ (s.tl.getD i (0, 0, false)).1 ≤ 64 ∧ (s.tl.getD i (0, 0, false)).2.1 ≤ 65536) ∧ ∀ k, k < s.ops.length → ∀ i, i < s.bits → mv_a σ (P + 8) (k * 64 + i) = vp_nar .byte (nI ((s.ops.getD k ([], [])).2.getD i 0))
theorem SPq.fr {P : Nat} {s : SI} {σ τ : mv_H} (h : SPq P s σ) (ei : ∀ k, (k = 0 ∨ k = 1 ∨ k = 7 ∨ k = 10) → mv_i τ P k = mv_i σ P k) (eb : ∀ o k, (o = P + 5 ∨ o = P + 6) → k < 512 → mv_b τ o k = mv_b σ o k) (ea : ∀ o k, (o = P + 1 ∨ o = P + 2) → k < 64 → mv_a τ o k = mv_a σ o k) (eg : ∀ k, k < 32768 → mv_a τ (P + 8) k = mv_a σ (P + 8) k) : SPq P s τ := by
  obtain ⟨h1, h2, h3, h4, h5, h6, h7, h8⟩ := h
  refine ⟨by rw [ei 0 (by omega)]; exact h1, by rw [ei 1 (by omega)]; exact h2, by rw [ei 7 (by omega)]; exact h3, by rw [ei 10 (by omega)]; exact h4, h5, fun k hk => ?_, fun i hi => ?_, fun k hk i hi => by rw [eg (k * 64 + i) (by omega)]; exact h8 k hk i hi⟩
  · rw [eb (P + 5) k (by omega) (by omega), eb (P + 6) k (by omega) (by omega)]
    exact h6 k hk
  · rw [ea (P + 1) i (by omega) (by omega), ea (P + 2) i (by omega) (by omega)]
    exact h7 i hi
theorem RN.sp {X : TX} {J P : Nat} {sy : List Nat → Nat} {h : mv_H} {s : SI} {bl : List (Nat × LK)} {lkB : LK} {C : List Nat} {SC : List (List Nat)} {le : Nat} (R : RN X J P sy h s bl lkB C SC le) : SPq P s h := ⟨R.b0, R.t0, R.c0, R.o0, ⟨R.b2, R.t2, R.c2, R.o2⟩, R.oc, R.tt, R.sgr⟩
/-- weave's answer and what the text is -/
def XOw (P : Nat) (X : TX) (v : Int32) (σ1 : mv_H) : Prop := (v = 1 ∧ ∃ s, sOK X = some s ∧ SPq P s σ1 ∧ KFn X P σ1) ∨ (v = 0 ∧ sOK X = none)
theorem XOw.no {P : Nat} {X : TX} {σ1 : mv_H} (h : sTx X = none) : XOw P X 0 σ1 := Or.inr ⟨rfl, by unfold sOK; rw [h]; rfl⟩
theorem XOw.na {P : Nat} {X : TX} {σ1 : mv_H} {s : SI} (h : sTx X = some s) (n : ¬ aptL (s.ops.map Prod.snd) = true) : XOw P X 0 σ1 := Or.inr ⟨rfl, by unfold sOK; rw [h]; show (if aptL (s.ops.map Prod.snd) = true then some s else none) = none; rw [if_neg n]⟩
theorem XOw.ye {P : Nat} {X : TX} {σ1 : mv_H} {s : SI} (h : sTx X = some s) (n : aptL (s.ops.map Prod.snd) = true) (e : SPq P s σ1) (kf : KFn X P σ1) : XOw P X 1 σ1 := Or.inl ⟨rfl, s, by unfold sOK; rw [h]; show (if aptL (s.ops.map Prod.snd) = true then some s else none) = some s; rw [if_pos n], e, kf⟩
theorem k_Tokens_cut (l : Launch) {dA : FieldType → ClassId} {D : va_G} {al : Nat → Nat} {ext : mv_Sh} {sk sv : Nat → Nat} (hi : mv_inj (mg dA D al ext)) (σ : mv_H) (len : Nat) (w : Int32) (hsh : mh (mv_r σ)) (hw : w.toInt = len) (hl1 : len ≤ 32768) (hby8 : ∀ i, i < 32768 → -128 ≤ (mv_a σ 1 i).toInt ∧ (mv_a σ 1 i).toInt ≤ 127) (hk0 : mv_a σ 4 0 = 0) (hp0 : 0 ≤ (mv_a σ 5 0).toInt) (hb0 : mv_b σ 6 0 = 0) (hb : byt σ) : mv_C l y_Tokens_cut (Cond.code y_Tokens_cut b_Tokens_cut 5 (Option.none : Option Jvm.ClassFile.FieldType) :: ma) ({ frames := 6, cells := 0, slots := 0, locals := 152 }) (mg dA D al ext) (mK sk sv) [.ref (al 3), .ref (al 1), .int w] σ (mv_Rv (fun σ1 => (CutG (mv_sr σ 3 4 (some 1)) σ1 ∧ tx ext σ1 1 32768 len ∧ mv_a σ1 1 = mv_a σ 1 ∧ TkE σ1 1 len ∧ mv_i σ1 3 7 = 1 ∧ mv_i σ1 3 8 = 0 ∧ mv_i σ1 3 9 = -1) ∧ ∃ g J L, TKS σ len g J L ∧ mv_ag (mg dA D al ext) σ1 g ∧ mv_r g = mv_r (mv_sr σ 3 4 (some 1)))) := by
  obtain ⟨g, J, L, e, K⟩ := cutE (h := σ) (n := len) hl1 hb
  have ew : w = nI len := nI_o2 hw
  subst ew
  refine (mv_C.twov (c_Tokens_cut l hi σ 1 32768 len (nI len) hsh rfl (Or.inl rfl) hw hl1 (Nat.le_refl _) hby8 hk0 hp0 hb0) (ch_Tokens_cut l hi σ hsh (nI len) e)).imp (fun o σ1 q => ?_)
  obtain ⟨w1, w2, υ1, ⟨e1, hr1⟩, hs⟩ := q
  subst e1
  exact ⟨w1, w2, g, J, L, K, hs.ag, hr1⟩
theorem k_Names_clear (l : Launch) {dA : FieldType → ClassId} {D : va_G} {al : Nat → Nat} {ext : mv_Sh} {sk sv : Nat → Nat} (hi : mv_inj (mg dA D al ext)) (σ : mv_H) (hsh : mh (mv_r σ)) (n z : Nat) (hSy : Sy σ n z) (hNs9 : Ns σ) {υ g2 : mv_H} (hA : mv_ag (mg dA D al ext) σ υ) (hx : xRT (mv_r υ)) (e : f_Names_clear υ = some g2) : mv_C l y_Names_clear (Cond.code y_Names_clear b_Names_clear 1 (Option.none : Option Jvm.ClassFile.FieldType) :: ma) ({ frames := 2, cells := 0, slots := 0, locals := 46 }) (mg dA D al ext) (mK sk sv) [.ref (al 13)] σ (mv_Rv (fun σ1 => (Fr (fun o k => o = 13 ∧ (k = 7 ∨ k = 9)) (fun o => o = 14 ∨ o = 16 ∨ o = 17) (fun o => o = 18) σ σ1 ∧ (∀ j, j < n → mv_a σ1 14 j = 0) ∧ mv_i σ1 13 7 = 0 ∧ mv_i σ1 13 9 = 0) ∧ mv_ag (mg dA D al ext) σ1 g2 ∧ mv_r g2 = mv_r υ)) := by
  refine (mv_C.twov (c_Names_clear l hi σ hsh n z hSy hNs9) (hA.C (ch_Names_clear l hi υ hx e))).imp (fun o σ1 q => ?_)
  obtain ⟨w1, w2, υ1, ⟨e1, hr1⟩, hs⟩ := q
  subst e1
  exact ⟨w1, w2, hs.ag, hr1⟩
/-- the first state of the items -/
theorem EXG.st {G : mv_G} {X : TX} {J P : Nat} {sy : List Nat → Nat} {σ0 σ1 g h' : mv_H} (hJ : X.kd J = 1 ∨ X.kd J = 2) (hA0 : mv_ag G σ0 g) (hA : mv_ag G σ1 h') (hx : xRP P (mv_r h')) (T : TB X J g) (S : SyQ X J sy g) (ha : ∀ o, o = 1 ∨ o = 4 ∨ o = 5 ∨ o = 8 ∨ o = 9 → mv_a σ1 o = mv_a σ0 o) (hb : mv_b σ1 6 = mv_b σ0 6) (q : (∃ o lkB, RW X J P sy h' ⟨0, 3, 0, [], [], o⟩ lkB [] [] ∧ EndW X ⟨0, 3, 0, [], [], o⟩ (sTx X) ∧ o = OuA.mk 0 [] 0 [] (fun _ => (0, 0)) 0 (SI.mk (X.nu 1) (fun _ => (0, 0)) [] 0 none []) ∧ mv_i h' P 6 = 0 ∧ mv_i h' P 8 = -1 ∧ mv_i h' P 17 = 0) ∨ (Fl h' ∧ sTx X = none)) : EXG G X J P sy (sTx X) σ1 := by
  rcases q with ⟨o, lkB, R, ew, eo, p6, p8, p17⟩ | ⟨F, e⟩
  · exact ⟨h', hA, hx, Or.inl ⟨_, lkB, [], [], R, ew, Nat.zero_le _, KEx.st hJ R.jJ eo p6 p8 p17⟩⟩
  · exact ⟨patS g h', mv_ag.pS ha hb hA0 hA, hx, Or.inr (Or.inr ⟨e, patS_T T h', patS_S S h', patS_F F g⟩)⟩

theorem k_Weaver_readBits_a (l : Launch) {dA : FieldType → ClassId} {D : va_G} {al : Nat → Nat} {ext : mv_Sh} {sk sv : Nat → Nat} (hi : mv_inj (mg dA D al ext)) (σ : mv_H) {t tn len n z sz th sl no : Nat} (hG : WG 32 32768 512 ext σ t tn len n z sz) (hM2 : Mt (mv_a σ 24)) (hW2 : WN 32 512 σ n th sl no) (hno0 : no = 0) (hK : KX 32 σ th 0 0 no [] [] 0 True) (m0 : mv_i σ 2 6 = 0) (t7 : (mv_i σ 3 7).toInt = 1) (t8 : (mv_i σ 3 8).toInt = 0) {υ g2 : mv_H} (hA : mv_ag (mg dA D al ext) σ υ) (hx : xRP 32 (mv_r υ)) (e : f_Weaver_readBits 32 υ = some g2) : mv_C l y_Weaver_readBits (Cond.code y_Weaver_readBits b_Weaver_readBits 4 (Option.none : Option Jvm.ClassFile.FieldType) :: ma) ({ frames := 2, cells := 0, slots := 0, locals := 44 }) (mg dA D al ext) (mK sk sv) [.ref (al 2)] σ (mv_Rv (fun σ1 => TP 32 512 σ σ1 n sz 0 ∧ mv_ag (mg dA D al ext) σ1 g2 ∧ mv_r g2 = mv_r υ)) := by
  refine (mv_C.twov (c_Weaver_readBits_a l hi σ hG hM2 hW2 hno0 hK m0 t7 t8) (hA.C (ch_Weaver_readBits_a l hi υ hx e))).imp (fun o σ1 q => ?_)
  obtain ⟨w1, w2, υ1, ⟨e1, hr1⟩, hs⟩ := q
  subst e1
  exact ⟨w1, w2, hs.ag, hr1⟩
theorem k_Weaver_areApart_a (l : Launch) {dA : FieldType → ClassId} {D : va_G} {al : Nat → Nat} {ext : mv_Sh} {sk sv : Nat → Nat} (hi : mv_inj (mg dA D al ext)) (σ : mv_H) (hR : Rw 32 (mv_r σ)) (no : Nat) (hno : (mv_i σ 32 10).toInt = no) (hno2 : no ≤ 512) {υ : mv_H} (hA : mv_ag (mg dA D al ext) σ υ) (hx : xRP 32 (mv_r υ)) {X : TX} {J : Nat} {sy : List Nat → Nat} {s : SI} {bl : List (Nat × LK)} {lkB : LK} {C : List Nat} {SC : List (List Nat)} {le : Nat} (R : RN X J 32 sy υ s bl lkB C SC le) : mv_C l y_Weaver_areApart (Cond.code y_Weaver_areApart b_Weaver_areApart 3 (Option.some Jvm.ClassFile.FieldType.boolean) :: ma) ({ frames := 1, cells := 0, slots := 0, locals := 22 }) (mg dA D al ext) (mK sk sv) [.ref (al 2)] σ (mv_Ri (fun v σ1 => (WT 32 σ σ1 ∧ ((v = 0 ∧ ∃ x y z, σ1 = mv_si (ex_tell σ x y) 2 4 z) ∨ (v = 1 ∧ σ1 = σ))) ∧ ((v = 1 ∧ aptL (s.ops.map Prod.snd) = true) ∨ (v = 0 ∧ ¬ aptL (s.ops.map Prod.snd) = true)))) := by
  rcases apt_R R with ⟨q1, e⟩ | ⟨q1, h', e⟩
  · refine (mv_C.twoi (c_Weaver_areApart_a l hi σ hR no hno hno2) (hA.C (ch_Weaver_areApart_a l hi υ hx e))).imp (fun o σ1 q => ?_)
    obtain ⟨v, w1, w2, υ1, ⟨e0, -⟩, -⟩ := q
    exact ⟨v, w1, w2, Or.inl ⟨e0.symm, q1⟩⟩
  · refine (mv_C.twoi (c_Weaver_areApart_a l hi σ hR no hno hno2) (hA.C (ch_Weaver_areApart_a l hi υ hx e))).imp (fun o σ1 q => ?_)
    obtain ⟨v, w1, w2, υ1, ⟨e0, -⟩, -⟩ := q
    exact ⟨v, w1, w2, Or.inr ⟨e0.symm, q1⟩⟩
theorem EXG.wr32 {dA : FieldType → ClassId} {D : va_G} {al : Nat → Nat} {ext : mv_Sh} {X : TX} {J : Nat} {sy : List Nat → Nat} {r : Option SI} {τ : mv_H} (E : EXG (mg dA D al ext) X J 32 sy r τ) (hw : 0 ≤ (mv_i τ 3 9).toInt) : r = none := by
  obtain ⟨υ, hA, hx, E⟩ := E
  have A := hA.f32
  rw [← A.i3 9 (by omega) (by omega)] at hw
  rcases E with ⟨c, lkB, C, SC, R, -⟩ | ⟨⟨-, -, h9⟩, -⟩ | ⟨hr, -⟩
  · rw [R.ok] at hw; exact absurd hw (by decide)
  · rw [Int32.lt_iff_toInt_lt] at h9
    have h9 : (mv_i υ 3 9).toInt < 0 := h9
    omega
  · exact hr
theorem EXG.dn32 {dA : FieldType → ClassId} {D : va_G} {al : Nat → Nat} {ext : mv_Sh} {X : TX} {J : Nat} {sy : List Nat → Nat} {r : Option SI} {τ : mv_H} (E : EXG (mg dA D al ext) X J 32 sy r τ) (hw : (mv_i τ 3 9).toInt < 0) (h4 : mv_i τ 2 6 = 4) : (mv_i τ 21 0 = 0 → ∃ u1, mv_ag (mg dA D al ext) τ u1 ∧ xRP 32 (mv_r u1) ∧ ∃ s lkB, RN X J 32 sy u1 s [] lkB [] [] 0 ∧ r = some s ∧ KFn X 32 u1) ∧ (¬ mv_i τ 21 0 = 0 → r = none) := by
  obtain ⟨υ, hA, hx, E⟩ := E
  have A := hA.f32
  rcases E with ⟨c, lkB, C, SC, R, -⟩ | ⟨⟨-, h21, -⟩, s, lkB, R, hr, kf⟩ | ⟨hr, -, -, F⟩
  · have := R.md
    rw [A.i2 6 (by omega), h4] at this
    have m3 := R.m3
    have := (nIinj (a := 4) (b := c.md) (by omega) (by omega)).mp this
    omega
  · refine ⟨fun _ => ⟨υ, hA, hx, s, lkB, R, hr, kf⟩, fun z => ?_⟩
    rw [A.i21] at h21; exact absurd h21 z
  · refine ⟨fun z => ?_, fun _ => hr⟩
    rcases F with F | F
    · rw [A.i3 9 (by omega) (by omega)] at F; omega
    · rw [A.i21] at F; exact absurd z F

theorem k_Weaver_readBits_b (l : Launch) {dA : FieldType → ClassId} {D : va_G} {al : Nat → Nat} {ext : mv_Sh} {sk sv : Nat → Nat} (hi : mv_inj (mg dA D al ext)) (σ : mv_H) {t tn len n z sz th sl no : Nat} (hG : WG 48 32768 512 ext σ t tn len n z sz) (hM2 : Mt (mv_a σ 24)) (hW2 : WN 48 512 σ n th sl no) (hno0 : no = 0) (hK : KX 48 σ th 0 0 no [] [] 0 True) (m0 : mv_i σ 2 6 = 0) (t7 : (mv_i σ 3 7).toInt = 1) (t8 : (mv_i σ 3 8).toInt = 0) {υ g2 : mv_H} (hA : mv_ag (mg dA D al ext) σ υ) (hx : xRP 48 (mv_r υ)) (e : f_Weaver_readBits 48 υ = some g2) : mv_C l y_Weaver_readBits (Cond.code y_Weaver_readBits b_Weaver_readBits 4 (Option.none : Option Jvm.ClassFile.FieldType) :: ma) ({ frames := 2, cells := 0, slots := 0, locals := 44 }) (mg dA D al ext) (mK sk sv) [.ref (al 2)] σ (mv_Rv (fun σ1 => TP 48 512 σ σ1 n sz 0 ∧ mv_ag (mg dA D al ext) σ1 g2 ∧ mv_r g2 = mv_r υ)) := by
  refine (mv_C.twov (c_Weaver_readBits_b l hi σ hG hM2 hW2 hno0 hK m0 t7 t8) (hA.C (ch_Weaver_readBits_b l hi υ hx e))).imp (fun o σ1 q => ?_)
  obtain ⟨w1, w2, υ1, ⟨e1, hr1⟩, hs⟩ := q
  subst e1
  exact ⟨w1, w2, hs.ag, hr1⟩
theorem k_Weaver_areApart_b (l : Launch) {dA : FieldType → ClassId} {D : va_G} {al : Nat → Nat} {ext : mv_Sh} {sk sv : Nat → Nat} (hi : mv_inj (mg dA D al ext)) (σ : mv_H) (hR : Rw 48 (mv_r σ)) (no : Nat) (hno : (mv_i σ 48 10).toInt = no) (hno2 : no ≤ 512) {υ : mv_H} (hA : mv_ag (mg dA D al ext) σ υ) (hx : xRP 48 (mv_r υ)) {X : TX} {J : Nat} {sy : List Nat → Nat} {s : SI} {bl : List (Nat × LK)} {lkB : LK} {C : List Nat} {SC : List (List Nat)} {le : Nat} (R : RN X J 48 sy υ s bl lkB C SC le) : mv_C l y_Weaver_areApart (Cond.code y_Weaver_areApart b_Weaver_areApart 3 (Option.some Jvm.ClassFile.FieldType.boolean) :: ma) ({ frames := 1, cells := 0, slots := 0, locals := 22 }) (mg dA D al ext) (mK sk sv) [.ref (al 2)] σ (mv_Ri (fun v σ1 => (WT 48 σ σ1 ∧ ((v = 0 ∧ ∃ x y z, σ1 = mv_si (ex_tell σ x y) 2 4 z) ∨ (v = 1 ∧ σ1 = σ))) ∧ ((v = 1 ∧ aptL (s.ops.map Prod.snd) = true) ∨ (v = 0 ∧ ¬ aptL (s.ops.map Prod.snd) = true)))) := by
  rcases apt_R R with ⟨q1, e⟩ | ⟨q1, h', e⟩
  · refine (mv_C.twoi (c_Weaver_areApart_b l hi σ hR no hno hno2) (hA.C (ch_Weaver_areApart_b l hi υ hx e))).imp (fun o σ1 q => ?_)
    obtain ⟨v, w1, w2, υ1, ⟨e0, -⟩, -⟩ := q
    exact ⟨v, w1, w2, Or.inl ⟨e0.symm, q1⟩⟩
  · refine (mv_C.twoi (c_Weaver_areApart_b l hi σ hR no hno hno2) (hA.C (ch_Weaver_areApart_b l hi υ hx e))).imp (fun o σ1 q => ?_)
    obtain ⟨v, w1, w2, υ1, ⟨e0, -⟩, -⟩ := q
    exact ⟨v, w1, w2, Or.inr ⟨e0.symm, q1⟩⟩
theorem EXG.wr48 {dA : FieldType → ClassId} {D : va_G} {al : Nat → Nat} {ext : mv_Sh} {X : TX} {J : Nat} {sy : List Nat → Nat} {r : Option SI} {τ : mv_H} (E : EXG (mg dA D al ext) X J 48 sy r τ) (hw : 0 ≤ (mv_i τ 3 9).toInt) : r = none := by
  obtain ⟨υ, hA, hx, E⟩ := E
  have A := hA.f48
  rw [← A.i3 9 (by omega) (by omega)] at hw
  rcases E with ⟨c, lkB, C, SC, R, -⟩ | ⟨⟨-, -, h9⟩, -⟩ | ⟨hr, -⟩
  · rw [R.ok] at hw; exact absurd hw (by decide)
  · rw [Int32.lt_iff_toInt_lt] at h9
    have h9 : (mv_i υ 3 9).toInt < 0 := h9
    omega
  · exact hr
theorem EXG.dn48 {dA : FieldType → ClassId} {D : va_G} {al : Nat → Nat} {ext : mv_Sh} {X : TX} {J : Nat} {sy : List Nat → Nat} {r : Option SI} {τ : mv_H} (E : EXG (mg dA D al ext) X J 48 sy r τ) (hw : (mv_i τ 3 9).toInt < 0) (h4 : mv_i τ 2 6 = 4) : (mv_i τ 21 0 = 0 → ∃ u1, mv_ag (mg dA D al ext) τ u1 ∧ xRP 48 (mv_r u1) ∧ ∃ s lkB, RN X J 48 sy u1 s [] lkB [] [] 0 ∧ r = some s ∧ KFn X 48 u1) ∧ (¬ mv_i τ 21 0 = 0 → r = none) := by
  obtain ⟨υ, hA, hx, E⟩ := E
  have A := hA.f48
  rcases E with ⟨c, lkB, C, SC, R, -⟩ | ⟨⟨-, h21, -⟩, s, lkB, R, hr, kf⟩ | ⟨hr, -, -, F⟩
  · have := R.md
    rw [A.i2 6 (by omega), h4] at this
    have m3 := R.m3
    have := (nIinj (a := 4) (b := c.md) (by omega) (by omega)).mp this
    omega
  · refine ⟨fun _ => ⟨υ, hA, hx, s, lkB, R, hr, kf⟩, fun z => ?_⟩
    rw [A.i21] at h21; exact absurd h21 z
  · refine ⟨fun z => ?_, fun _ => hr⟩
    rcases F with F | F
    · rw [A.i3 9 (by omega) (by omega)] at F; omega
    · rw [A.i21] at F; exact absurd z F

