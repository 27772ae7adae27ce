/-! reading: the marks of an EXPR and its code -/
/-- how tight a sign binds -/
def lvl (k : Int32) : Nat := if k = 124 then 1 else if k = 94 then 2 else if k = 38 then 3 else if k = 128 ∨ k = 129 then 4 else if k = 60 ∨ k = 130 then 5 else if k = 131 ∨ k = 132 then 6 else if k = 43 ∨ k = 45 then 7 else if k = 37 ∨ k = 42 ∨ k = 47 then 8 else 0
theorem lvl_le (k : Int32) : lvl k ≤ 8 := by
  unfold lvl
  repeat' split
  all_goals omega
abbrev Mk : Type := Int32 × Int32
/-- what a mark holds of widths -/
def wt (m : Mk) : Nat := if 0 < lvl m.1 ∨ m.1 = 58 then 1 else if m.1 = 123 ∨ m.1 = 213 ∨ m.1 = 214 ∨ m.1 = 215 ∨ m.1 = 216 then (if m.2 = 0 then 0 else 1) else 0
/-- what it holds of the stack -/
def wr (m : Mk) : Nat := if m.1 = 58 then 0 else wt m
/-- the doings that are still due -/
def wc (m : Mk) : Nat := if 0 < lvl m.1 ∨ m.1 = 305 ∨ m.1 = 306 ∨ m.1 = 307 then 1 else 0
/-- what counts in DEPTH -/
def wd (m : Mk) : Nat := if 0 < lvl m.1 then 0 else 1
def sm (w : Mk → Nat) : List Mk → Nat
  | [] => 0
  | m :: ms => w m + sm w ms
def tl : List Mk → Nat
  | [] => 0
  | m :: _ => lvl m.1
def Ris : List Mk → Prop
  | [] => True
  | m :: ms => (0 < lvl m.1 → tl ms < lvl m.1) ∧ Ris ms
theorem tl_le : ∀ ms : List Mk, tl ms ≤ 8
  | [] => Nat.zero_le _
  | m :: _ => lvl_le m.1
theorem ms_len : ∀ ms : List Mk, Ris ms → ms.length ≤ 9 * sm wd ms + tl ms := by
  intro ms
  induction ms with
  | nil => intro _; exact Nat.le_refl _
  | cons m ms ih =>
    intro h
    have h1 := ih h.2
    have h2 := tl_le ms
    show ms.length + 1 ≤ 9 * (wd m + sm wd ms) + lvl m.1
    by_cases e : 0 < lvl m.1
    · have h3 := h.1 e
      have h4 : wd m = 0 := if_pos e
      rw [h4]
      omega
    · have h4 : wd m = 1 := if_neg e
      rw [h4]
      omega
theorem ms_le {ms : List Mk} {d : Nat} (h : Ris ms) (hd : sm wd ms ≤ d) (h60 : d ≤ 60) : ms.length ≤ 548 := by
  have := ms_len ms h
  have := tl_le ms
  omega
theorem wt_le (m : Mk) : wt m ≤ 1 := by
  unfold wt
  repeat' split
  all_goals omega
theorem wr_le (m : Mk) : wr m ≤ wt m := by
  unfold wr
  split
  · exact Nat.zero_le _
  · exact Nat.le_refl _
theorem sm_wt : ∀ ms : List Mk, sm wt ms ≤ ms.length := by
  intro ms
  induction ms with
  | nil => exact Nat.le_refl _
  | cons m ms ih =>
    have := wt_le m
    show wt m + sm wt ms ≤ ms.length + 1
    omega
theorem sm_wr : ∀ ms : List Mk, sm wr ms ≤ sm wt ms := by
  intro ms
  induction ms with
  | nil => exact Nat.le_refl _
  | cons m ms ih =>
    have := wr_le m
    show wr m + sm wr ms ≤ wt m + sm wt ms
    omega
/-- the rows hold the marks, the latest first -/
def MkR (fk fw : Nat → Int32) : List Mk → Prop
  | [] => True
  | m :: ms => fk ms.length = m.1 ∧ fw ms.length = m.2 ∧ MkR fk fw ms
theorem MkR.con {fk fw fk' fw' : Nat → Int32} : ∀ ms : List Mk, MkR fk fw ms → (∀ i, i < ms.length → fk' i = fk i ∧ fw' i = fw i) → MkR fk' fw' ms := by
  intro ms
  induction ms with
  | nil => intro _ _; trivial
  | cons m ms ih =>
    intro h g
    have g1 := g ms.length (by show ms.length < ms.length + 1; omega)
    exact ⟨g1.1.trans h.1, g1.2.trans h.2.1, ih h.2.2 (fun i q => g i (by show i < ms.length + 1; omega))⟩
/-- where the jumps of marks stand, and the FILES of a [ -/
def Mo (th e0 s : Nat) (ms : List Mk) : Prop := ∀ m ∈ ms, (m.1 = 63 ∨ m.1 = 58 → ∃ u : Nat, m.2.toInt = u ∧ e0 ≤ u ∧ u < s) ∧ (m.1 = 91 → 0 ≤ m.2.toInt ∧ m.2.toInt < th)
theorem Mo.up {th e0 s s' : Nat} {ms : List Mk} (h : Mo th e0 s ms) (hs : s ≤ s') : Mo th e0 s' ms := fun m hm => ⟨fun q => by obtain ⟨u, h1, h2, h3⟩ := (h m hm).1 q; exact ⟨u, h1, h2, by omega⟩, (h m hm).2⟩
theorem Mo.tail {th e0 s : Nat} {m : Mk} {ms : List Mk} (h : Mo th e0 s (m :: ms)) : Mo th e0 s ms := fun x hx => h x (List.mem_cons_of_mem _ hx)
theorem Mo.head {th e0 s : Nat} {m : Mk} {ms : List Mk} (h : Mo th e0 s (m :: ms)) : (m.1 = 63 ∨ m.1 = 58 → ∃ u : Nat, m.2.toInt = u ∧ e0 ≤ u ∧ u < s) ∧ (m.1 = 91 → 0 ≤ m.2.toInt ∧ m.2.toInt < th) := h m List.mem_cons_self
theorem Mo.cons {th e0 s : Nat} {m : Mk} {ms : List Mk} (h : Mo th e0 s ms) (h1 : m.1 = 63 ∨ m.1 = 58 → ∃ u : Nat, m.2.toInt = u ∧ e0 ≤ u ∧ u < s) (h2 : m.1 = 91 → 0 ≤ m.2.toInt ∧ m.2.toInt < th) : Mo th e0 s (m :: ms) := fun x hx => by
  rcases List.mem_cons.mp hx with e | e
  · rw [e]; exact ⟨h1, h2⟩
  · exact h x e
/-- open jumps -/
def Om (ms : List Mk) (a : Nat) : Prop := ∃ m ∈ ms, (m.1 = 63 ∨ m.1 = 58) ∧ m.2.toInt = a
theorem Om.cons {ms : List Mk} {a : Nat} (m : Mk) (h : Om ms a) : Om (m :: ms) a := by
  obtain ⟨x, h1, h2⟩ := h
  exact ⟨x, List.mem_cons_of_mem _ h1, h2⟩
theorem Om.inv {ms : List Mk} {a : Nat} {m : Mk} (h : Om (m :: ms) a) : ((m.1 = 63 ∨ m.1 = 58) ∧ m.2.toInt = a) ∨ Om ms a := by
  obtain ⟨x, h1, h2⟩ := h
  rcases List.mem_cons.mp h1 with e | e
  · left; rw [← e]; exact h2
  · right; exact ⟨x, e, h2⟩
def MC (f : Nat → Int32) (hg : Nat → Nat) (base : Nat) : List Mk → Prop
  | [] => True
  | m :: ms => (m.1 = 63 → ∀ u : Nat, m.2.toInt = u → f u = 312 ∧ hg u = base + sm wr ms + 1 ∧ hg (u + 1) = base + sm wr ms) ∧ (m.1 = 58 → ∀ u : Nat, m.2.toInt = u → f u = 311 ∧ hg u = base + sm wr ms + 1) ∧ MC f hg base ms
theorem MC.con {f f' : Nat → Int32} {hg hg' : Nat → Nat} {base th e0 s : Nat} : ∀ ms : List Mk, MC f hg base ms → Mo th e0 s ms → (∀ a, a < s → f' a = f a) → (∀ a, a ≤ s → hg' a = hg a) → MC f' hg' base ms := by
  intro ms
  induction ms with
  | nil => intro _ _ _ _; trivial
  | cons m ms ih =>
    intro h ho hf he
    refine ⟨fun q u hu => ?_, fun q u hu => ?_, ih h.2.2 ho.tail hf he⟩
    · obtain ⟨u', h1, h2, h3⟩ := ho.head.1 (Or.inl q)
      have e : u' = u := by omega
      subst e
      obtain ⟨k1, k2, k3⟩ := h.1 q u' hu
      exact ⟨(hf _ h3).trans k1, (he _ (by omega)).trans k2, (he _ (by omega)).trans k3⟩
    · obtain ⟨u', h1, h2, h3⟩ := ho.head.1 (Or.inr q)
      have e : u' = u := by omega
      subst e
      obtain ⟨k1, k2⟩ := h.2.1 q u' hu
      exact ⟨(hf _ h3).trans k1, (he _ (by omega)).trans k2⟩
theorem Ins.up {th s s' a : Nat} {hg hg' : Nat → Nat} {d : Int32} {w : Int64} (h : Ins th s hg a d w) (ha : a < s) (hs : s ≤ s') (he : ∀ i, i ≤ s → hg' i = hg i) : Ins th s' hg' a d w := by
  rcases h with h | h | ⟨h1, t, h2, h3, h4, h5⟩ | ⟨h1, t, h2, h3, h4, h5, h6⟩ | ⟨h1, h2, h3, h4, h5⟩
  · exact Or.inl h
  · exact Or.inr (Or.inl h)
  · exact Or.inr (Or.inr (Or.inl ⟨h1, t, h2, h3, by omega, by rw [he t h4, he a (by omega)]; exact h5⟩))
  · exact Or.inr (Or.inr (Or.inr (Or.inl ⟨h1, t, h2, h3, by omega, by rw [he t h4, he a (by omega)]; exact h5, by rw [he t h4, he (a + 1) (by omega)]; exact h6⟩)))
  · exact Or.inr (Or.inr (Or.inr (Or.inr ⟨h1, h2, h3, h4, by rw [he a (by omega), he (a + 1) (by omega)]; exact h5⟩)))
/-- the code of an EXPR that began at e0, ht high -/
def CX (th e0 base s : Nat) (f : Nat → Int32) (g : Nat → Int64) (ms : List Mk) (ht : Nat) (hg : Nat → Nat) : Prop := (∀ a, hg a ≤ 1000) ∧ hg s = base + ht ∧ MC f hg base ms ∧ ∀ a, e0 ≤ a → a < s → Om ms a ∨ Ins th s hg a (f a) (g a)
def BLok (e0 : Nat) (BL : (Nat → Nat) → Prop) : Prop := ∀ hg hg' : Nat → Nat, (∀ a, a ≤ e0 → hg' a = hg a) → BL hg → BL hg'
/-- the heights, one more -/
def hgx (hg : Nat → Nat) (s v : Nat) : Nat → Nat := fun a => if a = s + 1 then v else hg a
theorem hgx_lo {hg : Nat → Nat} {s v : Nat} : ∀ a, a ≤ s → hgx hg s v a = hg a := fun a h => if_neg (by omega)
theorem hgx_at {hg : Nat → Nat} {s v : Nat} : hgx hg s v (s + 1) = v := if_pos rfl
theorem hgx_le {hg : Nat → Nat} {s v : Nat} (h : ∀ a, hg a ≤ 1000) (hv : v ≤ 1000) : ∀ a, hgx hg s v a ≤ 1000 := fun a => by
  unfold hgx
  split
  · exact hv
  · exact h a
/-- a doing that is no jump -/
theorem CX.emit {th e0 base s ht ht' : Nat} {f f' : Nat → Int32} {g g' : Nat → Int64} {ms : List Mk} {hg : Nat → Nat} (h : CX th e0 base s f g ms ht hg) (ho : Mo th e0 s ms) {d : Int32} {w : Int64} (hf : ∀ j, f' j = if j = s then d else f j) (hw : ∀ j, g' j = if j = s then w else g j)
    (hd : ¬ d = 311 ∧ ¬ d = 312 ∧ ¬ d = 316 ∧ ¬ d = 317) (hO : Op1 th d w (base + ht) (base + ht')) (hb : base + ht' ≤ 1000) : CX th e0 base (s + 1) f' g' ms ht' (hgx hg s (base + ht')) := by
  obtain ⟨h1, h2, h3, h4⟩ := h
  refine ⟨hgx_le h1 hb, hgx_at, MC.con ms h3 ho (fun a q => by rw [hf, if_neg (by omega)]) hgx_lo, fun a q1 q2 => ?_⟩
  by_cases e : a = s
  · right
    rw [hf, hw, if_pos e, if_pos e]
    refine Or.inr (Or.inr (Or.inr (Or.inr ⟨hd.1, hd.2.1, hd.2.2.1, hd.2.2.2, ?_⟩)))
    rw [e, hgx_at, hgx_lo s (Nat.le_refl _), h2]
    exact hO
  · rw [hf, hw, if_neg e, if_neg e]
    rcases h4 a q1 (by omega) with q | q
    · exact Or.inl q
    · exact Or.inr (q.up (by omega) (by omega) hgx_lo)
/-- a ? : the jump over the first part -/
theorem CX.choose {th e0 base s : Nat} {f f' : Nat → Int32} {g g' : Nat → Int64} {ms : List Mk} {hg : Nat → Nat} (h : CX th e0 base s f g ms (sm wr ms + 1) hg) (ho : Mo th e0 s ms) (he0 : e0 ≤ s) {w : Int64} {u : Int32} (hu : u.toInt = s) (hf : ∀ j, f' j = if j = s then 312 else f j) (hw : ∀ j, g' j = if j = s then w else g j) (hb : base + sm wr ms ≤ 1000) :
    CX th e0 base (s + 1) f' g' ((63, u) :: ms) (sm wr ms) (hgx hg s (base + sm wr ms)) := by
  obtain ⟨h1, h2, h3, h4⟩ := h
  have e1 : MC f' (hgx hg s (base + sm wr ms)) base ms := MC.con ms h3 ho (fun a q => by rw [hf, if_neg (by omega)]) hgx_lo
  refine ⟨hgx_le h1 hb, hgx_at, ⟨fun _ v hv => ?_, fun q => absurd (show (63 : Int32) = 58 from q) (by decide), e1⟩, fun a q1 q2 => ?_⟩
  · have e : v = s := by have : u.toInt = v := hv; omega
    subst e
    exact ⟨by rw [hf, if_pos rfl], by rw [hgx_lo _ (Nat.le_refl _), h2]; omega, hgx_at⟩
  · by_cases e : a = s
    · left
      exact ⟨(63, u), List.mem_cons_self, Or.inl rfl, by rw [e]; exact hu⟩
    · rw [hf, hw, if_neg e, if_neg e]
      rcases h4 a q1 (by omega) with q | q
      · exact Or.inl (q.cons _)
      · exact Or.inr (q.up (by omega) (by omega) hgx_lo)
/-- a : after its ? -/
theorem CX.otherwise {th e0 base s : Nat} {f f' : Nat → Int32} {g g' : Nat → Int64} {ms : List Mk} {hg : Nat → Nat} {v u : Int32} (h : CX th e0 base s f g ((63, v) :: ms) (sm wr ms + 1) hg) (ho : Mo th e0 s ((63, v) :: ms)) (he0 : e0 ≤ s) {w w1 : Int64} (hu : u.toInt = s) (hf : ∀ j, f' j = if j = s then 311 else f j) (hw : ∀ j, g' j = if (j : Int) = v.toInt then w1 else if j = s then w else g j) (hw1 : w1.toInt = s + 1) (hb : base + sm wr ms ≤ 1000) :
    CX th e0 base (s + 1) f' g' ((58, u) :: ms) (sm wr ms) (hgx hg s (base + sm wr ms)) := by
  obtain ⟨h1, h2, h3, h4⟩ := h
  obtain ⟨v', k1, k2, k3⟩ := ho.head.1 (Or.inl rfl)
  have k1 : v.toInt = v' := k1
  have e1 : MC f' (hgx hg s (base + sm wr ms)) base ms := MC.con ms h3.2.2 ho.tail (fun a q => by rw [hf, if_neg (by omega)]) hgx_lo
  obtain ⟨j1, j2, j3⟩ := h3.1 rfl v' k1
  refine ⟨hgx_le h1 hb, hgx_at, ⟨fun q => absurd (show (58 : Int32) = 63 from q) (by decide), fun _ x hx => ?_, e1⟩, fun a q1 q2 => ?_⟩
  · have e : x = s := by have : u.toInt = x := hx; omega
    subst e
    exact ⟨by rw [hf, if_pos rfl], by rw [hgx_lo _ (Nat.le_refl _), h2]; omega⟩
  · by_cases e : a = s
    · left
      exact ⟨(58, u), List.mem_cons_self, Or.inr rfl, by rw [e]; exact hu⟩
    · by_cases e2 : a = v'
      · right
        subst e2
        rw [hf, hw, if_neg e, if_pos (show (a : Int) = v.toInt by omega), j1]
        refine Or.inr (Or.inr (Or.inr (Or.inl ⟨rfl, s + 1, by omega, by omega, Nat.le_refl _, ?_, ?_⟩)))
        · rw [hgx_at, hgx_lo _ (by omega), j2]
        · rw [hgx_at, hgx_lo _ (by omega), j3]
      · rw [hf, hw, if_neg e, if_neg (show ¬ (a : Int) = v.toInt by omega), if_neg e]
        rcases h4 a q1 (by omega) with q | q
        · rcases q.inv with q | q
          · exact absurd (show v.toInt = a from q.2) (by omega)
          · exact Or.inl (q.cons _)
        · exact Or.inr (q.up (by omega) (by omega) hgx_lo)
/-- the end of a : -/
theorem CX.chosen {th e0 base s : Nat} {f : Nat → Int32} {g g' : Nat → Int64} {ms : List Mk} {hg : Nat → Nat} {v : Int32} (h : CX th e0 base s f g ((58, v) :: ms) (sm wr ms + 1) hg) (ho : Mo th e0 s ((58, v) :: ms)) {w1 : Int64} (hw : ∀ j, g' j = if (j : Int) = v.toInt then w1 else g j) (hw1 : w1.toInt = s) : CX th e0 base s f g' ms (sm wr ms + 1) hg := by
  obtain ⟨h1, h2, h3, h4⟩ := h
  obtain ⟨v', k1, k2, k3⟩ := ho.head.1 (Or.inr rfl)
  have k1 : v.toInt = v' := k1
  obtain ⟨j1, j2⟩ := h3.2.1 rfl v' k1
  refine ⟨h1, h2, h3.2.2, fun a q1 q2 => ?_⟩
  by_cases e2 : a = v'
  · right
    subst e2
    rw [hw, if_pos (show (a : Int) = v.toInt by omega), j1]
    exact Or.inr (Or.inr (Or.inl ⟨rfl, s, by omega, by omega, Nat.le_refl _, by rw [h2, j2]; omega⟩))
  · rw [hw, if_neg (show ¬ (a : Int) = v.toInt by omega)]
    rcases h4 a q1 q2 with q | q
    · rcases q.inv with q | q
      · exact absurd (show v.toInt = a from q.2) (by omega)
      · exact Or.inl q
    · exact Or.inr q
/-- a mark that is no jump comes or goes, or its with changes -/
theorem CX.push {th e0 base s ht : Nat} {f : Nat → Int32} {g : Nat → Int64} {ms : List Mk} {hg : Nat → Nat} {m : Mk} (h : CX th e0 base s f g ms ht hg) (hm : ¬ m.1 = 63 ∧ ¬ m.1 = 58) : CX th e0 base s f g (m :: ms) ht hg :=
  ⟨h.1, h.2.1, ⟨fun q => absurd q hm.1, fun q => absurd q hm.2, h.2.2.1⟩, fun a q1 q2 => (h.2.2.2 a q1 q2).elim (fun q => Or.inl (q.cons _)) Or.inr⟩
theorem CX.pop {th e0 base s ht : Nat} {f : Nat → Int32} {g : Nat → Int64} {ms : List Mk} {hg : Nat → Nat} {m : Mk} (h : CX th e0 base s f g (m :: ms) ht hg) (hm : ¬ m.1 = 63 ∧ ¬ m.1 = 58) : CX th e0 base s f g ms ht hg :=
  ⟨h.1, h.2.1, h.2.2.1.2.2, fun a q1 q2 => (h.2.2.2 a q1 q2).elim (fun q => Or.inl (q.inv.resolve_left (fun z => z.1.elim hm.1 hm.2))) Or.inr⟩
