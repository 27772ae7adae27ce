/-! JUMPs that wait for the end of an if: each tells the one before -/
def JL (L : CDq) : Int32 → List Nat → Prop
  | x, [] => x = -1
  | x, j :: Js => x = nI j ∧ (∀ k, k ∈ Js → k < j) ∧ ∃ x' : Int32, L j = (311, x'.toInt64) ∧ JL L x' Js
theorem JL.up {L L2 : CDq} : ∀ {Js : List Nat} {x : Int32}, JL L x Js → (∀ j, j ∈ Js → L2 j = L j) → JL L2 x Js := by
  intro Js
  induction Js with
  | nil => intro x h _; exact h
  | cons j Js ih =>
    intro x h e
    obtain ⟨h1, h2, x', h3, h4⟩ := h
    exact ⟨h1, h2, x', by rw [e j (List.mem_cons_self ..)]; exact h3, ih h4 (fun k q => e k (List.mem_cons_of_mem _ q))⟩
/-- a JUMP more -/
theorem JL.cs {L : CDq} {x : Int32} {Js : List Nat} {z : Nat} (h : JL L x Js) (hz : ∀ j, j ∈ Js → j < z) : JL (uL L z (311, x.toInt64)) (nI z) (z :: Js) :=
  ⟨rfl, hz, x, uL_s L z _, h.up (fun j q => uL_n L _ (by have := hz j q; omega))⟩
/-- all are aimed at z -/
def aiL (L : CDq) (z : Nat) (Js : List Nat) : CDq := fun i => if i ∈ Js then (311, nJ z) else L i
theorem aiL_n {L : CDq} {z : Nat} {Js : List Nat} {i : Nat} (h : ¬ i ∈ Js) : aiL L z Js i = L i := if_neg h
theorem aiL_s {L : CDq} {z : Nat} {Js : List Nat} {i : Nat} (h : i ∈ Js) : aiL L z Js i = (311, nJ z) := if_pos h
theorem ama_K {P : Nat} {fs : Nat → Nat} {z : Nat} : ∀ (Js : List Nat) (n x3 : Nat) (x : Int32) (h : mv_H) (L : CDq), CRw P fs h L z → JL L x Js → (∀ j, j ∈ Js → j + x3 < z) → Js.length < n → x3 < 40000 → ∃ h', f_Program_aimAll_4 P n x (nI x3) h = some h' ∧ CRw P fs h' (aiL L z Js) z ∧ mv_i h' = mv_i h ∧ mv_a h' = mv_a h ∧ (∀ o, ¬ o = P + 10 → mv_b h' o = mv_b h o) ∧ mv_r h' = mv_r h := by
  intro Js
  induction Js with
  | nil =>
    intro n x3 x h L R J hz hn hx
    have J : x = -1 := J
    have eL : aiL L z [] = L := funext fun i => if_neg (by intro q; cases q)
    rw [eL]
    cases n with
    | zero => cases hn
    | succ n =>
      show ∃ h', fF_Program_aimAll_4 P (f_Program_aimAll_4 P n) x (nI x3) h = some h' ∧ _
      unfold fF_Program_aimAll_4
      by_cases c : mv_i h P 17 ≤ nI x3
      · rw [if_pos c]; exact ⟨h, rfl, R, rfl, rfl, fun _ _ => rfl, rfl⟩
      · rw [if_neg c, if_pos (show x < 0 by rw [J]; decide)]; exact ⟨h, rfl, R, rfl, rfl, fun _ _ => rfl, rfl⟩
  | cons j Js ih =>
    intro n x3 x h L R J hz hn hx
    obtain ⟨J1, J2, x', J3, J4⟩ := J
    have hj := hz j (List.mem_cons_self ..)
    have hz2 := R.2.1
    cases n with
    | zero => cases hn
    | succ n =>
      have hn' : Js.length < n := by
        have : Js.length + 1 < n + 1 := hn
        omega
      have hjm : ¬ j ∈ Js := fun q => by have := J2 j q; omega
      have R1 := R.am (k := 311) (show j < z by omega) J3 (by decide) (nJ z)
      obtain ⟨h', e, R2, i2, a2, b2, r2⟩ := ih n (x3 + 1) x' (mv_sb h (P + 10) j (nJ z)) (uL L j (311, nJ z)) R1 (J4.up (fun k q => uL_n L _ (fun w => hjm (by rw [← w]; exact q)))) (fun k q => by have := J2 k q; omega) hn' (by omega)
      have eL : aiL (uL L j (311, nJ z)) z Js = aiL L z (j :: Js) := by
        funext i
        by_cases q : i ∈ Js
        · rw [aiL_s q, aiL_s (List.mem_cons_of_mem _ q)]
        · rw [aiL_n q]
          by_cases q2 : i = j
          · subst q2
            rw [uL_s, aiL_s (List.mem_cons_self ..)]
          · rw [uL_n L _ q2, aiL_n (fun w => by
              rcases List.mem_cons.mp w with w | w
              · exact q2 w
              · exact q w)]
      rw [eL] at R2
      refine ⟨h', ?_, R2, i2, a2, fun o ho => (b2 o ho).trans (sbn ho), r2⟩
      show fF_Program_aimAll_4 P (f_Program_aimAll_4 P n) x (nI x3) h = some h'
      unfold fF_Program_aimAll_4
      have ew : mv_b h (P + 10) j = x'.toInt64 := by
        have := (R.2.2.2 j (by omega)).2.2.1
        rw [J3] at this
        exact this
      have ei : (x'.toInt64).toInt32 = x' := by simp
      rw [R.1, if_neg (fun q => by have := (nIle (by omega) (by omega)).mp q; omega), J1, if_neg (show ¬ nI j < (0 : Int32) from fun q => by have q := Int32.lt_iff_toInt_lt.mp q; rw [nIi (by omega)] at q; have e : (0 : Int32).toInt = 0 := rfl; omega), xvi_n (show j < 32768 by omega) (by decide), cond_true, cond_true, cln (by omega), xk_s, ew, ei, nI1 (by omega), xI_l, xi2l_s (by omega)]
      exact e
/-! blocks that are open: the innermost first; s: where the op's code begins; b: where the innermost block's statements begin; u, x: the blocks' rows of UNLESSES and exits -/
def BLk (L : CDq) (u x : Nat → Int32) (s : Nat) : List (Nat × LK) → List BZq → Nat → Prop
  | [], _, _ => False
  | k :: bl, bz, b => ∃ (c : BZq) (bz' : List BZq), bz = c :: bz' ∧
      (if k.1 = 206 then bl = [] ∧ b = s
      else if k.1 = 209 then ∃ b1 p0 p y Js, BLk L u x s bl bz' b1 ∧ SgS L b1 p0 c.2.1 ∧ ChS L p0 p Js c.2.2.1 ∧ SgE L p y c.2.2.2 ∧ L y = (312, 0) ∧ b = y + 1 ∧ u bl.length = nI y ∧ JL L (x bl.length) Js
      else ∃ b1 p0 Js, BLk L u x s bl bz' b1 ∧ SgS L b1 p0 c.2.1 ∧ ChS L p0 b Js c.2.2.1 ∧ u bl.length = -1 ∧ JL L (x bl.length) Js)
theorem BLk.le {L : CDq} {u x : Nat → Int32} {s : Nat} : ∀ {bl : List (Nat × LK)} {bz : List BZq} {b : Nat}, BLk L u x s bl bz b → s ≤ b := by
  intro bl
  induction bl with
  | nil => intro bz b h; exact absurd h id
  | cons k bl ih =>
    intro bz b h
    obtain ⟨c, bz', -, h⟩ := h
    by_cases c1 : k.1 = 206
    · rw [if_pos c1] at h
      omega
    rw [if_neg c1] at h
    by_cases c2 : k.1 = 209
    · rw [if_pos c2] at h
      obtain ⟨b1, p0, p, y, Js, h1, h2, h3, h4, -, h6, -⟩ := h
      have := ih h1
      have := h2.1
      have := h3.1
      have := h4.1
      omega
    · rw [if_neg c2] at h
      obtain ⟨b1, p0, Js, h1, h2, h3, -⟩ := h
      have := ih h1
      have := h2.1
      have := h3.1
      omega
theorem ChS.js {L : CDq} {a p : Nat} {Js : List Nat} {ch : DnS → DnS} (h : ChS L a p Js ch) : ∀ j, j ∈ Js → a ≤ j ∧ j < p := h.2.1
theorem BLk.up {L L2 : CDq} {u x u2 x2 : Nat → Int32} {s : Nat} : ∀ {bl : List (Nat × LK)} {bz : List BZq} {b : Nat}, BLk L u x s bl bz b → (∀ i, s ≤ i → i < b → L2 i = L i) → (∀ i, i < bl.length → u2 i = u i ∧ x2 i = x i) → BLk L2 u2 x2 s bl bz b := by
  intro bl
  induction bl with
  | nil => intro bz b h; exact absurd h id
  | cons k bl ih =>
    intro bz b h hL hr
    obtain ⟨c, bz', e, h⟩ := h
    have hr0 := hr bl.length (Nat.lt_succ_self _)
    have hr1 : ∀ i, i < bl.length → u2 i = u i ∧ x2 i = x i := fun i q => hr i (Nat.lt_succ_of_lt q)
    refine ⟨c, bz', e, ?_⟩
    by_cases c1 : k.1 = 206
    · rw [if_pos c1] at h ⊢
      exact h
    rw [if_neg c1] at h ⊢
    by_cases c2 : k.1 = 209
    · rw [if_pos c2] at h ⊢
      obtain ⟨b1, p0, p, y, Js, h1, h2, h3, h4, h5, h6, h7, h8⟩ := h
      have l1 := h1.le
      have l2 := h2.1
      have l3 := h3.1
      have l4 := h4.1
      refine ⟨b1, p0, p, y, Js, ih h1 (fun i q1 q2 => hL i q1 (by omega)) hr1, h2.up (fun i q1 q2 => hL i (by omega) (by omega)), h3.up (fun i q1 q2 _ => hL i (by omega) (by omega)), h4.up (fun i q1 q2 => hL i (by omega) (by omega)), by rw [hL y (by omega) (by omega)]; exact h5, h6, by rw [hr0.1]; exact h7, ?_⟩
      rw [hr0.2]
      exact h8.up (fun j q => by have := h3.js j q; exact hL j (by omega) (by omega))
    · rw [if_neg c2] at h ⊢
      obtain ⟨b1, p0, Js, h1, h2, h3, h7, h8⟩ := h
      have l1 := h1.le
      have l2 := h2.1
      have l3 := h3.1
      refine ⟨b1, p0, Js, ih h1 (fun i q1 q2 => hL i q1 (by omega)) hr1, h2.up (fun i q1 q2 => hL i (by omega) (by omega)), h3.up (fun i q1 q2 _ => hL i (by omega) (by omega)), by rw [hr0.1]; exact h7, ?_⟩
      rw [hr0.2]
      exact h8.up (fun j q => by have := h3.js j q; exact hL j (by omega) (by omega))
