/-! what T's tables keep -/
def atL : List (Nat × Nat × Bool) → Nat → Nat
  | [], _ => 0
  | _ :: _, 0 => 0
  | a :: l, t + 1 => a.2.1 + atL l t
theorem atL_a (m : List (Nat × Nat × Bool)) : ∀ (l : List (Nat × Nat × Bool)) (t : Nat), t ≤ l.length → atL (l ++ m) t = atL l t := by
  intro l
  induction l with
  | nil =>
    intro t h
    obtain rfl : t = 0 := Nat.le_zero.mp h
    cases m with
    | nil => rfl
    | cons a m => rfl
  | cons a l ih =>
    intro t h
    cases t with
    | zero => rfl
    | succ t =>
      show a.2.1 + atL (l ++ m) t = a.2.1 + atL l t
      rw [ih t (Nat.le_of_succ_le_succ h)]
theorem atL_s (a : Nat × Nat × Bool) : ∀ l : List (Nat × Nat × Bool), atL (l ++ [a]) (l.length + 1) = atL l l.length + a.2.1 := by
  intro l
  induction l with
  | nil => exact Nat.add_comm _ _
  | cons b l ih =>
    show b.2.1 + atL (l ++ [a]) (l.length + 1) = (b.2.1 + atL l l.length) + a.2.1
    rw [ih]; omega
theorem atL_n : ∀ (l : List (Nat × Nat × Bool)) (t : Nat), t < l.length → atL l t + (l.getD t (0, 0, false)).2.1 = atL l (t + 1) := by
  intro l
  induction l with
  | nil => intro t h; exact absurd h (Nat.not_lt_zero _)
  | cons a l ih =>
    intro t h
    cases t with
    | zero =>
      show 0 + a.2.1 = a.2.1 + atL l 0
      have : atL l 0 = 0 := by cases l <;> rfl
      omega
    | succ t =>
      show a.2.1 + atL l t + (l.getD t (0, 0, false)).2.1 = a.2.1 + atL l (t + 1)
      have := ih t (Nat.lt_of_succ_lt_succ h)
      omega
theorem atL_le : ∀ (l : List (Nat × Nat × Bool)) (t : Nat), atL l t ≤ atL l l.length := by
  intro l
  induction l with
  | nil => intro t; exact Nat.le_refl _
  | cons a l ih =>
    intro t
    cases t with
    | zero => exact Nat.zero_le _
    | succ t =>
      show a.2.1 + atL l t ≤ a.2.1 + atL l l.length
      have := ih t
      omega
theorem atL_mo (l : List (Nat × Nat × Bool)) (t : Nat) : ∀ d, t + d ≤ l.length → atL l t ≤ atL l (t + d) := by
  intro d
  induction d with
  | zero => intro _; exact Nat.le_refl _
  | succ d ih =>
    intro h
    have h1 := ih (by omega)
    have h2 := atL_n l (t + d) (by omega)
    have e : t + (d + 1) = t + d + 1 := rfl
    rw [e]; omega
/-- names of THINGS and the list of THINGS; cells; bits -/
def ITq (s : SI) (lz : LZ) : Prop := (∀ x, (s.lk x).1 = 1 → lz x < s.tl.length ∧ (s.tl.getD (lz x) (0, 0, false)).2.1 = 0) ∧ (∀ x, (s.lk x).1 = 2 → lz x < s.tl.length ∧ 0 < (s.tl.getD (lz x) (0, 0, false)).2.1 ∧ (s.tl.getD (lz x) (0, 0, false)).1 = (s.lk x).2) ∧ (atL s.tl s.tl.length = s.cells ∧ s.cells ≤ 65536 ∧ s.tl.length ≤ 64) ∧ (s.bits = 8 ∨ s.bits = 16 ∨ s.bits = 32 ∨ s.bits = 64) ∧ (∀ p, s.fe = some p → (s.lk p.1).1 = 1 ∧ s.lk p.2 = (2, 8)) ∧ ∀ t, t < s.tl.length → (s.tl.getD t (0, 0, false)).1 ≤ 64 ∧ ((s.tl.getD t (0, 0, false)).2.1 = 0 → (s.tl.getD t (0, 0, false)).2.2 = false)
section IT9
variable {X : TX}
theorem gD_l {l : List (Nat × Nat × Bool)} {a : Nat × Nat × Bool} {t : Nat} (h : t < l.length) : (l ++ [a]).getD t (0, 0, false) = l.getD t (0, 0, false) := by rw [List.getD_eq_getElem?_getD, List.getElem?_append_left h, ← List.getD_eq_getElem?_getD]
theorem gD_e {l : List (Nat × Nat × Bool)} {a : Nat × Nat × Bool} : (l ++ [a]).getD l.length (0, 0, false) = a := by rw [List.getD_eq_getElem?_getD, List.getElem?_append_right (Nat.le_refl _), Nat.sub_self]; rfl
theorem IT_nw {s : SI} {lz : LZ} {j k w n j' : Nat} {z : Bool} {r : Nat × SI} (I : ITq s lz) (hk : (k = 1 ∧ n = 0 ∧ z = false) ∨ (k = 2 ∧ 0 < n)) (hw : w ≤ 64) (e : sNw X s j k w n z j' = some r) : ITq r.2 (updZ lz (X.nm j) s.tl.length) := by
  unfold sNw at e
  by_cases c : (s.lk (X.nm j)).1 = 0 ∧ s.tl.length < 64 ∧ s.cells + n ≤ 65536
  rotate_left
  · rw [if_neg c] at e; cases e
  rw [if_pos c] at e
  rw [← Option.some.inj e]
  obtain ⟨i1, i2, ⟨i3, i4, i5⟩, i6, i7, i8⟩ := I
  have el : (s.tl ++ [(w, n, z)]).length = s.tl.length + 1 := by rw [List.length_append]; rfl
  refine ⟨fun x hx => ?_, fun x hx => ?_, ⟨?_, ?_, ?_⟩, i6, fun p hp => ?_, fun t ht => ?_⟩
  · have hx : (updK s.lk (X.nm j) (k, w) x).1 = 1 := hx
    show updZ lz (X.nm j) s.tl.length x < (s.tl ++ [(w, n, z)]).length ∧ ((s.tl ++ [(w, n, z)]).getD (updZ lz (X.nm j) s.tl.length x) (0, 0, false)).2.1 = 0
    unfold updK at hx
    unfold updZ
    rw [el]
    by_cases y : x = X.nm j
    · rw [if_pos y] at hx ⊢
      rw [gD_e]
      have hx : k = 1 := hx
      exact ⟨by omega, by show n = 0; omega⟩
    · rw [if_neg y] at hx ⊢
      obtain ⟨u1, u2⟩ := i1 x hx
      rw [gD_l u1]
      exact ⟨by omega, u2⟩
  · have hx : (updK s.lk (X.nm j) (k, w) x).1 = 2 := hx
    show updZ lz (X.nm j) s.tl.length x < (s.tl ++ [(w, n, z)]).length ∧ 0 < ((s.tl ++ [(w, n, z)]).getD (updZ lz (X.nm j) s.tl.length x) (0, 0, false)).2.1 ∧ ((s.tl ++ [(w, n, z)]).getD (updZ lz (X.nm j) s.tl.length x) (0, 0, false)).1 = (updK s.lk (X.nm j) (k, w) x).2
    unfold updK at hx ⊢
    unfold updZ
    rw [el]
    by_cases y : x = X.nm j
    · rw [if_pos y] at hx
      rw [if_pos y, if_pos y, gD_e]
      have hx : k = 2 := hx
      exact ⟨by omega, by show 0 < n; omega, rfl⟩
    · rw [if_neg y] at hx
      rw [if_neg y, if_neg y]
      obtain ⟨u1, u2⟩ := i2 x hx
      rw [gD_l u1]
      exact ⟨by omega, u2⟩
  · show atL (s.tl ++ [(w, n, z)]) (s.tl ++ [(w, n, z)]).length = s.cells + n
    rw [el, atL_s, i3]
  · exact c.2.2
  · show (s.tl ++ [(w, n, z)]).length ≤ 64
    rw [el]; omega
  · obtain ⟨p1, p2⟩ := i7 p hp
    show (updK s.lk (X.nm j) (k, w) p.1).1 = 1 ∧ updK s.lk (X.nm j) (k, w) p.2 = (2, 8)
    unfold updK
    rw [if_neg (fun y => by rw [y] at p1; omega), if_neg (fun y => by rw [y] at p2; rw [p2] at c; exact absurd c.1 (by show ¬ 2 = 0; omega))]
    exact ⟨p1, p2⟩
  · have ht : t < (s.tl ++ [(w, n, z)]).length := ht
    rw [el] at ht
    show ((s.tl ++ [(w, n, z)]).getD t (0, 0, false)).1 ≤ 64 ∧ (((s.tl ++ [(w, n, z)]).getD t (0, 0, false)).2.1 = 0 → ((s.tl ++ [(w, n, z)]).getD t (0, 0, false)).2.2 = false)
    by_cases y : t < s.tl.length
    · rw [gD_l y]; exact i8 t y
    · obtain rfl : t = s.tl.length := by omega
      rw [gD_e]
      refine ⟨hw, fun q => ?_⟩
      have q : n = 0 := q
      rcases hk with ⟨-, -, h3⟩ | ⟨-, h3⟩
      · exact h3
      · omega
theorem IT_it {s : SI} {lz : LZ} {B : List DnS} {j : Nat} {r : VI} (I : ITq s lz) (e : tIt X s lz B j = some r) : ITq r.2.1 r.2.2.1 := by
  unfold tIt at e
  by_cases c6 : X.kd j = 206
  · rw [if_pos c6] at e
    unfold tOp at e
    obtain ⟨a1, -, e⟩ := obn e
    obtain ⟨a2, -, e⟩ := obn e
    obtain ⟨a3, -, e⟩ := obn e
    obtain ⟨a4, -, e⟩ := obn e
    obtain ⟨a5, -, e⟩ := obn e
    rw [← Option.some.inj e]
    exact I
  · rw [if_neg c6] at e
    obtain ⟨q, eq, e⟩ := obn e
    rw [← Option.some.inj e]
    show ITq q.2 (if X.kd j = 204 then lz else updZ lz (X.nm (j + 1)) s.tl.length)
    unfold sIt at eq
    by_cases c1 : X.kd j = 201
    · rw [if_pos c1] at eq
      rw [if_neg (by omega)]
      unfold sRg at eq
      obtain ⟨a1, -, eq⟩ := obn eq
      obtain ⟨a2, -, eq⟩ := obn eq
      obtain ⟨a3, -, eq⟩ := obn eq
      obtain ⟨a4, -, eq⟩ := obn eq
      obtain ⟨a5, -, eq⟩ := obn eq
      split at eq
      · rename_i h9
        exact IT_nw I (Or.inl ⟨rfl, rfl, rfl⟩) h9.2 eq
      · cases eq
    rw [if_neg c1] at eq
    by_cases c2 : X.kd j = 202
    · rw [if_pos c2] at eq
      rw [if_neg (by omega)]
      unfold sFi at eq
      obtain ⟨a1, -, eq⟩ := obn eq
      obtain ⟨a2, -, eq⟩ := obn eq
      obtain ⟨a3, -, eq⟩ := obn eq
      obtain ⟨a4, -, eq⟩ := obn eq
      obtain ⟨a5, -, eq⟩ := obn eq
      obtain ⟨a6, -, eq⟩ := obn eq
      obtain ⟨a7, -, eq⟩ := obn eq
      split at eq
      · obtain ⟨a8, -, eq⟩ := obn eq
        obtain ⟨a9, -, eq⟩ := obn eq
        split at eq
        · rename_i h9
          exact IT_nw I (Or.inr ⟨rfl, by omega⟩) (by omega) eq
        · cases eq
      · obtain ⟨a9, -, eq⟩ := obn eq
        split at eq
        · rename_i h9
          exact IT_nw I (Or.inr ⟨rfl, by omega⟩) (by omega) eq
        · cases eq
    rw [if_neg c2] at eq
    by_cases c4 : X.kd j = 204
    · rw [if_pos c4] at eq ⊢
      unfold sFe at eq
      obtain ⟨a1, -, eq⟩ := obn eq
      obtain ⟨a2, -, eq⟩ := obn eq
      obtain ⟨a3, -, eq⟩ := obn eq
      obtain ⟨a4, -, eq⟩ := obn eq
      obtain ⟨a5, -, eq⟩ := obn eq
      split at eq
      · rename_i h9
        rw [← Option.some.inj eq]
        obtain ⟨i1, i2, i3, i6, i7, i8⟩ := I
        refine ⟨i1, i2, i3, i6, fun p hp => ?_, i8⟩
        have hp : some (X.nm (j + 1), X.nm (j + 3)) = some p := hp
        rw [← Option.some.inj hp]
        exact ⟨h9.1, h9.2.1⟩
      · cases eq
    rw [if_neg c4, if_neg c6] at eq
    cases eq
theorem IT_lp : ∀ (k : Nat) {s : SI} {lz : LZ} {B : List DnS} {j : Nat} {r : SI × LZ × List DnS}, ITq s lz → tLp X k s lz B j = some r → ITq r.1 r.2.1 := by
  intro k
  induction k with
  | zero => intro s lz B j r _ e; cases e
  | succ k ih =>
    intro s lz B j r I e
    unfold tLp at e
    by_cases c : X.kd j = 1
    · rw [if_pos c] at e
      rw [← Option.some.inj e]
      exact I
    · rw [if_neg c] at e
      obtain ⟨q, eq, e⟩ := obn e
      exact ih (IT_it I eq) e
theorem IT_tx {r : SI × LZ × List DnS} (e : tTx X = some r) : ITq r.1 r.2.1 := by
  unfold tTx at e
  obtain ⟨a1, -, e⟩ := obn e
  obtain ⟨a2, -, e⟩ := obn e
  obtain ⟨a3, -, e⟩ := obn e
  split at e
  · rename_i h9
    exact IT_lp 200000 ⟨fun x h => absurd h (by show ¬ 0 = 1; omega), fun x h => absurd h (by show ¬ 0 = 2; omega), ⟨rfl, Nat.zero_le _, Nat.zero_le _⟩, h9, fun p hp => (by cases hp), fun t ht => absurd ht (Nat.not_lt_zero _)⟩ e
  · cases e
end IT9
