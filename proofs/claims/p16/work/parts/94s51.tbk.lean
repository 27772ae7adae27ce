/-! where the THINGS' values begin -/
def ncT (a : Nat × Nat × Bool) : Nat := if a.2.1 = 0 then 1 else a.2.1
def fsL : List (Nat × Nat × Bool) → Nat → Nat
  | [], _ => 0
  | _ :: _, 0 => 0
  | a :: l, t + 1 => ncT a + fsL l t
theorem fsL_a (m : List (Nat × Nat × Bool)) : ∀ (l : List (Nat × Nat × Bool)) (t : Nat), t ≤ l.length → fsL (l ++ m) t = fsL l t := by
  intro l
  induction l with
  | nil =>
    intro t h
    obtain rfl : t = 0 := Nat.le_zero.mp h
    cases m with
    | nil => rfl
    | cons a m => rfl
  | cons a l ih =>
    intro t h
    cases t with
    | zero => rfl
    | succ t =>
      show ncT a + fsL (l ++ m) t = ncT a + fsL l t
      rw [ih t (Nat.le_of_succ_le_succ h)]
theorem fsL_s (a : Nat × Nat × Bool) : ∀ l : List (Nat × Nat × Bool), fsL (l ++ [a]) (l.length + 1) = fsL l l.length + ncT a := by
  intro l
  induction l with
  | nil => exact Nat.add_comm _ _
  | cons b l ih =>
    show ncT b + fsL (l ++ [a]) (l.length + 1) = (ncT b + fsL l l.length) + ncT a
    rw [ih]; omega
theorem fsL_le : ∀ (l : List (Nat × Nat × Bool)) (t : Nat), fsL l t ≤ fsL l l.length := by
  intro l
  induction l with
  | nil => intro t; exact Nat.le_refl _
  | cons a l ih =>
    intro t
    cases t with
    | zero => exact Nat.zero_le _
    | succ t =>
      show ncT a + fsL l t ≤ ncT a + fsL l l.length
      have := ih t
      omega
theorem fsL_n : ∀ (l : List (Nat × Nat × Bool)) (t : Nat), t < l.length → fsL l t + ncT (l.getD t (0, 0, false)) = fsL l (t + 1) := by
  intro l
  induction l with
  | nil => intro t h; exact absurd h (Nat.not_lt_zero _)
  | cons a l ih =>
    intro t h
    cases t with
    | zero =>
      show 0 + ncT a = ncT a + fsL l 0
      have : fsL l 0 = 0 := by cases l <;> rfl
      omega
    | succ t =>
      show ncT a + fsL l t + ncT (l.getD t (0, 0, false)) = ncT a + fsL l (t + 1)
      have := ih t (Nat.lt_of_succ_lt_succ h)
      omega
theorem fsL_mo (l : List (Nat × Nat × Bool)) (t : Nat) : ∀ d, fsL l t ≤ fsL l (t + d) := by
  intro d
  induction d with
  | zero => exact Nat.le_refl _
  | succ d ih =>
    by_cases h : t + d < l.length
    · have := fsL_n l (t + d) h
      have e : t + (d + 1) = t + d + 1 := rfl
      rw [e]; omega
    · have e : ∀ (l : List (Nat × Nat × Bool)) (t : Nat), l.length ≤ t → fsL l t = fsL l l.length := by
        intro l
        induction l with
        | nil => intro t _; rfl
        | cons a l ih2 =>
          intro t ht
          cases t with
          | zero => cases ht
          | succ t =>
            show ncT a + fsL l t = ncT a + fsL l l.length
            rw [ih2 t (Nat.le_of_succ_le_succ ht)]
      rw [e l (t + (d + 1)) (by omega)]
      exact fsL_le l t
/-- firsts, zeros, slots -/
def TBk (P : Nat) (s : SI) (h : mv_H) : Prop := mv_i h P 6 = nI (fsL s.tl s.tl.length) ∧ fsL s.tl s.tl.length ≤ s.cells + s.tl.length ∧ ∀ t, t < s.tl.length → mv_a h (P + 3) t = nI (fsL s.tl t) ∧ mv_a h (P + 4) t = b01 (s.tl.getD t (0, 0, false)).2.2
/-- fetch -/
def FEk (P : Nat) (s : SI) (lt : LZ) (h : mv_H) : Prop := match s.fe with
  | none => mv_i h P 8 < 0
  | some p => (s.lk p.1).1 = 1 ∧ (s.lk p.2).1 = 2 ∧ mv_i h P 8 = nI (lt p.1) ∧ mv_i h P 9 = nI (lt p.2)
/-- the THINGS' names -/
def ZTk (X : TX) (J : Nat) (sy : List Nat → Nat) (h : mv_H) (s : SI) (lt : LZ) : Prop := (∀ x, lt x < 64) ∧ ∀ i, i ≤ J → X.kd i = 3 → ¬ (s.lk (X.nm i)).1 = 0 → mv_a h 15 (sy (X.nm i)) = nI (lt (X.nm i))
/-- no letter of the code -/
def nLt (C : List Nat) (x : List Nat) : Prop := ¬ ∃ c, x = [c] ∧ isl c = true ∧ 0 < cntL c C
/-- names in an op -/
def ZN (X : TX) (J : Nat) (sy : List Nat → Nat) (h : mv_H) (C : List Nat) (lk : LK) (lz : LZ) : Prop := ∃ lzB : LZ, (∀ x, lz x = lzO lzB C x) ∧ (∀ x, lzB x < 64) ∧ ∀ i, i ≤ J → X.kd i = 3 → nLt C (X.nm i) → ¬ (lk (X.nm i)).1 = 0 → mv_a h 15 (sy (X.nm i)) = nI (lzB (X.nm i))
def ZC (X : TX) (J : Nat) (sy : List Nat → Nat) (h : mv_H) (C : List Nat) (s : SI) : LK → LZ → List (Nat × LK) → List BZq → Prop
  | lk, lz, [], bz => bz = [] ∧ ZN X J sy h C lk lz ∧ ∀ x, ¬ (s.lk x).1 = 0 → ¬ (lk x).1 = 0
  | lk, lz, b :: bl, bz => ∃ c bz', (bz = c :: bz' ∧ (b.1 = 206 ∨ b.1 = 209 ∨ b.1 = 210)) ∧ ZN X J sy h C lk lz ∧ (∀ x, ¬ (b.2 x).1 = 0 → ¬ (lk x).1 = 0) ∧ ZC X J sy h C s b.2 c.1 bl bz'
/-- ops that are over: their code lies below s -/
def OPk (P : Nat) (h : mv_H) (L : CDq) (s : Nat) (B : List DnS) : Prop := ∀ o, o < B.length → ∃ a e, mv_a h (P + 7) o = nI a ∧ e < s ∧ SgS L a e (B.getD o zSk) ∧ L e = (317, 0)
theorem OPk.up {P : Nat} {h h' : mv_H} {L L' : CDq} {s s' : Nat} {B : List DnS} (K : OPk P h L s B) (e7 : ∀ o, o < B.length → mv_a h' (P + 7) o = mv_a h (P + 7) o) (hs : s ≤ s') (hL : ∀ i, i < s → L' i = L i) : OPk P h' L' s' B := fun o ho => by
  obtain ⟨a, e, k1, k2, k3, k4⟩ := K o ho
  exact ⟨a, e, by rw [e7 o ho]; exact k1, by omega, k3.up (fun i _ q => hL i (by omega)), by rw [hL e k2]; exact k4⟩
theorem OPk.ad {P : Nat} {h : mv_H} {L : CDq} {s a e : Nat} {B : List DnS} {D : DnS} (K : OPk P h L s B) (k1 : mv_a h (P + 7) B.length = nI a) (k2 : e < s) (k3 : SgS L a e D) (k4 : L e = (317, 0)) : OPk P h L s (B ++ [D]) := fun o ho => by
  rw [List.length_append] at ho
  have ho : o < B.length + 1 := ho
  by_cases c : o < B.length
  · rw [show (B ++ [D]).getD o zSk = B.getD o zSk by rw [List.getD_eq_getElem?_getD, List.getElem?_append_left c, ← List.getD_eq_getElem?_getD]]
    exact K o c
  · obtain rfl : o = B.length := by omega
    rw [show (B ++ [D]).getD B.length zSk = D by rw [List.getD_eq_getElem?_getD, List.getElem?_append_right (Nat.le_refl _), Nat.sub_self]; rfl]
    exact ⟨a, e, k1, k2, k3, k4⟩
section ZFR
variable {X : TX} {J : Nat} {sy : List Nat → Nat} {h h' : mv_H} {C : List Nat} {s : SI} {lk : LK} {lz lt : LZ}
theorem TBk.gf {P : Nat} (K : TBk P s h) (e3 : mv_a h' (P + 3) = mv_a h (P + 3)) (e4 : mv_a h' (P + 4) = mv_a h (P + 4)) (e6 : mv_i h' P 6 = mv_i h P 6) : TBk P s h' := by
  unfold TBk
  rw [e3, e4, e6]
  exact K
theorem FEk.gf {P : Nat} (K : FEk P s lt h) (e8 : mv_i h' P 8 = mv_i h P 8) (e9 : mv_i h' P 9 = mv_i h P 9) : FEk P s lt h' := by
  unfold FEk
  rw [e8, e9]
  exact K
theorem ZTk.fr (K : ZTk X J sy h s lt) (e : mv_a h' 15 = mv_a h 15) : ZTk X J sy h' s lt := by
  unfold ZTk
  rw [e]
  exact K
theorem ZN.fr (K : ZN X J sy h C lk lz) (e : mv_a h' 15 = mv_a h 15) : ZN X J sy h' C lk lz := by
  unfold ZN
  rw [e]
  exact K
theorem ZC.fr (e : mv_a h' 15 = mv_a h 15) : ∀ {bl : List (Nat × LK)} {lk : LK} {lz : LZ} {bz : List BZq}, ZC X J sy h C s lk lz bl bz → ZC X J sy h' C s lk lz bl bz := by
  intro bl
  induction bl with
  | nil => intro lk lz bz K; exact ⟨K.1, K.2.1.fr e, K.2.2⟩
  | cons b bl ih =>
    intro lk lz bz K
    obtain ⟨c, bz', k1, k2, k3, k4⟩ := K
    exact ⟨c, bz', k1, k2.fr e, k3, ih k4⟩
theorem ZC.zn {bl : List (Nat × LK)} {bz : List BZq} (K : ZC X J sy h C s lk lz bl bz) : ZN X J sy h C lk lz := by
  cases bl with
  | nil => exact K.2.1
  | cons b bl =>
    obtain ⟨c, bz', k1, k2, k3, k4⟩ := K
    exact k2
theorem ZC.mo : ∀ {bl : List (Nat × LK)} {lk : LK} {lz : LZ} {bz : List BZq}, ZC X J sy h C s lk lz bl bz → ∀ x, ¬ (s.lk x).1 = 0 → ¬ (lk x).1 = 0 := by
  intro bl
  induction bl with
  | nil => intro lk lz bz K; exact K.2.2
  | cons b bl ih =>
    intro lk lz bz K x q
    obtain ⟨c, bz', k1, k2, k3, k4⟩ := K
    exact k3 x (ih k4 x q)
/-- a name that is unknown gets a number: what is known stands -/
theorem ZN.wr {u : Nat} (hu : u ≤ J) (hku : X.kd u = 3) (inj : ∀ i, i ≤ J → X.kd i = 3 → sy (X.nm i) = sy (X.nm u) → X.nm i = X.nm u) (h0 : (lk (X.nm u)).1 = 0) (e : ∀ k, ¬ k = sy (X.nm u) → mv_a h' 15 k = mv_a h 15 k) (K : ZN X J sy h C lk lz) : ZN X J sy h' C lk lz := by
  obtain ⟨lzB, k1, k2, k3⟩ := K
  refine ⟨lzB, k1, k2, fun i h1 h2 h3 h4 => ?_⟩
  rw [e _ (fun w => h4 (by rw [inj i h1 h2 w]; exact h0))]
  exact k3 i h1 h2 h3 h4
theorem ZC.wr {u : Nat} (hu : u ≤ J) (hku : X.kd u = 3) (inj : ∀ i, i ≤ J → X.kd i = 3 → sy (X.nm i) = sy (X.nm u) → X.nm i = X.nm u) (e : ∀ k, ¬ k = sy (X.nm u) → mv_a h' 15 k = mv_a h 15 k) : ∀ {bl : List (Nat × LK)} {lk : LK} {lz : LZ} {bz : List BZq}, (lk (X.nm u)).1 = 0 → ZC X J sy h C s lk lz bl bz → ZC X J sy h' C s lk lz bl bz := by
  intro bl
  induction bl with
  | nil => intro lk lz bz h0 K; exact ⟨K.1, K.2.1.wr hu hku inj h0 e, K.2.2⟩
  | cons b bl ih =>
    intro lk lz bz h0 K
    obtain ⟨c, bz', k1, k2, k3, k4⟩ := K
    exact ⟨c, bz', k1, k2.wr hu hku inj h0 e, k3, ih (Decidable.byContradiction fun q => k3 _ q h0) k4⟩
theorem ZTk.wr {u : Nat} (hu : u ≤ J) (hku : X.kd u = 3) (inj : ∀ i, i ≤ J → X.kd i = 3 → sy (X.nm i) = sy (X.nm u) → X.nm i = X.nm u) (h0 : (s.lk (X.nm u)).1 = 0) (e : ∀ k, ¬ k = sy (X.nm u) → mv_a h' 15 k = mv_a h 15 k) (K : ZTk X J sy h s lt) : ZTk X J sy h' s lt := by
  refine ⟨K.1, fun i h1 h2 h3 => ?_⟩
  rw [e _ (fun w => h3 (by rw [inj i h1 h2 w]; exact h0))]
  exact K.2 i h1 h2 h3
/-- the let itself -/
theorem lzO_u {lzB : LZ} {x : List Nat} {v : Nat} (hx : nLt C x) : ∀ y, updZ (lzO lzB C) x v y = lzO (updZ lzB x v) C y := by
  intro y
  unfold updZ
  by_cases c : y = x
  · rw [if_pos c, c]
    cases x with
    | nil =>
      show v = if ([] : List Nat) = [] then v else lzB []
      rw [if_pos rfl]
    | cons a l =>
      cases l with
      | nil =>
        show v = if isl a = true ∧ 0 < cntL a C then 64 + a else (if [a] = [a] then v else lzB [a])
        rw [if_neg (fun w => hx ⟨a, rfl, w.1, w.2⟩), if_pos rfl]
      | cons b l => exact (if_pos rfl).symm
  · rw [if_neg c]
    cases y with
    | nil => exact (if_neg c).symm
    | cons a l =>
      cases l with
      | nil =>
        show (if isl a = true ∧ 0 < cntL a C then 64 + a else lzB [a]) = if isl a = true ∧ 0 < cntL a C then 64 + a else (if [a] = x then v else lzB [a])
        rw [if_neg c]
      | cons b l => exact (if_neg c).symm
theorem ZN.al {u v : Nat} {k : Nat × Nat} (hu : u ≤ J) (hku : X.kd u = 3) (inj : ∀ i, i ≤ J → X.kd i = 3 → sy (X.nm i) = sy (X.nm u) → X.nm i = X.nm u) (h0 : (lk (X.nm u)).1 = 0) (hl : nLt C (X.nm u)) (hv : v < 64) (e : ∀ k, mv_a h' 15 k = if k = sy (X.nm u) then nI v else mv_a h 15 k) (K : ZN X J sy h C lk lz) : ZN X J sy h' C (updK lk (X.nm u) k) (updZ lz (X.nm u) v) := by
  obtain ⟨lzB, k1, k2, k3⟩ := K
  refine ⟨updZ lzB (X.nm u) v, fun x => ?_, fun x => ?_, fun i h1 h2 h3 h4 => ?_⟩
  · rw [← lzO_u hl]
    unfold updZ
    rw [k1]
  · unfold updZ
    split
    · exact hv
    · exact k2 x
  · rw [e]
    by_cases c : X.nm i = X.nm u
    · rw [if_pos (by rw [c])]
      unfold updZ
      rw [if_pos c]
    · rw [if_neg (fun w => c (inj i h1 h2 w))]
      unfold updZ
      unfold updK at h4
      rw [if_neg c] at h4 ⊢
      exact k3 i h1 h2 h3 h4
/-- an op begins -/
theorem ZN.op (K : ZTk X J sy h s lt) (C : List Nat) : ZN X J sy h C (lkO s.lk C) (lzO lt C) := by
  refine ⟨lt, fun _ => rfl, K.1, fun i h1 h2 h3 h4 => K.2 i h1 h2 ?_⟩
  rcases lkO_p C (X.nm i) with ⟨n, e⟩ | e
  · have e0 := e (fun _ => (0, 0))
    refine absurd ?_ h3
    generalize X.nm i = x at e0
    cases x with
    | nil => cases e0
    | cons c l =>
      cases l with
      | nil =>
        have e0 : (if isl c = true ∧ 0 < cntL c C then (3, cntL c C) else (0, 0)) = (3, n) := e0
        by_cases w : isl c = true ∧ 0 < cntL c C
        · exact ⟨c, rfl, w.1, w.2⟩
        · rw [if_neg w] at e0; cases e0
      | cons a l => cases e0
  · rw [e] at h4; exact h4
end ZFR
