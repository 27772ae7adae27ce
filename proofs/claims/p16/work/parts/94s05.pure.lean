/-! rows s49 .. s56 -/
/-! S: statements, items, the TEXT -/
abbrev LK : Type := List Nat → Nat × Nat
def updK (lk : LK) (x : List Nat) (v : Nat × Nat) : LK := fun y => if y = x then v else lk y
section SS
variable (X : TX)
def sE8 (lk : LK) (d j : Nat) : Option (Nat × Nat) := sR X lk 868 0 0 d j
def sLe (lk : LK) (le d j : Nat) : Option (Nat × LK × Nat) :=
  (gd (ps X d j)).bind fun _ => (ndq X d (j + 1) 3).bind fun _ => (ndq X d (j + 2) 61).bind fun _ => (sE8 X lk d (j + 3)).bind fun x => (ndq X d x.1 59).bind fun _ =>
    if (lk (X.nm (j + 1))).1 = 0 ∧ le < 64 then some (x.1 + 1, updK lk (X.nm (j + 1)) (3, x.2), le + 1) else none
def sTr (lk : LK) (le d j : Nat) : Option (Nat × LK × Nat) :=
  (gd (ps X d j)).bind fun _ => (ndq X d (j + 1) 4).bind fun _ => (ndq X d (j + 2) 59).bind fun _ =>
    if 1 ≤ X.nu (j + 1) ∧ X.nu (j + 1) ≤ 1000000 then some (j + 3, lk, le) else none
/-- behind what is assigned; k: 1 a register, 2 a cell; token i is the = -/
def sA2 (lk : LK) (le d j k i : Nat) : Option (Nat × LK × Nat) :=
  (ndq X d i 61).bind fun _ => (sE8 X lk d (i + 1)).bind fun x => (ndq X d x.1 59).bind fun _ => if lk (X.nm j) = (k, x.2) then some (x.1 + 1, lk, le) else none
def sAs (lk : LK) (le d j : Nat) : Option (Nat × LK × Nat) :=
  (ndq X d j 3).bind fun _ => if X.kd (j + 1) = 91 then
    (gd (ps X d (j + 1))).bind fun _ => (sE8 X lk (d + 1) (j + 2)).bind fun i => (ndq X (d + 1) i.1 93).bind fun _ => sA2 X lk le d j 2 (i.1 + 1)
  else sA2 X lk le d j 1 (j + 1)
variable (R : Nat → LK → Nat → Nat → Nat → Option (Nat × LK × Nat))
def sKL (d : Nat) (lk0 : LK) : Nat → LK → Nat → Nat → Option (Nat × LK × Nat)
  | 0, _, _, _ => none
  | k + 1, lk, le, j => if X.kd j = 125 then (gd (ps X (d + 1) j)).bind fun _ => some (j + 1, lk0, le) else (R 1 lk le (d + 1) j).bind fun r => sKL d lk0 k r.2.1 r.2.2 r.1
def sBk (lk : LK) (le d j : Nat) : Option (Nat × LK × Nat) := (ndq X d j 123).bind fun _ => sKL X R d lk 200000 lk le (j + 1)
def sIL (d : Nat) (lk : LK) : Nat → Nat → Nat → Option (Nat × LK × Nat)
  | 0, _, _ => none
  | k + 1, le, j => (gd (ps X d j)).bind fun _ => (sE8 X lk d (j + 1)).bind fun x => (gd (Nat.beq x.2 1)).bind fun _ => (R 0 lk le d x.1).bind fun r =>
    if X.kd r.1 = 210 then (gd (ps X d r.1)).bind fun _ => if X.kd (r.1 + 1) = 209 then sIL d lk k r.2.2 (r.1 + 1) else R 0 lk r.2.2 d (r.1 + 1)
    else some (r.1, lk, r.2.2)
def sIs (lk : LK) (le d j : Nat) : Option (Nat × LK × Nat) := sIL X R d lk 200000 le j
def sSm (lk : LK) (le d j : Nat) : Option (Nat × LK × Nat) :=
  if X.kd j = 207 then sLe X lk le d j else if X.kd j = 208 then sTr X lk le d j else if X.kd j = 209 then R 2 lk le d j else sAs X lk le d j
end SS
/-- 0 a block, 1 a statement, 2 an if -/
def sS (X : TX) : Nat → Nat → LK → Nat → Nat → Nat → Option (Nat × LK × Nat)
  | 0 => fun _ _ _ _ _ => none
  | n + 1 => fun m lk le d j => match m with
    | 0 => sBk X (sS X n) lk le d j
    | 1 => sSm X (sS X n) lk le d j
    | _ => sIs X (sS X n) lk le d j
/-- what the items told: bits, names of THINGS, THINGS (width, cells, zero), cells in all, what fetch names, ops (name, code) -/
def SI : Type := Nat × LK × List (Nat × Nat × Bool) × Nat × Option (List Nat × List Nat) × List (List Nat × List Nat)
abbrev SI.mk (bits : Nat) (lk : LK) (tl : List (Nat × Nat × Bool)) (cells : Nat) (fe : Option (List Nat × List Nat)) (ops : List (List Nat × List Nat)) : SI := (bits, lk, tl, cells, fe, ops)
abbrev SI.bits (x : SI) : Nat := x.1
abbrev SI.lk (x : SI) : LK := x.2.1
abbrev SI.tl (x : SI) : List (Nat × Nat × Bool) := x.2.2.1
abbrev SI.cells (x : SI) : Nat := x.2.2.2.1
abbrev SI.fe (x : SI) : Option (List Nat × List Nat) := x.2.2.2.2.1
abbrev SI.ops (x : SI) : List (List Nat × List Nat) := x.2.2.2.2.2
def cntL (c : Nat) (C : List Nat) : Nat := C.countP (fun x => Nat.beq x c)
/-- names in an op: the letters of its code before the THINGS -/
def lkO (lk : LK) (C : List Nat) : LK := fun x => match x with
  | [c] => if isl c = true ∧ 0 < cntL c C then (3, cntL c C) else lk x
  | _ => lk x
section SI
variable (X : TX)
/-- a THING that is new: name at token j, kind k, n cells -/
def sNw (s : SI) (j k w n : Nat) (z : Bool) (j' : Nat) : Option (Nat × SI) :=
  if (s.lk (X.nm j)).1 = 0 ∧ s.tl.length < 64 ∧ s.cells + n ≤ 65536 then some (j', (SI.mk (s.bits) (updK s.lk (X.nm j) (k, w)) (s.tl ++ [(w, n, z)]) (s.cells + n) (s.fe) (s.ops))) else none
def sRg (s : SI) (j : Nat) : Option (Nat × SI) :=
  (gd (ps X 0 j)).bind fun _ => (ndq X 0 (j + 1) 3).bind fun _ => (ndq X 0 (j + 2) 58).bind fun _ => (ndq X 0 (j + 3) 4).bind fun _ => (ndq X 0 (j + 4) 59).bind fun _ =>
    if 1 ≤ X.nu (j + 3) ∧ X.nu (j + 3) ≤ 64 then sNw X s (j + 1) 1 (X.nu (j + 3)) 0 false (j + 5) else none
def sFi (s : SI) (j : Nat) : Option (Nat × SI) :=
  (gd (ps X 0 j)).bind fun _ => (ndq X 0 (j + 1) 3).bind fun _ => (ndq X 0 (j + 2) 58).bind fun _ => (ndq X 0 (j + 3) 4).bind fun _ => (ndq X 0 (j + 4) 91).bind fun _ => (ndq X 1 (j + 5) 4).bind fun _ => (ndq X 1 (j + 6) 93).bind fun _ =>
    if X.kd (j + 7) = 203 then (gd (ps X 0 (j + 7))).bind fun _ => (ndq X 0 (j + 8) 59).bind fun _ =>
      if (1 ≤ X.nu (j + 3) ∧ X.nu (j + 3) ≤ 64) ∧ 1 ≤ X.nu (j + 5) ∧ X.nu (j + 5) ≤ 65536 then sNw X s (j + 1) 2 (X.nu (j + 3)) (X.nu (j + 5)) true (j + 9) else none
    else (ndq X 0 (j + 7) 59).bind fun _ =>
      if (1 ≤ X.nu (j + 3) ∧ X.nu (j + 3) ≤ 64) ∧ 1 ≤ X.nu (j + 5) ∧ X.nu (j + 5) ≤ 65536 then sNw X s (j + 1) 2 (X.nu (j + 3)) (X.nu (j + 5)) false (j + 8) else none
def sFe (s : SI) (j : Nat) : Option (Nat × SI) :=
  (gd (ps X 0 j)).bind fun _ => (ndq X 0 (j + 1) 3).bind fun _ => (ndq X 0 (j + 2) 205).bind fun _ => (ndq X 0 (j + 3) 3).bind fun _ => (ndq X 0 (j + 4) 59).bind fun _ =>
    if (s.lk (X.nm (j + 1))).1 = 1 ∧ s.lk (X.nm (j + 3)) = (2, 8) ∧ s.fe = none then some (j + 5, (SI.mk (s.bits) (s.lk) (s.tl) (s.cells) (some (X.nm (j + 1), X.nm (j + 3))) (s.ops))) else none
def sOp (s : SI) (j : Nat) : Option (Nat × SI) :=
  (gd (ps X 0 j)).bind fun _ => (ndq X 0 (j + 1) 3).bind fun _ => (ndq X 0 (j + 2) 5).bind fun _ =>
    (gd (decide (¬ X.nm (j + 1) ∈ s.ops.map Prod.fst ∧ s.ops.length < 512 ∧ (X.nm (j + 2)).length = s.bits))).bind fun _ =>
      (sS X 200 0 (lkO s.lk (X.nm (j + 2))) 0 0 (j + 3)).bind fun r => some (r.1, (SI.mk (s.bits) (s.lk) (s.tl) (s.cells) (s.fe) (s.ops ++ [(X.nm (j + 1), X.nm (j + 2))])))
def sIt (s : SI) (j : Nat) : Option (Nat × SI) := if X.kd j = 201 then sRg X s j else if X.kd j = 202 then sFi X s j else if X.kd j = 204 then sFe X s j else if X.kd j = 206 then sOp X s j else none
def sLp : Nat → SI → Nat → Option SI
  | 0, _, _ => none
  | k + 1, s, j => if X.kd j = 1 then some s else (sIt X s j).bind fun r => sLp k r.2 r.1
/-- the items of the TEXT -/
def sTx : Option SI := (ndq X 0 0 200).bind fun _ => (ndq X 0 1 4).bind fun _ => (ndq X 0 2 59).bind fun _ =>
  if X.nu 1 = 8 ∨ X.nu 1 = 16 ∨ X.nu 1 = 32 ∨ X.nu 1 = 64 then sLp X 200000 ⟨X.nu 1, fun _ => (0, 0), [], 0, none, []⟩ 3 else none
end SI
/-- codes that no word has both -/
def aptC : List Nat → List Nat → Bool
  | a :: x, b :: y => (Nat.beq a 48 && Nat.beq b 49) || (Nat.beq a 49 && Nat.beq b 48) || aptC x y
  | _, _ => false
def aptL : List (List Nat) → Bool
  | [] => true
  | x :: l => l.all (fun y => aptC x y) && aptL l
/-- a right TEXT -/
def sOK (X : TX) : Option SI := (sTx X).bind fun s => if aptL (s.ops.map Prod.snd) = true then some s else none
/-! statements of the reference -/
def SQq (P N : Nat) (T : Nat → Nat) (lk : LK) (le : Nat) (b : Bool) (d : Nat) (h : mv_H) (m j : Nat) : Prop := (ESq P N T lk b d h m) ∧ (N ≤ 10240) ∧ (byt7 h) ∧ (∃ lr, mv_i h P 36 = nI lr ∧ lr ≤ j ∧ (b = true → lr = le)) ∧ (5 * (mv_i h P 35).toNatClampNeg ≤ j) ∧ (gkT T N j) ∧ (m ≤ j) ∧ (∀ i, i < (mv_i h P 17).toNatClampNeg → mv_a h (P + 6) i = 0 ∨ mv_a h (P + 6) i = 1)
theorem SQq.es {P N : Nat} {T : Nat → Nat} {lk : LK} {le : Nat} {b : Bool} {d : Nat} {h : mv_H} {m j : Nat} (h99 : SQq P N T lk le b d h m j) : ESq P N T lk b d h m := h99.1
theorem SQq.n10 {P N : Nat} {T : Nat → Nat} {lk : LK} {le : Nat} {b : Bool} {d : Nat} {h : mv_H} {m j : Nat} (h99 : SQq P N T lk le b d h m j) : N ≤ 10240 := h99.2.1
theorem SQq.b7 {P N : Nat} {T : Nat → Nat} {lk : LK} {le : Nat} {b : Bool} {d : Nat} {h : mv_H} {m j : Nat} (h99 : SQq P N T lk le b d h m j) : byt7 h := h99.2.2.1
theorem SQq.le0 {P N : Nat} {T : Nat → Nat} {lk : LK} {le : Nat} {b : Bool} {d : Nat} {h : mv_H} {m j : Nat} (h99 : SQq P N T lk le b d h m j) : ∃ lr, mv_i h P 36 = nI lr ∧ lr ≤ j ∧ (b = true → lr = le) := h99.2.2.2.1
theorem SQq.ln {P N : Nat} {T : Nat → Nat} {lk : LK} {le : Nat} {b : Bool} {d : Nat} {h : mv_H} {m j : Nat} (h99 : SQq P N T lk le b d h m j) : 5 * (mv_i h P 35).toNatClampNeg ≤ j := h99.2.2.2.2.1
theorem SQq.gk {P N : Nat} {T : Nat → Nat} {lk : LK} {le : Nat} {b : Bool} {d : Nat} {h : mv_H} {m j : Nat} (h99 : SQq P N T lk le b d h m j) : gkT T N j := h99.2.2.2.2.2.1
theorem SQq.mj {P N : Nat} {T : Nat → Nat} {lk : LK} {le : Nat} {b : Bool} {d : Nat} {h : mv_H} {m j : Nat} (h99 : SQq P N T lk le b d h m j) : m ≤ j := h99.2.2.2.2.2.2.1
theorem SQq.f6 {P N : Nat} {T : Nat → Nat} {lk : LK} {le : Nat} {b : Bool} {d : Nat} {h : mv_H} {m j : Nat} (h99 : SQq P N T lk le b d h m j) : ∀ i, i < (mv_i h P 17).toNatClampNeg → mv_a h (P + 6) i = 0 ∨ mv_a h (P + 6) i = 1 := h99.2.2.2.2.2.2.2
/-- what statements may change; L lets stand before -/
def SFr (P L : Nat) (h h' : mv_H) : Prop := (∀ o k, ¬ (o = P ∧ (k = 35 ∨ k = 36 ∨ k = 37 ∨ k = 38 ∨ k = 48 ∨ k = 49 ∨ k = 50)) → mv_i h' o k = mv_i h o k) ∧ (h'.2.1 = h.2.1) ∧ (mv_r h' = mv_r h) ∧ (∀ o, ¬ (P + 14 ≤ o ∧ o ≤ P + 25) → mv_a h' o = mv_a h o) ∧ (∀ o k, P + 14 ≤ o → o ≤ P + 17 → k < L → mv_a h' o k = mv_a h o k) ∧ (∀ o, ¬ o = P + 24 → mv_b h' o = mv_b h o)
theorem SFr.i {P L : Nat} {h h' : mv_H} (h99 : SFr P L h h') : ∀ o k, ¬ (o = P ∧ (k = 35 ∨ k = 36 ∨ k = 37 ∨ k = 38 ∨ k = 48 ∨ k = 49 ∨ k = 50)) → mv_i h' o k = mv_i h o k := h99.1
theorem SFr.l {P L : Nat} {h h' : mv_H} (h99 : SFr P L h h') : h'.2.1 = h.2.1 := h99.2.1
theorem SFr.r {P L : Nat} {h h' : mv_H} (h99 : SFr P L h h') : mv_r h' = mv_r h := h99.2.2.1
theorem SFr.a {P L : Nat} {h h' : mv_H} (h99 : SFr P L h h') : ∀ o, ¬ (P + 14 ≤ o ∧ o ≤ P + 25) → mv_a h' o = mv_a h o := h99.2.2.2.1
theorem SFr.q {P L : Nat} {h h' : mv_H} (h99 : SFr P L h h') : ∀ o k, P + 14 ≤ o → o ≤ P + 17 → k < L → mv_a h' o k = mv_a h o k := h99.2.2.2.2.1
theorem SFr.b {P L : Nat} {h h' : mv_H} (h99 : SFr P L h h') : ∀ o, ¬ o = P + 24 → mv_b h' o = mv_b h o := h99.2.2.2.2.2
theorem SFr.refl (P L : Nat) (h : mv_H) : SFr P L h h := ⟨fun _ _ _ => rfl, rfl, rfl, fun _ _ => rfl, fun _ _ _ _ _ => rfl, fun _ _ => rfl⟩
theorem SFr.trans {P L L1 : Nat} {h h1 h2 : mv_H} (a : SFr P L h h1) (b : SFr P L1 h1 h2) (e : L ≤ L1) : SFr P L h h2 := ⟨fun o k q => (b.i o k q).trans (a.i o k q), b.l.trans a.l, b.r.trans a.r, fun o q => (b.a o q).trans (a.a o q), fun o k q1 q2 q3 => (b.q o k q1 q2 (by omega)).trans (a.q o k q1 q2 q3), fun o q => (b.b o q).trans (a.b o q)⟩
theorem XFr.s {P m L : Nat} {h h' : mv_H} (X : XFr P m h h') : SFr P L h h' := ⟨fun o k q => X.i o k (by omega), X.l, X.r, fun o q => X.a o (by omega), fun o k q1 q2 _ => by rw [X.a o (by omega)], X.b⟩
theorem SFr.dep {P L d : Nat} {x : Int32} {h h2 : mv_H} (a : SFr P L (mv_si h P 8 x) h2) (e : mv_i h P 8 = nI d) : SFr P L h (mv_si h2 P 8 (nI d)) := ⟨
  fun o k q => by
    by_cases z : o = P ∧ k = 8
    · rw [z.1, z.2, e]; exact mv_u_same (mv_i h2) P 8 _
    · exact (mv_u_ne (mv_i h2) _ z).trans ((a.i o k q).trans (mv_u_ne (mv_i h) _ z)),
  a.l,
  a.r,
  a.a,
  a.q,
  a.b⟩
/-- fields that a state does not speak of -/
theorem ESq.si {P N d m : Nat} {T : Nat → Nat} {lk : LK} {b : Bool} {h : mv_H} (E : ESq P N T lk b d h m) {k : Nat} (hk : ¬ (k = 2 ∨ k = 8 ∨ k = 17 ∨ k = 29 ∨ k = 30 ∨ k = 35 ∨ k = 38 ∨ k = 48)) (x : Int32) : ESq P N T lk b d (mv_si h P k x) m := by
  have ei : ∀ c, ¬ c = k → mv_i (mv_si h P k x) P c = mv_i h P c := fun c hc => mv_u_ne (mv_i h) _ (by omega)
  exact ⟨
    ⟨by rw [ei 2 (by omega)]; exact E.hb.n, E.hb.n2, E.hb.t, by rw [ei 8 (by omega)]; exact E.hb.dp, E.hb.d2, E.hb.p⟩,
    by rw [ei 38 (by omega)]; exact E.fa,
    by rw [ei 48 (by omega)]; exact E.nd,
    by
      unfold ROq
      rw [ei 35 (by omega), ei 17 (by omega), ei 30 (by omega), ei 29 (by omega)]
      exact E.ro,
    fun w q e h1 h3 => by
      have : lkQ P N (mv_si h P k x) q e = lkQ P N h q e := by
        unfold lkQ
        rw [ei 35 (by omega), ei 17 (by omega), ei 30 (by omega), ei 29 (by omega)]
        rfl
      rw [this]
      exact E.ev w q e h1 h3,
    E.lp,
    E.wd⟩
theorem byt7_row {h g : mv_H} (e : mv_a g 71 = mv_a h 71) (hb : byt7 h) : byt7 g := fun p hp => by rw [e]; exact hb p hp
theorem XFr.b7 {P m : Nat} {h h' : mv_H} (X : XFr P m h h') (hP : 74 ≤ P) (hb : byt7 h) : byt7 h' := byt7_row (X.a 71 (by omega)) hb
theorem XFr.L {P m : Nat} {h h' : mv_H} (X : XFr P m h h') : mv_i h' P 35 = mv_i h P 35 ∧ mv_i h' P 36 = mv_i h P 36 ∧ mv_i h' P 49 = mv_i h P 49 ∧ mv_i h' P 50 = mv_i h P 50 := ⟨X.i P 35 (by omega), X.i P 36 (by omega), X.i P 49 (by omega), X.i P 50 (by omega)⟩
section STS
variable {P N : Nat} {T : Nat → Nat} {lk : LK} {b : Bool} {d m : Nat} {h : mv_H}
/-- the name at token j kept -/
def nmK (P N : Nat) (T : Nat → Nat) (h : mv_H) (j : Nat) : mv_H := mv_si (mv_si h P 49 (nI (pos T N j))) P 50 (nI (bp T N (j + 1)))
theorem name_S (E : ESq P N T lk b d h m) {j : Nat} (G : gkT T N j) (v : Int64) : (kdT T N j = 3 ∧ gkT T N (j + 1) ∧ ps (txT T N) d j = true ∧ ndq (txT T N) d j 3 = some () ∧ ∃ v', f_Book_name P (rB P N h j v) = some (some 0, rB P N (nmK P N T h j) (j + 1) v')) ∨ (ndq (txT T N) d j 3 = none ∧ ∃ g, f_Book_name P (rB P N h j v) = some (none, g)) := by
  have H := E.hb
  have c3 := kd_nm H.lt G.1
  have eX : (txT T N).kd j = kdT T N j := rfl
  have ep : ps (txT T N) d j = true ↔ mv_i h P 8 ≤ 60 ∧ (tok (ck h N) N (j + 1)).2.2.2 = none := by
    unfold ps
    rw [Bool.and_eq_true, Nat.ble_eq, H.le, H.t, ← bkT_n]
    have : (txT T N).bk (j + 1) = bkT T N (j + 1) := rfl
    rw [this]
    cases bkT T N (j + 1) <;> simp
  by_cases k : kdT T N j = 3 ∧ mv_i h P 8 ≤ 60 ∧ (tok (ck h N) N (j + 1)).2.2.2 = none
  · have k1 := c3.mpr k.1
    refine Or.inl ⟨k.1, ⟨by rw [← H.t]; exact k.2.2, fun i hi => ?_⟩, ep.mpr k.2, ?_, ?_⟩
    · by_cases e : i = j
      · rw [e]; exact go_kd G.1 (by omega) (by omega)
      · exact G.2 i (by omega)
    · unfold ndq gd
      rw [eX, ep.mpr k.2, k.1]
      rfl
    · unfold rB
      rw [name_g H.n H.n2 _ (by rw [H.t]; exact k1.1) (by rw [H.t]; exact k1.2) k.2.1 k.2.2]
      unfold nmK nmH
      rw [H.t]
      have ec : ck (mv_si (mv_si h P 49 (nI (pos T N j))) P 50 (nI (bp T N (j + 1)))) N = T := H.t
      rw [ec]
      exact ⟨_, rfl⟩
  · refine Or.inr ⟨?_, ?_⟩
    · unfold ndq gd
      by_cases k3 : kdT T N j = 3
      · have : ps (txT T N) d j = false := Bool.eq_false_iff.mpr (fun w => k ⟨k3, ep.mp w⟩)
        rw [this, Bool.and_false]; rfl
      · rw [eX, nbq k3]; rfl
    · unfold rB
      refine name_b H.n H.n2 _ (fun w => k ⟨c3.mp ⟨by rw [← H.t]; exact w.1, by rw [← H.t]; exact w.2.1⟩, w.2.2.1, w.2.2.2⟩)
theorem ESq.nmK (E : ESq P N T lk b d h m) (j : Nat) : ESq P N T lk b d (nmK P N T h j) m := (E.si (by omega) _).si (by omega) _
theorem nmK_fr (L j : Nat) : SFr P L h (nmK P N T h j) := ⟨fun o k q => (mv_u_ne (mv_i (mv_si h P 49 (nI (pos T N j)))) _ (by omega)).trans (mv_u_ne (mv_i h) _ (by omega)), rfl, rfl, fun _ _ => rfl, fun _ _ _ _ _ => rfl, fun _ _ => rfl⟩
theorem nmK_i {k : Nat} (hk : ¬ k = 49 ∧ ¬ k = 50) (j : Nat) : mv_i (nmK P N T h j) P k = mv_i h P k := (mv_u_ne (mv_i (mv_si h P 49 (nI (pos T N j)))) _ (by omega)).trans (mv_u_ne (mv_i h) _ (by omega))
theorem nmK_49 (j : Nat) : mv_i (nmK P N T h j) P 49 = nI (pos T N j) := (mv_u_ne (mv_i (mv_si h P 49 (nI (pos T N j)))) _ (by omega)).trans (mv_u_same (mv_i h) P 49 _)
theorem nmK_50 (j : Nat) : mv_i (nmK P N T h j) P 50 = nI (bp T N (j + 1)) := mv_u_same (mv_i (mv_si h P 49 (nI (pos T N j)))) P 50 _
theorem nm_tn (E : ESq P N T lk b d h m) {j : Nat} (G : gkT T N j) (hk : kdT T N j = 3) : (txT T N).nm j = tn T (pos T N j) (bp T N (j + 1) - pos T N j) := by
  show (if (tok T N j).1 = 3 then _ else _) = _
  rw [if_neg (by rw [((kd_nm E.hb.lt G.1).mpr hk).1]; decide)]
/-- a NUMBER in a range: it, or a fault -/
theorem rng_S (E : ESq P N T lk b d h m) {j : Nat} (G : gkT T N j) {lo hi : Nat} (hl : lo < 1000000) (hh : hi < 10000000) (v : Int64) : (kdT T N j = 4 ∧ gkT T N (j + 1) ∧ ndq (txT T N) d j 4 = some () ∧ ∃ v' h1 b1 x, f_Book_ranged P (rB P N h j v) (nJ lo) (nJ hi) = some (some x, rB P N h1 (j + 1) v') ∧ ESq P N T lk b1 d h1 m ∧ XFr P m h h1 ∧ ((lo ≤ (txT T N).nu j ∧ (txT T N).nu j ≤ hi ∧ b1 = b ∧ x = nI ((txT T N).nu j) ∧ h1 = h) ∨ (¬ (lo ≤ (txT T N).nu j ∧ (txT T N).nu j ≤ hi) ∧ b1 = false ∧ x = -1))) ∨ (ndq (txT T N) d j 4 = none ∧ ∃ g, f_Book_ranged P (rB P N h j v) (nJ lo) (nJ hi) = some (none, g)) := by
  have H := E.hb
  unfold f_Book_ranged
  rcases ndS H G (c := 4) (k := 2) (by omega) (kd_num H.lt G.1) v with ⟨k3, p3, G3, s3, v3, e3⟩ | ⟨s3, g, e3⟩
  rotate_left
  · exact Or.inr ⟨s3, g, by rw [e3, xtb_n]⟩
  obtain ⟨n3, nn3⟩ := E.num G k3 v
  refine Or.inl ⟨k3, G3, s3, v3, ?_⟩
  rw [e3, xtb_s, n3, in_S _ nn3 hl hh, xhb_s]
  by_cases c : lo ≤ (txT T N).nu j ∧ (txT T N).nu j ≤ hi
  · rw [if_neg (b01_dp c), nJi (by omega)]
    exact ⟨h, b, _, rfl, E, XFr.refl P m h, Or.inl ⟨c.1, c.2, rfl, rfl, rfl⟩⟩
  · rw [if_pos (b01_dn c)]
    obtain ⟨h0, e0, E0, X0⟩ := fN E (k := 3) (by decide) (mv_i (rB P N h j v) P 5) (j + 1) v3
    rw [e0, xhv_s]
    exact ⟨h0, false, _, rfl, E0, X0, Or.inr ⟨c, rfl, rfl⟩⟩
end STS
def SRq (P N : Nat) (T : Nat → Nat) (lk' : LK) (le' : Nat) (b' : Bool) (d j j' m m' : Nat) (h h' : mv_H) : Prop := (SQq P N T lk' le' b' d h' m' j') ∧ (SFr P (mv_i h P 35).toNatClampNeg h h') ∧ (j < j') ∧ (m' + j ≤ m + j') ∧ (m ≤ m') ∧ ((mv_i h P 35).toNatClampNeg ≤ (mv_i h' P 35).toNatClampNeg) ∧ (5 * (mv_i h' P 35).toNatClampNeg + j ≤ 5 * (mv_i h P 35).toNatClampNeg + j')
theorem SRq.sq {P N : Nat} {T : Nat → Nat} {lk' : LK} {le' : Nat} {b' : Bool} {d j j' m m' : Nat} {h h' : mv_H} (h99 : SRq P N T lk' le' b' d j j' m m' h h') : SQq P N T lk' le' b' d h' m' j' := h99.1
theorem SRq.fr {P N : Nat} {T : Nat → Nat} {lk' : LK} {le' : Nat} {b' : Bool} {d j j' m m' : Nat} {h h' : mv_H} (h99 : SRq P N T lk' le' b' d j j' m m' h h') : SFr P (mv_i h P 35).toNatClampNeg h h' := h99.2.1
theorem SRq.jj {P N : Nat} {T : Nat → Nat} {lk' : LK} {le' : Nat} {b' : Bool} {d j j' m m' : Nat} {h h' : mv_H} (h99 : SRq P N T lk' le' b' d j j' m m' h h') : j < j' := h99.2.2.1
theorem SRq.cnt {P N : Nat} {T : Nat → Nat} {lk' : LK} {le' : Nat} {b' : Bool} {d j j' m m' : Nat} {h h' : mv_H} (h99 : SRq P N T lk' le' b' d j j' m m' h h') : m' + j ≤ m + j' := h99.2.2.2.1
theorem SRq.mm {P N : Nat} {T : Nat → Nat} {lk' : LK} {le' : Nat} {b' : Bool} {d j j' m m' : Nat} {h h' : mv_H} (h99 : SRq P N T lk' le' b' d j j' m m' h h') : m ≤ m' := h99.2.2.2.2.1
theorem SRq.lm {P N : Nat} {T : Nat → Nat} {lk' : LK} {le' : Nat} {b' : Bool} {d j j' m m' : Nat} {h h' : mv_H} (h99 : SRq P N T lk' le' b' d j j' m m' h h') : (mv_i h P 35).toNatClampNeg ≤ (mv_i h' P 35).toNatClampNeg := h99.2.2.2.2.2.1
theorem SRq.l5 {P N : Nat} {T : Nat → Nat} {lk' : LK} {le' : Nat} {b' : Bool} {d j j' m m' : Nat} {h h' : mv_H} (h99 : SRq P N T lk' le' b' d j j' m m' h h') : 5 * (mv_i h' P 35).toNatClampNeg + j ≤ 5 * (mv_i h P 35).toNatClampNeg + j' := h99.2.2.2.2.2.2
def SOq (P N : Nat) (T : Nat → Nat) (d j m : Nat) (h : mv_H) (nf : Bool) (Sv : Option (Nat × LK × Nat)) (r : Option (Option Int32 × mv_H)) : Prop :=
  (∃ g, r = some (none, g) ∧ Sv = none) ∨ (∃ b' j' lk' le' x h' v' m', r = some (some x, rB P N h' j' v') ∧ Sv = on b' (some (j', lk', le')) ∧ SRq P N T lk' le' b' d j j' m m' h h' ∧ (match nf with | true => ∃ xi, x = nI xi ∧ xi < m' | false => mv_i h' P 35 = mv_i h P 35))
theorem fstm_add {p : Nat → Bool} : ∀ (m i : Nat), fstm p (m + 1) i = match fstm p m i with
    | some x => some x
    | none => if p (i + m) = true then some (i + m) else none := by
  intro m
  induction m with
  | zero => intro i; rfl
  | succ m ih =>
    intro i
    show (if p i = true then some i else fstm p (m + 1) (i + 1)) = _
    show _ = match (if p i = true then some i else fstm p m (i + 1)) with
      | some x => some x
      | none => if p (i + (m + 1)) = true then some (i + (m + 1)) else none
    by_cases e : p i = true
    · rw [if_pos e, if_pos e]
    · rw [if_neg e, if_neg e, ih (i + 1), show i + 1 + m = i + (m + 1) by omega]
theorem fstm_cg {p p' : Nat → Bool} : ∀ (m i : Nat), (∀ k, i ≤ k → k < i + m → p' k = p k) → fstm p' m i = fstm p m i := by
  intro m
  induction m with
  | zero => intro i _; rfl
  | succ m ih =>
    intro i hp
    show (if p' i = true then some i else fstm p' m (i + 1)) = if p i = true then some i else fstm p m (i + 1)
    rw [hp i (by omega) (by omega), ih (i + 1) (fun k h1 h2 => hp k (by omega) (by omega))]
/-- the lets below the first L alone count -/
theorem lkZ_cg {t : Nat → Int32} {C : Nat → Nat} {x35 x17 x30 x29 : Int32} {r14 r15 r16 r1 r2 r3 r10 r13 r6 r14' r15' r16' : Nat → Int32} (h : ∀ k, k < x35.toNatClampNeg → r14' k = r14 k ∧ r15' k = r15 k ∧ r16' k = r16 k) (q e : Nat) : lkZ t C x35 x17 x30 x29 r14' r15' r16' r1 r2 r3 r10 r13 r6 q e = lkZ t C x35 x17 x30 x29 r14 r15 r16 r1 r2 r3 r10 r13 r6 q e := by
  have ef : fsz t x35.toNatClampNeg r14' r15' q e = fsz t x35.toNatClampNeg r14 r15 q e := fstm_cg _ 0 (fun k _ hk => by
    have := h k (by omega)
    simp only [this.1, this.2.1])
  unfold lkZ
  rw [ef]
  cases c : fsz t x35.toNatClampNeg r14 r15 q e with
  | none => rfl
  | some i => have := h i (fsz_lt c); simp only [this.2.2]
/-- a let more -/
theorem lkZ_add {t : Nat → Int32} {C : Nat → Nat} {x35 x35' x17 x30 x29 : Int32} {r14 r15 r16 r1 r2 r3 r10 r13 r6 r14' r15' r16' : Nat → Int32} {L q0 e0 w : Nat} (hL : x35.toNatClampNeg = L) (hL' : x35'.toNatClampNeg = L + 1) (h : ∀ k, k < L → r14' k = r14 k ∧ r15' k = r15 k ∧ r16' k = r16 k) (h14 : (r14' L).toNatClampNeg = q0) (h15 : (r15' L).toNatClampNeg = e0) (h16 : (r16' L).toNatClampNeg = w) (q e : Nat) :
    (s7z t q0 (e0 - q0) = s7z t q (e - q) → ¬ (lkZ t C x35 x17 x30 x29 r14 r15 r16 r1 r2 r3 r10 r13 r6 q e).1 = 3 → lkZ t C x35' x17 x30 x29 r14' r15' r16' r1 r2 r3 r10 r13 r6 q e = (3, w)) ∧ (¬ s7z t q0 (e0 - q0) = s7z t q (e - q) → lkZ t C x35' x17 x30 x29 r14' r15' r16' r1 r2 r3 r10 r13 r6 q e = lkZ t C x35 x17 x30 x29 r14 r15 r16 r1 r2 r3 r10 r13 r6 q e) := by
  have ef : fsz t (L + 1) r14' r15' q e = match fsz t L r14 r15 q e with
      | some x => some x
      | none => if s7z t q0 (e0 - q0) = s7z t q (e - q) then some L else none := by
    unfold fsz
    rw [fstm_add, fstm_cg (p := fun i => decide (s7z t (r14 i).toNatClampNeg ((r15 i).toNatClampNeg - (r14 i).toNatClampNeg) = s7z t q (e - q))) L 0 (fun k _ hk => by have := h k (by omega); simp only [this.1, this.2.1])]
    simp only [Nat.zero_add, h14, h15, decide_eq_true_eq]
  unfold lkZ
  rw [hL, hL', ef]
  cases c : fsz t L r14 r15 q e with
  | some i =>
    refine ⟨fun _ hn => absurd rfl hn, fun _ => ?_⟩
    have hi := fsz_lt c
    have := h i hi
    simp only [this.2.2]
  | none =>
    constructor
    · intro hs _
      simp only [if_pos hs, h16]
    · intro hs
      simp only [if_neg hs]
section LTS
variable {P N : Nat} {T : Nat → Nat}
theorem SFr.b7 {L : Nat} {h h' : mv_H} (X : SFr P L h h') (hP : 74 ≤ P) (hb : byt7 h) : byt7 h' := byt7_row (X.a 71 (by omega)) hb
theorem SFr.ckq {L : Nat} {h h' : mv_H} (X : SFr P L h h') (hP : 74 ≤ P) : ck h' N = ck h N := by
  funext p
  unfold ck
  rw [X.a 71 (by omega)]
/-- names, by their characters -/
theorem s7_tn_iff {h : mv_H} (hb : byt7 h) (hn2 : N ≤ 32768) (et : ck h N = T) {q0 e0 q e : Nat} (h1 : q0 ≤ e0) (h2 : e0 ≤ N) (h3 : q ≤ e) (h4 : e ≤ N) : s7z (mv_a h 71) q0 (e0 - q0) = s7z (mv_a h 71) q (e - q) ↔ tn T q (e - q) = tn T q0 (e0 - q0) := by
  have := s7_iff (h := h) hb (n := N) (a := q0) (l := e0 - q0) (c := q) (m := e - q) hn2 (by omega) (by omega)
  rw [et] at this
  exact ⟨fun w => (this.mp w).symm, fun w => this.mpr w.symm⟩
/-- the heap with a let more: name from q0 to e0, w wide, L lets, lr ever -/
def ltH (P L lr q0 e0 : Nat) (w : Int32) (h : mv_H) : mv_H := mv_si (mv_si (mv_sa (mv_sa (mv_sa (mv_sa h (P + 14) L (nI q0)) (P + 15) L (nI e0)) (P + 16) L w) (P + 17) L (nI lr)) P 35 (nI (L + 1))) P 36 (nI (lr + 1))
variable {lk : LK} {b : Bool} {d m : Nat} {h : mv_H}
theorem ltH_a (L lr q0 e0 : Nat) (w : Int32) (o k : Nat) : mv_a (ltH P L lr q0 e0 w h) o k = if o = P + 17 ∧ k = L then nI lr else if o = P + 16 ∧ k = L then w else if o = P + 15 ∧ k = L then nI e0 else if o = P + 14 ∧ k = L then nI q0 else mv_a h o k := rfl
theorem ltH_i (L lr q0 e0 : Nat) (w : Int32) (o k : Nat) : mv_i (ltH P L lr q0 e0 w h) o k = if o = P ∧ k = 36 then nI (lr + 1) else if o = P ∧ k = 35 then nI (L + 1) else mv_i h o k := rfl
theorem ltH_fr {L : Nat} (lr q0 e0 : Nat) (w : Int32) : SFr P L h (ltH P L lr q0 e0 w h) := ⟨
  fun o k q => by rw [ltH_i, if_neg (by omega), if_neg (by omega)],
  rfl,
  rfl,
  fun o q => by funext k; rw [ltH_a, if_neg (by omega), if_neg (by omega), if_neg (by omega), if_neg (by omega)],
  fun o k q1 q2 q3 => by rw [ltH_a, if_neg (by omega), if_neg (by omega), if_neg (by omega), if_neg (by omega)],
  fun _ _ => rfl⟩
/-- the state with a let more -/
theorem ltH_S (E : ESq P N T lk b d h m) (hb7 : byt7 h) {L lr q0 e0 w : Nat} (hL : mv_i h P 35 = nI L) (hL2 : L < 4100) (hq : q0 ≤ e0) (he : e0 ≤ N) (hw : w ≤ 40000) (b' : Bool) (hb : b' = true → b = true ∧ (lk (tn T q0 (e0 - q0))).1 = 0 ∧ 0 < w) (hfa : fz b' (mv_i h P 38)) (hlp : lkP (updK lk (tn T q0 (e0 - q0)) (3, w)) ∨ b' = false) : ∃ lk', (b' = true → lk' = updK lk (tn T q0 (e0 - q0)) (3, w)) ∧ ESq P N T lk' b' d (ltH P L lr q0 e0 (nI w) h) m := by
  have hP := E.hb.p
  have hn2 := E.hb.n2
  have X := ltH_fr (P := P) (h := h) (L := L) lr q0 e0 (nI w)
  have e35 : mv_i (ltH P L lr q0 e0 (nI w) h) P 35 = nI (L + 1) := by rw [ltH_i, if_neg (by omega), if_pos ⟨rfl, rfl⟩]
  have c35 : (mv_i h P 35).toNatClampNeg = L := by rw [hL, cln (by omega)]
  have c35' : (mv_i (ltH P L lr q0 e0 (nI w) h) P 35).toNatClampNeg = L + 1 := by rw [e35, cln (by omega)]
  have r14 : mv_a (ltH P L lr q0 e0 (nI w) h) (P + 14) L = nI q0 := by rw [ltH_a, if_neg (by omega), if_neg (by omega), if_neg (by omega), if_pos ⟨rfl, rfl⟩]
  have r15 : mv_a (ltH P L lr q0 e0 (nI w) h) (P + 15) L = nI e0 := by rw [ltH_a, if_neg (by omega), if_neg (by omega), if_pos ⟨rfl, rfl⟩]
  have r16 : mv_a (ltH P L lr q0 e0 (nI w) h) (P + 16) L = nI w := by rw [ltH_a, if_neg (by omega), if_pos ⟨rfl, rfl⟩]
  have R := E.ro
  have ro : ROq P N (ltH P L lr q0 e0 (nI w) h) := by
    unfold ROq
    rw [X.i P 17 (by omega), X.i P 30 (by omega), X.i P 29 (by omega), X.a (P + 1) (by omega), X.a (P + 2) (by omega), X.a (P + 3) (by omega), X.a (P + 10) (by omega), e35]
    refine ⟨by rw [cln (by omega)], by rw [cln (by omega)]; omega, ?_, ?_, R.t0, R.t1, R.t2, R.t3, R.e0, R.e1, R.o0, R.o1, R.b0, R.b1⟩
    · intro i hi
      rw [cln (by omega)] at hi
      by_cases c : i = L
      · rw [c, r14, r15, cln (by omega), cln (by omega)]
        exact ⟨rfl, rfl, hq, he⟩
      · rw [X.q (P + 14) i (by omega) (by omega) (by omega), X.q (P + 15) i (by omega) (by omega) (by omega)]
        exact R.l2 i (by rw [c35]; omega)
    · intro i hi
      rw [cln (by omega)] at hi
      by_cases c : i = L
      · rw [c, r16, cln (by omega)]
        exact ⟨rfl, hw⟩
      · rw [X.q (P + 16) i (by omega) (by omega) (by omega)]
        exact R.l3 i (by rw [c35]; omega)
  have hb' : HB P N T d (ltH P L lr q0 e0 (nI w) h) := ⟨by rw [X.i P 2 (by omega)]; exact E.hb.n, hn2, by rw [X.ckq hP]; exact E.hb.t, by rw [X.i P 8 (by omega)]; exact E.hb.dp, E.hb.d2, hP⟩
  have hf : fz b' (mv_i (ltH P L lr q0 e0 (nI w) h) P 38) := by
    rw [ltH_i, if_neg (by omega), if_neg (by omega)]; exact hfa
  have hnd : mv_i (ltH P L lr q0 e0 (nI w) h) P 48 = nI m := by rw [ltH_i, if_neg (by omega), if_neg (by omega)]; exact E.nd
  have hwd : ∀ i, i < m → ∃ w', w' ≤ 40000 ∧ mv_a (ltH P L lr q0 e0 (nI w) h) (P + 23) i = nI w' := fun i hi => by
    rw [ltH_a, if_neg (by omega), if_neg (by omega), if_neg (by omega), if_neg (by omega)]; exact E.wd i hi
  have ev : b' = true → ∀ q e, q ≤ e → e ≤ N → lkQ P N (ltH P L lr q0 e0 (nI w) h) q e = updK lk (tn T q0 (e0 - q0)) (3, w) (tn T q (e - q)) := fun hbt q e h1 h2 => by
    obtain ⟨b1, hz, _⟩ := hb hbt
    have A := lkZ_add (t := mv_a h 71) (C := ck h N) (x17 := mv_i h P 17) (x30 := mv_i h P 30) (x29 := mv_i h P 29) (r14 := mv_a h (P + 14)) (r15 := mv_a h (P + 15)) (r16 := mv_a h (P + 16)) (r1 := mv_a h (P + 1)) (r2 := mv_a h (P + 2)) (r3 := mv_a h (P + 3)) (r10 := mv_a h (P + 10)) (r13 := mv_a h (P + 13)) (r6 := mv_a h (P + 6)) c35 c35' (fun k hk => ⟨X.q (P + 14) k (by omega) (by omega) hk, X.q (P + 15) k (by omega) (by omega) hk, X.q (P + 16) k (by omega) (by omega) hk⟩) (by rw [r14, cln (show q0 < 2147483648 by omega)]) (by rw [r15, cln (show e0 < 2147483648 by omega)]) (by rw [r16, cln (show w < 2147483648 by omega)]) q e
    have eq : lkQ P N (ltH P L lr q0 e0 (nI w) h) q e = lkZ (mv_a h 71) (ck h N) (mv_i (ltH P L lr q0 e0 (nI w) h) P 35) (mv_i h P 17) (mv_i h P 30) (mv_i h P 29) (mv_a (ltH P L lr q0 e0 (nI w) h) (P + 14)) (mv_a (ltH P L lr q0 e0 (nI w) h) (P + 15)) (mv_a (ltH P L lr q0 e0 (nI w) h) (P + 16)) (mv_a h (P + 1)) (mv_a h (P + 2)) (mv_a h (P + 3)) (mv_a h (P + 10)) (mv_a h (P + 13)) (mv_a h (P + 6)) q e := by
      unfold lkQ
      rw [X.ckq hP, X.a 71 (by omega), X.i P 17 (by omega), X.i P 30 (by omega), X.i P 29 (by omega), X.a (P + 1) (by omega), X.a (P + 2) (by omega), X.a (P + 3) (by omega), X.a (P + 10) (by omega), X.a (P + 13) (by omega), X.a (P + 6) (by omega)]
    have hs := s7_tn_iff hb7 hn2 E.hb.t hq he h1 h2
    have old := E.ev b1 q e h1 h2
    rw [eq]
    unfold updK
    by_cases c : tn T q (e - q) = tn T q0 (e0 - q0)
    · rw [if_pos c]
      refine A.1 (hs.mpr c) (fun w => ?_)
      have w' : (lkQ P N h q e).1 = 3 := w
      rw [old, c, hz] at w'
      exact absurd w' (by decide)
    · rw [if_neg c, A.2 (fun w => c (hs.mp w))]
      exact old
  cases b' with
  | true => exact ⟨_, fun _ => rfl, ⟨hb', hf, hnd, ro, ev, hlp.resolve_right (by decide), hwd⟩⟩
  | false => exact ⟨lk, fun w => (by cases w), ⟨hb', hf, hnd, ro, fun w => (by cases w), E.lp, hwd⟩⟩
end LTS
theorem lkP_upd {lk : LK} (h : lkP lk) {k w : Nat} (hw : 0 < w ∧ w ≤ 40000) (x : List Nat) : lkP (updK lk x (k, w)) := fun y hy => by
  unfold updK at hy ⊢
  by_cases c : y = x
  · rw [if_pos c]; exact hw
  · rw [if_neg c] at hy ⊢; exact h y hy
theorem gk_n {P N d m j : Nat} {T : Nat → Nat} {lk : LK} {b : Bool} {h : mv_H} (E : ESq P N T lk b d h m) (G : gkT T N j) : j ≤ N := by
  have h1 := bp_j E.te.1 E.te.2 j G.2
  have h2 := (bp_bd E.te.1 E.te.2 j).1
  omega
section LT2
variable {P N : Nat} {T : Nat → Nat} {lk : LK} {le : Nat} {b : Bool} {d m j : Nat} {h : mv_H}
theorem F868 {d : Nat} (hd : d ≤ 61) : Fq 868 0 0 d := by unfold Fq rkq; rw [if_pos rfl]; omega
/-- a state after an EXPR, other fields as before -/
theorem SQq.x {m' j' L : Nat} {b' : Bool} {h' : mv_H} (Q : SQq P N T lk le b d h m j) (hb : b' = true → b = true) (E : ESq P N T lk b' d h' m') (e35 : mv_i h' P 35 = mv_i h P 35) (e36 : mv_i h' P 36 = mv_i h P 36) (F : SFr P L h h') (G : gkT T N j') (hj : j ≤ j') (hm : m' ≤ j') : SQq P N T lk le b' d h' m' j' := ⟨
  E,
  Q.n10,
  F.b7 Q.es.hb.p Q.b7,
  by
    obtain ⟨lr, h1, h2, h3⟩ := Q.le0
    exact ⟨lr, by rw [e36]; exact h1, by omega, fun w => h3 (hb w)⟩,
  by rw [e35]; have := Q.ln; omega,
  G,
  hm,
  by rw [F.i P 17 (by omega), F.a (P + 6) (by omega)]; exact Q.f6⟩
theorem lts_S (Q : SQq P N T lk le b d h m j) (hk : kdT T N j = 207) (v : Int64) : SOq P N T d j m h true (on b (sLe (txT T N) lk le d j)) (f_Book_letStatement P (rB P N h j v)) := by
  have E := Q.es
  have H := E.hb
  have hP := H.p
  have n10 := Q.n10
  unfold f_Book_letStatement sLe
  rcases pS H Q.gk (by omega) (by omega) v with ⟨p1, G1, v1, e1⟩ | ⟨p1, g, e1⟩
  rotate_left
  · rw [e1, xtb_n, gd_f p1]; exact Or.inl ⟨g, rfl, on_none _⟩
  have hd := ps_d p1
  rw [e1, xtb_s, gd_t p1]
  rcases name_S E G1 v1 with ⟨k2, G2, p2, s2, v2, e2⟩ | ⟨s2, g, e2⟩
  rotate_left
  · rw [e2, xtb_n, s2]; exact Or.inl ⟨g, rfl, on_none _⟩
  have E2 := E.nmK (j + 1)
  have H2 := E2.hb
  have pq := name_pq E G1
  have en := nm_tn E G1 k2
  have e49 : mv_i (rB P N (nmK P N T h (j + 1)) (j + 1 + 1) v2) P 49 = nI (pos T N (j + 1)) := (rB_o _ _ (by omega)).trans (nmK_49 _)
  have e50 : mv_i (rB P N (nmK P N T h (j + 1)) (j + 1 + 1) v2) P 50 = nI (bp T N (j + 1 + 1)) := (rB_o _ _ (by omega)).trans (nmK_50 _)
  rw [e2, xtb_s, s2, Option.bind_some, e49, e50]
  rcases ndS H2 G2 (c := 61) (k := 61) (by omega) (H2.ch (c := 61) G2 (by omega) (by omega)) v2 with ⟨k3, p3, G3, s3, v3, e3⟩ | ⟨s3, g, e3⟩
  rotate_left
  · rw [e3, xtb_n, s3]; exact Or.inl ⟨g, rfl, on_none _⟩
  rw [e3, xtb_s, s3, Option.bind_some]
  have hmj := Q.mj
  unfold sE8
  rcases xRq P N T lk 868 0 0 0 d (j + 3) _ b m v3 (F868 (by omega)) E2 G3 (by omega) (pre0 T N 0 0 _ (Or.inl rfl)) with ⟨g, e4, s4⟩ | ⟨b4, j4, w4, x4, h4, v4, m4, e4, s4, R4⟩
  · rw [show j + 1 + 1 + 1 = j + 3 from rfl, e4, xtb_n, on_bind, s4]; exact Or.inl ⟨g, rfl, rfl⟩
  rw [show j + 1 + 1 + 1 = j + 3 from rfl, e4, xtb_s, on_bind, s4]
  simp only [on_s]
  have E4 := R4.es
  have H4 := E4.hb
  rcases ndS H4 R4.gk (c := 59) (k := 59) (by omega) (H4.ch (c := 59) R4.gk (by omega) (by omega)) v4 with ⟨k5, p5, G5, s5, v5, e5⟩ | ⟨s5, g, e5⟩
  rotate_left
  · rw [e5, xtb_n, s5]; exact Or.inl ⟨g, rfl, on_none _⟩
  rw [e5, xtb_s, s5, Option.bind_some, let_S E4 pq.1 pq.2, xhb_s]
  have hc4 := R4.cnt
  have hj4 := R4.jj
  have hm4 := R4.mm
  have xm4 := R4.xm
  have hw4 := R4.w2
  have hjb := gk_n E4 G5
  have h4m : m4 < 33000 := by omega
  have hb41 : b4 = true → b = true := fun w => on_mono s4 w
  have X4 := R4.fr
  have i35 : mv_i h4 P 35 = mv_i h P 35 := X4.L.1.trans (nmK_i (by omega) _)
  have i36 : mv_i h4 P 36 = mv_i h P 36 := X4.L.2.1.trans (nmK_i (by omega) _)
  have a71 : mv_a h4 71 = mv_a h 71 := X4.a 71 (by omega)
  have F4 : SFr P (mv_i h P 35).toNatClampNeg h h4 := (nmK_fr _ _).trans X4.s (Nat.le_refl _)
  have hlk : b4 = true → lk ((txT T N).nm (j + 1)) = lkQ P N h4 (pos T N (j + 1)) (bp T N (j + 1 + 1)) := fun w => by rw [en]; exact (E4.ev w _ _ pq.1 pq.2).symm
  -- the name means something: a fault
  have bad : (b4 = true → ¬ (lk ((txT T N).nm (j + 1))).1 = 0) → SOq P N T d j m h true (on b4 (if (lk ((txT T N).nm (j + 1))).1 = 0 ∧ le < 64 then some (j4 + 1, updK lk ((txT T N).nm (j + 1)) (3, w4), le + 1) else none)) (f_Book_letStatement_62 P (nI (pos T N (j + 1))) (rB P N h4 (j4 + 1) v5)) := fun hz => by
    obtain ⟨h6, e6, E6, X6⟩ := fN E4 (k := 2) (by decide) (nI (pos T N (j + 1))) (j4 + 1) v5
    obtain ⟨h7, e7, E7, X7, w7⟩ := nN E6 h4m 13 0 0 0 (w := 0) (by omega) (j4 + 1) v5
    unfold f_Book_letStatement_62
    rw [e6, xhv_s]
    show SOq P N T d j m h true _ (xhb (f_Book_node P (rB P N h6 (j4 + 1) v5) 13 0 0 0 (nI 0)) _)
    rw [e7, xhb_s]
    have X67 := X6.trans X7 (Nat.le_refl _)
    have q35 : mv_i h7 P 35 = mv_i h P 35 := X67.L.1.trans i35
    refine Or.inr ⟨false, j4 + 1, lk, le, nI m4, h7, v5, m4 + 1, rfl, ?_, ⟨Q.x (fun w => by cases w) E7 q35 (X67.L.2.1.trans i36) (F4.trans X67.s (Nat.le_refl _)) G5 (by omega) (by omega), F4.trans X67.s (Nat.le_refl _), by omega, by omega, by omega, by rw [q35]; omega, by rw [q35]; omega⟩, ⟨m4, rfl, by omega⟩⟩
    cases b4 with
    | false => rfl
    | true => rw [if_neg (fun z => hz rfl z.1)]; rfl
  have elk : lkQ P N h4 (pos T N (j + 1)) (bp T N (j + 1 + 1)) = match lfz P h4 (pos T N (j + 1)) (bp T N (j + 1 + 1)) with
      | some i => (3, (mv_a h4 (P + 16) i).toNatClampNeg)
      | none => if bp T N (j + 1 + 1) - pos T N (j + 1) = 1 ∧ isl (ck h4 N (pos T N (j + 1))) = true ∧ 0 < cfz P N h4 (pos T N (j + 1)) then (3, cfz P N h4 (pos T N (j + 1))) else match tfz P h4 (pos T N (j + 1)) (bp T N (j + 1 + 1)) with
        | some i => if mv_a h4 (P + 6) i = 0 then (1, (mv_a h4 (P + 3) i).toNatClampNeg) else (2, (mv_a h4 (P + 3) i).toNatClampNeg)
        | none => (0, 0) := rfl
  cases c1 : lfz P h4 (pos T N (j + 1)) (bp T N (j + 1 + 1)) with
  | some i =>
    rw [c1] at elk
    have hi := fsz_lt c1
    have l1 := E4.ro.l1
    rw [show resI (some i) = nI i from rfl, if_pos (show (0 : Int32) ≤ nI i from (nIle (a := 0) (by omega) (by omega)).mpr (by omega))]
    exact bad (fun w => by rw [hlk w, elk]; show ¬ 3 = 0; decide)
  | none =>
    rw [c1] at elk
    rw [show resI none = -1 from rfl, if_neg (show ¬ (0 : Int32) ≤ -1 by decide), fld_S E4 pq.1 pq.2, xhb_s]
    by_cases c2 : bp T N (j + 1 + 1) - pos T N (j + 1) = 1 ∧ isl (ck h4 N (pos T N (j + 1))) = true ∧ 0 < cfz P N h4 (pos T N (j + 1))
    · rw [if_neg (b01_dp c2)]
      simp only [if_pos c2] at elk
      exact bad (fun w => by rw [hlk w, elk]; show ¬ 3 = 0; decide)
    · rw [if_pos (b01_dn c2), thg_S E4 pq.1 pq.2, xhb_s]
      simp only [if_neg c2] at elk
      cases c3 : tfz P h4 (pos T N (j + 1)) (bp T N (j + 1 + 1)) with
      | some t =>
        rw [c3] at elk
        have ht := fsz_lt c3
        have t1 := E4.ro.t1
        rw [show resI (some t) = nI t from rfl, if_neg (nI_neg (by omega))]
        refine bad (fun w => ?_)
        rw [hlk w, elk]
        show ¬ (if mv_a h4 (P + 6) t = 0 then (1, (mv_a h4 (P + 3) t).toNatClampNeg) else (2, (mv_a h4 (P + 3) t).toNatClampNeg)).1 = 0
        split
        · show ¬ 1 = 0; decide
        · show ¬ 2 = 0; decide
      | none =>
        rw [c3] at elk
        rw [show resI none = -1 from rfl, if_pos (show (-1 : Int32) < 0 by decide)]
        obtain ⟨lr, hlr, hlr2, hlr3⟩ := Q.le0
        have e36 : mv_i (rB P N h4 (j4 + 1) v5) P 36 = nI lr := (rB_o _ _ (by omega)).trans (i36.trans hlr)
        rw [e36]
        have hL5 := Q.ln
        -- the let stands
        have fin : ∀ (h6 : mv_H) (b6 : Bool), ESq P N T lk b6 d h6 m4 → XFr P m4 h4 h6 → (b6 = true → b4 = true ∧ lr < 64) → (¬ b6 = true → on b4 (if (lk ((txT T N).nm (j + 1))).1 = 0 ∧ le < 64 then some (j4 + 1, updK lk ((txT T N).nm (j + 1)) (3, w4), le + 1) else none) = none) → SOq P N T d j m h true (on b4 (if (lk ((txT T N).nm (j + 1))).1 = 0 ∧ le < 64 then some (j4 + 1, updK lk ((txT T N).nm (j + 1)) (3, w4), le + 1) else none)) (f_Book_letStatement_95 P (nI (pos T N (j + 1))) (nI (bp T N (j + 1 + 1))) (nI x4) (rB P N h6 (j4 + 1) v5)) := fun h6 b6 E6 X6 hb6 hn6 => by
          have q35 : mv_i h6 P 35 = nI (mv_i h P 35).toNatClampNeg := by rw [X6.L.1, i35]; exact E.ro.l0
          have q36 : mv_i h6 P 36 = nI lr := X6.L.2.1.trans (i36.trans hlr)
          generalize hLdef : (mv_i h P 35).toNatClampNeg = L at q35 hL5 F4
          have hL : L < 4100 := by omega
          have hb7 : byt7 h6 := byt7_row ((X6.a 71 (by omega)).trans a71) Q.b7
          have ew : mv_a h6 (P + 23) x4 = nI w4 := (X6.w x4 xm4).trans R4.wx
          obtain ⟨lk', hlk', E7⟩ := ltH_S E6 hb7 (L := L) (lr := lr) q35 hL pq.1 pq.2 hw4 b6 (fun w => ⟨w, by rw [← en, hlk (hb6 w).1, elk], R4.ps (hb6 w).1⟩) E6.fa (by
            cases b6 with
            | false => exact Or.inr rfl
            | true => exact Or.inl (lkP_upd E.lp ⟨R4.ps (hb6 rfl).1, hw4⟩ _))
          obtain ⟨h8, e8, E8, X8, w8⟩ := nN E7 h4m 14 (nI lr) (nI x4) 0 (w := 0) (by omega) (j4 + 1) v5
          have Fl := ltH_fr (P := P) (h := h6) (L := L) lr (pos T N (j + 1)) (bp T N (j + 1 + 1)) (nI w4)
          have z35 : mv_i h8 P 35 = nI (L + 1) := X8.L.1.trans (by rw [ltH_i, if_neg (by omega), if_pos ⟨rfl, rfl⟩])
          have z36 : mv_i h8 P 36 = nI (lr + 1) := X8.L.2.1.trans (by rw [ltH_i, if_pos ⟨rfl, rfl⟩])
          unfold f_Book_letStatement_95
          have r35 : mv_i (rB P N h6 (j4 + 1) v5) P 35 = nI L := (rB_o _ _ (by omega)).trans q35
          have r36 : mv_i (rB P N h6 (j4 + 1) v5) P 36 = nI lr := (rB_o _ _ (by omega)).trans q36
          have ewb : mv_a (rB P N h6 (j4 + 1) v5) (P + 23) x4 = nI w4 := ew
          have s35 : ∀ g o k x, mv_i (mv_sa g o k x) = mv_i g := fun _ _ _ _ => rfl
          simp only [xk_s, s35, r35, r36]
          have s23 : mv_a (mv_sa (mv_sa (rB P N h6 (j4 + 1) v5) (P + 14) (nI L).toNatClampNeg (nI (pos T N (j + 1)))) (P + 15) (nI L).toNatClampNeg (nI (bp T N (j + 1 + 1)))) (P + 23) (nI x4).toNatClampNeg = nI w4 := by
            rw [cln (show x4 < 2147483648 by omega)]
            exact (mv_u_ne (mv_a (mv_sa (rB P N h6 (j4 + 1) v5) (P + 14) (nI L).toNatClampNeg (nI (pos T N (j + 1))))) _ (by omega)).trans ((mv_u_ne (mv_a (rB P N h6 (j4 + 1) v5)) _ (by omega)).trans ewb)
          rw [s23, xvi_n hL (by decide), xvi_n (show x4 < 33000 by omega) (by decide)]
          simp only [cond_true]
          have t35 : ∀ g x, mv_i (mv_si g P 35 x) P 36 = mv_i g P 36 := fun g x => mv_u_ne (mv_i g) _ (by omega)
          have t36 : ∀ g x, mv_i (mv_si g P 36 x) P 36 = x := fun g x => mv_u_same (mv_i g) P 36 x
          simp only [t36, t35, s35, r36]
          rw [nI1 (by omega), nI1 (by omega), cln (by omega), rB_sa (by omega), rB_sa (by omega), rB_sa (by omega), rB_sa (by omega), rB_si (by omega), rB_si (by omega)]
          have e1 : nI (lr + 1) - 1 = nI lr := nIsub (a := lr + 1) (b := 1) (by omega) (by omega)
          rw [e1]
          show SOq P N T d j m h true _ (xhb (f_Book_node P (rB P N (ltH P L lr (pos T N (j + 1)) (bp T N (j + 1 + 1)) (nI w4) h6) (j4 + 1) v5) 14 (nI lr) (nI x4) 0 (nI 0)) _)
          rw [e8, xhb_s]
          have FF : SFr P L h h8 := ((F4.trans X6.s (Nat.le_refl _)).trans Fl (Nat.le_refl _)).trans X8.s (Nat.le_refl _)
          have SQ8 : SQq P N T lk' (le + 1) b6 d h8 (m4 + 1) (j4 + 1) := ⟨
            E8,
            n10,
            FF.b7 hP Q.b7,
            ⟨lr + 1, z36, by omega, fun w => by rw [hlr3 (hb41 (hb6 w).1)]⟩,
            by rw [z35, cln (by omega)]; omega,
            G5,
            by omega,
            by rw [FF.i P 17 (by omega), FF.a (P + 6) (by omega)]; exact Q.f6⟩
          refine Or.inr ⟨b6, j4 + 1, lk', le + 1, nI m4, h8, v5, m4 + 1, rfl, ?_, ⟨SQ8, by rw [hLdef]; exact FF, by omega, by omega, by omega, by rw [z35, hLdef, cln (by omega)]; omega, by rw [z35, hLdef, cln (by omega)]; omega⟩, ⟨m4, rfl, by omega⟩⟩
          cases b6 with
          | false => rw [hn6 (by decide)]; rfl
          | true =>
            obtain ⟨b41, hl64⟩ := hb6 rfl
            rw [b41, if_pos ⟨by rw [hlk b41, elk], by rw [← hlr3 (hb41 b41)]; exact hl64⟩, hlk' rfl, en]
        by_cases c4 : lr < 64
        · rw [if_pos (show nI lr < (64 : Int32) from Int32.not_le.mp (fun z => by have := (nIle (a := 64) (by omega) (by omega)).mp z; omega))]
          exact fin h4 b4 E4 (XFr.refl P m4 h4) (fun w => ⟨w, c4⟩) (fun w => by rw [Bool.eq_false_iff.mpr w]; rfl)
        · rw [if_neg (show ¬ nI lr < (64 : Int32) from fun z => absurd ((nIle (a := 64) (b := lr) (by omega) (by omega)).mpr (by omega)) (Int32.not_le.mpr z))]
          obtain ⟨h6, e6, E6, X6⟩ := fN E4 (k := 6) (by decide) (nI (pos T N (j + 1))) (j4 + 1) v5
          rw [e6, xhv_s]
          refine fin h6 false E6 X6 (fun w => by cases w) (fun _ => ?_)
          cases b4 with
          | false => rfl
          | true => rw [if_neg (fun z => c4 (by rw [hlr3 (hb41 rfl)]; exact z.2))]; rfl
end LT2
section ASG
variable {P N : Nat} {T : Nat → Nat} {lk : LK} {le : Nat} {b : Bool} {d m j : Nat} {h : mv_H}
theorem trp_S (Q : SQq P N T lk le b d h m j) (hk : kdT T N j = 208) (v : Int64) : SOq P N T d j m h true (on b (sTr (txT T N) lk le d j)) (xtb (f_Book_pass P (rB P N h j v)) fun u45 g44 => xtb (f_Book_ranged P g44 (1 : Int64) (1000000 : Int64)) fun u47 g46 => xtb (f_Book_need P g46 (59 : Int32)) fun u49 g48 => xhb (f_Book_node P g48 (17 : Int32) u47 (0 : Int32) (0 : Int32) (0 : Int32)) fun u51 g50 => some (some u51, g50)) := by
  have E := Q.es
  have H := E.hb
  have hmj := Q.mj
  unfold sTr
  rcases pS H Q.gk (by omega) (by omega) v with ⟨p1, G1, v1, e1⟩ | ⟨p1, g, e1⟩
  rotate_left
  · rw [e1, xtb_n, gd_f p1]; exact Or.inl ⟨g, rfl, on_none _⟩
  rw [e1, xtb_s, gd_t p1, show (1 : Int64) = nJ 1 from rfl, show (1000000 : Int64) = nJ 1000000 from rfl]
  rcases rng_S E G1 (lo := 1) (hi := 1000000) (by omega) (by omega) v1 with ⟨k2, G2, s2, v2, h2, b2, x, e2, E2, X2, hr⟩ | ⟨s2, g, e2⟩
  rotate_left
  · rw [e2, xtb_n, s2]; exact Or.inl ⟨g, rfl, on_none _⟩
  rw [e2, xtb_s, s2, Option.bind_some]
  have H2 := E2.hb
  rcases ndS H2 G2 (c := 59) (k := 59) (by omega) (H2.ch (c := 59) G2 (by omega) (by omega)) v2 with ⟨k3, p3, G3, s3, v3, e3⟩ | ⟨s3, g, e3⟩
  rotate_left
  · rw [e3, xtb_n, show ndq (txT T N) d (j + 2) 59 = none from s3]; exact Or.inl ⟨g, rfl, on_none _⟩
  rw [e3, xtb_s, show ndq (txT T N) d (j + 2) 59 = some () from s3, Option.bind_some]
  have hjb := gk_n E2 G3
  have n10 := Q.n10
  obtain ⟨h4, e4, E4, X4, w4⟩ := nN E2 (show m < 33000 by omega) 17 x 0 0 (w := 0) (by omega) (j + 1 + 1 + 1) v3
  show SOq P N T d j m h true _ (xhb (f_Book_node P (rB P N h2 (j + 1 + 1 + 1) v3) 17 x 0 0 (nI 0)) _)
  rw [e4, xhb_s]
  have XX := X2.trans X4 (Nat.le_refl _)
  have hb2 : b2 = true → b = true := fun w => by
    rcases hr with hr | hr
    · rw [← hr.2.2.1]; exact w
    · rw [hr.2.1] at w; cases w
  refine Or.inr ⟨b2, j + 3, lk, le, nI m, h4, v3, m + 1, rfl, ?_, ⟨Q.x (L := 0) hb2 E4 XX.L.1 XX.L.2.1 XX.s G3 (by omega) (by omega), XX.s, by omega, by omega, by omega, by rw [XX.L.1]; omega, by rw [XX.L.1]; omega⟩, ⟨m, rfl, by omega⟩⟩
  rcases hr with hr | hr
  · rw [if_pos ⟨hr.1, hr.2.1⟩, hr.2.2.1]
  · rw [if_neg hr.1, hr.2.1, on_none]; rfl
/-- the = and what is behind it. j the name's token, k its kind due, i the = -/
theorem as2_S (kS : Nat → mv_H → Option (Option Int32 × mv_H)) {j0 m0 : Nat} {h0 : mv_H} {i : Nat} (Q : SQq P N T lk le b d h m i) (hj0 : j0 < i) (Gj : gkT T N j0) (hkj : kdT T N j0 = 3) (F0 : SFr P (mv_i h0 P 35).toNatClampNeg h0 h) (q35 : mv_i h P 35 = mv_i h0 P 35) (hc0 : m + j0 ≤ m0 + i) (hm0 : m0 ≤ m) {f : Bool} (x3 : Int32) (v : Int64) :
    SOq P N T d j0 m0 h0 true (on b (sA2 (txT T N) lk le d j0 (bif f then 2 else 1) i)) (f_Book_statement_142 P kS (nI (pos T N j0)) (nI (bp T N (j0 + 1))) x3 (b01 f) (rB P N h i v)) := by
  have E := Q.es
  have H := E.hb
  have hmj := Q.mj
  have n10 := Q.n10
  have pq := name_pq E Gj
  have en := nm_tn E Gj hkj
  unfold f_Book_statement_142 sA2 sE8
  have hd := H.d2
  rcases ndS H Q.gk (c := 61) (k := 61) (by omega) (H.ch (c := 61) Q.gk (by omega) (by omega)) v with ⟨k3, p3, G3, s3, v3, e3⟩ | ⟨s3, g, e3⟩
  rotate_left
  · rw [e3, xtb_n, s3]; exact Or.inl ⟨g, rfl, on_none _⟩
  have hd := ps_d p3
  rw [e3, xtb_s, s3, Option.bind_some]
  rcases xRq P N T lk 868 0 0 0 d (i + 1) _ b m v3 (F868 (by omega)) E G3 (by omega) (pre0 T N 0 0 _ (Or.inl rfl)) with ⟨g, e4, s4⟩ | ⟨b4, j4, w4, x4, h4, v4, m4, e4, s4, R4⟩
  · rw [e4, xtb_n, on_bind, s4]; exact Or.inl ⟨g, rfl, rfl⟩
  rw [e4, xtb_s, on_bind, s4]
  simp only [on_s]
  have E4 := R4.es
  have H4 := E4.hb
  rcases ndS H4 R4.gk (c := 59) (k := 59) (by omega) (H4.ch (c := 59) R4.gk (by omega) (by omega)) v4 with ⟨k5, p5, G5, s5, v5, e5⟩ | ⟨s5, g, e5⟩
  rotate_left
  · rw [e5, xtb_n, s5]; exact Or.inl ⟨g, rfl, on_none _⟩
  rw [e5, xtb_s, s5, Option.bind_some, let_S E4 pq.1 pq.2, xhb_s]
  have hc4 := R4.cnt
  have hj4 := R4.jj
  have hm4 := R4.mm
  have xm4 := R4.xm
  have hw4 := R4.w2
  have hjb := gk_n E4 G5
  have h4m : m4 < 33000 := by omega
  have X4 := R4.fr
  have hb41 : b4 = true → b = true := fun w => on_mono s4 w
  have hlk : b4 = true → lk ((txT T N).nm j0) = lkQ P N h4 (pos T N j0) (bp T N (j0 + 1)) := fun w => by rw [en]; exact (E4.ev w _ _ pq.1 pq.2).symm
  -- a node behind h6
  have fin : ∀ (h6 h8 : mv_H) (b6 : Bool), XFr P m4 h4 h6 → ESq P N T lk b6 d h8 (m4 + 1) → XFr P m4 h6 h8 → (b6 = true → b4 = true) → SRq P N T lk le b6 d j0 (j4 + 1) m0 (m4 + 1) h0 h8 := fun h6 h8 b6 X6 E8 X8 hb6 => by
    have XX := (X4.trans X6 hm4).trans X8 hm4
    have z35 : mv_i h8 P 35 = mv_i h0 P 35 := XX.L.1.trans q35
    exact ⟨Q.x (L := 0) (fun w => hb41 (hb6 w)) E8 XX.L.1 XX.L.2.1 XX.s G5 (by omega) (by omega), F0.trans XX.s (Nat.le_refl _), by omega, by omega, by omega, by rw [z35]; omega, by rw [z35]; omega⟩
  have bad : (b4 = true → ¬ lk ((txT T N).nm j0) = (bif f then 2 else 1, w4)) → SOq P N T d j0 m0 h0 true (on b4 (if lk ((txT T N).nm j0) = (bif f then 2 else 1, w4) then some (j4 + 1, lk, le) else none)) (f_Book_statement_213 P kS (nI (pos T N j0)) (rB P N h4 (j4 + 1) v5)) := fun hz => by
    obtain ⟨h6, e6, E6, X6⟩ := fN E4 (k := 2) (by decide) (nI (pos T N j0)) (j4 + 1) v5
    obtain ⟨h7, e7, E7, X7, w7⟩ := nN E6 h4m 13 0 0 0 (w := 0) (by omega) (j4 + 1) v5
    unfold f_Book_statement_213
    rw [e6, xhv_s]
    show SOq P N T d j0 m0 h0 true _ (xhb (f_Book_node P (rB P N h6 (j4 + 1) v5) 13 0 0 0 (nI 0)) _)
    rw [e7, xhb_s]
    refine Or.inr ⟨false, j4 + 1, lk, le, nI m4, h7, v5, m4 + 1, rfl, ?_, fin h6 h7 false X6 E7 X7 (fun w => by cases w), ⟨m4, rfl, by omega⟩⟩
    cases b4 with
    | false => rfl
    | true => rw [if_neg (hz rfl)]; rfl
  have elk : lkQ P N h4 (pos T N j0) (bp T N (j0 + 1)) = match lfz P h4 (pos T N j0) (bp T N (j0 + 1)) with
      | some i => (3, (mv_a h4 (P + 16) i).toNatClampNeg)
      | none => if bp T N (j0 + 1) - pos T N j0 = 1 ∧ isl (ck h4 N (pos T N j0)) = true ∧ 0 < cfz P N h4 (pos T N j0) then (3, cfz P N h4 (pos T N j0)) else match tfz P h4 (pos T N j0) (bp T N (j0 + 1)) with
        | some i => if mv_a h4 (P + 6) i = 0 then (1, (mv_a h4 (P + 3) i).toNatClampNeg) else (2, (mv_a h4 (P + 3) i).toNatClampNeg)
        | none => (0, 0) := rfl
  have b194 : (b4 = true → ¬ lk ((txT T N).nm j0) = (bif f then 2 else 1, w4)) → SOq P N T d j0 m0 h0 true (on b4 (if lk ((txT T N).nm j0) = (bif f then 2 else 1, w4) then some (j4 + 1, lk, le) else none)) (f_Book_statement_184 P kS (nI (pos T N j0)) x3 (b01 f) (mv_i (rB P N h i v) P 5) (nI x4) (rB P N h4 (j4 + 1) v5)) := fun hz => by
    unfold f_Book_statement_184 f_Book_statement_194
    rw [if_pos (show (-1 : Int32) < 0 by decide)]
    exact bad hz
  have kf : ∀ c : Nat, (bif f then 2 else 1) = c → c = 1 ∨ c = 2 := fun c e => by cases f <;> (simp at e; omega)
  cases c1 : lfz P h4 (pos T N j0) (bp T N (j0 + 1)) with
  | some t =>
    rw [c1] at elk
    have hi := fsz_lt c1
    have l1 := E4.ro.l1
    rw [show resI (some t) = nI t from rfl, if_pos (show (0 : Int32) ≤ nI t from (nIle (a := 0) (by omega) (by omega)).mpr (by omega))]
    exact b194 (fun w z => by rw [hlk w, elk] at z; have := kf 3 (congrArg Prod.fst z).symm; omega)
  | none =>
    rw [c1] at elk
    rw [show resI none = -1 from rfl, if_neg (show ¬ (0 : Int32) ≤ -1 by decide), fld_S E4 pq.1 pq.2, xhb_s]
    by_cases c2 : bp T N (j0 + 1) - pos T N j0 = 1 ∧ isl (ck h4 N (pos T N j0)) = true ∧ 0 < cfz P N h4 (pos T N j0)
    · rw [if_neg (b01_dp c2)]
      simp only [if_pos c2] at elk
      exact b194 (fun w z => by rw [hlk w, elk] at z; have := kf 3 (congrArg Prod.fst z).symm; omega)
    · rw [if_pos (b01_dn c2), thg_S E4 pq.1 pq.2, xhb_s]
      simp only [if_neg c2] at elk
      unfold f_Book_statement_194
      cases c3 : tfz P h4 (pos T N j0) (bp T N (j0 + 1)) with
      | none =>
        rw [c3] at elk
        rw [show resI none = -1 from rfl, if_pos (show (-1 : Int32) < 0 by decide)]
        exact bad (fun w z => by rw [hlk w, elk] at z; have := kf 0 (congrArg Prod.fst z).symm; omega)
      | some t =>
        rw [c3] at elk
        have ht := fsz_lt c3
        have t1 := E4.ro.t1
        have t3 := E4.ro.t3 t ht
        have i17 : mv_i h4 P 17 = mv_i h P 17 := X4.i P 17 (by omega)
        have a6 : mv_a h4 (P + 6) = mv_a h (P + 6) := X4.a (P + 6) (by omega)
        have f6 := Q.f6 t (by rw [← i17]; exact ht)
        rw [← a6] at f6
        have ew : mv_a (rB P N h4 (j4 + 1) v5) (P + 3) t = nI (mv_a h4 (P + 3) t).toNatClampNeg := t3.1
        have ef : mv_a (rB P N h4 (j4 + 1) v5) (P + 6) t = mv_a h4 (P + 6) t := rfl
        have ex : mv_a (rB P N h4 (j4 + 1) v5) (P + 23) (nI x4).toNatClampNeg = nI w4 := by rw [cln (by omega)]; exact R4.wx
        rw [show resI (some t) = nI t from rfl, if_neg (nI_neg (by omega)), xvi_n (by omega) (by decide), cond_true, cond_true, cln (by omega), ew, ef, xvi_n (by omega) (by decide), cond_true, ex]
        generalize hwt : (mv_a h4 (P + 3) t).toNatClampNeg = wt at *
        have hwt2 : wt ≤ 64 := t3.2
        -- file as due
        by_cases c4 : mv_a h4 (P + 6) t = b01 f
        rotate_left
        · rw [if_neg c4]
          refine bad (fun w z => ?_)
          rw [hlk w, elk] at z
          have z1 := congrArg Prod.fst z
          rcases f6 with f6 | f6
          · simp only [if_pos f6] at z1
            cases f with
            | false => exact c4 f6
            | true => exact absurd z1 (by decide)
          · have : ¬ mv_a h4 (P + 6) t = 0 := by rw [f6]; decide
            simp only [if_neg this] at z1
            cases f with
            | false => exact absurd z1 (by decide)
            | true => exact c4 f6
        rw [if_pos c4]
        have elk2 : lkQ P N h4 (pos T N j0) (bp T N (j0 + 1)) = (bif f then 2 else 1, wt) := by
          rw [elk]
          cases f with
          | false => simp only [if_pos (show mv_a h4 (P + 6) t = 0 from c4), cond_false, hwt]
          | true => simp only [if_neg (show ¬ mv_a h4 (P + 6) t = 0 by rw [c4]; decide), cond_true, hwt]
        have n286 : ∀ (h6 : mv_H) (b6 : Bool), ESq P N T lk b6 d h6 m4 → XFr P m4 h4 h6 → (b6 = true → b4 = true) → (on b4 (if lk ((txT T N).nm j0) = (bif f then 2 else 1, w4) then some (j4 + 1, lk, le) else none) = on b6 (some (j4 + 1, lk, le))) → SOq P N T d j0 m0 h0 true (on b4 (if lk ((txT T N).nm j0) = (bif f then 2 else 1, w4) then some (j4 + 1, lk, le) else none)) (f_Book_statement_286 P kS x3 (b01 f) (nI x4) (nI t) (rB P N h6 (j4 + 1) v5)) := fun h6 b6 E6 X6 hb6 hs => by
          unfold f_Book_statement_286 f_Book_statement_299
          cases f with
          | false =>
            obtain ⟨h8, e8, E8, X8, w8⟩ := nN E6 h4m 15 (nI t) (nI x4) x3 (w := 0) (by omega) (j4 + 1) v5
            rw [if_pos (show b01 false = 0 from rfl)]
            show SOq P N T d j0 m0 h0 true _ (xhb (f_Book_node P (rB P N h6 (j4 + 1) v5) 15 (nI t) (nI x4) x3 (nI 0)) _)
            rw [e8, xhb_s]
            exact Or.inr ⟨b6, j4 + 1, lk, le, nI m4, h8, v5, m4 + 1, rfl, hs, fin h6 h8 b6 X6 E8 X8 hb6, ⟨m4, rfl, by omega⟩⟩
          | true =>
            obtain ⟨h8, e8, E8, X8, w8⟩ := nN E6 h4m 16 (nI t) (nI x4) x3 (w := 0) (by omega) (j4 + 1) v5
            rw [if_neg (show ¬ b01 true = 0 by decide)]
            show SOq P N T d j0 m0 h0 true _ (xhb (f_Book_node P (rB P N h6 (j4 + 1) v5) 16 (nI t) (nI x4) x3 (nI 0)) _)
            rw [e8, xhb_s]
            exact Or.inr ⟨b6, j4 + 1, lk, le, nI m4, h8, v5, m4 + 1, rfl, hs, fin h6 h8 b6 X6 E8 X8 hb6, ⟨m4, rfl, by omega⟩⟩
        have n254 : ¬ b4 = true → SOq P N T d j0 m0 h0 true (on b4 (if lk ((txT T N).nm j0) = (bif f then 2 else 1, w4) then some (j4 + 1, lk, le) else none)) (f_Book_statement_254 P kS x3 (b01 f) (mv_i (rB P N h i v) P 5) (nI x4) (nI t) (rB P N h4 (j4 + 1) v5)) := fun hb => by
          unfold f_Book_statement_254 f_Book_statement_255
          rw [if_pos rfl]
          exact n286 h4 b4 E4 (XFr.refl P m4 h4) (fun w => w) (by rw [Bool.eq_false_iff.mpr hb]; rfl)
        by_cases c5 : wt = 0
        · rw [if_pos ((nle_0 (by omega)).mpr c5)]
          refine n254 (fun w => ?_)
          have := E.lp ((txT T N).nm j0)
          rw [hlk w, elk2] at this
          have h0' := (this (by cases f; (show ¬ 1 = 0; decide); (show ¬ 2 = 0; decide))).1
          have : 0 < wt := h0'
          omega
        rw [if_neg (fun z => c5 ((nle_0 (by omega)).mp z))]
        by_cases c6 : w4 = 0
        · rw [if_pos ((nle_0 hw4).mpr c6)]
          exact n254 (fun w => by have := R4.ps w; omega)
        rw [if_neg (fun z => c6 ((nle_0 hw4).mp z))]
        unfold f_Book_statement_255
        rw [if_neg (show ¬ (1 : Int32) = 0 by decide), xvi_n (by omega) (by decide), cond_true, xvi_n (by omega) (by decide), cond_true, cln (by omega), ew, ex]
        by_cases c7 : wt = w4
        · rw [if_pos (show nI wt = nI w4 by rw [c7])]
          refine n286 h4 b4 E4 (XFr.refl P m4 h4) (fun w => w) ?_
          cases b4 with
          | false => rfl
          | true => rw [if_pos (by rw [hlk rfl, elk2, c7])]
        · rw [if_neg (fun z => c7 ((nIinj (by omega) (by omega)).mp z))]
          obtain ⟨h6, e6, E6, X6⟩ := fN E4 (k := 4) (by decide) (mv_i (rB P N h i v) P 5) (j4 + 1) v5
          rw [e6, xhv_s]
          refine n286 h6 false E6 X6 (fun w => by cases w) ?_
          cases b4 with
          | false => rfl
          | true => rw [if_neg (fun z => by rw [hlk rfl, elk2] at z; exact c7 (congrArg Prod.snd z))]; rfl
end ASG
def Fs (nn mo d : Nat) : Prop := d ≤ 61 ∧ 3 * (61 - d) + (if mo = 0 then 0 else if mo = 1 then 2 else 1) + 1 ≤ nn
def IHs (P N : Nat) (T : Nat → Nat) (nn : Nat) : Prop := ∀ (mo : Nat) (lk : LK) (le : Nat) (b : Bool) (d : Nat) (h : mv_H) (m j : Nat) (v : Int64), Fs nn mo d → mo ≤ 2 → SQq P N T lk le b d h m j → (mo = 2 → kdT T N j = 209) → SOq P N T d j m h (!Nat.beq mo 0) (on b (sS (txT T N) nn mo lk le d j)) (f_BookS P nn mo (rB P N h j v))
/-- a block leaves the names as they were -/
theorem sKL_lk {X : TX} {R : Nat → LK → Nat → Nat → Nat → Option (Nat × LK × Nat)} {d : Nat} {lk0 : LK} : ∀ (k : Nat) (lk : LK) (le j : Nat) (r : Nat × LK × Nat), sKL X R d lk0 k lk le j = some r → r.2.1 = lk0 := by
  intro k
  induction k with
  | zero => intro lk le j r e; cases e
  | succ k ih =>
    intro lk le j r e
    unfold sKL at e
    by_cases c : X.kd j = 125
    · rw [if_pos c] at e
      cases q : ps X (d + 1) j with
      | false => rw [gd_f q] at e; cases e
      | true => rw [gd_t q] at e; cases e; rfl
    · rw [if_neg c] at e
      cases q : R 1 lk le (d + 1) j with
      | none => rw [q] at e; cases e
      | some t => rw [q] at e; exact ih _ _ _ _ e
theorem sS0_lk {X : TX} {n : Nat} {lk : LK} {le d j : Nat} {r : Nat × LK × Nat} (e : sS X n 0 lk le d j = some r) : r.2.1 = lk := by
  cases n with
  | zero => cases e
  | succ n =>
    have e : sBk X (sS X n) lk le d j = some r := e
    unfold sBk at e
    cases q : ndq X d j 123 with
    | none => rw [q] at e; cases e
    | some t => rw [q] at e; exact sKL_lk _ _ _ _ _ e
section STM
variable {P N : Nat} {T : Nat → Nat}
theorem ESq.fo2 {lk : LK} {b : Bool} {d m : Nat} {h : mv_H} (E : ESq P N T lk b d h m) {o : Nat} (ho : P + 18 ≤ o ∧ o ≤ P + 25 ∧ ¬ o = P + 23) (k : Nat) (x : Int32) : ESq P N T lk b d (mv_sa h o k x) m ∧ XFr P m h (mv_sa h o k x) := by
  have X : XFr P m h (mv_sa h o k x) := ⟨fun _ _ _ => rfl, rfl, rfl, fun o' q => funext fun k' => mv_u_ne (mv_a h) _ (by omega), fun k' _ => mv_u_ne (mv_a h) _ (by omega), fun _ _ => rfl⟩
  exact ⟨E.fr X E.fa (fun w => w) E.nd (fun i h1 h2 => by omega), X⟩
theorem SQq.cg {lk lk' : LK} {le le' : Nat} {b : Bool} {d m j : Nat} {h : mv_H} (Q : SQq P N T lk le b d h m j) (e : b = true → lk' = lk ∧ le' = le) (hp : lkP lk') : SQq P N T lk' le' b d h m j := by
  cases b with
  | true =>
    obtain ⟨e1, e2⟩ := e rfl
    rw [e1, e2]; exact Q
  | false =>
    have E := Q.es
    obtain ⟨lr, h1, h2, h3⟩ := Q.le0
    exact ⟨⟨E.hb, E.fa, E.nd, E.ro, fun w => (by cases w), hp, E.wd⟩, Q.n10, Q.b7, ⟨lr, h1, h2, fun w => (by cases w)⟩, Q.ln, Q.gk, Q.mj, Q.f6⟩
theorem SQq.fo2 {lk : LK} {le : Nat} {b : Bool} {d m j : Nat} {h : mv_H} (Q : SQq P N T lk le b d h m j) {o : Nat} (ho : P + 18 ≤ o ∧ o ≤ P + 25 ∧ ¬ o = P + 23) (k : Nat) (x : Int32) : SQq P N T lk le b d (mv_sa h o k x) m j := by
  have V := Q.es.fo2 ho k x
  exact Q.x (L := 0) (fun w => w) V.1 V.2.L.1 V.2.L.2.1 V.2.s Q.gk (Nat.le_refl _) Q.mj
variable {nn : Nat} (IH : IHs P N T nn)
theorem stm_S (IH : IHs P N T nn) {lk : LK} {le : Nat} {b : Bool} {d m j : Nat} {h : mv_H} (F : Fs (nn + 1) 1 d) (Q : SQq P N T lk le b d h m j) (v : Int64) : SOq P N T d j m h true (on b (sSm (txT T N) (sS (txT T N) nn) lk le d j)) (f_Book_statement P (f_BookS P nn) (rB P N h j v)) := by
  have E := Q.es
  have H := E.hb
  have hmj := Q.mj
  have n10 := Q.n10
  unfold Fs at F
  rw [if_neg (by omega), if_pos rfl] at F
  have eX : ∀ i, (txT T N).kd i = kdT T N i := fun _ => rfl
  have w147 : f_Book_is P (rB P N h j v) 147 = some (b01 (decide (kdT T N j = 207)), rB P N h j v) := is_S H Q.gk (i := 7) (wds (147, 7) (by decide)) (by decide) v
  have w154 : f_Book_is P (rB P N h j v) 154 = some (b01 (decide (kdT T N j = 208)), rB P N h j v) := is_S H Q.gk (i := 8) (wds (154, 8) (by decide)) (by decide) v
  have w155 : f_Book_is P (rB P N h j v) 155 = some (b01 (decide (kdT T N j = 209)), rB P N h j v) := is_S H Q.gk (i := 9) (wds (155, 9) (by decide)) (by decide) v
  unfold f_Book_statement sSm
  rw [w147, xhb_s, eX]
  by_cases k207 : kdT T N j = 207
  · rw [if_neg (b01_dp k207), if_pos k207]
    rcases lts_S Q k207 v with ⟨g, e1, s1⟩ | ⟨b', j', lk', le', x, h', v', m', e1, s1, R1, hx⟩
    · rw [e1, xtb_n, s1]; exact Or.inl ⟨g, rfl, rfl⟩
    · rw [e1, xtb_s, s1]; exact Or.inr ⟨b', j', lk', le', x, h', v', m', rfl, rfl, R1, hx⟩
  rw [if_pos (b01_dn k207), if_neg k207, w154, xhb_s]
  by_cases k208 : kdT T N j = 208
  · rw [if_neg (b01_dp k208), if_pos k208]
    exact trp_S Q k208 v
  rw [if_pos (b01_dn k208), if_neg k208, w155, xhb_s]
  by_cases k209 : kdT T N j = 209
  · rw [if_neg (b01_dp k209), if_pos k209]
    rcases IH 2 lk le b d h m j v (by unfold Fs; rw [if_neg (by omega), if_neg (by omega)]; omega) (by omega) Q (fun _ => k209) with ⟨g, e1, s1⟩ | ⟨b', j', lk', le', x, h', v', m', e1, s1, R1, hx⟩
    · rw [e1, xtb_n, s1]; exact Or.inl ⟨g, rfl, rfl⟩
    · rw [e1, xtb_s, s1]; exact Or.inr ⟨b', j', lk', le', x, h', v', m', rfl, rfl, R1, hx⟩
  rw [if_pos (b01_dn k209), if_neg k209]
  unfold sAs sE8
  rcases name_S E Q.gk v with ⟨k2, G2, p2, s2, v2, e2⟩ | ⟨s2, g, e2⟩
  rotate_left
  · rw [e2, xtb_n, s2]; exact Or.inl ⟨g, rfl, on_none _⟩
  have E2 := E.nmK j
  have H2 := E2.hb
  have hd := ps_d p2
  have e49 : mv_i (rB P N (nmK P N T h j) (j + 1) v2) P 49 = nI (pos T N j) := (rB_o _ _ (by omega)).trans (nmK_49 _)
  have e50 : mv_i (rB P N (nmK P N T h j) (j + 1) v2) P 50 = nI (bp T N (j + 1)) := (rB_o _ _ (by omega)).trans (nmK_50 _)
  rw [e2, xtb_s, s2, Option.bind_some, e49, e50, H2.k4, eX]
  have hch : (tok T N (j + 1)).1 = (91 : Int32) ↔ kdT T N (j + 1) = 91 := H2.ch (c := 91) G2 (by omega) (by omega)
  have i35 : mv_i (nmK P N T h j) P 35 = mv_i h P 35 := nmK_i (by omega) _
  have Q2 : SQq P N T lk le b d (nmK P N T h j) m (j + 1) := Q.x (fun w => w) E2 i35 (nmK_i (by omega) _) (nmK_fr 0 j) G2 (by omega) (by omega)
  by_cases c : kdT T N (j + 1) = 91
  rotate_left
  · rw [if_neg (fun z => c (hch.mp z)), if_neg c]
    unfold f_Book_statement_100
    rw [if_pos rfl]
    exact as2_S (f_BookS P nn) Q2 (by omega) Q.gk k2 (nmK_fr _ _) i35 (by omega) (Nat.le_refl _) (f := false) (-1) v2
  rw [if_pos (hch.mpr c), if_pos c]
  unfold f_Book_statement_100
  rw [if_neg (show ¬ (1 : Int32) = 0 by decide)]
  rcases pS H2 G2 (by omega) (by omega) v2 with ⟨p3, G3, v3, e3⟩ | ⟨p3, g, e3⟩
  rotate_left
  · rw [e3, xtb_n, gd_f p3]; exact Or.inl ⟨g, rfl, on_none _⟩
  rw [e3, xtb_s, gd_t p3, dUp H2 hd, xk_s]
  have E3 := E2.dep (d2 := d + 1) (by omega)
  rcases xRq P N T lk 868 0 0 0 (d + 1) (j + 2) _ b m v3 (F868 (by omega)) E3 G3 (by omega) (pre0 T N 0 0 _ (Or.inl rfl)) with ⟨g, e4, s4⟩ | ⟨b4, j4, w4, x4, h4, v4, m4, e4, s4, R4⟩
  · rw [show j + 1 + 1 = j + 2 from rfl, e4, xtb_n, on_bind, s4]; exact Or.inl ⟨g, rfl, rfl⟩
  rw [show j + 1 + 1 = j + 2 from rfl, e4, xtb_s, on_bind, s4]
  simp only [on_s]
  have E4 := R4.es
  have H4 := E4.hb
  rcases ndS H4 R4.gk (c := 93) (k := 93) (by omega) (H4.ch (c := 93) R4.gk (by omega) (by omega)) v4 with ⟨k5, p5, G5, s5, v5, e5⟩ | ⟨s5, g, e5⟩
  rotate_left
  · rw [e5, xtb_n, s5]; exact Or.inl ⟨g, rfl, on_none _⟩
  rw [e5, xtb_s, s5, Option.bind_some, dDn H4, xk_s]
  have hc4 := R4.cnt
  have hj4 := R4.jj
  have hm4 := R4.mm
  have X5 := R4.fr.dep H2.dp
  have Q5 : SQq P N T lk le b4 d (mv_si h4 P 8 (nI d)) m4 (j4 + 1) := Q2.x (L := 0) (fun w => on_mono s4 w) (E4.dep (by omega)) X5.L.1 X5.L.2.1 X5.s G5 (by omega) (by omega)
  exact as2_S (f_BookS P nn) Q5 (by omega) Q.gk k2 ((nmK_fr _ _).trans X5.s (Nat.le_refl _)) (X5.L.1.trans i35) (by omega) (by omega) (f := true) (nI x4) v5
theorem kl_S (IH : IHs P N T nn) {lk0 : LK} {le0 : Nat} {b0 : Bool} {d m0 j0 : Nat} {h0 : mv_H} (Q0 : SQq P N T lk0 le0 b0 d h0 m0 j0) (hd : d ≤ 60) (F1 : Fs nn 1 (d + 1)) : ∀ (k kk : Nat) (lk : LK) (le j m : Nat) (h : mv_H) (b : Bool) (v : Int64) (x2 x3 : Int32), SQq P N T lk le b (d + 1) h m j → (b = true → b0 = true) → SFr P (mv_i h0 P 35).toNatClampNeg (mv_si h0 P 8 (nI (d + 1))) h → j0 < j → m + j0 ≤ m0 + j → m0 ≤ m → (mv_i h0 P 35).toNatClampNeg ≤ (mv_i h P 35).toNatClampNeg → (x3 = -1 ∨ ∃ xi, x3 = nI xi ∧ xi < m) → 32768 - j < k → 32768 - j < kk →
    SOq P N T d j0 m0 h0 false (on b (sKL (txT T N) (sS (txT T N) nn) d lk0 k lk le j)) (f_Book_block_25 P (f_BookS P nn) kk (nI (mv_i h0 P 35).toNatClampNeg) x2 x3 (rB P N h j v)) := by
  intro k
  induction k with
  | zero => intro kk lk le j m h b v x2 x3 _ _ _ _ _ _ _ _ h1; omega
  | succ k ih =>
    intro kk lk le j m h b v x2 x3 Q hb Fr hj hc hmm hLL hx3 h1 h2
    obtain ⟨kk, rfl⟩ : ∃ q, kk = q + 1 := ⟨kk - 1, by omega⟩
    show SOq P N T d j0 m0 h0 false _ (fF_Book_block_25 P (f_BookS P nn) (f_Book_block_25 P (f_BookS P nn) kk) (nI (mv_i h0 P 35).toNatClampNeg) x2 x3 (rB P N h j v))
    have E := Q.es
    have H := E.hb
    have hP := H.p
    have n10 := Q.n10
    have hjb0 := gk_n E Q.gk
    have hmj := Q.mj
    have eX : (txT T N).kd j = kdT T N j := rfl
    have hch : (tok T N j).1 = (125 : Int32) ↔ kdT T N j = 125 := H.ch (c := 125) Q.gk (by omega) (by omega)
    unfold fF_Book_block_25 sKL
    rw [H.k4, eX]
    have l1 := Q0.es.ro.l1
    by_cases c : kdT T N j = 125
    · rw [if_pos (hch.mpr c), if_pos c]
      rcases ndS H Q.gk (c := 125) (k := 125) (by omega) hch v with ⟨k3, p3, G3, s3, v3, e3⟩ | ⟨s3, g, e3⟩
      rotate_left
      · have hp : ps (txT T N) (d + 1) j = false := by
          unfold ndq gd at s3
          rw [eX, c] at s3
          cases q : ps (txT T N) (d + 1) j with
          | false => rfl
          | true => rw [q] at s3; cases s3
        rw [e3, xtb_n, gd_f hp]; exact Or.inl ⟨g, rfl, on_none _⟩
      rw [e3, xtb_s, gd_t p3, dDn H, xk_s, rB_si (by omega), xk_s]
      have F2 : SFr P (mv_i h0 P 35).toNatClampNeg h0 (mv_si h P 8 (nI d)) := Fr.dep Q0.es.hb.dp
      generalize hh3 : mv_si (mv_si h P 8 (nI d)) P 35 (nI (mv_i h0 P 35).toNatClampNeg) = h3
      have i3 : ∀ k, ¬ k = 35 → mv_i h3 P k = mv_i (mv_si h P 8 (nI d)) P k := fun k hk => by rw [← hh3]; exact mv_u_ne (mv_i (mv_si h P 8 (nI d))) _ (by omega)
      have a3 : ∀ o, mv_a h3 o = mv_a h o := fun o => by rw [← hh3]; rfl
      have z35 : mv_i h3 P 35 = mv_i h0 P 35 := by
        rw [← hh3]
        exact (mv_u_same (mv_i (mv_si h P 8 (nI d))) P 35 _).trans Q0.es.ro.l0.symm
      have F3 : SFr P (mv_i h0 P 35).toNatClampNeg h0 h3 := by
        rw [← hh3]
        exact ⟨fun o k q => (mv_u_ne (mv_i (mv_si h P 8 (nI d))) _ (by omega)).trans (F2.i o k q), F2.l, F2.r, F2.a, F2.q, F2.b⟩
      have j8 : ∀ k, ¬ k = 35 → ¬ k = 8 → mv_i h3 P k = mv_i h P k := fun k h1 h2 => (i3 k h1).trans (mv_u_ne (mv_i h) _ (by omega))
      have R := E.ro
      have R0 := Q0.es.ro
      have rows : ∀ o i, P + 14 ≤ o → o ≤ P + 17 → i < (mv_i h0 P 35).toNatClampNeg → mv_a h3 o i = mv_a h0 o i := fun o i h1 h2 h3' => F3.q o i h1 h2 h3'
      have E3 : ESq P N T lk0 b d h3 m := ⟨
        ⟨by rw [F3.i P 2 (by omega)]; exact Q0.es.hb.n, H.n2, by rw [F3.ckq hP]; exact Q0.es.hb.t, by rw [F3.i P 8 (by omega)]; exact Q0.es.hb.dp, by omega, hP⟩,
        by rw [j8 38 (by omega) (by omega)]; exact E.fa,
        by rw [j8 48 (by omega) (by omega)]; exact E.nd,
        by
          unfold ROq
          rw [z35, F3.i P 17 (by omega), F3.i P 30 (by omega), F3.i P 29 (by omega), F3.a (P + 1) (by omega), F3.a (P + 2) (by omega), F3.a (P + 3) (by omega), F3.a (P + 10) (by omega)]
          refine ⟨R0.l0, R0.l1, fun i hi => ?_, fun i hi => ?_, R0.t0, R0.t1, R0.t2, R0.t3, R0.e0, R0.e1, R0.o0, R0.o1, R0.b0, R0.b1⟩
          · rw [rows (P + 14) i (by omega) (by omega) hi, rows (P + 15) i (by omega) (by omega) hi]; exact R0.l2 i hi
          · rw [rows (P + 16) i (by omega) (by omega) hi]; exact R0.l3 i hi,
        fun w q e q1 q2 => by
          have old := Q0.es.ev (hb w) q e q1 q2
          rw [← old]
          unfold lkQ
          rw [F3.ckq hP, F3.a 71 (by omega), z35, F3.i P 17 (by omega), F3.i P 30 (by omega), F3.i P 29 (by omega), F3.a (P + 1) (by omega), F3.a (P + 2) (by omega), F3.a (P + 3) (by omega), F3.a (P + 10) (by omega), F3.a (P + 13) (by omega), F3.a (P + 6) (by omega)]
          exact lkZ_cg (fun i hi => ⟨rows (P + 14) i (by omega) (by omega) hi, rows (P + 15) i (by omega) (by omega) hi, rows (P + 16) i (by omega) (by omega) hi⟩) q e,
        Q0.es.lp,
        fun i hi => by rw [a3]; exact E.wd i hi⟩
      obtain ⟨lr, hl1, hl2, hl3⟩ := Q.le0
      have Q3 : SQq P N T lk0 le b d h3 m (j + 1) := ⟨
        E3,
        n10,
        F3.b7 hP Q0.b7,
        ⟨lr, by rw [j8 36 (by omega) (by omega)]; exact hl1, by omega, hl3⟩,
        by rw [z35]; have := Q0.ln; omega,
        G3,
        by omega,
        by rw [F3.i P 17 (by omega), F3.a (P + 6) (by omega)]; exact Q0.f6⟩
      exact Or.inr ⟨b, j + 1, lk0, le, x2, h3, v3, m, rfl, rfl, ⟨Q3, F3, by omega, by omega, by omega, by rw [z35]; omega, by rw [z35]; omega⟩, z35⟩
    · rw [if_neg (fun z => c (hch.mp z)), if_neg c]
      rcases IH 1 lk le b (d + 1) h m j v F1 (by omega) Q (fun w => by omega) with ⟨g, e1, s1⟩ | ⟨b', j', lk', le', x, h', v', m', e1, s1, R1, hx⟩
      · rw [e1, xtb_n, on_bind, s1]; exact Or.inl ⟨g, rfl, rfl⟩
      rw [e1, xtb_s, on_bind, s1]
      simp only [on_s]
      obtain ⟨xi, ex, hxi⟩ := hx
      have hj' := R1.jj
      have hc' := R1.cnt
      have hm' := R1.mm
      have hl' := R1.lm
      have hmj' := R1.sq.mj
      have hjb' := gk_n R1.sq.es R1.sq.gk
      have FF : SFr P (mv_i h0 P 35).toNatClampNeg (mv_si h0 P 8 (nI (d + 1))) h' := Fr.trans R1.fr hLL
      have hbb : b' = true → b0 = true := fun w => hb (on_mono s1 w)
      unfold f_Book_block_58
      rcases hx3 with hx3 | ⟨xj, hx3, hxj⟩
      · rw [hx3, if_neg (show ¬ (0 : Int32) ≤ -1 by decide)]
        exact ih kk lk' le' j' m' h' b' v' x x R1.sq hbb FF (by omega) (by omega) (by omega) (by omega) (Or.inr ⟨xi, ex, hxi⟩) (by omega) (by omega)
      · rw [hx3, if_pos (show (0 : Int32) ≤ nI xj from (nIle (a := 0) (by omega) (by omega)).mpr (by omega)), xvi_n (by omega) (by decide), cond_true, cln (by omega), rB_sa (by omega), xk_s]
        have Q4 := R1.sq.fo2 (o := P + 22) (by omega) xj x
        have V := R1.sq.es.fo2 (o := P + 22) (by omega) xj x
        exact ih kk lk' le' j' m' _ b' v' x2 x Q4 hbb (FF.trans V.2.s (Nat.le_refl _)) (by omega) (by omega) (by omega) (by rw [V.2.L.1]; omega) (Or.inr ⟨xi, ex, hxi⟩) (by omega) (by omega)
theorem blk_S (IH : IHs P N T nn) {lk : LK} {le : Nat} {b : Bool} {d m j : Nat} {h : mv_H} (F : Fs (nn + 1) 0 d) (Q : SQq P N T lk le b d h m j) (v : Int64) : SOq P N T d j m h false (on b (sBk (txT T N) (sS (txT T N) nn) lk le d j)) (f_Book_block P (f_BookS P nn) (rB P N h j v)) := by
  have E := Q.es
  have H := E.hb
  have hmj := Q.mj
  unfold Fs at F
  rw [if_pos rfl] at F
  unfold f_Book_block sBk
  rcases ndS H Q.gk (c := 123) (k := 123) (by omega) (H.ch (c := 123) Q.gk (by omega) (by omega)) v with ⟨k3, p3, G3, s3, v3, e3⟩ | ⟨s3, g, e3⟩
  rotate_left
  · rw [e3, xtb_n, s3]; exact Or.inl ⟨g, rfl, on_none _⟩
  have hd := ps_d p3
  rw [e3, xtb_s, s3, Option.bind_some, dUp H hd, xk_s]
  have i35 : mv_i (mv_si h P 8 (nI (d + 1))) P 35 = mv_i h P 35 := mv_u_ne (mv_i h) _ (by omega)
  have i36 : mv_i (mv_si h P 8 (nI (d + 1))) P 36 = mv_i h P 36 := mv_u_ne (mv_i h) _ (by omega)
  have i17 : mv_i (mv_si h P 8 (nI (d + 1))) P 17 = mv_i h P 17 := mv_u_ne (mv_i h) _ (by omega)
  have Q2 : SQq P N T lk le b (d + 1) (mv_si h P 8 (nI (d + 1))) m (j + 1) := ⟨
    E.dep (by omega),
    Q.n10,
    Q.b7,
    by obtain ⟨lr, h1, h2, h3⟩ := Q.le0; exact ⟨lr, by rw [i36]; exact h1, by omega, h3⟩,
    by rw [i35]; have := Q.ln; omega,
    G3,
    by omega,
    by rw [i17]; exact Q.f6⟩
  have e35 : mv_i (rB P N (mv_si h P 8 (nI (d + 1))) (j + 1) v3) P 35 = nI (mv_i h P 35).toNatClampNeg := (rB_o _ _ (by omega)).trans (i35.trans E.ro.l0)
  rw [e35]
  exact kl_S IH Q hd (by unfold Fs; rw [if_neg (by omega), if_pos rfl]; omega) 200000 200000 lk le (j + 1) m _ b v3 (-1) (-1) Q2 (fun w => w) (SFr.refl _ _ _) (by omega) (by omega) (Nat.le_refl _) (by rw [i35]; omega) (Or.inl rfl) (by omega) (by omega)
theorem il_S (IH : IHs P N T nn) {lk : LK} {d m0 j0 : Nat} {h0 : mv_H} (F0 : Fs nn 0 d) : ∀ (k kk : Nat) (le j m : Nat) (h : mv_H) (b : Bool) (v : Int64) (x1 x2 : Int32), SQq P N T lk le b d h m j → kdT T N j = 209 → SFr P (mv_i h0 P 35).toNatClampNeg h0 h → mv_i h P 35 = mv_i h0 P 35 → j0 ≤ j → m + j0 ≤ m0 + j → m0 ≤ m → ((x2 = -1) ∨ ((∃ xi, x1 = nI xi ∧ xi < m) ∧ ∃ xi, x2 = nI xi ∧ xi < m)) → 32768 - j < k → 32768 - j < kk →
    SOq P N T d j0 m0 h0 true (on b (sIL (txT T N) (sS (txT T N) nn) d lk k le j)) (f_Book_ifStatement_4 P (f_BookS P nn) kk x1 x2 (rB P N h j v)) := by
  intro k
  induction k with
  | zero => intro kk le j m h b v x1 x2 _ _ _ _ _ _ _ _ h1; omega
  | succ k ih =>
    intro kk le j m h b v x1 x2 Q hk Fr q35 hj hc hmm hx h1 h2
    obtain ⟨kk, rfl⟩ : ∃ q, kk = q + 1 := ⟨kk - 1, by omega⟩
    show SOq P N T d j0 m0 h0 true _ (fF_Book_ifStatement_4 P (f_BookS P nn) (f_Book_ifStatement_4 P (f_BookS P nn) kk) x1 x2 (rB P N h j v))
    have E := Q.es
    have H := E.hb
    have hP := H.p
    have n10 := Q.n10
    have hmj := Q.mj
    have eX : ∀ i, (txT T N).kd i = kdT T N i := fun _ => rfl
    unfold fF_Book_ifStatement_4 sIL sE8
    rcases pS H Q.gk (by omega) (by omega) v with ⟨p1, G1, v1, e1⟩ | ⟨p1, g, e1⟩
    rotate_left
    · rw [e1, xtb_n, gd_f p1]; exact Or.inl ⟨g, rfl, on_none _⟩
    have hd := ps_d p1
    rw [e1, xtb_s, gd_t p1]
    rcases xRq P N T lk 868 0 0 0 d (j + 1) _ b m v1 (F868 (by omega)) E G1 (by omega) (pre0 T N 0 0 _ (Or.inl rfl)) with ⟨g, e4, s4⟩ | ⟨b4, j4, w4, x4, h4, v4, m4, e4, s4, R4⟩
    · rw [e4, xtb_n, on_bind, s4]; exact Or.inl ⟨g, rfl, rfl⟩
    rw [e4, xtb_s, on_bind, s4]
    simp only [on_s]
    have E4 := R4.es
    have hc4 := R4.cnt
    have hj4 := R4.jj
    have hm4 := R4.mm
    have xm4 := R4.xm
    have hw4 := R4.w2
    have hjb := gk_n E4 R4.gk
    have X4 := R4.fr
    have ex : mv_a (rB P N h4 j4 v4) (P + 23) (nI x4).toNatClampNeg = nI w4 := by rw [cln (by omega)]; exact R4.wx
    rw [xvi_n (by omega) (by decide), cond_true, ex]
    -- the block behind the condition
    have go : ∀ (h5 : mv_H) (b5 : Bool), ESq P N T lk b5 d h5 m4 → XFr P m4 h4 h5 → (b5 = true → b4 = true) → (∀ (f : Unit → Option (Nat × LK × Nat)), on b4 ((gd (Nat.beq w4 1)).bind f) = on b5 (f ())) → SOq P N T d j0 m0 h0 true (on b4 ((gd (Nat.beq w4 1)).bind fun _ => (sS (txT T N) nn 0 lk le d j4).bind fun r => if (txT T N).kd r.1 = 210 then (gd (ps (txT T N) d r.1)).bind fun _ => if (txT T N).kd (r.1 + 1) = 209 then sIL (txT T N) (sS (txT T N) nn) d lk k r.2.2 (r.1 + 1) else sS (txT T N) nn 0 lk r.2.2 d (r.1 + 1) else some (r.1, lk, r.2.2))) (f_Book_ifStatement_36 P (f_BookS P nn) (f_Book_ifStatement_4 P (f_BookS P nn) kk) x1 x2 (nI x4) (rB P N h5 j4 v4)) := fun h5 b5 E5 X5 hb5 hs => by
      rw [hs]
      have XX := X4.trans X5 hm4
      have Q5 : SQq P N T lk le b5 d h5 m4 j4 := Q.x (L := 0) (fun w => on_mono s4 (hb5 w)) E5 XX.L.1 XX.L.2.1 XX.s R4.gk (by omega) (by omega)
      unfold f_Book_ifStatement_36
      rcases IH 0 lk le b5 d h5 m4 j4 v4 F0 (by omega) Q5 (fun w => by omega) with ⟨g, e6, s6⟩ | ⟨b6, j6, lk6, le6, x6, h6, v6, m6, e6, s6, R6, hx6⟩
      · rw [e6, xtb_n, on_bind, s6]; exact Or.inl ⟨g, rfl, rfl⟩
      rw [e6, xtb_s, on_bind, s6]
      simp only [on_s]
      have hj6 := R6.jj
      have hc6 := R6.cnt
      have hm6 := R6.mm
      have hjb6 := gk_n R6.sq.es R6.sq.gk
      have hlk6 : b6 = true → lk6 = lk := fun w => by
        have hb5' := on_mono s6 w
        rw [w, hb5'] at s6
        exact sS0_lk (r := (j6, lk6, le6)) s6
      have Q6 : SQq P N T lk le6 b6 d h6 m6 j6 := R6.sq.cg (fun w => ⟨(hlk6 w).symm, rfl⟩) E.lp
      have q6 : mv_i h6 P 35 = mv_i h0 P 35 := (show mv_i h6 P 35 = mv_i h5 P 35 from hx6).trans (XX.L.1.trans q35)
      have F6 : SFr P (mv_i h0 P 35).toNatClampNeg h0 h6 := (Fr.trans XX.s (Nat.le_refl _)).trans R6.fr (by rw [XX.L.1, q35]; omega)
      obtain ⟨h7, e7, E7, X7, w7⟩ := nN Q6.es (show m6 < 33000 by omega) 18 (nI x4) x6 (-1) (w := 0) (by omega) j6 v6
      show SOq P N T d j0 m0 h0 true _ (xhb (f_Book_node P (rB P N h6 j6 v6) 18 (nI x4) x6 (-1) (nI 0)) _)
      rw [e7, xhb_s]
      -- behind the node: else or not
      have g81 : ∀ (h8 : mv_H) (y : Nat), ESq P N T lk b6 d h8 (m6 + 1) → XFr P m6 h6 h8 → y < m6 + 1 → SOq P N T d j0 m0 h0 true (on b6 (if (txT T N).kd j6 = 210 then (gd (ps (txT T N) d j6)).bind fun _ => if (txT T N).kd (j6 + 1) = 209 then sIL (txT T N) (sS (txT T N) nn) d lk k le6 (j6 + 1) else sS (txT T N) nn 0 lk le6 d (j6 + 1) else some (j6, lk, le6))) (f_Book_ifStatement_81 P (f_BookS P nn) (f_Book_ifStatement_4 P (f_BookS P nn) kk) (nI y) (nI m6) (rB P N h8 j6 v6)) := fun h8 y E8 X8 hy => by
        have Q8 : SQq P N T lk le6 b6 d h8 (m6 + 1) j6 := Q6.x (L := 0) (fun w => w) E8 X8.L.1 X8.L.2.1 X8.s Q6.gk (Nat.le_refl _) (by omega)
        have F8 : SFr P (mv_i h0 P 35).toNatClampNeg h0 h8 := F6.trans X8.s (Nat.le_refl _)
        have q8 : mv_i h8 P 35 = mv_i h0 P 35 := X8.L.1.trans q6
        unfold f_Book_ifStatement_81
        rw [is_S E8.hb Q8.gk (i := 10) (wds (156, 10) (by decide)) (by decide) v6, xhb_s, eX]
        by_cases c : kdT T N j6 = 210
        rotate_left
        · rw [if_pos (b01_dn c), if_neg c]
          exact Or.inr ⟨b6, j6, lk, le6, nI y, h8, v6, m6 + 1, rfl, rfl, ⟨Q8, F8, by omega, by omega, by omega, by rw [q8]; omega, by rw [q8]; omega⟩, ⟨y, rfl, hy⟩⟩
        rw [if_neg (b01_dp c), if_pos c]
        rcases pS E8.hb Q8.gk (by omega) (by omega) v6 with ⟨p9, G9, v9, e9⟩ | ⟨p9, g, e9⟩
        rotate_left
        · rw [e9, xtb_n, gd_f p9]; exact Or.inl ⟨g, rfl, on_none _⟩
        rw [e9, xtb_s, gd_t p9, is_S E8.hb G9 (i := 9) (wds (155, 9) (by decide)) (by decide) v9, xhb_s, eX]
        have Q9 : SQq P N T lk le6 b6 d h8 (m6 + 1) (j6 + 1) := Q8.x (L := 0) (fun w => w) E8 rfl rfl (SFr.refl _ _ _) G9 (by omega) (by omega)
        by_cases c9 : kdT T N (j6 + 1) = 209
        · rw [if_neg (b01_dp c9), if_pos c9]
          exact ih kk le6 (j6 + 1) (m6 + 1) h8 b6 v9 (nI y) (nI m6) Q9 c9 F8 q8 (by omega) (by omega) (by omega) (Or.inr ⟨⟨y, rfl, hy⟩, ⟨m6, rfl, by omega⟩⟩) (by omega) (by omega)
        · rw [if_pos (b01_dn c9), if_neg c9]
          rcases IH 0 lk le6 b6 d h8 (m6 + 1) (j6 + 1) v9 F0 (by omega) Q9 (fun w => by omega) with ⟨g, ea, sa⟩ | ⟨ba, ja, lka, lea, xa, ha, va, ma, ea, sa, Ra, hxa⟩
          · rw [ea, xtb_n, sa]; exact Or.inl ⟨g, rfl, rfl⟩
          rw [ea, xtb_s, sa, xvi_n (by omega) (by decide), cond_true, cln (by omega), rB_sa (by omega), xk_s]
          have hja := Ra.jj
          have hca := Ra.cnt
          have hma := Ra.mm
          have Qa := Ra.sq.fo2 (o := P + 21) (by omega) m6 xa
          have Va := Ra.sq.es.fo2 (o := P + 21) (by omega) m6 xa
          have qa : mv_i (mv_sa ha (P + 21) m6 xa) P 35 = mv_i h0 P 35 := (show mv_i ha P 35 = mv_i h8 P 35 from hxa).trans q8
          exact Or.inr ⟨ba, ja, lka, lea, nI y, _, va, ma, rfl, rfl, ⟨Qa, (F8.trans Ra.fr (by rw [q8]; omega)).trans Va.2.s (Nat.le_refl _), by omega, by omega, by omega, by rw [qa]; omega, by rw [qa]; omega⟩, ⟨y, rfl, by omega⟩⟩
      rcases hx with hx | ⟨⟨xi, ex1, hxi⟩, xj, ex2, hxj⟩
      · rw [hx, if_neg (show ¬ (0 : Int32) ≤ -1 by decide)]
        exact g81 h7 m6 E7 X7 (by omega)
      · rw [ex1, ex2, if_pos (show (0 : Int32) ≤ nI xj from (nIle (a := 0) (by omega) (by omega)).mpr (by omega)), xvi_n (by omega) (by decide), cond_true, cln (by omega), rB_sa (by omega), xk_s, cond_true, rB_sa (by omega), xk_s]
        have V1 := E7.fo2 (o := P + 21) (by omega) xj (nI m6)
        have V2 := V1.1.fo2 (o := P + 25) (by omega) xj (vp_nar .boolean (1 : Int32))
        exact g81 _ xi V2.1 ((X7.trans V1.2 (by omega)).trans V2.2 (by omega)) (by omega)
    by_cases c1 : w4 ≤ 1
    · rw [if_pos (show nI w4 ≤ 1 from (nIle (b := 1) (by omega) (by omega)).mpr c1)]
      refine go h4 b4 E4 (XFr.refl P m4 h4) (fun w => w) (fun f => ?_)
      cases b4 with
      | false => rfl
      | true =>
        have := R4.ps rfl
        have e1 : w4 = 1 := by omega
        rw [e1]; rfl
    · rw [if_neg (show ¬ nI w4 ≤ 1 from fun z => c1 ((nIle (b := 1) (by omega) (by omega)).mp z))]
      obtain ⟨h5, e5, E5, X5⟩ := fN E4 (k := 4) (by decide) (mv_i (rB P N h j v) P 5) j4 v4
      rw [e5, xhv_s]
      refine go h5 false E5 X5 (fun w => by cases w) (fun f => ?_)
      rw [gd_f (nbq (by omega)), on_none]; rfl
/-- an if -/
theorem ifs_S (IH : IHs P N T nn) {lk : LK} {le : Nat} {b : Bool} {d m j : Nat} {h : mv_H} (F : Fs (nn + 1) 2 d) (Q : SQq P N T lk le b d h m j) (hk : kdT T N j = 209) (v : Int64) : SOq P N T d j m h true (on b (sIs (txT T N) (sS (txT T N) nn) lk le d j)) (f_Book_ifStatement P (f_BookS P nn) (rB P N h j v)) := by
  unfold sIs f_Book_ifStatement
  unfold Fs at F
  rw [if_neg (by omega), if_neg (by omega)] at F
  exact il_S IH (by unfold Fs; rw [if_pos rfl]; omega) 200000 200000 le j m h b v (-1) (-1) Q hk (SFr.refl _ _ _) rfl (Nat.le_refl _) (by omega) (Nat.le_refl _) (Or.inl rfl) (by omega) (by omega)
end STM
theorem sS_0 (X : TX) (nn : Nat) (lk : LK) (le d j : Nat) : sS X (nn + 1) 0 lk le d j = sBk X (sS X nn) lk le d j := by rw [sS]; rfl
theorem sS_1 (X : TX) (nn : Nat) (lk : LK) (le d j : Nat) : sS X (nn + 1) 1 lk le d j = sSm X (sS X nn) lk le d j := by rw [sS]; rfl
theorem sS_2 (X : TX) (nn : Nat) (lk : LK) (le d j : Nat) : sS X (nn + 1) 2 lk le d j = sIs X (sS X nn) lk le d j := by rw [sS]; rfl
theorem fBS_0 (P nn : Nat) (h : mv_H) : f_BookS P (nn + 1) 0 h = f_Book_block P (f_BookS P nn) h := by rw [f_BookS]; rfl
theorem fBS_1 (P nn : Nat) (h : mv_H) : f_BookS P (nn + 1) 1 h = f_Book_statement P (f_BookS P nn) h := by rw [f_BookS]; rfl
theorem fBS_2 (P nn : Nat) (h : mv_H) : f_BookS P (nn + 1) 2 h = f_Book_ifStatement P (f_BookS P nn) h := by rw [f_BookS]; rfl
/-- statements of the reference are S's -/
theorem sSq (P N : Nat) (T : Nat → Nat) : ∀ nn, IHs P N T nn := by
  intro nn
  induction nn with
  | zero => intro mo lk le b d h m j v F; unfold Fs at F; omega
  | succ nn IH =>
    intro mo lk le b d h m j v F hmo Q hp
    by_cases c0 : mo = 0
    · subst c0
      rw [sS_0, fBS_0]
      exact blk_S IH F Q v
    by_cases c1 : mo = 1
    · subst c1
      rw [sS_1, fBS_1]
      exact stm_S IH F Q v
    · have c2 : mo = 2 := by omega
      subst c2
      rw [sS_2, fBS_2]
      exact ifs_S IH F Q (hp rfl) v
/-! items of the reference -/
section HB0
variable {P N : Nat} {T : Nat → Nat} {d : Nat} {h : mv_H} (H : HB P N T d h)
theorem HB.te (H : HB P N T d h) : (∀ p, ¬ p < N → T p = 256) ∧ (∀ p, T p ≤ 256) := by
  rw [← H.t]
  exact ⟨fun p z => ck_end h N p z, fun p => ck_lt h N p⟩
theorem HB.num (H : HB P N T d h) {j : Nat} (G : gkT T N j) (hk : kdT T N j = 4) (v : Int64) : mv_l (rB P N h j v) P 9 = nJ ((txT T N).nu j) ∧ (txT T N).nu j < 18446744073709551616 := by
  have := num_tok H.te.1 H.te.2 (j := j) ((kd_num H.lt G.1).mpr hk)
  exact ⟨H.k9 this.1, this.2⟩
theorem HB.gkn (H : HB P N T d h) {j : Nat} (G : gkT T N j) : j ≤ N := by
  have h1 := bp_j H.te.1 H.te.2 j G.2
  have h2 := (bp_bd H.te.1 H.te.2 j).1
  omega
theorem HB.npq (H : HB P N T d h) {j : Nat} (G : gkT T N j) : pos T N j ≤ bp T N (j + 1) ∧ bp T N (j + 1) ≤ N :=
  ⟨(tok_bd H.te.1 H.te.2 (bp_bd H.te.1 H.te.2 j).2.1).1, (bp_bd H.te.1 H.te.2 (j + 1)).1⟩
theorem HB.nmt (H : HB P N T d h) {j : Nat} (G : gkT T N j) (hk : kdT T N j = 3) : (txT T N).nm j = tn T (pos T N j) (bp T N (j + 1) - pos T N j) := by
  show (if (tok T N j).1 = 3 then _ else _) = _
  rw [if_neg (by rw [((kd_nm H.lt G.1).mpr hk).1]; decide)]
/-- a fault, and what it leaves -/
theorem flt0 (m : Nat) {k : Int32} (hk : 0 < k) (a : Int32) (j : Nat) (v : Int64) : ∃ h1, f_Book_fault P (rB P N h j v) k a = some (rB P N h1 j v) ∧ XFr P m h h1 ∧ 0 < mv_i h1 P 38 ∧ mv_i h1 P 48 = mv_i h P 48 ∧ (∀ o, mv_a h1 o = mv_a h o) := by
  obtain ⟨x, y, e, hy⟩ := fault_n P (rB P N h j v) hk a
  refine ⟨mv_si (mv_si h P 37 x) P 38 y, ?_, ?_, ?_, ?_, fun _ => rfl⟩
  · rw [e, rB_si (by omega), rB_si (by omega)]
  · exact ⟨fun o k q => (mv_u_ne (mv_i (mv_si h P 37 x)) _ (by omega)).trans (mv_u_ne (mv_i h) _ (by omega)), rfl, rfl, fun _ _ => rfl, fun _ _ => rfl, fun _ _ => rfl⟩
  · have : mv_i (mv_si (mv_si h P 37 x) P 38 y) P 38 = y := mv_u_same (mv_i (mv_si h P 37 x)) P 38 y
    rw [this]; exact hy
  · exact (mv_u_ne (mv_i (mv_si h P 37 x)) _ (by omega)).trans (mv_u_ne (mv_i h) _ (by omega))
theorem nam0 (H : HB P N T d h) {j : Nat} (G : gkT T N j) (v : Int64) : (kdT T N j = 3 ∧ gkT T N (j + 1) ∧ ps (txT T N) d j = true ∧ ndq (txT T N) d j 3 = some () ∧ ∃ v', f_Book_name P (rB P N h j v) = some (some 0, rB P N (nmK P N T h j) (j + 1) v')) ∨ (ndq (txT T N) d j 3 = none ∧ ∃ g, f_Book_name P (rB P N h j v) = some (none, g)) := by
  have c3 := kd_nm H.lt G.1
  have eX : (txT T N).kd j = kdT T N j := rfl
  have ep : ps (txT T N) d j = true ↔ mv_i h P 8 ≤ 60 ∧ (tok (ck h N) N (j + 1)).2.2.2 = none := by
    unfold ps
    rw [Bool.and_eq_true, Nat.ble_eq, H.le, H.t, ← bkT_n]
    have : (txT T N).bk (j + 1) = bkT T N (j + 1) := rfl
    rw [this]
    cases bkT T N (j + 1) <;> simp
  by_cases k : kdT T N j = 3 ∧ mv_i h P 8 ≤ 60 ∧ (tok (ck h N) N (j + 1)).2.2.2 = none
  · have k1 := c3.mpr k.1
    refine Or.inl ⟨k.1, ⟨by rw [← H.t]; exact k.2.2, fun i hi => ?_⟩, ep.mpr k.2, ?_, ?_⟩
    · by_cases e : i = j
      · rw [e]; exact go_kd G.1 (by omega) (by omega)
      · exact G.2 i (by omega)
    · unfold ndq gd
      rw [eX, ep.mpr k.2, k.1]
      rfl
    · unfold rB
      rw [name_g H.n H.n2 _ (by rw [H.t]; exact k1.1) (by rw [H.t]; exact k1.2) k.2.1 k.2.2]
      unfold nmK nmH
      rw [H.t]
      have ec : ck (mv_si (mv_si h P 49 (nI (pos T N j))) P 50 (nI (bp T N (j + 1)))) N = T := H.t
      rw [ec]
      exact ⟨_, rfl⟩
  · refine Or.inr ⟨?_, ?_⟩
    · unfold ndq gd
      by_cases k3 : kdT T N j = 3
      · have : ps (txT T N) d j = false := Bool.eq_false_iff.mpr (fun w => k ⟨k3, ep.mp w⟩)
        rw [this, Bool.and_false]; rfl
      · rw [eX, nbq k3]; rfl
    · unfold rB
      refine name_b H.n H.n2 _ (fun w => k ⟨c3.mp ⟨by rw [← H.t]; exact w.1, by rw [← H.t]; exact w.2.1⟩, w.2.2.1, w.2.2.2⟩)
/-- a NUMBER in a range: it, or a fault -/
theorem rng0 (H : HB P N T d h) (m : Nat) {j : Nat} (G : gkT T N j) {lo hi : Nat} (hl : lo < 1000000) (hh : hi < 10000000) (v : Int64) : (kdT T N j = 4 ∧ gkT T N (j + 1) ∧ ndq (txT T N) d j 4 = some () ∧ ∃ v' h1 x, f_Book_ranged P (rB P N h j v) (nJ lo) (nJ hi) = some (some x, rB P N h1 (j + 1) v') ∧ XFr P m h h1 ∧ mv_i h1 P 48 = mv_i h P 48 ∧ (∀ o, mv_a h1 o = mv_a h o) ∧ ((lo ≤ (txT T N).nu j ∧ (txT T N).nu j ≤ hi ∧ x = nI ((txT T N).nu j) ∧ h1 = h) ∨ (¬ (lo ≤ (txT T N).nu j ∧ (txT T N).nu j ≤ hi) ∧ 0 < mv_i h1 P 38 ∧ x = -1))) ∨ (ndq (txT T N) d j 4 = none ∧ ∃ g, f_Book_ranged P (rB P N h j v) (nJ lo) (nJ hi) = some (none, g)) := by
  unfold f_Book_ranged
  rcases ndS H G (c := 4) (k := 2) (by omega) (kd_num H.lt G.1) v with ⟨k3, p3, G3, s3, v3, e3⟩ | ⟨s3, g, e3⟩
  rotate_left
  · exact Or.inr ⟨s3, g, by rw [e3, xtb_n]⟩
  obtain ⟨n3, nn3⟩ := H.num G k3 v
  refine Or.inl ⟨k3, G3, s3, v3, ?_⟩
  rw [e3, xtb_s, n3, in_S _ nn3 hl hh, xhb_s]
  by_cases c : lo ≤ (txT T N).nu j ∧ (txT T N).nu j ≤ hi
  · rw [if_neg (b01_dp c), nJi (by omega)]
    exact ⟨h, _, rfl, XFr.refl P m h, rfl, fun _ => rfl, Or.inl ⟨c.1, c.2, rfl, rfl⟩⟩
  · rw [if_pos (b01_dn c)]
    obtain ⟨h0, e0, X0, f0, n0, a0⟩ := flt0 (P := P) (N := N) (h := h) m (k := 3) (by decide) (mv_i (rB P N h j v) P 5) (j + 1) v3
    rw [e0, xhv_s]
    exact ⟨h0, _, rfl, X0, n0, a0, Or.inr ⟨c, f0, rfl⟩⟩
end HB0
/-- THINGS' rows -/
def TRq (N : Nat) (x17 : Int32) (r1 r2 r3 r6 : Nat → Int32) : Prop := (x17 = nI x17.toNatClampNeg) ∧ (x17.toNatClampNeg ≤ 64) ∧ (∀ i, i < x17.toNatClampNeg → r1 i = nI (r1 i).toNatClampNeg ∧ r2 i = nI (r2 i).toNatClampNeg ∧ (r1 i).toNatClampNeg ≤ (r2 i).toNatClampNeg ∧ (r2 i).toNatClampNeg ≤ N) ∧ (∀ i, i < x17.toNatClampNeg → r3 i = nI (r3 i).toNatClampNeg ∧ (r3 i).toNatClampNeg ≤ 64) ∧ (∀ i, i < x17.toNatClampNeg → r6 i = 0 ∨ r6 i = 1)
theorem TRq.t0 {N : Nat} {x17 : Int32} {r1 r2 r3 r6 : Nat → Int32} (h99 : TRq N x17 r1 r2 r3 r6) : x17 = nI x17.toNatClampNeg := h99.1
theorem TRq.t1 {N : Nat} {x17 : Int32} {r1 r2 r3 r6 : Nat → Int32} (h99 : TRq N x17 r1 r2 r3 r6) : x17.toNatClampNeg ≤ 64 := h99.2.1
theorem TRq.t2 {N : Nat} {x17 : Int32} {r1 r2 r3 r6 : Nat → Int32} (h99 : TRq N x17 r1 r2 r3 r6) : ∀ i, i < x17.toNatClampNeg → r1 i = nI (r1 i).toNatClampNeg ∧ r2 i = nI (r2 i).toNatClampNeg ∧ (r1 i).toNatClampNeg ≤ (r2 i).toNatClampNeg ∧ (r2 i).toNatClampNeg ≤ N := h99.2.2.1
theorem TRq.t3 {N : Nat} {x17 : Int32} {r1 r2 r3 r6 : Nat → Int32} (h99 : TRq N x17 r1 r2 r3 r6) : ∀ i, i < x17.toNatClampNeg → r3 i = nI (r3 i).toNatClampNeg ∧ (r3 i).toNatClampNeg ≤ 64 := h99.2.2.2.1
theorem TRq.f6 {N : Nat} {x17 : Int32} {r1 r2 r3 r6 : Nat → Int32} (h99 : TRq N x17 r1 r2 r3 r6) : ∀ i, i < x17.toNatClampNeg → r6 i = 0 ∨ r6 i = 1 := h99.2.2.2.2
def tkZ (t : Nat → Int32) (x17 : Int32) (r1 r2 r3 r6 : Nat → Int32) (q e : Nat) : Nat × Nat := match fsz t x17.toNatClampNeg r1 r2 q e with
  | some i => if r6 i = 0 then (1, (r3 i).toNatClampNeg) else (2, (r3 i).toNatClampNeg)
  | none => (0, 0)
/-- ops' rows: names; and, good, what they say -/
def OPq (N : Nat) (o cb : Nat) (r8 r9 r10 : Nat → Int32) : Prop := (∀ i, i < o → r8 i = nI (r8 i).toNatClampNeg ∧ r9 i = nI (r9 i).toNatClampNeg ∧ (r8 i).toNatClampNeg ≤ (r9 i).toNatClampNeg ∧ (r9 i).toNatClampNeg ≤ N)
theorem OPq.n {N : Nat} {o cb : Nat} {r8 r9 r10 : Nat → Int32} (h99 : OPq N o cb r8 r9 r10) : ∀ i, i < o → r8 i = nI (r8 i).toNatClampNeg ∧ r9 i = nI (r9 i).toNatClampNeg ∧ (r8 i).toNatClampNeg ≤ (r9 i).toNatClampNeg ∧ (r9 i).toNatClampNeg ≤ N := h99
def OVq (T : Nat → Nat) (bits o cb : Nat) (r8 r9 r10 r13 : Nat → Int32) (ops : List (List Nat × List Nat)) : Prop := (ops.length = o) ∧ (∀ i, i < o → (ops.getD i ([], [])).1 = tn T (r8 i).toNatClampNeg ((r9 i).toNatClampNeg - (r8 i).toNatClampNeg)) ∧ (∀ i, i < o → (ops.getD i ([], [])).2.length = bits ∧ r10 i = nI (r10 i).toNatClampNeg ∧ (r10 i).toNatClampNeg + bits ≤ cb ∧ ∀ k, k < bits → r13 ((r10 i).toNatClampNeg + k) = sb ((ops.getD i ([], [])).2.getD k 0) ∧ (ops.getD i ([], [])).2.getD k 0 < 256)
theorem OVq.l {T : Nat → Nat} {bits o cb : Nat} {r8 r9 r10 r13 : Nat → Int32} {ops : List (List Nat × List Nat)} (h99 : OVq T bits o cb r8 r9 r10 r13 ops) : ops.length = o := h99.1
theorem OVq.n {T : Nat → Nat} {bits o cb : Nat} {r8 r9 r10 r13 : Nat → Int32} {ops : List (List Nat × List Nat)} (h99 : OVq T bits o cb r8 r9 r10 r13 ops) : ∀ i, i < o → (ops.getD i ([], [])).1 = tn T (r8 i).toNatClampNeg ((r9 i).toNatClampNeg - (r8 i).toNatClampNeg) := h99.2.1
theorem OVq.c {T : Nat → Nat} {bits o cb : Nat} {r8 r9 r10 r13 : Nat → Int32} {ops : List (List Nat × List Nat)} (h99 : OVq T bits o cb r8 r9 r10 r13 ops) : ∀ i, i < o → (ops.getD i ([], [])).2.length = bits ∧ r10 i = nI (r10 i).toNatClampNeg ∧ (r10 i).toNatClampNeg + bits ≤ cb ∧ ∀ k, k < bits → r13 ((r10 i).toNatClampNeg + k) = sb ((ops.getD i ([], [])).2.getD k 0) ∧ (ops.getD i ([], [])).2.getD k 0 < 256 := h99.2.2
def IQq (P N : Nat) (T : Nat → Nat) (s : SI) (b : Bool) (h : mv_H) (m j : Nat) : Prop := (HB P N T 0 h) ∧ (N ≤ 10240) ∧ (byt7 h) ∧ (fz b (mv_i h P 38)) ∧ (mv_i h P 48 = nI m) ∧ (∀ i, i < m → ∃ w, w ≤ 40000 ∧ mv_a h (P + 23) i = nI w) ∧ (m ≤ j) ∧ (gkT T N j) ∧ (∃ L, mv_i h P 20 = nI L ∧ L ≤ 64 ∧ (b = true → L = s.bits)) ∧ (TRq N (mv_i h P 17) (mv_a h (P + 1)) (mv_a h (P + 2)) (mv_a h (P + 3)) (mv_a h (P + 6))) ∧ (b = true → ∀ q e, q ≤ e → e ≤ N → tkZ (mv_a h 71) (mv_i h P 17) (mv_a h (P + 1)) (mv_a h (P + 2)) (mv_a h (P + 3)) (mv_a h (P + 6)) q e = s.lk (tn T q (e - q))) ∧ (b = true → s.tl.length = (mv_i h P 17).toNatClampNeg) ∧ (b = true → ∀ i, i < s.tl.length → mv_a h (P + 3) i = nI (s.tl.getD i (0, 0, false)).1 ∧ mv_a h (P + 4) i = nI (s.tl.getD i (0, 0, false)).2.1 ∧ (mv_a h (P + 6) i = 0 ↔ (s.tl.getD i (0, 0, false)).2.1 = 0)) ∧ (∃ c, mv_i h P 19 = nI c ∧ c ≤ 65536 ∧ (b = true → c = s.cells)) ∧ (∃ f, mv_i h P 22 = nI f ∧ f ≤ j ∧ (b = true → (f = 0 ↔ s.fe = none))) ∧ (lkP s.lk) ∧ (mv_i h P 29 = nI (mv_i h P 29).toNatClampNeg) ∧ (4 * (mv_i h P 29).toNatClampNeg ≤ j) ∧ (mv_i h P 51 = nI (mv_i h P 51).toNatClampNeg) ∧ ((mv_i h P 51).toNatClampNeg ≤ bp T N j) ∧ (OPq N (mv_i h P 29).toNatClampNeg (mv_i h P 51).toNatClampNeg (mv_a h (P + 8)) (mv_a h (P + 9)) (mv_a h (P + 10))) ∧ (b = true → OVq T s.bits (mv_i h P 29).toNatClampNeg (mv_i h P 51).toNatClampNeg (mv_a h (P + 8)) (mv_a h (P + 9)) (mv_a h (P + 10)) (mv_a h (P + 13)) s.ops)
theorem IQq.hb {P N : Nat} {T : Nat → Nat} {s : SI} {b : Bool} {h : mv_H} {m j : Nat} (h99 : IQq P N T s b h m j) : HB P N T 0 h := h99.1
theorem IQq.n10 {P N : Nat} {T : Nat → Nat} {s : SI} {b : Bool} {h : mv_H} {m j : Nat} (h99 : IQq P N T s b h m j) : N ≤ 10240 := h99.2.1
theorem IQq.b7 {P N : Nat} {T : Nat → Nat} {s : SI} {b : Bool} {h : mv_H} {m j : Nat} (h99 : IQq P N T s b h m j) : byt7 h := h99.2.2.1
theorem IQq.fa {P N : Nat} {T : Nat → Nat} {s : SI} {b : Bool} {h : mv_H} {m j : Nat} (h99 : IQq P N T s b h m j) : fz b (mv_i h P 38) := h99.2.2.2.1
theorem IQq.nd {P N : Nat} {T : Nat → Nat} {s : SI} {b : Bool} {h : mv_H} {m j : Nat} (h99 : IQq P N T s b h m j) : mv_i h P 48 = nI m := h99.2.2.2.2.1
theorem IQq.wd {P N : Nat} {T : Nat → Nat} {s : SI} {b : Bool} {h : mv_H} {m j : Nat} (h99 : IQq P N T s b h m j) : ∀ i, i < m → ∃ w, w ≤ 40000 ∧ mv_a h (P + 23) i = nI w := h99.2.2.2.2.2.1
theorem IQq.mj {P N : Nat} {T : Nat → Nat} {s : SI} {b : Bool} {h : mv_H} {m j : Nat} (h99 : IQq P N T s b h m j) : m ≤ j := h99.2.2.2.2.2.2.1
theorem IQq.gk {P N : Nat} {T : Nat → Nat} {s : SI} {b : Bool} {h : mv_H} {m j : Nat} (h99 : IQq P N T s b h m j) : gkT T N j := h99.2.2.2.2.2.2.2.1
theorem IQq.bt {P N : Nat} {T : Nat → Nat} {s : SI} {b : Bool} {h : mv_H} {m j : Nat} (h99 : IQq P N T s b h m j) : ∃ L, mv_i h P 20 = nI L ∧ L ≤ 64 ∧ (b = true → L = s.bits) := h99.2.2.2.2.2.2.2.2.1
theorem IQq.tr {P N : Nat} {T : Nat → Nat} {s : SI} {b : Bool} {h : mv_H} {m j : Nat} (h99 : IQq P N T s b h m j) : TRq N (mv_i h P 17) (mv_a h (P + 1)) (mv_a h (P + 2)) (mv_a h (P + 3)) (mv_a h (P + 6)) := h99.2.2.2.2.2.2.2.2.2.1
theorem IQq.tv {P N : Nat} {T : Nat → Nat} {s : SI} {b : Bool} {h : mv_H} {m j : Nat} (h99 : IQq P N T s b h m j) : b = true → ∀ q e, q ≤ e → e ≤ N → tkZ (mv_a h 71) (mv_i h P 17) (mv_a h (P + 1)) (mv_a h (P + 2)) (mv_a h (P + 3)) (mv_a h (P + 6)) q e = s.lk (tn T q (e - q)) := h99.2.2.2.2.2.2.2.2.2.2.1
theorem IQq.tc {P N : Nat} {T : Nat → Nat} {s : SI} {b : Bool} {h : mv_H} {m j : Nat} (h99 : IQq P N T s b h m j) : b = true → s.tl.length = (mv_i h P 17).toNatClampNeg := h99.2.2.2.2.2.2.2.2.2.2.2.1
theorem IQq.tt {P N : Nat} {T : Nat → Nat} {s : SI} {b : Bool} {h : mv_H} {m j : Nat} (h99 : IQq P N T s b h m j) : b = true → ∀ i, i < s.tl.length → mv_a h (P + 3) i = nI (s.tl.getD i (0, 0, false)).1 ∧ mv_a h (P + 4) i = nI (s.tl.getD i (0, 0, false)).2.1 ∧ (mv_a h (P + 6) i = 0 ↔ (s.tl.getD i (0, 0, false)).2.1 = 0) := h99.2.2.2.2.2.2.2.2.2.2.2.2.1
theorem IQq.ce {P N : Nat} {T : Nat → Nat} {s : SI} {b : Bool} {h : mv_H} {m j : Nat} (h99 : IQq P N T s b h m j) : ∃ c, mv_i h P 19 = nI c ∧ c ≤ 65536 ∧ (b = true → c = s.cells) := h99.2.2.2.2.2.2.2.2.2.2.2.2.2.1
theorem IQq.fe {P N : Nat} {T : Nat → Nat} {s : SI} {b : Bool} {h : mv_H} {m j : Nat} (h99 : IQq P N T s b h m j) : ∃ f, mv_i h P 22 = nI f ∧ f ≤ j ∧ (b = true → (f = 0 ↔ s.fe = none)) := h99.2.2.2.2.2.2.2.2.2.2.2.2.2.2.1
theorem IQq.lp {P N : Nat} {T : Nat → Nat} {s : SI} {b : Bool} {h : mv_H} {m j : Nat} (h99 : IQq P N T s b h m j) : lkP s.lk := h99.2.2.2.2.2.2.2.2.2.2.2.2.2.2.2.1
theorem IQq.o0 {P N : Nat} {T : Nat → Nat} {s : SI} {b : Bool} {h : mv_H} {m j : Nat} (h99 : IQq P N T s b h m j) : mv_i h P 29 = nI (mv_i h P 29).toNatClampNeg := h99.2.2.2.2.2.2.2.2.2.2.2.2.2.2.2.2.1
theorem IQq.o5 {P N : Nat} {T : Nat → Nat} {s : SI} {b : Bool} {h : mv_H} {m j : Nat} (h99 : IQq P N T s b h m j) : 4 * (mv_i h P 29).toNatClampNeg ≤ j := h99.2.2.2.2.2.2.2.2.2.2.2.2.2.2.2.2.2.1
theorem IQq.c0 {P N : Nat} {T : Nat → Nat} {s : SI} {b : Bool} {h : mv_H} {m j : Nat} (h99 : IQq P N T s b h m j) : mv_i h P 51 = nI (mv_i h P 51).toNatClampNeg := h99.2.2.2.2.2.2.2.2.2.2.2.2.2.2.2.2.2.2.1
theorem IQq.c1 {P N : Nat} {T : Nat → Nat} {s : SI} {b : Bool} {h : mv_H} {m j : Nat} (h99 : IQq P N T s b h m j) : (mv_i h P 51).toNatClampNeg ≤ bp T N j := h99.2.2.2.2.2.2.2.2.2.2.2.2.2.2.2.2.2.2.2.1
theorem IQq.op {P N : Nat} {T : Nat → Nat} {s : SI} {b : Bool} {h : mv_H} {m j : Nat} (h99 : IQq P N T s b h m j) : OPq N (mv_i h P 29).toNatClampNeg (mv_i h P 51).toNatClampNeg (mv_a h (P + 8)) (mv_a h (P + 9)) (mv_a h (P + 10)) := h99.2.2.2.2.2.2.2.2.2.2.2.2.2.2.2.2.2.2.2.2.1
theorem IQq.ov {P N : Nat} {T : Nat → Nat} {s : SI} {b : Bool} {h : mv_H} {m j : Nat} (h99 : IQq P N T s b h m j) : b = true → OVq T s.bits (mv_i h P 29).toNatClampNeg (mv_i h P 51).toNatClampNeg (mv_a h (P + 8)) (mv_a h (P + 9)) (mv_a h (P + 10)) (mv_a h (P + 13)) s.ops := h99.2.2.2.2.2.2.2.2.2.2.2.2.2.2.2.2.2.2.2.2.2
theorem bp_mono {T : Nat → Nat} {N : Nat} (h1 : ∀ p, ¬ p < N → T p = 256) (h2 : ∀ p, T p ≤ 256) : ∀ (k j : Nat), bp T N j ≤ bp T N (j + k) := by
  intro k
  induction k with
  | zero => intro j; exact Nat.le_refl _
  | succ k ih =>
    intro j
    have a := ih j
    have b := (bp_bd h1 h2 (j + k)).2.2
    have c := (tok_bd h1 h2 (bp_bd h1 h2 (j + k)).2.1).1
    show bp T N j ≤ (s_tok T N (pos T N (j + k))).2.1
    omega
/-- from state to state: the rows of names as they were -/
theorem IQq.fr {P N m m' j j' L : Nat} {T : Nat → Nat} {s s' : SI} {b b' : Bool} {h h' : mv_H} (Q : IQq P N T s b h m j) (F : SFr P L h h') (hs : b' = true → s' = s ∧ b = true) (lp : lkP s'.lk) (fa : fz b' (mv_i h' P 38)) (nd : mv_i h' P 48 = nI m') (wd : ∀ i, i < m' → ∃ w, w ≤ 40000 ∧ mv_a h' (P + 23) i = nI w) (mj : m' ≤ j') (gk : gkT T N j') (hj : j ≤ j') : IQq P N T s' b' h' m' j' := by
  have hP := Q.hb.p
  have e8 : mv_i h' P 8 = mv_i h P 8 := F.i P 8 (by omega)
  obtain ⟨L0, l1, l2, l3⟩ := Q.bt
  obtain ⟨c, c1, c2, c3⟩ := Q.ce
  obtain ⟨f, f1, f2, f3⟩ := Q.fe
  exact ⟨
    ⟨by rw [F.i P 2 (by omega)]; exact Q.hb.n, Q.hb.n2, by rw [F.ckq hP]; exact Q.hb.t, by rw [e8]; exact Q.hb.dp, Q.hb.d2, hP⟩,
    Q.n10,
    F.b7 hP Q.b7,
    fa,
    nd,
    wd,
    mj,
    gk,
    ⟨L0, by rw [F.i P 20 (by omega)]; exact l1, l2, fun w => by rw [(hs w).1]; exact l3 (hs w).2⟩,
    by rw [F.i P 17 (by omega), F.a (P + 1) (by omega), F.a (P + 2) (by omega), F.a (P + 3) (by omega), F.a (P + 6) (by omega)]; exact Q.tr,
    fun w => by rw [F.a 71 (by omega), F.i P 17 (by omega), F.a (P + 1) (by omega), F.a (P + 2) (by omega), F.a (P + 3) (by omega), F.a (P + 6) (by omega), (hs w).1]; exact Q.tv (hs w).2,
    fun w => by rw [F.i P 17 (by omega), (hs w).1]; exact Q.tc (hs w).2,
    fun w => by rw [F.a (P + 3) (by omega), F.a (P + 4) (by omega), F.a (P + 6) (by omega), (hs w).1]; exact Q.tt (hs w).2,
    ⟨c, by rw [F.i P 19 (by omega)]; exact c1, c2, fun w => by rw [(hs w).1]; exact c3 (hs w).2⟩,
    ⟨f, by rw [F.i P 22 (by omega)]; exact f1, by omega, fun w => by rw [(hs w).1]; exact f3 (hs w).2⟩,
    lp,
    by rw [F.i P 29 (by omega)]; exact Q.o0,
    by rw [F.i P 29 (by omega)]; have := Q.o5; omega,
    by rw [F.i P 51 (by omega)]; exact Q.c0,
    by
      rw [F.i P 51 (by omega)]
      have := Q.c1
      have := bp_mono Q.hb.te.1 Q.hb.te.2 (j' - j) j
      rw [show j + (j' - j) = j' by omega] at this
      omega,
    by rw [F.i P 29 (by omega), F.i P 51 (by omega), F.a (P + 8) (by omega), F.a (P + 9) (by omega), F.a (P + 10) (by omega)]; exact Q.op,
    fun w => by rw [F.i P 29 (by omega), F.i P 51 (by omega), F.a (P + 8) (by omega), F.a (P + 9) (by omega), F.a (P + 10) (by omega), F.a (P + 13) (by omega), (hs w).1]; exact Q.ov (hs w).2⟩
def IOq (P N : Nat) (T : Nat → Nat) (j : Nat) (Sv : Option (Nat × SI)) (r : Option (Option Int32 × mv_H)) : Prop :=
  (∃ g, r = some (none, g) ∧ Sv = none) ∨ (∃ b' j' s' x h' v' m', r = some (some x, rB P N h' j' v') ∧ Sv = on b' (some (j', s')) ∧ IQq P N T s' b' h' m' j' ∧ j < j')
section FET
variable {P N : Nat} {T : Nat → Nat}
/-- needWord -/
theorem ndWS {d : Nat} {h : mv_H} (H : HB P N T d h) {j : Nat} (G : gkT T N j) {a0 i : Nat} (hw : wrdN a0 = WDN.getD i [] ∧ (st_g a0).2.2.2.length ≤ 1000) (hi : i < 17) (v : Int64) : (kdT T N j = 200 + i ∧ ps (txT T N) d j = true ∧ gkT T N (j + 1) ∧ ndq (txT T N) d j (200 + i) = some () ∧ ∃ v', f_Book_needWord P (rB P N h j v) a0 = some (some 0, rB P N h (j + 1) v')) ∨ (ndq (txT T N) d j (200 + i) = none ∧ ∃ g, f_Book_needWord P (rB P N h j v) a0 = some (none, g)) := by
  have eX : (txT T N).kd j = kdT T N j := rfl
  unfold f_Book_needWord
  rw [is_S H G hw hi v, xhb_s]
  by_cases c : kdT T N j = 200 + i
  · rw [if_neg (b01_dp c)]
    rcases pS H G (by omega) (by omega) v with ⟨h1, h2, v', h3⟩ | ⟨h1, g, h3⟩
    · refine Or.inl ⟨c, h1, h2, ?_, v', ?_⟩
      · unfold ndq gd
        rw [eX, h1, c, Nat.beq_refl]; rfl
      · rw [h3, xtb_s]
    · refine Or.inr ⟨?_, g, ?_⟩
      · unfold ndq gd
        rw [h1, Bool.and_false]; rfl
      · rw [h3, xtb_n]
  · rw [if_pos (b01_dn c)]
    refine Or.inr ⟨?_, _, rfl⟩
    unfold ndq gd
    rw [eX, nbq c]; rfl
theorem thgI {h : mv_H} (H : mv_i h P 17 = mv_i h P 17) (R : TRq N (mv_i h P 17) (mv_a h (P + 1)) (mv_a h (P + 2)) (mv_a h (P + 3)) (mv_a h (P + 6))) (hn : N ≤ 32768) {q e : Nat} (hq : q ≤ e) (he : e ≤ N) (j : Nat) (v : Int64) : f_Book_thing P (rB P N h j v) (nI q) (nI e) = some (resI (tfz P h q e), rB P N h j v) := by
  exact thing_n (h := rB P N h j v) (N := (mv_i h P 17).toNatClampNeg) (S := fun i => (mv_a h (P + 1) i).toNatClampNeg) (E := fun i => (mv_a h (P + 2) i).toNatClampNeg) ((rB_o j v (by omega)).trans R.t0) (by have := R.t1; omega) (fun i hi => by have := R.t2 i hi; exact ⟨this.1, this.2.1, this.2.2.1, by omega⟩) hq (by omega)
variable {s : SI} {b : Bool} {h : mv_H} {m j : Nat}
/-- fields of which the state does not speak -/
theorem IQq.si (Q : IQq P N T s b h m j) {k : Nat} (hk : ¬ (k = 2 ∨ k = 8 ∨ k = 38 ∨ k = 48 ∨ k = 20 ∨ k = 17 ∨ k = 19 ∨ k = 22 ∨ k = 29 ∨ k = 51)) (x : Int32) : IQq P N T s b (mv_si h P k x) m j := by
  have ei : ∀ c, ¬ c = k → mv_i (mv_si h P k x) P c = mv_i h P c := fun c hc => mv_u_ne (mv_i h) _ (by omega)
  exact ⟨
    ⟨by rw [ei 2 (by omega)]; exact Q.hb.n, Q.hb.n2, Q.hb.t, by rw [ei 8 (by omega)]; exact Q.hb.dp, Q.hb.d2, Q.hb.p⟩,
    Q.n10,
    Q.b7,
    by rw [ei 38 (by omega)]; exact Q.fa,
    by rw [ei 48 (by omega)]; exact Q.nd,
    Q.wd,
    Q.mj,
    Q.gk,
    by rw [ei 20 (by omega)]; exact Q.bt,
    by rw [ei 17 (by omega)]; exact Q.tr,
    by rw [ei 17 (by omega)]; exact Q.tv,
    by rw [ei 17 (by omega)]; exact Q.tc,
    Q.tt,
    by rw [ei 19 (by omega)]; exact Q.ce,
    by rw [ei 22 (by omega)]; exact Q.fe,
    Q.lp,
    by rw [ei 29 (by omega)]; exact Q.o0,
    by rw [ei 29 (by omega)]; exact Q.o5,
    by rw [ei 51 (by omega)]; exact Q.c0,
    by rw [ei 51 (by omega)]; exact Q.c1,
    by rw [ei 29 (by omega), ei 51 (by omega)]; exact Q.op,
    by rw [ei 29 (by omega), ei 51 (by omega)]; exact Q.ov⟩
theorem IQq.s22 (Q : IQq P N T s b h m j) {f : Nat} (hf : f + 1 ≤ j) (p : List Nat × List Nat) : IQq P N T (SI.mk (s.bits) (s.lk) (s.tl) (s.cells) (some p) (s.ops)) b (mv_si h P 22 (nI (f + 1))) m j := by
  have ei : ∀ c, ¬ c = 22 → mv_i (mv_si h P 22 (nI (f + 1))) P c = mv_i h P c := fun c hc => mv_u_ne (mv_i h) _ (by omega)
  exact ⟨
    ⟨by rw [ei 2 (by omega)]; exact Q.hb.n, Q.hb.n2, Q.hb.t, by rw [ei 8 (by omega)]; exact Q.hb.dp, Q.hb.d2, Q.hb.p⟩,
    Q.n10,
    Q.b7,
    by rw [ei 38 (by omega)]; exact Q.fa,
    by rw [ei 48 (by omega)]; exact Q.nd,
    Q.wd,
    Q.mj,
    Q.gk,
    by rw [ei 20 (by omega)]; exact Q.bt,
    by rw [ei 17 (by omega)]; exact Q.tr,
    by rw [ei 17 (by omega)]; exact Q.tv,
    by rw [ei 17 (by omega)]; exact Q.tc,
    Q.tt,
    by rw [ei 19 (by omega)]; exact Q.ce,
    ⟨f + 1, mv_u_same (mv_i h) P 22 _, hf, fun _ => ⟨fun z => by omega, fun z => by cases z⟩⟩,
    Q.lp,
    by rw [ei 29 (by omega)]; exact Q.o0,
    by rw [ei 29 (by omega)]; exact Q.o5,
    by rw [ei 51 (by omega)]; exact Q.c0,
    by rw [ei 51 (by omega)]; exact Q.c1,
    by rw [ei 29 (by omega), ei 51 (by omega)]; exact Q.op,
    by rw [ei 29 (by omega), ei 51 (by omega)]; exact Q.ov⟩
/-- behind a fault or none -/
theorem IQq.fx {m' : Nat} {b' : Bool} {h' : mv_H} (Q : IQq P N T s b h m j) (X : XFr P m' h h') (hb : b' = true → b = true) (fa : fz b' (mv_i h' P 38)) (nd : mv_i h' P 48 = mv_i h P 48) (ha : ∀ o, mv_a h' o = mv_a h o) {j' : Nat} (gk : gkT T N j') (hj : j ≤ j') : IQq P N T s b' h' m j' :=
  Q.fr (L := 0) X.s (fun w => ⟨rfl, hb w⟩) Q.lp fa (nd.trans Q.nd) (fun i hi => by rw [ha]; exact Q.wd i hi) (by have := Q.mj; omega) gk hj
theorem IQq.st (Q : IQq P N T s b h m j) {j' : Nat} (gk : gkT T N j') (hj : j ≤ j') : IQq P N T s b h m j' := Q.fx (XFr.refl P m h) (fun w => w) Q.fa rfl (fun _ => rfl) gk hj
theorem IQq.nmK (Q : IQq P N T s b h m j) (i : Nat) : IQq P N T s b (nmK P N T h i) m j := (Q.si (by omega) _).si (by omega) _
theorem IQq.lkT (Q : IQq P N T s b h m j) (w : b = true) {i : Nat} (G : gkT T N i) (hk : kdT T N i = 3) : s.lk ((txT T N).nm i) = tkZ (mv_a h 71) (mv_i h P 17) (mv_a h (P + 1)) (mv_a h (P + 2)) (mv_a h (P + 3)) (mv_a h (P + 6)) (pos T N i) (bp T N (i + 1)) := by
  rw [Q.hb.nmt G hk]
  exact (Q.tv w _ _ (Q.hb.npq G).1 (Q.hb.npq G).2).symm
/-- a fault where c is not -/
theorem flt1 (Q : IQq P N T s b h m j) (c : Bool) {k : Int32} (hk : 0 < k) (a : Int32) (v : Int64) : ∃ h', (∀ K : mv_H → Option (Option Int32 × mv_H), (bif c then K (rB P N h j v) else xhv (f_Book_fault P (rB P N h j v) k a) K) = K (rB P N h' j v)) ∧ IQq P N T s (b && c) h' m j ∧ XFr P m h h' ∧ (∀ o, mv_a h' o = mv_a h o) := by
  cases c with
  | true => exact ⟨h, fun K => rfl, by rw [Bool.and_true]; exact Q, XFr.refl P m h, fun _ => rfl⟩
  | false =>
    obtain ⟨h0, e0, X0, f0, n0, a0⟩ := flt0 (P := P) (N := N) (h := h) m hk a j v
    refine ⟨h0, fun K => by rw [cond_false, e0, xhv_s], ?_, X0, a0⟩
    rw [Bool.and_false]
    exact Q.fx X0 (fun w => by cases w) (fz_no f0) n0 a0 Q.gk (Nat.le_refl _)
theorem fet_S (Q : IQq P N T s b h m j) (hk : kdT T N j = 204) (v : Int64) : IOq P N T j (on b (sFe (txT T N) s j)) (f_Book_fetch P (rB P N h j v)) := by
  have H := Q.hb
  have hP := H.p
  unfold f_Book_fetch sFe
  rcases pS H Q.gk (by omega) (by omega) v with ⟨p1, G1, v1, e1⟩ | ⟨p1, g, e1⟩
  rotate_left
  · rw [e1, xtb_n, gd_f p1]; exact Or.inl ⟨g, rfl, on_none _⟩
  rw [e1, xtb_s, gd_t p1]
  rcases nam0 H G1 v1 with ⟨k2, G2, p2, s2, v2, e2⟩ | ⟨s2, g, e2⟩
  rotate_left
  · rw [e2, xtb_n, s2]; exact Or.inl ⟨g, rfl, on_none _⟩
  have Q2 := (Q.st G1 (by omega)).nmK (j + 1)
  have H2 := Q2.hb
  have e49 : mv_i (rB P N (nmK P N T h (j + 1)) (j + 1 + 1) v2) P 49 = nI (pos T N (j + 1)) := (rB_o _ _ (by omega)).trans (nmK_49 _)
  have e50 : mv_i (rB P N (nmK P N T h (j + 1)) (j + 1 + 1) v2) P 50 = nI (bp T N (j + 1 + 1)) := (rB_o _ _ (by omega)).trans (nmK_50 _)
  rw [e2, xtb_s, s2, Option.bind_some, e49, e50]
  rcases ndWS H2 G2 (i := 5) (wds (145, 5) (by decide)) (by decide) v2 with ⟨k3, p3, G3, s3, v3, e3⟩ | ⟨s3, g, e3⟩
  rotate_left
  · rw [e3, xtb_n, show ndq (txT T N) 0 (j + 2) 205 = none from s3]; exact Or.inl ⟨g, rfl, on_none _⟩
  rw [e3, xtb_s, show ndq (txT T N) 0 (j + 2) 205 = some () from s3, Option.bind_some]
  rcases nam0 H2 G3 v3 with ⟨k4, G4, p4, s4, v4, e4⟩ | ⟨s4, g, e4⟩
  rotate_left
  · rw [e4, xtb_n, show ndq (txT T N) 0 (j + 3) 3 = none from s4]; exact Or.inl ⟨g, rfl, on_none _⟩
  rw [e4, xtb_s, show ndq (txT T N) 0 (j + 3) 3 = some () from s4, Option.bind_some]
  have Q4 := (Q2.st G3 (by omega)).nmK (j + 1 + 1 + 1)
  have H4 := Q4.hb
  rcases ndS H4 G4 (c := 59) (k := 59) (by omega) (H4.ch (c := 59) G4 (by omega) (by omega)) v4 with ⟨k5, p5, G5, s5, v5, e5⟩ | ⟨s5, g, e5⟩
  rotate_left
  · rw [e5, xtb_n, show ndq (txT T N) 0 (j + 4) 59 = none from s5]; exact Or.inl ⟨g, rfl, on_none _⟩
  rw [e5, xtb_s, show ndq (txT T N) 0 (j + 4) 59 = some () from s5, Option.bind_some]
  have Q5 := Q4.st G5 (by omega)
  have f49 : mv_i (nmK P N T (nmK P N T h (j + 1)) (j + 1 + 1 + 1)) P 49 = nI (pos T N (j + 1 + 1 + 1)) := nmK_49 _
  have f50 : mv_i (nmK P N T (nmK P N T h (j + 1)) (j + 1 + 1 + 1)) P 50 = nI (bp T N (j + 1 + 1 + 1 + 1)) := nmK_50 _
  have h22 : mv_i (nmK P N T (nmK P N T h (j + 1)) (j + 1 + 1 + 1)) P 22 = mv_i h P 22 := (nmK_i (by omega) _).trans (nmK_i (by omega) _)
  have L1 : b = true → _ := fun w => Q5.lkT w G1 k2
  have L2 : b = true → _ := fun w => Q5.lkT w G3 k4
  generalize nmK P N T (nmK P N T h (j + 1)) (j + 1 + 1 + 1) = h5 at *
  generalize hj5 : j + 1 + 1 + 1 + 1 + 1 = j5 at *
  have npq1 := H.npq G1
  have npq2 := H.npq G3
  have hn2 := H.n2
  have r49 : mv_i (rB P N h5 j5 v5) P 49 = nI (pos T N (j + 1 + 1 + 1)) := (rB_o _ _ (by omega)).trans f49
  have r50 : mv_i (rB P N h5 j5 v5) P 50 = nI (bp T N (j + 1 + 1 + 1 + 1)) := (rB_o _ _ (by omega)).trans f50
  rw [thgI rfl Q5.tr hn2 npq1.1 npq1.2, xhb_s, r49, r50, thgI rfl Q5.tr hn2 npq2.1 npq2.2, xhb_s]
  have t1 := Q5.tr.t1
  obtain ⟨f, hf1, hf2, hf3⟩ := Q5.fe
  have hfj : f + 1 ≤ j5 := by
    obtain ⟨f', hf1', hf2', _⟩ := Q.fe
    have := Q.hb.gkn Q.gk
    have := Q.n10
    have hh := Q4.hb.gkn G5
    have e : nI f = nI f' := by
      have i22 : mv_i h5 P 22 = mv_i h P 22 := h22
      rw [← hf1, i22, hf1']
    have := (nIinj (by omega) (by omega)).mp e
    omega
  -- from the two answers on
  have go : ∀ (F O : Bool) (u w : Int32), (b = true → ((F && O && decide (f = 0)) = true ↔ (s.lk ((txT T N).nm (j + 1))).1 = 1 ∧ s.lk ((txT T N).nm (j + 3)) = (2, 8) ∧ s.fe = none)) → IOq P N T j (on b (if (s.lk ((txT T N).nm (j + 1))).1 = 1 ∧ s.lk ((txT T N).nm (j + 3)) = (2, 8) ∧ s.fe = none then some (j5, (SI.mk (s.bits) (s.lk) (s.tl) (s.cells) (some ((txT T N).nm (j + 1), (txT T N).nm (j + 3))) (s.ops))) else none)) (f_Book_fetch_126 P (mv_i (rB P N h j v) P 5) (nI (pos T N (j + 1))) u w (b01 F) (b01 O) (rB P N h5 j5 v5)) := fun F O u w hg => by
    obtain ⟨h6, e6, Q6, X6, a6⟩ := flt1 Q5 F (k := 2) (by decide) (nI (pos T N (j + 1))) v5
    have e6' : f_Book_fetch_126 P (mv_i (rB P N h j v) P 5) (nI (pos T N (j + 1))) u w (b01 F) (b01 O) (rB P N h5 j5 v5) = f_Book_fetch_139 P (mv_i (rB P N h j v) P 5) u w (b01 F) (b01 O) (rB P N h6 j5 v5) := by
      rw [← e6 (f_Book_fetch_139 P (mv_i (rB P N h j v) P 5) u w (b01 F) (b01 O))]
      unfold f_Book_fetch_126
      cases F <;> rfl
    obtain ⟨h7, e7, Q7, X7, a7⟩ := flt1 Q6 O (k := 2) (by decide) (mv_i (rB P N h6 j5 v5) P 49) v5
    have e7' : f_Book_fetch_139 P (mv_i (rB P N h j v) P 5) u w (b01 F) (b01 O) (rB P N h6 j5 v5) = f_Book_fetch_153 P (mv_i (rB P N h j v) P 5) u w (b01 F) (b01 O) (rB P N h7 j5 v5) := by
      rw [← e7 (f_Book_fetch_153 P (mv_i (rB P N h j v) P 5) u w (b01 F) (b01 O))]
      unfold f_Book_fetch_139
      cases O <;> rfl
    have i22 : mv_i h7 P 22 = nI f := (X7.i P 22 (by omega)).trans ((X6.i P 22 (by omega)).trans hf1)
    obtain ⟨h8, e8, Q8, X8, a8⟩ := flt1 Q7 (decide (f = 0)) (k := 6) (by decide) (mv_i (rB P N h j v) P 5) v5
    have e8' : f_Book_fetch_153 P (mv_i (rB P N h j v) P 5) u w (b01 F) (b01 O) (rB P N h7 j5 v5) = f_Book_fetch_167 P u w (b01 F) (b01 O) (rB P N h8 j5 v5) := by
      rw [← e8 (f_Book_fetch_167 P u w (b01 F) (b01 O))]
      unfold f_Book_fetch_153
      rw [rB_o j5 v5 (by omega), i22]
      have hfb : f ≤ 40000 := by have hh := Q4.hb.gkn G5; have := Q.n10; omega
      by_cases c : f = 0
      · rw [if_pos ((nle_0 hfb).mpr c), decide_eq_true c]; rfl
      · rw [if_neg (fun z => c ((nle_0 hfb).mp z)), decide_eq_false c]; rfl
    rw [e6', e7', e8']
    have j22 : mv_i (rB P N h8 j5 v5) P 22 = nI f := (rB_o _ _ (by omega)).trans ((X8.i P 22 (by omega)).trans i22)
    have hfb : f < 2147483647 := by have hh := Q4.hb.gkn G5; have := Q.n10; omega
    unfold f_Book_fetch_167
    rw [j22, nI1 hfb, rB_si (by omega), xk_s]
    have Q9 := Q8.s22 hfj ((txT T N).nm (j + 1), (txT T N).nm (j + 3))
    have hS : on b (if (s.lk ((txT T N).nm (j + 1))).1 = 1 ∧ s.lk ((txT T N).nm (j + 3)) = (2, 8) ∧ s.fe = none then some (j5, (SI.mk (s.bits) (s.lk) (s.tl) (s.cells) (some ((txT T N).nm (j + 1), (txT T N).nm (j + 3))) (s.ops))) else none) = on (b && F && O && decide (f = 0)) (some (j5, (SI.mk (s.bits) (s.lk) (s.tl) (s.cells) (some ((txT T N).nm (j + 1), (txT T N).nm (j + 3))) (s.ops)))) := by
      cases b with
      | false => rfl
      | true =>
        have hg := hg rfl
        rw [Bool.true_and]
        by_cases c : (F && O && decide (f = 0)) = true
        · rw [if_pos (hg.mp c), c]
        · rw [if_neg (fun z => c (hg.mpr z)), Bool.eq_false_iff.mpr c]; rfl
    rw [hS]
    have fin : ∀ h9, IQq P N T (SI.mk (s.bits) (s.lk) (s.tl) (s.cells) (some ((txT T N).nm (j + 1), (txT T N).nm (j + 3))) (s.ops)) (b && F && O && decide (f = 0)) h9 m j5 → IOq P N T j (on (b && F && O && decide (f = 0)) (some (j5, (SI.mk (s.bits) (s.lk) (s.tl) (s.cells) (some ((txT T N).nm (j + 1), (txT T N).nm (j + 3))) (s.ops))))) (some (some 0, rB P N h9 j5 v5)) := fun h9 Q10 =>
      Or.inr ⟨_, j5, _, 0, h9, v5, m, rfl, rfl, Q10, by omega⟩
    split
    · exact fin _ Q9
    · split
      · exact fin _ Q9
      · split
        · exact fin _ Q9
        · rw [rB_si (by omega), xk_s, rB_si (by omega), xk_s]
          exact fin _ ((Q9.si (by omega) _).si (by omega) _)
  have lk1 : b = true → s.lk ((txT T N).nm (j + 1)) = match tfz P h5 (pos T N (j + 1)) (bp T N (j + 1 + 1)) with
      | some i => if mv_a h5 (P + 6) i = 0 then (1, (mv_a h5 (P + 3) i).toNatClampNeg) else (2, (mv_a h5 (P + 3) i).toNatClampNeg)
      | none => (0, 0) := fun w => L1 w
  have lk2 : b = true → s.lk ((txT T N).nm (j + 3)) = match tfz P h5 (pos T N (j + 1 + 1 + 1)) (bp T N (j + 1 + 1 + 1 + 1)) with
      | some i => if mv_a h5 (P + 6) i = 0 then (1, (mv_a h5 (P + 3) i).toNatClampNeg) else (2, (mv_a h5 (P + 3) i).toNatClampNeg)
      | none => (0, 0) := fun w => L2 w
  -- the second name
  have g82 : ∀ (F : Bool) (u : Int32), (b = true → (F = true ↔ (s.lk ((txT T N).nm (j + 1))).1 = 1)) → IOq P N T j (on b (if (s.lk ((txT T N).nm (j + 1))).1 = 1 ∧ s.lk ((txT T N).nm (j + 3)) = (2, 8) ∧ s.fe = none then some (j5, (SI.mk (s.bits) (s.lk) (s.tl) (s.cells) (some ((txT T N).nm (j + 1), (txT T N).nm (j + 3))) (s.ops))) else none)) (f_Book_fetch_82 P (mv_i (rB P N h j v) P 5) (nI (pos T N (j + 1))) u (resI (tfz P h5 (pos T N (j + 1 + 1 + 1)) (bp T N (j + 1 + 1 + 1 + 1)))) (b01 F) (rB P N h5 j5 v5)) := fun F u hF => by
    unfold f_Book_fetch_82
    have hg0 : ∀ O : Bool, (b = true → (O = true ↔ s.lk ((txT T N).nm (j + 3)) = (2, 8))) → (b = true → ((F && O && decide (f = 0)) = true ↔ (s.lk ((txT T N).nm (j + 1))).1 = 1 ∧ s.lk ((txT T N).nm (j + 3)) = (2, 8) ∧ s.fe = none)) := fun O hO w => by
      rw [Bool.and_eq_true, Bool.and_eq_true, hF w, hO w, decide_eq_true_eq, hf3 w]
      exact ⟨fun z => ⟨z.1.1, z.1.2, z.2⟩, fun z => ⟨⟨z.1, z.2.1⟩, z.2.2⟩⟩
    cases c2 : tfz P h5 (pos T N (j + 1 + 1 + 1)) (bp T N (j + 1 + 1 + 1 + 1)) with
    | none =>
      rw [c2] at lk2
      rw [show resI none = -1 from rfl, if_pos (show (-1 : Int32) < 0 by decide)]
      exact go F false u _ (hg0 false (fun w => by rw [lk2 w]; exact ⟨fun z => (by cases z), fun z => by cases z⟩))
    | some t =>
      rw [c2] at lk2
      have ht := fsz_lt c2
      have t3 := Q5.tr.t3 t ht
      have ew : mv_a (rB P N h5 j5 v5) (P + 3) t = nI (mv_a h5 (P + 3) t).toNatClampNeg := t3.1
      have ef : mv_a (rB P N h5 j5 v5) (P + 6) t = mv_a h5 (P + 6) t := rfl
      rw [show resI (some t) = nI t from rfl, if_neg (nI_neg (by omega)), xvi_n (by omega) (by decide), cond_true, cond_true, cln (by omega), ew, ef, cond_true]
      have wpos : b = true → 0 < (mv_a h5 (P + 3) t).toNatClampNeg := fun w => by
        have := Q.lp ((txT T N).nm (j + 3))
        rw [lk2 w] at this
        by_cases c : mv_a h5 (P + 6) t = 0
        · simp only [if_pos c] at this
          exact (this (by decide)).1
        · simp only [if_neg c] at this
          exact (this (by decide)).1
      generalize hwt0 : (mv_a h5 (P + 3) t).toNatClampNeg = wt at *
      by_cases c : mv_a h5 (P + 6) t = 0
      · rw [if_pos c]
        simp only [if_pos c, hwt0] at lk2
        exact go F false u _ (hg0 false (fun w => by rw [lk2 w]; exact ⟨fun z => (by cases z), fun z => absurd (show 1 = 2 from congrArg Prod.fst z) (by decide)⟩))
      · rw [if_neg c]
        simp only [if_neg c, hwt0] at lk2
        have hwt : wt ≤ 64 := t3.2
        by_cases c8 : wt = 8
        · rw [if_pos (show nI wt = 8 by rw [c8]; rfl)]
          exact go F true u _ (hg0 true (fun w => by rw [lk2 w, c8]; exact ⟨fun _ => rfl, fun _ => rfl⟩))
        · rw [if_neg (show ¬ nI wt = 8 from fun z => c8 ((nIinj (b := 8) (by omega) (by omega)).mp z))]
          have nO : ∀ O : Bool, (wt = 0 ∨ O = false) → (b = true → (O = true ↔ s.lk ((txT T N).nm (j + 3)) = (2, 8))) := fun O hO w => by
            rw [lk2 w]
            have := wpos w
            refine ⟨fun z => ?_, fun z => absurd (congrArg Prod.snd z) c8⟩
            rcases hO with hO | hO
            · omega
            · rw [hO] at z; cases z
          by_cases c0 : wt = 0
          · rw [if_pos (show nI wt = 0 by rw [c0]; rfl)]
            exact go F true u _ (hg0 true (nO true (Or.inl c0)))
          · rw [if_neg (show ¬ nI wt = 0 from fun z => c0 ((nIinj (b := 0) (by omega) (by omega)).mp z))]
            exact go F false u _ (hg0 false (nO false (Or.inr rfl)))
  cases c1 : tfz P h5 (pos T N (j + 1)) (bp T N (j + 1 + 1)) with
  | none =>
    rw [c1] at lk1
    rw [show resI none = -1 from rfl, if_pos (show (-1 : Int32) < 0 by decide)]
    exact g82 false _ (fun w => by rw [lk1 w]; exact ⟨fun z => (by cases z), fun z => absurd (show 0 = 1 from z) (by decide)⟩)
  | some t =>
    rw [c1] at lk1
    have ht := fsz_lt c1
    have ef : mv_a (rB P N h5 j5 v5) (P + 6) t = mv_a h5 (P + 6) t := rfl
    rw [show resI (some t) = nI t from rfl, if_neg (nI_neg (by omega)), xvi_n (by omega) (by decide), cond_true, cln (by omega), ef]
    by_cases c : mv_a h5 (P + 6) t = 0
    · rw [if_pos c]
      simp only [if_pos c] at lk1
      exact g82 true _ (fun w => by rw [lk1 w]; exact ⟨fun _ => rfl, fun _ => rfl⟩)
    · rw [if_neg c]
      simp only [if_neg c] at lk1
      exact g82 false _ (fun w => by rw [lk1 w]; exact ⟨fun z => (by cases z), fun z => absurd (show 2 = 1 from z) (by decide)⟩)
end FET
