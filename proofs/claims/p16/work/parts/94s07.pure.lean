/-! rows s68 .. s76 -/
/-! A: the class's reader, a step a turn. Marks: kind, parts over (of [: the file's width), condition -/
def MkA : Type := Nat × Nat × Nat
abbrev MkA.mk (k : Nat) (c : Nat) (q : Nat) : MkA := (k, c, q)
abbrev MkA.k (x : MkA) : Nat := x.1
abbrev MkA.c (x : MkA) : Nat := x.2.1
abbrev MkA.q (x : MkA) : Nat := x.2.2
/-- what stands around an EXPR: its goal (0 let, 1 index, 2 register, 3 cell, 4 condition), the let's name, the width due, the blocks (kind, names before), names, lets, items -/
def OuA : Type := Nat × List Nat × Nat × List (Nat × LK) × LK × Nat × SI
abbrev OuA.mk (gl : Nat) (gn : List Nat) (gw : Nat) (bl : List (Nat × LK)) (lk : LK) (le : Nat) (s : SI) : OuA := (gl, gn, gw, bl, lk, le, s)
abbrev OuA.gl (x : OuA) : Nat := x.1
abbrev OuA.gn (x : OuA) : List Nat := x.2.1
abbrev OuA.gw (x : OuA) : Nat := x.2.2.1
abbrev OuA.bl (x : OuA) : List (Nat × LK) := x.2.2.2.1
abbrev OuA.lk (x : OuA) : LK := x.2.2.2.2.1
abbrev OuA.le (x : OuA) : Nat := x.2.2.2.2.2.1
abbrev OuA.s (x : OuA) : SI := x.2.2.2.2.2.2
/-- mode (0 item, 1 statement, 2 operand, 3 after), token, depth, marks, widths held -/
def CfA : Type := Nat × Nat × Nat × List MkA × List Nat × OuA
abbrev CfA.mk (md : Nat) (j : Nat) (d : Nat) (M : List MkA) (H : List Nat) (o : OuA) : CfA := (md, j, d, M, H, o)
abbrev CfA.md (x : CfA) : Nat := x.1
abbrev CfA.j (x : CfA) : Nat := x.2.1
abbrev CfA.d (x : CfA) : Nat := x.2.2.1
abbrev CfA.M (x : CfA) : List MkA := x.2.2.2.1
abbrev CfA.H (x : CfA) : List Nat := x.2.2.2.2.1
abbrev CfA.o (x : CfA) : OuA := x.2.2.2.2.2
def popS : List MkA → List Nat → Nat → Option (List MkA × List Nat × Nat)
  | [], H, d => some ([], H, d)
  | m :: M, H, d => if m.k = 305 ∨ m.k = 306 then popS M H (d - 1) else if m.k = 307 then (if H.headD 0 = 1 then popS M H (d - 1) else none) else some (m :: M, H, d)
def popB (l : Nat) : List MkA → List Nat → Option (List MkA × List Nat)
  | [], H => some ([], H)
  | m :: M, H => if l ≤ lvq m.k then (tw m.k (H.tail.headD 0) (H.headD 0)).bind fun z => popB l M (z :: H.tail.tail) else some (m :: M, H)
def popC : List MkA → List Nat → Nat → Option (List MkA × List Nat × Nat)
  | [], H, d => some ([], H, d)
  | m :: M, H, d => if m.k = 58 then (if m.q = 1 ∧ H.tail.headD 0 = H.headD 0 then popC M (H.tail.headD 0 :: H.tail.tail) (d - 1) else none) else some (m :: M, H, d)
section AM
variable (X : TX)
/-- [h] or [h:l]: token j is the [ -/
def aPk (j d : Nat) (M : List MkA) (H : List Nat) (o : OuA) : Option CfA :=
  if d < 60 ∧ X.kd (j + 1) = 4 then
    (if X.kd (j + 2) = 58 then (if X.kd (j + 3) = 4 ∧ X.kd (j + 4) = 93 ∧ X.nu (j + 1) < H.headD 0 ∧ X.nu (j + 3) ≤ X.nu (j + 1) then some ⟨3, j + 5, d, M, (X.nu (j + 1) - X.nu (j + 3) + 1) :: H.tail, o⟩ else none)
     else if X.kd (j + 2) = 93 ∧ X.nu (j + 1) < H.headD 0 then some ⟨3, j + 3, d, M, 1 :: H.tail, o⟩ else none)
  else none
/-- the EXPR is over -/
def aFi (j d : Nat) (H : List Nat) (o : OuA) : Option CfA :=
  if o.gl = 1 then (if X.kd j = 93 ∧ X.kd (j + 1) = 61 then some ⟨2, j + 2, d - 1, [], [], (OuA.mk (3) (o.gn) (o.gw) (o.bl) (o.lk) (o.le) (o.s))⟩ else none)
  else if o.gl = 4 then (if H.headD 0 = 1 ∧ d < 60 ∧ X.kd j = 123 then some ⟨1, j + 1, d + 1, [], [], (OuA.mk (o.gl) (o.gn) (o.gw) ((209, o.lk) :: o.bl) (o.lk) (o.le) (o.s))⟩ else none)
  else if o.gl = 0 then (if X.kd j = 59 then some ⟨1, j + 1, d, [], [], (OuA.mk (o.gl) (o.gn) (o.gw) (o.bl) (updK o.lk o.gn (3, H.headD 0)) (o.le + 1) (o.s))⟩ else none)
  else if o.gw = H.headD 0 ∧ X.kd j = 59 then some ⟨1, j + 1, d, [], [], o⟩ else none
/-- an EXPR inside of another is over; m the mark -/
def aGo (m : MkA) (j d : Nat) (M : List MkA) (H : List Nat) (o : OuA) : Option CfA :=
  if m.k = 63 ∧ X.kd j = 58 then some ⟨2, j + 1, d, ⟨58, 0, m.q⟩ :: M, H, o⟩
  else if m.k = 123 ∧ (X.kd j = 44 ∨ X.kd j = 125) then
    (if X.kd j = 44 then some ⟨2, j + 1, d, ⟨123, m.c + 1, 0⟩ :: M, if m.c = 0 then H else (H.tail.headD 0 + H.headD 0) :: H.tail.tail, o⟩
     else if (if m.c = 0 then H.headD 0 else H.tail.headD 0 + H.headD 0) ≤ 64 then some ⟨3, j + 1, d - 1, M, if m.c = 0 then H else (H.tail.headD 0 + H.headD 0) :: H.tail.tail, o⟩ else none)
  else if m.k = 91 ∧ X.kd j = 93 then some ⟨3, j + 1, d - 1, M, m.c :: H.tail, o⟩
  else if m.k = 40 ∧ X.kd j = 41 then some ⟨3, j + 1, d - 1, M, H, o⟩
  else if (m.k = 211 ∨ m.k = 212) ∧ X.kd j = 44 then
    (if X.kd (j + 1) = 4 ∧ X.kd (j + 2) = 41 ∧ 1 ≤ X.nu (j + 1) ∧ X.nu (j + 1) ≤ 64 ∧ H.headD 0 ≤ X.nu (j + 1) then some ⟨3, j + 3, d - 1, M, X.nu (j + 1) :: H.tail, o⟩ else none)
  else if (213 ≤ m.k ∧ m.k ≤ 216) ∧ X.kd j = 44 ∧ m.c = 0 then some ⟨2, j + 1, d, ⟨m.k, 1, 0⟩ :: M, H, o⟩
  else if (213 ≤ m.k ∧ m.k ≤ 216) ∧ X.kd j = 41 ∧ ¬ m.c = 0 then (tw m.k (H.tail.headD 0) (H.headD 0)).bind fun z => some ⟨3, j + 1, d - 1, M, z :: H.tail.tail, o⟩
  else none
/-- behind signs and binaries -/
def aCh (j d : Nat) (M : List MkA) (H : List Nat) (o : OuA) : Option CfA :=
  if X.kd j = 63 then (if d < 60 then some ⟨2, j + 1, d + 1, ⟨63, 0, H.headD 0⟩ :: M, H.tail, o⟩ else none)
  else (popC M H d).bind fun r => match r.1 with
    | [] => aFi X j r.2.2 r.2.1 o
    | m :: M' => aGo X m j r.2.2 M' r.2.1 o
def aAf (j d : Nat) (M : List MkA) (H : List Nat) (o : OuA) : Option CfA :=
  if X.kd j = 91 then aPk X j d M H o
  else (popS M H d).bind fun r => if 0 < lvq (X.kd j) then (popB (lvq (X.kd j)) r.1 r.2.1).bind fun t => some ⟨2, j + 1, r.2.2, ⟨X.kd j, 0, 0⟩ :: t.1, t.2, o⟩
    else (popB 1 r.1 r.2.1).bind fun t => aCh X j r.2.2 t.1 t.2 o
def aOp (j d : Nat) (M : List MkA) (H : List Nat) (o : OuA) : Option CfA :=
  if X.kd j = 45 then (if d < 60 then some ⟨2, j + 1, d + 1, ⟨305, 0, 0⟩ :: M, H, o⟩ else none)
  else if X.kd j = 126 then (if d < 60 then some ⟨2, j + 1, d + 1, ⟨306, 0, 0⟩ :: M, H, o⟩ else none)
  else if X.kd j = 33 then (if d < 60 then some ⟨2, j + 1, d + 1, ⟨307, 0, 0⟩ :: M, H, o⟩ else none)
  else if X.kd j = 40 ∨ X.kd j = 123 then (if d < 60 then some ⟨2, j + 1, d + 1, ⟨X.kd j, 0, 0⟩ :: M, H, o⟩ else none)
  else if X.kd j = 4 then (if X.kd (j + 1) = 39 ∧ X.kd (j + 2) = 4 ∧ 1 ≤ X.nu j ∧ X.nu j ≤ 64 ∧ X.nu (j + 2) < 2 ^ X.nu j then some ⟨3, j + 3, d, M, X.nu j :: H, o⟩ else none)
  else if X.kd j = 3 then
    (if (o.lk (X.nm j)).1 = 2 ∧ X.kd (j + 1) = 91 then (if d < 60 then some ⟨2, j + 2, d + 1, ⟨91, (o.lk (X.nm j)).2, 0⟩ :: M, H, o⟩ else none)
     else if (o.lk (X.nm j)).1 = 3 ∨ (o.lk (X.nm j)).1 = 1 then some ⟨3, j + 1, d, M, (o.lk (X.nm j)).2 :: H, o⟩ else none)
  else if 211 ≤ X.kd j ∧ X.kd j ≤ 216 then (if X.kd (j + 1) = 40 ∧ d < 60 then some ⟨2, j + 2, d + 1, ⟨X.kd j, 0, 0⟩ :: M, H, o⟩ else none)
  else none
def aSt (j d : Nat) (o : OuA) : Option CfA :=
  if X.kd j = 207 then (if X.kd (j + 1) = 3 ∧ X.kd (j + 2) = 61 ∧ (o.lk (X.nm (j + 1))).1 = 0 ∧ o.le < 64 then some ⟨2, j + 3, d, [], [], (OuA.mk (0) (X.nm (j + 1)) (o.gw) (o.bl) (o.lk) (o.le) (o.s))⟩ else none)
  else if X.kd j = 3 then
    (if X.kd (j + 1) = 91 then (if (o.lk (X.nm j)).1 = 2 ∧ d < 60 then some ⟨2, j + 2, d + 1, [], [], (OuA.mk (1) (o.gn) ((o.lk (X.nm j)).2) (o.bl) (o.lk) (o.le) (o.s))⟩ else none)
     else if (o.lk (X.nm j)).1 = 1 ∧ X.kd (j + 1) = 61 then some ⟨2, j + 2, d, [], [], (OuA.mk (2) (o.gn) ((o.lk (X.nm j)).2) (o.bl) (o.lk) (o.le) (o.s))⟩ else none)
  else if X.kd j = 208 then (if X.kd (j + 1) = 4 ∧ X.kd (j + 2) = 59 ∧ 1 ≤ X.nu (j + 1) ∧ X.nu (j + 1) ≤ 1000000 then some ⟨1, j + 3, d, [], [], o⟩ else none)
  else if X.kd j = 209 then some ⟨2, j + 1, d, [], [], (OuA.mk (4) (o.gn) (o.gw) (o.bl) (o.lk) (o.le) (o.s))⟩
  else if X.kd j = 125 then match o.bl with
    | [] => none
    | (k, lk0) :: bl => if k = 206 then some ⟨0, j + 1, d - 1, [], [], (OuA.mk (o.gl) (o.gn) (o.gw) (bl) (lk0) (o.le) (o.s))⟩
      else if k = 209 ∧ X.kd (j + 1) = 210 then
        (if X.kd (j + 2) = 209 then some ⟨2, j + 3, d - 1, [], [], (OuA.mk (4) (o.gn) (o.gw) (bl) (lk0) (o.le) (o.s))⟩
         else if X.kd (j + 2) = 123 then some ⟨1, j + 3, d, [], [], (OuA.mk (o.gl) (o.gn) (o.gw) ((210, lk0) :: bl) (lk0) (o.le) (o.s))⟩ else none)
      else some ⟨1, j + 1, d - 1, [], [], (OuA.mk (o.gl) (o.gn) (o.gw) (bl) (lk0) (o.le) (o.s))⟩
  else none
def aNw (o : OuA) (i k w n : Nat) (z : Bool) (j' : Nat) : Option CfA :=
  if (o.s.lk (X.nm i)).1 = 0 ∧ o.s.tl.length < 64 ∧ o.s.cells + n ≤ 65536 then some ⟨0, j', 0, [], [], (OuA.mk (o.gl) (o.gn) (o.gw) (o.bl) (o.lk) (o.le) ((SI.mk (o.s.bits) (updK o.s.lk (X.nm i) (k, w)) (o.s.tl ++ [(w, n, z)]) (o.s.cells + n) (o.s.fe) (o.s.ops))))⟩ else none
def aIt (j : Nat) (o : OuA) : Option CfA :=
  if X.kd j = 201 then (if X.kd (j + 1) = 3 ∧ X.kd (j + 2) = 58 ∧ X.kd (j + 3) = 4 ∧ X.kd (j + 4) = 59 ∧ 1 ≤ X.nu (j + 3) ∧ X.nu (j + 3) ≤ 64 then aNw X o (j + 1) 1 (X.nu (j + 3)) 0 false (j + 5) else none)
  else if X.kd j = 202 then (if X.kd (j + 1) = 3 ∧ X.kd (j + 2) = 58 ∧ X.kd (j + 3) = 4 ∧ X.kd (j + 4) = 91 ∧ X.kd (j + 5) = 4 ∧ X.kd (j + 6) = 93 ∧ (1 ≤ X.nu (j + 3) ∧ X.nu (j + 3) ≤ 64) ∧ 1 ≤ X.nu (j + 5) ∧ X.nu (j + 5) ≤ 65536 then
    (if X.kd (j + 7) = 203 then (if X.kd (j + 8) = 59 then aNw X o (j + 1) 2 (X.nu (j + 3)) (X.nu (j + 5)) true (j + 9) else none) else if X.kd (j + 7) = 59 then aNw X o (j + 1) 2 (X.nu (j + 3)) (X.nu (j + 5)) false (j + 8) else none) else none)
  else if X.kd j = 204 then (if X.kd (j + 1) = 3 ∧ X.kd (j + 2) = 205 ∧ X.kd (j + 3) = 3 ∧ X.kd (j + 4) = 59 ∧ (o.s.lk (X.nm (j + 1))).1 = 1 ∧ o.s.lk (X.nm (j + 3)) = (2, 8) ∧ o.s.fe = none then some ⟨0, j + 5, 0, [], [], (OuA.mk (o.gl) (o.gn) (o.gw) (o.bl) (o.lk) (o.le) ((SI.mk (o.s.bits) (o.s.lk) (o.s.tl) (o.s.cells) (some (X.nm (j + 1), X.nm (j + 3))) (o.s.ops))))⟩ else none)
  else if X.kd j = 206 then (if X.kd (j + 1) = 3 ∧ X.kd (j + 2) = 5 ∧ X.kd (j + 3) = 123 ∧ ¬ X.nm (j + 1) ∈ o.s.ops.map Prod.fst ∧ o.s.ops.length < 512 ∧ (X.nm (j + 2)).length = o.s.bits then
    some ⟨1, j + 4, 1, [], [], (OuA.mk (o.gl) (o.gn) (o.gw) ([(206, lkO o.s.lk (X.nm (j + 2)))]) (lkO o.s.lk (X.nm (j + 2))) (0) ((SI.mk (o.s.bits) (o.s.lk) (o.s.tl) (o.s.cells) (o.s.fe) (o.s.ops ++ [(X.nm (j + 1), X.nm (j + 2))]))))⟩ else none)
  else none
def aSp (c : CfA) : Option CfA := match c.md with
  | 0 => aIt X c.j c.o
  | 1 => aSt X c.j c.d c.o
  | 2 => aOp X c.j c.d c.M c.H c.o
  | _ => aAf X c.j c.d c.M c.H c.o
/-- where it ends -/
def EndW (c : CfA) (r : Option SI) : Prop := ∀ Q : CfA → Option SI → Prop, (∀ c, aSp X c = none → ¬ (c.md = 0 ∧ X.kd c.j = 1) → Q c none) → (∀ c, (c.md = 0 ∧ X.kd c.j = 1) → Q c (some c.o.s)) → (∀ c c' r, aSp X c = some c' → Q c' r → Q c r) → Q c r
end AM
theorem EndW.rej {X : TX} {c : CfA} (h : aSp X c = none) (h2 : ¬ (c.md = 0 ∧ X.kd c.j = 1)) : EndW X c none := fun _ a _ _ => a c h h2
theorem EndW.fin {X : TX} {c : CfA} (h : c.md = 0 ∧ X.kd c.j = 1) : EndW X c (some c.o.s) := fun _ _ b _ => b c h
theorem EndW.go {X : TX} {c c' : CfA} {r : Option SI} (h : aSp X c = some c') (t : EndW X c' r) : EndW X c r := fun Q a b d => d c c' r h (t Q a b d)
theorem EndW.inv {X : TX} {c : CfA} {r : Option SI} (t : EndW X c r) : (aSp X c = none ∧ ¬ (c.md = 0 ∧ X.kd c.j = 1) ∧ r = none) ∨ ((c.md = 0 ∧ X.kd c.j = 1) ∧ r = some c.o.s) ∨ ∃ c', aSp X c = some c' ∧ EndW X c' r :=
  (t (fun c r => EndW X c r ∧ ((aSp X c = none ∧ ¬ (c.md = 0 ∧ X.kd c.j = 1) ∧ r = none) ∨ ((c.md = 0 ∧ X.kd c.j = 1) ∧ r = some c.o.s) ∨ ∃ c', aSp X c = some c' ∧ EndW X c' r))
    (fun _ h h2 => ⟨EndW.rej h h2, Or.inl ⟨h, h2, rfl⟩⟩) (fun _ h => ⟨EndW.fin h, Or.inr (Or.inl ⟨h, rfl⟩)⟩) (fun _ c' _ h t => ⟨EndW.go h t.1, Or.inr (Or.inr ⟨c', h, t.1⟩)⟩)).2
section AM2
variable {X : TX}
theorem EndW.eq {c c' : CfA} {r : Option SI} (e : aSp X c = aSp X c') (h1 : ¬ c.md = 0) (h2 : ¬ c'.md = 0) (t : EndW X c' r) : EndW X c r := by
  rcases EndW.inv t with ⟨h, h2, er⟩ | ⟨h, er⟩ | ⟨c9, h, t⟩
  · subst er; exact EndW.rej (e.trans h) (fun w => h1 w.1)
  · subst er; exact absurd h.1 h2
  · exact EndW.go (e.trans h) t
/-- no step is made at a token that is none -/
theorem aGo2 {m : MkA} {j d : Nat} {M : List MkA} {H : List Nat} {o : OuA} (h : X.kd j = 2) : aGo X m j d M H o = none := by
  unfold aGo
  rw [if_neg (by omega), if_neg (by omega), if_neg (by omega), if_neg (by omega), if_neg (by omega), if_neg (by omega), if_neg (by omega)]
theorem aFi2 {j d : Nat} {H : List Nat} {o : OuA} (h : X.kd j = 2) : aFi X j d H o = none := by
  unfold aFi
  split
  · rw [if_neg (by omega)]
  split
  · rw [if_neg (by omega)]
  split
  · rw [if_neg (by omega)]
  · rw [if_neg (by omega)]
theorem aSp2 {c : CfA} (h : X.kd c.j = 2) : aSp X c = none := by
  unfold aSp
  split
  · unfold aIt
    rw [if_neg (by omega), if_neg (by omega), if_neg (by omega), if_neg (by omega)]
  · unfold aSt
    rw [if_neg (by omega), if_neg (by omega), if_neg (by omega), if_neg (by omega), if_neg (by omega)]
  · unfold aOp
    rw [if_neg (by omega), if_neg (by omega), if_neg (by omega), if_neg (by omega), if_neg (by omega), if_neg (by omega), if_neg (by omega)]
  · unfold aAf aCh
    rw [if_neg (by omega)]
    have hl : lvq (X.kd c.j) = 0 := by rw [h]; rfl
    cases popS c.M c.H c.d with
    | none => rfl
    | some r =>
      show (if 0 < lvq (X.kd c.j) then _ else _) = none
      rw [if_neg (by omega)]
      cases popB 1 r.1 r.2.1 with
      | none => rfl
      | some t =>
        show (if X.kd c.j = 63 then _ else _) = none
        rw [if_neg (by omega)]
        cases popC t.1 t.2 r.2.2 with
        | none => rfl
        | some u =>
          show (match u.1 with | [] => _ | m :: M' => _) = none
          split
          · exact aFi2 h
          · exact aGo2 h
theorem EndW.two {c : CfA} (h : X.kd c.j = 2) : EndW X c none := EndW.rej (aSp2 h) (fun w => by omega)
end AM2
section SA
variable {X : TX}
theorem ps_61 {d j : Nat} (h : 61 ≤ d) : ps X d j = false := by
  unfold ps
  have : Nat.ble d 60 = false := by
    cases q : Nat.ble d 60 with
    | false => rfl
    | true => have := Nat.le_of_ble_eq_true q; omega
  rw [this]; rfl
/-- too deep: nothing is read -/
theorem sR_61 {lk : LK} : ∀ (n m a d j : Nat), 61 ≤ d → sR X lk n m a d j = none := by
  intro n
  induction n with
  | zero => intro m a d j _; rfl
  | succ n ih =>
    intro m a d j hd
    have hp := ps_61 (X := X) (j := j) hd
    match m with
    | 0 => show sEx X (sR X lk n) d j = none; unfold sEx; rw [ih 1 0 d j hd]; rfl
    | 1 =>
      show sBi X (sR X lk n) a d j = none
      unfold sBi
      split
      · exact ih 2 0 d j hd
      · rw [ih 1 (a + 1) d j hd]; rfl
    | 2 =>
      show sUn X (sR X lk n) d j = none
      unfold sUn
      split
      · rw [gd_f hp]
      · exact ih 3 0 d j hd
    | 3 => show sPo X (sR X lk n) d j = none; unfold sPo; rw [ih 4 0 d j hd]; rfl
    | 4 =>
      show sPr X (sR X lk n) d j = none
      unfold sPr
      split
      · unfold sLit; rw [gd_f hp]
      split
      · rw [gd_f hp]
      split
      · exact ih 8 0 d j hd
      split
      · exact ih 6 0 d j hd
      split
      · exact ih 7 0 d j hd
      split
      · exact ih 5 0 d j hd
      · rfl
    | 5 => show sNm X lk (sR X lk n) d j = none; unfold sNm; rw [gd_f hp]
    | 6 => show sWi X (sR X lk n) d j = none; unfold sWi; rw [gd_f hp]
    | 7 => show sCa X (sR X lk n) d j = none; unfold sCa; rw [gd_f hp]
    | (k + 8) => show sTo X (sR X lk n) d j = none; unfold sTo; rw [gd_f hp]
def Tp (l : Nat) (M : List MkA) : Prop := ∀ m M', M = m :: M' → ¬ (m.k = 305 ∨ m.k = 306 ∨ m.k = 307) ∧ lvq m.k ≤ l
theorem Tp.cons {l k c q : Nat} (M : List MkA) (h1 : ¬ (k = 305 ∨ k = 306 ∨ k = 307)) (h2 : lvq k ≤ l) : Tp l (⟨k, c, q⟩ :: M) := fun m M' e => by
  cases e; exact ⟨h1, h2⟩
theorem Tp.S {l : Nat} {M : List MkA} (h : Tp l M) (H : List Nat) (d : Nat) : popS M H d = some (M, H, d) := by
  cases M with
  | nil => rfl
  | cons m M =>
    have := (h m M rfl).1
    unfold popS
    rw [if_neg (by omega), if_neg (by omega)]
theorem Tp.B {l k : Nat} {M : List MkA} (h : Tp l M) (hk : l < k) (H : List Nat) : popB k M H = some (M, H) := by
  cases M with
  | nil => rfl
  | cons m M =>
    have := (h m M rfl).2
    unfold popB
    rw [if_neg (by omega)]
theorem lvq_8 (k : Nat) : lvq k ≤ 8 := by
  unfold lvq
  repeat' split
  all_goals omega
theorem lvq_0 {k : Nat} (h : 0 < lvq k) : k ≤ 132 ∧ 37 ≤ k ∧ ¬ k = 91 ∧ ¬ k = 63 ∧ ¬ k = 58 := by
  unfold lvq at h
  repeat' split at h
  all_goals omega
/-- one sign popped is a step no other -/
theorem aft_s {j d k c q w : Nat} {M : List MkA} {H : List Nat} {o : OuA} (hk : k = 305 ∨ k = 306 ∨ k = 307) (h91 : ¬ X.kd j = 91) : aSp X ⟨3, j, d + 1, ⟨k, c, q⟩ :: M, w :: H, o⟩ = if k = 307 ∧ ¬ w = 1 then none else aSp X ⟨3, j, d, M, w :: H, o⟩ := by
  show aAf X j (d + 1) (⟨k, c, q⟩ :: M) (w :: H) o = if k = 307 ∧ ¬ w = 1 then none else aAf X j d M (w :: H) o
  unfold aAf
  rw [if_neg h91, if_neg h91]
  have ep : popS (⟨k, c, q⟩ :: M) (w :: H) (d + 1) = if k = 307 ∧ ¬ w = 1 then none else popS M (w :: H) d := by
    show (if k = 305 ∨ k = 306 then popS M (w :: H) (d + 1 - 1) else if k = 307 then (if w = 1 then popS M (w :: H) (d + 1 - 1) else none) else _) = _
    rcases hk with e | e | e
    · rw [if_pos (Or.inl e), if_neg (by omega), Nat.add_sub_cancel]
    · rw [if_pos (Or.inr e), if_neg (by omega), Nat.add_sub_cancel]
    · rw [if_neg (by omega), if_pos e]
      by_cases z : w = 1
      · rw [if_pos z, if_neg (fun t => t.2 z), Nat.add_sub_cancel]
      · rw [if_neg z, if_pos ⟨e, z⟩]
  rw [ep]
  split <;> rfl
/-- one binary popped -/
theorem aft_b {j d k x y : Nat} {M : List MkA} {H : List Nat} {o : OuA} {l : Nat} (hl : lvq k = l + 1) (h91 : ¬ X.kd j = 91) (hj : lvq (X.kd j) ≤ l + 1) (hM : Tp l M) : aSp X ⟨3, j, d, ⟨k, 0, 0⟩ :: M, y :: x :: H, o⟩ = match tw k x y with
    | none => none
    | some z => aSp X ⟨3, j, d, M, z :: H, o⟩ := by
  have hk := lvq_0 (k := k) (by omega)
  have hT : Tp (l + 1) (⟨k, 0, 0⟩ :: M) := Tp.cons M (by omega) (by omega)
  have e1 : ∀ z H, aSp X ⟨3, j, d, M, z :: H, o⟩ = aAf X j d M (z :: H) o := fun _ _ => rfl
  show aAf X j d (⟨k, 0, 0⟩ :: M) (y :: x :: H) o = _
  have pB : ∀ t, t ≤ l + 1 → popB t (⟨k, 0, 0⟩ :: M) (y :: x :: H) = (tw k x y).bind fun z => popB t M (z :: H) := fun t ht => by
    show (if t ≤ lvq k then (tw k x y).bind fun z => popB t M (z :: H) else _) = _
    rw [if_pos (by omega)]
  unfold aAf
  rw [if_neg h91, hT.S]
  show (if 0 < lvq (X.kd j) then (popB (lvq (X.kd j)) (⟨k, 0, 0⟩ :: M) (y :: x :: H)).bind _ else (popB 1 (⟨k, 0, 0⟩ :: M) (y :: x :: H)).bind _) = _
  rw [pB _ hj, pB 1 (by omega)]
  cases tw k x y with
  | none => split <;> rfl
  | some z =>
    show _ = aAf X j d M (z :: H) o
    unfold aAf
    rw [if_neg h91, hM.S]
    rfl
/-- one choice popped -/
theorem aft_c {j d q y z : Nat} {M : List MkA} {H : List Nat} {o : OuA} (h91 : ¬ X.kd j = 91) (h63 : ¬ X.kd j = 63) (hj : lvq (X.kd j) = 0) (hM : Tp 0 M) : aSp X ⟨3, j, d + 1, ⟨58, 0, q⟩ :: M, z :: y :: H, o⟩ = if q = 1 ∧ y = z then aSp X ⟨3, j, d, M, y :: H, o⟩ else none := by
  have hT : Tp 0 (⟨58, 0, q⟩ :: M) := Tp.cons M (by omega) (by decide)
  show aAf X j (d + 1) (⟨58, 0, q⟩ :: M) (z :: y :: H) o = if q = 1 ∧ y = z then aAf X j d M (y :: H) o else none
  unfold aAf
  rw [if_neg h91, if_neg h91, hT.S, hM.S]
  show (if 0 < lvq (X.kd j) then _ else (popB 1 (⟨58, 0, q⟩ :: M) (z :: y :: H)).bind fun t => aCh X j (d + 1) t.1 t.2 o) = if q = 1 ∧ y = z then (if 0 < lvq (X.kd j) then _ else (popB 1 M (y :: H)).bind fun t => aCh X j d t.1 t.2 o) else none
  rw [if_neg (show ¬ 0 < lvq (X.kd j) by omega), if_neg (show ¬ 0 < lvq (X.kd j) by omega), hT.B (by omega), hM.B (by omega)]
  show aCh X j (d + 1) (⟨58, 0, q⟩ :: M) (z :: y :: H) o = if q = 1 ∧ y = z then aCh X j d M (y :: H) o else none
  unfold aCh
  rw [if_neg h63, if_neg h63]
  have ep : popC (⟨58, 0, q⟩ :: M) (z :: y :: H) (d + 1) = if q = 1 ∧ y = z then popC M (y :: H) d else none := by
    show (if 58 = 58 then (if q = 1 ∧ y = z then popC M (y :: H) (d + 1 - 1) else none) else _) = _
    rw [if_pos rfl, Nat.add_sub_cancel]
  rw [ep]
  split <;> rfl
variable (hbk : ∀ i, X.bk i = true → X.kd i = 2)
theorem ps_c (hbk : ∀ i, X.bk i = true → X.kd i = 2) {d j : Nat} (hd : d ≤ 60) : ps X d j = true ∨ (ps X d j = false ∧ X.kd (j + 1) = 2) := by
  unfold ps
  have : Nat.ble d 60 = true := Nat.ble_eq.mpr hd
  rw [this]
  cases q : X.bk (j + 1) with
  | false => exact Or.inl rfl
  | true => exact Or.inr ⟨rfl, hbk _ q⟩
theorem nd_c (hbk : ∀ i, X.bk i = true → X.kd i = 2) {d j : Nat} (hd : d ≤ 60) (k : Nat) : (ndq X d j k = some () ∧ X.kd j = k) ∨ (ndq X d j k = none ∧ (¬ X.kd j = k ∨ X.kd (j + 1) = 2)) := by
  by_cases e : X.kd j = k
  · rcases ps_c hbk (j := j) hd with p | ⟨p, p2⟩
    · refine Or.inl ⟨?_, e⟩
      unfold ndq gd
      rw [p, e, Nat.beq_refl]; rfl
    · refine Or.inr ⟨?_, Or.inr p2⟩
      unfold ndq gd
      rw [p, Bool.and_false]; rfl
  · refine Or.inr ⟨?_, Or.inl e⟩
    unfold ndq gd
    rw [nbq e]; rfl
end SA
section SB
variable {X : TX}
theorem aft_0 {j d : Nat} {M : List MkA} {H : List Nat} {o : OuA} (h91 : ¬ X.kd j = 91) (hj : lvq (X.kd j) = 0) (hM : Tp 0 M) : aSp X ⟨3, j, d, M, H, o⟩ = aCh X j d M H o := by
  show aAf X j d M H o = _
  unfold aAf
  rw [if_neg h91, hM.S]
  show (if 0 < lvq (X.kd j) then _ else (popB 1 M H).bind fun t => aCh X j d t.1 t.2 o) = _
  rw [if_neg (show ¬ 0 < lvq (X.kd j) by omega), hM.B (by omega)]
  rfl
theorem aft_g {j d : Nat} {m : MkA} {M : List MkA} {H : List Nat} {o : OuA} (h91 : ¬ X.kd j = 91) (h63 : ¬ X.kd j = 63) (hj : lvq (X.kd j) = 0) (hM : Tp 0 (m :: M)) (h58 : ¬ m.k = 58) : aSp X ⟨3, j, d, m :: M, H, o⟩ = aGo X m j d M H o := by
  rw [aft_0 h91 hj hM]
  unfold aCh
  rw [if_neg h63]
  have : popC (m :: M) H d = some (m :: M, H, d) := by
    unfold popC
    rw [if_neg h58]
  rw [this]
  rfl
theorem aft_l {j d l : Nat} {M : List MkA} {H : List Nat} {o : OuA} (h91 : ¬ X.kd j = 91) (hj : lvq (X.kd j) = l + 1) (hM : Tp l M) : aSp X ⟨3, j, d, M, H, o⟩ = some ⟨2, j + 1, d, ⟨X.kd j, 0, 0⟩ :: M, H, o⟩ := by
  show aAf X j d M H o = _
  unfold aAf
  rw [if_neg h91, hM.S]
  show (if 0 < lvq (X.kd j) then (popB (lvq (X.kd j)) M H).bind _ else _) = _
  rw [if_pos (by omega), hM.B (by omega)]
  rfl
/-- what A does where S reads a part of an EXPR -/
def AOk (X : TX) (J m a d j : Nat) (M : List MkA) (H : List Nat) (o : OuA) (S : Option (Nat × Nat)) : Prop := match S with
  | none => EndW X ⟨2, j, d, M, H, o⟩ none
  | some r => (j < r.1 ∧ r.1 ≤ J) ∧ ((m ≤ 3 → ¬ X.kd r.1 = 91) ∧ (m ≤ 1 → lvq (X.kd r.1) ≤ (if m = 0 then 0 else a)) ∧ (m = 0 → ¬ X.kd r.1 = 63)) ∧ ∀ z, EndW X ⟨3, r.1, d, M, r.2 :: H, o⟩ z → EndW X ⟨2, j, d, M, H, o⟩ z
def preA (m k : Nat) : Prop := m ≤ 8 ∧ (m = 5 → k = 3) ∧ (m = 6 → k = 211 ∨ k = 212) ∧ (m = 7 → 213 ≤ k ∧ k ≤ 216) ∧ (m = 8 → k = 123) ∧ (m = 3 ∨ m = 4 → ¬ (k = 45 ∨ k = 126 ∨ k = 33))
theorem preA0 {m k : Nat} (h : m ≤ 2) : preA m k := ⟨by omega, fun w => by omega, fun w => by omega, fun w => by omega, fun w => by omega, fun w => by omega⟩
theorem preA3 {m k : Nat} (h : m = 3 ∨ m = 4) (h2 : ¬ (k = 45 ∨ k = 126 ∨ k = 33)) : preA m k := ⟨by omega, fun w => by omega, fun w => by omega, fun w => by omega, fun w => by omega, fun _ => h2⟩
def IHA (X : TX) (J n : Nat) : Prop := ∀ (m a d j : Nat) (M : List MkA) (H : List Nat) (o : OuA), Fq n m a d → d ≤ 60 → j ≤ J → preA m (X.kd j) → (m = 1 → a ≤ 8) → (m = 0 → Tp 0 M) → (m = 1 → Tp a M) → AOk X J m a d j M H o (sR X o.lk n m a d j)
variable (hbk : ∀ i, X.bk i = true → X.kd i = 2) {J : Nat} (hJ : X.kd J = 1 ∨ X.kd J = 2)
theorem nxJ (hJ : X.kd J = 1 ∨ X.kd J = 2) {j : Nat} (h : j ≤ J) (h1 : ¬ X.kd j = 1) (h2 : ¬ X.kd j = 2) : j + 1 ≤ J := by
  have : ¬ j = J := fun e => by rw [e] at h1 h2; omega
  omega
variable {n : Nat} (IH : IHA X J n)
theorem exA (hbk : ∀ i, X.bk i = true → X.kd i = 2) (hJ : X.kd J = 1 ∨ X.kd J = 2) (IH : IHA X J n) {d j : Nat} {M : List MkA} {H : List Nat} {o : OuA} (F : Fq (n + 1) 0 0 d) (hd : d ≤ 60) (hjJ : j ≤ J) (hM : Tp 0 M) : AOk X J 0 0 d j M H o (sEx X (sR X o.lk n) d j) := by
  unfold Fq rkq at F
  rw [if_pos rfl] at F
  unfold sEx
  have I1 := IH 1 0 d j M H o (by unfold Fq rkq; rw [if_neg (by omega), if_pos rfl]; omega) hd hjJ (preA0 (by omega)) (fun _ => by omega) (fun w => by omega) (fun _ => hM)
  cases e1 : sR X o.lk n 1 0 d j with
  | none => rw [e1] at I1; exact I1
  | some x =>
    rw [e1] at I1
    obtain ⟨⟨b1, b2⟩, ⟨c1, c2, -⟩, k1⟩ := I1
    have c1 := c1 (by omega)
    have c2 : lvq (X.kd x.1) ≤ 0 := c2 (by omega)
    show AOk X J 0 0 d j M H o (if X.kd x.1 = 63 then _ else some x)
    by_cases c : X.kd x.1 = 63
    rotate_left
    · rw [if_neg c]
      exact ⟨⟨b1, b2⟩, ⟨fun _ => c1, fun _ => c2, fun _ => c⟩, k1⟩
    rw [if_pos c]
    have st : aSp X ⟨3, x.1, d, M, x.2 :: H, o⟩ = if d < 60 then some ⟨2, x.1 + 1, d + 1, ⟨63, 0, x.2⟩ :: M, H, o⟩ else none := by
      rw [aft_0 c1 (by omega) hM]
      unfold aCh
      rw [if_pos c]
      rfl
    by_cases d60 : d < 60
    rotate_left
    · -- too deep
      rw [if_neg d60] at st
      have : ((gd (ps X d x.1)).bind fun _ => (sR X o.lk n 0 0 (d + 1) (x.1 + 1)).bind fun y => (ndq X (d + 1) y.1 58).bind fun _ => (sR X o.lk n 0 0 (d + 1) (y.1 + 1)).bind fun z => if x.2 = 1 ∧ y.2 = z.2 then some (z.1, y.2) else none) = none := by
        rw [sR_61 n 0 0 (d + 1) (x.1 + 1) (by omega)]
        cases gd (ps X d x.1) <;> rfl
      rw [this]
      exact k1 none (EndW.rej st (fun w => by cases w.1))
    rw [if_pos d60] at st
    rcases ps_c hbk (j := x.1) hd with p | ⟨p, p2⟩
    rotate_left
    · rw [gd_f p]
      exact k1 none (EndW.go st (EndW.two p2))
    rw [gd_t p]
    have F2 : Fq n 0 0 (d + 1) := by unfold Fq rkq; rw [if_pos rfl]; omega
    have I2 := IH 0 0 (d + 1) (x.1 + 1) (⟨63, 0, x.2⟩ :: M) H o F2 (by omega) (nxJ hJ b2 (by omega) (by omega)) (preA0 (by omega)) (fun w => by omega) (fun _ => Tp.cons M (by omega) (by decide)) (fun w => by omega)
    cases e2 : sR X o.lk n 0 0 (d + 1) (x.1 + 1) with
    | none => rw [e2] at I2; exact k1 none (EndW.go st I2)
    | some y =>
      rw [e2] at I2
      obtain ⟨⟨b3, b4⟩, ⟨d1, d2, d3⟩, k2⟩ := I2
      have d1 := d1 (by omega)
      have d2 : lvq (X.kd y.1) ≤ 0 := d2 (by omega)
      have d3 := d3 rfl
      have T1 : Tp 0 (⟨63, 0, x.2⟩ :: M) := Tp.cons M (by omega) (by decide)
      have s2 := aft_g (d := d + 1) (H := y.2 :: H) (o := o) d1 d3 (by omega) T1 (by show ¬ 63 = 58; decide)
      show AOk X J 0 0 d j M H o ((ndq X (d + 1) y.1 58).bind fun _ => (sR X o.lk n 0 0 (d + 1) (y.1 + 1)).bind fun z => if x.2 = 1 ∧ y.2 = z.2 then some (z.1, y.2) else none)
      rcases nd_c hbk (j := y.1) (show d + 1 ≤ 60 by omega) 58 with ⟨q1, q2⟩ | ⟨q1, q2⟩
      rotate_left
      · rw [q1]
        refine k1 none (EndW.go st (k2 none ?_))
        by_cases q3 : X.kd y.1 = 58
        · have q4 := q2.resolve_left (fun z => z q3)
          refine EndW.go (s2.trans ?_) (EndW.two (c := ⟨2, y.1 + 1, d + 1, ⟨58, 0, x.2⟩ :: M, y.2 :: H, o⟩) q4)
          unfold aGo
          rw [if_pos ⟨rfl, q3⟩]
        · refine EndW.rej (s2.trans ?_) (fun w => by cases w.1)
          unfold aGo
          rw [if_neg (fun z => q3 z.2), if_neg (by simp [MkA.k, MkA.c, MkA.q]), if_neg (by simp [MkA.k, MkA.c, MkA.q]), if_neg (by simp [MkA.k, MkA.c, MkA.q]), if_neg (by simp [MkA.k, MkA.c, MkA.q]), if_neg (by simp [MkA.k, MkA.c, MkA.q]), if_neg (by simp [MkA.k, MkA.c, MkA.q])]
      rw [q1, Option.bind_some]
      have s3 : aSp X ⟨3, y.1, d + 1, ⟨63, 0, x.2⟩ :: M, y.2 :: H, o⟩ = some ⟨2, y.1 + 1, d + 1, ⟨58, 0, x.2⟩ :: M, y.2 :: H, o⟩ := by
        rw [s2]
        unfold aGo
        rw [if_pos ⟨rfl, q2⟩]
      have I3 := IH 0 0 (d + 1) (y.1 + 1) (⟨58, 0, x.2⟩ :: M) (y.2 :: H) o F2 (by omega) (nxJ hJ b4 (by omega) (by omega)) (preA0 (by omega)) (fun w => by omega) (fun _ => Tp.cons M (by omega) (by decide)) (fun w => by omega)
      cases e3 : sR X o.lk n 0 0 (d + 1) (y.1 + 1) with
      | none => rw [e3] at I3; exact k1 none (EndW.go st (k2 none (EndW.go s3 I3)))
      | some z =>
        rw [e3] at I3
        obtain ⟨⟨b5, b6⟩, ⟨f1, f2, f3⟩, k3⟩ := I3
        have f1 := f1 (by omega)
        have f2 : lvq (X.kd z.1) ≤ 0 := f2 (by omega)
        have f3 := f3 rfl
        have s4 := aft_c (q := x.2) (y := y.2) (z := z.2) (d := d) (H := H) (o := o) f1 f3 (by omega) hM
        show AOk X J 0 0 d j M H o (if x.2 = 1 ∧ y.2 = z.2 then some (z.1, y.2) else none)
        by_cases cc : x.2 = 1 ∧ y.2 = z.2
        · rw [if_pos cc] at s4 ⊢
          exact ⟨⟨by show j < z.1; omega, b6⟩, ⟨fun _ => f1, fun _ => f2, fun _ => f3⟩, fun r hr => k1 r (EndW.go st (k2 r (EndW.go s3 (k3 r (EndW.eq s4 (fun w => by cases w) (fun w => by cases w) hr)))))⟩
        · rw [if_neg cc] at s4 ⊢
          exact k1 none (EndW.go st (k2 none (EndW.go s3 (k3 none (EndW.rej s4 (fun w => by cases w.1))))))
theorem blA (hbk : ∀ i, X.bk i = true → X.kd i = 2) (hJ : X.kd J = 1 ∨ X.kd J = 2) (IH : IHA X J n) {a d j0 : Nat} {M : List MkA} {H : List Nat} {o : OuA} (ha : a < 8) (F : Fq n 1 (a + 1) d) (hd : d ≤ 60) (hM : Tp a M) : ∀ (k j w : Nat), j0 < j → j ≤ J → J - j < k → ¬ X.kd j = 91 → lvq (X.kd j) ≤ a + 1 → (∀ r, EndW X ⟨3, j, d, M, w :: H, o⟩ r → EndW X ⟨2, j0, d, M, H, o⟩ r) → AOk X J 1 a d j0 M H o (sBL X (sR X o.lk n) a d k j w) := by
  intro k
  induction k with
  | zero => intro j w _ _ h; omega
  | succ k ih =>
    intro j w hj0 hjJ hk h91 hl cont
    unfold sBL
    by_cases c : lvq (X.kd j) = a + 1
    rotate_left
    · rw [if_neg c]
      exact ⟨⟨hj0, hjJ⟩, ⟨fun _ => h91, fun _ => by rw [if_neg (by omega)]; show lvq (X.kd j) ≤ a; omega, fun w => by omega⟩, cont⟩
    rw [if_pos c]
    have st := aft_l (d := d) (H := w :: H) (o := o) h91 c hM
    rcases ps_c hbk (j := j) hd with p | ⟨p, p2⟩
    rotate_left
    · rw [gd_f p]; exact cont none (EndW.go st (EndW.two p2))
    rw [gd_t p]
    have hkk := lvq_0 (k := X.kd j) (by omega)
    have hj1 := nxJ hJ hjJ (by omega) (by omega)
    have I1 := IH 1 (a + 1) d (j + 1) (⟨X.kd j, 0, 0⟩ :: M) (w :: H) o F hd hj1 (preA0 (by omega)) (fun _ => by omega) (fun w => by omega) (fun _ => Tp.cons M (by omega) (by omega))
    cases e1 : sR X o.lk n 1 (a + 1) d (j + 1) with
    | none => rw [e1] at I1; exact cont none (EndW.go st I1)
    | some y =>
      rw [e1] at I1
      obtain ⟨⟨b1, b2⟩, ⟨c1, c2, -⟩, k1⟩ := I1
      have c1 := c1 (by omega)
      have c2 : lvq (X.kd y.1) ≤ a + 1 := by have := c2 (by omega); rw [if_neg (by omega)] at this; exact this
      have s2 := aft_b (X := X) (k := X.kd j) (x := w) (y := y.2) (d := d) (H := H) (o := o) c c1 c2 hM
      show AOk X J 1 a d j0 M H o ((tw (X.kd j) w y.2).bind fun z => sBL X (sR X o.lk n) a d k y.1 z)
      cases e2 : tw (X.kd j) w y.2 with
      | none =>
        rw [e2] at s2
        exact cont none (EndW.go st (k1 none (EndW.rej s2 (fun w => by cases w.1))))
      | some z =>
        rw [e2] at s2
        exact ih y.1 z (by omega) b2 (by omega) c1 c2 (fun r hr => cont r (EndW.go st (k1 r (EndW.eq s2 (fun w => by cases w) (fun w => by cases w) hr))))
theorem biA (hbk : ∀ i, X.bk i = true → X.kd i = 2) (hJ : X.kd J = 1 ∨ X.kd J = 2) (IH : IHA X J n) {a d j : Nat} {M : List MkA} {H : List Nat} {o : OuA} (ha : a ≤ 8) (hJ2 : J ≤ 32768) (F : Fq (n + 1) 1 a d) (hd : d ≤ 60) (hjJ : j ≤ J) (hM : Tp a M) : AOk X J 1 a d j M H o (sBi X (sR X o.lk n) a d j) := by
  unfold Fq rkq at F
  rw [if_neg (by omega), if_pos rfl] at F
  unfold sBi
  by_cases c : a = 8
  · rw [if_pos c]
    have I1 := IH 2 0 d j M H o (by unfold Fq rkq; rw [if_neg (by omega), if_neg (by omega), if_pos rfl]; omega) hd hjJ (preA0 (by omega)) (fun w => by omega) (fun w => by omega) (fun w => by omega)
    cases e1 : sR X o.lk n 2 0 d j with
    | none => rw [e1] at I1; exact I1
    | some x =>
      rw [e1] at I1
      obtain ⟨b1, ⟨c1, -, -⟩, k1⟩ := I1
      exact ⟨b1, ⟨fun _ => c1 (by omega), fun _ => by rw [if_neg (by omega), c]; exact lvq_8 _, fun w => by omega⟩, k1⟩
  · rw [if_neg c]
    have F1 : Fq n 1 (a + 1) d := by unfold Fq rkq; rw [if_neg (by omega), if_pos rfl]; omega
    have hM1 : Tp (a + 1) M := fun m M' e => ⟨(hM m M' e).1, by have := (hM m M' e).2; omega⟩
    have I1 := IH 1 (a + 1) d j M H o F1 hd hjJ (preA0 (by omega)) (fun _ => by omega) (fun w => by omega) (fun _ => hM1)
    cases e1 : sR X o.lk n 1 (a + 1) d j with
    | none => rw [e1] at I1; exact I1
    | some x =>
      rw [e1] at I1
      obtain ⟨⟨b1, b2⟩, ⟨c1, c2, -⟩, k1⟩ := I1
      have c2 : lvq (X.kd x.1) ≤ a + 1 := by have := c2 (by omega); rw [if_neg (by omega)] at this; exact this
      exact blA hbk hJ IH (by omega) F1 hd hM 200000 x.1 x.2 b1 b2 (by omega) (c1 (by omega)) c2 k1
end SB
section SC
variable {X : TX} (hbk : ∀ i, X.bk i = true → X.kd i = 2) {J : Nat} (hJ : X.kd J = 1 ∨ X.kd J = 2)
/-- [h:l] -/
theorem pkA (hbk : ∀ i, X.bk i = true → X.kd i = 2) (hJ : X.kd J = 1 ∨ X.kd J = 2) {d j w : Nat} {M : List MkA} {H : List Nat} {o : OuA} (hd : d ≤ 60) (hjJ : j ≤ J) (h91 : X.kd j = 91) : match sPk X d j w with
    | none => EndW X ⟨3, j, d, M, w :: H, o⟩ none
    | some z => (j < z.1 ∧ z.1 ≤ J) ∧ aSp X ⟨3, j, d, M, w :: H, o⟩ = some ⟨3, z.1, d, M, z.2 :: H, o⟩ := by
  have st : aSp X ⟨3, j, d, M, w :: H, o⟩ = aPk X j d M (w :: H) o := by
    show aAf X j d M (w :: H) o = _
    unfold aAf
    rw [if_pos h91]
  have ePk : aPk X j d M (w :: H) o = if d < 60 ∧ X.kd (j + 1) = 4 then (if X.kd (j + 2) = 58 then (if X.kd (j + 3) = 4 ∧ X.kd (j + 4) = 93 ∧ X.nu (j + 1) < w ∧ X.nu (j + 3) ≤ X.nu (j + 1) then some ⟨3, j + 5, d, M, (X.nu (j + 1) - X.nu (j + 3) + 1) :: H, o⟩ else none) else if X.kd (j + 2) = 93 ∧ X.nu (j + 1) < w then some ⟨3, j + 3, d, M, 1 :: H, o⟩ else none) else none := rfl
  have rj : aPk X j d M (w :: H) o = none → EndW X ⟨3, j, d, M, w :: H, o⟩ none := fun e => EndW.rej (st.trans e) (fun w => by cases w.1)
  have hj1 := nxJ hJ hjJ (by omega) (by omega)
  unfold sPk
  by_cases d60 : d < 60
  rotate_left
  · have : ((gd (ps X d j)).bind fun _ => (ndq X (d + 1) (j + 1) 4).bind fun _ => if X.kd (j + 2) = 58 then (gd (ps X (d + 1) (j + 2))).bind fun _ => (ndq X (d + 1) (j + 3) 4).bind fun _ => (ndq X (d + 1) (j + 4) 93).bind fun _ => if X.nu (j + 1) < w ∧ X.nu (j + 3) ≤ X.nu (j + 1) then some (j + 5, X.nu (j + 1) - X.nu (j + 3) + 1) else none else (ndq X (d + 1) (j + 2) 93).bind fun _ => if X.nu (j + 1) < w then some (j + 3, 1) else none) = none := by
      have e : ndq X (d + 1) (j + 1) 4 = none := by
        unfold ndq gd
        rw [ps_61 (by omega), Bool.and_false]; rfl
      rw [e]
      cases gd (ps X d j) <;> rfl
    rw [this]
    refine rj ?_
    rw [ePk]
    rw [if_neg (fun z => d60 z.1)]
  rcases ps_c hbk (j := j) hd with p | ⟨p, p2⟩
  rotate_left
  · rw [gd_f p]
    refine rj ?_
    rw [ePk]
    rw [if_neg (fun z => by omega)]
  rw [gd_t p]
  have hd1 : d + 1 ≤ 60 := by omega
  rcases nd_c hbk (j := j + 1) hd1 4 with ⟨q1, q2⟩ | ⟨q1, q2⟩
  rotate_left
  · rw [q1]
    refine rj ?_
    rw [ePk]
    rcases q2 with q2 | q2
    · rw [if_neg (fun z => q2 z.2)]
    · have q2 : X.kd (j + 2) = 2 := q2
      by_cases z : d < 60 ∧ X.kd (j + 1) = 4
      · rw [if_pos z, if_neg (by omega), if_neg (by omega)]
      · rw [if_neg z]
  have hj2 := nxJ hJ hj1 (by omega) (by omega)
  rw [q1, Option.bind_some]
  by_cases c : X.kd (j + 2) = 58
  · rw [if_pos c]
    have hj3 := nxJ hJ hj2 (by rw [show j + 1 + 1 = j + 2 from rfl]; omega) (by rw [show j + 1 + 1 = j + 2 from rfl]; omega)
    rcases ps_c hbk (j := j + 2) hd1 with p3 | ⟨p3, p4⟩
    rotate_left
    · have p4 : X.kd (j + 3) = 2 := p4
      rw [gd_f p3]
      refine rj ?_
      rw [ePk]
      rw [if_pos ⟨d60, q2⟩, if_pos c, if_neg (by omega)]
    rw [gd_t p3]
    rcases nd_c hbk (j := j + 3) hd1 4 with ⟨r1, r2⟩ | ⟨r1, r2⟩
    rotate_left
    · have r2 : ¬ X.kd (j + 3) = 4 ∨ X.kd (j + 4) = 2 := r2
      rw [r1]
      refine rj ?_
      rw [ePk]
      rw [if_pos ⟨d60, q2⟩, if_pos c, if_neg (by omega)]
    have hj4 := nxJ hJ hj3 (by rw [show j + 1 + 1 + 1 = j + 3 from rfl]; omega) (by rw [show j + 1 + 1 + 1 = j + 3 from rfl]; omega)
    rw [r1, Option.bind_some]
    rcases nd_c hbk (j := j + 4) hd1 93 with ⟨t1, t2⟩ | ⟨t1, t2⟩
    rotate_left
    · rw [t1]
      show EndW X ⟨3, j, d, M, w :: H, o⟩ none
      by_cases z : X.kd (j + 3) = 4 ∧ X.kd (j + 4) = 93 ∧ X.nu (j + 1) < w ∧ X.nu (j + 3) ≤ X.nu (j + 1)
      · have t3 := t2.resolve_left (fun y => y z.2.1)
        refine EndW.go (st.trans ?_) (EndW.two (c := ⟨3, j + 5, d, M, (X.nu (j + 1) - X.nu (j + 3) + 1) :: H, o⟩) t3)
        rw [ePk]
        rw [if_pos ⟨d60, q2⟩, if_pos c, if_pos z]
      · refine rj ?_
        rw [ePk]
        rw [if_pos ⟨d60, q2⟩, if_pos c, if_neg z]
    have hj5 := nxJ hJ hj4 (by rw [show j + 1 + 1 + 1 + 1 = j + 4 from rfl]; omega) (by rw [show j + 1 + 1 + 1 + 1 = j + 4 from rfl]; omega)
    rw [t1, Option.bind_some]
    by_cases z : X.nu (j + 1) < w ∧ X.nu (j + 3) ≤ X.nu (j + 1)
    · rw [if_pos z]
      refine ⟨⟨by show j < j + 5; omega, hj5⟩, st.trans ?_⟩
      rw [ePk]
      rw [if_pos ⟨d60, q2⟩, if_pos c, if_pos ⟨r2, t2, z⟩]
    · rw [if_neg z]
      refine rj ?_
      rw [ePk]
      rw [if_pos ⟨d60, q2⟩, if_pos c, if_neg (fun y => z y.2.2)]
  · rw [if_neg c]
    rcases nd_c hbk (j := j + 2) hd1 93 with ⟨t1, t2⟩ | ⟨t1, t2⟩
    rotate_left
    · rw [t1]
      show EndW X ⟨3, j, d, M, w :: H, o⟩ none
      by_cases z : X.kd (j + 2) = 93 ∧ X.nu (j + 1) < w
      · have t3 := t2.resolve_left (fun y => y z.1)
        refine EndW.go (st.trans ?_) (EndW.two (c := ⟨3, j + 3, d, M, 1 :: H, o⟩) t3)
        rw [ePk]
        rw [if_pos ⟨d60, q2⟩, if_neg c, if_pos z]
      · refine rj ?_
        rw [ePk]
        rw [if_pos ⟨d60, q2⟩, if_neg c, if_neg z]
    have hj3 := nxJ hJ hj2 (by rw [show j + 1 + 1 = j + 2 from rfl]; omega) (by rw [show j + 1 + 1 = j + 2 from rfl]; omega)
    rw [t1, Option.bind_some]
    by_cases z : X.nu (j + 1) < w
    · rw [if_pos z]
      refine ⟨⟨by show j < j + 3; omega, hj3⟩, st.trans ?_⟩
      rw [ePk]
      rw [if_pos ⟨d60, q2⟩, if_neg c, if_pos ⟨t2, z⟩]
    · rw [if_neg z]
      refine rj ?_
      rw [ePk]
      rw [if_pos ⟨d60, q2⟩, if_neg c, if_neg (fun y => z y.2)]
theorem plA (hbk : ∀ i, X.bk i = true → X.kd i = 2) (hJ : X.kd J = 1 ∨ X.kd J = 2) {d j0 : Nat} {M : List MkA} {H : List Nat} {o : OuA} (hd : d ≤ 60) : ∀ (k j w : Nat), j0 < j → j ≤ J → J - j < k → (∀ r, EndW X ⟨3, j, d, M, w :: H, o⟩ r → EndW X ⟨2, j0, d, M, H, o⟩ r) → AOk X J 3 0 d j0 M H o (sPL X d k j w) := by
  intro k
  induction k with
  | zero => intro j w _ _ h; omega
  | succ k ih =>
    intro j w hj0 hjJ hk cont
    unfold sPL
    by_cases c : X.kd j = 91
    · rw [if_pos c]
      have P := pkA hbk hJ (w := w) (M := M) (H := H) (o := o) hd hjJ c
      cases e : sPk X d j w with
      | none => rw [e] at P; exact cont none P
      | some z =>
        rw [e] at P
        obtain ⟨⟨b1, b2⟩, s⟩ := P
        exact ih z.1 z.2 (by omega) b2 (by omega) (fun r hr => cont r (EndW.go s hr))
    · rw [if_neg c]
      exact ⟨⟨hj0, hjJ⟩, ⟨fun _ => c, fun w => by omega, fun w => by omega⟩, cont⟩
variable {n : Nat} (IH : IHA X J n)
theorem poA (hbk : ∀ i, X.bk i = true → X.kd i = 2) (hJ : X.kd J = 1 ∨ X.kd J = 2) (IH : IHA X J n) {d j : Nat} {M : List MkA} {H : List Nat} {o : OuA} (hJ2 : J ≤ 32768) (F : Fq (n + 1) 3 0 d) (hd : d ≤ 60) (hjJ : j ≤ J) (hsg : ¬ (X.kd j = 45 ∨ X.kd j = 126 ∨ X.kd j = 33)) : AOk X J 3 0 d j M H o (sPo X (sR X o.lk n) d j) := by
  unfold Fq rkq at F
  rw [if_neg (by omega), if_neg (by omega), if_neg (by omega), if_pos rfl] at F
  unfold sPo
  have I1 := IH 4 0 d j M H o (by unfold Fq rkq; rw [if_neg (by omega), if_neg (by omega), if_neg (by omega), if_neg (by omega), if_pos rfl]; omega) hd hjJ (preA3 (Or.inr rfl) hsg) (fun w => by omega) (fun w => by omega) (fun w => by omega)
  cases e1 : sR X o.lk n 4 0 d j with
  | none => rw [e1] at I1; exact I1
  | some x =>
    rw [e1] at I1
    obtain ⟨⟨b1, b2⟩, -, k1⟩ := I1
    exact plA hbk hJ hd 200000 x.1 x.2 b1 b2 (by omega) k1
theorem unA (hbk : ∀ i, X.bk i = true → X.kd i = 2) (hJ : X.kd J = 1 ∨ X.kd J = 2) (IH : IHA X J n) {d j : Nat} {M : List MkA} {H : List Nat} {o : OuA} (F : Fq (n + 1) 2 0 d) (hd : d ≤ 60) (hjJ : j ≤ J) : AOk X J 2 0 d j M H o (sUn X (sR X o.lk n) d j) := by
  unfold Fq rkq at F
  rw [if_neg (by omega), if_neg (by omega), if_pos rfl] at F
  unfold sUn
  have sg : ∀ sk, (sk = 305 ∨ sk = 306 ∨ sk = 307) → (sk = 307 ↔ X.kd j = 33) → ¬ X.kd j = 1 → ¬ X.kd j = 2 → aSp X ⟨2, j, d, M, H, o⟩ = (if d < 60 then some ⟨2, j + 1, d + 1, ⟨sk, 0, 0⟩ :: M, H, o⟩ else none) → AOk X J 2 0 d j M H o ((gd (ps X d j)).bind fun _ => (sR X o.lk n 2 0 (d + 1) (j + 1)).bind fun x => if X.kd j = 33 ∧ ¬ x.2 = 1 then none else some x) := fun sk hsk h33 n1 n2 st => by
    have hj1 := nxJ hJ hjJ n1 n2
    by_cases d60 : d < 60
    rotate_left
    · rw [if_neg d60] at st
      rw [sR_61 n 2 0 (d + 1) (j + 1) (by omega)]
      have : ((gd (ps X d j)).bind fun _ => (none : Option (Nat × Nat)).bind fun x => if X.kd j = 33 ∧ ¬ x.2 = 1 then none else some x) = none := by cases gd (ps X d j) <;> rfl
      rw [this]
      exact EndW.rej st (fun w => by cases w.1)
    rw [if_pos d60] at st
    rcases ps_c hbk (j := j) hd with p | ⟨p, p2⟩
    rotate_left
    · rw [gd_f p]; exact EndW.go st (EndW.two p2)
    rw [gd_t p]
    have I1 := IH 2 0 (d + 1) (j + 1) (⟨sk, 0, 0⟩ :: M) H o (by unfold Fq rkq; rw [if_neg (by omega), if_neg (by omega), if_pos rfl]; omega) (by omega) hj1 (preA0 (by omega)) (fun w => by omega) (fun w => by omega) (fun w => by omega)
    cases e1 : sR X o.lk n 2 0 (d + 1) (j + 1) with
    | none => rw [e1] at I1; exact EndW.go st I1
    | some x =>
      rw [e1] at I1
      obtain ⟨⟨b1, b2⟩, ⟨c1, -, -⟩, k1⟩ := I1
      have c1 := c1 (by omega)
      have s2 := aft_s (X := X) (c := 0) (q := 0) (w := x.2) (d := d) (M := M) (H := H) (o := o) hsk c1
      show AOk X J 2 0 d j M H o (if X.kd j = 33 ∧ ¬ x.2 = 1 then none else some x)
      by_cases z : X.kd j = 33 ∧ ¬ x.2 = 1
      · rw [if_pos z]
        rw [if_pos ⟨h33.mpr z.1, z.2⟩] at s2
        exact EndW.go st (k1 none (EndW.rej s2 (fun w => by cases w.1)))
      · rw [if_neg z]
        rw [if_neg (fun y => z ⟨h33.mp y.1, y.2⟩)] at s2
        exact ⟨⟨by omega, b2⟩, ⟨fun _ => c1, fun w => by omega, fun w => by omega⟩, fun r hr => EndW.go st (k1 r (EndW.eq s2 (fun w => by cases w) (fun w => by cases w) hr))⟩
  by_cases c : X.kd j = 45 ∨ X.kd j = 126 ∨ X.kd j = 33
  · rw [if_pos c]
    by_cases q1 : X.kd j = 45
    · refine sg 305 (by omega) (by omega) (by omega) (by omega) ?_
      show aOp X j d M H o = _
      unfold aOp
      rw [if_pos q1]
    · by_cases q2 : X.kd j = 126
      · refine sg 306 (by omega) (by omega) (by omega) (by omega) ?_
        show aOp X j d M H o = _
        unfold aOp
        rw [if_neg q1, if_pos q2]
      · have q3 : X.kd j = 33 := by omega
        refine sg 307 (by omega) (by omega) (by omega) (by omega) ?_
        show aOp X j d M H o = _
        unfold aOp
        rw [if_neg q1, if_neg q2, if_pos q3]
  · rw [if_neg c]
    have I1 := IH 3 0 d j M H o (by unfold Fq rkq; rw [if_neg (by omega), if_neg (by omega), if_neg (by omega), if_pos rfl]; omega) hd hjJ (preA3 (Or.inl rfl) c) (fun w => by omega) (fun w => by omega) (fun w => by omega)
    cases e1 : sR X o.lk n 3 0 d j with
    | none => rw [e1] at I1; exact I1
    | some x =>
      rw [e1] at I1
      obtain ⟨b, ⟨c1, -, -⟩, k1⟩ := I1
      exact ⟨b, ⟨fun _ => c1 (by omega), fun w => by omega, fun w => by omega⟩, k1⟩
end SC
section SD
variable {X : TX} (hbk : ∀ i, X.bk i = true → X.kd i = 2) {J : Nat} (hJ : X.kd J = 1 ∨ X.kd J = 2)
theorem liA (hbk : ∀ i, X.bk i = true → X.kd i = 2) (hJ : X.kd J = 1 ∨ X.kd J = 2) {m0 d j : Nat} {M : List MkA} {H : List Nat} {o : OuA} (hm : m0 = 4) (hd : d ≤ 60) (hjJ : j ≤ J) (hk : X.kd j = 4) : AOk X J m0 0 d j M H o (sLit X d j) := by
  have st : aSp X ⟨2, j, d, M, H, o⟩ = if X.kd (j + 1) = 39 ∧ X.kd (j + 2) = 4 ∧ 1 ≤ X.nu j ∧ X.nu j ≤ 64 ∧ X.nu (j + 2) < 2 ^ X.nu j then some ⟨3, j + 3, d, M, X.nu j :: H, o⟩ else none := by
    show aOp X j d M H o = _
    unfold aOp
    rw [if_neg (by omega), if_neg (by omega), if_neg (by omega), if_neg (by omega), if_pos hk]
  have rj : ¬ (X.kd (j + 1) = 39 ∧ X.kd (j + 2) = 4 ∧ 1 ≤ X.nu j ∧ X.nu j ≤ 64 ∧ X.nu (j + 2) < 2 ^ X.nu j) → EndW X ⟨2, j, d, M, H, o⟩ none := fun z => by
    rw [if_neg z] at st
    exact EndW.rej st (fun w => by cases w.1)
  have hj1 := nxJ hJ hjJ (by omega) (by omega)
  unfold sLit
  rcases ps_c hbk (j := j) hd with p | ⟨p, p2⟩
  rotate_left
  · rw [gd_f p]; exact rj (fun z => by omega)
  rw [gd_t p]
  rcases nd_c hbk (j := j + 1) hd 39 with ⟨q1, q2⟩ | ⟨q1, q2⟩
  rotate_left
  · have q2 : ¬ X.kd (j + 1) = 39 ∨ X.kd (j + 2) = 2 := q2
    rw [q1]; exact rj (fun z => by omega)
  have hj2 := nxJ hJ hj1 (by omega) (by omega)
  rw [q1, Option.bind_some]
  rcases nd_c hbk (j := j + 2) hd 4 with ⟨r1, r2⟩ | ⟨r1, r2⟩
  rotate_left
  · rw [r1]
    show EndW X ⟨2, j, d, M, H, o⟩ none
    by_cases z : X.kd (j + 1) = 39 ∧ X.kd (j + 2) = 4 ∧ 1 ≤ X.nu j ∧ X.nu j ≤ 64 ∧ X.nu (j + 2) < 2 ^ X.nu j
    · rw [if_pos z] at st
      exact EndW.go st (EndW.two (r2.resolve_left (fun y => y z.2.1)))
    · exact rj z
  have hj3 := nxJ hJ hj2 (by rw [show j + 1 + 1 = j + 2 from rfl]; omega) (by rw [show j + 1 + 1 = j + 2 from rfl]; omega)
  rw [r1, Option.bind_some]
  by_cases z : 1 ≤ X.nu j ∧ X.nu j ≤ 64 ∧ X.nu (j + 2) < 2 ^ X.nu j
  · rw [if_pos z]
    rw [if_pos ⟨q2, r2, z⟩] at st
    exact ⟨⟨by show j < j + 3; omega, hj3⟩, ⟨fun w => by omega, fun w => by omega, fun w => by omega⟩, fun r hr => EndW.go st hr⟩
  · rw [if_neg z]
    exact rj (fun y => z y.2.2)
variable {n : Nat} (IH : IHA X J n)
/-- an opened EXPR: what is behind it -/
theorem inA (hbk : ∀ i, X.bk i = true → X.kd i = 2) (hJ : X.kd J = 1 ∨ X.kd J = 2) (IH : IHA X J n) {d j : Nat} (k c q : Nat) {M : List MkA} {H : List Nat} {o : OuA} (F2 : Fq n 0 0 (d + 1)) (d60 : d < 60) (hjJ : j ≤ J) (hk : ¬ (k = 305 ∨ k = 306 ∨ k = 307)) (hl : lvq k = 0) : AOk X J 0 0 (d + 1) j (⟨k, c, q⟩ :: M) H o (sR X o.lk n 0 0 (d + 1) j) :=
  IH 0 0 (d + 1) j (⟨k, c, q⟩ :: M) H o F2 (by omega) hjJ (preA0 (by omega)) (fun w => by omega) (fun _ => Tp.cons M hk (by omega)) (fun w => by omega)
theorem paA (hbk : ∀ i, X.bk i = true → X.kd i = 2) (hJ : X.kd J = 1 ∨ X.kd J = 2) (IH : IHA X J n) {d j : Nat} {M : List MkA} {H : List Nat} {o : OuA} (F2 : Fq n 0 0 (d + 1)) (hd : d ≤ 60) (hjJ : j ≤ J) (hk : X.kd j = 40) : AOk X J 4 0 d j M H o ((gd (ps X d j)).bind fun _ => (sR X o.lk n 0 0 (d + 1) (j + 1)).bind fun x => (ndq X (d + 1) x.1 41).bind fun _ => some (x.1 + 1, x.2)) := by
  have st : aSp X ⟨2, j, d, M, H, o⟩ = if d < 60 then some ⟨2, j + 1, d + 1, ⟨40, 0, 0⟩ :: M, H, o⟩ else none := by
    show aOp X j d M H o = _
    unfold aOp
    rw [if_neg (by omega), if_neg (by omega), if_neg (by omega), if_pos (Or.inl hk), hk]
  have hj1 := nxJ hJ hjJ (by omega) (by omega)
  by_cases d60 : d < 60
  rotate_left
  · rw [if_neg d60] at st
    rw [sR_61 n 0 0 (d + 1) (j + 1) (by omega)]
    have : ((gd (ps X d j)).bind fun _ => (none : Option (Nat × Nat)).bind fun x => (ndq X (d + 1) x.1 41).bind fun _ => some (x.1 + 1, x.2)) = none := by cases gd (ps X d j) <;> rfl
    rw [this]
    exact EndW.rej st (fun w => by cases w.1)
  rw [if_pos d60] at st
  rcases ps_c hbk (j := j) hd with p | ⟨p, p2⟩
  rotate_left
  · rw [gd_f p]; exact EndW.go st (EndW.two p2)
  rw [gd_t p]
  have I1 := inA hbk hJ IH 40 0 0 (M := M) (H := H) (o := o) F2 d60 hj1 (by omega) (by decide)
  cases e1 : sR X o.lk n 0 0 (d + 1) (j + 1) with
  | none => rw [e1] at I1; exact EndW.go st I1
  | some x =>
    rw [e1] at I1
    obtain ⟨⟨b1, b2⟩, ⟨c1, c2, c3⟩, k1⟩ := I1
    have c2 : lvq (X.kd x.1) ≤ 0 := c2 (by omega)
    have s2 := aft_g (d := d + 1) (H := x.2 :: H) (o := o) (m := ⟨40, 0, 0⟩) (M := M) (c1 (by omega)) (c3 rfl) (by omega) (Tp.cons M (by omega) (by decide)) (by decide)
    have s3 : aGo X ⟨40, 0, 0⟩ x.1 (d + 1) M (x.2 :: H) o = if X.kd x.1 = 41 then some ⟨3, x.1 + 1, d, M, x.2 :: H, o⟩ else none := by
      unfold aGo
      rw [if_neg (by simp [MkA.k, MkA.c, MkA.q]), if_neg (by simp [MkA.k, MkA.c, MkA.q]), if_neg (by simp [MkA.k, MkA.c, MkA.q])]
      by_cases z : X.kd x.1 = 41
      · rw [if_pos ⟨rfl, z⟩, if_pos z]; rfl
      · rw [if_neg (fun y => z y.2), if_neg (by simp [MkA.k, MkA.c, MkA.q]), if_neg (by simp [MkA.k, MkA.c, MkA.q]), if_neg (by simp [MkA.k, MkA.c, MkA.q]), if_neg z]
    show AOk X J 4 0 d j M H o ((ndq X (d + 1) x.1 41).bind fun _ => some (x.1 + 1, x.2))
    rcases nd_c hbk (j := x.1) (show d + 1 ≤ 60 by omega) 41 with ⟨q1, q2⟩ | ⟨q1, q2⟩
    · rw [q1]
      rw [if_pos q2] at s3
      exact ⟨⟨by show j < x.1 + 1; omega, nxJ hJ b2 (by omega) (by omega)⟩, ⟨fun w => by omega, fun w => by omega, fun w => by omega⟩, fun r hr => EndW.go st (k1 r (EndW.go (s2.trans s3) hr))⟩
    · rw [q1]
      refine EndW.go st (k1 none ?_)
      by_cases z : X.kd x.1 = 41
      · rw [if_pos z] at s3
        exact EndW.go (s2.trans s3) (EndW.two (q2.resolve_left (fun y => y z)))
      · rw [if_neg z] at s3
        exact EndW.rej (s2.trans s3) (fun w => by cases w.1)
theorem nmA (hbk : ∀ i, X.bk i = true → X.kd i = 2) (hJ : X.kd J = 1 ∨ X.kd J = 2) (IH : IHA X J n) {d j : Nat} {M : List MkA} {H : List Nat} {o : OuA} (F : Fq (n + 1) 5 0 d) (hd : d ≤ 60) (hjJ : j ≤ J) (hk : X.kd j = 3) : AOk X J 5 0 d j M H o (sNm X o.lk (sR X o.lk n) d j) := by
  unfold Fq rkq at F
  rw [if_neg (by omega), if_neg (by omega), if_neg (by omega), if_neg (by omega), if_neg (by omega)] at F
  have st : aSp X ⟨2, j, d, M, H, o⟩ = (if (o.lk (X.nm j)).1 = 2 ∧ X.kd (j + 1) = 91 then (if d < 60 then some ⟨2, j + 2, d + 1, ⟨91, (o.lk (X.nm j)).2, 0⟩ :: M, H, o⟩ else none) else if (o.lk (X.nm j)).1 = 3 ∨ (o.lk (X.nm j)).1 = 1 then some ⟨3, j + 1, d, M, (o.lk (X.nm j)).2 :: H, o⟩ else none) := by
    show aOp X j d M H o = _
    unfold aOp
    rw [if_neg (by omega), if_neg (by omega), if_neg (by omega), if_neg (by omega), if_neg (by omega), if_pos hk]
  have hj1 := nxJ hJ hjJ (by omega) (by omega)
  unfold sNm
  rcases ps_c hbk (j := j) hd with p | ⟨p, p2⟩
  rotate_left
  · rw [gd_f p]
    show EndW X ⟨2, j, d, M, H, o⟩ none
    rw [if_neg (fun z => by omega)] at st
    by_cases z : (o.lk (X.nm j)).1 = 3 ∨ (o.lk (X.nm j)).1 = 1
    · rw [if_pos z] at st; exact EndW.go st (EndW.two p2)
    · rw [if_neg z] at st; exact EndW.rej st (fun w => by cases w.1)
  rw [gd_t p]
  by_cases z : (o.lk (X.nm j)).1 = 3 ∨ (o.lk (X.nm j)).1 = 1
  · rw [if_pos z]
    rw [if_neg (fun y => by omega), if_pos z] at st
    exact ⟨⟨by show j < j + 1; omega, hj1⟩, ⟨fun w => by omega, fun w => by omega, fun w => by omega⟩, fun r hr => EndW.go st hr⟩
  rw [if_neg z]
  by_cases y : (o.lk (X.nm j)).1 = 2 ∧ X.kd (j + 1) = 91
  rotate_left
  · rw [if_neg y]
    rw [if_neg y, if_neg z] at st
    exact EndW.rej st (fun w => by cases w.1)
  rw [if_pos y]
  rw [if_pos y] at st
  have hj2 := nxJ hJ hj1 (by omega) (by omega)
  by_cases d60 : d < 60
  rotate_left
  · rw [if_neg d60] at st
    rw [sR_61 n 0 0 (d + 1) (j + 2) (by omega)]
    have : ((gd (ps X d (j + 1))).bind fun _ => (none : Option (Nat × Nat)).bind fun i => (ndq X (d + 1) i.1 93).bind fun _ => some (i.1 + 1, (o.lk (X.nm j)).2)) = none := by cases gd (ps X d (j + 1)) <;> rfl
    rw [this]
    exact EndW.rej st (fun w => by cases w.1)
  rw [if_pos d60] at st
  rcases ps_c hbk (j := j + 1) hd with p3 | ⟨p3, p4⟩
  rotate_left
  · rw [gd_f p3]; exact EndW.go st (EndW.two p4)
  rw [gd_t p3]
  have F2 : Fq n 0 0 (d + 1) := by unfold Fq rkq; rw [if_pos rfl]; omega
  have I1 := inA hbk hJ IH 91 (o.lk (X.nm j)).2 0 (M := M) (H := H) (o := o) F2 d60 hj2 (by omega) (by decide)
  cases e1 : sR X o.lk n 0 0 (d + 1) (j + 2) with
  | none => rw [show j + 1 + 1 = j + 2 from rfl, e1] at I1; exact EndW.go st I1
  | some x =>
    rw [show j + 1 + 1 = j + 2 from rfl, e1] at I1
    obtain ⟨⟨b1, b2⟩, ⟨c1, c2, c3⟩, k1⟩ := I1
    have c2 : lvq (X.kd x.1) ≤ 0 := c2 (by omega)
    have s2 := aft_g (d := d + 1) (H := x.2 :: H) (o := o) (m := ⟨91, (o.lk (X.nm j)).2, 0⟩) (M := M) (c1 (by omega)) (c3 rfl) (by omega) (Tp.cons M (by omega) (by decide)) (by show ¬ 91 = 58; decide)
    have s3 : aGo X ⟨91, (o.lk (X.nm j)).2, 0⟩ x.1 (d + 1) M (x.2 :: H) o = if X.kd x.1 = 93 then some ⟨3, x.1 + 1, d, M, (o.lk (X.nm j)).2 :: H, o⟩ else none := by
      unfold aGo
      rw [if_neg (by simp [MkA.k, MkA.c, MkA.q]), if_neg (by simp [MkA.k, MkA.c, MkA.q])]
      by_cases z : X.kd x.1 = 93
      · rw [if_pos ⟨rfl, z⟩, if_pos z]; rfl
      · rw [if_neg (fun y => z y.2), if_neg (by simp [MkA.k, MkA.c, MkA.q]), if_neg (by simp [MkA.k, MkA.c, MkA.q]), if_neg (by simp [MkA.k, MkA.c, MkA.q]), if_neg (by simp [MkA.k, MkA.c, MkA.q]), if_neg z]
    show AOk X J 5 0 d j M H o ((ndq X (d + 1) x.1 93).bind fun _ => some (x.1 + 1, (o.lk (X.nm j)).2))
    rcases nd_c hbk (j := x.1) (show d + 1 ≤ 60 by omega) 93 with ⟨q1, q2⟩ | ⟨q1, q2⟩
    · rw [q1]
      rw [if_pos q2] at s3
      exact ⟨⟨by show j < x.1 + 1; omega, nxJ hJ b2 (by omega) (by omega)⟩, ⟨fun w => by omega, fun w => by omega, fun w => by omega⟩, fun r hr => EndW.go st (k1 r (EndW.go (s2.trans s3) hr))⟩
    · rw [q1]
      refine EndW.go st (k1 none ?_)
      by_cases z : X.kd x.1 = 93
      · rw [if_pos z] at s3
        exact EndW.go (s2.trans s3) (EndW.two (q2.resolve_left (fun y => y z)))
      · rw [if_neg z] at s3
        exact EndW.rej (s2.trans s3) (fun w => by cases w.1)
end SD
section SE
variable {X : TX} (hbk : ∀ i, X.bk i = true → X.kd i = 2) {J : Nat} (hJ : X.kd J = 1 ∨ X.kd J = 2) {n : Nat} (IH : IHA X J n)
/-- a call's beginning -/
theorem cpA (hbk : ∀ i, X.bk i = true → X.kd i = 2) (hJ : X.kd J = 1 ∨ X.kd J = 2) (IH : IHA X J n) {m0 d j : Nat} {M : List MkA} {H : List Nat} {o : OuA} (hm : 5 ≤ m0) (F : Fq (n + 1) m0 0 d) (hd : d ≤ 60) (hjJ : j ≤ J) (hk : 211 ≤ X.kd j ∧ X.kd j ≤ 216) (f : Nat × Nat → Option (Nat × Nat)) (hf : d < 60 → ∀ x : Nat × Nat, j + 2 < x.1 → x.1 ≤ J → ¬ X.kd x.1 = 91 → ¬ X.kd x.1 = 63 → lvq (X.kd x.1) = 0 → (∀ r, EndW X ⟨3, x.1, d + 1, ⟨X.kd j, 0, 0⟩ :: M, x.2 :: H, o⟩ r → EndW X ⟨2, j, d, M, H, o⟩ r) → AOk X J m0 0 d j M H o (f x)) : AOk X J m0 0 d j M H o ((gd (ps X d j)).bind fun _ => (ndq X d (j + 1) 40).bind fun _ => (sR X o.lk n 0 0 (d + 1) (j + 2)).bind f) := by
  unfold Fq rkq at F
  rw [if_neg (by omega), if_neg (by omega), if_neg (by omega), if_neg (by omega), if_neg (by omega)] at F
  have st : aSp X ⟨2, j, d, M, H, o⟩ = if X.kd (j + 1) = 40 ∧ d < 60 then some ⟨2, j + 2, d + 1, ⟨X.kd j, 0, 0⟩ :: M, H, o⟩ else none := by
    show aOp X j d M H o = _
    unfold aOp
    rw [if_neg (by omega), if_neg (by omega), if_neg (by omega), if_neg (by omega), if_neg (by omega), if_neg (by omega), if_pos hk]
  have rj : ¬ (X.kd (j + 1) = 40 ∧ d < 60) → EndW X ⟨2, j, d, M, H, o⟩ none := fun z => by
    rw [if_neg z] at st
    exact EndW.rej st (fun w => by cases w.1)
  have hj1 := nxJ hJ hjJ (by omega) (by omega)
  rcases ps_c hbk (j := j) hd with p | ⟨p, p2⟩
  rotate_left
  · rw [gd_f p]; exact rj (fun z => by omega)
  rw [gd_t p]
  rcases nd_c hbk (j := j + 1) hd 40 with ⟨q1, q2⟩ | ⟨q1, q2⟩
  rotate_left
  · have q2 : ¬ X.kd (j + 1) = 40 ∨ X.kd (j + 2) = 2 := q2
    rw [q1]
    show EndW X ⟨2, j, d, M, H, o⟩ none
    by_cases z : X.kd (j + 1) = 40 ∧ d < 60
    · rw [if_pos z] at st
      exact EndW.go st (EndW.two (q2.resolve_left (fun y => y z.1)))
    · exact rj z
  have hj2 := nxJ hJ hj1 (by omega) (by omega)
  rw [q1, Option.bind_some]
  by_cases d60 : d < 60
  rotate_left
  · rw [sR_61 n 0 0 (d + 1) (j + 2) (by omega)]
    exact rj (fun z => d60 z.2)
  rw [if_pos ⟨q2, d60⟩] at st
  have F2 : Fq n 0 0 (d + 1) := by unfold Fq rkq; rw [if_pos rfl]; omega
  have hl : lvq (X.kd j) = 0 := by
    by_cases z : 0 < lvq (X.kd j)
    · have := lvq_0 z; omega
    · omega
  have I1 := inA hbk hJ IH (X.kd j) 0 0 (M := M) (H := H) (o := o) F2 d60 hj2 (by omega) hl
  cases e1 : sR X o.lk n 0 0 (d + 1) (j + 2) with
  | none => rw [show j + 1 + 1 = j + 2 from rfl, e1] at I1; exact EndW.go st I1
  | some x =>
    rw [show j + 1 + 1 = j + 2 from rfl, e1] at I1
    obtain ⟨⟨b1, b2⟩, ⟨c1, c2, c3⟩, k1⟩ := I1
    have c2 : lvq (X.kd x.1) ≤ 0 := c2 (by omega)
    exact hf d60 x b1 b2 (c1 (by omega)) (c3 rfl) (by omega) (fun r hr => EndW.go st (k1 r hr))
theorem wiA (hbk : ∀ i, X.bk i = true → X.kd i = 2) (hJ : X.kd J = 1 ∨ X.kd J = 2) (IH : IHA X J n) {d j : Nat} {M : List MkA} {H : List Nat} {o : OuA} (F : Fq (n + 1) 6 0 d) (hd : d ≤ 60) (hjJ : j ≤ J) (hk : X.kd j = 211 ∨ X.kd j = 212) : AOk X J 6 0 d j M H o (sWi X (sR X o.lk n) d j) := by
  unfold sWi
  refine cpA hbk hJ IH (by omega) F hd hjJ (by omega) _ (fun d60 x b1 b2 c1 c3 c2 k1 => ?_)
  have hl : lvq (X.kd j) = 0 := by
    by_cases z : 0 < lvq (X.kd j)
    · have := lvq_0 z; omega
    · omega
  have s2 := aft_g (d := d + 1) (H := x.2 :: H) (o := o) (m := ⟨X.kd j, 0, 0⟩) (M := M) c1 c3 c2 (Tp.cons M (by omega) (by omega)) (by show ¬ X.kd j = 58; omega)
  have s3 : aGo X ⟨X.kd j, 0, 0⟩ x.1 (d + 1) M (x.2 :: H) o = if X.kd x.1 = 44 ∧ X.kd (x.1 + 1) = 4 ∧ X.kd (x.1 + 2) = 41 ∧ 1 ≤ X.nu (x.1 + 1) ∧ X.nu (x.1 + 1) ≤ 64 ∧ x.2 ≤ X.nu (x.1 + 1) then some ⟨3, x.1 + 3, d, M, X.nu (x.1 + 1) :: H, o⟩ else none := by
    unfold aGo
    rw [if_neg (by show ¬ (X.kd j = 63 ∧ _); omega), if_neg (by show ¬ (X.kd j = 123 ∧ _); omega), if_neg (by show ¬ (X.kd j = 91 ∧ _); omega), if_neg (by show ¬ (X.kd j = 40 ∧ _); omega)]
    by_cases z : X.kd x.1 = 44
    · rw [if_pos ⟨hk, z⟩]
      show (if X.kd (x.1 + 1) = 4 ∧ X.kd (x.1 + 2) = 41 ∧ 1 ≤ X.nu (x.1 + 1) ∧ X.nu (x.1 + 1) ≤ 64 ∧ x.2 ≤ X.nu (x.1 + 1) then some (CfA.mk 3 (x.1 + 3) (d + 1 - 1) M (X.nu (x.1 + 1) :: H) o) else none) = _
      by_cases y : X.kd (x.1 + 1) = 4 ∧ X.kd (x.1 + 2) = 41 ∧ 1 ≤ X.nu (x.1 + 1) ∧ X.nu (x.1 + 1) ≤ 64 ∧ x.2 ≤ X.nu (x.1 + 1)
      · rw [if_pos y, if_pos ⟨z, y⟩]; rfl
      · rw [if_neg y, if_neg (fun t => y t.2)]
    · rw [if_neg (fun y => z y.2), if_neg (by show ¬ ((213 ≤ X.kd j ∧ X.kd j ≤ 216) ∧ _); omega), if_neg (by show ¬ ((213 ≤ X.kd j ∧ X.kd j ≤ 216) ∧ _); omega), if_neg (fun y => z y.1)]
  have rj : ¬ (X.kd x.1 = 44 ∧ X.kd (x.1 + 1) = 4 ∧ X.kd (x.1 + 2) = 41 ∧ 1 ≤ X.nu (x.1 + 1) ∧ X.nu (x.1 + 1) ≤ 64 ∧ x.2 ≤ X.nu (x.1 + 1)) → EndW X ⟨2, j, d, M, H, o⟩ none := fun z => by
    rw [if_neg z] at s3
    exact k1 none (EndW.rej (s2.trans s3) (fun w => by cases w.1))
  have hd1 : d + 1 ≤ 60 := by omega
  rcases nd_c hbk (j := x.1) hd1 44 with ⟨q1, q2⟩ | ⟨q1, q2⟩
  rotate_left
  · rw [q1]; exact rj (fun z => by omega)
  have h1 := nxJ hJ b2 (by omega) (by omega)
  rw [q1, Option.bind_some]
  rcases nd_c hbk (j := x.1 + 1) hd1 4 with ⟨r1, r2⟩ | ⟨r1, r2⟩
  rotate_left
  · have r2 : ¬ X.kd (x.1 + 1) = 4 ∨ X.kd (x.1 + 2) = 2 := r2
    rw [r1]; exact rj (fun z => by omega)
  have h2 := nxJ hJ h1 (by omega) (by omega)
  rw [r1, Option.bind_some]
  rcases nd_c hbk (j := x.1 + 2) hd1 41 with ⟨t1, t2⟩ | ⟨t1, t2⟩
  rotate_left
  · rw [t1]
    show EndW X ⟨2, j, d, M, H, o⟩ none
    by_cases z : X.kd x.1 = 44 ∧ X.kd (x.1 + 1) = 4 ∧ X.kd (x.1 + 2) = 41 ∧ 1 ≤ X.nu (x.1 + 1) ∧ X.nu (x.1 + 1) ≤ 64 ∧ x.2 ≤ X.nu (x.1 + 1)
    · rw [if_pos z] at s3
      exact k1 none (EndW.go (s2.trans s3) (EndW.two (t2.resolve_left (fun y => y z.2.2.1))))
    · exact rj z
  have h3 := nxJ hJ h2 (by rw [show x.1 + 1 + 1 = x.1 + 2 from rfl]; omega) (by rw [show x.1 + 1 + 1 = x.1 + 2 from rfl]; omega)
  rw [t1, Option.bind_some]
  by_cases z : 1 ≤ X.nu (x.1 + 1) ∧ X.nu (x.1 + 1) ≤ 64 ∧ x.2 ≤ X.nu (x.1 + 1)
  · rw [if_pos z]
    rw [if_pos ⟨q2, r2, t2, z⟩] at s3
    exact ⟨⟨by show j < x.1 + 3; omega, h3⟩, ⟨fun w => by omega, fun w => by omega, fun w => by omega⟩, fun r hr => k1 r (EndW.go (s2.trans s3) hr)⟩
  · rw [if_neg z]; exact rj (fun y => z y.2.2.2)
theorem caA (hbk : ∀ i, X.bk i = true → X.kd i = 2) (hJ : X.kd J = 1 ∨ X.kd J = 2) (IH : IHA X J n) {d j : Nat} {M : List MkA} {H : List Nat} {o : OuA} (F : Fq (n + 1) 7 0 d) (hd : d ≤ 60) (hjJ : j ≤ J) (hk : 213 ≤ X.kd j ∧ X.kd j ≤ 216) : AOk X J 7 0 d j M H o (sCa X (sR X o.lk n) d j) := by
  have F0 := F
  unfold Fq rkq at F0
  rw [if_neg (by omega), if_neg (by omega), if_neg (by omega), if_neg (by omega), if_neg (by omega)] at F0
  unfold sCa
  refine cpA hbk hJ IH (by omega) F hd hjJ (by omega) _ (fun d60 x b1 b2 c1 c3 c2 k1 => ?_)
  have hl : lvq (X.kd j) = 0 := by
    by_cases z : 0 < lvq (X.kd j)
    · have := lvq_0 z; omega
    · omega
  have s2 := aft_g (d := d + 1) (H := x.2 :: H) (o := o) (m := ⟨X.kd j, 0, 0⟩) (M := M) c1 c3 c2 (Tp.cons M (by omega) (by omega)) (by show ¬ X.kd j = 58; omega)
  have s3 : aGo X ⟨X.kd j, 0, 0⟩ x.1 (d + 1) M (x.2 :: H) o = if X.kd x.1 = 44 then some ⟨2, x.1 + 1, d + 1, ⟨X.kd j, 1, 0⟩ :: M, x.2 :: H, o⟩ else none := by
    unfold aGo
    rw [if_neg (by show ¬ (X.kd j = 63 ∧ _); omega), if_neg (by show ¬ (X.kd j = 123 ∧ _); omega), if_neg (by show ¬ (X.kd j = 91 ∧ _); omega), if_neg (by show ¬ (X.kd j = 40 ∧ _); omega), if_neg (by show ¬ ((X.kd j = 211 ∨ X.kd j = 212) ∧ _); omega)]
    by_cases z : X.kd x.1 = 44
    · rw [if_pos ⟨hk, z, rfl⟩, if_pos z]
    · rw [if_neg (fun y => z y.2.1), if_neg (fun y => y.2.2 rfl), if_neg z]
  have hd1 : d + 1 ≤ 60 := by omega
  rcases nd_c hbk (j := x.1) hd1 44 with ⟨q1, q2⟩ | ⟨q1, q2⟩
  rotate_left
  · rw [q1]
    show EndW X ⟨2, j, d, M, H, o⟩ none
    by_cases z : X.kd x.1 = 44
    · rw [if_pos z] at s3
      exact k1 none (EndW.go (s2.trans s3) (EndW.two (q2.resolve_left (fun y => y z))))
    · rw [if_neg z] at s3
      exact k1 none (EndW.rej (s2.trans s3) (fun w => by cases w.1))
  have h1 := nxJ hJ b2 (by omega) (by omega)
  rw [q1, Option.bind_some]
  rw [if_pos q2] at s3
  have F2 : Fq n 0 0 (d + 1) := by unfold Fq rkq; rw [if_pos rfl]; omega
  have I2 := inA hbk hJ IH (X.kd j) 1 0 (M := M) (H := x.2 :: H) (o := o) F2 d60 h1 (by omega) hl
  cases e2 : sR X o.lk n 0 0 (d + 1) (x.1 + 1) with
  | none => rw [e2] at I2; exact k1 none (EndW.go (s2.trans s3) I2)
  | some y =>
    rw [e2] at I2
    obtain ⟨⟨b3, b4⟩, ⟨d1, d2, d3⟩, k2⟩ := I2
    have d2 : lvq (X.kd y.1) ≤ 0 := d2 (by omega)
    have s4 := aft_g (d := d + 1) (H := y.2 :: x.2 :: H) (o := o) (m := ⟨X.kd j, 1, 0⟩) (M := M) (d1 (by omega)) (d3 rfl) (by omega) (Tp.cons M (by omega) (by omega)) (by show ¬ X.kd j = 58; omega)
    have s5 : aGo X ⟨X.kd j, 1, 0⟩ y.1 (d + 1) M (y.2 :: x.2 :: H) o = if X.kd y.1 = 41 then (tw (X.kd j) x.2 y.2).bind (fun z => some ⟨3, y.1 + 1, d, M, z :: H, o⟩) else none := by
      unfold aGo
      rw [if_neg (by show ¬ (X.kd j = 63 ∧ _); omega), if_neg (by show ¬ (X.kd j = 123 ∧ _); omega), if_neg (by show ¬ (X.kd j = 91 ∧ _); omega), if_neg (by show ¬ (X.kd j = 40 ∧ _); omega), if_neg (by show ¬ ((X.kd j = 211 ∨ X.kd j = 212) ∧ _); omega), if_neg (fun z => absurd (show 1 = 0 from z.2.2) (by decide))]
      by_cases z : X.kd y.1 = 41
      · rw [if_pos ⟨hk, z, by show ¬ 1 = 0; decide⟩, if_pos z]; rfl
      · rw [if_neg (fun y => z y.2.1), if_neg z]
    show AOk X J 7 0 d j M H o ((ndq X (d + 1) y.1 41).bind fun _ => (tw (X.kd j) x.2 y.2).bind fun z => some (y.1 + 1, z))
    rcases nd_c hbk (j := y.1) hd1 41 with ⟨t1, t2⟩ | ⟨t1, t2⟩
    rotate_left
    · rw [t1]
      refine k1 none (EndW.go (s2.trans s3) (k2 none ?_))
      by_cases z : X.kd y.1 = 41
      · rw [if_pos z] at s5
        cases e3 : tw (X.kd j) x.2 y.2 with
        | none => rw [e3] at s5; exact EndW.rej (s4.trans s5) (fun w => by cases w.1)
        | some u => rw [e3] at s5; exact EndW.go (s4.trans s5) (EndW.two (t2.resolve_left (fun y => y z)))
      · rw [if_neg z] at s5
        exact EndW.rej (s4.trans s5) (fun w => by cases w.1)
    rw [t1, Option.bind_some]
    rw [if_pos t2] at s5
    cases e3 : tw (X.kd j) x.2 y.2 with
    | none => rw [e3] at s5; exact k1 none (EndW.go (s2.trans s3) (k2 none (EndW.rej (s4.trans s5) (fun w => by cases w.1))))
    | some u =>
      rw [e3] at s5
      exact ⟨⟨by show j < y.1 + 1; omega, nxJ hJ b4 (by omega) (by omega)⟩, ⟨fun w => by omega, fun w => by omega, fun w => by omega⟩, fun r hr => k1 r (EndW.go (s2.trans s3) (k2 r (EndW.go (s4.trans s5) hr)))⟩
/-- the parts of a { -/
theorem tlA (hbk : ∀ i, X.bk i = true → X.kd i = 2) (hJ : X.kd J = 1 ∨ X.kd J = 2) (IH : IHA X J n) {d j0 : Nat} {M : List MkA} {H : List Nat} {o : OuA} (d60 : d < 60) (F2 : Fq n 0 0 (d + 1)) : ∀ (k j w c : Nat) (h : List Nat), j0 < j → j ≤ J → J - j < k → ¬ X.kd j = 91 → ¬ X.kd j = 63 → lvq (X.kd j) = 0 → ((c = 0 ∧ h = [w]) ∨ (¬ c = 0 ∧ ∃ x y, h = [y, x] ∧ w = x + y)) → (∀ r, EndW X ⟨3, j, d + 1, ⟨123, c, 0⟩ :: M, h ++ H, o⟩ r → EndW X ⟨2, j0, d, M, H, o⟩ r) → AOk X J 8 0 d j0 M H o (sTL X (sR X o.lk n) d k j w) := by
  intro k
  induction k with
  | zero => intro j w c h _ _ hh; omega
  | succ k ih =>
    intro j w c h hj0 hjJ hk h91 h63 hl hh cont
    have s2 := aft_g (d := d + 1) (H := h ++ H) (o := o) (m := ⟨123, c, 0⟩) (M := M) h91 h63 hl (Tp.cons M (by omega) (by decide)) (by show ¬ 123 = 58; decide)
    have s3 : aGo X ⟨123, c, 0⟩ j (d + 1) M (h ++ H) o = if X.kd j = 44 then some ⟨2, j + 1, d + 1, ⟨123, c + 1, 0⟩ :: M, w :: H, o⟩ else if X.kd j = 125 then (if w ≤ 64 then some ⟨3, j + 1, d, M, w :: H, o⟩ else none) else none := by
      have e1 : (if c = 0 then h ++ H else ((h ++ H).tail.headD 0 + (h ++ H).headD 0) :: (h ++ H).tail.tail) = w :: H := by
        rcases hh with ⟨h1, h2⟩ | ⟨h1, x, y, h2, h3⟩
        · rw [if_pos h1, h2]; rfl
        · rw [if_neg h1, h2, h3]; rfl
      have e2 : (if c = 0 then (h ++ H).headD 0 else (h ++ H).tail.headD 0 + (h ++ H).headD 0) = w := by
        rcases hh with ⟨h1, h2⟩ | ⟨h1, x, y, h2, h3⟩
        · rw [if_pos h1, h2]; rfl
        · rw [if_neg h1, h2, h3]; rfl
      unfold aGo
      rw [if_neg (by simp [MkA.k, MkA.c, MkA.q])]
      show (if 123 = 123 ∧ (X.kd j = 44 ∨ X.kd j = 125) then (if X.kd j = 44 then some (CfA.mk 2 (j + 1) (d + 1) (⟨123, c + 1, 0⟩ :: M) (if c = 0 then h ++ H else ((h ++ H).tail.headD 0 + (h ++ H).headD 0) :: (h ++ H).tail.tail) o) else if (if c = 0 then (h ++ H).headD 0 else (h ++ H).tail.headD 0 + (h ++ H).headD 0) ≤ 64 then some (CfA.mk 3 (j + 1) (d + 1 - 1) M (if c = 0 then h ++ H else ((h ++ H).tail.headD 0 + (h ++ H).headD 0) :: (h ++ H).tail.tail) o) else none) else _) = _
      rw [e1, e2]
      by_cases z : X.kd j = 44
      · rw [if_pos ⟨rfl, Or.inl z⟩, if_pos z, if_pos z]
      · by_cases y : X.kd j = 125
        · rw [if_pos ⟨rfl, Or.inr y⟩, if_neg z, if_neg z, if_pos y]; rfl
        · rw [if_neg (by omega), if_neg (by simp [MkA.k, MkA.c, MkA.q]), if_neg (by simp [MkA.k, MkA.c, MkA.q]), if_neg (by simp [MkA.k, MkA.c, MkA.q]), if_neg (by simp [MkA.k, MkA.c, MkA.q]), if_neg (by simp [MkA.k, MkA.c, MkA.q]), if_neg z, if_neg y]
    clear hh
    unfold sTL
    have hd1 : d + 1 ≤ 60 := by omega
    by_cases c44 : X.kd j = 44
    · rw [if_pos c44]
      rw [if_pos c44] at s3
      have h1 := nxJ hJ hjJ (by omega) (by omega)
      rcases ps_c hbk (j := j) hd1 with p | ⟨p, p2⟩
      rotate_left
      · rw [gd_f p]; exact cont none (EndW.go (s2.trans s3) (EndW.two p2))
      rw [gd_t p]
      have I1 := inA hbk hJ IH 123 (c + 1) 0 (M := M) (H := w :: H) (o := o) F2 d60 h1 (by omega) (by decide)
      cases e1 : sR X o.lk n 0 0 (d + 1) (j + 1) with
      | none => rw [e1] at I1; exact cont none (EndW.go (s2.trans s3) I1)
      | some x =>
        rw [e1] at I1
        obtain ⟨⟨b1, b2⟩, ⟨c1, c2, c3⟩, k1⟩ := I1
        have c2 : lvq (X.kd x.1) ≤ 0 := c2 (by omega)
        exact ih x.1 (w + x.2) (c + 1) [x.2, w] (by omega) b2 (by omega) (c1 (by omega)) (c3 rfl) (by omega) (Or.inr ⟨Nat.succ_ne_zero c, w, x.2, rfl, rfl⟩) (fun r hr => cont r (EndW.go (s2.trans s3) (k1 r hr)))
    · rw [if_neg c44]
      rw [if_neg c44] at s3
      rcases nd_c hbk (j := j) hd1 125 with ⟨t1, t2⟩ | ⟨t1, t2⟩
      · rw [t1, Option.bind_some]
        rw [if_pos t2] at s3
        by_cases z : w ≤ 64
        · rw [if_pos z] at s3 ⊢
          exact ⟨⟨by show j0 < j + 1; omega, nxJ hJ hjJ (by omega) (by omega)⟩, ⟨fun w => by omega, fun w => by omega, fun w => by omega⟩, fun r hr => cont r (EndW.go (s2.trans s3) hr)⟩
        · rw [if_neg z] at s3 ⊢
          exact cont none (EndW.rej (s2.trans s3) (fun w => by cases w.1))
      · rw [t1]
        refine cont none ?_
        by_cases z : X.kd j = 125
        · rw [if_pos z] at s3
          by_cases y : w ≤ 64
          · rw [if_pos y] at s3
            exact EndW.go (s2.trans s3) (EndW.two (t2.resolve_left (fun y => y z)))
          · rw [if_neg y] at s3
            exact EndW.rej (s2.trans s3) (fun w => by cases w.1)
        · rw [if_neg z] at s3
          exact EndW.rej (s2.trans s3) (fun w => by cases w.1)
theorem toA (hbk : ∀ i, X.bk i = true → X.kd i = 2) (hJ : X.kd J = 1 ∨ X.kd J = 2) (IH : IHA X J n) {d j : Nat} {M : List MkA} {H : List Nat} {o : OuA} (hJ2 : J ≤ 32768) (F : Fq (n + 1) 8 0 d) (hd : d ≤ 60) (hjJ : j ≤ J) (hk : X.kd j = 123) : AOk X J 8 0 d j M H o (sTo X (sR X o.lk n) d j) := by
  unfold Fq rkq at F
  rw [if_neg (by omega), if_neg (by omega), if_neg (by omega), if_neg (by omega), if_neg (by omega)] at F
  have st : aSp X ⟨2, j, d, M, H, o⟩ = if d < 60 then some ⟨2, j + 1, d + 1, ⟨123, 0, 0⟩ :: M, H, o⟩ else none := by
    show aOp X j d M H o = _
    unfold aOp
    rw [if_neg (by omega), if_neg (by omega), if_neg (by omega), if_pos (Or.inr hk), hk]
  have hj1 := nxJ hJ hjJ (by omega) (by omega)
  unfold sTo
  by_cases d60 : d < 60
  rotate_left
  · rw [if_neg d60] at st
    rw [sR_61 n 0 0 (d + 1) (j + 1) (by omega)]
    have : ((gd (ps X d j)).bind fun _ => (none : Option (Nat × Nat)).bind fun x => sTL X (sR X o.lk n) d 200000 x.1 x.2) = none := by cases gd (ps X d j) <;> rfl
    rw [this]
    exact EndW.rej st (fun w => by cases w.1)
  rw [if_pos d60] at st
  rcases ps_c hbk (j := j) hd with p | ⟨p, p2⟩
  rotate_left
  · rw [gd_f p]; exact EndW.go st (EndW.two p2)
  rw [gd_t p]
  have F2 : Fq n 0 0 (d + 1) := by unfold Fq rkq; rw [if_pos rfl]; omega
  have I1 := inA hbk hJ IH 123 0 0 (M := M) (H := H) (o := o) F2 d60 hj1 (by omega) (by decide)
  cases e1 : sR X o.lk n 0 0 (d + 1) (j + 1) with
  | none => rw [e1] at I1; exact EndW.go st I1
  | some x =>
    rw [e1] at I1
    obtain ⟨⟨b1, b2⟩, ⟨c1, c2, c3⟩, k1⟩ := I1
    have c2 : lvq (X.kd x.1) ≤ 0 := c2 (by omega)
    exact tlA hbk hJ IH d60 F2 200000 x.1 x.2 0 [x.2] (by omega) b2 (by omega) (c1 (by omega)) (c3 rfl) (by omega) (Or.inl ⟨rfl, rfl⟩) (fun r hr => EndW.go st (k1 r hr))
theorem prA (hbk : ∀ i, X.bk i = true → X.kd i = 2) (hJ : X.kd J = 1 ∨ X.kd J = 2) (IH : IHA X J n) {d j : Nat} {M : List MkA} {H : List Nat} {o : OuA} (F : Fq (n + 1) 4 0 d) (hd : d ≤ 60) (hjJ : j ≤ J) (hsg : ¬ (X.kd j = 45 ∨ X.kd j = 126 ∨ X.kd j = 33)) : AOk X J 4 0 d j M H o (sPr X (sR X o.lk n) d j) := by
  unfold Fq rkq at F
  rw [if_neg (by omega), if_neg (by omega), if_neg (by omega), if_neg (by omega), if_pos rfl] at F
  have F1 : ∀ mo, 5 ≤ mo → Fq n mo 0 d := fun mo hmo => by unfold Fq rkq; rw [if_neg (by omega), if_neg (by omega), if_neg (by omega), if_neg (by omega), if_neg (by omega)]; omega
  have call : ∀ mo, 5 ≤ mo → preA mo (X.kd j) → AOk X J 4 0 d j M H o (sR X o.lk n mo 0 d j) := fun mo hmo hp => by
    have I1 := IH mo 0 d j M H o (F1 mo hmo) hd hjJ hp (fun w => by omega) (fun w => by omega) (fun w => by omega)
    cases e1 : sR X o.lk n mo 0 d j with
    | none => rw [e1] at I1; exact I1
    | some x =>
      rw [e1] at I1
      exact ⟨I1.1, ⟨fun w => by omega, fun w => by omega, fun w => by omega⟩, I1.2.2⟩
  unfold sPr
  by_cases k4 : X.kd j = 4
  · rw [if_pos k4]; exact liA hbk hJ rfl hd hjJ k4
  rw [if_neg k4]
  by_cases k40 : X.kd j = 40
  · rw [if_pos k40]
    by_cases d61 : d + 1 ≤ 61
    · exact paA hbk hJ IH (by unfold Fq rkq; rw [if_pos rfl]; omega) hd hjJ k40
    · omega
  rw [if_neg k40]
  by_cases k123 : X.kd j = 123
  · rw [if_pos k123]; exact call 8 (by omega) ⟨by omega, fun w => by omega, fun w => by omega, fun w => by omega, fun _ => k123, fun w => by omega⟩
  rw [if_neg k123]
  by_cases k21 : X.kd j = 211 ∨ X.kd j = 212
  · rw [if_pos k21]; exact call 6 (by omega) ⟨by omega, fun w => by omega, fun _ => k21, fun w => by omega, fun w => by omega, fun w => by omega⟩
  rw [if_neg k21]
  by_cases k22 : 213 ≤ X.kd j ∧ X.kd j ≤ 216
  · rw [if_pos k22]; exact call 7 (by omega) ⟨by omega, fun w => by omega, fun w => by omega, fun _ => k22, fun w => by omega, fun w => by omega⟩
  rw [if_neg k22]
  by_cases k3 : X.kd j = 3
  · rw [if_pos k3]; exact call 5 (by omega) ⟨by omega, fun _ => k3, fun w => by omega, fun w => by omega, fun w => by omega, fun w => by omega⟩
  rw [if_neg k3]
  refine EndW.rej ?_ (fun w => by cases w.1)
  show aOp X j d M H o = none
  unfold aOp
  rw [if_neg (by omega), if_neg (by omega), if_neg (by omega), if_neg (by omega), if_neg k4, if_neg k3, if_neg (by omega)]
end SE
/-- A reads an EXPR as S does -/
theorem xAq {X : TX} (hbk : ∀ i, X.bk i = true → X.kd i = 2) {J : Nat} (hJ : X.kd J = 1 ∨ X.kd J = 2) (hJ2 : J ≤ 32768) : ∀ n, IHA X J n := by
  intro n
  induction n with
  | zero => intro m a d j M H o F; unfold Fq at F; omega
  | succ n IH =>
    intro m a d j M H o F hd hjJ hp ha h0 h1
    obtain ⟨hm, p5, p6, p7, p8, p34⟩ := hp
    have ze : ∀ {mo a}, ¬ mo = 1 → Fq (n + 1) mo a d → Fq (n + 1) mo 0 d := fun h1 F => by
      unfold Fq rkq at *
      rw [if_neg h1] at *
      exact F
    have zs : ∀ {mo a : Nat}, ¬ mo = 1 → AOk X J mo 0 d j M H o (sR X o.lk (n + 1) mo a d j) → AOk X J mo a d j M H o (sR X o.lk (n + 1) mo a d j) := fun {mo a} h1 K => by
      cases e : sR X o.lk (n + 1) mo a d j with
      | none => rw [e] at K; exact K
      | some r =>
        rw [e] at K
        refine ⟨K.1, ⟨K.2.1.1, fun w => ?_, K.2.1.2.2⟩, K.2.2⟩
        have := K.2.1.2.1 w
        by_cases c : mo = 0
        · rw [if_pos c] at this ⊢; exact this
        · omega
    match m, hm with
    | 0, _ => exact zs (by decide) (exA hbk hJ IH (ze (by decide) F) hd hjJ (h0 rfl))
    | 1, _ => exact biA hbk hJ IH (ha rfl) hJ2 F hd hjJ (h1 rfl)
    | 2, _ => exact zs (by decide) (unA hbk hJ IH (ze (by decide) F) hd hjJ)
    | 3, _ => exact zs (by decide) (poA hbk hJ IH hJ2 (ze (by decide) F) hd hjJ (p34 (Or.inl rfl)))
    | 4, _ => exact zs (by decide) (prA hbk hJ IH (ze (by decide) F) hd hjJ (p34 (Or.inr rfl)))
    | 5, _ => exact zs (by decide) (nmA hbk hJ IH (ze (by decide) F) hd hjJ (p5 rfl))
    | 6, _ => exact zs (by decide) (wiA hbk hJ IH (ze (by decide) F) hd hjJ (p6 rfl))
    | 7, _ => exact zs (by decide) (caA hbk hJ IH (ze (by decide) F) hd hjJ (p7 rfl))
    | 8, _ => exact zs (by decide) (toA hbk hJ IH hJ2 (ze (by decide) F) hd hjJ (p8 rfl))
section SF
variable {X : TX}
theorem nd_61 {d j k : Nat} (h : 61 ≤ d) : ndq X d j k = none := by
  unfold ndq gd
  rw [ps_61 h, Bool.and_false]; rfl
theorem sS_61 {lk : LK} {le : Nat} (n d j : Nat) (hd : 61 ≤ d) : sS X n 1 lk le d j = none := by
  cases n with
  | zero => rfl
  | succ n =>
    rw [sS_1]
    unfold sSm
    split
    · unfold sLe; rw [gd_f (ps_61 hd)]
    split
    · unfold sTr; rw [gd_f (ps_61 hd)]
    split
    · cases n with
      | zero => rfl
      | succ n =>
        rw [sS_2]
        unfold sIs sIL
        rw [gd_f (ps_61 hd)]
    · unfold sAs; rw [nd_61 hd]; rfl
variable (hbk : ∀ i, X.bk i = true → X.kd i = 2) {J : Nat} (hJ : X.kd J = 1 ∨ X.kd J = 2) (hJ2 : J ≤ 32768)
theorem e8A (hbk : ∀ i, X.bk i = true → X.kd i = 2) (hJ : X.kd J = 1 ∨ X.kd J = 2) (hJ2 : J ≤ 32768) {d j : Nat} {o : OuA} (hd : d ≤ 60) (hjJ : j ≤ J) : AOk X J 0 0 d j [] [] o (sE8 X o.lk d j) :=
  xAq hbk hJ hJ2 868 0 0 d j [] [] o (F868 (by omega)) hd hjJ (preA0 (by omega)) (fun w => by omega) (fun _ => fun m M' e => by cases e) (fun w => by omega)
/-- an EXPR over: the goal -/
theorem finA {d j w : Nat} {o : OuA} (h91 : ¬ X.kd j = 91) (h63 : ¬ X.kd j = 63) (hl : lvq (X.kd j) = 0) : aSp X ⟨3, j, d, [], [w], o⟩ = aFi X j d [w] o := by
  rw [aft_0 h91 hl (fun m M' e => by cases e)]
  unfold aCh
  rw [if_neg h63]
  rfl
/-- a statement, not if -/
theorem ltA (hbk : ∀ i, X.bk i = true → X.kd i = 2) (hJ : X.kd J = 1 ∨ X.kd J = 2) (hJ2 : J ≤ 32768) {lk : LK} {le d j : Nat} {g1 g3 : Nat} {g2 : List Nat} {bl : List (Nat × LK)} {s : SI} (hd : d ≤ 60) (hjJ : j ≤ J) (hk : X.kd j = 207) : match sLe X lk le d j with
    | none => EndW X ⟨1, j, d, [], [], ⟨g1, g2, g3, bl, lk, le, s⟩⟩ none
    | some r => (j < r.1 ∧ r.1 ≤ J) ∧ ∃ a1 a2 a3, ∀ z, EndW X ⟨1, r.1, d, [], [], ⟨a1, a2, a3, bl, r.2.1, r.2.2, s⟩⟩ z → EndW X ⟨1, j, d, [], [], ⟨g1, g2, g3, bl, lk, le, s⟩⟩ z := by
  have st : aSp X ⟨1, j, d, [], [], ⟨g1, g2, g3, bl, lk, le, s⟩⟩ = if X.kd (j + 1) = 3 ∧ X.kd (j + 2) = 61 ∧ (lk (X.nm (j + 1))).1 = 0 ∧ le < 64 then some ⟨2, j + 3, d, [], [], ⟨0, X.nm (j + 1), g3, bl, lk, le, s⟩⟩ else none := by
    show aSt X j d _ = _
    unfold aSt
    rw [if_pos hk]
  have rj : ¬ (X.kd (j + 1) = 3 ∧ X.kd (j + 2) = 61 ∧ (lk (X.nm (j + 1))).1 = 0 ∧ le < 64) → EndW X ⟨1, j, d, [], [], ⟨g1, g2, g3, bl, lk, le, s⟩⟩ none := fun z => by
    rw [if_neg z] at st
    exact EndW.rej st (fun w => by cases w.1)
  have hj1 := nxJ hJ hjJ (by omega) (by omega)
  unfold sLe
  rcases ps_c hbk (j := j) hd with p | ⟨p, p2⟩
  rotate_left
  · rw [gd_f p]; exact rj (fun z => by omega)
  rw [gd_t p]
  rcases nd_c hbk (j := j + 1) hd 3 with ⟨q1, q2⟩ | ⟨q1, q2⟩
  rotate_left
  · have q2 : ¬ X.kd (j + 1) = 3 ∨ X.kd (j + 2) = 2 := q2
    rw [q1]; exact rj (fun z => by omega)
  have hj2 := nxJ hJ hj1 (by omega) (by omega)
  rw [q1, Option.bind_some]
  by_cases ok : X.kd (j + 1) = 3 ∧ X.kd (j + 2) = 61 ∧ (lk (X.nm (j + 1))).1 = 0 ∧ le < 64
  rotate_left
  · -- the class rejects at once; S in the end
    have hS : ((ndq X d (j + 2) 61).bind fun _ => (sE8 X lk d (j + 3)).bind fun x => (ndq X d x.1 59).bind fun _ => if (lk (X.nm (j + 1))).1 = 0 ∧ le < 64 then some (x.1 + 1, updK lk (X.nm (j + 1)) (3, x.2), le + 1) else none) = none := by
      by_cases z : X.kd (j + 2) = 61
      · have ng : ¬ ((lk (X.nm (j + 1))).1 = 0 ∧ le < 64) := fun y => ok ⟨q2, z, y⟩
        cases ndq X d (j + 2) 61 with
        | none => rfl
        | some u =>
          show ((sE8 X lk d (j + 3)).bind fun x => _) = none
          cases sE8 X lk d (j + 3) with
          | none => rfl
          | some x =>
            show ((ndq X d x.1 59).bind fun _ => _) = none
            cases ndq X d x.1 59 with
            | none => rfl
            | some u => show (if _ then _ else none) = none; rw [if_neg ng]
      · have : ndq X d (j + 2) 61 = none := by unfold ndq gd; rw [nbq z]; rfl
        rw [this]; rfl
    rw [hS]
    exact rj ok
  rw [if_pos ok] at st
  rcases nd_c hbk (j := j + 2) hd 61 with ⟨r1, r2⟩ | ⟨r1, r2⟩
  rotate_left
  · rw [r1]
    exact EndW.go st (EndW.two (r2.resolve_left (fun y => y ok.2.1)))
  have hj3 := nxJ hJ hj2 (by rw [show j + 1 + 1 = j + 2 from rfl]; omega) (by rw [show j + 1 + 1 = j + 2 from rfl]; omega)
  rw [r1, Option.bind_some]
  have I1 := e8A hbk hJ hJ2 (o := ⟨0, X.nm (j + 1), g3, bl, lk, le, s⟩) hd hj3
  cases e1 : sE8 X lk d (j + 3) with
  | none =>
    have I1 : AOk X J 0 0 d (j + 3) [] [] _ (sE8 X lk d (j + 3)) := I1
    rw [e1] at I1; exact EndW.go st I1
  | some x =>
    have I1 : AOk X J 0 0 d (j + 3) [] [] _ (sE8 X lk d (j + 3)) := I1
    rw [e1] at I1
    obtain ⟨⟨b1, b2⟩, ⟨c1, c2, c3⟩, k1⟩ := I1
    have c2 : lvq (X.kd x.1) ≤ 0 := c2 (by omega)
    have s2 := finA (d := d) (w := x.2) (o := ⟨0, X.nm (j + 1), g3, bl, lk, le, s⟩) (c1 (by omega)) (c3 rfl) (by omega)
    have s3 : aFi X x.1 d [x.2] ⟨0, X.nm (j + 1), g3, bl, lk, le, s⟩ = if X.kd x.1 = 59 then some ⟨1, x.1 + 1, d, [], [], ⟨0, X.nm (j + 1), g3, bl, updK lk (X.nm (j + 1)) (3, x.2), le + 1, s⟩⟩ else none := rfl
    show match ((ndq X d x.1 59).bind fun _ => if (lk (X.nm (j + 1))).1 = 0 ∧ le < 64 then some (x.1 + 1, updK lk (X.nm (j + 1)) (3, x.2), le + 1) else none) with | none => _ | some r => _
    rw [if_pos ⟨ok.2.2.1, ok.2.2.2⟩]
    rcases nd_c hbk (j := x.1) hd 59 with ⟨t1, t2⟩ | ⟨t1, t2⟩
    · rw [t1]
      rw [if_pos t2] at s3
      exact ⟨⟨by show j < x.1 + 1; omega, nxJ hJ b2 (by omega) (by omega)⟩, _, _, _, fun z hz => EndW.go st (k1 z (EndW.go (s2.trans s3) hz))⟩
    · rw [t1]
      refine EndW.go st (k1 none ?_)
      by_cases z : X.kd x.1 = 59
      · rw [if_pos z] at s3
        exact EndW.go (s2.trans s3) (EndW.two (t2.resolve_left (fun y => y z)))
      · rw [if_neg z] at s3
        exact EndW.rej (s2.trans s3) (fun w => by cases w.1)
theorem trA (hbk : ∀ i, X.bk i = true → X.kd i = 2) (hJ : X.kd J = 1 ∨ X.kd J = 2) (hJ2 : J ≤ 32768) {lk : LK} {le d j : Nat} {o : OuA} (hd : d ≤ 60) (hjJ : j ≤ J) (hk : X.kd j = 208) : match sTr X lk le d j with
    | none => EndW X ⟨1, j, d, [], [], o⟩ none
    | some r => (j < r.1 ∧ r.1 ≤ J) ∧ r.2 = (lk, le) ∧ ∀ z, EndW X ⟨1, r.1, d, [], [], o⟩ z → EndW X ⟨1, j, d, [], [], o⟩ z := by
  have st : aSp X ⟨1, j, d, [], [], o⟩ = if X.kd (j + 1) = 4 ∧ X.kd (j + 2) = 59 ∧ 1 ≤ X.nu (j + 1) ∧ X.nu (j + 1) ≤ 1000000 then some ⟨1, j + 3, d, [], [], o⟩ else none := by
    show aSt X j d _ = _
    unfold aSt
    rw [if_neg (by omega), if_neg (by omega), if_pos hk]
  have rj : ¬ (X.kd (j + 1) = 4 ∧ X.kd (j + 2) = 59 ∧ 1 ≤ X.nu (j + 1) ∧ X.nu (j + 1) ≤ 1000000) → EndW X ⟨1, j, d, [], [], o⟩ none := fun z => by
    rw [if_neg z] at st
    exact EndW.rej st (fun w => by cases w.1)
  have hj1 := nxJ hJ hjJ (by omega) (by omega)
  unfold sTr
  rcases ps_c hbk (j := j) hd with p | ⟨p, p2⟩
  rotate_left
  · rw [gd_f p]; exact rj (fun z => by omega)
  rw [gd_t p]
  rcases nd_c hbk (j := j + 1) hd 4 with ⟨q1, q2⟩ | ⟨q1, q2⟩
  rotate_left
  · have q2 : ¬ X.kd (j + 1) = 4 ∨ X.kd (j + 2) = 2 := q2
    rw [q1]; exact rj (fun z => by omega)
  have hj2 := nxJ hJ hj1 (by omega) (by omega)
  rw [q1, Option.bind_some]
  rcases nd_c hbk (j := j + 2) hd 59 with ⟨r1, r2⟩ | ⟨r1, r2⟩
  rotate_left
  · rw [r1]
    show EndW X ⟨1, j, d, [], [], o⟩ none
    by_cases z : X.kd (j + 1) = 4 ∧ X.kd (j + 2) = 59 ∧ 1 ≤ X.nu (j + 1) ∧ X.nu (j + 1) ≤ 1000000
    · rw [if_pos z] at st
      exact EndW.go st (EndW.two (r2.resolve_left (fun y => y z.2.1)))
    · exact rj z
  have hj3 := nxJ hJ hj2 (by rw [show j + 1 + 1 = j + 2 from rfl]; omega) (by rw [show j + 1 + 1 = j + 2 from rfl]; omega)
  rw [r1, Option.bind_some]
  by_cases z : 1 ≤ X.nu (j + 1) ∧ X.nu (j + 1) ≤ 1000000
  · rw [if_pos z]
    rw [if_pos ⟨q2, r2, z⟩] at st
    exact ⟨⟨by show j < j + 3; omega, hj3⟩, rfl, fun r hr => EndW.go st hr⟩
  · rw [if_neg z]
    exact rj (fun y => z y.2.2)
/-- behind the = -/
theorem a2A (hbk : ∀ i, X.bk i = true → X.kd i = 2) (hJ : X.kd J = 1 ∨ X.kd J = 2) (hJ2 : J ≤ 32768) {lk : LK} {le d j i k : Nat} {o : OuA} (hlk : o.lk = lk) (hgl : (o.gl = 2 ∧ k = 1) ∨ (o.gl = 3 ∧ k = 2)) (hw : lk (X.nm j) = (k, o.gw)) (hd : d ≤ 60) (hiJ : i ≤ J) (hi : X.kd i = 61) : match sA2 X lk le d j k i with
    | none => EndW X ⟨2, i + 1, d, [], [], o⟩ none
    | some r => (i < r.1 ∧ r.1 ≤ J) ∧ r.2 = (lk, le) ∧ ∀ z, EndW X ⟨1, r.1, d, [], [], o⟩ z → EndW X ⟨2, i + 1, d, [], [], o⟩ z := by
  have hi1 := nxJ hJ hiJ (by omega) (by omega)
  unfold sA2
  rcases nd_c hbk (j := i) hd 61 with ⟨q1, q2⟩ | ⟨q1, q2⟩
  rotate_left
  · rw [q1]; exact EndW.two (q2.resolve_left (fun y => y hi))
  rw [q1, Option.bind_some]
  have I1 := e8A hbk hJ hJ2 (o := o) hd hi1
  rw [hlk] at I1
  cases e1 : sE8 X lk d (i + 1) with
  | none => rw [e1] at I1; exact I1
  | some x =>
    rw [e1] at I1
    obtain ⟨⟨b1, b2⟩, ⟨c1, c2, c3⟩, k1⟩ := I1
    have c2 : lvq (X.kd x.1) ≤ 0 := c2 (by omega)
    have s2 := finA (d := d) (w := x.2) (o := o) (c1 (by omega)) (c3 rfl) (by omega)
    have s3 : aFi X x.1 d [x.2] o = if o.gw = x.2 ∧ X.kd x.1 = 59 then some ⟨1, x.1 + 1, d, [], [], o⟩ else none := by
      unfold aFi
      rw [if_neg (by omega), if_neg (by omega), if_neg (by omega)]
      rfl
    have hiff : lk (X.nm j) = (k, x.2) ↔ o.gw = x.2 := by
      rw [hw]
      exact ⟨fun z => congrArg Prod.snd z, fun z => by rw [z]⟩
    show match ((ndq X d x.1 59).bind fun _ => if lk (X.nm j) = (k, x.2) then some (x.1 + 1, lk, le) else none) with | none => _ | some r => _
    rcases nd_c hbk (j := x.1) hd 59 with ⟨t1, t2⟩ | ⟨t1, t2⟩
    · rw [t1, Option.bind_some]
      by_cases z : o.gw = x.2
      · rw [if_pos (hiff.mpr z)]
        rw [if_pos ⟨z, t2⟩] at s3
        exact ⟨⟨by show i < x.1 + 1; omega, nxJ hJ b2 (by omega) (by omega)⟩, rfl, fun r hr => k1 r (EndW.go (s2.trans s3) hr)⟩
      · rw [if_neg (fun y => z (hiff.mp y))]
        rw [if_neg (fun y => z y.1)] at s3
        exact k1 none (EndW.rej (s2.trans s3) (fun w => by cases w.1))
    · rw [t1]
      refine k1 none ?_
      by_cases z : o.gw = x.2 ∧ X.kd x.1 = 59
      · rw [if_pos z] at s3
        exact EndW.go (s2.trans s3) (EndW.two (t2.resolve_left (fun y => y z.2)))
      · rw [if_neg z] at s3
        exact EndW.rej (s2.trans s3) (fun w => by cases w.1)
theorem sA2_n {lk : LK} {le d j i k : Nat} (h : ¬ (lk (X.nm j)).1 = k) : sA2 X lk le d j k i = none := by
  unfold sA2
  cases ndq X d i 61 with
  | none => rfl
  | some u =>
    show ((sE8 X lk d (i + 1)).bind fun x => _) = none
    cases sE8 X lk d (i + 1) with
    | none => rfl
    | some x =>
      show ((ndq X d x.1 59).bind fun _ => _) = none
      cases ndq X d x.1 59 with
      | none => rfl
      | some u => show (if _ then _ else none) = none; rw [if_neg (fun z => h (congrArg Prod.fst z))]
theorem asA (hbk : ∀ i, X.bk i = true → X.kd i = 2) (hJ : X.kd J = 1 ∨ X.kd J = 2) (hJ2 : J ≤ 32768) {lk : LK} {le d j : Nat} {g1 g3 : Nat} {g2 : List Nat} {bl : List (Nat × LK)} {s : SI} (hd : d ≤ 60) (hjJ : j ≤ J) (hk : X.kd j = 3) : match sAs X lk le d j with
    | none => EndW X ⟨1, j, d, [], [], ⟨g1, g2, g3, bl, lk, le, s⟩⟩ none
    | some r => (j < r.1 ∧ r.1 ≤ J) ∧ ∃ a1 a2 a3, ∀ z, EndW X ⟨1, r.1, d, [], [], ⟨a1, a2, a3, bl, r.2.1, r.2.2, s⟩⟩ z → EndW X ⟨1, j, d, [], [], ⟨g1, g2, g3, bl, lk, le, s⟩⟩ z := by
  have st : aSp X ⟨1, j, d, [], [], ⟨g1, g2, g3, bl, lk, le, s⟩⟩ = if X.kd (j + 1) = 91 then (if (lk (X.nm j)).1 = 2 ∧ d < 60 then some ⟨2, j + 2, d + 1, [], [], ⟨1, g2, (lk (X.nm j)).2, bl, lk, le, s⟩⟩ else none) else if (lk (X.nm j)).1 = 1 ∧ X.kd (j + 1) = 61 then some ⟨2, j + 2, d, [], [], ⟨2, g2, (lk (X.nm j)).2, bl, lk, le, s⟩⟩ else none := by
    show aSt X j d _ = _
    unfold aSt
    rw [if_neg (by omega), if_pos hk]
  have hj1 := nxJ hJ hjJ (by omega) (by omega)
  unfold sAs
  rcases nd_c hbk (j := j) hd 3 with ⟨q1, q2⟩ | ⟨q1, q2⟩
  rotate_left
  · rw [q1]
    have q3 := q2.resolve_left (fun y => y hk)
    rw [if_neg (by omega), if_neg (by omega)] at st
    exact EndW.rej st (fun w => by cases w.1)
  rw [q1, Option.bind_some]
  by_cases c : X.kd (j + 1) = 91
  rotate_left
  · rw [if_neg c]
    rw [if_neg c] at st
    by_cases l1 : (lk (X.nm j)).1 = 1
    rotate_left
    · rw [sA2_n l1]
      rw [if_neg (fun z => l1 z.1)] at st
      exact EndW.rej st (fun w => by cases w.1)
    by_cases k61 : X.kd (j + 1) = 61
    rotate_left
    · have : sA2 X lk le d j 1 (j + 1) = none := by
        unfold sA2
        have : ndq X d (j + 1) 61 = none := by unfold ndq gd; rw [nbq k61]; rfl
        rw [this]; rfl
      rw [this]
      rw [if_neg (fun z => k61 z.2)] at st
      exact EndW.rej st (fun w => by cases w.1)
    rw [if_pos ⟨l1, k61⟩] at st
    have A := a2A hbk hJ hJ2 (lk := lk) (le := le) (j := j) (i := j + 1) (k := 1) (o := ⟨2, g2, (lk (X.nm j)).2, bl, lk, le, s⟩) rfl (Or.inl ⟨rfl, rfl⟩) (by rw [← l1]) hd hj1 k61
    cases e : sA2 X lk le d j 1 (j + 1) with
    | none => rw [e] at A; exact EndW.go st A
    | some r =>
      rw [e] at A
      obtain ⟨⟨a1, a2⟩, a3, a4⟩ := A
      refine ⟨⟨by omega, a2⟩, 2, g2, (lk (X.nm j)).2, fun z hz => EndW.go st (a4 z ?_)⟩
      rw [a3] at hz; exact hz
  rw [if_pos c]
  rw [if_pos c] at st
  have hj2 := nxJ hJ hj1 (by omega) (by omega)
  by_cases l2 : (lk (X.nm j)).1 = 2 ∧ d < 60
  rotate_left
  · have : ((gd (ps X d (j + 1))).bind fun _ => (sE8 X lk (d + 1) (j + 2)).bind fun i => (ndq X (d + 1) i.1 93).bind fun _ => sA2 X lk le d j 2 (i.1 + 1)) = none := by
      by_cases l3 : (lk (X.nm j)).1 = 2
      · have : sE8 X lk (d + 1) (j + 2) = none := sR_61 868 0 0 (d + 1) (j + 2) (by omega)
        rw [this]
        cases gd (ps X d (j + 1)) <;> rfl
      · cases gd (ps X d (j + 1)) with
        | none => rfl
        | some u =>
          show ((sE8 X lk (d + 1) (j + 2)).bind fun i => _) = none
          cases sE8 X lk (d + 1) (j + 2) with
          | none => rfl
          | some x =>
            show ((ndq X (d + 1) x.1 93).bind fun _ => _) = none
            rw [sA2_n l3]
            cases ndq X (d + 1) x.1 93 <;> rfl
    rw [this]
    rw [if_neg l2] at st
    exact EndW.rej st (fun w => by cases w.1)
  rw [if_pos l2] at st
  rcases ps_c hbk (j := j + 1) hd with p | ⟨p, p2⟩
  rotate_left
  · rw [gd_f p]; exact EndW.go st (EndW.two p2)
  rw [gd_t p]
  have hd1 : d + 1 ≤ 60 := by omega
  have I1 := e8A hbk hJ hJ2 (o := ⟨1, g2, (lk (X.nm j)).2, bl, lk, le, s⟩) hd1 hj2
  have I1 : AOk X J 0 0 (d + 1) (j + 2) [] [] _ (sE8 X lk (d + 1) (j + 2)) := I1
  cases e1 : sE8 X lk (d + 1) (j + 2) with
  | none => rw [e1] at I1; exact EndW.go st I1
  | some x =>
    rw [e1] at I1
    obtain ⟨⟨b1, b2⟩, ⟨c1, c2, c3⟩, k1⟩ := I1
    have c2 : lvq (X.kd x.1) ≤ 0 := c2 (by omega)
    have s2 := finA (d := d + 1) (w := x.2) (o := ⟨1, g2, (lk (X.nm j)).2, bl, lk, le, s⟩) (c1 (by omega)) (c3 rfl) (by omega)
    have s3 : aFi X x.1 (d + 1) [x.2] ⟨1, g2, (lk (X.nm j)).2, bl, lk, le, s⟩ = if X.kd x.1 = 93 ∧ X.kd (x.1 + 1) = 61 then some ⟨2, x.1 + 2, d, [], [], ⟨3, g2, (lk (X.nm j)).2, bl, lk, le, s⟩⟩ else none := rfl
    have rj : ¬ (X.kd x.1 = 93 ∧ X.kd (x.1 + 1) = 61) → EndW X ⟨1, j, d, [], [], ⟨g1, g2, g3, bl, lk, le, s⟩⟩ none := fun z => by
      rw [if_neg z] at s3
      exact EndW.go st (k1 none (EndW.rej (s2.trans s3) (fun w => by cases w.1)))
    show match ((ndq X (d + 1) x.1 93).bind fun _ => sA2 X lk le d j 2 (x.1 + 1)) with | none => _ | some r => _
    rcases nd_c hbk (j := x.1) hd1 93 with ⟨t1, t2⟩ | ⟨t1, t2⟩
    rotate_left
    · rw [t1]; exact rj (fun z => by omega)
    rw [t1, Option.bind_some]
    have h1 := nxJ hJ b2 (by omega) (by omega)
    by_cases k61 : X.kd (x.1 + 1) = 61
    rotate_left
    · have : sA2 X lk le d j 2 (x.1 + 1) = none := by
        unfold sA2
        have : ndq X d (x.1 + 1) 61 = none := by unfold ndq gd; rw [nbq k61]; rfl
        rw [this]; rfl
      rw [this]; exact rj (fun z => k61 z.2)
    rw [if_pos ⟨t2, k61⟩] at s3
    have A := a2A hbk hJ hJ2 (lk := lk) (le := le) (j := j) (i := x.1 + 1) (k := 2) (o := ⟨3, g2, (lk (X.nm j)).2, bl, lk, le, s⟩) rfl (Or.inr ⟨rfl, rfl⟩) (by rw [← l2.1]) hd h1 k61
    cases e : sA2 X lk le d j 2 (x.1 + 1) with
    | none => rw [e] at A; exact EndW.go st (k1 none (EndW.go (s2.trans s3) A))
    | some r =>
      rw [e] at A
      obtain ⟨⟨a1, a2⟩, a3, a4⟩ := A
      refine ⟨⟨by omega, a2⟩, 3, g2, (lk (X.nm j)).2, fun z hz => EndW.go st (k1 z (EndW.go (s2.trans s3) (a4 z ?_)))⟩
      rw [a3] at hz; exact hz
end SF
/-- A at a block, a statement, an if, as S reads them -/
def IHS (X : TX) (J n : Nat) : Prop :=
  (∀ (lk : LK) (le d j g1 g3 : Nat) (g2 : List Nat) (k : Nat) (bl : List (Nat × LK)) (s : SI), Fs n 0 d → d < 60 → j ≤ J → X.kd j = 123 → match sS X n 0 lk le d j with
    | none => EndW X ⟨1, j + 1, d + 1, [], [], ⟨g1, g2, g3, (k, lk) :: bl, lk, le, s⟩⟩ none ∨ X.kd (j + 1) = 2
    | some r => r.2.1 = lk ∧ ∃ e a1 a2 a3 lke, r.1 = e + 1 ∧ X.kd e = 125 ∧ j < e ∧ e + 1 ≤ J ∧ ∀ z, EndW X ⟨1, e, d + 1, [], [], ⟨a1, a2, a3, (k, lk) :: bl, lke, r.2.2, s⟩⟩ z → EndW X ⟨1, j + 1, d + 1, [], [], ⟨g1, g2, g3, (k, lk) :: bl, lk, le, s⟩⟩ z) ∧
  (∀ (lk : LK) (le d j g1 g3 : Nat) (g2 : List Nat) (bl : List (Nat × LK)) (s : SI), Fs n 1 d → d ≤ 60 → j ≤ J → ¬ X.kd j = 125 → match sS X n 1 lk le d j with
    | none => EndW X ⟨1, j, d, [], [], ⟨g1, g2, g3, bl, lk, le, s⟩⟩ none
    | some r => (j < r.1 ∧ r.1 ≤ J) ∧ ∃ a1 a2 a3, ∀ z, EndW X ⟨1, r.1, d, [], [], ⟨a1, a2, a3, bl, r.2.1, r.2.2, s⟩⟩ z → EndW X ⟨1, j, d, [], [], ⟨g1, g2, g3, bl, lk, le, s⟩⟩ z) ∧
  (∀ (lk : LK) (le d j g3 : Nat) (g2 : List Nat) (bl : List (Nat × LK)) (s : SI), Fs n 2 d → d ≤ 60 → j ≤ J → X.kd j = 209 → match sS X n 2 lk le d j with
    | none => EndW X ⟨2, j + 1, d, [], [], ⟨4, g2, g3, bl, lk, le, s⟩⟩ none
    | some r => (j < r.1 ∧ r.1 ≤ J) ∧ r.2.1 = lk ∧ ∃ a1 a2 a3, ∀ z, EndW X ⟨1, r.1, d, [], [], ⟨a1, a2, a3, bl, r.2.1, r.2.2, s⟩⟩ z → EndW X ⟨2, j + 1, d, [], [], ⟨4, g2, g3, bl, lk, le, s⟩⟩ z)
section SG
variable {X : TX} (hbk : ∀ i, X.bk i = true → X.kd i = 2) {J : Nat} (hJ : X.kd J = 1 ∨ X.kd J = 2) (hJ2 : J ≤ 32768) {n : Nat} (IH : IHS X J n)
theorem klA (hbk : ∀ i, X.bk i = true → X.kd i = 2) (hJ : X.kd J = 1 ∨ X.kd J = 2) (hJ2 : J ≤ 32768) (IH : IHS X J n) {lk0 : LK} {d j0 k0 : Nat} {bl : List (Nat × LK)} {s : SI} {c0 : CfA} (F1 : Fs n 1 (d + 1)) (d60 : d < 60) : ∀ (k : Nat) (lk : LK) (le j g1 g3 : Nat) (g2 : List Nat), j0 < j → j ≤ J → J - j < k → (∀ z, EndW X ⟨1, j, d + 1, [], [], ⟨g1, g2, g3, (k0, lk0) :: bl, lk, le, s⟩⟩ z → EndW X c0 z) → match sKL X (sS X n) d lk0 k lk le j with
    | none => EndW X c0 none
    | some r => r.2.1 = lk0 ∧ ∃ e a1 a2 a3 lke, r.1 = e + 1 ∧ X.kd e = 125 ∧ j0 < e ∧ e + 1 ≤ J ∧ ∀ z, EndW X ⟨1, e, d + 1, [], [], ⟨a1, a2, a3, (k0, lk0) :: bl, lke, r.2.2, s⟩⟩ z → EndW X c0 z := by
  intro k
  induction k with
  | zero => intro lk le j g1 g3 g2 _ _ h; omega
  | succ k ih =>
    intro lk le j g1 g3 g2 hj0 hjJ hk cont
    unfold sKL
    have hd1 : d + 1 ≤ 60 := by omega
    by_cases c : X.kd j = 125
    · rw [if_pos c]
      have h1 := nxJ hJ hjJ (by omega) (by omega)
      rcases ps_c hbk (j := j) hd1 with p | ⟨p, p2⟩
      · rw [gd_t p]
        exact ⟨rfl, j, g1, g2, g3, lk, rfl, c, hj0, h1, cont⟩
      · rw [gd_f p]
        refine cont none ?_
        have st : aSp X ⟨1, j, d + 1, [], [], ⟨g1, g2, g3, (k0, lk0) :: bl, lk, le, s⟩⟩ = if k0 = 206 then some ⟨0, j + 1, d + 1 - 1, [], [], ⟨g1, g2, g3, bl, lk0, le, s⟩⟩ else if k0 = 209 ∧ X.kd (j + 1) = 210 then (if X.kd (j + 2) = 209 then some ⟨2, j + 3, d + 1 - 1, [], [], ⟨4, g2, g3, bl, lk0, le, s⟩⟩ else if X.kd (j + 2) = 123 then some ⟨1, j + 3, d + 1, [], [], ⟨g1, g2, g3, (210, lk0) :: bl, lk0, le, s⟩⟩ else none) else some ⟨1, j + 1, d + 1 - 1, [], [], ⟨g1, g2, g3, bl, lk0, le, s⟩⟩ := by
          show aSt X j (d + 1) _ = _
          unfold aSt
          rw [if_neg (by omega), if_neg (by omega), if_neg (by omega), if_neg (by omega), if_pos c]
        by_cases z : k0 = 206
        · rw [if_pos z] at st; exact EndW.go st (EndW.two p2)
        · rw [if_neg z, if_neg (by omega)] at st; exact EndW.go st (EndW.two p2)
    · rw [if_neg c]
      have I1 := IH.2.1 lk le (d + 1) j g1 g3 g2 ((k0, lk0) :: bl) s F1 hd1 hjJ c
      cases e1 : sS X n 1 lk le (d + 1) j with
      | none => rw [e1] at I1; exact cont none I1
      | some r =>
        rw [e1] at I1
        obtain ⟨⟨b1, b2⟩, a1, a2, a3, k1⟩ := I1
        exact ih r.2.1 r.2.2 r.1 a1 a3 a2 (by omega) b2 (by omega) (fun z hz => cont z (k1 z hz))
theorem bkA (hbk : ∀ i, X.bk i = true → X.kd i = 2) (hJ : X.kd J = 1 ∨ X.kd J = 2) (hJ2 : J ≤ 32768) (IH : IHS X J n) {lk : LK} {le d j g1 g3 : Nat} {g2 : List Nat} {k : Nat} {bl : List (Nat × LK)} {s : SI} (F : Fs (n + 1) 0 d) (d60 : d < 60) (hjJ : j ≤ J) (hk : X.kd j = 123) : match sBk X (sS X n) lk le d j with
    | none => EndW X ⟨1, j + 1, d + 1, [], [], ⟨g1, g2, g3, (k, lk) :: bl, lk, le, s⟩⟩ none ∨ X.kd (j + 1) = 2
    | some r => r.2.1 = lk ∧ ∃ e a1 a2 a3 lke, r.1 = e + 1 ∧ X.kd e = 125 ∧ j < e ∧ e + 1 ≤ J ∧ ∀ z, EndW X ⟨1, e, d + 1, [], [], ⟨a1, a2, a3, (k, lk) :: bl, lke, r.2.2, s⟩⟩ z → EndW X ⟨1, j + 1, d + 1, [], [], ⟨g1, g2, g3, (k, lk) :: bl, lk, le, s⟩⟩ z := by
  unfold Fs at F
  rw [if_pos rfl] at F
  have h1 := nxJ hJ hjJ (by omega) (by omega)
  unfold sBk
  rcases nd_c hbk (j := j) (show d ≤ 60 by omega) 123 with ⟨q1, q2⟩ | ⟨q1, q2⟩
  rotate_left
  · rw [q1]; exact Or.inr (q2.resolve_left (fun y => y hk))
  rw [q1, Option.bind_some]
  have K := klA hbk hJ hJ2 IH (lk0 := lk) (j0 := j) (k0 := k) (bl := bl) (s := s) (c0 := ⟨1, j + 1, d + 1, [], [], ⟨g1, g2, g3, (k, lk) :: bl, lk, le, s⟩⟩) (by unfold Fs; rw [if_neg (by omega), if_pos rfl]; omega) d60 200000 lk le (j + 1) g1 g3 g2 (by omega) h1 (by omega) (fun z hz => hz)
  cases e : sKL X (sS X n) d lk 200000 lk le (j + 1) with
  | none => rw [e] at K; exact Or.inl K
  | some r => rw [e] at K; exact K
theorem ilA (hbk : ∀ i, X.bk i = true → X.kd i = 2) (hJ : X.kd J = 1 ∨ X.kd J = 2) (hJ2 : J ≤ 32768) (IH : IHS X J n) {lk : LK} {d j0 : Nat} {bl : List (Nat × LK)} {s : SI} {c0 : CfA} (F0 : Fs n 0 d) (hd : d ≤ 60) : ∀ (k le j g3 : Nat) (g2 : List Nat), j0 ≤ j → j ≤ J → J - j < k → X.kd j = 209 → (∀ z, EndW X ⟨2, j + 1, d, [], [], ⟨4, g2, g3, bl, lk, le, s⟩⟩ z → EndW X c0 z) → match sIL X (sS X n) d lk k le j with
    | none => EndW X c0 none
    | some r => (j0 < r.1 ∧ r.1 ≤ J) ∧ r.2.1 = lk ∧ ∃ a1 a2 a3, ∀ z, EndW X ⟨1, r.1, d, [], [], ⟨a1, a2, a3, bl, r.2.1, r.2.2, s⟩⟩ z → EndW X c0 z := by
  intro k
  induction k with
  | zero => intro le j g3 g2 _ _ h; omega
  | succ k ih =>
    intro le j g3 g2 hj0 hjJ hk hif cont
    unfold sIL
    have h1 := nxJ hJ hjJ (by omega) (by omega)
    rcases ps_c hbk (j := j) hd with p | ⟨p, p2⟩
    rotate_left
    · rw [gd_f p]; exact cont none (EndW.two p2)
    rw [gd_t p]
    have I1 := e8A hbk hJ hJ2 (o := ⟨4, g2, g3, bl, lk, le, s⟩) hd h1
    have I1 : AOk X J 0 0 d (j + 1) [] [] _ (sE8 X lk d (j + 1)) := I1
    cases e1 : sE8 X lk d (j + 1) with
    | none => rw [e1] at I1; exact cont none I1
    | some x =>
      rw [e1] at I1
      obtain ⟨⟨b1, b2⟩, ⟨c1, c2, c3⟩, k1⟩ := I1
      have c2 : lvq (X.kd x.1) ≤ 0 := c2 (by omega)
      have s2 := finA (d := d) (w := x.2) (o := ⟨4, g2, g3, bl, lk, le, s⟩) (c1 (by omega)) (c3 rfl) (by omega)
      have s3 : aFi X x.1 d [x.2] ⟨4, g2, g3, bl, lk, le, s⟩ = if x.2 = 1 ∧ d < 60 ∧ X.kd x.1 = 123 then some ⟨1, x.1 + 1, d + 1, [], [], ⟨4, g2, g3, (209, lk) :: bl, lk, le, s⟩⟩ else none := rfl
      have rj : ¬ (x.2 = 1 ∧ d < 60 ∧ X.kd x.1 = 123) → EndW X c0 none := fun z => by
        rw [if_neg z] at s3
        exact cont none (k1 none (EndW.rej (s2.trans s3) (fun w => by cases w.1)))
      show match ((gd (Nat.beq x.2 1)).bind fun _ => (sS X n 0 lk le d x.1).bind fun r => if X.kd r.1 = 210 then (gd (ps X d r.1)).bind fun _ => if X.kd (r.1 + 1) = 209 then sIL X (sS X n) d lk k r.2.2 (r.1 + 1) else sS X n 0 lk r.2.2 d (r.1 + 1) else some (r.1, lk, r.2.2)) with | none => _ | some r => _
      by_cases w1 : x.2 = 1
      rotate_left
      · rw [gd_f (nbq w1)]; exact rj (fun z => w1 z.1)
      rw [gd_t (show Nat.beq x.2 1 = true by rw [w1]; rfl)]
      by_cases k123 : X.kd x.1 = 123
      rotate_left
      · have : sS X n 0 lk le d x.1 = none := by
          cases n with
          | zero => rfl
          | succ n =>
            rw [sS_0]
            unfold sBk
            have : ndq X d x.1 123 = none := by unfold ndq gd; rw [nbq k123]; rfl
            rw [this]; rfl
        rw [this]; exact rj (fun z => k123 z.2.2)
      by_cases d60 : d < 60
      rotate_left
      · have : sS X n 0 lk le d x.1 = none := by
          cases n with
          | zero => rfl
          | succ n =>
            rw [sS_0]
            unfold sBk
            cases ndq X d x.1 123 with
            | none => rfl
            | some u =>
              show sKL X (sS X n) d lk 200000 lk le (x.1 + 1) = none
              generalize 200000 = K
              cases K with
              | zero => rfl
              | succ K =>
                unfold sKL
                rw [sS_61 n (d + 1) (x.1 + 1) (by omega), gd_f (ps_61 (by omega))]
                split <;> rfl
        rw [this]; exact rj (fun z => d60 z.2.1)
      rw [if_pos ⟨w1, d60, k123⟩] at s3
      have B := IH.1 lk le d x.1 4 g3 g2 209 bl s F0 d60 b2 k123
      have toB : ∀ z, EndW X ⟨1, x.1 + 1, d + 1, [], [], ⟨4, g2, g3, (209, lk) :: bl, lk, le, s⟩⟩ z → EndW X c0 z := fun z hz => cont z (k1 z (EndW.go (s2.trans s3) hz))
      cases e2 : sS X n 0 lk le d x.1 with
      | none =>
        rw [e2] at B
        rcases B with B | B
        · exact toB none B
        · exact toB none (EndW.two B)
      | some r =>
        rw [e2] at B
        obtain ⟨f1, e, a1, a2, a3, lke, f2, f3, f4, f5, k2⟩ := B
        have hd1 : d + 1 - 1 = d := Nat.add_sub_cancel d 1
        have st : aSp X ⟨1, e, d + 1, [], [], ⟨a1, a2, a3, (209, lk) :: bl, lke, r.2.2, s⟩⟩ = if X.kd (e + 1) = 210 then (if X.kd (e + 2) = 209 then some ⟨2, e + 3, d, [], [], ⟨4, a2, a3, bl, lk, r.2.2, s⟩⟩ else if X.kd (e + 2) = 123 then some ⟨1, e + 3, d + 1, [], [], ⟨a1, a2, a3, (210, lk) :: bl, lk, r.2.2, s⟩⟩ else none) else some ⟨1, e + 1, d, [], [], ⟨a1, a2, a3, bl, lk, r.2.2, s⟩⟩ := by
          show aSt X e (d + 1) _ = _
          unfold aSt
          rw [if_neg (by omega), if_neg (by omega), if_neg (by omega), if_neg (by omega), if_pos f3, hd1]
          show (if 209 = 206 then _ else if 209 = 209 ∧ X.kd (e + 1) = 210 then _ else _) = _
          rw [if_neg (by decide)]
          by_cases z : X.kd (e + 1) = 210
          · rw [if_pos ⟨rfl, z⟩, if_pos z]
          · rw [if_neg (fun y => z y.2), if_neg z]
        show match (if X.kd r.1 = 210 then (gd (ps X d r.1)).bind fun _ => if X.kd (r.1 + 1) = 209 then sIL X (sS X n) d lk k r.2.2 (r.1 + 1) else sS X n 0 lk r.2.2 d (r.1 + 1) else some (r.1, lk, r.2.2)) with | none => _ | some r => _
        rw [f2]
        by_cases c210 : X.kd (e + 1) = 210
        rotate_left
        · rw [if_neg c210]
          rw [if_neg c210] at st
          exact ⟨⟨by show j0 < e + 1; omega, f5⟩, rfl, a1, a2, a3, fun z hz => toB z (k2 z (EndW.go st hz))⟩
        rw [if_pos c210]
        rw [if_pos c210] at st
        have h2 := nxJ hJ f5 (by omega) (by omega)
        rcases ps_c hbk (j := e + 1) hd with p3 | ⟨p3, p4⟩
        rotate_left
        · have p4 : X.kd (e + 2) = 2 := p4
          rw [gd_f p3]
          rw [if_neg (by omega), if_neg (by omega)] at st
          exact toB none (k2 none (EndW.rej st (fun w => by cases w.1)))
        rw [gd_t p3]
        by_cases c209 : X.kd (e + 2) = 209
        · rw [show e + 1 + 1 = e + 2 from rfl, if_pos c209]
          rw [if_pos c209] at st
          exact ih r.2.2 (e + 2) a3 a2 (by omega) h2 (by omega) c209 (fun z hz => toB z (k2 z (EndW.go st hz)))
        · rw [show e + 1 + 1 = e + 2 from rfl, if_neg c209]
          rw [if_neg c209] at st
          by_cases k2123 : X.kd (e + 2) = 123
          rotate_left
          · have : sS X n 0 lk r.2.2 d (e + 2) = none := by
              cases n with
              | zero => rfl
              | succ n =>
                rw [sS_0]
                unfold sBk
                have : ndq X d (e + 2) 123 = none := by unfold ndq gd; rw [nbq k2123]; rfl
                rw [this]; rfl
            rw [this]
            rw [if_neg k2123] at st
            exact toB none (k2 none (EndW.rej st (fun w => by cases w.1)))
          rw [if_pos k2123] at st
          have B2 := IH.1 lk r.2.2 d (e + 2) a1 a3 a2 210 bl s F0 d60 h2 k2123
          have toC : ∀ z, EndW X ⟨1, e + 3, d + 1, [], [], ⟨a1, a2, a3, (210, lk) :: bl, lk, r.2.2, s⟩⟩ z → EndW X c0 z := fun z hz => toB z (k2 z (EndW.go st hz))
          cases e3 : sS X n 0 lk r.2.2 d (e + 2) with
          | none =>
            rw [e3] at B2
            rcases B2 with B2 | B2
            · exact toC none B2
            · exact toC none (EndW.two B2)
          | some t =>
            rw [e3] at B2
            obtain ⟨m1, e', v1, v2, v3, lkf, m2, m3, m4, m5, k3⟩ := B2
            have st2 : aSp X ⟨1, e', d + 1, [], [], ⟨v1, v2, v3, (210, lk) :: bl, lkf, t.2.2, s⟩⟩ = some ⟨1, e' + 1, d, [], [], ⟨v1, v2, v3, bl, lk, t.2.2, s⟩⟩ := by
              show aSt X e' (d + 1) _ = _
              unfold aSt
              rw [if_neg (by omega), if_neg (by omega), if_neg (by omega), if_neg (by omega), if_pos m3, hd1]
              show (if 210 = 206 then _ else if 210 = 209 ∧ X.kd (e' + 1) = 210 then _ else _) = _
              rw [if_neg (by decide), if_neg (by simp [MkA.k, MkA.c, MkA.q])]
            refine ⟨⟨by rw [m2]; omega, by rw [m2]; exact m5⟩, m1, v1, v2, v3, fun z hz => toC z (k3 z (EndW.go st2 ?_))⟩
            rw [m2, m1] at hz
            exact hz
theorem smA (hbk : ∀ i, X.bk i = true → X.kd i = 2) (hJ : X.kd J = 1 ∨ X.kd J = 2) (hJ2 : J ≤ 32768) (IH : IHS X J n) {lk : LK} {le d j g1 g3 : Nat} {g2 : List Nat} {bl : List (Nat × LK)} {s : SI} (F : Fs (n + 1) 1 d) (hd : d ≤ 60) (hjJ : j ≤ J) (hc : ¬ X.kd j = 125) : match sSm X (sS X n) lk le d j with
    | none => EndW X ⟨1, j, d, [], [], ⟨g1, g2, g3, bl, lk, le, s⟩⟩ none
    | some r => (j < r.1 ∧ r.1 ≤ J) ∧ ∃ a1 a2 a3, ∀ z, EndW X ⟨1, r.1, d, [], [], ⟨a1, a2, a3, bl, r.2.1, r.2.2, s⟩⟩ z → EndW X ⟨1, j, d, [], [], ⟨g1, g2, g3, bl, lk, le, s⟩⟩ z := by
  unfold Fs at F
  rw [if_neg (by omega), if_pos rfl] at F
  unfold sSm
  by_cases k7 : X.kd j = 207
  · rw [if_pos k7]; exact ltA hbk hJ hJ2 hd hjJ k7
  rw [if_neg k7]
  by_cases k8 : X.kd j = 208
  · rw [if_pos k8]
    have A := trA hbk hJ hJ2 (lk := lk) (le := le) (o := ⟨g1, g2, g3, bl, lk, le, s⟩) hd hjJ k8
    cases e : sTr X lk le d j with
    | none => rw [e] at A; exact A
    | some r =>
      rw [e] at A
      refine ⟨A.1, g1, g2, g3, fun z hz => A.2.2 z ?_⟩
      rw [A.2.1] at hz; exact hz
  rw [if_neg k8]
  by_cases k9 : X.kd j = 209
  · rw [if_pos k9]
    have st : aSp X ⟨1, j, d, [], [], ⟨g1, g2, g3, bl, lk, le, s⟩⟩ = some ⟨2, j + 1, d, [], [], ⟨4, g2, g3, bl, lk, le, s⟩⟩ := by
      show aSt X j d _ = _
      unfold aSt
      rw [if_neg (by omega), if_neg (by omega), if_neg (by omega), if_pos k9]
    have A := IH.2.2 lk le d j g3 g2 bl s (by unfold Fs; rw [if_neg (by omega), if_neg (by omega)]; omega) hd hjJ k9
    cases e : sS X n 2 lk le d j with
    | none => rw [e] at A; exact EndW.go st A
    | some r =>
      rw [e] at A
      obtain ⟨b, -, a1, a2, a3, k1⟩ := A
      exact ⟨b, a1, a2, a3, fun z hz => EndW.go st (k1 z hz)⟩
  rw [if_neg k9]
  by_cases k3 : X.kd j = 3
  · exact asA hbk hJ hJ2 hd hjJ k3
  · have : sAs X lk le d j = none := by
      unfold sAs
      have : ndq X d j 3 = none := by unfold ndq gd; rw [nbq k3]; rfl
      rw [this]; rfl
    rw [this]
    refine EndW.rej ?_ (fun w => by cases w.1)
    show aSt X j d _ = none
    unfold aSt
    rw [if_neg k7, if_neg k3, if_neg k8, if_neg k9, if_neg hc]
end SG
theorem sA {X : TX} (hbk : ∀ i, X.bk i = true → X.kd i = 2) {J : Nat} (hJ : X.kd J = 1 ∨ X.kd J = 2) (hJ2 : J ≤ 32768) : ∀ n, IHS X J n := by
  intro n
  induction n with
  | zero => exact ⟨fun lk le d j g1 g3 g2 k bl s F => by unfold Fs at F; omega, fun lk le d j g1 g3 g2 bl s F => by unfold Fs at F; omega, fun lk le d j g3 g2 bl s F => by unfold Fs at F; omega⟩
  | succ n IH =>
    refine ⟨fun lk le d j g1 g3 g2 k bl s F hd hj hk => ?_, fun lk le d j g1 g3 g2 bl s F hd hj hc => ?_, fun lk le d j g3 g2 bl s F hd hj hk => ?_⟩
    · rw [sS_0]; exact bkA hbk hJ hJ2 IH F hd hj hk
    · rw [sS_1]; exact smA hbk hJ hJ2 IH F hd hj hc
    · rw [sS_2]
      unfold sIs
      have F' := F
      unfold Fs at F'
      rw [if_neg (by omega), if_neg (by omega)] at F'
      exact ilA hbk hJ hJ2 IH (by unfold Fs; rw [if_pos rfl]; omega) hd 200000 le j g3 g2 (Nat.le_refl _) hj (by omega) hk (fun z hz => hz)
section SH
variable {X : TX} (hbk : ∀ i, X.bk i = true → X.kd i = 2) {J : Nat} (hJ : X.kd J = 1 ∨ X.kd J = 2) (hJ2 : J ≤ 32768)
/-- an item, as S reads it -/
def ItA (X : TX) (J j : Nat) (o : OuA) (S : Option (Nat × SI)) : Prop := match S with
  | none => EndW X ⟨0, j, 0, [], [], o⟩ none
  | some r => (j < r.1 ∧ r.1 ≤ J) ∧ ∃ a1 a2 a3 lk le, ∀ z, EndW X ⟨0, r.1, 0, [], [], ⟨a1, a2, a3, [], lk, le, r.2⟩⟩ z → EndW X ⟨0, j, 0, [], [], o⟩ z
theorem nwA {j i k w n j' : Nat} {z : Bool} {g1 g3 le : Nat} {g2 : List Nat} {lk : LK} {s : SI} (hj : j < j' ∧ j' ≤ J) (n1 : ¬ X.kd j = 1) (st : aSp X ⟨0, j, 0, [], [], ⟨g1, g2, g3, [], lk, le, s⟩⟩ = aNw X ⟨g1, g2, g3, [], lk, le, s⟩ i k w n z j') : ItA X J j ⟨g1, g2, g3, [], lk, le, s⟩ (sNw X s i k w n z j') := by
  unfold sNw
  unfold aNw at st
  by_cases c : (s.lk (X.nm i)).1 = 0 ∧ s.tl.length < 64 ∧ s.cells + n ≤ 65536
  · rw [if_pos c]
    rw [if_pos (show ((OuA.mk g1 g2 g3 [] lk le s).s.lk (X.nm i)).1 = 0 ∧ (OuA.mk g1 g2 g3 [] lk le s).s.tl.length < 64 ∧ (OuA.mk g1 g2 g3 [] lk le s).s.cells + n ≤ 65536 from c)] at st
    exact ⟨hj, g1, g2, g3, lk, le, fun z hz => EndW.go st hz⟩
  · rw [if_neg c]
    rw [if_neg (show ¬ (((OuA.mk g1 g2 g3 [] lk le s).s.lk (X.nm i)).1 = 0 ∧ (OuA.mk g1 g2 g3 [] lk le s).s.tl.length < 64 ∧ (OuA.mk g1 g2 g3 [] lk le s).s.cells + n ≤ 65536) from c)] at st
    exact EndW.rej st (fun w => n1 w.2)
/-- a THING's new state is read at a token that is none -/
theorem nw2 (hbk : ∀ i, X.bk i = true → X.kd i = 2) {j i k w n j' : Nat} {z : Bool} {o : OuA} (n1 : ¬ X.kd j = 1) (h2 : X.kd j' = 2) (st : aSp X ⟨0, j, 0, [], [], o⟩ = aNw X o i k w n z j') : EndW X ⟨0, j, 0, [], [], o⟩ none := by
  unfold aNw at st
  by_cases c : (o.s.lk (X.nm i)).1 = 0 ∧ o.s.tl.length < 64 ∧ o.s.cells + n ≤ 65536
  · rw [if_pos c] at st; exact EndW.go st (EndW.two h2)
  · rw [if_neg c] at st; exact EndW.rej st (fun w => n1 w.2)
theorem rgA (hbk : ∀ i, X.bk i = true → X.kd i = 2) (hJ : X.kd J = 1 ∨ X.kd J = 2) (hJ2 : J ≤ 32768) {j g1 g3 le : Nat} {g2 : List Nat} {lk : LK} {s : SI} (hjJ : j ≤ J) (hk : X.kd j = 201) : ItA X J j ⟨g1, g2, g3, [], lk, le, s⟩ (sRg X s j) := by
  have st : aSp X ⟨0, j, 0, [], [], ⟨g1, g2, g3, [], lk, le, s⟩⟩ = if X.kd (j + 1) = 3 ∧ X.kd (j + 2) = 58 ∧ X.kd (j + 3) = 4 ∧ X.kd (j + 4) = 59 ∧ 1 ≤ X.nu (j + 3) ∧ X.nu (j + 3) ≤ 64 then aNw X ⟨g1, g2, g3, [], lk, le, s⟩ (j + 1) 1 (X.nu (j + 3)) 0 false (j + 5) else none := by
    show aIt X j _ = _
    unfold aIt
    rw [if_pos hk]
  have rj : ¬ (X.kd (j + 1) = 3 ∧ X.kd (j + 2) = 58 ∧ X.kd (j + 3) = 4 ∧ X.kd (j + 4) = 59 ∧ 1 ≤ X.nu (j + 3) ∧ X.nu (j + 3) ≤ 64) → EndW X ⟨0, j, 0, [], [], ⟨g1, g2, g3, [], lk, le, s⟩⟩ none := fun z => by
    rw [if_neg z] at st
    exact EndW.rej st (fun w => by have := w.2; have : X.kd j = 1 := this; omega)
  have h1 := nxJ hJ hjJ (by omega) (by omega)
  unfold sRg
  rcases ps_c hbk (j := j) (show 0 ≤ 60 by omega) with p | ⟨p, p2⟩
  rotate_left
  · rw [gd_f p]; exact rj (fun z => by omega)
  rw [gd_t p]
  rcases nd_c hbk (j := j + 1) (show 0 ≤ 60 by omega) 3 with ⟨q1, q2⟩ | ⟨q1, q2⟩
  rotate_left
  · have q2 : ¬ X.kd (j + 1) = 3 ∨ X.kd (j + 2) = 2 := q2
    rw [q1]; exact rj (fun z => by omega)
  have h2 := nxJ hJ h1 (by omega) (by omega)
  rw [q1, Option.bind_some]
  rcases nd_c hbk (j := j + 2) (show 0 ≤ 60 by omega) 58 with ⟨r1, r2⟩ | ⟨r1, r2⟩
  rotate_left
  · have r2 : ¬ X.kd (j + 2) = 58 ∨ X.kd (j + 3) = 2 := r2
    rw [r1]; exact rj (fun z => by omega)
  have h3 := nxJ hJ (j := j + 2) h2 (by omega) (by omega)
  rw [r1, Option.bind_some]
  rcases nd_c hbk (j := j + 3) (show 0 ≤ 60 by omega) 4 with ⟨t1, t2⟩ | ⟨t1, t2⟩
  rotate_left
  · have t2 : ¬ X.kd (j + 3) = 4 ∨ X.kd (j + 4) = 2 := t2
    rw [t1]; exact rj (fun z => by omega)
  have h4 := nxJ hJ (j := j + 3) h3 (by omega) (by omega)
  rw [t1, Option.bind_some]
  rcases nd_c hbk (j := j + 4) (show 0 ≤ 60 by omega) 59 with ⟨u1, u2⟩ | ⟨u1, u2⟩
  rotate_left
  · rw [u1]
    show EndW X _ none
    by_cases z : X.kd (j + 1) = 3 ∧ X.kd (j + 2) = 58 ∧ X.kd (j + 3) = 4 ∧ X.kd (j + 4) = 59 ∧ 1 ≤ X.nu (j + 3) ∧ X.nu (j + 3) ≤ 64
    · rw [if_pos z] at st
      exact nw2 hbk (by omega) (u2.resolve_left (fun y => y z.2.2.2.1)) st
    · exact rj z
  have h5 := nxJ hJ (j := j + 4) h4 (by omega) (by omega)
  rw [u1, Option.bind_some]
  by_cases z : 1 ≤ X.nu (j + 3) ∧ X.nu (j + 3) ≤ 64
  · rw [if_pos z]
    rw [if_pos ⟨q2, r2, t2, u2, z⟩] at st
    exact nwA ⟨by omega, h5⟩ (by omega) st
  · rw [if_neg z]; exact rj (fun y => z y.2.2.2.2)
theorem fiA (hbk : ∀ i, X.bk i = true → X.kd i = 2) (hJ : X.kd J = 1 ∨ X.kd J = 2) (hJ2 : J ≤ 32768) {j g1 g3 le : Nat} {g2 : List Nat} {lk : LK} {s : SI} (hjJ : j ≤ J) (hk : X.kd j = 202) : ItA X J j ⟨g1, g2, g3, [], lk, le, s⟩ (sFi X s j) := by
  have st : aSp X ⟨0, j, 0, [], [], ⟨g1, g2, g3, [], lk, le, s⟩⟩ = if X.kd (j + 1) = 3 ∧ X.kd (j + 2) = 58 ∧ X.kd (j + 3) = 4 ∧ X.kd (j + 4) = 91 ∧ X.kd (j + 5) = 4 ∧ X.kd (j + 6) = 93 ∧ (1 ≤ X.nu (j + 3) ∧ X.nu (j + 3) ≤ 64) ∧ 1 ≤ X.nu (j + 5) ∧ X.nu (j + 5) ≤ 65536 then
    (if X.kd (j + 7) = 203 then (if X.kd (j + 8) = 59 then aNw X ⟨g1, g2, g3, [], lk, le, s⟩ (j + 1) 2 (X.nu (j + 3)) (X.nu (j + 5)) true (j + 9) else none) else if X.kd (j + 7) = 59 then aNw X ⟨g1, g2, g3, [], lk, le, s⟩ (j + 1) 2 (X.nu (j + 3)) (X.nu (j + 5)) false (j + 8) else none) else none := by
    show aIt X j _ = _
    unfold aIt
    rw [if_neg (by omega), if_pos hk]
  have nk : ¬ X.kd j = 1 := by omega
  have rj0 : aSp X ⟨0, j, 0, [], [], ⟨g1, g2, g3, [], lk, le, s⟩⟩ = none → EndW X ⟨0, j, 0, [], [], ⟨g1, g2, g3, [], lk, le, s⟩⟩ none := fun e => EndW.rej e (fun w => nk w.2)
  have rj : ¬ (X.kd (j + 1) = 3 ∧ X.kd (j + 2) = 58 ∧ X.kd (j + 3) = 4 ∧ X.kd (j + 4) = 91 ∧ X.kd (j + 5) = 4 ∧ X.kd (j + 6) = 93 ∧ (1 ≤ X.nu (j + 3) ∧ X.nu (j + 3) ≤ 64) ∧ 1 ≤ X.nu (j + 5) ∧ X.nu (j + 5) ≤ 65536) → EndW X ⟨0, j, 0, [], [], ⟨g1, g2, g3, [], lk, le, s⟩⟩ none := fun z => by
    rw [if_neg z] at st
    exact rj0 st
  have h1 := nxJ hJ hjJ (by omega) (by omega)
  unfold sFi
  rcases ps_c hbk (j := j) (show 0 ≤ 60 by omega) with p | ⟨p, p2⟩
  rotate_left
  · rw [gd_f p]; exact rj (fun z => by omega)
  rw [gd_t p]
  rcases nd_c hbk (j := j + 1) (show 0 ≤ 60 by omega) 3 with ⟨q1, q2⟩ | ⟨q1, q2⟩
  rotate_left
  · have q2 : ¬ X.kd (j + 1) = 3 ∨ X.kd (j + 2) = 2 := q2
    rw [q1]; exact rj (fun z => by omega)
  have h2 := nxJ hJ h1 (by omega) (by omega)
  rw [q1, Option.bind_some]
  rcases nd_c hbk (j := j + 2) (show 0 ≤ 60 by omega) 58 with ⟨r1, r2⟩ | ⟨r1, r2⟩
  rotate_left
  · have r2 : ¬ X.kd (j + 2) = 58 ∨ X.kd (j + 3) = 2 := r2
    rw [r1]; exact rj (fun z => by omega)
  have h3 := nxJ hJ (j := j + 2) h2 (by omega) (by omega)
  rw [r1, Option.bind_some]
  rcases nd_c hbk (j := j + 3) (show 0 ≤ 60 by omega) 4 with ⟨t1, t2⟩ | ⟨t1, t2⟩
  rotate_left
  · have t2 : ¬ X.kd (j + 3) = 4 ∨ X.kd (j + 4) = 2 := t2
    rw [t1]; exact rj (fun z => by omega)
  have h4 := nxJ hJ (j := j + 3) h3 (by omega) (by omega)
  rw [t1, Option.bind_some]
  rcases nd_c hbk (j := j + 4) (show 0 ≤ 60 by omega) 91 with ⟨u1, u2⟩ | ⟨u1, u2⟩
  rotate_left
  · have u2 : ¬ X.kd (j + 4) = 91 ∨ X.kd (j + 5) = 2 := u2
    rw [u1]; exact rj (fun z => by omega)
  have h5 := nxJ hJ (j := j + 4) h4 (by omega) (by omega)
  rw [u1, Option.bind_some]
  rcases nd_c hbk (j := j + 5) (show 1 ≤ 60 by omega) 4 with ⟨v1, v2⟩ | ⟨v1, v2⟩
  rotate_left
  · have v2 : ¬ X.kd (j + 5) = 4 ∨ X.kd (j + 6) = 2 := v2
    rw [v1]; exact rj (fun z => by omega)
  have h6 := nxJ hJ (j := j + 5) h5 (by omega) (by omega)
  rw [v1, Option.bind_some]
  by_cases rg : (1 ≤ X.nu (j + 3) ∧ X.nu (j + 3) ≤ 64) ∧ 1 ≤ X.nu (j + 5) ∧ X.nu (j + 5) ≤ 65536
  rotate_left
  · have : ((ndq X 1 (j + 6) 93).bind fun _ => if X.kd (j + 7) = 203 then (gd (ps X 0 (j + 7))).bind fun _ => (ndq X 0 (j + 8) 59).bind fun _ => if (1 ≤ X.nu (j + 3) ∧ X.nu (j + 3) ≤ 64) ∧ 1 ≤ X.nu (j + 5) ∧ X.nu (j + 5) ≤ 65536 then sNw X s (j + 1) 2 (X.nu (j + 3)) (X.nu (j + 5)) true (j + 9) else none else (ndq X 0 (j + 7) 59).bind fun _ => if (1 ≤ X.nu (j + 3) ∧ X.nu (j + 3) ≤ 64) ∧ 1 ≤ X.nu (j + 5) ∧ X.nu (j + 5) ≤ 65536 then sNw X s (j + 1) 2 (X.nu (j + 3)) (X.nu (j + 5)) false (j + 8) else none) = none := by
      simp only [if_neg rg, bind_none']
      cases ndq X 1 (j + 6) 93 with
      | none => rfl
      | some u => show (if _ then (none : Option (Nat × SI)) else none) = none; split <;> rfl
    rw [this]; exact rj (fun z => rg z.2.2.2.2.2.2)
  simp only [if_pos rg]
  rcases nd_c hbk (j := j + 6) (show 1 ≤ 60 by omega) 93 with ⟨w1, w2⟩ | ⟨w1, w2⟩
  rotate_left
  · have w2 : ¬ X.kd (j + 6) = 93 ∨ X.kd (j + 7) = 2 := w2
    rw [w1]
    show EndW X _ none
    by_cases z : X.kd (j + 6) = 93
    · rw [if_pos ⟨q2, r2, t2, u2, v2, z, rg⟩, if_neg (by omega), if_neg (by omega)] at st
      exact rj0 st
    · exact rj (fun y => z y.2.2.2.2.2.1)
  have h7 := nxJ hJ (j := j + 6) h6 (by omega) (by omega)
  rw [w1, Option.bind_some]
  rw [if_pos ⟨q2, r2, t2, u2, v2, w2, rg⟩] at st
  by_cases c : X.kd (j + 7) = 203
  · rw [if_pos c]
    rw [if_pos c] at st
    have h8 := nxJ hJ (j := j + 7) h7 (by omega) (by omega)
    rcases ps_c hbk (j := j + 7) (show 0 ≤ 60 by omega) with p3 | ⟨p3, p4⟩
    rotate_left
    · have p4 : X.kd (j + 8) = 2 := p4
      rw [gd_f p3]
      rw [if_neg (by omega)] at st
      exact rj0 st
    rw [gd_t p3]
    rcases nd_c hbk (j := j + 8) (show 0 ≤ 60 by omega) 59 with ⟨y1, y2⟩ | ⟨y1, y2⟩
    rotate_left
    · rw [y1]
      show EndW X _ none
      by_cases z : X.kd (j + 8) = 59
      · rw [if_pos z] at st
        exact nw2 hbk nk (y2.resolve_left (fun y => y z)) st
      · rw [if_neg z] at st; exact rj0 st
    rw [y1, Option.bind_some]
    rw [if_pos y2] at st
    exact nwA ⟨by omega, nxJ hJ (j := j + 8) h8 (by omega) (by omega)⟩ nk st
  · rw [if_neg c]
    rw [if_neg c] at st
    rcases nd_c hbk (j := j + 7) (show 0 ≤ 60 by omega) 59 with ⟨y1, y2⟩ | ⟨y1, y2⟩
    rotate_left
    · rw [y1]
      show EndW X _ none
      by_cases z : X.kd (j + 7) = 59
      · rw [if_pos z] at st
        exact nw2 hbk nk (y2.resolve_left (fun y => y z)) st
      · rw [if_neg z] at st; exact rj0 st
    rw [y1, Option.bind_some]
    rw [if_pos y2] at st
    exact nwA ⟨by omega, nxJ hJ (j := j + 7) h7 (by omega) (by omega)⟩ nk st
theorem feA (hbk : ∀ i, X.bk i = true → X.kd i = 2) (hJ : X.kd J = 1 ∨ X.kd J = 2) (hJ2 : J ≤ 32768) {j g1 g3 le : Nat} {g2 : List Nat} {lk : LK} {s : SI} (hjJ : j ≤ J) (hk : X.kd j = 204) : ItA X J j ⟨g1, g2, g3, [], lk, le, s⟩ (sFe X s j) := by
  have st : aSp X ⟨0, j, 0, [], [], ⟨g1, g2, g3, [], lk, le, s⟩⟩ = if X.kd (j + 1) = 3 ∧ X.kd (j + 2) = 205 ∧ X.kd (j + 3) = 3 ∧ X.kd (j + 4) = 59 ∧ (s.lk (X.nm (j + 1))).1 = 1 ∧ s.lk (X.nm (j + 3)) = (2, 8) ∧ s.fe = none then some ⟨0, j + 5, 0, [], [], ⟨g1, g2, g3, [], lk, le, (SI.mk (s.bits) (s.lk) (s.tl) (s.cells) (some (X.nm (j + 1), X.nm (j + 3))) (s.ops))⟩⟩ else none := by
    show aIt X j _ = _
    unfold aIt
    rw [if_neg (by omega), if_neg (by omega), if_pos hk]
  have nk : ¬ X.kd j = 1 := by omega
  have rj : ¬ (X.kd (j + 1) = 3 ∧ X.kd (j + 2) = 205 ∧ X.kd (j + 3) = 3 ∧ X.kd (j + 4) = 59 ∧ (s.lk (X.nm (j + 1))).1 = 1 ∧ s.lk (X.nm (j + 3)) = (2, 8) ∧ s.fe = none) → EndW X ⟨0, j, 0, [], [], ⟨g1, g2, g3, [], lk, le, s⟩⟩ none := fun z => by
    rw [if_neg z] at st
    exact EndW.rej st (fun w => nk w.2)
  have h1 := nxJ hJ hjJ (by omega) (by omega)
  unfold sFe
  rcases ps_c hbk (j := j) (show 0 ≤ 60 by omega) with p | ⟨p, p2⟩
  rotate_left
  · rw [gd_f p]; exact rj (fun z => by omega)
  rw [gd_t p]
  rcases nd_c hbk (j := j + 1) (show 0 ≤ 60 by omega) 3 with ⟨q1, q2⟩ | ⟨q1, q2⟩
  rotate_left
  · have q2 : ¬ X.kd (j + 1) = 3 ∨ X.kd (j + 2) = 2 := q2
    rw [q1]; exact rj (fun z => by omega)
  have h2 := nxJ hJ h1 (by omega) (by omega)
  rw [q1, Option.bind_some]
  rcases nd_c hbk (j := j + 2) (show 0 ≤ 60 by omega) 205 with ⟨r1, r2⟩ | ⟨r1, r2⟩
  rotate_left
  · have r2 : ¬ X.kd (j + 2) = 205 ∨ X.kd (j + 3) = 2 := r2
    rw [r1]; exact rj (fun z => by omega)
  have h3 := nxJ hJ (j := j + 2) h2 (by omega) (by omega)
  rw [r1, Option.bind_some]
  rcases nd_c hbk (j := j + 3) (show 0 ≤ 60 by omega) 3 with ⟨t1, t2⟩ | ⟨t1, t2⟩
  rotate_left
  · have t2 : ¬ X.kd (j + 3) = 3 ∨ X.kd (j + 4) = 2 := t2
    rw [t1]; exact rj (fun z => by omega)
  have h4 := nxJ hJ (j := j + 3) h3 (by omega) (by omega)
  rw [t1, Option.bind_some]
  rcases nd_c hbk (j := j + 4) (show 0 ≤ 60 by omega) 59 with ⟨u1, u2⟩ | ⟨u1, u2⟩
  rotate_left
  · rw [u1]
    show EndW X _ none
    by_cases z : X.kd (j + 1) = 3 ∧ X.kd (j + 2) = 205 ∧ X.kd (j + 3) = 3 ∧ X.kd (j + 4) = 59 ∧ (s.lk (X.nm (j + 1))).1 = 1 ∧ s.lk (X.nm (j + 3)) = (2, 8) ∧ s.fe = none
    · rw [if_pos z] at st
      exact EndW.go st (EndW.two (u2.resolve_left (fun y => y z.2.2.2.1)))
    · exact rj z
  have h5 := nxJ hJ (j := j + 4) h4 (by omega) (by omega)
  rw [u1, Option.bind_some]
  by_cases z : (s.lk (X.nm (j + 1))).1 = 1 ∧ s.lk (X.nm (j + 3)) = (2, 8) ∧ s.fe = none
  · rw [if_pos z]
    rw [if_pos ⟨q2, r2, t2, u2, z⟩] at st
    exact ⟨⟨by show j < j + 5; omega, h5⟩, g1, g2, g3, lk, le, fun r hr => EndW.go st hr⟩
  · rw [if_neg z]; exact rj (fun y => z y.2.2.2.2)
theorem opA (hbk : ∀ i, X.bk i = true → X.kd i = 2) (hJ : X.kd J = 1 ∨ X.kd J = 2) (hJ2 : J ≤ 32768) {j g1 g3 le : Nat} {g2 : List Nat} {lk : LK} {s : SI} (hjJ : j ≤ J) (hk : X.kd j = 206) : ItA X J j ⟨g1, g2, g3, [], lk, le, s⟩ (sOp X s j) := by
  have st : aSp X ⟨0, j, 0, [], [], ⟨g1, g2, g3, [], lk, le, s⟩⟩ = if X.kd (j + 1) = 3 ∧ X.kd (j + 2) = 5 ∧ X.kd (j + 3) = 123 ∧ ¬ X.nm (j + 1) ∈ s.ops.map Prod.fst ∧ s.ops.length < 512 ∧ (X.nm (j + 2)).length = s.bits then some ⟨1, j + 4, 1, [], [], ⟨g1, g2, g3, [(206, lkO s.lk (X.nm (j + 2)))], lkO s.lk (X.nm (j + 2)), 0, (SI.mk (s.bits) (s.lk) (s.tl) (s.cells) (s.fe) (s.ops ++ [(X.nm (j + 1), X.nm (j + 2))]))⟩⟩ else none := by
    show aIt X j _ = _
    unfold aIt
    rw [if_neg (by omega), if_neg (by omega), if_neg (by omega), if_pos hk]
  have nk : ¬ X.kd j = 1 := by omega
  have rj : ¬ (X.kd (j + 1) = 3 ∧ X.kd (j + 2) = 5 ∧ X.kd (j + 3) = 123 ∧ ¬ X.nm (j + 1) ∈ s.ops.map Prod.fst ∧ s.ops.length < 512 ∧ (X.nm (j + 2)).length = s.bits) → EndW X ⟨0, j, 0, [], [], ⟨g1, g2, g3, [], lk, le, s⟩⟩ none := fun z => by
    rw [if_neg z] at st
    exact EndW.rej st (fun w => nk w.2)
  have h1 := nxJ hJ hjJ (by omega) (by omega)
  unfold sOp
  rcases ps_c hbk (j := j) (show 0 ≤ 60 by omega) with p | ⟨p, p2⟩
  rotate_left
  · rw [gd_f p]; exact rj (fun z => by omega)
  rw [gd_t p]
  rcases nd_c hbk (j := j + 1) (show 0 ≤ 60 by omega) 3 with ⟨q1, q2⟩ | ⟨q1, q2⟩
  rotate_left
  · have q2 : ¬ X.kd (j + 1) = 3 ∨ X.kd (j + 2) = 2 := q2
    rw [q1]; exact rj (fun z => by omega)
  have h2 := nxJ hJ h1 (by omega) (by omega)
  rw [q1, Option.bind_some]
  rcases nd_c hbk (j := j + 2) (show 0 ≤ 60 by omega) 5 with ⟨r1, r2⟩ | ⟨r1, r2⟩
  rotate_left
  · have r2 : ¬ X.kd (j + 2) = 5 ∨ X.kd (j + 3) = 2 := r2
    rw [r1]; exact rj (fun z => by omega)
  have h3 := nxJ hJ (j := j + 2) h2 (by omega) (by omega)
  rw [r1, Option.bind_some]
  by_cases g : ¬ X.nm (j + 1) ∈ s.ops.map Prod.fst ∧ s.ops.length < 512 ∧ (X.nm (j + 2)).length = s.bits
  rotate_left
  · rw [gd_f (decide_eq_false g)]; exact rj (fun z => g z.2.2.2)
  rw [gd_t (decide_eq_true g)]
  by_cases k123 : X.kd (j + 3) = 123
  rotate_left
  · have : sS X 200 0 (lkO s.lk (X.nm (j + 2))) 0 0 (j + 3) = none := by
      rw [show (200 : Nat) = 199 + 1 from rfl, sS_0]
      unfold sBk
      have : ndq X 0 (j + 3) 123 = none := by unfold ndq gd; rw [nbq k123]; rfl
      rw [this]; rfl
    rw [this]; exact rj (fun z => k123 z.2.2.1)
  rw [if_pos ⟨q2, r2, k123, g⟩] at st
  have B := (sA hbk hJ hJ2 200).1 (lkO s.lk (X.nm (j + 2))) 0 0 (j + 3) g1 g3 g2 206 [] (SI.mk (s.bits) (s.lk) (s.tl) (s.cells) (s.fe) (s.ops ++ [(X.nm (j + 1), X.nm (j + 2))])) (by unfold Fs; rw [if_pos rfl]; omega) (by omega) h3 k123
  cases e : sS X 200 0 (lkO s.lk (X.nm (j + 2))) 0 0 (j + 3) with
  | none =>
    rw [e] at B
    rcases B with B | B
    · exact EndW.go st B
    · exact EndW.go st (EndW.two B)
  | some r =>
    rw [e] at B
    obtain ⟨f1, e', a1, a2, a3, lke, f2, f3, f4, f5, k2⟩ := B
    have st2 : aSp X ⟨1, e', 0 + 1, [], [], ⟨a1, a2, a3, [(206, lkO s.lk (X.nm (j + 2)))], lke, r.2.2, (SI.mk (s.bits) (s.lk) (s.tl) (s.cells) (s.fe) (s.ops ++ [(X.nm (j + 1), X.nm (j + 2))]))⟩⟩ = some ⟨0, e' + 1, 0, [], [], ⟨a1, a2, a3, [], lkO s.lk (X.nm (j + 2)), r.2.2, (SI.mk (s.bits) (s.lk) (s.tl) (s.cells) (s.fe) (s.ops ++ [(X.nm (j + 1), X.nm (j + 2))]))⟩⟩ := by
      show aSt X e' (0 + 1) _ = _
      unfold aSt
      rw [if_neg (by omega), if_neg (by omega), if_neg (by omega), if_neg (by omega), if_pos f3]
      rfl
    refine ⟨⟨by show j < r.1; omega, by show r.1 ≤ J; omega⟩, a1, a2, a3, lkO s.lk (X.nm (j + 2)), r.2.2, fun z hz => EndW.go st (k2 z (EndW.go st2 ?_))⟩
    have hz : EndW X ⟨0, r.1, 0, [], [], ⟨a1, a2, a3, [], lkO s.lk (X.nm (j + 2)), r.2.2, (SI.mk (s.bits) (s.lk) (s.tl) (s.cells) (s.fe) (s.ops ++ [(X.nm (j + 1), X.nm (j + 2))]))⟩⟩ z := hz
    rw [f2] at hz
    exact hz
/-- the items: where A ends -/
theorem lpA (hbk : ∀ i, X.bk i = true → X.kd i = 2) (hJ : X.kd J = 1 ∨ X.kd J = 2) (hJ2 : J ≤ 32768) : ∀ (k j g1 g3 le : Nat) (g2 : List Nat) (lk : LK) (s : SI), j ≤ J → J - j < k → EndW X ⟨0, j, 0, [], [], ⟨g1, g2, g3, [], lk, le, s⟩⟩ (sLp X k s j) := by
  intro k
  induction k with
  | zero => intro j g1 g3 le g2 lk s _ h; omega
  | succ k ih =>
    intro j g1 g3 le g2 lk s hjJ hk
    unfold sLp
    by_cases c : X.kd j = 1
    · rw [if_pos c]; exact EndW.fin (c := ⟨0, j, 0, [], [], ⟨g1, g2, g3, [], lk, le, s⟩⟩) ⟨rfl, c⟩
    rw [if_neg c]
    have I : ItA X J j ⟨g1, g2, g3, [], lk, le, s⟩ (sIt X s j) := by
      unfold sIt
      by_cases k1 : X.kd j = 201
      · rw [if_pos k1]; exact rgA hbk hJ hJ2 hjJ k1
      rw [if_neg k1]
      by_cases k2 : X.kd j = 202
      · rw [if_pos k2]; exact fiA hbk hJ hJ2 hjJ k2
      rw [if_neg k2]
      by_cases k3 : X.kd j = 204
      · rw [if_pos k3]; exact feA hbk hJ hJ2 hjJ k3
      rw [if_neg k3]
      by_cases k4 : X.kd j = 206
      · rw [if_pos k4]; exact opA hbk hJ hJ2 hjJ k4
      rw [if_neg k4]
      refine EndW.rej ?_ (fun w => c w.2)
      show aIt X j _ = none
      unfold aIt
      rw [if_neg k1, if_neg k2, if_neg k3, if_neg k4]
    cases e : sIt X s j with
    | none => rw [e] at I; exact I
    | some r =>
      rw [e] at I
      obtain ⟨⟨b1, b2⟩, a1, a2, a3, lk', le', k1⟩ := I
      exact k1 _ (ih r.1 a1 a3 le' a2 lk' r.2 b2 (by omega))
end SH
