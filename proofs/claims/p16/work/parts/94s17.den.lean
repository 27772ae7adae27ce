/-! what an EXPR is worth. E0: the WORD, the THINGS (width, cells, zero) -/
abbrev E0q : Type := Int64 × (Nat → Nat × Nat × Bool)
/-- by the lets and the THINGS' values (thing, cell); none: outside of a FILE -/
abbrev DnE : Type := E0q → (Nat → Int64) → (Nat → Nat → Int64) → Option Int64
/-- lets, values, which THINGS were assigned as registers -/
abbrev STq : Type := (Nat → Int64) × (Nat → Nat → Int64) × (Nat → Bool)
/-- what statements do: a TRAP (0: none) and the state behind -/
abbrev DnS : Type := E0q → STq → Int32 × STq
def dN : DnE := fun _ _ _ => none
def dLit (v : Int64) : DnE := fun _ _ _ => some v
/-- the mask of letter c in a code -/
def mskC (C : List Nat) (c : Nat) : Nat := mkN (fun i => decide (C.getD i 0 = c)) C.length
def gatV (w m : Int64) : Int64 := ((f_Bits_gather hZ w m).map Prod.fst).getD 0
def dFld (m : Int64) : DnE := fun e _ _ => some (gatV e.1 m)
def dLet (i : Nat) : DnE := fun _ l _ => some (l i)
def dReg (t : Nat) : DnE := fun _ _ r => some (r t 0)
def dCel (t : Nat) (x : DnE) : DnE := fun e l r => (x e l r).bind fun i => if i.toBitVec.toNat < (e.2 t).2.1 then some (r t i.toBitVec.toNat) else none
/-- one value worked on: a doing and what stands with it -/
def u1 (k : Nat) (a v : Int64) : Int64 :=
  if k = 305 then (-v) &&& a
  else if k = 308 then ((v.toUInt64 >>> (((a &&& (255 : Int64)).toInt32).toInt64.toUInt64 &&& Int64.toUInt64 63)).toInt64) &&& mkI ((a >>> ((8 : Int32).toInt64 &&& 63)).toInt32)
  else if k = 310 then ((v <<< (((64 : Int32) - (a &&& (255 : Int64)).toInt32).toInt64 &&& 63)) >>> (((64 : Int32) - (a &&& (255 : Int64)).toInt32).toInt64 &&& 63)) &&& mkI ((a >>> ((8 : Int32).toInt64 &&& 63)).toInt32)
  else (v ^^^ (-1 : Int64)) &&& a
/-- two values -/
def u2 (k : Nat) (a x y : Int64) : Int64 :=
  if k = 309 then (x <<< ((a.toInt32).toInt64 &&& 63)) ||| y else ((f_Bits_ofTwo hZ (nI k) x y a.toInt32).map Prod.fst).getD 0
def d1 (k : Nat) (a : Int64) (x : DnE) : DnE := fun e l r => (x e l r).bind fun v => some (u1 k a v)
def d2 (k : Nat) (a : Int64) (x y : DnE) : DnE := fun e l r => (x e l r).bind fun v => (y e l r).bind fun w => some (u2 k a v w)
def dCh (x y z : DnE) : DnE := fun e l r => (x e l r).bind fun c => if c = 0 then z e l r else y e l r
/-! statements -/
def zSk : DnS := fun _ s => (0, s)
def zSq (a b : DnS) : DnS := fun e s => if (a e s).1 = 0 then b e (a e s).2 else a e s
def zLt (i : Nat) (x : DnE) : DnS := fun e s => match x e s.1 s.2.1 with
  | none => (-3, s)
  | some v => (0, (fun k => if k = i then v else s.1 k, s.2.1, s.2.2))
def zTp (n : Nat) : DnS := fun _ s => (nI n, s)
/-- cell i of thing t becomes v, if it isn't the cell that is always 0 -/
def wrT (e : E0q) (t i : Nat) (v : Int64) (r : Nat → Nat → Int64) : Nat → Nat → Int64 := if (e.2 t).2.2 = true ∧ i = 0 then r else fun a b => if a = t ∧ b = i then v &&& mkI (nI (e.2 t).1) else r a b
def zRg (t : Nat) (x : DnE) : DnS := fun e s => match x e s.1 s.2.1 with
  | none => (-3, s)
  | some v => (0, (s.1, wrT e t 0 v s.2.1, fun k => if k = t then true else s.2.2 k))
def zCl (t : Nat) (ix x : DnE) : DnS := fun e s => match ix e s.1 s.2.1, x e s.1 s.2.1 with
  | some i, some v => if i.toBitVec.toNat < (e.2 t).2.1 then (0, (s.1, wrT e t i.toBitVec.toNat v s.2.1, s.2.2)) else (-3, s)
  | _, _ => (-3, s)
def zIf (c : DnE) (a b : DnS) : DnS := fun e s => match c e s.1 s.2.1 with
  | none => (-3, s)
  | some v => if v = 0 then b e s else a e s
/-! T: S with what is worth. names: kind and width (lk), index (lz: of a THING, of a let below 64, 64 + c of a letter) -/
abbrev LZ : Type := List Nat → Nat
def updZ (lz : LZ) (x : List Nat) (v : Nat) : LZ := fun y => if y = x then v else lz y
def dNm (C : List Nat) (k i : Nat) : DnE := if k = 1 then dReg i else if i < 64 then dLet i else dFld (nJ (mskC C (i - 64)))
def sgK (k : Nat) : Nat := if k = 45 then 305 else if k = 126 then 306 else 307
def wPk (lo wd : Nat) : Int64 := nJ (lo + 256 * wd)
/-- the low number of [h] or [h:l]; token j is the [ -/
def loP (X : TX) (j : Nat) : Nat := if X.kd (j + 2) = 58 then X.nu (j + 3) else X.nu (j + 1)
abbrev VD : Type := Nat × Nat × DnE
section TX1
variable (X : TX) (lk : LK) (lz : LZ) (C : List Nat) (R : Nat → Nat → Nat → Nat → Option VD)
def tLit (d j : Nat) : Option VD := (sLit X d j).bind fun z => some (z.1, z.2, dLit (nJ (X.nu (j + 2))))
def tEx (d j : Nat) : Option VD :=
  (R 1 0 d j).bind fun x => if X.kd x.1 = 63 then
    (gd (ps X d x.1)).bind fun _ => (R 0 0 (d + 1) (x.1 + 1)).bind fun y => (ndq X (d + 1) y.1 58).bind fun _ => (R 0 0 (d + 1) (y.1 + 1)).bind fun z =>
      if x.2.1 = 1 ∧ y.2.1 = z.2.1 then some (z.1, y.2.1, dCh x.2.2 y.2.2 z.2.2) else none
  else some x
def tBL (a d : Nat) : Nat → Nat → Nat → DnE → Option VD
  | 0, _, _, _ => none
  | k + 1, j, w, D => if lvq (X.kd j) = a + 1 then (gd (ps X d j)).bind fun _ => (R 1 (a + 1) d (j + 1)).bind fun y => (tw (X.kd j) w y.2.1).bind fun z => tBL a d k y.1 z (d2 (X.kd j) (nJ w) D y.2.2)
    else some (j, w, D)
def tBi (a d j : Nat) : Option VD := if a = 8 then R 2 0 d j else (R 1 (a + 1) d j).bind fun x => tBL X R a d 200000 x.1 x.2.1 x.2.2
def tUn (d j : Nat) : Option VD := if X.kd j = 45 ∨ X.kd j = 126 ∨ X.kd j = 33 then
    (gd (ps X d j)).bind fun _ => (R 2 0 (d + 1) (j + 1)).bind fun x => if X.kd j = 33 ∧ ¬ x.2.1 = 1 then none else some (x.1, x.2.1, d1 (sgK (X.kd j)) (mkI (nI x.2.1)) x.2.2)
  else R 3 0 d j
def tPL (d : Nat) : Nat → Nat → Nat → DnE → Option VD
  | 0, _, _, _ => none
  | k + 1, j, w, D => if X.kd j = 91 then (sPk X d j w).bind fun z => tPL d k z.1 z.2 (d1 308 (wPk (loP X j) z.2) D) else some (j, w, D)
def tPo (d j : Nat) : Option VD := (R 4 0 d j).bind fun x => tPL X d 200000 x.1 x.2.1 x.2.2
def tNm (d j : Nat) : Option VD := (gd (ps X d j)).bind fun _ =>
  if (lk (X.nm j)).1 = 3 ∨ (lk (X.nm j)).1 = 1 then some (j + 1, (lk (X.nm j)).2, dNm C (lk (X.nm j)).1 (lz (X.nm j)))
  else if (lk (X.nm j)).1 = 2 ∧ X.kd (j + 1) = 91 then (gd (ps X d (j + 1))).bind fun _ => (R 0 0 (d + 1) (j + 2)).bind fun i => (ndq X (d + 1) i.1 93).bind fun _ => some (i.1 + 1, (lk (X.nm j)).2, dCel (lz (X.nm j)) i.2.2)
  else none
def tWi (d j : Nat) : Option VD := (gd (ps X d j)).bind fun _ => (ndq X d (j + 1) 40).bind fun _ => (R 0 0 (d + 1) (j + 2)).bind fun x =>
  (ndq X (d + 1) x.1 44).bind fun _ => (ndq X (d + 1) (x.1 + 1) 4).bind fun _ => (ndq X (d + 1) (x.1 + 2) 41).bind fun _ =>
    if 1 ≤ X.nu (x.1 + 1) ∧ X.nu (x.1 + 1) ≤ 64 ∧ x.2.1 ≤ X.nu (x.1 + 1) then some (x.1 + 3, X.nu (x.1 + 1), if X.kd j = 211 then d1 310 (wPk x.2.1 (X.nu (x.1 + 1))) x.2.2 else x.2.2) else none
def tCa (d j : Nat) : Option VD := (gd (ps X d j)).bind fun _ => (ndq X d (j + 1) 40).bind fun _ => (R 0 0 (d + 1) (j + 2)).bind fun x =>
  (ndq X (d + 1) x.1 44).bind fun _ => (R 0 0 (d + 1) (x.1 + 1)).bind fun y => (ndq X (d + 1) y.1 41).bind fun _ => (tw (X.kd j) x.2.1 y.2.1).bind fun z => some (y.1 + 1, z, d2 (X.kd j) (nJ x.2.1) x.2.2 y.2.2)
def tTL (d : Nat) : Nat → Nat → Nat → DnE → Option VD
  | 0, _, _, _ => none
  | k + 1, j, w, D => if X.kd j = 44 then (gd (ps X (d + 1) j)).bind fun _ => (R 0 0 (d + 1) (j + 1)).bind fun x => tTL d k x.1 (w + x.2.1) (d2 309 (nJ x.2.1) D x.2.2)
    else (ndq X (d + 1) j 125).bind fun _ => if w ≤ 64 then some (j + 1, w, D) else none
def tTo (d j : Nat) : Option VD := (gd (ps X d j)).bind fun _ => (R 0 0 (d + 1) (j + 1)).bind fun x => tTL X R d 200000 x.1 x.2.1 x.2.2
def tPr (d j : Nat) : Option VD :=
  if X.kd j = 4 then tLit X d j
  else if X.kd j = 40 then (gd (ps X d j)).bind fun _ => (R 0 0 (d + 1) (j + 1)).bind fun x => (ndq X (d + 1) x.1 41).bind fun _ => some (x.1 + 1, x.2.1, x.2.2)
  else if X.kd j = 123 then R 8 0 d j
  else if X.kd j = 211 ∨ X.kd j = 212 then R 6 0 d j
  else if 213 ≤ X.kd j ∧ X.kd j ≤ 216 then R 7 0 d j
  else if X.kd j = 3 then R 5 0 d j else none
end TX1
def tR (X : TX) (lk : LK) (lz : LZ) (C : List Nat) : Nat → Nat → Nat → Nat → Nat → Option VD
  | 0 => fun _ _ _ _ => none
  | n + 1 => fun m a d j => match m with
    | 0 => tEx X (tR X lk lz C n) d j
    | 1 => tBi X (tR X lk lz C n) a d j
    | 2 => tUn X (tR X lk lz C n) d j
    | 3 => tPo X (tR X lk lz C n) d j
    | 4 => tPr X (tR X lk lz C n) d j
    | 5 => tNm X lk lz C (tR X lk lz C n) d j
    | 6 => tWi X (tR X lk lz C n) d j
    | 7 => tCa X (tR X lk lz C n) d j
    | _ => tTo X (tR X lk lz C n) d j
/-- behind, names, lets ever, what it does -/
abbrev VS : Type := Nat × (LK × LZ) × Nat × DnS
section TX2
variable (X : TX) (C : List Nat)
def tE8 (lk : LK) (lz : LZ) (d j : Nat) : Option VD := tR X lk lz C 868 0 0 d j
def tLe (lk : LK) (lz : LZ) (le d j : Nat) : Option VS :=
  (gd (ps X d j)).bind fun _ => (ndq X d (j + 1) 3).bind fun _ => (ndq X d (j + 2) 61).bind fun _ => (tE8 X C lk lz d (j + 3)).bind fun x => (ndq X d x.1 59).bind fun _ =>
    if (lk (X.nm (j + 1))).1 = 0 ∧ le < 64 then some (x.1 + 1, (updK lk (X.nm (j + 1)) (3, x.2.1), updZ lz (X.nm (j + 1)) le), le + 1, zLt le x.2.2) else none
def tTr (lk : LK) (lz : LZ) (le d j : Nat) : Option VS :=
  (gd (ps X d j)).bind fun _ => (ndq X d (j + 1) 4).bind fun _ => (ndq X d (j + 2) 59).bind fun _ =>
    if 1 ≤ X.nu (j + 1) ∧ X.nu (j + 1) ≤ 1000000 then some (j + 3, (lk, lz), le, zTp (X.nu (j + 1))) else none
def tA2 (lk : LK) (lz : LZ) (le d j k i : Nat) (f : DnE → DnS) : Option VS :=
  (ndq X d i 61).bind fun _ => (tE8 X C lk lz d (i + 1)).bind fun x => (ndq X d x.1 59).bind fun _ => if lk (X.nm j) = (k, x.2.1) then some (x.1 + 1, (lk, lz), le, f x.2.2) else none
def tAs (lk : LK) (lz : LZ) (le d j : Nat) : Option VS :=
  (ndq X d j 3).bind fun _ => if X.kd (j + 1) = 91 then
    (gd (ps X d (j + 1))).bind fun _ => (tE8 X C lk lz (d + 1) (j + 2)).bind fun i => (ndq X (d + 1) i.1 93).bind fun _ => tA2 X C lk lz le d j 2 (i.1 + 1) (zCl (lz (X.nm j)) i.2.2)
  else tA2 X C lk lz le d j 1 (j + 1) (zRg (lz (X.nm j)))
variable (R : Nat → LK → LZ → Nat → Nat → Nat → Option VS)
def tKL (d : Nat) (lk0 : LK) (lz0 : LZ) : Nat → LK → LZ → Nat → Nat → DnS → Option VS
  | 0, _, _, _, _, _ => none
  | k + 1, lk, lz, le, j, D => if X.kd j = 125 then (gd (ps X (d + 1) j)).bind fun _ => some (j + 1, (lk0, lz0), le, D) else (R 1 lk lz le (d + 1) j).bind fun r => tKL d lk0 lz0 k r.2.1.1 r.2.1.2 r.2.2.1 r.1 (zSq D r.2.2.2)
def tBk (lk : LK) (lz : LZ) (le d j : Nat) : Option VS := (ndq X d j 123).bind fun _ => tKL X R d lk lz 200000 lk lz le (j + 1) zSk
def tIL (d : Nat) (lk : LK) (lz : LZ) : Nat → Nat → Nat → (DnS → DnS) → Option VS
  | 0, _, _, _ => none
  | k + 1, le, j, ch => (gd (ps X d j)).bind fun _ => (tE8 X C lk lz d (j + 1)).bind fun x => (gd (Nat.beq x.2.1 1)).bind fun _ => (R 0 lk lz le d x.1).bind fun r =>
    if X.kd r.1 = 210 then (gd (ps X d r.1)).bind fun _ => if X.kd (r.1 + 1) = 209 then tIL d lk lz k r.2.2.1 (r.1 + 1) (fun e => ch (zIf x.2.2 r.2.2.2 e)) else (R 0 lk lz r.2.2.1 d (r.1 + 1)).bind fun q => some (q.1, (lk, lz), q.2.2.1, ch (zIf x.2.2 r.2.2.2 q.2.2.2))
    else some (r.1, (lk, lz), r.2.2.1, ch (zIf x.2.2 r.2.2.2 zSk))
def tIs (lk : LK) (lz : LZ) (le d j : Nat) : Option VS := tIL X C R d lk lz 200000 le j (fun e => e)
def tSm (lk : LK) (lz : LZ) (le d j : Nat) : Option VS :=
  if X.kd j = 207 then tLe X C lk lz le d j else if X.kd j = 208 then tTr X lk lz le d j else if X.kd j = 209 then R 2 lk lz le d j else tAs X C lk lz le d j
end TX2
def tS (X : TX) (C : List Nat) : Nat → Nat → LK → LZ → Nat → Nat → Nat → Option VS
  | 0 => fun _ _ _ _ _ _ => none
  | n + 1 => fun m lk lz le d j => match m with
    | 0 => tBk X (tS X C n) lk lz le d j
    | 1 => tSm X C (tS X C n) lk lz le d j
    | _ => tIs X C (tS X C n) lk lz le d j
/-- names in an op: the letters of its code before the THINGS -/
def lzO (lz : LZ) (C : List Nat) : LZ := fun x => match x with
  | [c] => if isl c = true ∧ 0 < cntL c C then 64 + c else lz x
  | _ => lz x
/-- items: what they told, the THINGS' numbers, what the ops do -/
abbrev VI : Type := Nat × SI × LZ × List DnS
section TX3
variable (X : TX)
def tOp (s : SI) (lz : LZ) (B : List DnS) (j : Nat) : Option VI :=
  (gd (ps X 0 j)).bind fun _ => (ndq X 0 (j + 1) 3).bind fun _ => (ndq X 0 (j + 2) 5).bind fun _ =>
    (gd (decide (¬ X.nm (j + 1) ∈ s.ops.map Prod.fst ∧ s.ops.length < 512 ∧ (X.nm (j + 2)).length = s.bits))).bind fun _ =>
      (tS X (X.nm (j + 2)) 200 0 (lkO s.lk (X.nm (j + 2))) (lzO lz (X.nm (j + 2))) 0 0 (j + 3)).bind fun r => some (r.1, SI.mk s.bits s.lk s.tl s.cells s.fe (s.ops ++ [(X.nm (j + 1), X.nm (j + 2))]), lz, B ++ [r.2.2.2])
def tIt (s : SI) (lz : LZ) (B : List DnS) (j : Nat) : Option VI := if X.kd j = 206 then tOp X s lz B j else (sIt X s j).bind fun r => some (r.1, r.2, (if X.kd j = 204 then lz else updZ lz (X.nm (j + 1)) s.tl.length), B)
def tLp : Nat → SI → LZ → List DnS → Nat → Option (SI × LZ × List DnS)
  | 0, _, _, _, _ => none
  | k + 1, s, lz, B, j => if X.kd j = 1 then some (s, lz, B) else (tIt X s lz B j).bind fun r => tLp k r.2.1 r.2.2.1 r.2.2.2 r.1
def tTx : Option (SI × LZ × List DnS) := (ndq X 0 0 200).bind fun _ => (ndq X 0 1 4).bind fun _ => (ndq X 0 2 59).bind fun _ =>
  if X.nu 1 = 8 ∨ X.nu 1 = 16 ∨ X.nu 1 = 32 ∨ X.nu 1 = 64 then tLp X 200000 (SI.mk (X.nu 1) (fun _ => (0, 0)) [] 0 none []) (fun _ => 0) [] 3 else none
end TX3
