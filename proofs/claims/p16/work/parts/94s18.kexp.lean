/-! K: what A's parts are worth, a step a turn. Blocks: names before, what was done before, the if's other roads, the condition -/
abbrev BZq : Type := LZ × DnS × (DnS → DnS) × DnE
def ODq : Type := LZ × List BZq × DnS × (DnS → DnS) × Nat × DnE × List Nat × LZ × List DnS
abbrev ODq.mk (lz : LZ) (bz : List BZq) (D : DnS) (ch : DnS → DnS) (gi : Nat) (ix : DnE) (C : List Nat) (lt : LZ) (B : List DnS) : ODq := (lz, bz, D, ch, gi, ix, C, lt, B)
abbrev ODq.lz (x : ODq) : LZ := x.1
abbrev ODq.bz (x : ODq) : List BZq := x.2.1
abbrev ODq.D (x : ODq) : DnS := x.2.2.1
abbrev ODq.ch (x : ODq) : DnS → DnS := x.2.2.2.1
abbrev ODq.gi (x : ODq) : Nat := x.2.2.2.2.1
abbrev ODq.ix (x : ODq) : DnE := x.2.2.2.2.2.1
abbrev ODq.C (x : ODq) : List Nat := x.2.2.2.2.2.2.1
abbrev ODq.lt (x : ODq) : LZ := x.2.2.2.2.2.2.2.1
abbrev ODq.B (x : ODq) : List DnS := x.2.2.2.2.2.2.2.2
abbrev MDq : Type := List (DnE × Nat)
def qS : List MkA → List Nat → MDq → List DnE → MDq × List DnE
  | [], _, md, hd => (md, hd)
  | m :: M, H, md, hd => if m.k = 305 ∨ m.k = 306 ∨ m.k = 307 then qS M H md.tail (d1 m.k (mkI (nI (H.headD 0))) (hd.headD dN) :: hd.tail) else (md, hd)
def qB (l : Nat) : List MkA → List Nat → MDq → List DnE → MDq × List DnE
  | [], _, md, hd => (md, hd)
  | m :: M, H, md, hd => if l ≤ lvq m.k then qB l M (((tw m.k (H.tail.headD 0) (H.headD 0)).getD 0) :: H.tail.tail) md.tail (d2 m.k (nJ (H.tail.headD 0)) (hd.tail.headD dN) (hd.headD dN) :: hd.tail.tail) else (md, hd)
def qC : List MkA → List Nat → MDq → List DnE → MDq × List DnE
  | [], _, md, hd => (md, hd)
  | m :: M, H, md, hd => if m.k = 58 then qC M (H.tail.headD 0 :: H.tail.tail) md.tail (dCh (md.headD (dN, 0)).1 (hd.tail.headD dN) (hd.headD dN) :: hd.tail.tail) else (md, hd)
section KM
variable (X : TX)
def kFi (D : DnE) (o : OuA) (q : ODq) : ODq :=
  if o.gl = 1 then ODq.mk q.lz q.bz q.D q.ch q.gi D q.C q.lt q.B
  else if o.gl = 4 then ODq.mk q.lz ((q.lz, q.D, q.ch, D) :: q.bz) zSk q.ch q.gi q.ix q.C q.lt q.B
  else if o.gl = 0 then ODq.mk (updZ q.lz o.gn o.le) q.bz (zSq q.D (zLt o.le D)) q.ch q.gi q.ix q.C q.lt q.B
  else if o.gl = 2 then ODq.mk q.lz q.bz (zSq q.D (zRg q.gi D)) q.ch q.gi q.ix q.C q.lt q.B
  else ODq.mk q.lz q.bz (zSq q.D (zCl q.gi q.ix D)) q.ch q.gi q.ix q.C q.lt q.B
def kGo (m : MkA) (j : Nat) (H : List Nat) (md : MDq) (hd : List DnE) : MDq × List DnE :=
  if m.k = 63 then (md, hd)
  else if m.k = 123 then (if X.kd j = 44 then md else md.tail, if m.c = 0 then hd else d2 309 (nJ (H.headD 0)) (hd.tail.headD dN) (hd.headD dN) :: hd.tail.tail)
  else if m.k = 91 then (md.tail, dCel (md.headD (dN, 0)).2 (hd.headD dN) :: hd.tail)
  else if m.k = 40 then (md.tail, hd)
  else if m.k = 211 then (md.tail, d1 310 (wPk (H.headD 0) (X.nu (j + 1))) (hd.headD dN) :: hd.tail)
  else if m.k = 212 then (md.tail, hd)
  else if m.c = 0 then (md, hd) else (md.tail, d2 m.k (nJ (H.tail.headD 0)) (hd.tail.headD dN) (hd.headD dN) :: hd.tail.tail)
def kCh (j d : Nat) (M : List MkA) (H : List Nat) (o : OuA) (hd : List DnE) (md : MDq) (q : ODq) : List DnE × MDq × ODq :=
  if X.kd j = 63 then (hd.tail, (hd.headD dN, 0) :: md, q)
  else match popC M H d with
    | none => ([], [], q)
    | some u => match u.1 with
      | [] => ([], [], kFi ((qC M H md hd).2.headD dN) o q)
      | m :: _ => ((kGo X m j u.2.1 (qC M H md hd).1 (qC M H md hd).2).2, (kGo X m j u.2.1 (qC M H md hd).1 (qC M H md hd).2).1, q)
def kAf (j d : Nat) (M : List MkA) (H : List Nat) (o : OuA) (hd : List DnE) (md : MDq) (q : ODq) : List DnE × MDq × ODq :=
  if X.kd j = 91 then (d1 308 (wPk (loP X j) (if X.kd (j + 2) = 58 then X.nu (j + 1) - X.nu (j + 3) + 1 else 1)) (hd.headD dN) :: hd.tail, md, q)
  else match popS M H d with
    | none => ([], [], q)
    | some r => if 0 < lvq (X.kd j) then ((qB (lvq (X.kd j)) r.1 r.2.1 (qS M H md hd).1 (qS M H md hd).2).2, (dN, 0) :: (qB (lvq (X.kd j)) r.1 r.2.1 (qS M H md hd).1 (qS M H md hd).2).1, q)
      else match popB 1 r.1 r.2.1 with
        | none => ([], [], q)
        | some t => kCh X j r.2.2 t.1 t.2 o (qB 1 r.1 r.2.1 (qS M H md hd).1 (qS M H md hd).2).2 (qB 1 r.1 r.2.1 (qS M H md hd).1 (qS M H md hd).2).1 q
def kOp (j : Nat) (o : OuA) (hd : List DnE) (md : MDq) (q : ODq) : List DnE × MDq × ODq :=
  if X.kd j = 4 then (dLit (nJ (X.nu (j + 2))) :: hd, md, q)
  else if X.kd j = 3 then (if (o.lk (X.nm j)).1 = 2 ∧ X.kd (j + 1) = 91 then (hd, (dN, q.lz (X.nm j)) :: md, q) else (dNm q.C (o.lk (X.nm j)).1 (q.lz (X.nm j)) :: hd, md, q))
  else (hd, (dN, 0) :: md, q)
def kCl (j k : Nat) (q : ODq) : ODq := match q.bz with
  | [] => q
  | b :: bz => if k = 206 then ODq.mk b.1 bz zSk q.ch q.gi q.ix q.C q.lt (q.B ++ [q.D])
    else if k = 209 ∧ X.kd (j + 1) = 210 then (if X.kd (j + 2) = 209 then ODq.mk b.1 bz b.2.1 (fun e => b.2.2.1 (zIf b.2.2.2 q.D e)) q.gi q.ix q.C q.lt q.B
      else ODq.mk b.1 ((b.1, b.2.1, (fun e => b.2.2.1 (zIf b.2.2.2 q.D e)), dN) :: bz) zSk q.ch q.gi q.ix q.C q.lt q.B)
    else if k = 209 then ODq.mk b.1 bz (zSq b.2.1 (b.2.2.1 (zIf b.2.2.2 q.D zSk))) q.ch q.gi q.ix q.C q.lt q.B
    else ODq.mk b.1 bz (zSq b.2.1 (b.2.2.1 q.D)) q.ch q.gi q.ix q.C q.lt q.B
def kSt (j : Nat) (o : OuA) (q : ODq) : ODq :=
  if X.kd j = 3 then ODq.mk q.lz q.bz q.D q.ch (q.lz (X.nm j)) q.ix q.C q.lt q.B
  else if X.kd j = 208 then ODq.mk q.lz q.bz (zSq q.D (zTp (X.nu (j + 1)))) q.ch q.gi q.ix q.C q.lt q.B
  else if X.kd j = 209 then ODq.mk q.lz q.bz q.D (fun e => e) q.gi q.ix q.C q.lt q.B
  else if X.kd j = 125 then kCl X j (o.bl.headD (0, o.lk)).1 q
  else q
def kIt (j : Nat) (o : OuA) (q : ODq) : ODq :=
  if X.kd j = 206 then ODq.mk (lzO q.lt (X.nm (j + 2))) [(lzO q.lt (X.nm (j + 2)), zSk, (fun e => e), dN)] zSk q.ch q.gi q.ix (X.nm (j + 2)) q.lt q.B
  else if X.kd j = 204 then q
  else ODq.mk q.lz q.bz q.D q.ch q.gi q.ix q.C (updZ q.lt (X.nm (j + 1)) o.s.tl.length) q.B
def kSp (c : CfA) (hd : List DnE) (md : MDq) (q : ODq) : List DnE × MDq × ODq := match c.md with
  | 0 => ([], [], kIt X c.j c.o q)
  | 1 => ([], [], kSt X c.j c.o q)
  | 2 => kOp X c.j c.o hd md q
  | _ => kAf X c.j c.d c.M c.H c.o hd md q
end KM
/-- A with its parts' worth ends in r -/
def EndK (X : TX) (r : SI × LZ × List DnS) (c : CfA) (hd : List DnE) (md : MDq) (q : ODq) : Prop := ∀ Q : CfA → List DnE → MDq → ODq → Prop, (∀ c hd md q, (c.md = 0 ∧ X.kd c.j = 1) → r = (c.o.s, q.lt, q.B) → Q c hd md q) → (∀ c c' hd md q, aSp X c = some c' → Q c' (kSp X c hd md q).1 (kSp X c hd md q).2.1 (kSp X c hd md q).2.2 → Q c hd md q) → Q c hd md q
theorem EndK.fin {X : TX} {r : SI × LZ × List DnS} {c : CfA} {hd : List DnE} {md : MDq} {q : ODq} (h : c.md = 0 ∧ X.kd c.j = 1) (e : r = (c.o.s, q.lt, q.B)) : EndK X r c hd md q := fun _ a _ => a c hd md q h e
theorem EndK.go {X : TX} {r : SI × LZ × List DnS} {c c' : CfA} {hd hd' : List DnE} {md md' : MDq} {q q' : ODq} (h : aSp X c = some c') (e : kSp X c hd md q = (hd', md', q')) (t : EndK X r c' hd' md' q') : EndK X r c hd md q := fun Q a b => b c c' hd md q h (by rw [e]; exact t Q a b)
theorem EndK.inv {X : TX} {r : SI × LZ × List DnS} {c : CfA} {hd : List DnE} {md : MDq} {q : ODq} (t : EndK X r c hd md q) : ((c.md = 0 ∧ X.kd c.j = 1) ∧ r = (c.o.s, q.lt, q.B)) ∨ ∃ c', aSp X c = some c' ∧ EndK X r c' (kSp X c hd md q).1 (kSp X c hd md q).2.1 (kSp X c hd md q).2.2 :=
  (t (fun c hd md q => EndK X r c hd md q ∧ (((c.md = 0 ∧ X.kd c.j = 1) ∧ r = (c.o.s, q.lt, q.B)) ∨ ∃ c', aSp X c = some c' ∧ EndK X r c' (kSp X c hd md q).1 (kSp X c hd md q).2.1 (kSp X c hd md q).2.2)) (fun c hd md q h e => ⟨EndK.fin h e, Or.inl ⟨h, e⟩⟩) (fun c c' hd md q h k => ⟨EndK.go h rfl k.1, Or.inr ⟨c', h, k.1⟩⟩)).2
theorem EndK.eq {X : TX} {r : SI × LZ × List DnS} {c c' : CfA} {hd hd' : List DnE} {md md' : MDq} {q q' : ODq} (e : aSp X c = aSp X c') (e2 : kSp X c hd md q = kSp X c' hd' md' q') (h2 : ¬ c'.md = 0) (t : EndK X r c' hd' md' q') : EndK X r c hd md q := by
  rcases t.inv with ⟨h, -⟩ | ⟨c2, h, k⟩
  · exact absurd h.1 h2
  · exact EndK.go (e.trans h) e2 k
theorem obn {α β : Type} {x : Option α} {f : α → Option β} {r : β} (e : x.bind f = some r) : ∃ a, x = some a ∧ f a = some r := by
  cases x with
  | none => cases e
  | some a => exact ⟨a, rfl, e⟩
theorem gdS {c : Bool} {u : Unit} (e : gd c = some u) : c = true := by
  cases c with
  | true => rfl
  | false => cases e
theorem ndK {X : TX} {d j k : Nat} {u : Unit} (e : ndq X d j k = some u) : X.kd j = k ∧ d ≤ 60 := by
  unfold ndq at e
  have h := gdS e
  rw [Bool.and_eq_true] at h
  exact ⟨Nat.eq_of_beq_eq_true h.1, ps_d h.2⟩
theorem Tp.qS {l : Nat} {M : List MkA} (h : Tp l M) (H : List Nat) (md : MDq) (hd : List DnE) : qS M H md hd = (md, hd) := by
  cases M with
  | nil => rfl
  | cons m M =>
    have := (h m M rfl).1
    show (if m.k = 305 ∨ m.k = 306 ∨ m.k = 307 then _ else _) = _
    rw [if_neg this]
theorem Tp.qB {l k : Nat} {M : List MkA} (h : Tp l M) (hk : l < k) (H : List Nat) (md : MDq) (hd : List DnE) : qB k M H md hd = (md, hd) := by
  cases M with
  | nil => rfl
  | cons m M =>
    have := (h m M rfl).2
    show (if k ≤ lvq m.k then _ else _) = _
    rw [if_neg (by omega)]
section KA
variable {X : TX}
theorem kft_s {j d k c q w : Nat} {M : List MkA} {H : List Nat} {o : OuA} {D : DnE} {hd : List DnE} {m0 : DnE × Nat} {md : MDq} {od : ODq} (hk : k = 305 ∨ k = 306 ∨ k = 307) (h91 : ¬ X.kd j = 91) (hw : ¬ (k = 307 ∧ ¬ w = 1)) : kSp X ⟨3, j, d + 1, ⟨k, c, q⟩ :: M, w :: H, o⟩ (D :: hd) (m0 :: md) od = kSp X ⟨3, j, d, M, w :: H, o⟩ (d1 k (mkI (nI w)) D :: hd) md od := by
  show kAf X j (d + 1) (⟨k, c, q⟩ :: M) (w :: H) o (D :: hd) (m0 :: md) od = kAf X j d M (w :: H) o (d1 k (mkI (nI w)) D :: hd) md od
  unfold kAf
  rw [if_neg h91, if_neg h91]
  have ep : popS (⟨k, c, q⟩ :: M) (w :: H) (d + 1) = popS M (w :: H) d := by
    show (if k = 305 ∨ k = 306 then popS M (w :: H) (d + 1 - 1) else if k = 307 then (if w = 1 then popS M (w :: H) (d + 1 - 1) else none) else _) = _
    rcases hk with e | e | e
    · rw [if_pos (Or.inl e), Nat.add_sub_cancel]
    · rw [if_pos (Or.inr e), Nat.add_sub_cancel]
    · rw [if_neg (by omega), if_pos e, if_pos (by omega), Nat.add_sub_cancel]
  have eq : qS (⟨k, c, q⟩ :: M) (w :: H) (m0 :: md) (D :: hd) = qS M (w :: H) md (d1 k (mkI (nI w)) D :: hd) := by
    show (if k = 305 ∨ k = 306 ∨ k = 307 then qS M (w :: H) md (d1 k (mkI (nI w)) D :: hd) else _) = _
    rw [if_pos hk]
  rw [ep, eq]
theorem kft_b {j d k x y z : Nat} {M : List MkA} {H : List Nat} {o : OuA} {l : Nat} {Dx Dy : DnE} {hd : List DnE} {m0 : DnE × Nat} {md : MDq} {od : ODq} (hl : lvq k = l + 1) (h91 : ¬ X.kd j = 91) (hj : lvq (X.kd j) ≤ l + 1) (hM : Tp l M) (hz : tw k x y = some z) : kSp X ⟨3, j, d, ⟨k, 0, 0⟩ :: M, y :: x :: H, o⟩ (Dy :: Dx :: hd) (m0 :: md) od = kSp X ⟨3, j, d, M, z :: H, o⟩ (d2 k (nJ x) Dx Dy :: hd) md od := by
  have hk := lvq_0 (k := k) (by omega)
  have hT : Tp (l + 1) (⟨k, 0, 0⟩ :: M) := Tp.cons M (by omega) (by omega)
  show kAf X j d (⟨k, 0, 0⟩ :: M) (y :: x :: H) o (Dy :: Dx :: hd) (m0 :: md) od = kAf X j d M (z :: H) o (d2 k (nJ x) Dx Dy :: hd) md od
  have pB : ∀ t, t ≤ l + 1 → popB t (⟨k, 0, 0⟩ :: M) (y :: x :: H) = popB t M (z :: H) := fun t ht => by
    show (if t ≤ lvq k then (tw k x y).bind fun z => popB t M (z :: H) else _) = _
    rw [if_pos (by omega), hz]; rfl
  have qB1 : ∀ t, t ≤ l + 1 → qB t (⟨k, 0, 0⟩ :: M) (y :: x :: H) (m0 :: md) (Dy :: Dx :: hd) = qB t M (z :: H) md (d2 k (nJ x) Dx Dy :: hd) := fun t ht => by
    show (if t ≤ lvq k then qB t M (((tw k x y).getD 0) :: H) md (d2 k (nJ x) Dx Dy :: hd) else _) = _
    rw [if_pos (by omega), hz]; rfl
  unfold kAf
  rw [if_neg h91, if_neg h91, hT.S, hM.S, hT.qS, hM.qS]
  show (if 0 < lvq (X.kd j) then ((qB (lvq (X.kd j)) (⟨k, 0, 0⟩ :: M) (y :: x :: H) (m0 :: md) (Dy :: Dx :: hd)).2, (dN, 0) :: (qB (lvq (X.kd j)) (⟨k, 0, 0⟩ :: M) (y :: x :: H) (m0 :: md) (Dy :: Dx :: hd)).1, od) else match popB 1 (⟨k, 0, 0⟩ :: M) (y :: x :: H) with | none => ([], [], od) | some t => kCh X j d t.1 t.2 o (qB 1 (⟨k, 0, 0⟩ :: M) (y :: x :: H) (m0 :: md) (Dy :: Dx :: hd)).2 (qB 1 (⟨k, 0, 0⟩ :: M) (y :: x :: H) (m0 :: md) (Dy :: Dx :: hd)).1 od) = (if 0 < lvq (X.kd j) then ((qB (lvq (X.kd j)) M (z :: H) md (d2 k (nJ x) Dx Dy :: hd)).2, (dN, 0) :: (qB (lvq (X.kd j)) M (z :: H) md (d2 k (nJ x) Dx Dy :: hd)).1, od) else match popB 1 M (z :: H) with | none => ([], [], od) | some t => kCh X j d t.1 t.2 o (qB 1 M (z :: H) md (d2 k (nJ x) Dx Dy :: hd)).2 (qB 1 M (z :: H) md (d2 k (nJ x) Dx Dy :: hd)).1 od)
  rw [pB 1 (by omega), qB1 _ hj, qB1 1 (by omega)]
theorem kft_0 {j d : Nat} {M : List MkA} {H : List Nat} {o : OuA} {hd : List DnE} {md : MDq} {od : ODq} (h91 : ¬ X.kd j = 91) (hj : lvq (X.kd j) = 0) (hM : Tp 0 M) : kSp X ⟨3, j, d, M, H, o⟩ hd md od = kCh X j d M H o hd md od := by
  show kAf X j d M H o hd md od = _
  unfold kAf
  rw [if_neg h91, hM.S, hM.qS]
  show (if 0 < lvq (X.kd j) then _ else match popB 1 M H with | none => ([], [], od) | some t => kCh X j d t.1 t.2 o (qB 1 M H md hd).2 (qB 1 M H md hd).1 od) = _
  rw [if_neg (show ¬ 0 < lvq (X.kd j) by omega), hM.B (by omega), hM.qB (by omega)]
theorem kft_c {j d q y z : Nat} {M : List MkA} {H : List Nat} {o : OuA} {Dy Dz : DnE} {hd : List DnE} {m0 : DnE × Nat} {md : MDq} {od : ODq} (h91 : ¬ X.kd j = 91) (h63 : ¬ X.kd j = 63) (hj : lvq (X.kd j) = 0) (hM : Tp 0 M) (hz : q = 1 ∧ y = z) : kSp X ⟨3, j, d + 1, ⟨58, 0, q⟩ :: M, z :: y :: H, o⟩ (Dz :: Dy :: hd) (m0 :: md) od = kSp X ⟨3, j, d, M, y :: H, o⟩ (dCh m0.1 Dy Dz :: hd) md od := by
  have hT : Tp 0 (⟨58, 0, q⟩ :: M) := Tp.cons M (by omega) (by decide)
  rw [kft_0 h91 hj hT, kft_0 h91 hj hM]
  unfold kCh
  rw [if_neg h63, if_neg h63]
  have ep : popC (⟨58, 0, q⟩ :: M) (z :: y :: H) (d + 1) = popC M (y :: H) d := by
    show (if 58 = 58 then (if q = 1 ∧ y = z then popC M (y :: H) (d + 1 - 1) else none) else _) = _
    rw [if_pos rfl, if_pos hz, Nat.add_sub_cancel]
  have eq : qC (⟨58, 0, q⟩ :: M) (z :: y :: H) (m0 :: md) (Dz :: Dy :: hd) = qC M (y :: H) md (dCh m0.1 Dy Dz :: hd) := by
    show (if 58 = 58 then qC M (y :: H) md (dCh m0.1 Dy Dz :: hd) else _) = _
    rw [if_pos rfl]
  rw [ep, eq]
theorem kft_g {j d : Nat} {m : MkA} {M : List MkA} {H : List Nat} {o : OuA} {hd : List DnE} {md : MDq} {od : ODq} (h91 : ¬ X.kd j = 91) (h63 : ¬ X.kd j = 63) (hj : lvq (X.kd j) = 0) (hM : Tp 0 (m :: M)) (h58 : ¬ m.k = 58) : kSp X ⟨3, j, d, m :: M, H, o⟩ hd md od = ((kGo X m j H md hd).2, (kGo X m j H md hd).1, od) := by
  rw [kft_0 h91 hj hM]
  unfold kCh
  rw [if_neg h63]
  have : popC (m :: M) H d = some (m :: M, H, d) := by
    unfold popC
    rw [if_neg h58]
  have q : qC (m :: M) H md hd = (md, hd) := by
    unfold qC
    rw [if_neg h58]
  rw [this, q]
theorem kft_l {j d l : Nat} {M : List MkA} {H : List Nat} {o : OuA} {hd : List DnE} {md : MDq} {od : ODq} (h91 : ¬ X.kd j = 91) (hj : lvq (X.kd j) = l + 1) (hM : Tp l M) : kSp X ⟨3, j, d, M, H, o⟩ hd md od = (hd, (dN, 0) :: md, od) := by
  show kAf X j d M H o hd md od = _
  unfold kAf
  rw [if_neg h91, hM.S, hM.qS]
  show (if 0 < lvq (X.kd j) then ((qB (lvq (X.kd j)) M H md hd).2, (dN, 0) :: (qB (lvq (X.kd j)) M H md hd).1, od) else _) = _
  rw [if_pos (by omega), hM.qB (by omega)]
end KA
/-- what A does where T reads a part of an EXPR -/
def AKo (X : TX) (J m a d j : Nat) (M : List MkA) (H : List Nat) (o : OuA) (hd : List DnE) (md : MDq) (q : ODq) (r : VD) : Prop :=
  d ≤ 60 ∧ (j < r.1 ∧ r.1 ≤ J) ∧ ((m ≤ 3 → ¬ X.kd r.1 = 91) ∧ (m ≤ 1 → lvq (X.kd r.1) ≤ (if m = 0 then 0 else a)) ∧ (m = 0 → ¬ X.kd r.1 = 63)) ∧ ∀ z, EndK X z ⟨3, r.1, d, M, r.2.1 :: H, o⟩ (r.2.2 :: hd) md q → EndK X z ⟨2, j, d, M, H, o⟩ hd md q
def IHK (X : TX) (J n : Nat) : Prop := ∀ (m a d j : Nat) (M : List MkA) (H : List Nat) (o : OuA) (hd : List DnE) (md : MDq) (q : ODq) (r : VD), tR X o.lk q.lz q.C n m a d j = some r → j ≤ J → preA m (X.kd j) → (m = 1 → a ≤ 8) → (m = 0 → Tp 0 M) → (m = 1 → Tp a M) → AKo X J m a d j M H o hd md q r
section KB
variable {X : TX} {J : Nat} {n : Nat} {M : List MkA} {H : List Nat} {o : OuA} {hd : List DnE} {md : MDq} {q : ODq} {r : VD}
theorem exK (hJ : X.kd J = 1 ∨ X.kd J = 2) (IH : IHK X J n) {d j : Nat} (e : tEx X (tR X o.lk q.lz q.C n) d j = some r) (hjJ : j ≤ J) (hM : Tp 0 M) : AKo X J 0 0 d j M H o hd md q r := by
  unfold tEx at e
  obtain ⟨x, e1, e⟩ := obn e
  obtain ⟨hd0, ⟨b1, b2⟩, ⟨c1, c2, -⟩, k1⟩ := IH 1 0 d j M H o hd md q x e1 hjJ (preA0 (by omega)) (fun _ => by omega) (fun w => by omega) (fun _ => hM)
  have c1 := c1 (by omega)
  have c2 : lvq (X.kd x.1) ≤ 0 := c2 (by omega)
  by_cases c : X.kd x.1 = 63
  rotate_left
  · rw [if_neg c] at e
    obtain rfl := Option.some.inj e
    exact ⟨hd0, ⟨b1, b2⟩, ⟨fun _ => c1, fun _ => c2, fun _ => c⟩, k1⟩
  rw [if_pos c] at e
  obtain ⟨_, -, e⟩ := obn e
  obtain ⟨y, e2, e⟩ := obn e
  obtain ⟨_, n1, e⟩ := obn e
  obtain ⟨z, e3, e⟩ := obn e
  have q2 := (ndK n1).1
  have d60 : d < 60 := by have := (ndK n1).2; omega
  have st : aSp X ⟨3, x.1, d, M, x.2.1 :: H, o⟩ = some ⟨2, x.1 + 1, d + 1, ⟨63, 0, x.2.1⟩ :: M, H, o⟩ := by
    rw [aft_0 c1 (by omega) hM]
    unfold aCh
    rw [if_pos c, if_pos d60]
    rfl
  have kt : kSp X ⟨3, x.1, d, M, x.2.1 :: H, o⟩ (x.2.2 :: hd) md q = (hd, (x.2.2, 0) :: md, q) := by
    rw [kft_0 c1 (by omega) hM]
    unfold kCh
    rw [if_pos c]
    rfl
  obtain ⟨-, ⟨b3, b4⟩, ⟨f1, f2, f3⟩, k2⟩ := IH 0 0 (d + 1) (x.1 + 1) (⟨63, 0, x.2.1⟩ :: M) H o hd ((x.2.2, 0) :: md) q y e2 (nxJ hJ b2 (by omega) (by omega)) (preA0 (by omega)) (fun w => by omega) (fun _ => Tp.cons M (by omega) (by decide)) (fun w => by omega)
  have f1 := f1 (by omega)
  have f2 : lvq (X.kd y.1) ≤ 0 := f2 (by omega)
  have f3 := f3 rfl
  have T1 : Tp 0 (⟨63, 0, x.2.1⟩ :: M) := Tp.cons M (by omega) (by decide)
  have s3 : aSp X ⟨3, y.1, d + 1, ⟨63, 0, x.2.1⟩ :: M, y.2.1 :: H, o⟩ = some ⟨2, y.1 + 1, d + 1, ⟨58, 0, x.2.1⟩ :: M, y.2.1 :: H, o⟩ := by
    rw [aft_g (d := d + 1) (H := y.2.1 :: H) (o := o) f1 f3 (by omega) T1 (by show ¬ 63 = 58; decide)]
    unfold aGo
    rw [if_pos ⟨rfl, q2⟩]
  have kt3 : kSp X ⟨3, y.1, d + 1, ⟨63, 0, x.2.1⟩ :: M, y.2.1 :: H, o⟩ (y.2.2 :: hd) ((x.2.2, 0) :: md) q = (y.2.2 :: hd, (x.2.2, 0) :: md, q) := by
    rw [kft_g (d := d + 1) (H := y.2.1 :: H) (o := o) f1 f3 (by omega) T1 (by show ¬ 63 = 58; decide)]
    unfold kGo
    rw [if_pos rfl]
  obtain ⟨-, ⟨b5, b6⟩, ⟨g1, g2, g3⟩, k3⟩ := IH 0 0 (d + 1) (y.1 + 1) (⟨58, 0, x.2.1⟩ :: M) (y.2.1 :: H) o (y.2.2 :: hd) ((x.2.2, 0) :: md) q z e3 (nxJ hJ b4 (by omega) (by omega)) (preA0 (by omega)) (fun w => by omega) (fun _ => Tp.cons M (by omega) (by decide)) (fun w => by omega)
  have g1 := g1 (by omega)
  have g2 : lvq (X.kd z.1) ≤ 0 := g2 (by omega)
  have g3 := g3 rfl
  by_cases cc : x.2.1 = 1 ∧ y.2.1 = z.2.1
  rotate_left
  · rw [if_neg cc] at e; cases e
  rw [if_pos cc] at e
  obtain rfl := Option.some.inj e
  have s4 := aft_c (q := x.2.1) (y := y.2.1) (z := z.2.1) (d := d) (H := H) (o := o) g1 g3 (by omega) hM
  rw [if_pos cc] at s4
  have kt4 := kft_c (q := x.2.1) (y := y.2.1) (z := z.2.1) (d := d) (H := H) (o := o) (Dy := y.2.2) (Dz := z.2.2) (hd := hd) (m0 := (x.2.2, 0)) (md := md) (od := q) g1 g3 (by omega) hM cc
  exact ⟨hd0, ⟨by show j < z.1; omega, b6⟩, ⟨fun _ => g1, fun _ => g2, fun _ => g3⟩, fun t ht => k1 t (EndK.go st kt (k2 t (EndK.go s3 kt3 (k3 t (EndK.eq s4 kt4 (fun w => by cases w) ht)))))⟩
theorem blK (hJ : X.kd J = 1 ∨ X.kd J = 2) (IH : IHK X J n) {a d j0 : Nat} (ha : a < 8) (d0 : d ≤ 60) (hM : Tp a M) : ∀ (k j w : Nat) (D : DnE), j0 < j → j ≤ J → ¬ X.kd j = 91 → lvq (X.kd j) ≤ a + 1 → (∀ z, EndK X z ⟨3, j, d, M, w :: H, o⟩ (D :: hd) md q → EndK X z ⟨2, j0, d, M, H, o⟩ hd md q) → tBL X (tR X o.lk q.lz q.C n) a d k j w D = some r → AKo X J 1 a d j0 M H o hd md q r := by
  intro k
  induction k with
  | zero => intro j w D _ _ _ _ _ e; cases e
  | succ k ih =>
    intro j w D hj0 hjJ h91 hl cont e
    unfold tBL at e
    by_cases c : lvq (X.kd j) = a + 1
    rotate_left
    · rw [if_neg c] at e
      obtain rfl := Option.some.inj e
      exact ⟨d0, ⟨hj0, hjJ⟩, ⟨fun _ => h91, fun _ => by rw [if_neg (by omega)]; show lvq (X.kd j) ≤ a; omega, fun w => by omega⟩, cont⟩
    rw [if_pos c] at e
    obtain ⟨_, -, e⟩ := obn e
    obtain ⟨y, e1, e⟩ := obn e
    obtain ⟨z, e2, e⟩ := obn e
    have st := aft_l (d := d) (H := w :: H) (o := o) h91 c hM
    have kt := kft_l (X := X) (d := d) (H := w :: H) (o := o) (hd := D :: hd) (md := md) (od := q) h91 c hM
    have hkk := lvq_0 (k := X.kd j) (by omega)
    have hj1 := nxJ hJ hjJ (by omega) (by omega)
    obtain ⟨-, ⟨b1, b2⟩, ⟨c1, c2, -⟩, k1⟩ := IH 1 (a + 1) d (j + 1) (⟨X.kd j, 0, 0⟩ :: M) (w :: H) o (D :: hd) ((dN, 0) :: md) q y e1 hj1 (preA0 (by omega)) (fun _ => by omega) (fun w => by omega) (fun _ => Tp.cons M (by omega) (by omega))
    have c1 := c1 (by omega)
    have c2 : lvq (X.kd y.1) ≤ a + 1 := by have := c2 (by omega); rw [if_neg (by omega)] at this; exact this
    have s2 := aft_b (X := X) (k := X.kd j) (x := w) (y := y.2.1) (d := d) (H := H) (o := o) c c1 c2 hM
    rw [e2] at s2
    have kt2 := kft_b (X := X) (k := X.kd j) (x := w) (y := y.2.1) (d := d) (H := H) (o := o) (Dx := D) (Dy := y.2.2) (hd := hd) (m0 := (dN, 0)) (md := md) (od := q) c c1 c2 hM e2
    exact ih y.1 z _ (by omega) b2 c1 c2 (fun t ht => cont t (EndK.go st kt (k1 t (EndK.eq s2 kt2 (fun w => by cases w) ht)))) e
theorem biK (hJ : X.kd J = 1 ∨ X.kd J = 2) (IH : IHK X J n) {a d j : Nat} (ha : a ≤ 8) (e : tBi X (tR X o.lk q.lz q.C n) a d j = some r) (hjJ : j ≤ J) (hM : Tp a M) : AKo X J 1 a d j M H o hd md q r := by
  unfold tBi at e
  by_cases c : a = 8
  · rw [if_pos c] at e
    obtain ⟨d0, b1, ⟨c1, -, -⟩, k1⟩ := IH 2 0 d j M H o hd md q r e hjJ (preA0 (by omega)) (fun w => by omega) (fun w => by omega) (fun w => by omega)
    exact ⟨d0, b1, ⟨fun _ => c1 (by omega), fun _ => by rw [if_neg (by omega), c]; exact lvq_8 _, fun w => by omega⟩, k1⟩
  · rw [if_neg c] at e
    obtain ⟨x, e1, e⟩ := obn e
    have hM1 : Tp (a + 1) M := fun m M' e => ⟨(hM m M' e).1, by have := (hM m M' e).2; omega⟩
    obtain ⟨d0, ⟨b1, b2⟩, ⟨c1, c2, -⟩, k1⟩ := IH 1 (a + 1) d j M H o hd md q x e1 hjJ (preA0 (by omega)) (fun _ => by omega) (fun w => by omega) (fun _ => hM1)
    have c2 : lvq (X.kd x.1) ≤ a + 1 := by have := c2 (by omega); rw [if_neg (by omega)] at this; exact this
    exact blK hJ IH (by omega) d0 hM 200000 x.1 x.2.1 x.2.2 b1 b2 (c1 (by omega)) c2 k1 e
theorem unK (hJ : X.kd J = 1 ∨ X.kd J = 2) (IH : IHK X J n) {d j : Nat} (e : tUn X (tR X o.lk q.lz q.C n) d j = some r) (hjJ : j ≤ J) : AKo X J 2 0 d j M H o hd md q r := by
  unfold tUn at e
  by_cases c : X.kd j = 45 ∨ X.kd j = 126 ∨ X.kd j = 33
  rotate_left
  · rw [if_neg c] at e
    obtain ⟨d0, b, ⟨c1, -, -⟩, k1⟩ := IH 3 0 d j M H o hd md q r e hjJ (preA3 (Or.inl rfl) c) (fun w => by omega) (fun w => by omega) (fun w => by omega)
    exact ⟨d0, b, ⟨fun _ => c1 (by omega), fun w => by omega, fun w => by omega⟩, k1⟩
  rw [if_pos c] at e
  obtain ⟨_, -, e⟩ := obn e
  obtain ⟨x, e1, e⟩ := obn e
  have hj1 := nxJ hJ hjJ (by omega) (by omega)
  obtain ⟨d0, ⟨b1, b2⟩, ⟨c1, -, -⟩, k1⟩ := IH 2 0 (d + 1) (j + 1) (⟨sgK (X.kd j), 0, 0⟩ :: M) H o hd ((dN, 0) :: md) q x e1 hj1 (preA0 (by omega)) (fun w => by omega) (fun w => by omega) (fun w => by omega)
  have c1 := c1 (by omega)
  have d60 : d < 60 := by omega
  by_cases z : X.kd j = 33 ∧ ¬ x.2.1 = 1
  · rw [if_pos z] at e; cases e
  rw [if_neg z] at e
  obtain rfl := Option.some.inj e
  have hsk : (sgK (X.kd j) = 305 ∨ sgK (X.kd j) = 306 ∨ sgK (X.kd j) = 307) ∧ (sgK (X.kd j) = 307 → X.kd j = 33) := by
    unfold sgK
    by_cases a : X.kd j = 45
    · rw [if_pos a]; omega
    · rw [if_neg a]
      by_cases b : X.kd j = 126
      · rw [if_pos b]; omega
      · rw [if_neg b]; omega
  have st : aSp X ⟨2, j, d, M, H, o⟩ = some ⟨2, j + 1, d + 1, ⟨sgK (X.kd j), 0, 0⟩ :: M, H, o⟩ := by
    show aOp X j d M H o = _
    unfold aOp sgK
    by_cases a : X.kd j = 45
    · rw [if_pos a, if_pos d60, if_pos a]
    · rw [if_neg a, if_neg a]
      by_cases b : X.kd j = 126
      · rw [if_pos b, if_pos d60, if_pos b]
      · have b3 : X.kd j = 33 := by omega
        rw [if_neg b, if_neg b, if_pos b3, if_pos d60]
  have kt : kSp X ⟨2, j, d, M, H, o⟩ hd md q = (hd, (dN, 0) :: md, q) := by
    show kOp X j o hd md q = _
    unfold kOp
    rw [if_neg (by omega), if_neg (by omega)]
  have hw : ¬ (sgK (X.kd j) = 307 ∧ ¬ x.2.1 = 1) := fun y => z ⟨hsk.2 y.1, y.2⟩
  have s2 := aft_s (X := X) (c := 0) (q := 0) (w := x.2.1) (d := d) (M := M) (H := H) (o := o) hsk.1 c1
  rw [if_neg hw] at s2
  have kt2 := kft_s (X := X) (c := 0) (q := 0) (w := x.2.1) (d := d) (M := M) (H := H) (o := o) (D := x.2.2) (hd := hd) (m0 := (dN, 0)) (md := md) (od := q) hsk.1 c1 hw
  exact ⟨by omega, ⟨by show j < x.1; omega, b2⟩, ⟨fun _ => c1, fun w => by omega, fun w => by omega⟩, fun t ht => EndK.go st kt (k1 t (EndK.eq s2 kt2 (fun w => by cases w) ht))⟩
theorem pkK (hJ : X.kd J = 1 ∨ X.kd J = 2) {d j w : Nat} {z : Nat × Nat} {D : DnE} (e : sPk X d j w = some z) (hjJ : j ≤ J) (h91 : X.kd j = 91) : (j < z.1 ∧ z.1 ≤ J) ∧ aSp X ⟨3, j, d, M, w :: H, o⟩ = some ⟨3, z.1, d, M, z.2 :: H, o⟩ ∧ kSp X ⟨3, j, d, M, w :: H, o⟩ (D :: hd) md q = (d1 308 (wPk (loP X j) z.2) D :: hd, md, q) := by
  have st : aSp X ⟨3, j, d, M, w :: H, o⟩ = aPk X j d M (w :: H) o := by
    show aAf X j d M (w :: H) o = _
    unfold aAf
    rw [if_pos h91]
  have ePk : aPk X j d M (w :: H) o = if d < 60 ∧ X.kd (j + 1) = 4 then (if X.kd (j + 2) = 58 then (if X.kd (j + 3) = 4 ∧ X.kd (j + 4) = 93 ∧ X.nu (j + 1) < w ∧ X.nu (j + 3) ≤ X.nu (j + 1) then some ⟨3, j + 5, d, M, (X.nu (j + 1) - X.nu (j + 3) + 1) :: H, o⟩ else none) else if X.kd (j + 2) = 93 ∧ X.nu (j + 1) < w then some ⟨3, j + 3, d, M, 1 :: H, o⟩ else none) else none := rfl
  have kt : kSp X ⟨3, j, d, M, w :: H, o⟩ (D :: hd) md q = (d1 308 (wPk (loP X j) (if X.kd (j + 2) = 58 then X.nu (j + 1) - X.nu (j + 3) + 1 else 1)) D :: hd, md, q) := by
    show kAf X j d M (w :: H) o (D :: hd) md q = _
    unfold kAf
    rw [if_pos h91]
    rfl
  unfold sPk at e
  obtain ⟨_, -, e⟩ := obn e
  obtain ⟨_, n1, e⟩ := obn e
  have q2 := (ndK n1).1
  have d60 : d < 60 := by have := (ndK n1).2; omega
  have hj1 := nxJ hJ hjJ (by omega) (by omega)
  have hj2 := nxJ hJ hj1 (by omega) (by omega)
  by_cases c : X.kd (j + 2) = 58
  · rw [if_pos c] at e
    obtain ⟨_, -, e⟩ := obn e
    obtain ⟨_, n2, e⟩ := obn e
    obtain ⟨_, n3, e⟩ := obn e
    have r2 := (ndK n2).1
    have t2 := (ndK n3).1
    have hj3 : j + 3 ≤ J := nxJ hJ (j := j + 2) hj2 (by omega) (by omega)
    have hj4 : j + 4 ≤ J := nxJ hJ (j := j + 3) hj3 (by omega) (by omega)
    have hj5 : j + 5 ≤ J := nxJ hJ (j := j + 4) hj4 (by omega) (by omega)
    by_cases y : X.nu (j + 1) < w ∧ X.nu (j + 3) ≤ X.nu (j + 1)
    rotate_left
    · rw [if_neg y] at e; cases e
    rw [if_pos y] at e
    obtain rfl := Option.some.inj e
    rw [if_pos c] at kt
    refine ⟨⟨by show j < j + 5; omega, hj5⟩, st.trans ?_, kt⟩
    rw [ePk, if_pos ⟨d60, q2⟩, if_pos c, if_pos ⟨r2, t2, y⟩]
  · rw [if_neg c] at e
    obtain ⟨_, n3, e⟩ := obn e
    have t2 := (ndK n3).1
    have hj3 : j + 3 ≤ J := nxJ hJ (j := j + 2) hj2 (by omega) (by omega)
    by_cases y : X.nu (j + 1) < w
    rotate_left
    · rw [if_neg y] at e; cases e
    rw [if_pos y] at e
    obtain rfl := Option.some.inj e
    rw [if_neg c] at kt
    refine ⟨⟨by show j < j + 3; omega, hj3⟩, st.trans ?_, kt⟩
    rw [ePk, if_pos ⟨d60, q2⟩, if_neg c, if_pos ⟨t2, y⟩]
theorem plK (hJ : X.kd J = 1 ∨ X.kd J = 2) {d j0 : Nat} (d0 : d ≤ 60) : ∀ (k j w : Nat) (D : DnE), j0 < j → j ≤ J → (∀ z, EndK X z ⟨3, j, d, M, w :: H, o⟩ (D :: hd) md q → EndK X z ⟨2, j0, d, M, H, o⟩ hd md q) → tPL X d k j w D = some r → AKo X J 3 0 d j0 M H o hd md q r := by
  intro k
  induction k with
  | zero => intro j w D _ _ _ e; cases e
  | succ k ih =>
    intro j w D hj0 hjJ cont e
    unfold tPL at e
    by_cases c : X.kd j = 91
    · rw [if_pos c] at e
      obtain ⟨z, e1, e⟩ := obn e
      obtain ⟨⟨b1, b2⟩, s, kt⟩ := pkK (M := M) (H := H) (o := o) (hd := hd) (md := md) (q := q) (D := D) hJ e1 hjJ c
      exact ih z.1 z.2 _ (by omega) b2 (fun t ht => cont t (EndK.go s kt ht)) e
    · rw [if_neg c] at e
      obtain rfl := Option.some.inj e
      exact ⟨d0, ⟨hj0, hjJ⟩, ⟨fun _ => c, fun w => by omega, fun w => by omega⟩, cont⟩
theorem poK (hJ : X.kd J = 1 ∨ X.kd J = 2) (IH : IHK X J n) {d j : Nat} (e : tPo X (tR X o.lk q.lz q.C n) d j = some r) (hjJ : j ≤ J) (hsg : ¬ (X.kd j = 45 ∨ X.kd j = 126 ∨ X.kd j = 33)) : AKo X J 3 0 d j M H o hd md q r := by
  unfold tPo at e
  obtain ⟨x, e1, e⟩ := obn e
  obtain ⟨d0, ⟨b1, b2⟩, -, k1⟩ := IH 4 0 d j M H o hd md q x e1 hjJ (preA3 (Or.inr rfl) hsg) (fun w => by omega) (fun w => by omega) (fun w => by omega)
  exact plK hJ d0 200000 x.1 x.2.1 x.2.2 b1 b2 k1 e
theorem liK (hJ : X.kd J = 1 ∨ X.kd J = 2) {m0 d j : Nat} (hm : m0 = 4) (e : tLit X d j = some r) (hjJ : j ≤ J) (hk : X.kd j = 4) : AKo X J m0 0 d j M H o hd md q r := by
  unfold tLit sLit at e
  obtain ⟨x, e1, e⟩ := obn e
  obtain rfl := Option.some.inj e
  obtain ⟨_, -, e1⟩ := obn e1
  obtain ⟨_, n1, e1⟩ := obn e1
  obtain ⟨_, n2, e1⟩ := obn e1
  have q2 := (ndK n1).1
  have r2 := (ndK n2).1
  by_cases z : 1 ≤ X.nu j ∧ X.nu j ≤ 64 ∧ X.nu (j + 2) < 2 ^ X.nu j
  rotate_left
  · rw [if_neg z] at e1; cases e1
  rw [if_pos z] at e1
  obtain rfl := Option.some.inj e1
  have hj1 := nxJ hJ hjJ (by omega) (by omega)
  have hj2 : j + 2 ≤ J := nxJ hJ (j := j + 1) hj1 (by omega) (by omega)
  have hj3 : j + 3 ≤ J := nxJ hJ (j := j + 2) hj2 (by omega) (by omega)
  have st : aSp X ⟨2, j, d, M, H, o⟩ = some ⟨3, j + 3, d, M, X.nu j :: H, o⟩ := by
    show aOp X j d M H o = _
    unfold aOp
    rw [if_neg (by omega), if_neg (by omega), if_neg (by omega), if_neg (by omega), if_pos hk, if_pos ⟨q2, r2, z⟩]
  have kt : kSp X ⟨2, j, d, M, H, o⟩ hd md q = (dLit (nJ (X.nu (j + 2))) :: hd, md, q) := by
    show kOp X j o hd md q = _
    unfold kOp
    rw [if_pos hk]
  exact ⟨(ndK n1).2, ⟨by show j < j + 3; omega, hj3⟩, ⟨fun w => by omega, fun w => by omega, fun w => by omega⟩, fun t ht => EndK.go st kt ht⟩
theorem inK (IH : IHK X J n) {d j : Nat} (k c y : Nat) (m0 : DnE × Nat) {x : VD} (e : tR X o.lk q.lz q.C n 0 0 (d + 1) j = some x) (hjJ : j ≤ J) (hk : ¬ (k = 305 ∨ k = 306 ∨ k = 307)) (hl : lvq k = 0) : AKo X J 0 0 (d + 1) j (⟨k, c, y⟩ :: M) H o hd (m0 :: md) q x :=
  IH 0 0 (d + 1) j (⟨k, c, y⟩ :: M) H o hd (m0 :: md) q x e hjJ (preA0 (by omega)) (fun w => by omega) (fun _ => Tp.cons M hk (by omega)) (fun w => by omega)
theorem paK (hJ : X.kd J = 1 ∨ X.kd J = 2) (IH : IHK X J n) {d j : Nat} (e : ((gd (ps X d j)).bind fun _ => (tR X o.lk q.lz q.C n 0 0 (d + 1) (j + 1)).bind fun x => (ndq X (d + 1) x.1 41).bind fun _ => some (x.1 + 1, x.2.1, x.2.2)) = some r) (hjJ : j ≤ J) (hk : X.kd j = 40) : AKo X J 4 0 d j M H o hd md q r := by
  obtain ⟨_, -, e⟩ := obn e
  obtain ⟨x, e1, e⟩ := obn e
  obtain ⟨_, n1, e⟩ := obn e
  obtain rfl := Option.some.inj e
  have q2 := (ndK n1).1
  have d60 : d < 60 := by have := (ndK n1).2; omega
  have hj1 := nxJ hJ hjJ (by omega) (by omega)
  obtain ⟨-, ⟨b1, b2⟩, ⟨c1, c2, c3⟩, k1⟩ := inK IH (M := M) (H := H) (hd := hd) (md := md) 40 0 0 (dN, 0) e1 hj1 (by omega) (by decide)
  have c2 : lvq (X.kd x.1) ≤ 0 := c2 (by omega)
  have st : aSp X ⟨2, j, d, M, H, o⟩ = some ⟨2, j + 1, d + 1, ⟨40, 0, 0⟩ :: M, H, o⟩ := by
    show aOp X j d M H o = _
    unfold aOp
    rw [if_neg (by omega), if_neg (by omega), if_neg (by omega), if_pos (Or.inl hk), hk, if_pos d60]
  have kt : kSp X ⟨2, j, d, M, H, o⟩ hd md q = (hd, (dN, 0) :: md, q) := by
    show kOp X j o hd md q = _
    unfold kOp
    rw [if_neg (by omega), if_neg (by omega)]
  have T1 : Tp 0 (⟨40, 0, 0⟩ :: M) := Tp.cons M (by omega) (by decide)
  have s2 : aSp X ⟨3, x.1, d + 1, ⟨40, 0, 0⟩ :: M, x.2.1 :: H, o⟩ = some ⟨3, x.1 + 1, d, M, x.2.1 :: H, o⟩ := by
    rw [aft_g (d := d + 1) (H := x.2.1 :: H) (o := o) (m := ⟨40, 0, 0⟩) (M := M) (c1 (by omega)) (c3 rfl) (by omega) T1 (by decide)]
    unfold aGo
    rw [if_neg (by simp [MkA.k, MkA.c, MkA.q]), if_neg (by simp [MkA.k, MkA.c, MkA.q]), if_neg (by simp [MkA.k, MkA.c, MkA.q]), if_pos ⟨rfl, q2⟩]
    rfl
  have kt2 : kSp X ⟨3, x.1, d + 1, ⟨40, 0, 0⟩ :: M, x.2.1 :: H, o⟩ (x.2.2 :: hd) ((dN, 0) :: md) q = (x.2.2 :: hd, md, q) := by
    rw [kft_g (d := d + 1) (H := x.2.1 :: H) (o := o) (m := ⟨40, 0, 0⟩) (M := M) (c1 (by omega)) (c3 rfl) (by omega) T1 (by decide)]
    rfl
  exact ⟨by omega, ⟨by show j < x.1 + 1; omega, nxJ hJ b2 (by omega) (by omega)⟩, ⟨fun w => by omega, fun w => by omega, fun w => by omega⟩, fun t ht => EndK.go st kt (k1 t (EndK.go s2 kt2 ht))⟩
theorem naK (hJ : X.kd J = 1 ∨ X.kd J = 2) (IH : IHK X J n) {d j : Nat} (e : tNm X o.lk q.lz q.C (tR X o.lk q.lz q.C n) d j = some r) (hjJ : j ≤ J) (hk : X.kd j = 3) : AKo X J 5 0 d j M H o hd md q r := by
  unfold tNm at e
  obtain ⟨_, g0, e⟩ := obn e
  have d0 := ps_d (gdS g0)
  have hj1 := nxJ hJ hjJ (by omega) (by omega)
  have st : aSp X ⟨2, j, d, M, H, o⟩ = (if (o.lk (X.nm j)).1 = 2 ∧ X.kd (j + 1) = 91 then (if d < 60 then some ⟨2, j + 2, d + 1, ⟨91, (o.lk (X.nm j)).2, 0⟩ :: M, H, o⟩ else none) else if (o.lk (X.nm j)).1 = 3 ∨ (o.lk (X.nm j)).1 = 1 then some ⟨3, j + 1, d, M, (o.lk (X.nm j)).2 :: H, o⟩ else none) := by
    show aOp X j d M H o = _
    unfold aOp
    rw [if_neg (by omega), if_neg (by omega), if_neg (by omega), if_neg (by omega), if_neg (by omega), if_pos hk]
  have kt : kSp X ⟨2, j, d, M, H, o⟩ hd md q = (if (o.lk (X.nm j)).1 = 2 ∧ X.kd (j + 1) = 91 then (hd, (dN, q.lz (X.nm j)) :: md, q) else (dNm q.C (o.lk (X.nm j)).1 (q.lz (X.nm j)) :: hd, md, q)) := by
    show kOp X j o hd md q = _
    unfold kOp
    rw [if_neg (by omega), if_pos hk]
  by_cases z : (o.lk (X.nm j)).1 = 3 ∨ (o.lk (X.nm j)).1 = 1
  · rw [if_pos z] at e
    obtain rfl := Option.some.inj e
    rw [if_neg (fun y => by omega), if_pos z] at st
    rw [if_neg (fun y => by omega)] at kt
    exact ⟨d0, ⟨by show j < j + 1; omega, hj1⟩, ⟨fun w => by omega, fun w => by omega, fun w => by omega⟩, fun t ht => EndK.go st kt ht⟩
  rw [if_neg z] at e
  by_cases y : (o.lk (X.nm j)).1 = 2 ∧ X.kd (j + 1) = 91
  rotate_left
  · rw [if_neg y] at e; cases e
  rw [if_pos y] at e st kt
  obtain ⟨_, -, e⟩ := obn e
  obtain ⟨x, e1, e⟩ := obn e
  obtain ⟨_, n1, e⟩ := obn e
  obtain rfl := Option.some.inj e
  have q2 := (ndK n1).1
  have d60 : d < 60 := by have := (ndK n1).2; omega
  rw [if_pos d60] at st
  have hj2 : j + 2 ≤ J := nxJ hJ (j := j + 1) hj1 (by omega) (by omega)
  obtain ⟨-, ⟨b1, b2⟩, ⟨c1, c2, c3⟩, k1⟩ := inK IH (M := M) (H := H) (hd := hd) (md := md) 91 (o.lk (X.nm j)).2 0 (dN, q.lz (X.nm j)) e1 hj2 (by omega) (by decide)
  have c2 : lvq (X.kd x.1) ≤ 0 := c2 (by omega)
  have T1 : Tp 0 (⟨91, (o.lk (X.nm j)).2, 0⟩ :: M) := Tp.cons M (by omega) (by decide)
  have s2 : aSp X ⟨3, x.1, d + 1, ⟨91, (o.lk (X.nm j)).2, 0⟩ :: M, x.2.1 :: H, o⟩ = some ⟨3, x.1 + 1, d, M, (o.lk (X.nm j)).2 :: H, o⟩ := by
    rw [aft_g (d := d + 1) (H := x.2.1 :: H) (o := o) (m := ⟨91, (o.lk (X.nm j)).2, 0⟩) (M := M) (c1 (by omega)) (c3 rfl) (by omega) T1 (by show ¬ 91 = 58; decide)]
    unfold aGo
    rw [if_neg (by simp [MkA.k, MkA.c, MkA.q]), if_neg (by simp [MkA.k, MkA.c, MkA.q]), if_pos ⟨rfl, q2⟩]
    rfl
  have kt2 : kSp X ⟨3, x.1, d + 1, ⟨91, (o.lk (X.nm j)).2, 0⟩ :: M, x.2.1 :: H, o⟩ (x.2.2 :: hd) ((dN, q.lz (X.nm j)) :: md) q = (dCel (q.lz (X.nm j)) x.2.2 :: hd, md, q) := by
    rw [kft_g (d := d + 1) (H := x.2.1 :: H) (o := o) (m := ⟨91, (o.lk (X.nm j)).2, 0⟩) (M := M) (c1 (by omega)) (c3 rfl) (by omega) T1 (by show ¬ 91 = 58; decide)]
    rfl
  exact ⟨d0, ⟨by show j < x.1 + 1; omega, nxJ hJ b2 (by omega) (by omega)⟩, ⟨fun w => by omega, fun w => by omega, fun w => by omega⟩, fun t ht => EndK.go st kt (k1 t (EndK.go s2 kt2 ht))⟩
/-- a call's beginning -/
theorem cpK (hJ : X.kd J = 1 ∨ X.kd J = 2) (IH : IHK X J n) {d j : Nat} (hjJ : j ≤ J) (hk : 211 ≤ X.kd j ∧ X.kd j ≤ 216) {f : VD → Option VD} (e : ((gd (ps X d j)).bind fun _ => (ndq X d (j + 1) 40).bind fun _ => (tR X o.lk q.lz q.C n 0 0 (d + 1) (j + 2)).bind f) = some r) : ∃ x : VD, f x = some r ∧ d + 1 ≤ 60 ∧ j + 2 < x.1 ∧ x.1 ≤ J ∧ ¬ X.kd x.1 = 91 ∧ ¬ X.kd x.1 = 63 ∧ lvq (X.kd x.1) = 0 ∧ ∀ t, EndK X t ⟨3, x.1, d + 1, ⟨X.kd j, 0, 0⟩ :: M, x.2.1 :: H, o⟩ (x.2.2 :: hd) ((dN, 0) :: md) q → EndK X t ⟨2, j, d, M, H, o⟩ hd md q := by
  obtain ⟨_, -, e⟩ := obn e
  obtain ⟨_, n1, e⟩ := obn e
  obtain ⟨x, e1, e⟩ := obn e
  have q2 := (ndK n1).1
  have hj1 := nxJ hJ hjJ (by omega) (by omega)
  have hj2 : j + 2 ≤ J := nxJ hJ (j := j + 1) hj1 (by omega) (by omega)
  have hl : lvq (X.kd j) = 0 := by
    by_cases z : 0 < lvq (X.kd j)
    · have := lvq_0 z; omega
    · omega
  obtain ⟨d1', ⟨b1, b2⟩, ⟨c1, c2, c3⟩, k1⟩ := inK IH (M := M) (H := H) (hd := hd) (md := md) (X.kd j) 0 0 (dN, 0) e1 hj2 (by omega) hl
  have c2 : lvq (X.kd x.1) ≤ 0 := c2 (by omega)
  have st : aSp X ⟨2, j, d, M, H, o⟩ = some ⟨2, j + 2, d + 1, ⟨X.kd j, 0, 0⟩ :: M, H, o⟩ := by
    show aOp X j d M H o = _
    unfold aOp
    rw [if_neg (by omega), if_neg (by omega), if_neg (by omega), if_neg (by omega), if_neg (by omega), if_neg (by omega), if_pos hk, if_pos ⟨q2, by omega⟩]
  have kt : kSp X ⟨2, j, d, M, H, o⟩ hd md q = (hd, (dN, 0) :: md, q) := by
    show kOp X j o hd md q = _
    unfold kOp
    rw [if_neg (by omega), if_neg (by omega)]
  exact ⟨x, e, d1', b1, b2, c1 (by omega), c3 rfl, by omega, fun t ht => EndK.go st kt (k1 t ht)⟩
theorem wiK (hJ : X.kd J = 1 ∨ X.kd J = 2) (IH : IHK X J n) {d j : Nat} (e : tWi X (tR X o.lk q.lz q.C n) d j = some r) (hjJ : j ≤ J) (hk : X.kd j = 211 ∨ X.kd j = 212) : AKo X J 6 0 d j M H o hd md q r := by
  unfold tWi at e
  obtain ⟨x, e, hd1, b1, b2, c1, c3, c2, k1⟩ := cpK hJ IH (M := M) (H := H) (hd := hd) (md := md) hjJ (by omega) e
  obtain ⟨_, n1, e⟩ := obn e
  obtain ⟨_, n2, e⟩ := obn e
  obtain ⟨_, n3, e⟩ := obn e
  have q2 := (ndK n1).1
  have r2 := (ndK n2).1
  have t2 := (ndK n3).1
  by_cases z : 1 ≤ X.nu (x.1 + 1) ∧ X.nu (x.1 + 1) ≤ 64 ∧ x.2.1 ≤ X.nu (x.1 + 1)
  rotate_left
  · rw [if_neg z] at e; cases e
  rw [if_pos z] at e
  obtain rfl := Option.some.inj e
  have hl : lvq (X.kd j) = 0 := by
    by_cases z : 0 < lvq (X.kd j)
    · have := lvq_0 z; omega
    · omega
  have h1 := nxJ hJ b2 (by omega) (by omega)
  have h2 : x.1 + 2 ≤ J := nxJ hJ (j := x.1 + 1) h1 (by omega) (by omega)
  have h3 : x.1 + 3 ≤ J := nxJ hJ (j := x.1 + 2) h2 (by omega) (by omega)
  have T1 : Tp 0 (⟨X.kd j, 0, 0⟩ :: M) := Tp.cons M (by omega) (by omega)
  have s2 : aSp X ⟨3, x.1, d + 1, ⟨X.kd j, 0, 0⟩ :: M, x.2.1 :: H, o⟩ = some ⟨3, x.1 + 3, d, M, X.nu (x.1 + 1) :: H, o⟩ := by
    rw [aft_g (d := d + 1) (H := x.2.1 :: H) (o := o) (m := ⟨X.kd j, 0, 0⟩) (M := M) c1 c3 c2 T1 (by show ¬ X.kd j = 58; omega)]
    unfold aGo
    rw [if_neg (by show ¬ (X.kd j = 63 ∧ _); omega), if_neg (by show ¬ (X.kd j = 123 ∧ _); omega), if_neg (by show ¬ (X.kd j = 91 ∧ _); omega), if_neg (by show ¬ (X.kd j = 40 ∧ _); omega), if_pos ⟨hk, q2⟩]
    show (if X.kd (x.1 + 1) = 4 ∧ X.kd (x.1 + 2) = 41 ∧ 1 ≤ X.nu (x.1 + 1) ∧ X.nu (x.1 + 1) ≤ 64 ∧ x.2.1 ≤ X.nu (x.1 + 1) then some (CfA.mk 3 (x.1 + 3) (d + 1 - 1) M (X.nu (x.1 + 1) :: H) o) else none) = _
    rw [if_pos ⟨r2, t2, z⟩]
    rfl
  have kt2 : kSp X ⟨3, x.1, d + 1, ⟨X.kd j, 0, 0⟩ :: M, x.2.1 :: H, o⟩ (x.2.2 :: hd) ((dN, 0) :: md) q = ((if X.kd j = 211 then d1 310 (wPk x.2.1 (X.nu (x.1 + 1))) x.2.2 else x.2.2) :: hd, md, q) := by
    rw [kft_g (d := d + 1) (H := x.2.1 :: H) (o := o) (m := ⟨X.kd j, 0, 0⟩) (M := M) c1 c3 c2 T1 (by show ¬ X.kd j = 58; omega)]
    unfold kGo
    rw [if_neg (by show ¬ X.kd j = 63; omega), if_neg (by show ¬ X.kd j = 123; omega), if_neg (by show ¬ X.kd j = 91; omega), if_neg (by show ¬ X.kd j = 40; omega)]
    by_cases y : X.kd j = 211
    · rw [if_pos (show (MkA.mk (X.kd j) 0 0).k = 211 from y), if_pos y]; rfl
    · have y2 : X.kd j = 212 := by omega
      rw [if_neg (show ¬ (MkA.mk (X.kd j) 0 0).k = 211 from y), if_pos (show (MkA.mk (X.kd j) 0 0).k = 212 from y2), if_neg y]; rfl
  exact ⟨by omega, ⟨by show j < x.1 + 3; omega, h3⟩, ⟨fun w => by omega, fun w => by omega, fun w => by omega⟩, fun t ht => k1 t (EndK.go s2 kt2 ht)⟩
theorem caK (hJ : X.kd J = 1 ∨ X.kd J = 2) (IH : IHK X J n) {d j : Nat} (e : tCa X (tR X o.lk q.lz q.C n) d j = some r) (hjJ : j ≤ J) (hk : 213 ≤ X.kd j ∧ X.kd j ≤ 216) : AKo X J 7 0 d j M H o hd md q r := by
  unfold tCa at e
  obtain ⟨x, e, hd1, b1, b2, c1, c3, c2, k1⟩ := cpK hJ IH (M := M) (H := H) (hd := hd) (md := md) hjJ (by omega) e
  obtain ⟨_, n1, e⟩ := obn e
  obtain ⟨y, e2, e⟩ := obn e
  obtain ⟨_, n2, e⟩ := obn e
  obtain ⟨z, e3, e⟩ := obn e
  obtain rfl := Option.some.inj e
  have q2 := (ndK n1).1
  have t2 := (ndK n2).1
  have hl : lvq (X.kd j) = 0 := by
    by_cases z : 0 < lvq (X.kd j)
    · have := lvq_0 z; omega
    · omega
  have h1 := nxJ hJ b2 (by omega) (by omega)
  have T1 : Tp 0 (⟨X.kd j, 0, 0⟩ :: M) := Tp.cons M (by omega) (by omega)
  have T2 : Tp 0 (⟨X.kd j, 1, 0⟩ :: M) := Tp.cons M (by omega) (by omega)
  have s2 : aSp X ⟨3, x.1, d + 1, ⟨X.kd j, 0, 0⟩ :: M, x.2.1 :: H, o⟩ = some ⟨2, x.1 + 1, d + 1, ⟨X.kd j, 1, 0⟩ :: M, x.2.1 :: H, o⟩ := by
    rw [aft_g (d := d + 1) (H := x.2.1 :: H) (o := o) (m := ⟨X.kd j, 0, 0⟩) (M := M) c1 c3 c2 T1 (by show ¬ X.kd j = 58; omega)]
    unfold aGo
    rw [if_neg (by show ¬ (X.kd j = 63 ∧ _); omega), if_neg (by show ¬ (X.kd j = 123 ∧ _); omega), if_neg (by show ¬ (X.kd j = 91 ∧ _); omega), if_neg (by show ¬ (X.kd j = 40 ∧ _); omega), if_neg (by show ¬ ((X.kd j = 211 ∨ X.kd j = 212) ∧ _); omega), if_pos ⟨hk, q2, rfl⟩]
  have g7 : ∀ (c : Nat) (H' : List Nat) (hd' : List DnE) (i : Nat), kGo X ⟨X.kd j, c, 0⟩ i H' ((dN, 0) :: md) hd' = if c = 0 then ((dN, 0) :: md, hd') else (md, d2 (X.kd j) (nJ (H'.tail.headD 0)) (hd'.tail.headD dN) (hd'.headD dN) :: hd'.tail.tail) := fun c H' hd' i => by
    unfold kGo
    rw [if_neg (by show ¬ X.kd j = 63; omega), if_neg (by show ¬ X.kd j = 123; omega), if_neg (by show ¬ X.kd j = 91; omega), if_neg (by show ¬ X.kd j = 40; omega), if_neg (by show ¬ X.kd j = 211; omega), if_neg (by show ¬ X.kd j = 212; omega)]
    rfl
  have kt2 : kSp X ⟨3, x.1, d + 1, ⟨X.kd j, 0, 0⟩ :: M, x.2.1 :: H, o⟩ (x.2.2 :: hd) ((dN, 0) :: md) q = (x.2.2 :: hd, (dN, 0) :: md, q) := by
    rw [kft_g (d := d + 1) (H := x.2.1 :: H) (o := o) (m := ⟨X.kd j, 0, 0⟩) (M := M) c1 c3 c2 T1 (by show ¬ X.kd j = 58; omega), g7, if_pos rfl]
  obtain ⟨-, ⟨b3, b4⟩, ⟨f1, f2, f3⟩, k2⟩ := inK IH (M := M) (H := x.2.1 :: H) (hd := x.2.2 :: hd) (md := md) (X.kd j) 1 0 (dN, 0) e2 h1 (by omega) hl
  have f2 : lvq (X.kd y.1) ≤ 0 := f2 (by omega)
  have s4 : aSp X ⟨3, y.1, d + 1, ⟨X.kd j, 1, 0⟩ :: M, y.2.1 :: x.2.1 :: H, o⟩ = some ⟨3, y.1 + 1, d, M, z :: H, o⟩ := by
    rw [aft_g (d := d + 1) (H := y.2.1 :: x.2.1 :: H) (o := o) (m := ⟨X.kd j, 1, 0⟩) (M := M) (f1 (by omega)) (f3 rfl) (by omega) T2 (by show ¬ X.kd j = 58; omega)]
    unfold aGo
    rw [if_neg (by show ¬ (X.kd j = 63 ∧ _); omega), if_neg (by show ¬ (X.kd j = 123 ∧ _); omega), if_neg (by show ¬ (X.kd j = 91 ∧ _); omega), if_neg (by show ¬ (X.kd j = 40 ∧ _); omega), if_neg (by show ¬ ((X.kd j = 211 ∨ X.kd j = 212) ∧ _); omega), if_neg (fun z => absurd (show 1 = 0 from z.2.2) (by decide)), if_pos ⟨hk, t2, by show ¬ 1 = 0; decide⟩]
    show (tw (X.kd j) x.2.1 y.2.1).bind (fun z => some (CfA.mk 3 (y.1 + 1) (d + 1 - 1) M (z :: H) o)) = _
    rw [e3]; rfl
  have kt4 : kSp X ⟨3, y.1, d + 1, ⟨X.kd j, 1, 0⟩ :: M, y.2.1 :: x.2.1 :: H, o⟩ (y.2.2 :: x.2.2 :: hd) ((dN, 0) :: md) q = (d2 (X.kd j) (nJ x.2.1) x.2.2 y.2.2 :: hd, md, q) := by
    rw [kft_g (d := d + 1) (H := y.2.1 :: x.2.1 :: H) (o := o) (m := ⟨X.kd j, 1, 0⟩) (M := M) (f1 (by omega)) (f3 rfl) (by omega) T2 (by show ¬ X.kd j = 58; omega), g7, if_neg (by decide)]
    rfl
  exact ⟨by omega, ⟨by show j < y.1 + 1; omega, nxJ hJ b4 (by omega) (by omega)⟩, ⟨fun w => by omega, fun w => by omega, fun w => by omega⟩, fun t ht => k1 t (EndK.go s2 kt2 (k2 t (EndK.go s4 kt4 ht)))⟩
theorem tlK (hJ : X.kd J = 1 ∨ X.kd J = 2) (IH : IHK X J n) {d j0 : Nat} (d60 : d < 60) : ∀ (k j w c : Nat) (D : DnE) (h : List Nat) (g : List DnE), j0 < j → j ≤ J → ¬ X.kd j = 91 → ¬ X.kd j = 63 → lvq (X.kd j) = 0 → ((c = 0 ∧ h = [w] ∧ g = [D]) ∨ (¬ c = 0 ∧ ∃ x y Dx Dy, h = [y, x] ∧ w = x + y ∧ g = [Dy, Dx] ∧ D = d2 309 (nJ y) Dx Dy)) → (∀ t, EndK X t ⟨3, j, d + 1, ⟨123, c, 0⟩ :: M, h ++ H, o⟩ (g ++ hd) ((dN, 0) :: md) q → EndK X t ⟨2, j0, d, M, H, o⟩ hd md q) → tTL X (tR X o.lk q.lz q.C n) d k j w D = some r → AKo X J 8 0 d j0 M H o hd md q r := by
  intro k
  induction k with
  | zero => intro j w c D h g _ _ _ _ _ _ _ e; cases e
  | succ k ih =>
    intro j w c D h g hj0 hjJ h91 h63 hl hh cont e
    have T1 : Tp 0 (⟨123, c, 0⟩ :: M) := Tp.cons M (by omega) (by decide)
    have s2 := aft_g (d := d + 1) (H := h ++ H) (o := o) (m := ⟨123, c, 0⟩) (M := M) h91 h63 hl T1 (by show ¬ 123 = 58; decide)
    have kt := kft_g (d := d + 1) (H := h ++ H) (o := o) (hd := g ++ hd) (md := (dN, 0) :: md) (od := q) (m := ⟨123, c, 0⟩) (M := M) h91 h63 hl T1 (by show ¬ 123 = 58; decide)
    have e1 : (if c = 0 then h ++ H else ((h ++ H).tail.headD 0 + (h ++ H).headD 0) :: (h ++ H).tail.tail) = w :: H := by
      rcases hh with ⟨h1, h2, -⟩ | ⟨h1, x, y, _, _, h2, h3, -, -⟩
      · rw [if_pos h1, h2]; rfl
      · rw [if_neg h1, h2, h3]; rfl
    have e2 : (if c = 0 then (h ++ H).headD 0 else (h ++ H).tail.headD 0 + (h ++ H).headD 0) = w := by
      rcases hh with ⟨h1, h2, -⟩ | ⟨h1, x, y, _, _, h2, h3, -, -⟩
      · rw [if_pos h1, h2]; rfl
      · rw [if_neg h1, h2, h3]; rfl
    have e3 : (if c = 0 then g ++ hd else d2 309 (nJ ((h ++ H).headD 0)) ((g ++ hd).tail.headD dN) ((g ++ hd).headD dN) :: (g ++ hd).tail.tail) = D :: hd := by
      rcases hh with ⟨h1, -, h2⟩ | ⟨h1, x, y, Dx, Dy, h2, -, h3, h4⟩
      · rw [if_pos h1, h2]; rfl
      · rw [if_neg h1, h2, h3, h4]; rfl
    have s3 : aGo X ⟨123, c, 0⟩ j (d + 1) M (h ++ H) o = if X.kd j = 44 then some ⟨2, j + 1, d + 1, ⟨123, c + 1, 0⟩ :: M, w :: H, o⟩ else if X.kd j = 125 then (if w ≤ 64 then some ⟨3, j + 1, d, M, w :: H, o⟩ else none) else none := by
      unfold aGo
      rw [if_neg (by simp [MkA.k, MkA.c, MkA.q])]
      show (if 123 = 123 ∧ (X.kd j = 44 ∨ X.kd j = 125) then (if X.kd j = 44 then some (CfA.mk 2 (j + 1) (d + 1) (⟨123, c + 1, 0⟩ :: M) (if c = 0 then h ++ H else ((h ++ H).tail.headD 0 + (h ++ H).headD 0) :: (h ++ H).tail.tail) o) else if (if c = 0 then (h ++ H).headD 0 else (h ++ H).tail.headD 0 + (h ++ H).headD 0) ≤ 64 then some (CfA.mk 3 (j + 1) (d + 1 - 1) M (if c = 0 then h ++ H else ((h ++ H).tail.headD 0 + (h ++ H).headD 0) :: (h ++ H).tail.tail) o) else none) else _) = _
      rw [e1, e2]
      by_cases z : X.kd j = 44
      · rw [if_pos ⟨rfl, Or.inl z⟩, if_pos z, if_pos z]
      · by_cases y : X.kd j = 125
        · rw [if_pos ⟨rfl, Or.inr y⟩, if_neg z, if_neg z, if_pos y]; rfl
        · rw [if_neg (by omega), if_neg (by simp [MkA.k, MkA.c, MkA.q]), if_neg (by simp [MkA.k, MkA.c, MkA.q]), if_neg (by simp [MkA.k, MkA.c, MkA.q]), if_neg (by simp [MkA.k, MkA.c, MkA.q]), if_neg (by simp [MkA.k, MkA.c, MkA.q]), if_neg z, if_neg y]
    have kg : kGo X ⟨123, c, 0⟩ j (h ++ H) ((dN, 0) :: md) (g ++ hd) = (if X.kd j = 44 then (dN, 0) :: md else md, D :: hd) := by
      unfold kGo
      rw [if_neg (by simp [MkA.k, MkA.c, MkA.q])]
      show (if 123 = 123 then (if X.kd j = 44 then (dN, 0) :: md else md, if c = 0 then g ++ hd else d2 309 (nJ ((h ++ H).headD 0)) ((g ++ hd).tail.headD dN) ((g ++ hd).headD dN) :: (g ++ hd).tail.tail) else _) = _
      rw [if_pos rfl, e3]
    clear hh
    rw [kg] at kt
    unfold tTL at e
    by_cases c44 : X.kd j = 44
    · rw [if_pos c44] at e s3 kt
      obtain ⟨_, -, e⟩ := obn e
      obtain ⟨x, e4, e⟩ := obn e
      have h1 := nxJ hJ hjJ (by omega) (by omega)
      obtain ⟨-, ⟨b1, b2⟩, ⟨c1, c2, c3⟩, k1⟩ := inK IH (M := M) (H := w :: H) (hd := D :: hd) (md := md) 123 (c + 1) 0 (dN, 0) e4 h1 (by omega) (by decide)
      have c2 : lvq (X.kd x.1) ≤ 0 := c2 (by omega)
      exact ih x.1 (w + x.2.1) (c + 1) _ [x.2.1, w] [x.2.2, D] (by omega) b2 (c1 (by omega)) (c3 rfl) (by omega) (Or.inr ⟨Nat.succ_ne_zero c, w, x.2.1, D, x.2.2, rfl, rfl, rfl, rfl⟩) (fun t ht => cont t (EndK.go (s2.trans s3) kt (k1 t ht))) e
    · rw [if_neg c44] at e s3 kt
      obtain ⟨_, n1, e⟩ := obn e
      have t2 := (ndK n1).1
      rw [if_pos t2] at s3
      by_cases z : w ≤ 64
      rotate_left
      · rw [if_neg z] at e; cases e
      rw [if_pos z] at e s3
      obtain rfl := Option.some.inj e
      exact ⟨by omega, ⟨by show j0 < j + 1; omega, nxJ hJ hjJ (by omega) (by omega)⟩, ⟨fun w => by omega, fun w => by omega, fun w => by omega⟩, fun t ht => cont t (EndK.go (s2.trans s3) kt ht)⟩
theorem toK (hJ : X.kd J = 1 ∨ X.kd J = 2) (IH : IHK X J n) {d j : Nat} (e : tTo X (tR X o.lk q.lz q.C n) d j = some r) (hjJ : j ≤ J) (hk : X.kd j = 123) : AKo X J 8 0 d j M H o hd md q r := by
  unfold tTo at e
  obtain ⟨_, -, e⟩ := obn e
  obtain ⟨x, e1, e⟩ := obn e
  have hj1 := nxJ hJ hjJ (by omega) (by omega)
  obtain ⟨dd, ⟨b1, b2⟩, ⟨c1, c2, c3⟩, k1⟩ := inK IH (M := M) (H := H) (hd := hd) (md := md) 123 0 0 (dN, 0) e1 hj1 (by omega) (by decide)
  have c2 : lvq (X.kd x.1) ≤ 0 := c2 (by omega)
  have d60 : d < 60 := by omega
  have st : aSp X ⟨2, j, d, M, H, o⟩ = some ⟨2, j + 1, d + 1, ⟨123, 0, 0⟩ :: M, H, o⟩ := by
    show aOp X j d M H o = _
    unfold aOp
    rw [if_neg (by omega), if_neg (by omega), if_neg (by omega), if_pos (Or.inr hk), hk, if_pos d60]
  have kt : kSp X ⟨2, j, d, M, H, o⟩ hd md q = (hd, (dN, 0) :: md, q) := by
    show kOp X j o hd md q = _
    unfold kOp
    rw [if_neg (by omega), if_neg (by omega)]
  exact tlK hJ IH d60 200000 x.1 x.2.1 0 x.2.2 [x.2.1] [x.2.2] (by omega) b2 (c1 (by omega)) (c3 rfl) (by omega) (Or.inl ⟨rfl, rfl, rfl⟩) (fun t ht => EndK.go st kt (k1 t ht)) e
theorem prK (hJ : X.kd J = 1 ∨ X.kd J = 2) (IH : IHK X J n) {d j : Nat} (e : tPr X (tR X o.lk q.lz q.C n) d j = some r) (hjJ : j ≤ J) : AKo X J 4 0 d j M H o hd md q r := by
  have call : ∀ mo, 5 ≤ mo → preA mo (X.kd j) → tR X o.lk q.lz q.C n mo 0 d j = some r → AKo X J 4 0 d j M H o hd md q r := fun mo hmo hp e => by
    have I1 := IH mo 0 d j M H o hd md q r e hjJ hp (fun w => by omega) (fun w => by omega) (fun w => by omega)
    exact ⟨I1.1, I1.2.1, ⟨fun w => by omega, fun w => by omega, fun w => by omega⟩, I1.2.2.2⟩
  unfold tPr at e
  by_cases k4 : X.kd j = 4
  · rw [if_pos k4] at e; exact liK hJ rfl e hjJ k4
  rw [if_neg k4] at e
  by_cases k40 : X.kd j = 40
  · rw [if_pos k40] at e; exact paK hJ IH e hjJ k40
  rw [if_neg k40] at e
  by_cases k123 : X.kd j = 123
  · rw [if_pos k123] at e; exact call 8 (by omega) ⟨by omega, fun w => by omega, fun w => by omega, fun w => by omega, fun _ => k123, fun w => by omega⟩ e
  rw [if_neg k123] at e
  by_cases k21 : X.kd j = 211 ∨ X.kd j = 212
  · rw [if_pos k21] at e; exact call 6 (by omega) ⟨by omega, fun w => by omega, fun _ => k21, fun w => by omega, fun w => by omega, fun w => by omega⟩ e
  rw [if_neg k21] at e
  by_cases k22 : 213 ≤ X.kd j ∧ X.kd j ≤ 216
  · rw [if_pos k22] at e; exact call 7 (by omega) ⟨by omega, fun w => by omega, fun w => by omega, fun _ => k22, fun w => by omega, fun w => by omega⟩ e
  rw [if_neg k22] at e
  by_cases k3 : X.kd j = 3
  · rw [if_pos k3] at e; exact call 5 (by omega) ⟨by omega, fun _ => k3, fun w => by omega, fun w => by omega, fun w => by omega, fun w => by omega⟩ e
  rw [if_neg k3] at e; cases e
end KB
/-- A reads an EXPR as T does -/
theorem xK {X : TX} {J : Nat} (hJ : X.kd J = 1 ∨ X.kd J = 2) : ∀ n, IHK X J n := by
  intro n
  induction n with
  | zero => intro m a d j M H o hd md q r e; cases e
  | succ n IH =>
    intro m a d j M H o hd md q r e hjJ hp ha h0 h1
    obtain ⟨hm, p5, p6, p7, p8, p34⟩ := hp
    have zs : ∀ {mo a : Nat}, ¬ mo = 1 → AKo X J mo 0 d j M H o hd md q r → AKo X J mo a d j M H o hd md q r := fun {mo a} h1 K => by
      refine ⟨K.1, K.2.1, ⟨K.2.2.1.1, fun w => ?_, K.2.2.1.2.2⟩, K.2.2.2⟩
      have := K.2.2.1.2.1 w
      by_cases c : mo = 0
      · rw [if_pos c] at this ⊢; exact this
      · omega
    match m, hm with
    | 0, _ => exact zs (by decide) (exK hJ IH e hjJ (h0 rfl))
    | 1, _ => exact biK hJ IH (ha rfl) e hjJ (h1 rfl)
    | 2, _ => exact zs (by decide) (unK hJ IH e hjJ)
    | 3, _ => exact zs (by decide) (poK hJ IH e hjJ (p34 (Or.inl rfl)))
    | 4, _ => exact zs (by decide) (prK hJ IH e hjJ)
    | 5, _ => exact zs (by decide) (naK hJ IH e hjJ (p5 rfl))
    | 6, _ => exact zs (by decide) (wiK hJ IH e hjJ (p6 rfl))
    | 7, _ => exact zs (by decide) (caK hJ IH e hjJ (p7 rfl))
    | 8, _ => exact zs (by decide) (toK hJ IH e hjJ (p8 rfl))
