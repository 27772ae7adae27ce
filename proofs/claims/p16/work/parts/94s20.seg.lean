/-! code: a doing and what stands with it (of 303 the THING, not its slot); rn: the code at work -/
abbrev CDq : Type := Nat → Nat × Int64
def tI (x : Int64) : Nat := x.toInt32.toNatClampNeg
theorem tI_n {t : Nat} (h : t < 2147483648) : tI (nJ t) = t := by
  unfold tI
  rw [nJi h, cln h]
def rn (e : E0q) (L : CDq) : Nat → Nat → List Int64 → STq → Option (Int32 × STq)
  | 0, _, _, _ => none
  | n + 1, a, st, s =>
    if (L a).1 = 317 then some (0, s)
    else if (L a).1 = 316 then some ((L a).2.toInt32, s)
    else if (L a).1 = 311 then (if a < tI (L a).2 then rn e L n (tI (L a).2) st s else none)
    else if (L a).1 = 312 then (match st with
      | [] => none
      | v :: st => if v = 0 then (if a < tI (L a).2 then rn e L n (tI (L a).2) st s else none) else rn e L n (a + 1) st s)
    else if (L a).1 = 301 then rn e L n (a + 1) (gatV e.1 (L a).2 :: st) s
    else if (L a).1 = 304 then (match st with
      | [] => none
      | i :: st => if i.toBitVec.toNat < (e.2 (tI (L a).2)).2.1 then rn e L n (a + 1) (s.2.1 (tI (L a).2) i.toBitVec.toNat :: st) s else some (-3, s))
    else if (L a).1 = 315 then (match st with
      | v :: i :: st => if i.toBitVec.toNat < (e.2 (tI (L a).2)).2.1 then rn e L n (a + 1) st (s.1, wrT e (tI (L a).2) i.toBitVec.toNat v s.2.1, s.2.2) else some (-3, s)
      | _ => none)
    else if (L a).1 = 300 then rn e L n (a + 1) ((L a).2 :: st) s
    else if (L a).1 = 302 then rn e L n (a + 1) (s.1 (tI (L a).2) :: st) s
    else if (L a).1 = 303 then rn e L n (a + 1) (s.2.1 (tI (L a).2) 0 :: st) s
    else if (L a).1 = 313 then (match st with
      | [] => none
      | v :: st => rn e L n (a + 1) st (fun k => if k = tI (L a).2 then v else s.1 k, s.2.1, s.2.2))
    else if (L a).1 = 314 then (match st with
      | [] => none
      | v :: st => rn e L n (a + 1) st (s.1, wrT e (tI (L a).2) 0 v s.2.1, fun k => if k = tI (L a).2 then true else s.2.2 k))
    else if (L a).1 = 305 ∨ (L a).1 = 306 ∨ (L a).1 = 307 ∨ (L a).1 = 308 ∨ (L a).1 = 310 then (match st with
      | [] => none
      | v :: st => rn e L n (a + 1) (u1 (L a).1 (L a).2 v :: st) s)
    else (match st with
      | y :: x :: st => rn e L n (a + 1) (u2 (L a).1 (L a).2 x y :: st) s
      | _ => none)
section RN
variable {e : E0q} {L : CDq} {n a : Nat} {st : List Int64} {s : STq}
theorem rn317 {w : Int64} (h : L a = (317, w)) : rn e L (n + 1) a st s = some (0, s) := by
  show (if (L a).1 = 317 then some (0, s) else _) = _
  rw [h, if_pos rfl]
theorem rn316 {w : Int64} (h : L a = (316, w)) : rn e L (n + 1) a st s = some (w.toInt32, s) := by
  unfold rn
  rw [h, if_neg (by simp), if_pos rfl]
theorem rn311 {w : Int64} (h : L a = (311, w)) (hw : a < tI w) : rn e L (n + 1) a st s = rn e L n (tI w) st s := by
  show (if (L a).1 = 317 then _ else if (L a).1 = 316 then _ else if (L a).1 = 311 then (if a < tI (L a).2 then rn e L n (tI (L a).2) st s else none) else _) = _
  rw [h, if_neg (by simp), if_neg (by simp), if_pos rfl, if_pos hw]
theorem rn312 {w v : Int64} (h : L a = (312, w)) (hw : a < tI w) : rn e L (n + 1) a (v :: st) s = if v = 0 then rn e L n (tI w) st s else rn e L n (a + 1) st s := by
  show (if (L a).1 = 317 then _ else if (L a).1 = 316 then _ else if (L a).1 = 311 then _ else if (L a).1 = 312 then (if v = 0 then (if a < tI (L a).2 then rn e L n (tI (L a).2) st s else none) else rn e L n (a + 1) st s) else _) = _
  rw [h, if_neg (by simp), if_neg (by simp), if_neg (by simp), if_pos rfl, if_pos hw]
theorem rn301 {w : Int64} (h : L a = (301, w)) : rn e L (n + 1) a st s = rn e L n (a + 1) (gatV e.1 w :: st) s := by
  show (if (L a).1 = 317 then _ else if (L a).1 = 316 then _ else if (L a).1 = 311 then _ else if (L a).1 = 312 then _ else if (L a).1 = 301 then rn e L n (a + 1) (gatV e.1 (L a).2 :: st) s else _) = _
  rw [h, if_neg (by simp), if_neg (by simp), if_neg (by simp), if_neg (by simp), if_pos rfl]
theorem rn304 {w i : Int64} (h : L a = (304, w)) : rn e L (n + 1) a (i :: st) s = if i.toBitVec.toNat < (e.2 (tI w)).2.1 then rn e L n (a + 1) (s.2.1 (tI w) i.toBitVec.toNat :: st) s else some (-3, s) := by
  show (if (L a).1 = 317 then _ else if (L a).1 = 316 then _ else if (L a).1 = 311 then _ else if (L a).1 = 312 then _ else if (L a).1 = 301 then _ else if (L a).1 = 304 then (if i.toBitVec.toNat < (e.2 (tI (L a).2)).2.1 then rn e L n (a + 1) (s.2.1 (tI (L a).2) i.toBitVec.toNat :: st) s else some (-3, s)) else _) = _
  rw [h, if_neg (by simp), if_neg (by simp), if_neg (by simp), if_neg (by simp), if_neg (by simp), if_pos rfl]
theorem rn315 {w i v : Int64} (h : L a = (315, w)) : rn e L (n + 1) a (v :: i :: st) s = if i.toBitVec.toNat < (e.2 (tI w)).2.1 then rn e L n (a + 1) st (s.1, wrT e (tI w) i.toBitVec.toNat v s.2.1, s.2.2) else some (-3, s) := by
  show (if (L a).1 = 317 then _ else if (L a).1 = 316 then _ else if (L a).1 = 311 then _ else if (L a).1 = 312 then _ else if (L a).1 = 301 then _ else if (L a).1 = 304 then _ else if (L a).1 = 315 then (if i.toBitVec.toNat < (e.2 (tI (L a).2)).2.1 then rn e L n (a + 1) st (s.1, wrT e (tI (L a).2) i.toBitVec.toNat v s.2.1, s.2.2) else some (-3, s)) else _) = _
  rw [h, if_neg (by simp), if_neg (by simp), if_neg (by simp), if_neg (by simp), if_neg (by simp), if_neg (by simp), if_pos rfl]
theorem rn300 {w : Int64} (h : L a = (300, w)) : rn e L (n + 1) a st s = rn e L n (a + 1) (w :: st) s := by
  show (if (L a).1 = 317 then _ else if (L a).1 = 316 then _ else if (L a).1 = 311 then _ else if (L a).1 = 312 then _ else if (L a).1 = 301 then _ else if (L a).1 = 304 then _ else if (L a).1 = 315 then _ else if (L a).1 = 300 then rn e L n (a + 1) ((L a).2 :: st) s else _) = _
  rw [h, if_neg (by simp), if_neg (by simp), if_neg (by simp), if_neg (by simp), if_neg (by simp), if_neg (by simp), if_neg (by simp), if_pos rfl]
theorem rn302 {w : Int64} (h : L a = (302, w)) : rn e L (n + 1) a st s = rn e L n (a + 1) (s.1 (tI w) :: st) s := by
  show (if (L a).1 = 317 then _ else if (L a).1 = 316 then _ else if (L a).1 = 311 then _ else if (L a).1 = 312 then _ else if (L a).1 = 301 then _ else if (L a).1 = 304 then _ else if (L a).1 = 315 then _ else if (L a).1 = 300 then _ else if (L a).1 = 302 then rn e L n (a + 1) (s.1 (tI (L a).2) :: st) s else _) = _
  rw [h, if_neg (by simp), if_neg (by simp), if_neg (by simp), if_neg (by simp), if_neg (by simp), if_neg (by simp), if_neg (by simp), if_neg (by simp), if_pos rfl]
theorem rn303 {w : Int64} (h : L a = (303, w)) : rn e L (n + 1) a st s = rn e L n (a + 1) (s.2.1 (tI w) 0 :: st) s := by
  show (if (L a).1 = 317 then _ else if (L a).1 = 316 then _ else if (L a).1 = 311 then _ else if (L a).1 = 312 then _ else if (L a).1 = 301 then _ else if (L a).1 = 304 then _ else if (L a).1 = 315 then _ else if (L a).1 = 300 then _ else if (L a).1 = 302 then _ else if (L a).1 = 303 then rn e L n (a + 1) (s.2.1 (tI (L a).2) 0 :: st) s else _) = _
  rw [h, if_neg (by simp), if_neg (by simp), if_neg (by simp), if_neg (by simp), if_neg (by simp), if_neg (by simp), if_neg (by simp), if_neg (by simp), if_neg (by simp), if_pos rfl]
theorem rn313 {w v : Int64} (h : L a = (313, w)) : rn e L (n + 1) a (v :: st) s = rn e L n (a + 1) st (fun k => if k = tI w then v else s.1 k, s.2.1, s.2.2) := by
  show (if (L a).1 = 317 then _ else if (L a).1 = 316 then _ else if (L a).1 = 311 then _ else if (L a).1 = 312 then _ else if (L a).1 = 301 then _ else if (L a).1 = 304 then _ else if (L a).1 = 315 then _ else if (L a).1 = 300 then _ else if (L a).1 = 302 then _ else if (L a).1 = 303 then _ else if (L a).1 = 313 then rn e L n (a + 1) st (fun k => if k = tI (L a).2 then v else s.1 k, s.2.1, s.2.2) else _) = _
  rw [h, if_neg (by simp), if_neg (by simp), if_neg (by simp), if_neg (by simp), if_neg (by simp), if_neg (by simp), if_neg (by simp), if_neg (by simp), if_neg (by simp), if_neg (by simp), if_pos rfl]
theorem rn314 {w v : Int64} (h : L a = (314, w)) : rn e L (n + 1) a (v :: st) s = rn e L n (a + 1) st (s.1, wrT e (tI w) 0 v s.2.1, fun k => if k = tI w then true else s.2.2 k) := by
  show (if (L a).1 = 317 then _ else if (L a).1 = 316 then _ else if (L a).1 = 311 then _ else if (L a).1 = 312 then _ else if (L a).1 = 301 then _ else if (L a).1 = 304 then _ else if (L a).1 = 315 then _ else if (L a).1 = 300 then _ else if (L a).1 = 302 then _ else if (L a).1 = 303 then _ else if (L a).1 = 313 then _ else if (L a).1 = 314 then rn e L n (a + 1) st (s.1, wrT e (tI (L a).2) 0 v s.2.1, fun k => if k = tI (L a).2 then true else s.2.2 k) else _) = _
  rw [h, if_neg (by simp), if_neg (by simp), if_neg (by simp), if_neg (by simp), if_neg (by simp), if_neg (by simp), if_neg (by simp), if_neg (by simp), if_neg (by simp), if_neg (by simp), if_neg (by simp), if_pos rfl]
theorem rnU1 {k : Nat} {w v : Int64} (h : L a = (k, w)) (hk : k = 305 ∨ k = 306 ∨ k = 307 ∨ k = 308 ∨ k = 310) : rn e L (n + 1) a (v :: st) s = rn e L n (a + 1) (u1 k w v :: st) s := by
  show (if (L a).1 = 317 then _ else if (L a).1 = 316 then _ else if (L a).1 = 311 then _ else if (L a).1 = 312 then _ else if (L a).1 = 301 then _ else if (L a).1 = 304 then _ else if (L a).1 = 315 then _ else if (L a).1 = 300 then _ else if (L a).1 = 302 then _ else if (L a).1 = 303 then _ else if (L a).1 = 313 then _ else if (L a).1 = 314 then _ else if (L a).1 = 305 ∨ (L a).1 = 306 ∨ (L a).1 = 307 ∨ (L a).1 = 308 ∨ (L a).1 = 310 then rn e L n (a + 1) (u1 (L a).1 (L a).2 v :: st) s else _) = _
  rw [h, if_neg (by show ¬ k = 317; omega), if_neg (by show ¬ k = 316; omega), if_neg (by show ¬ k = 311; omega), if_neg (by show ¬ k = 312; omega), if_neg (by show ¬ k = 301; omega), if_neg (by show ¬ k = 304; omega), if_neg (by show ¬ k = 315; omega), if_neg (by show ¬ k = 300; omega), if_neg (by show ¬ k = 302; omega), if_neg (by show ¬ k = 303; omega), if_neg (by show ¬ k = 313; omega), if_neg (by show ¬ k = 314; omega), if_pos hk]
theorem rnU2 {k : Nat} {w x y : Int64} (h : L a = (k, w)) (hk : k < 300 ∨ k = 309) : rn e L (n + 1) a (y :: x :: st) s = rn e L n (a + 1) (u2 k w x y :: st) s := by
  show (if (L a).1 = 317 then _ else if (L a).1 = 316 then _ else if (L a).1 = 311 then _ else if (L a).1 = 312 then _ else if (L a).1 = 301 then _ else if (L a).1 = 304 then _ else if (L a).1 = 315 then _ else if (L a).1 = 300 then _ else if (L a).1 = 302 then _ else if (L a).1 = 303 then _ else if (L a).1 = 313 then _ else if (L a).1 = 314 then _ else if (L a).1 = 305 ∨ (L a).1 = 306 ∨ (L a).1 = 307 ∨ (L a).1 = 308 ∨ (L a).1 = 310 then _ else rn e L n (a + 1) (u2 (L a).1 (L a).2 x y :: st) s) = _
  rw [h, if_neg (by show ¬ k = 317; omega), if_neg (by show ¬ k = 316; omega), if_neg (by show ¬ k = 311; omega), if_neg (by show ¬ k = 312; omega), if_neg (by show ¬ k = 301; omega), if_neg (by show ¬ k = 304; omega), if_neg (by show ¬ k = 315; omega), if_neg (by show ¬ k = 300; omega), if_neg (by show ¬ k = 302; omega), if_neg (by show ¬ k = 303; omega), if_neg (by show ¬ k = 313; omega), if_neg (by show ¬ k = 314; omega), if_neg (by show ¬ (k = 305 ∨ k = 306 ∨ k = 307 ∨ k = 308 ∨ k = 310); omega)]
end RN
/-- code a .. b - 1 is an EXPR's: it leaves its worth on the stack, or ends outside of a FILE -/
def SgE (L : CDq) (a b : Nat) (D : DnE) : Prop := a ≤ b ∧ ∀ L' : CDq, (∀ i, a ≤ i → i < b → L' i = L i) → ∀ (e : E0q) (st : List Int64) (s : STq), match D e s.1 s.2.1 with
  | none => ∃ n s', rn e L' n a st s = some (-3, s')
  | some v => ∀ n r, rn e L' n b (v :: st) s = some r → ∃ n', rn e L' n' a st s = some r
/-- code a .. b - 1 is a row of statements' -/
def SgS (L : CDq) (a b : Nat) (D : DnS) : Prop := a ≤ b ∧ ∀ L' : CDq, (∀ i, a ≤ i → i < b → L' i = L i) → ∀ (e : E0q) (st : List Int64) (s : STq),
  ((D e s).1 = 0 → ∀ n r, rn e L' n b st (D e s).2 = some r → ∃ n', rn e L' n' a st s = some r) ∧ (¬ (D e s).1 = 0 → ∃ n s', rn e L' n a st s = some ((D e s).1, s'))
theorem SgE.up {L L2 : CDq} {a b : Nat} {D : DnE} (h : SgE L a b D) (e : ∀ i, a ≤ i → i < b → L2 i = L i) : SgE L2 a b D := ⟨h.1, fun L' hL => h.2 L' (fun i h1 h2 => (hL i h1 h2).trans (e i h1 h2))⟩
theorem SgS.up {L L2 : CDq} {a b : Nat} {D : DnS} (h : SgS L a b D) (e : ∀ i, a ≤ i → i < b → L2 i = L i) : SgS L2 a b D := ⟨h.1, fun L' hL => h.2 L' (fun i h1 h2 => (hL i h1 h2).trans (e i h1 h2))⟩
section SG
variable {L : CDq} {a b c d : Nat}
theorem SgE.lit {w : Int64} (h : L a = (300, w)) : SgE L a (a + 1) (dLit w) := ⟨by omega, fun L' hL e st s n r hr => ⟨n + 1, by rw [rn300 ((hL a (by omega) (by omega)).trans h)]; exact hr⟩⟩
theorem SgE.fld {w : Int64} (h : L a = (301, w)) : SgE L a (a + 1) (dFld w) := ⟨by omega, fun L' hL e st s n r hr => ⟨n + 1, by rw [rn301 ((hL a (by omega) (by omega)).trans h)]; exact hr⟩⟩
theorem SgE.lt' {i : Nat} (hi : i < 2147483648) (h : L a = (302, nJ i)) : SgE L a (a + 1) (dLet i) := ⟨by omega, fun L' hL e st s n r hr => ⟨n + 1, by rw [rn302 ((hL a (by omega) (by omega)).trans h), tI_n hi]; exact hr⟩⟩
theorem SgE.rg {t : Nat} (ht : t < 2147483648) (h : L a = (303, nJ t)) : SgE L a (a + 1) (dReg t) := ⟨by omega, fun L' hL e st s n r hr => ⟨n + 1, by rw [rn303 ((hL a (by omega) (by omega)).trans h), tI_n ht]; exact hr⟩⟩
theorem SgE.o1 {k : Nat} {w : Int64} {D : DnE} (S : SgE L a b D) (h : L b = (k, w)) (hk : k = 305 ∨ k = 306 ∨ k = 307 ∨ k = 308 ∨ k = 310) : SgE L a (b + 1) (d1 k w D) := by
  have hab := S.1
  refine ⟨by omega, fun L' hL e st s => ?_⟩
  have S1 := S.2 L' (fun i h1 h2 => hL i h1 (by omega)) e st s
  unfold d1
  cases ed : D e s.1 s.2.1 with
  | none => rw [ed] at S1; exact S1
  | some v =>
    rw [ed] at S1
    exact fun n r hr => S1 (n + 1) r (by rw [rnU1 ((hL b (by omega) (by omega)).trans h) hk]; exact hr)
theorem SgE.o2 {k : Nat} {w : Int64} {Dx Dy : DnE} (S : SgE L a b Dx) (R : SgE L b c Dy) (h : L c = (k, w)) (hk : k < 300 ∨ k = 309) : SgE L a (c + 1) (d2 k w Dx Dy) := by
  have hab := S.1
  have hbc := R.1
  refine ⟨by omega, fun L' hL e st s => ?_⟩
  have S1 := S.2 L' (fun i h1 h2 => hL i h1 (by omega)) e st s
  cases ed : Dx e s.1 s.2.1 with
  | none =>
    have eD : d2 k w Dx Dy e s.1 s.2.1 = none := by unfold d2; rw [ed]; rfl
    rw [ed] at S1
    rw [eD]; exact S1
  | some v =>
    rw [ed] at S1
    have R1 := R.2 L' (fun i h1 h2 => hL i (by omega) (by omega)) e (v :: st) s
    have eD : d2 k w Dx Dy e s.1 s.2.1 = (Dy e s.1 s.2.1).bind fun w' => some (u2 k w v w') := by unfold d2; rw [ed]; rfl
    rw [eD]
    cases ed2 : Dy e s.1 s.2.1 with
    | none =>
      rw [ed2] at R1
      obtain ⟨n, s', q⟩ := R1
      obtain ⟨n', q'⟩ := S1 n _ q
      exact ⟨n', s', q'⟩
    | some w' =>
      rw [ed2] at R1
      intro n r hr
      obtain ⟨n1, q1⟩ := R1 (n + 1) r (by rw [rnU2 ((hL c (by omega) (by omega)).trans h) hk]; exact hr)
      exact S1 n1 r q1
theorem SgE.ce {t : Nat} {D : DnE} (ht : t < 2147483648) (S : SgE L a b D) (h : L b = (304, nJ t)) : SgE L a (b + 1) (dCel t D) := by
  have hab := S.1
  refine ⟨by omega, fun L' hL e st s => ?_⟩
  have S1 := S.2 L' (fun i h1 h2 => hL i h1 (by omega)) e st s
  have h' := (hL b (by omega) (by omega)).trans h
  unfold dCel
  cases ed : D e s.1 s.2.1 with
  | none => rw [ed] at S1; exact S1
  | some i =>
    rw [ed] at S1
    show match (if i.toBitVec.toNat < (e.2 t).2.1 then some (s.2.1 t i.toBitVec.toNat) else none) with | none => _ | some v => _
    by_cases z : i.toBitVec.toNat < (e.2 t).2.1
    · rw [if_pos z]
      exact fun n r hr => S1 (n + 1) r (by rw [rn304 h', tI_n ht, if_pos z]; exact hr)
    · rw [if_neg z]
      obtain ⟨n', q⟩ := S1 1 (-3, s) (by rw [rn304 h', tI_n ht, if_neg z])
      exact ⟨n', s, q⟩
theorem SgE.ch {Dc Dy Dz : DnE} (hd : d < 2147483648) (S : SgE L a b Dc) (h : L b = (312, nJ (c + 1))) (R : SgE L (b + 1) c Dy) (h2 : L c = (311, nJ d)) (T : SgE L (c + 1) d Dz) : SgE L a d (dCh Dc Dy Dz) := by
  have hab := S.1
  have hbc := R.1
  have hcd := T.1
  refine ⟨by omega, fun L' hL e st s => ?_⟩
  have S1 := S.2 L' (fun i h1 h2 => hL i h1 (by omega)) e st s
  have R1 := R.2 L' (fun i h1 h2 => hL i (by omega) (by omega)) e st s
  have T1 := T.2 L' (fun i h1 h2 => hL i (by omega) (by omega)) e st s
  have hb := (hL b (by omega) (by omega)).trans h
  have hc := (hL c (by omega) (by omega)).trans h2
  have e1 : tI (nJ (c + 1)) = c + 1 := tI_n (by omega)
  have e2 : tI (nJ d) = d := tI_n hd
  unfold dCh
  cases ed : Dc e s.1 s.2.1 with
  | none => rw [ed] at S1; exact S1
  | some v =>
    rw [ed] at S1
    show match (if v = 0 then Dz e s.1 s.2.1 else Dy e s.1 s.2.1) with | none => _ | some v => _
    by_cases z : v = 0
    · rw [if_pos z]
      cases ez : Dz e s.1 s.2.1 with
      | none =>
        rw [ez] at T1
        obtain ⟨n, s', q⟩ := T1
        obtain ⟨n', q'⟩ := S1 (n + 1) (-3, s') (by rw [rn312 hb (by omega), if_pos z, e1]; exact q)
        exact ⟨n', s', q'⟩
      | some u =>
        rw [ez] at T1
        intro n r hr
        obtain ⟨n1, q1⟩ := T1 n r hr
        exact S1 (n1 + 1) r (by rw [rn312 hb (by omega), if_pos z, e1]; exact q1)
    · rw [if_neg z]
      cases ey : Dy e s.1 s.2.1 with
      | none =>
        rw [ey] at R1
        obtain ⟨n, s', q⟩ := R1
        obtain ⟨n', q'⟩ := S1 (n + 1) (-3, s') (by rw [rn312 hb (by omega), if_neg z]; exact q)
        exact ⟨n', s', q'⟩
      | some u =>
        rw [ey] at R1
        intro n r hr
        obtain ⟨n1, q1⟩ := R1 (n + 1) r (by rw [rn311 hc (by omega), e2]; exact hr)
        exact S1 (n1 + 1) r (by rw [rn312 hb (by omega), if_neg z]; exact q1)
/-! statements -/
theorem SgS.sk : SgS L a a zSk := ⟨Nat.le_refl _, fun L' hL e st s => ⟨fun _ n r hr => ⟨n, hr⟩, fun h => absurd rfl h⟩⟩
theorem SgS.sq {A B : DnS} (S : SgS L a b A) (R : SgS L b c B) : SgS L a c (zSq A B) := by
  have hab := S.1
  have hbc := R.1
  refine ⟨by omega, fun L' hL e st s => ?_⟩
  have S1 := S.2 L' (fun i h1 h2 => hL i h1 (by omega)) e st s
  have R1 := R.2 L' (fun i h1 h2 => hL i (by omega) (by omega)) e st (A e s).2
  unfold zSq
  by_cases z : (A e s).1 = 0
  · rw [if_pos z]
    refine ⟨fun h n r hr => ?_, fun h => ?_⟩
    · obtain ⟨n1, q1⟩ := R1.1 h n r hr
      exact S1.1 z n1 r q1
    · obtain ⟨n1, s', q1⟩ := R1.2 h
      obtain ⟨n2, q2⟩ := S1.1 z n1 _ q1
      exact ⟨n2, s', q2⟩
  · rw [if_neg z]
    exact ⟨fun h => absurd h z, fun h => S1.2 h⟩
theorem m3_0 : ¬ (-3 : Int32) = 0 := by decide
theorem SgS.lt' {i : Nat} {D : DnE} (hi : i < 2147483648) (S : SgE L a b D) (h : L b = (313, nJ i)) : SgS L a (b + 1) (zLt i D) := by
  have hab := S.1
  refine ⟨by omega, fun L' hL e st s => ?_⟩
  have S1 := S.2 L' (fun i h1 h2 => hL i h1 (by omega)) e st s
  unfold zLt
  cases ed : D e s.1 s.2.1 with
  | none =>
    rw [ed] at S1
    exact ⟨fun h => absurd h m3_0, fun _ => S1⟩
  | some v =>
    rw [ed] at S1
    exact ⟨fun _ n r hr => S1 (n + 1) r (by rw [rn313 ((hL b (by omega) (by omega)).trans h), tI_n hi]; exact hr), fun h => absurd rfl h⟩
theorem SgS.tp {n0 : Nat} (hn : 1 ≤ n0) (hn2 : n0 < 2147483648) (h : L a = (316, nJ n0)) : SgS L a (a + 1) (zTp n0) := by
  have hne : ¬ nI n0 = 0 := fun q => by have := (nIinj (b := 0) hn2 (by omega)).mp q; omega
  exact ⟨by omega, fun L' hL e st s => ⟨fun z => absurd z hne, fun _ => ⟨1, s, by rw [rn316 ((hL a (by omega) (by omega)).trans h), nJi hn2]; rfl⟩⟩⟩
theorem SgS.rg {t : Nat} {D : DnE} (ht : t < 2147483648) (S : SgE L a b D) (h : L b = (314, nJ t)) : SgS L a (b + 1) (zRg t D) := by
  have hab := S.1
  refine ⟨by omega, fun L' hL e st s => ?_⟩
  have S1 := S.2 L' (fun i h1 h2 => hL i h1 (by omega)) e st s
  unfold zRg
  cases ed : D e s.1 s.2.1 with
  | none =>
    rw [ed] at S1
    exact ⟨fun h => absurd h m3_0, fun _ => S1⟩
  | some v =>
    rw [ed] at S1
    exact ⟨fun _ n r hr => S1 (n + 1) r (by rw [rn314 ((hL b (by omega) (by omega)).trans h), tI_n ht]; exact hr), fun h => absurd rfl h⟩
theorem SgS.cl {t : Nat} {Di D : DnE} (ht : t < 2147483648) (S : SgE L a b Di) (R : SgE L b c D) (h : L c = (315, nJ t)) : SgS L a (c + 1) (zCl t Di D) := by
  have hab := S.1
  have hbc := R.1
  refine ⟨by omega, fun L' hL e st s => ?_⟩
  have S1 := S.2 L' (fun i h1 h2 => hL i h1 (by omega)) e st s
  have h' := (hL c (by omega) (by omega)).trans h
  cases ed : Di e s.1 s.2.1 with
  | none =>
    have eD : zCl t Di D e s = (-3, s) := by unfold zCl; rw [ed]
    rw [ed] at S1
    rw [eD]
    exact ⟨fun h => absurd h m3_0, fun _ => S1⟩
  | some i =>
    rw [ed] at S1
    have R1 := R.2 L' (fun i h1 h2 => hL i (by omega) (by omega)) e (i :: st) s
    cases ed2 : D e s.1 s.2.1 with
    | none =>
      have eD : zCl t Di D e s = (-3, s) := by unfold zCl; rw [ed, ed2]
      rw [ed2] at R1
      rw [eD]
      obtain ⟨n, s', q⟩ := R1
      obtain ⟨n', q'⟩ := S1 n _ q
      exact ⟨fun h => absurd h m3_0, fun _ => ⟨n', s', q'⟩⟩
    | some v =>
      have eD : zCl t Di D e s = if i.toBitVec.toNat < (e.2 t).2.1 then (0, (s.1, wrT e t i.toBitVec.toNat v s.2.1, s.2.2)) else (-3, s) := by unfold zCl; rw [ed, ed2]
      rw [ed2] at R1
      rw [eD]
      by_cases z : i.toBitVec.toNat < (e.2 t).2.1
      · rw [if_pos z]
        refine ⟨fun _ n r hr => ?_, fun h => absurd rfl h⟩
        obtain ⟨n1, q1⟩ := R1 (n + 1) r (by rw [rn315 h', tI_n ht, if_pos z]; exact hr)
        exact S1 n1 r q1
      · rw [if_neg z]
        obtain ⟨n1, q1⟩ := R1 1 (-3, s) (by rw [rn315 h', tI_n ht, if_neg z])
        obtain ⟨n2, q2⟩ := S1 n1 _ q1
        exact ⟨fun h => absurd h m3_0, fun _ => ⟨n2, s, q2⟩⟩
/-- if without else -/
theorem SgS.if1 {Dc : DnE} {A : DnS} (hc : c < 2147483648) (S : SgE L a b Dc) (h : L b = (312, nJ c)) (R : SgS L (b + 1) c A) : SgS L a c (zIf Dc A zSk) := by
  have hab := S.1
  have hbc := R.1
  refine ⟨by omega, fun L' hL e st s => ?_⟩
  have S1 := S.2 L' (fun i h1 h2 => hL i h1 (by omega)) e st s
  have R1 := R.2 L' (fun i h1 h2 => hL i (by omega) (by omega)) e st s
  have hb := (hL b (by omega) (by omega)).trans h
  have e1 : tI (nJ c) = c := tI_n hc
  cases ed : Dc e s.1 s.2.1 with
  | none =>
    have eD : zIf Dc A zSk e s = (-3, s) := by unfold zIf; rw [ed]
    rw [ed] at S1
    rw [eD]
    exact ⟨fun h => absurd h m3_0, fun _ => S1⟩
  | some v =>
    have eD : zIf Dc A zSk e s = if v = 0 then zSk e s else A e s := by unfold zIf; rw [ed]
    rw [ed] at S1
    rw [eD]
    by_cases z : v = 0
    · rw [if_pos z]
      refine ⟨fun _ n r hr => S1 (n + 1) r (by rw [rn312 hb (by omega), if_pos z, e1]; exact hr), fun h => absurd rfl h⟩
    · rw [if_neg z]
      refine ⟨fun h n r hr => ?_, fun h => ?_⟩
      · obtain ⟨n1, q1⟩ := R1.1 h n r hr
        exact S1 (n1 + 1) r (by rw [rn312 hb (by omega), if_neg z]; exact q1)
      · obtain ⟨n1, s', q1⟩ := R1.2 h
        obtain ⟨n2, q2⟩ := S1 (n1 + 1) _ (by rw [rn312 hb (by omega), if_neg z]; exact q1)
        exact ⟨n2, s', q2⟩
/-- if with else -/
theorem SgS.if2 {Dc : DnE} {A B : DnS} (hd : d < 2147483648) (S : SgE L a b Dc) (h : L b = (312, nJ (c + 1))) (R : SgS L (b + 1) c A) (h2 : L c = (311, nJ d)) (T : SgS L (c + 1) d B) : SgS L a d (zIf Dc A B) := by
  have hab := S.1
  have hbc := R.1
  have hcd := T.1
  refine ⟨by omega, fun L' hL e st s => ?_⟩
  have S1 := S.2 L' (fun i h1 h2 => hL i h1 (by omega)) e st s
  have R1 := R.2 L' (fun i h1 h2 => hL i (by omega) (by omega)) e st s
  have T1 := T.2 L' (fun i h1 h2 => hL i (by omega) (by omega)) e st s
  have hb := (hL b (by omega) (by omega)).trans h
  have hc := (hL c (by omega) (by omega)).trans h2
  have e1 : tI (nJ (c + 1)) = c + 1 := tI_n (by omega)
  have e2 : tI (nJ d) = d := tI_n hd
  cases ed : Dc e s.1 s.2.1 with
  | none =>
    have eD : zIf Dc A B e s = (-3, s) := by unfold zIf; rw [ed]
    rw [ed] at S1
    rw [eD]
    exact ⟨fun h => absurd h m3_0, fun _ => S1⟩
  | some v =>
    have eD : zIf Dc A B e s = if v = 0 then B e s else A e s := by unfold zIf; rw [ed]
    rw [ed] at S1
    rw [eD]
    by_cases z : v = 0
    · rw [if_pos z]
      refine ⟨fun h n r hr => ?_, fun h => ?_⟩
      · obtain ⟨n1, q1⟩ := T1.1 h n r hr
        exact S1 (n1 + 1) r (by rw [rn312 hb (by omega), if_pos z, e1]; exact q1)
      · obtain ⟨n1, s', q1⟩ := T1.2 h
        obtain ⟨n2, q2⟩ := S1 (n1 + 1) _ (by rw [rn312 hb (by omega), if_pos z, e1]; exact q1)
        exact ⟨n2, s', q2⟩
    · rw [if_neg z]
      refine ⟨fun h n r hr => ?_, fun h => ?_⟩
      · obtain ⟨n1, q1⟩ := R1.1 h (n + 1) r (by rw [rn311 hc (by omega), e2]; exact hr)
        exact S1 (n1 + 1) r (by rw [rn312 hb (by omega), if_neg z]; exact q1)
      · obtain ⟨n1, s', q1⟩ := R1.2 h
        obtain ⟨n2, q2⟩ := S1 (n1 + 1) _ (by rw [rn312 hb (by omega), if_neg z]; exact q1)
        exact ⟨n2, s', q2⟩
end SG
/-- the roads of an if that is not over: code a .. p - 1; its jumps Js go to the end, which is not known yet -/
def ChS (L : CDq) (a p : Nat) (Js : List Nat) (ch : DnS → DnS) : Prop := a ≤ p ∧ (∀ j, j ∈ Js → a ≤ j ∧ j < p) ∧ ∀ (L' : CDq) (d : Nat) (R : DnS), d < 2147483648 → (∀ i, a ≤ i → i < p → ¬ i ∈ Js → L' i = L i) → (∀ j, j ∈ Js → L' j = (311, nJ d)) → SgS L' p d R → SgS L' a d (ch R)
theorem ChS.st (L : CDq) (a : Nat) : ChS L a a [] (fun e => e) := ⟨Nat.le_refl _, fun j h => (by cases h), fun L' d R _ _ _ h => h⟩
theorem ChS.up {L L2 : CDq} {a p : Nat} {Js : List Nat} {ch : DnS → DnS} (h : ChS L a p Js ch) (e : ∀ i, a ≤ i → i < p → ¬ i ∈ Js → L2 i = L i) : ChS L2 a p Js ch := ⟨h.1, h.2.1, fun L' d R h1 h2 h3 h4 => h.2.2 L' d R h1 (fun i q1 q2 q3 => (h2 i q1 q2 q3).trans (e i q1 q2 q3)) h3 h4⟩
/-- a road more: its jump stands at c -/
theorem ChS.cs {L : CDq} {a p b c : Nat} {Js : List Nat} {ch : DnS → DnS} {Dc : DnE} {A : DnS} (h : ChS L a p Js ch) (S : SgE L p b Dc) (hb : L b = (312, nJ (c + 1))) (R : SgS L (b + 1) c A) (hc : c < 2147483647) : ChS L a (c + 1) (c :: Js) (fun e => ch (zIf Dc A e)) := by
  have h1 := h.1
  have h2 := S.1
  have h3 := R.1
  refine ⟨by omega, fun j hj => ?_, fun L' d B hd e1 e2 T => ?_⟩
  · rcases List.mem_cons.mp hj with q | q
    · omega
    · have := h.2.1 j q; omega
  · have hm : ∀ i, p ≤ i → i < c → ¬ i ∈ c :: Js := fun i q1 q2 q3 => by
      rcases List.mem_cons.mp q3 with q | q
      · omega
      · have := h.2.1 i q; omega
    refine h.2.2 L' d _ hd (fun i q1 q2 q3 => e1 i q1 (by omega) (fun q4 => ?_)) (fun j hj => e2 j (List.mem_cons_of_mem _ hj)) ?_
    · rcases List.mem_cons.mp q4 with q | q
      · omega
      · exact q3 q
    · refine SgS.if2 hd (S.up (fun i q1 q2 => e1 i (by omega) (by omega) (hm i (by omega) (by omega)))) ?_ (R.up (fun i q1 q2 => e1 i (by omega) (by omega) (hm i (by omega) (by omega)))) (e2 c (List.mem_cons_self ..)) T
      rw [e1 b (by omega) (by omega) (hm b (by omega) (by omega))]
      exact hb
