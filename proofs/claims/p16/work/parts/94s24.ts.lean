/-! T's success is S's -/
theorem obm {α β γ δ : Type} {p : α → β} {q : γ → δ} {a' : Option α} {a : Option β} {f' : α → Option γ} {f : β → Option δ} (h : a'.map p = a) (hf : ∀ x, (f' x).map q = f (p x)) : (a'.bind f').map q = a.bind f := by
  subst h
  cases a' with
  | none => rfl
  | some x => exact hf x
theorem oum {α γ δ : Type} {q : γ → δ} {f' : α → Option γ} {f : α → Option δ} (o : Option α) (hf : ∀ x, (f' x).map q = f x) : (o.bind f').map q = o.bind f := by
  cases o with
  | none => rfl
  | some x => exact hf x
theorem itm {γ δ : Type} {q : γ → δ} {c : Prop} [Decidable c] {x y : Option γ} {x' y' : Option δ} (h1 : x.map q = x') (h2 : y.map q = y') : (if c then x else y).map q = if c then x' else y' := by
  subst h1 h2
  by_cases z : c
  · rw [if_pos z, if_pos z]
  · rw [if_neg z, if_neg z]
def pV (x : VD) : Nat × Nat := (x.1, x.2.1)
theorem pEx {X : TX} {R' : Nat → Nat → Nat → Nat → Option VD} {R : Nat → Nat → Nat → Nat → Option (Nat × Nat)} (hR : ∀ m a d j, (R' m a d j).map pV = R m a d j) (d j : Nat) : (tEx X R' d j).map pV = sEx X R d j := by
  unfold tEx sEx
  exact obm (hR _ _ _ _) fun x => itm (oum _ fun _ => obm (hR _ _ _ _) fun y => oum _ fun _ => obm (hR _ _ _ _) fun z => itm rfl rfl) rfl
theorem pBL {X : TX} {R' : Nat → Nat → Nat → Nat → Option VD} {R : Nat → Nat → Nat → Nat → Option (Nat × Nat)} (hR : ∀ m a d j, (R' m a d j).map pV = R m a d j) (d j : Nat) (a : Nat) : ∀ (k j w : Nat) (D : DnE), (tBL X R' a d k j w D).map pV = sBL X R a d k j w := by
  intro k
  induction k with
  | zero => intro j w D; rfl
  | succ k ih =>
    intro j w D
    unfold tBL sBL
    exact itm (oum _ fun _ => obm (hR _ _ _ _) fun y => oum _ fun z => ih _ _ _) rfl
theorem pBi {X : TX} {R' : Nat → Nat → Nat → Nat → Option VD} {R : Nat → Nat → Nat → Nat → Option (Nat × Nat)} (hR : ∀ m a d j, (R' m a d j).map pV = R m a d j) (d j : Nat) (a : Nat) : (tBi X R' a d j).map pV = sBi X R a d j := by
  unfold tBi sBi
  exact itm (hR _ _ _ _) (obm (hR _ _ _ _) fun x => pBL hR d 0 a _ _ _ _)
theorem pUn {X : TX} {R' : Nat → Nat → Nat → Nat → Option VD} {R : Nat → Nat → Nat → Nat → Option (Nat × Nat)} (hR : ∀ m a d j, (R' m a d j).map pV = R m a d j) (d j : Nat) : (tUn X R' d j).map pV = sUn X R d j := by
  unfold tUn sUn
  exact itm (oum _ fun _ => obm (hR _ _ _ _) fun x => itm rfl rfl) (hR _ _ _ _)
theorem pPo {X : TX} {R' : Nat → Nat → Nat → Nat → Option VD} {R : Nat → Nat → Nat → Nat → Option (Nat × Nat)} (hR : ∀ m a d j, (R' m a d j).map pV = R m a d j) (d j : Nat) : (tPo X R' d j).map pV = sPo X R d j := by
  have pl : ∀ (k j w : Nat) (D : DnE), (tPL X d k j w D).map pV = sPL X d k j w := by
    intro k
    induction k with
    | zero => intro j w D; rfl
    | succ k ih =>
      intro j w D
      unfold tPL sPL
      exact itm (oum _ fun z => ih _ _ _) rfl
  unfold tPo sPo
  exact obm (hR _ _ _ _) fun x => pl _ _ _ _
theorem pNm {X : TX} {lk : LK} {lz : LZ} {C : List Nat} {R' : Nat → Nat → Nat → Nat → Option VD} {R : Nat → Nat → Nat → Nat → Option (Nat × Nat)} (hR : ∀ m a d j, (R' m a d j).map pV = R m a d j) (d j : Nat) : (tNm X lk lz C R' d j).map pV = sNm X lk R d j := by
  unfold tNm sNm
  exact oum _ fun _ => itm rfl (itm (oum _ fun _ => obm (hR _ _ _ _) fun i => oum _ fun _ => rfl) rfl)
theorem pWi {X : TX} {R' : Nat → Nat → Nat → Nat → Option VD} {R : Nat → Nat → Nat → Nat → Option (Nat × Nat)} (hR : ∀ m a d j, (R' m a d j).map pV = R m a d j) (d j : Nat) : (tWi X R' d j).map pV = sWi X R d j := by
  unfold tWi sWi
  exact oum _ fun _ => oum _ fun _ => obm (hR _ _ _ _) fun x => oum _ fun _ => oum _ fun _ => oum _ fun _ => itm rfl rfl
theorem pCa {X : TX} {R' : Nat → Nat → Nat → Nat → Option VD} {R : Nat → Nat → Nat → Nat → Option (Nat × Nat)} (hR : ∀ m a d j, (R' m a d j).map pV = R m a d j) (d j : Nat) : (tCa X R' d j).map pV = sCa X R d j := by
  unfold tCa sCa
  exact oum _ fun _ => oum _ fun _ => obm (hR _ _ _ _) fun x => oum _ fun _ => obm (hR _ _ _ _) fun y => oum _ fun _ => oum _ fun z => rfl
theorem pTo {X : TX} {R' : Nat → Nat → Nat → Nat → Option VD} {R : Nat → Nat → Nat → Nat → Option (Nat × Nat)} (hR : ∀ m a d j, (R' m a d j).map pV = R m a d j) (d j : Nat) : (tTo X R' d j).map pV = sTo X R d j := by
  have pl : ∀ (k j w : Nat) (D : DnE), (tTL X R' d k j w D).map pV = sTL X R d k j w := by
    intro k
    induction k with
    | zero => intro j w D; rfl
    | succ k ih =>
      intro j w D
      unfold tTL sTL
      exact itm (oum _ fun _ => obm (hR _ _ _ _) fun x => ih _ _ _) (oum _ fun _ => itm rfl rfl)
  unfold tTo sTo
  exact oum _ fun _ => obm (hR _ _ _ _) fun x => pl _ _ _ _
theorem pPr {X : TX} {R' : Nat → Nat → Nat → Nat → Option VD} {R : Nat → Nat → Nat → Nat → Option (Nat × Nat)} (hR : ∀ m a d j, (R' m a d j).map pV = R m a d j) (d j : Nat) : (tPr X R' d j).map pV = sPr X R d j := by
  unfold tPr sPr
  refine itm ?_ (itm (oum _ fun _ => obm (hR _ _ _ _) fun x => oum _ fun _ => rfl) (itm (hR _ _ _ _) (itm (hR _ _ _ _) (itm (hR _ _ _ _) (itm (hR _ _ _ _) rfl)))))
  unfold tLit
  cases sLit X d j with
  | none => rfl
  | some z => rfl
theorem pR (X : TX) (lk : LK) (lz : LZ) (C : List Nat) : ∀ n m a d j, (tR X lk lz C n m a d j).map pV = sR X lk n m a d j := by
  intro n
  induction n with
  | zero => intro m a d j; rfl
  | succ n ih =>
    intro m a d j
    unfold tR sR
    match m with
    | 0 => exact pEx ih d j
    | 1 => exact pBi ih d j a
    | 2 => exact pUn ih d j
    | 3 => exact pPo ih d j
    | 4 => exact pPr ih d j
    | 5 => exact pNm ih d j
    | 6 => exact pWi ih d j
    | 7 => exact pCa ih d j
    | m + 8 => exact pTo ih d j
def pZs (x : VS) : Nat × LK × Nat := (x.1, x.2.1.1, x.2.2.1)
theorem pE8 {X : TX} {C : List Nat} (lk : LK) (lz : LZ) (d j : Nat) : (tE8 X C lk lz d j).map pV = sE8 X lk d j := pR X lk lz C _ _ _ _ _
theorem pLe {X : TX} {C : List Nat} (lk : LK) (lz : LZ) (le d j : Nat) : (tLe X C lk lz le d j).map pZs = sLe X lk le d j := by
  unfold tLe sLe
  exact oum _ fun _ => oum _ fun _ => oum _ fun _ => obm (pE8 _ _ _ _) fun x => oum _ fun _ => itm rfl rfl
theorem pTr {X : TX} (lk : LK) (lz : LZ) (le d j : Nat) : (tTr X lk lz le d j).map pZs = sTr X lk le d j := by
  unfold tTr sTr
  exact oum _ fun _ => oum _ fun _ => oum _ fun _ => itm rfl rfl
theorem pA2 {X : TX} {C : List Nat} (lk : LK) (lz : LZ) (le d j k i : Nat) (f : DnE → DnS) : (tA2 X C lk lz le d j k i f).map pZs = sA2 X lk le d j k i := by
  unfold tA2 sA2
  exact oum _ fun _ => obm (pE8 _ _ _ _) fun x => oum _ fun _ => itm rfl rfl
theorem pAs {X : TX} {C : List Nat} (lk : LK) (lz : LZ) (le d j : Nat) : (tAs X C lk lz le d j).map pZs = sAs X lk le d j := by
  unfold tAs sAs
  exact oum _ fun _ => itm (oum _ fun _ => obm (pE8 _ _ _ _) fun i => oum _ fun _ => pA2 _ _ _ _ _ _ _ _) (pA2 _ _ _ _ _ _ _ _)
theorem pKL {X : TX} {R' : Nat → LK → LZ → Nat → Nat → Nat → Option VS} {R : Nat → LK → Nat → Nat → Nat → Option (Nat × LK × Nat)} (hR : ∀ m lk lz le d j, (R' m lk lz le d j).map pZs = R m lk le d j) (d : Nat) (lk0 : LK) (lz0 : LZ) : ∀ (k : Nat) (lk : LK) (lz : LZ) (le j : Nat) (D : DnS), (tKL X R' d lk0 lz0 k lk lz le j D).map pZs = sKL X R d lk0 k lk le j := by
  intro k
  induction k with
  | zero => intro lk lz le j D; rfl
  | succ k ih =>
    intro lk lz le j D
    unfold tKL sKL
    exact itm (oum _ fun _ => rfl) (obm (hR _ _ _ _ _ _) fun r => ih _ _ _ _ _)
theorem pBk {X : TX} {R' : Nat → LK → LZ → Nat → Nat → Nat → Option VS} {R : Nat → LK → Nat → Nat → Nat → Option (Nat × LK × Nat)} (hR : ∀ m lk lz le d j, (R' m lk lz le d j).map pZs = R m lk le d j) (lk : LK) (lz : LZ) (le d j : Nat) : (tBk X R' lk lz le d j).map pZs = sBk X R lk le d j := by
  unfold tBk sBk
  exact oum _ fun _ => pKL hR d lk lz _ _ _ _ _ _
theorem pIL {X : TX} {C : List Nat} {R' : Nat → LK → LZ → Nat → Nat → Nat → Option VS} {R : Nat → LK → Nat → Nat → Nat → Option (Nat × LK × Nat)} (hR : ∀ m lk lz le d j, (R' m lk lz le d j).map pZs = R m lk le d j) (hK : ∀ lk le d j r, R 0 lk le d j = some r → r.2.1 = lk) (d : Nat) (lk : LK) (lz : LZ) : ∀ (k le j : Nat) (ch : DnS → DnS), (tIL X C R' d lk lz k le j ch).map pZs = sIL X R d lk k le j := by
  intro k
  induction k with
  | zero => intro le j ch; rfl
  | succ k ih =>
    intro le j ch
    unfold tIL sIL
    refine oum _ fun _ => obm (pE8 _ _ _ _) fun x => oum _ fun _ => obm (hR _ _ _ _ _ _) fun r => itm (oum _ fun _ => itm (ih _ _ _) ?_) rfl
    have e := hR 0 lk lz r.2.2.1 d (r.1 + 1)
    have hk := hK lk r.2.2.1 d (r.1 + 1)
    show _ = R 0 lk r.2.2.1 d (r.1 + 1)
    rw [← e] at hk ⊢
    cases hq : R' 0 lk lz r.2.2.1 d (r.1 + 1) with
    | none => rfl
    | some q =>
      rw [hq] at hk
      have := hk _ rfl
      show some (q.1, lk, q.2.2.1) = some (q.1, q.2.1.1, q.2.2.1)
      rw [show q.2.1.1 = lk from this]
theorem pSm {X : TX} {C : List Nat} {R' : Nat → LK → LZ → Nat → Nat → Nat → Option VS} {R : Nat → LK → Nat → Nat → Nat → Option (Nat × LK × Nat)} (hR : ∀ m lk lz le d j, (R' m lk lz le d j).map pZs = R m lk le d j) (hK : ∀ lk le d j r, R 0 lk le d j = some r → r.2.1 = lk) (lk : LK) (lz : LZ) (le d j : Nat) : (tSm X C R' lk lz le d j).map pZs = sSm X R lk le d j := by
  unfold tSm sSm
  exact itm (pLe _ _ _ _ _) (itm (pTr _ _ _ _ _) (itm (hR _ _ _ _ _ _) (pAs _ _ _ _ _)))
theorem sKL_k {X : TX} {R : Nat → LK → Nat → Nat → Nat → Option (Nat × LK × Nat)} {d : Nat} {lk0 : LK} : ∀ (k : Nat) (lk : LK) (le j : Nat) (r : Nat × LK × Nat), sKL X R d lk0 k lk le j = some r → r.2.1 = lk0 := by
  intro k
  induction k with
  | zero => intro lk le j r h; cases h
  | succ k ih =>
    intro lk le j r h
    unfold sKL at h
    by_cases c : X.kd j = 125
    · rw [if_pos c] at h
      obtain ⟨u, g, h⟩ := obn h
      obtain rfl := Option.some.inj h
      rfl
    · rw [if_neg c] at h
      obtain ⟨u, g, h⟩ := obn h
      exact ih _ _ _ _ h
theorem sS_k {X : TX} {n : Nat} (lk : LK) (le d j : Nat) (r : Nat × LK × Nat) (h : sS X n 0 lk le d j = some r) : r.2.1 = lk := by
  cases n with
  | zero => cases h
  | succ n =>
    have h : sBk X (sS X n) lk le d j = some r := h
    unfold sBk at h
    obtain ⟨u, g, h⟩ := obn h
    exact sKL_k _ _ _ _ _ h
theorem pSS (X : TX) (C : List Nat) : ∀ n m lk lz le d j, (tS X C n m lk lz le d j).map pZs = sS X n m lk le d j := by
  intro n
  induction n with
  | zero => intro m lk lz le d j; rfl
  | succ n ih =>
    intro m lk lz le d j
    unfold tS sS
    match m with
    | 0 => exact pBk ih _ _ _ _ _
    | 1 => exact pSm ih sS_k _ _ _ _ _
    | m + 2 => exact pIL ih sS_k _ _ _ _ _ _ _
def pI (x : VI) : Nat × SI := (x.1, x.2.1)
theorem pOp (X : TX) (s : SI) (lz : LZ) (B : List DnS) (j : Nat) : (tOp X s lz B j).map pI = sOp X s j := by
  unfold tOp sOp
  exact oum _ fun _ => oum _ fun _ => oum _ fun _ => oum _ fun _ => obm (pSS X _ _ _ _ _ _ _ _) fun r => rfl
theorem pIt (X : TX) (s : SI) (lz : LZ) (B : List DnS) (j : Nat) : (tIt X s lz B j).map pI = sIt X s j := by
  unfold tIt
  by_cases c : X.kd j = 206
  · rw [if_pos c, pOp]
    unfold sIt
    rw [c]
    rfl
  · rw [if_neg c]
    cases sIt X s j with
    | none => rfl
    | some r => rfl
theorem pLp (X : TX) : ∀ (k : Nat) (s : SI) (lz : LZ) (B : List DnS) (j : Nat), (tLp X k s lz B j).map Prod.fst = sLp X k s j := by
  intro k
  induction k with
  | zero => intro s lz B j; rfl
  | succ k ih =>
    intro s lz B j
    unfold tLp sLp
    exact itm rfl (obm (pIt _ _ _ _ _) fun r => ih _ _ _ _)
theorem pTx (X : TX) : (tTx X).map Prod.fst = sTx X := by
  unfold tTx sTx
  exact oum _ fun _ => oum _ fun _ => oum _ fun _ => itm (pLp _ _ _ _ _ _) rfl
/-- where S says yes, T tells what is worth -/
theorem tTx_of {X : TX} {s : SI} (h : sTx X = some s) : ∃ lz B, tTx X = some (s, lz, B) := by
  rw [← pTx] at h
  cases e : tTx X with
  | none => rw [e] at h; cases h
  | some r =>
    rw [e] at h
    obtain rfl := Option.some.inj h
    exact ⟨r.2.1, r.2.2, rfl⟩
theorem sTx_of {X : TX} {r : SI × LZ × List DnS} (h : tTx X = some r) : sTx X = some r.1 := by
  rw [← pTx, h]
  rfl
