/-! T -> K: statements -/
section KC
variable {X : TX}
theorem finK {d j w : Nat} {o : OuA} {D : DnE} {q : ODq} (h91 : ¬ X.kd j = 91) (h63 : ¬ X.kd j = 63) (hl : lvq (X.kd j) = 0) : kSp X ⟨3, j, d, [], [w], o⟩ [D] [] q = ([], [], kFi D o q) := by
  rw [kft_0 h91 hl (fun m M' e => by cases e)]
  unfold kCh
  rw [if_neg h63]
  rfl
theorem e8K {J : Nat} (hJ : X.kd J = 1 ∨ X.kd J = 2) {d j : Nat} {o : OuA} {q : ODq} {r : VD} (e : tE8 X q.C o.lk q.lz d j = some r) (hjJ : j ≤ J) : AKo X J 0 0 d j [] [] o [] [] q r :=
  xK hJ 868 0 0 d j [] [] o [] [] q r e hjJ (preA0 (by omega)) (fun w => by omega) (fun _ => fun m M' e => by cases e) (fun w => by omega)
/-- what a statement leaves -/
def QSt (q q' : ODq) (lz : LZ) (D : DnS) : Prop := q'.lz = lz ∧ q'.D = D ∧ q'.bz = q.bz ∧ q'.C = q.C ∧ q'.lt = q.lt ∧ q'.B = q.B
theorem ltK {J : Nat} (hJ : X.kd J = 1 ∨ X.kd J = 2) {lk : LK} {le d j g1 g3 : Nat} {g2 : List Nat} {bl : List (Nat × LK)} {s : SI} {q : ODq} {r : VS} (e : tLe X q.C lk q.lz le d j = some r) (hjJ : j ≤ J) (hk : X.kd j = 207) : d ≤ 60 ∧ (j < r.1 ∧ r.1 ≤ J) ∧ ∃ a1 a2 a3 q', QSt q q' r.2.1.2 (zSq q.D r.2.2.2) ∧ ∀ z, EndK X z ⟨1, r.1, d, [], [], ⟨a1, a2, a3, bl, r.2.1.1, r.2.2.1, s⟩⟩ [] [] q' → EndK X z ⟨1, j, d, [], [], ⟨g1, g2, g3, bl, lk, le, s⟩⟩ [] [] q := by
  unfold tLe at e
  obtain ⟨_, -, e⟩ := obn e
  obtain ⟨_, n1, e⟩ := obn e
  obtain ⟨_, n2, e⟩ := obn e
  obtain ⟨x, e1, e⟩ := obn e
  obtain ⟨_, n3, e⟩ := obn e
  by_cases ok : (lk (X.nm (j + 1))).1 = 0 ∧ le < 64
  rotate_left
  · rw [if_neg ok] at e; cases e
  rw [if_pos ok] at e
  obtain rfl := Option.some.inj e
  have q1 := (ndK n1).1
  have q2 := (ndK n2).1
  have q3 := (ndK n3).1
  have hj1 := nxJ hJ hjJ (by omega) (by omega)
  have hj2 : j + 2 ≤ J := nxJ hJ (j := j + 1) hj1 (by omega) (by omega)
  have hj3 : j + 3 ≤ J := nxJ hJ (j := j + 2) hj2 (by omega) (by omega)
  have st : aSp X ⟨1, j, d, [], [], ⟨g1, g2, g3, bl, lk, le, s⟩⟩ = some ⟨2, j + 3, d, [], [], ⟨0, X.nm (j + 1), g3, bl, lk, le, s⟩⟩ := by
    show aSt X j d _ = _
    unfold aSt
    rw [if_pos hk, if_pos ⟨q1, q2, ok.1, ok.2⟩]
  have kt : kSp X ⟨1, j, d, [], [], ⟨g1, g2, g3, bl, lk, le, s⟩⟩ [] [] q = ([], [], q) := by
    show ([], [], kSt X j ⟨g1, g2, g3, bl, lk, le, s⟩ q) = _
    unfold kSt
    rw [if_neg (by omega), if_neg (by omega), if_neg (by omega), if_neg (by omega)]
  obtain ⟨d0, ⟨b1, b2⟩, ⟨c1, c2, c3⟩, k1⟩ := e8K hJ (o := ⟨0, X.nm (j + 1), g3, bl, lk, le, s⟩) e1 hj3
  have c2 : lvq (X.kd x.1) ≤ 0 := c2 (by omega)
  have s2 := finA (d := d) (w := x.2.1) (o := ⟨0, X.nm (j + 1), g3, bl, lk, le, s⟩) (c1 (by omega)) (c3 rfl) (by omega)
  have s3 : aFi X x.1 d [x.2.1] ⟨0, X.nm (j + 1), g3, bl, lk, le, s⟩ = if X.kd x.1 = 59 then some ⟨1, x.1 + 1, d, [], [], ⟨0, X.nm (j + 1), g3, bl, updK lk (X.nm (j + 1)) (3, x.2.1), le + 1, s⟩⟩ else none := rfl
  rw [if_pos q3] at s3
  have k2 := finK (d := d) (w := x.2.1) (o := ⟨0, X.nm (j + 1), g3, bl, lk, le, s⟩) (D := x.2.2) (q := q) (c1 (by omega)) (c3 rfl) (by omega)
  exact ⟨d0, ⟨by show j < x.1 + 1; omega, nxJ hJ b2 (by omega) (by omega)⟩, 0, X.nm (j + 1), g3, ODq.mk (updZ q.lz (X.nm (j + 1)) le) q.bz (zSq q.D (zLt le x.2.2)) q.ch q.gi q.ix q.C q.lt q.B, ⟨rfl, rfl, rfl, rfl, rfl, rfl⟩, fun z hz => EndK.go st kt (k1 z (EndK.go (s2.trans s3) k2 hz))⟩
theorem trK {J : Nat} (hJ : X.kd J = 1 ∨ X.kd J = 2) {lk : LK} {le d j g1 g3 : Nat} {g2 : List Nat} {bl : List (Nat × LK)} {s : SI} {q : ODq} {r : VS} (e : tTr X lk q.lz le d j = some r) (hjJ : j ≤ J) (hk : X.kd j = 208) : d ≤ 60 ∧ (j < r.1 ∧ r.1 ≤ J) ∧ ∃ a1 a2 a3 q', QSt q q' r.2.1.2 (zSq q.D r.2.2.2) ∧ ∀ z, EndK X z ⟨1, r.1, d, [], [], ⟨a1, a2, a3, bl, r.2.1.1, r.2.2.1, s⟩⟩ [] [] q' → EndK X z ⟨1, j, d, [], [], ⟨g1, g2, g3, bl, lk, le, s⟩⟩ [] [] q := by
  unfold tTr at e
  obtain ⟨_, -, e⟩ := obn e
  obtain ⟨_, n1, e⟩ := obn e
  obtain ⟨_, n2, e⟩ := obn e
  by_cases ok : 1 ≤ X.nu (j + 1) ∧ X.nu (j + 1) ≤ 1000000
  rotate_left
  · rw [if_neg ok] at e; cases e
  rw [if_pos ok] at e
  obtain rfl := Option.some.inj e
  have q1 := (ndK n1).1
  have q2 := (ndK n2).1
  have hj1 := nxJ hJ hjJ (by omega) (by omega)
  have hj2 : j + 2 ≤ J := nxJ hJ (j := j + 1) hj1 (by omega) (by omega)
  have hj3 : j + 3 ≤ J := nxJ hJ (j := j + 2) hj2 (by omega) (by omega)
  have st : aSp X ⟨1, j, d, [], [], ⟨g1, g2, g3, bl, lk, le, s⟩⟩ = some ⟨1, j + 3, d, [], [], ⟨g1, g2, g3, bl, lk, le, s⟩⟩ := by
    show aSt X j d _ = _
    unfold aSt
    rw [if_neg (by omega), if_neg (by omega), if_pos hk, if_pos ⟨q1, q2, ok⟩]
  have kt : kSp X ⟨1, j, d, [], [], ⟨g1, g2, g3, bl, lk, le, s⟩⟩ [] [] q = ([], [], ODq.mk q.lz q.bz (zSq q.D (zTp (X.nu (j + 1)))) q.ch q.gi q.ix q.C q.lt q.B) := by
    show ([], [], kSt X j ⟨g1, g2, g3, bl, lk, le, s⟩ q) = _
    unfold kSt
    rw [if_neg (by omega), if_pos hk]
  exact ⟨(ndK n1).2, ⟨by show j < j + 3; omega, hj3⟩, g1, g2, g3, ODq.mk q.lz q.bz (zSq q.D (zTp (X.nu (j + 1)))) q.ch q.gi q.ix q.C q.lt q.B, ⟨rfl, rfl, rfl, rfl, rfl, rfl⟩, fun z hz => EndK.go st kt hz⟩
/-- behind the = -/
theorem a2K {J : Nat} (hJ : X.kd J = 1 ∨ X.kd J = 2) {lk : LK} {le d j i k : Nat} {o : OuA} {q : ODq} {f : DnE → DnS} {r : VS} (hlk : o.lk = lk) (hgl : (o.gl = 2 ∧ k = 1 ∧ ∀ D, f D = zRg q.gi D) ∨ (o.gl = 3 ∧ k = 2 ∧ ∀ D, f D = zCl q.gi q.ix D)) (hw : lk (X.nm j) = (k, o.gw)) (hiJ : i ≤ J) (e : tA2 X q.C lk q.lz le d j k i f = some r) : X.kd i = 61 ∧ d ≤ 60 ∧ (i < r.1 ∧ r.1 ≤ J) ∧ r.2.1 = (lk, q.lz) ∧ r.2.2.1 = le ∧ ∃ q', QSt q q' q.lz (zSq q.D r.2.2.2) ∧ ∀ z, EndK X z ⟨1, r.1, d, [], [], o⟩ [] [] q' → EndK X z ⟨2, i + 1, d, [], [], o⟩ [] [] q := by
  unfold tA2 at e
  obtain ⟨_, n1, e⟩ := obn e
  obtain ⟨x, e1, e⟩ := obn e
  obtain ⟨_, n2, e⟩ := obn e
  by_cases ok : lk (X.nm j) = (k, x.2.1)
  rotate_left
  · rw [if_neg ok] at e; cases e
  rw [if_pos ok] at e
  obtain rfl := Option.some.inj e
  have q1 := (ndK n1).1
  have q2 := (ndK n2).1
  have hi1 := nxJ hJ hiJ (by omega) (by omega)
  rw [← hlk] at e1
  obtain ⟨d0, ⟨b1, b2⟩, ⟨c1, c2, c3⟩, k1⟩ := e8K hJ (o := o) e1 hi1
  have c2 : lvq (X.kd x.1) ≤ 0 := c2 (by omega)
  have s2 := finA (d := d) (w := x.2.1) (o := o) (c1 (by omega)) (c3 rfl) (by omega)
  have hgw : o.gw = x.2.1 := by
    rw [hw] at ok
    exact congrArg Prod.snd ok
  have s3 : aFi X x.1 d [x.2.1] o = some ⟨1, x.1 + 1, d, [], [], o⟩ := by
    unfold aFi
    rw [if_neg (by omega), if_neg (by omega), if_neg (by omega)]
    show (if o.gw = x.2.1 ∧ X.kd x.1 = 59 then _ else _) = _
    rw [if_pos ⟨hgw, q2⟩]
  have k2 := finK (d := d) (w := x.2.1) (o := o) (D := x.2.2) (q := q) (c1 (by omega)) (c3 rfl) (by omega)
  refine ⟨q1, d0, ⟨by show i < x.1 + 1; omega, nxJ hJ b2 (by omega) (by omega)⟩, rfl, rfl, kFi x.2.2 o q, ?_, fun z hz => k1 z (EndK.go (s2.trans s3) k2 hz)⟩
  unfold kFi
  rcases hgl with ⟨g, -, hf⟩ | ⟨g, -, hf⟩
  · rw [if_neg (by omega), if_neg (by omega), if_neg (by omega), if_pos g]
    exact ⟨rfl, by show zSq q.D (zRg q.gi x.2.2) = zSq q.D (f x.2.2); rw [hf], rfl, rfl, rfl, rfl⟩
  · rw [if_neg (by omega), if_neg (by omega), if_neg (by omega), if_neg (by omega)]
    exact ⟨rfl, by show zSq q.D (zCl q.gi q.ix x.2.2) = zSq q.D (f x.2.2); rw [hf], rfl, rfl, rfl, rfl⟩
theorem tA2_1 {C : List Nat} {lk : LK} {lz : LZ} {le d j k i : Nat} {f : DnE → DnS} {r : VS} (e : tA2 X C lk lz le d j k i f = some r) : (lk (X.nm j)).1 = k := by
  unfold tA2 at e
  obtain ⟨_, -, e⟩ := obn e
  obtain ⟨x, -, e⟩ := obn e
  obtain ⟨_, -, e⟩ := obn e
  by_cases ok : lk (X.nm j) = (k, x.2.1)
  · rw [ok]
  · rw [if_neg ok] at e; cases e
theorem asK {J : Nat} (hJ : X.kd J = 1 ∨ X.kd J = 2) {lk : LK} {le d j g1 g3 : Nat} {g2 : List Nat} {bl : List (Nat × LK)} {s : SI} {q : ODq} {r : VS} (e : tAs X q.C lk q.lz le d j = some r) (hjJ : j ≤ J) : d ≤ 60 ∧ (j < r.1 ∧ r.1 ≤ J) ∧ ∃ a1 a2 a3 q', QSt q q' r.2.1.2 (zSq q.D r.2.2.2) ∧ ∀ z, EndK X z ⟨1, r.1, d, [], [], ⟨a1, a2, a3, bl, r.2.1.1, r.2.2.1, s⟩⟩ [] [] q' → EndK X z ⟨1, j, d, [], [], ⟨g1, g2, g3, bl, lk, le, s⟩⟩ [] [] q := by
  unfold tAs at e
  obtain ⟨_, n1, e⟩ := obn e
  have hk := (ndK n1).1
  have hj1 := nxJ hJ hjJ (by omega) (by omega)
  have st : aSp X ⟨1, j, d, [], [], ⟨g1, g2, g3, bl, lk, le, s⟩⟩ = if X.kd (j + 1) = 91 then (if (lk (X.nm j)).1 = 2 ∧ d < 60 then some ⟨2, j + 2, d + 1, [], [], ⟨1, g2, (lk (X.nm j)).2, bl, lk, le, s⟩⟩ else none) else if (lk (X.nm j)).1 = 1 ∧ X.kd (j + 1) = 61 then some ⟨2, j + 2, d, [], [], ⟨2, g2, (lk (X.nm j)).2, bl, lk, le, s⟩⟩ else none := by
    show aSt X j d _ = _
    unfold aSt
    rw [if_neg (by omega), if_pos hk]
  have kt : kSp X ⟨1, j, d, [], [], ⟨g1, g2, g3, bl, lk, le, s⟩⟩ [] [] q = ([], [], ODq.mk q.lz q.bz q.D q.ch (q.lz (X.nm j)) q.ix q.C q.lt q.B) := by
    show ([], [], kSt X j ⟨g1, g2, g3, bl, lk, le, s⟩ q) = _
    unfold kSt
    rw [if_pos hk]
  by_cases c : X.kd (j + 1) = 91
  rotate_left
  · rw [if_neg c] at e st
    have l1 := tA2_1 e
    obtain ⟨k61, d0, ⟨a1, a2⟩, a3, a4, q', Q, a5⟩ := a2K hJ (o := ⟨2, g2, (lk (X.nm j)).2, bl, lk, le, s⟩) (q := ODq.mk q.lz q.bz q.D q.ch (q.lz (X.nm j)) q.ix q.C q.lt q.B) rfl (Or.inl ⟨rfl, rfl, fun _ => rfl⟩) (by rw [← l1]) hj1 e
    rw [if_pos ⟨l1, k61⟩] at st
    refine ⟨d0, ⟨by omega, a2⟩, 2, g2, (lk (X.nm j)).2, q', ?_, fun z hz => EndK.go st kt (a5 z ?_)⟩
    · rw [a3]; exact Q
    · rw [a3, a4] at hz; exact hz
  rw [if_pos c] at e st
  obtain ⟨_, -, e⟩ := obn e
  obtain ⟨x, e1, e⟩ := obn e
  obtain ⟨_, n2, e⟩ := obn e
  have l2 := tA2_1 e
  have t2 := (ndK n2).1
  have d60 : d < 60 := by have := (ndK n2).2; omega
  rw [if_pos ⟨l2, d60⟩] at st
  have hj2 : j + 2 ≤ J := nxJ hJ (j := j + 1) hj1 (by omega) (by omega)
  obtain ⟨-, ⟨b1, b2⟩, ⟨c1, c2, c3⟩, k1⟩ := e8K hJ (o := ⟨1, g2, (lk (X.nm j)).2, bl, lk, le, s⟩) (q := ODq.mk q.lz q.bz q.D q.ch (q.lz (X.nm j)) q.ix q.C q.lt q.B) e1 hj2
  have c2 : lvq (X.kd x.1) ≤ 0 := c2 (by omega)
  have h1 := nxJ hJ b2 (by omega) (by omega)
  obtain ⟨k61, d0, ⟨a1, a2⟩, a3, a4, q', Q, a5⟩ := a2K hJ (o := ⟨3, g2, (lk (X.nm j)).2, bl, lk, le, s⟩) (q := ODq.mk q.lz q.bz q.D q.ch (q.lz (X.nm j)) x.2.2 q.C q.lt q.B) rfl (Or.inr ⟨rfl, rfl, fun _ => rfl⟩) (by rw [← l2]) h1 e
  have s2 := finA (d := d + 1) (w := x.2.1) (o := ⟨1, g2, (lk (X.nm j)).2, bl, lk, le, s⟩) (c1 (by omega)) (c3 rfl) (by omega)
  have s3 : aFi X x.1 (d + 1) [x.2.1] ⟨1, g2, (lk (X.nm j)).2, bl, lk, le, s⟩ = if X.kd x.1 = 93 ∧ X.kd (x.1 + 1) = 61 then some ⟨2, x.1 + 2, d, [], [], ⟨3, g2, (lk (X.nm j)).2, bl, lk, le, s⟩⟩ else none := rfl
  rw [if_pos ⟨t2, k61⟩] at s3
  have k2 := finK (d := d + 1) (w := x.2.1) (o := ⟨1, g2, (lk (X.nm j)).2, bl, lk, le, s⟩) (D := x.2.2) (q := ODq.mk q.lz q.bz q.D q.ch (q.lz (X.nm j)) q.ix q.C q.lt q.B) (c1 (by omega)) (c3 rfl) (by omega)
  refine ⟨d0, ⟨by omega, a2⟩, 3, g2, (lk (X.nm j)).2, q', ?_, fun z hz => EndK.go st kt (k1 z (EndK.go (s2.trans s3) k2 (a5 z ?_)))⟩
  · rw [a3]; exact Q
  · rw [a3, a4] at hz; exact hz
end KC
/-- A at a block, a statement, an if, as T reads them -/
def IKS (X : TX) (J n : Nat) : Prop :=
  (∀ (lk : LK) (le d j g1 g3 : Nat) (g2 : List Nat) (k : Nat) (bl : List (Nat × LK)) (s : SI) (q : ODq) (r : VS), tS X q.C n 0 lk q.lz le d j = some r → j ≤ J → q.D = zSk →
    X.kd j = 123 ∧ d < 60 ∧ r.2.1 = (lk, q.lz) ∧ ∃ e a1 a2 a3 lke q', r.1 = e + 1 ∧ X.kd e = 125 ∧ j < e ∧ e + 1 ≤ J ∧ (q'.D = r.2.2.2 ∧ q'.bz = q.bz ∧ q'.C = q.C ∧ q'.lt = q.lt ∧ q'.B = q.B) ∧ ∀ z, EndK X z ⟨1, e, d + 1, [], [], ⟨a1, a2, a3, (k, lk) :: bl, lke, r.2.2.1, s⟩⟩ [] [] q' → EndK X z ⟨1, j + 1, d + 1, [], [], ⟨g1, g2, g3, (k, lk) :: bl, lk, le, s⟩⟩ [] [] q) ∧
  (∀ (lk : LK) (le d j g1 g3 : Nat) (g2 : List Nat) (bl : List (Nat × LK)) (s : SI) (q : ODq) (r : VS), tS X q.C n 1 lk q.lz le d j = some r → j ≤ J →
    d ≤ 60 ∧ (j < r.1 ∧ r.1 ≤ J) ∧ ∃ a1 a2 a3 q', QSt q q' r.2.1.2 (zSq q.D r.2.2.2) ∧ ∀ z, EndK X z ⟨1, r.1, d, [], [], ⟨a1, a2, a3, bl, r.2.1.1, r.2.2.1, s⟩⟩ [] [] q' → EndK X z ⟨1, j, d, [], [], ⟨g1, g2, g3, bl, lk, le, s⟩⟩ [] [] q) ∧
  (∀ (lk : LK) (le d j g3 : Nat) (g2 : List Nat) (bl : List (Nat × LK)) (s : SI) (q : ODq) (r : VS), tS X q.C n 2 lk q.lz le d j = some r → j ≤ J → X.kd j = 209 → q.ch = (fun e => e) →
    d ≤ 60 ∧ (j < r.1 ∧ r.1 ≤ J) ∧ ∃ a1 a2 a3 q', QSt q q' r.2.1.2 (zSq q.D r.2.2.2) ∧ ∀ z, EndK X z ⟨1, r.1, d, [], [], ⟨a1, a2, a3, bl, r.2.1.1, r.2.2.1, s⟩⟩ [] [] q' → EndK X z ⟨2, j + 1, d, [], [], ⟨4, g2, g3, bl, lk, le, s⟩⟩ [] [] q)
section KD
variable {X : TX} {J : Nat} {n : Nat}
theorem klK (hJ : X.kd J = 1 ∨ X.kd J = 2) (IH : IKS X J n) {lk0 : LK} {lz0 : LZ} {d j0 k0 : Nat} {bl : List (Nat × LK)} {s : SI} {c0 : CfA} {q0 : ODq} {r : VS} : ∀ (k : Nat) (lk : LK) (lz : LZ) (le j g1 g3 : Nat) (g2 : List Nat) (D : DnS) (q : ODq), j0 < j → j ≤ J → q.lz = lz → (q.D = D ∧ q.bz = q0.bz ∧ q.C = q0.C ∧ q.lt = q0.lt ∧ q.B = q0.B) → (∀ z, EndK X z ⟨1, j, d + 1, [], [], ⟨g1, g2, g3, (k0, lk0) :: bl, lk, le, s⟩⟩ [] [] q → EndK X z c0 [] [] q0) → tKL X (tS X q0.C n) d lk0 lz0 k lk lz le j D = some r →
    d < 60 ∧ r.2.1 = (lk0, lz0) ∧ ∃ e a1 a2 a3 lke q', r.1 = e + 1 ∧ X.kd e = 125 ∧ j0 < e ∧ e + 1 ≤ J ∧ (q'.D = r.2.2.2 ∧ q'.bz = q0.bz ∧ q'.C = q0.C ∧ q'.lt = q0.lt ∧ q'.B = q0.B) ∧ ∀ z, EndK X z ⟨1, e, d + 1, [], [], ⟨a1, a2, a3, (k0, lk0) :: bl, lke, r.2.2.1, s⟩⟩ [] [] q' → EndK X z c0 [] [] q0 := by
  intro k
  induction k with
  | zero => intro lk lz le j g1 g3 g2 D q _ _ _ _ _ e; cases e
  | succ k ih =>
    intro lk lz le j g1 g3 g2 D q hj0 hjJ hlz hq cont e
    unfold tKL at e
    by_cases c : X.kd j = 125
    · rw [if_pos c] at e
      obtain ⟨_, g0, e⟩ := obn e
      obtain rfl := Option.some.inj e
      have := ps_d (gdS g0)
      exact ⟨by omega, rfl, j, g1, g2, g3, lk, q, rfl, c, hj0, nxJ hJ hjJ (by omega) (by omega), hq, cont⟩
    · rw [if_neg c] at e
      obtain ⟨x, e1, e⟩ := obn e
      obtain ⟨h1, h2, h3, h4, h5⟩ := hq
      rw [← h3, ← hlz] at e1
      obtain ⟨-, ⟨b1, b2⟩, a1, a2, a3, q', ⟨p1, p2, p3, p4, p5, p6⟩, k1⟩ := IH.2.1 lk le (d + 1) j g1 g3 g2 ((k0, lk0) :: bl) s q x e1 hjJ
      exact ih x.2.1.1 x.2.1.2 x.2.2.1 x.1 a1 a3 a2 _ q' (by omega) b2 p1 ⟨by rw [p2, h1], p3.trans h2, p4.trans h3, p5.trans h4, p6.trans h5⟩ (fun z hz => cont z (k1 z hz)) e
theorem bkK (hJ : X.kd J = 1 ∨ X.kd J = 2) (IH : IKS X J n) {lk : LK} {le d j g1 g3 : Nat} {g2 : List Nat} {k : Nat} {bl : List (Nat × LK)} {s : SI} {q : ODq} {r : VS} (e : tBk X (tS X q.C n) lk q.lz le d j = some r) (hjJ : j ≤ J) (hD : q.D = zSk) :
    X.kd j = 123 ∧ d < 60 ∧ r.2.1 = (lk, q.lz) ∧ ∃ e a1 a2 a3 lke q', r.1 = e + 1 ∧ X.kd e = 125 ∧ j < e ∧ e + 1 ≤ J ∧ (q'.D = r.2.2.2 ∧ q'.bz = q.bz ∧ q'.C = q.C ∧ q'.lt = q.lt ∧ q'.B = q.B) ∧ ∀ z, EndK X z ⟨1, e, d + 1, [], [], ⟨a1, a2, a3, (k, lk) :: bl, lke, r.2.2.1, s⟩⟩ [] [] q' → EndK X z ⟨1, j + 1, d + 1, [], [], ⟨g1, g2, g3, (k, lk) :: bl, lk, le, s⟩⟩ [] [] q := by
  unfold tBk at e
  obtain ⟨_, n1, e⟩ := obn e
  have hk := (ndK n1).1
  obtain ⟨d60, h1, h2⟩ := klK hJ IH (j0 := j) (k0 := k) (bl := bl) (s := s) (c0 := ⟨1, j + 1, d + 1, [], [], ⟨g1, g2, g3, (k, lk) :: bl, lk, le, s⟩⟩) (q0 := q) 200000 lk q.lz le (j + 1) g1 g3 g2 zSk q (by omega) (nxJ hJ hjJ (by omega) (by omega)) rfl ⟨hD, rfl, rfl, rfl, rfl⟩ (fun z hz => hz) e
  exact ⟨hk, d60, h1, h2⟩
theorem ilK (hJ : X.kd J = 1 ∨ X.kd J = 2) (IH : IKS X J n) {lk : LK} {d j0 : Nat} {bl : List (Nat × LK)} {s : SI} {c0 : CfA} {q0 : ODq} {r : VS} : ∀ (k le j g3 : Nat) (g2 : List Nat) (ch : DnS → DnS) (q : ODq), j0 ≤ j → j ≤ J → X.kd j = 209 → q.ch = ch → QSt q0 q q0.lz q0.D → (∀ z, EndK X z ⟨2, j + 1, d, [], [], ⟨4, g2, g3, bl, lk, le, s⟩⟩ [] [] q → EndK X z c0 [] [] q0) → tIL X q0.C (tS X q0.C n) d lk q0.lz k le j ch = some r →
    d ≤ 60 ∧ (j0 < r.1 ∧ r.1 ≤ J) ∧ ∃ a1 a2 a3 q', QSt q0 q' r.2.1.2 (zSq q0.D r.2.2.2) ∧ ∀ z, EndK X z ⟨1, r.1, d, [], [], ⟨a1, a2, a3, bl, r.2.1.1, r.2.2.1, s⟩⟩ [] [] q' → EndK X z c0 [] [] q0 := by
  intro k
  induction k with
  | zero => intro le j g3 g2 ch q _ _ _ _ _ _ e; cases e
  | succ k ih =>
    intro le j g3 g2 ch q hj0 hjJ hif hch hq cont e
    obtain ⟨v1, v2, v3, v4, v5, v6⟩ := hq
    unfold tIL at e
    obtain ⟨_, -, e⟩ := obn e
    obtain ⟨x, e1, e⟩ := obn e
    obtain ⟨_, g1', e⟩ := obn e
    obtain ⟨t, e2, e⟩ := obn e
    have w1 : x.2.1 = 1 := Nat.eq_of_beq_eq_true (gdS g1')
    have h1 := nxJ hJ hjJ (by omega) (by omega)
    rw [← v4, ← v1] at e1
    obtain ⟨d0, ⟨b1, b2⟩, ⟨c1, c2, c3⟩, k1⟩ := e8K hJ (o := ⟨4, g2, g3, bl, lk, le, s⟩) (q := q) e1 h1
    have c2 : lvq (X.kd x.1) ≤ 0 := c2 (by omega)
    have k2 := finK (d := d) (w := x.2.1) (o := ⟨4, g2, g3, bl, lk, le, s⟩) (D := x.2.2) (q := q) (c1 (by omega)) (c3 rfl) (by omega)
    have k2 : kSp X ⟨3, x.1, d, [], [x.2.1], ⟨4, g2, g3, bl, lk, le, s⟩⟩ [x.2.2] [] q = ([], [], ODq.mk q.lz ((q.lz, q.D, q.ch, x.2.2) :: q.bz) zSk q.ch q.gi q.ix q.C q.lt q.B) := k2
    rw [← v4, ← v1] at e2
    obtain ⟨k123, d60, f1, e', a1, a2, a3, lke, q', f2, f3, f4, f5, ⟨p1, p2, p3, p4, p5⟩, kb⟩ := IH.1 lk le d x.1 4 g3 g2 209 bl s (ODq.mk q.lz ((q.lz, q.D, q.ch, x.2.2) :: q.bz) zSk q.ch q.gi q.ix q.C q.lt q.B) t e2 b2 rfl
    have s2 := finA (d := d) (w := x.2.1) (o := ⟨4, g2, g3, bl, lk, le, s⟩) (c1 (by omega)) (c3 rfl) (by omega)
    have s3 : aFi X x.1 d [x.2.1] ⟨4, g2, g3, bl, lk, le, s⟩ = if x.2.1 = 1 ∧ d < 60 ∧ X.kd x.1 = 123 then some ⟨1, x.1 + 1, d + 1, [], [], ⟨4, g2, g3, (209, lk) :: bl, lk, le, s⟩⟩ else none := rfl
    rw [if_pos ⟨w1, d60, k123⟩] at s3
    have toB : ∀ z, EndK X z ⟨1, e', d + 1, [], [], ⟨a1, a2, a3, (209, lk) :: bl, lke, t.2.2.1, s⟩⟩ [] [] q' → EndK X z c0 [] [] q0 := fun z hz => cont z (k1 z (EndK.go (s2.trans s3) k2 (kb z hz)))
    have hd1 : d + 1 - 1 = d := Nat.add_sub_cancel d 1
    have st : aSp X ⟨1, e', d + 1, [], [], ⟨a1, a2, a3, (209, lk) :: bl, lke, t.2.2.1, s⟩⟩ = if X.kd (e' + 1) = 210 then (if X.kd (e' + 2) = 209 then some ⟨2, e' + 3, d, [], [], ⟨4, a2, a3, bl, lk, t.2.2.1, s⟩⟩ else if X.kd (e' + 2) = 123 then some ⟨1, e' + 3, d + 1, [], [], ⟨a1, a2, a3, (210, lk) :: bl, lk, t.2.2.1, s⟩⟩ else none) else some ⟨1, e' + 1, d, [], [], ⟨a1, a2, a3, bl, lk, t.2.2.1, s⟩⟩ := by
      show aSt X e' (d + 1) _ = _
      unfold aSt
      rw [if_neg (by omega), if_neg (by omega), if_neg (by omega), if_neg (by omega), if_pos f3, hd1]
      show (if 209 = 206 then _ else if 209 = 209 ∧ X.kd (e' + 1) = 210 then _ else _) = _
      rw [if_neg (by decide)]
      by_cases z : X.kd (e' + 1) = 210
      · rw [if_pos ⟨rfl, z⟩, if_pos z]
      · rw [if_neg (fun y => z y.2), if_neg z]
    have hbz : q'.bz = (q.lz, q.D, q.ch, x.2.2) :: q.bz := p2
    have kt : kSp X ⟨1, e', d + 1, [], [], ⟨a1, a2, a3, (209, lk) :: bl, lke, t.2.2.1, s⟩⟩ [] [] q' = ([], [], if X.kd (e' + 1) = 210 then (if X.kd (e' + 2) = 209 then ODq.mk q.lz q.bz q.D (fun f => q.ch (zIf x.2.2 q'.D f)) q'.gi q'.ix q'.C q'.lt q'.B else ODq.mk q.lz ((q.lz, q.D, (fun f => q.ch (zIf x.2.2 q'.D f)), dN) :: q.bz) zSk q'.ch q'.gi q'.ix q'.C q'.lt q'.B) else ODq.mk q.lz q.bz (zSq q.D (q.ch (zIf x.2.2 q'.D zSk))) q'.ch q'.gi q'.ix q'.C q'.lt q'.B) := by
      show ([], [], kSt X e' ⟨a1, a2, a3, (209, lk) :: bl, lke, t.2.2.1, s⟩ q') = _
      unfold kSt
      rw [if_neg (by omega), if_neg (by omega), if_neg (by omega), if_pos f3]
      show ([], [], kCl X e' 209 q') = _
      unfold kCl
      rw [hbz]
      show ([], [], (if 209 = 206 then _ else if 209 = 209 ∧ X.kd (e' + 1) = 210 then _ else if 209 = 209 then _ else _)) = _
      rw [if_neg (by decide)]
      by_cases z : X.kd (e' + 1) = 210
      · rw [if_pos ⟨rfl, z⟩, if_pos z]
      · rw [if_neg (fun y => z y.2), if_neg z, if_pos rfl]
    rw [p1] at kt
    rw [f2] at e
    by_cases c210 : X.kd (e' + 1) = 210
    rotate_left
    · rw [if_neg c210] at e st kt
      obtain rfl := Option.some.inj e
      refine ⟨d0, ⟨by show j0 < e' + 1; omega, f5⟩, a1, a2, a3, ODq.mk q.lz q.bz (zSq q.D (q.ch (zIf x.2.2 t.2.2.2 zSk))) q'.ch q'.gi q'.ix q'.C q'.lt q'.B, ⟨v1, ?_, v3, p3.trans v4, p4.trans v5, p5.trans v6⟩, fun z hz => toB z (EndK.go st kt hz)⟩
      show zSq q.D (q.ch (zIf x.2.2 t.2.2.2 zSk)) = zSq q0.D (ch (zIf x.2.2 t.2.2.2 zSk))
      rw [v2, hch]
    rw [if_pos c210] at e st kt
    obtain ⟨_, -, e⟩ := obn e
    have h2 := nxJ hJ f5 (by omega) (by omega)
    by_cases c209 : X.kd (e' + 2) = 209
    · rw [show e' + 1 + 1 = e' + 2 from rfl, if_pos c209] at e
      rw [if_pos c209] at st kt
      refine ih t.2.2.1 (e' + 2) a3 a2 (fun f => q.ch (zIf x.2.2 t.2.2.2 f)) (ODq.mk q.lz q.bz q.D (fun f => q.ch (zIf x.2.2 t.2.2.2 f)) q'.gi q'.ix q'.C q'.lt q'.B) (by omega) h2 c209 rfl ⟨v1, v2, v3, p3.trans v4, p4.trans v5, p5.trans v6⟩ (fun z hz => toB z (EndK.go st kt hz)) ?_
      rw [← hch] at e
      exact e
    · rw [show e' + 1 + 1 = e' + 2 from rfl, if_neg c209] at e
      rw [if_neg c209] at st kt
      obtain ⟨u, e3, e⟩ := obn e
      obtain rfl := Option.some.inj e
      have e3 : tS X (ODq.mk q.lz ((q.lz, q.D, (fun f => q.ch (zIf x.2.2 t.2.2.2 f)), dN) :: q.bz) zSk q'.ch q'.gi q'.ix q'.C q'.lt q'.B).C n 0 lk (ODq.mk q.lz ((q.lz, q.D, (fun f => q.ch (zIf x.2.2 t.2.2.2 f)), dN) :: q.bz) zSk q'.ch q'.gi q'.ix q'.C q'.lt q'.B).lz t.2.2.1 d (e' + 2) = some u := by
        show tS X q'.C n 0 lk q.lz t.2.2.1 d (e' + 2) = some u
        rw [p3.trans v4, v1]; exact e3
      obtain ⟨k2123, -, m1, e'', w1', w2', w3', lkf, q'', m2, m3, m4, m5, ⟨y1, y2, y3, y4, y5⟩, kc⟩ := IH.1 lk t.2.2.1 d (e' + 2) a1 a3 a2 210 bl s (ODq.mk q.lz ((q.lz, q.D, (fun f => q.ch (zIf x.2.2 t.2.2.2 f)), dN) :: q.bz) zSk q'.ch q'.gi q'.ix q'.C q'.lt q'.B) u e3 h2 rfl
      rw [if_pos k2123] at st
      have st2 : aSp X ⟨1, e'', d + 1, [], [], ⟨w1', w2', w3', (210, lk) :: bl, lkf, u.2.2.1, s⟩⟩ = some ⟨1, e'' + 1, d, [], [], ⟨w1', w2', w3', bl, lk, u.2.2.1, s⟩⟩ := by
        show aSt X e'' (d + 1) _ = _
        unfold aSt
        rw [if_neg (by omega), if_neg (by omega), if_neg (by omega), if_neg (by omega), if_pos m3, hd1]
        show (if 210 = 206 then _ else if 210 = 209 ∧ X.kd (e'' + 1) = 210 then _ else _) = _
        rw [if_neg (by decide), if_neg (by simp [MkA.k, MkA.c, MkA.q])]
      have hbz2 : q''.bz = (q.lz, q.D, (fun f => q.ch (zIf x.2.2 t.2.2.2 f)), dN) :: q.bz := y2
      have kt2 : kSp X ⟨1, e'', d + 1, [], [], ⟨w1', w2', w3', (210, lk) :: bl, lkf, u.2.2.1, s⟩⟩ [] [] q'' = ([], [], ODq.mk q.lz q.bz (zSq q.D (q.ch (zIf x.2.2 t.2.2.2 q''.D))) q''.ch q''.gi q''.ix q''.C q''.lt q''.B) := by
        show ([], [], kSt X e'' ⟨w1', w2', w3', (210, lk) :: bl, lkf, u.2.2.1, s⟩ q'') = _
        unfold kSt
        rw [if_neg (by omega), if_neg (by omega), if_neg (by omega), if_pos m3]
        show ([], [], kCl X e'' 210 q'') = _
        unfold kCl
        rw [hbz2]
        show ([], [], (if 210 = 206 then _ else if 210 = 209 ∧ X.kd (e'' + 1) = 210 then _ else if 210 = 209 then _ else _)) = _
        rw [if_neg (by decide), if_neg (by simp [MkA.k, MkA.c, MkA.q]), if_neg (by decide)]
      rw [y1] at kt2
      refine ⟨d0, ⟨by show j0 < u.1; omega, by show u.1 ≤ J; omega⟩, w1', w2', w3', ODq.mk q.lz q.bz (zSq q.D (q.ch (zIf x.2.2 t.2.2.2 u.2.2.2))) q''.ch q''.gi q''.ix q''.C q''.lt q''.B, ⟨v1, ?_, v3, y3.trans (p3.trans v4), y4.trans (p4.trans v5), y5.trans (p5.trans v6)⟩, fun z hz => toB z (EndK.go st kt (kc z (EndK.go st2 kt2 ?_)))⟩
      · show zSq q.D (q.ch (zIf x.2.2 t.2.2.2 u.2.2.2)) = zSq q0.D (ch (zIf x.2.2 t.2.2.2 u.2.2.2))
        rw [v2, hch]
      · have hz : EndK X z ⟨1, u.1, d, [], [], ⟨w1', w2', w3', bl, lk, u.2.2.1, s⟩⟩ [] [] (ODq.mk q.lz q.bz (zSq q.D (q.ch (zIf x.2.2 t.2.2.2 u.2.2.2))) q''.ch q''.gi q''.ix q''.C q''.lt q''.B) := hz
        rw [m2] at hz
        exact hz
end KD
theorem tS_0 (X : TX) (C : List Nat) (n : Nat) (lk : LK) (lz : LZ) (le d j : Nat) : tS X C (n + 1) 0 lk lz le d j = tBk X (tS X C n) lk lz le d j := by rw [tS]; rfl
theorem tS_1 (X : TX) (C : List Nat) (n : Nat) (lk : LK) (lz : LZ) (le d j : Nat) : tS X C (n + 1) 1 lk lz le d j = tSm X C (tS X C n) lk lz le d j := by rw [tS]; rfl
theorem tS_2 (X : TX) (C : List Nat) (n : Nat) (lk : LK) (lz : LZ) (le d j : Nat) : tS X C (n + 1) 2 lk lz le d j = tIs X C (tS X C n) lk lz le d j := by rw [tS]; rfl
theorem sKK {X : TX} {J : Nat} (hJ : X.kd J = 1 ∨ X.kd J = 2) : ∀ n, IKS X J n := by
  intro n
  induction n with
  | zero => exact ⟨fun lk le d j g1 g3 g2 k bl s q r e => (by cases e), fun lk le d j g1 g3 g2 bl s q r e => (by cases e), fun lk le d j g3 g2 bl s q r e => (by cases e)⟩
  | succ n IH =>
    refine ⟨fun lk le d j g1 g3 g2 k bl s q r e hjJ hD => bkK hJ IH (by rw [tS_0] at e; exact e) hjJ hD, fun lk le d j g1 g3 g2 bl s q r e hjJ => ?_, fun lk le d j g3 g2 bl s q r e hjJ hk hch => ?_⟩
    · rw [tS_1] at e
      unfold tSm at e
      by_cases k7 : X.kd j = 207
      · rw [if_pos k7] at e; exact ltK hJ e hjJ k7
      rw [if_neg k7] at e
      by_cases k8 : X.kd j = 208
      · rw [if_pos k8] at e; exact trK hJ e hjJ k8
      rw [if_neg k8] at e
      by_cases k9 : X.kd j = 209
      · rw [if_pos k9] at e
        have st : aSp X ⟨1, j, d, [], [], ⟨g1, g2, g3, bl, lk, le, s⟩⟩ = some ⟨2, j + 1, d, [], [], ⟨4, g2, g3, bl, lk, le, s⟩⟩ := by
          show aSt X j d _ = _
          unfold aSt
          rw [if_neg (by omega), if_neg (by omega), if_neg (by omega), if_pos k9]
        have kt : kSp X ⟨1, j, d, [], [], ⟨g1, g2, g3, bl, lk, le, s⟩⟩ [] [] q = ([], [], ODq.mk q.lz q.bz q.D (fun e => e) q.gi q.ix q.C q.lt q.B) := by
          show ([], [], kSt X j ⟨g1, g2, g3, bl, lk, le, s⟩ q) = _
          unfold kSt
          rw [if_neg (by omega), if_neg (by omega), if_pos k9]
        obtain ⟨d0, b, a1, a2, a3, q', Q, k1⟩ := IH.2.2 lk le d j g3 g2 bl s (ODq.mk q.lz q.bz q.D (fun e => e) q.gi q.ix q.C q.lt q.B) r e hjJ k9 rfl
        exact ⟨d0, b, a1, a2, a3, q', Q, fun z hz => EndK.go st kt (k1 z hz)⟩
      rw [if_neg k9] at e
      exact asK hJ e hjJ
    · rw [tS_2] at e
      unfold tIs at e
      exact ilK hJ IH (j0 := j) (c0 := ⟨2, j + 1, d, [], [], ⟨4, g2, g3, bl, lk, le, s⟩⟩) (q0 := q) 200000 le j g3 g2 _ q (Nat.le_refl _) hjJ hk hch ⟨rfl, rfl, rfl, rfl, rfl, rfl⟩ (fun z hz => hz) e
/-! items -/
section KE
variable {X : TX} {J : Nat}
/-- a THING more -/
theorem nwK {s : SI} {i k w n j' : Nat} {z : Bool} {p : Nat × SI} {g1 g3 le : Nat} {g2 : List Nat} {lk : LK} (e : sNw X s i k w n z j' = some p) : p.1 = j' ∧ aNw X ⟨g1, g2, g3, [], lk, le, s⟩ i k w n z j' = some ⟨0, p.1, 0, [], [], ⟨g1, g2, g3, [], lk, le, p.2⟩⟩ := by
  unfold sNw at e
  by_cases c : (s.lk (X.nm i)).1 = 0 ∧ s.tl.length < 64 ∧ s.cells + n ≤ 65536
  rotate_left
  · rw [if_neg c] at e; cases e
  rw [if_pos c] at e
  obtain rfl := Option.some.inj e
  refine ⟨rfl, ?_⟩
  unfold aNw
  rw [if_pos (show ((OuA.mk g1 g2 g3 [] lk le s).s.lk (X.nm i)).1 = 0 ∧ (OuA.mk g1 g2 g3 [] lk le s).s.tl.length < 64 ∧ (OuA.mk g1 g2 g3 [] lk le s).s.cells + n ≤ 65536 from c)]
/-- an item that is no op -/
theorem itK (hJ : X.kd J = 1 ∨ X.kd J = 2) {j g1 g3 le : Nat} {g2 : List Nat} {lk : LK} {s : SI} {p : Nat × SI} (hjJ : j ≤ J) (h206 : ¬ X.kd j = 206) (e : sIt X s j = some p) : (j < p.1 ∧ p.1 ≤ J) ∧ aSp X ⟨0, j, 0, [], [], ⟨g1, g2, g3, [], lk, le, s⟩⟩ = some ⟨0, p.1, 0, [], [], ⟨g1, g2, g3, [], lk, le, p.2⟩⟩ := by
  unfold sIt at e
  by_cases k1 : X.kd j = 201
  · rw [if_pos k1] at e
    unfold sRg at e
    obtain ⟨_, -, e⟩ := obn e
    obtain ⟨_, n1, e⟩ := obn e
    obtain ⟨_, n2, e⟩ := obn e
    obtain ⟨_, n3, e⟩ := obn e
    obtain ⟨_, n4, e⟩ := obn e
    have q1 := (ndK n1).1
    have q2 := (ndK n2).1
    have q3 := (ndK n3).1
    have q4 := (ndK n4).1
    by_cases z : 1 ≤ X.nu (j + 3) ∧ X.nu (j + 3) ≤ 64
    rotate_left
    · rw [if_neg z] at e; cases e
    rw [if_pos z] at e
    have h1 := nxJ hJ hjJ (by omega) (by omega)
    have h2 := nxJ hJ (j := j + 1) h1 (by omega) (by omega)
    have h3 := nxJ hJ (j := j + 2) h2 (by omega) (by omega)
    have h4 := nxJ hJ (j := j + 3) h3 (by omega) (by omega)
    have h5 := nxJ hJ (j := j + 4) h4 (by omega) (by omega)
    obtain ⟨e1, e2⟩ := nwK (g1 := g1) (g2 := g2) (g3 := g3) (le := le) (lk := lk) e
    refine ⟨⟨by omega, by omega⟩, ?_⟩
    show aIt X j _ = _
    unfold aIt
    rw [if_pos k1, if_pos ⟨q1, q2, q3, q4, z⟩]
    exact e2
  rw [if_neg k1] at e
  by_cases k2 : X.kd j = 202
  · rw [if_pos k2] at e
    unfold sFi at e
    obtain ⟨_, -, e⟩ := obn e
    obtain ⟨_, n1, e⟩ := obn e
    obtain ⟨_, n2, e⟩ := obn e
    obtain ⟨_, n3, e⟩ := obn e
    obtain ⟨_, n4, e⟩ := obn e
    obtain ⟨_, n5, e⟩ := obn e
    obtain ⟨_, n6, e⟩ := obn e
    have q1 := (ndK n1).1
    have q2 := (ndK n2).1
    have q3 := (ndK n3).1
    have q4 := (ndK n4).1
    have q5 := (ndK n5).1
    have q6 := (ndK n6).1
    have h1 := nxJ hJ hjJ (by omega) (by omega)
    have h2 := nxJ hJ (j := j + 1) h1 (by omega) (by omega)
    have h3 := nxJ hJ (j := j + 2) h2 (by omega) (by omega)
    have h4 := nxJ hJ (j := j + 3) h3 (by omega) (by omega)
    have h5 := nxJ hJ (j := j + 4) h4 (by omega) (by omega)
    have h6 := nxJ hJ (j := j + 5) h5 (by omega) (by omega)
    have h7 := nxJ hJ (j := j + 6) h6 (by omega) (by omega)
    by_cases c : X.kd (j + 7) = 203
    · rw [if_pos c] at e
      obtain ⟨_, -, e⟩ := obn e
      obtain ⟨_, n7, e⟩ := obn e
      have q7 := (ndK n7).1
      by_cases z : (1 ≤ X.nu (j + 3) ∧ X.nu (j + 3) ≤ 64) ∧ 1 ≤ X.nu (j + 5) ∧ X.nu (j + 5) ≤ 65536
      rotate_left
      · rw [if_neg z] at e; cases e
      rw [if_pos z] at e
      have h8 := nxJ hJ (j := j + 7) h7 (by omega) (by omega)
      have h9 := nxJ hJ (j := j + 8) h8 (by omega) (by omega)
      obtain ⟨e1, e2⟩ := nwK (g1 := g1) (g2 := g2) (g3 := g3) (le := le) (lk := lk) e
      refine ⟨⟨by omega, by omega⟩, ?_⟩
      show aIt X j _ = _
      unfold aIt
      rw [if_neg k1, if_pos k2, if_pos ⟨q1, q2, q3, q4, q5, q6, z⟩, if_pos c, if_pos q7]
      exact e2
    · rw [if_neg c] at e
      obtain ⟨_, n7, e⟩ := obn e
      have q7 := (ndK n7).1
      by_cases z : (1 ≤ X.nu (j + 3) ∧ X.nu (j + 3) ≤ 64) ∧ 1 ≤ X.nu (j + 5) ∧ X.nu (j + 5) ≤ 65536
      rotate_left
      · rw [if_neg z] at e; cases e
      rw [if_pos z] at e
      have h8 := nxJ hJ (j := j + 7) h7 (by omega) (by omega)
      obtain ⟨e1, e2⟩ := nwK (g1 := g1) (g2 := g2) (g3 := g3) (le := le) (lk := lk) e
      refine ⟨⟨by omega, by omega⟩, ?_⟩
      show aIt X j _ = _
      unfold aIt
      rw [if_neg k1, if_pos k2, if_pos ⟨q1, q2, q3, q4, q5, q6, z⟩, if_neg c, if_pos q7]
      exact e2
  rw [if_neg k2] at e
  by_cases k3 : X.kd j = 204
  · rw [if_pos k3] at e
    unfold sFe at e
    obtain ⟨_, -, e⟩ := obn e
    obtain ⟨_, n1, e⟩ := obn e
    obtain ⟨_, n2, e⟩ := obn e
    obtain ⟨_, n3, e⟩ := obn e
    obtain ⟨_, n4, e⟩ := obn e
    have q1 := (ndK n1).1
    have q2 := (ndK n2).1
    have q3 := (ndK n3).1
    have q4 := (ndK n4).1
    by_cases z : (s.lk (X.nm (j + 1))).1 = 1 ∧ s.lk (X.nm (j + 3)) = (2, 8) ∧ s.fe = none
    rotate_left
    · rw [if_neg z] at e; cases e
    rw [if_pos z] at e
    obtain rfl := Option.some.inj e
    have h1 := nxJ hJ hjJ (by omega) (by omega)
    have h2 := nxJ hJ (j := j + 1) h1 (by omega) (by omega)
    have h3 := nxJ hJ (j := j + 2) h2 (by omega) (by omega)
    have h4 := nxJ hJ (j := j + 3) h3 (by omega) (by omega)
    have h5 := nxJ hJ (j := j + 4) h4 (by omega) (by omega)
    refine ⟨⟨by show j < j + 5; omega, h5⟩, ?_⟩
    show aIt X j _ = _
    unfold aIt
    rw [if_neg k1, if_neg k2, if_pos k3]
    show (if X.kd (j + 1) = 3 ∧ X.kd (j + 2) = 205 ∧ X.kd (j + 3) = 3 ∧ X.kd (j + 4) = 59 ∧ (s.lk (X.nm (j + 1))).1 = 1 ∧ s.lk (X.nm (j + 3)) = (2, 8) ∧ s.fe = none then _ else _) = _
    rw [if_pos ⟨q1, q2, q3, q4, z⟩]
  rw [if_neg k3, if_neg h206] at e
  cases e
theorem opK (hJ : X.kd J = 1 ∨ X.kd J = 2) {j g1 g3 le : Nat} {g2 : List Nat} {lk : LK} {s : SI} {q : ODq} {r : VI} (e : tOp X s q.lt q.B j = some r) (hjJ : j ≤ J) (hk : X.kd j = 206) : (j < r.1 ∧ r.1 ≤ J) ∧ ∃ a1 a2 a3 lk' le' q', (q'.lt = r.2.2.1 ∧ q'.B = r.2.2.2) ∧ ∀ z, EndK X z ⟨0, r.1, 0, [], [], ⟨a1, a2, a3, [], lk', le', r.2.1⟩⟩ [] [] q' → EndK X z ⟨0, j, 0, [], [], ⟨g1, g2, g3, [], lk, le, s⟩⟩ [] [] q := by
  unfold tOp at e
  obtain ⟨_, -, e⟩ := obn e
  obtain ⟨_, n1, e⟩ := obn e
  obtain ⟨_, n2, e⟩ := obn e
  obtain ⟨_, g0, e⟩ := obn e
  obtain ⟨x, e1, e⟩ := obn e
  obtain rfl := Option.some.inj e
  have q1 := (ndK n1).1
  have q2 := (ndK n2).1
  have g := of_decide_eq_true (gdS g0)
  have h1 := nxJ hJ hjJ (by omega) (by omega)
  have h2 : j + 2 ≤ J := nxJ hJ (j := j + 1) h1 (by omega) (by omega)
  have h3 : j + 3 ≤ J := nxJ hJ (j := j + 2) h2 (by omega) (by omega)
  obtain ⟨k123, -, f1, e', a1, a2, a3, lke, q', f2, f3, f4, f5, ⟨p1, p2, p3, p4, p5⟩, kb⟩ := (sKK hJ 200).1 (lkO s.lk (X.nm (j + 2))) 0 0 (j + 3) g1 g3 g2 206 [] (SI.mk s.bits s.lk s.tl s.cells s.fe (s.ops ++ [(X.nm (j + 1), X.nm (j + 2))])) (ODq.mk (lzO q.lt (X.nm (j + 2))) [(lzO q.lt (X.nm (j + 2)), zSk, (fun e => e), dN)] zSk q.ch q.gi q.ix (X.nm (j + 2)) q.lt q.B) x e1 h3 rfl
  have st : aSp X ⟨0, j, 0, [], [], ⟨g1, g2, g3, [], lk, le, s⟩⟩ = some ⟨1, j + 4, 1, [], [], ⟨g1, g2, g3, [(206, lkO s.lk (X.nm (j + 2)))], lkO s.lk (X.nm (j + 2)), 0, SI.mk s.bits s.lk s.tl s.cells s.fe (s.ops ++ [(X.nm (j + 1), X.nm (j + 2))])⟩⟩ := by
    show aIt X j _ = _
    unfold aIt
    rw [if_neg (by omega), if_neg (by omega), if_neg (by omega), if_pos hk, if_pos ⟨q1, q2, k123, g⟩]
  have kt : kSp X ⟨0, j, 0, [], [], ⟨g1, g2, g3, [], lk, le, s⟩⟩ [] [] q = ([], [], ODq.mk (lzO q.lt (X.nm (j + 2))) [(lzO q.lt (X.nm (j + 2)), zSk, (fun e => e), dN)] zSk q.ch q.gi q.ix (X.nm (j + 2)) q.lt q.B) := by
    show ([], [], kIt X j ⟨g1, g2, g3, [], lk, le, s⟩ q) = _
    unfold kIt
    rw [if_pos hk]
  have st2 : aSp X ⟨1, e', 0 + 1, [], [], ⟨a1, a2, a3, [(206, lkO s.lk (X.nm (j + 2)))], lke, x.2.2.1, SI.mk s.bits s.lk s.tl s.cells s.fe (s.ops ++ [(X.nm (j + 1), X.nm (j + 2))])⟩⟩ = some ⟨0, e' + 1, 0, [], [], ⟨a1, a2, a3, [], lkO s.lk (X.nm (j + 2)), x.2.2.1, SI.mk s.bits s.lk s.tl s.cells s.fe (s.ops ++ [(X.nm (j + 1), X.nm (j + 2))])⟩⟩ := by
    show aSt X e' (0 + 1) _ = _
    unfold aSt
    rw [if_neg (by omega), if_neg (by omega), if_neg (by omega), if_neg (by omega), if_pos f3]
    rfl
  have hbz : q'.bz = [(lzO q.lt (X.nm (j + 2)), zSk, (fun e => e), dN)] := p2
  have kt2 : kSp X ⟨1, e', 0 + 1, [], [], ⟨a1, a2, a3, [(206, lkO s.lk (X.nm (j + 2)))], lke, x.2.2.1, SI.mk s.bits s.lk s.tl s.cells s.fe (s.ops ++ [(X.nm (j + 1), X.nm (j + 2))])⟩⟩ [] [] q' = ([], [], ODq.mk (lzO q.lt (X.nm (j + 2))) [] zSk q'.ch q'.gi q'.ix q'.C q'.lt (q'.B ++ [q'.D])) := by
    show ([], [], kSt X e' _ q') = _
    unfold kSt
    rw [if_neg (by omega), if_neg (by omega), if_neg (by omega), if_pos f3]
    show ([], [], kCl X e' 206 q') = _
    unfold kCl
    rw [hbz]
    rfl
  refine ⟨⟨by show j < x.1; omega, by show x.1 ≤ J; omega⟩, a1, a2, a3, lkO s.lk (X.nm (j + 2)), x.2.2.1, ODq.mk (lzO q.lt (X.nm (j + 2))) [] zSk q'.ch q'.gi q'.ix q'.C q'.lt (q'.B ++ [q'.D]), ⟨p4, ?_⟩, fun z hz => EndK.go st kt (kb z (EndK.go st2 kt2 ?_))⟩
  · show q'.B ++ [q'.D] = q.B ++ [x.2.2.2]
    rw [p1, p5]
  · have hz : EndK X z ⟨0, x.1, 0, [], [], ⟨a1, a2, a3, [], lkO s.lk (X.nm (j + 2)), x.2.2.1, SI.mk s.bits s.lk s.tl s.cells s.fe (s.ops ++ [(X.nm (j + 1), X.nm (j + 2))])⟩⟩ [] [] (ODq.mk (lzO q.lt (X.nm (j + 2))) [] zSk q'.ch q'.gi q'.ix q'.C q'.lt (q'.B ++ [q'.D])) := hz
    rw [f2] at hz
    exact hz
/-- the items: where A ends -/
theorem lpK (hJ : X.kd J = 1 ∨ X.kd J = 2) {r : SI × LZ × List DnS} : ∀ (k j g1 g3 le : Nat) (g2 : List Nat) (lk : LK) (s : SI) (q : ODq), j ≤ J → tLp X k s q.lt q.B j = some r → EndK X r ⟨0, j, 0, [], [], ⟨g1, g2, g3, [], lk, le, s⟩⟩ [] [] q := by
  intro k
  induction k with
  | zero => intro j g1 g3 le g2 lk s q _ e; cases e
  | succ k ih =>
    intro j g1 g3 le g2 lk s q hjJ e
    unfold tLp at e
    by_cases c : X.kd j = 1
    · rw [if_pos c] at e
      exact EndK.fin (c := ⟨0, j, 0, [], [], ⟨g1, g2, g3, [], lk, le, s⟩⟩) ⟨rfl, c⟩ (Option.some.inj e).symm
    rw [if_neg c] at e
    obtain ⟨x, e1, e⟩ := obn e
    unfold tIt at e1
    by_cases h6 : X.kd j = 206
    · rw [if_pos h6] at e1
      obtain ⟨⟨b1, b2⟩, a1, a2, a3, lk', le', q', ⟨p1, p2⟩, k1⟩ := opK hJ (g1 := g1) (g3 := g3) (g2 := g2) (le := le) (lk := lk) e1 hjJ h6
      rw [← p1, ← p2] at e
      exact k1 r (ih x.1 a1 a3 le' a2 lk' x.2.1 q' b2 e)
    · rw [if_neg h6] at e1
      obtain ⟨p, e2, e1⟩ := obn e1
      obtain rfl := Option.some.inj e1
      obtain ⟨⟨b1, b2⟩, st⟩ := itK hJ (g1 := g1) (g3 := g3) (g2 := g2) (le := le) (lk := lk) hjJ h6 e2
      refine EndK.go st rfl (ih p.1 g1 g3 le g2 lk p.2 (kIt X j ⟨g1, g2, g3, [], lk, le, s⟩ q) b2 ?_)
      have e3 : (kIt X j ⟨g1, g2, g3, [], lk, le, s⟩ q).lt = (if X.kd j = 204 then q.lt else updZ q.lt (X.nm (j + 1)) s.tl.length) ∧ (kIt X j ⟨g1, g2, g3, [], lk, le, s⟩ q).B = q.B := by
        unfold kIt
        rw [if_neg h6]
        by_cases h4 : X.kd j = 204
        · rw [if_pos h4, if_pos h4]; exact ⟨rfl, rfl⟩
        · rw [if_neg h4, if_neg h4]; exact ⟨rfl, rfl⟩
      rw [e3.1, e3.2]
      exact e
end KE
