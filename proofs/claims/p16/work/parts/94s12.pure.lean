/-! rows s117 .. s125 -/
/-- widths held for the marks: at most 64, but in a {} -/
def HK : List MkA → List Nat → Prop
  | [], H => H = []
  | m :: M, H => if nHm m = 1 then ∃ w H', H = w :: H' ∧ (¬ m.k = 123 → w ≤ 64) ∧ HK M H' else HK M H
theorem HK.len : ∀ {M : List MkA} {H : List Nat}, HK M H → H.length = nH M := by
  intro M
  induction M with
  | nil => intro H h; have h : H = [] := h; rw [h]; rfl
  | cons m M ih =>
    intro H h
    have h : (if nHm m = 1 then ∃ w H', H = w :: H' ∧ (¬ m.k = 123 → w ≤ 64) ∧ HK M H' else HK M H) := h
    have b : nH (m :: M) = nHm m + nH M := rfl
    by_cases c : nHm m = 1
    · rw [if_pos c] at h
      obtain ⟨w, H', e, -, k⟩ := h
      rw [e, List.length_cons, ih k, b, c]; omega
    · rw [if_neg c] at h
      have c2 : nHm m = 0 := by
        unfold nHm at c ⊢
        split
        · rename_i z; rw [if_pos z] at c; exact absurd rfl c
        · rename_i z
          rw [if_neg z] at c
          split
          · rename_i y; rw [if_pos y] at c; exact absurd rfl c
          · rfl
      rw [ih h, b, c2]; omega
def HW (md : Nat) (M : List MkA) (H : List Nat) : Prop := if md = 3 then ∃ w H', H = w :: H' ∧ w ≤ 64 ∧ HK M H' else HK M H
/-- a mark is well, and a file's width -/
def AMj (j : Nat) (m : MkA) : Prop := AMk j m ∧ (m.k = 91 → m.c ≤ 64)
/-- what an EXPR is for -/
def GoR (X : TX) (J P : Nat) (sy : List Nat → Nat) (h : mv_H) (o : OuA) : Prop := (mv_i h 2 7 = nI o.gl) ∧ (o.gl ≤ 4) ∧ (¬ o.gl = 1 → ∃ t, mv_i h 2 8 = nI t ∧ t < 32770) ∧ (o.gl = 0 → (∃ i, i ≤ J ∧ X.kd i = 3 ∧ X.nm i = o.gn) ∧ mv_i h 2 9 = nI (sy o.gn) ∧ (o.lk o.gn).1 = 0 ∧ o.le < 64) ∧ ((o.gl = 1 ∨ o.gl = 2 ∨ o.gl = 3) → ∃ u, mv_i h 2 9 = nI u ∧ u < o.s.tl.length ∧ mv_a h (P + 1) u = nI o.gw ∧ 0 < o.gw ∧ o.gw ≤ 64)
theorem GoR.g {X : TX} {J P : Nat} {sy : List Nat → Nat} {h : mv_H} {o : OuA} (h99 : GoR X J P sy h o) : mv_i h 2 7 = nI o.gl := h99.1
theorem GoR.g4 {X : TX} {J P : Nat} {sy : List Nat → Nat} {h : mv_H} {o : OuA} (h99 : GoR X J P sy h o) : o.gl ≤ 4 := h99.2.1
theorem GoR.t {X : TX} {J P : Nat} {sy : List Nat → Nat} {h : mv_H} {o : OuA} (h99 : GoR X J P sy h o) : ¬ o.gl = 1 → ∃ t, mv_i h 2 8 = nI t ∧ t < 32770 := h99.2.2.1
theorem GoR.l {X : TX} {J P : Nat} {sy : List Nat → Nat} {h : mv_H} {o : OuA} (h99 : GoR X J P sy h o) : o.gl = 0 → (∃ i, i ≤ J ∧ X.kd i = 3 ∧ X.nm i = o.gn) ∧ mv_i h 2 9 = nI (sy o.gn) ∧ (o.lk o.gn).1 = 0 ∧ o.le < 64 := h99.2.2.2.1
theorem GoR.w {X : TX} {J P : Nat} {sy : List Nat → Nat} {h : mv_H} {o : OuA} (h99 : GoR X J P sy h o) : (o.gl = 1 ∨ o.gl = 2 ∨ o.gl = 3) → ∃ u, mv_i h 2 9 = nI u ∧ u < o.s.tl.length ∧ mv_a h (P + 1) u = nI o.gw ∧ 0 < o.gw ∧ o.gw ≤ 64 := h99.2.2.2.2
/-- the class and A are one -/
def RW (X : TX) (J P : Nat) (sy : List Nat → Nat) (h : mv_H) (c : CfA) (lkB : LK) (C : List Nat) (SC : List (List Nat)) : Prop := (TB X J h) ∧ (P = 32 ∨ P = 48) ∧ (X.kd J = 1 ∨ X.kd J = 2) ∧ (mv_i h 3 7 = nI (c.j + 1)) ∧ (c.j ≤ J) ∧ (mv_i h 3 8 = nI c.d) ∧ (c.d ≤ 60) ∧ (mv_i h 3 9 = -1) ∧ (mv_i h 21 0 = 0) ∧ (∃ z, mv_i h P 17 = nI z ∧ z ≤ 32768) ∧ (mv_i h 2 6 = nI c.md) ∧ (c.md ≤ 3) ∧ (RN X J P sy h c.o.s c.o.bl lkB C SC (if c.md = 0 then 0 else c.o.le)) ∧ (¬ c.md = 0 → (∀ x, c.o.lk x = lkO lkB C x) ∧ ¬ c.o.bl = []) ∧ (c.md = 0 → c.o.bl = [] ∧ C = []) ∧ (c.md = 0 ∨ c.md = 1 → c.M = [] ∧ c.H = []) ∧ (c.d = c.o.bl.length + (if c.o.gl = 1 ∧ ¬ c.md = 0 ∧ ¬ c.md = 1 then 1 else 0) + nD c.M) ∧ (c.md = 2 ∨ c.md = 3 → CXq X J P h c.j c.d c.M c.H ∧ (∀ m, m ∈ c.M → AMj c.j m) ∧ HW c.md c.M c.H ∧ GoR X J P sy h c.o)
theorem RW.tb {X : TX} {J P : Nat} {sy : List Nat → Nat} {h : mv_H} {c : CfA} {lkB : LK} {C : List Nat} {SC : List (List Nat)} (h99 : RW X J P sy h c lkB C SC) : TB X J h := h99.1
theorem RW.pp {X : TX} {J P : Nat} {sy : List Nat → Nat} {h : mv_H} {c : CfA} {lkB : LK} {C : List Nat} {SC : List (List Nat)} (h99 : RW X J P sy h c lkB C SC) : P = 32 ∨ P = 48 := h99.2.1
theorem RW.hJ {X : TX} {J P : Nat} {sy : List Nat → Nat} {h : mv_H} {c : CfA} {lkB : LK} {C : List Nat} {SC : List (List Nat)} (h99 : RW X J P sy h c lkB C SC) : X.kd J = 1 ∨ X.kd J = 2 := h99.2.2.1
theorem RW.at' {X : TX} {J P : Nat} {sy : List Nat → Nat} {h : mv_H} {c : CfA} {lkB : LK} {C : List Nat} {SC : List (List Nat)} (h99 : RW X J P sy h c lkB C SC) : mv_i h 3 7 = nI (c.j + 1) := h99.2.2.2.1
theorem RW.jJ {X : TX} {J P : Nat} {sy : List Nat → Nat} {h : mv_H} {c : CfA} {lkB : LK} {C : List Nat} {SC : List (List Nat)} (h99 : RW X J P sy h c lkB C SC) : c.j ≤ J := h99.2.2.2.2.1
theorem RW.dp {X : TX} {J P : Nat} {sy : List Nat → Nat} {h : mv_H} {c : CfA} {lkB : LK} {C : List Nat} {SC : List (List Nat)} (h99 : RW X J P sy h c lkB C SC) : mv_i h 3 8 = nI c.d := h99.2.2.2.2.2.1
theorem RW.d2 {X : TX} {J P : Nat} {sy : List Nat → Nat} {h : mv_H} {c : CfA} {lkB : LK} {C : List Nat} {SC : List (List Nat)} (h99 : RW X J P sy h c lkB C SC) : c.d ≤ 60 := h99.2.2.2.2.2.2.1
theorem RW.ok {X : TX} {J P : Nat} {sy : List Nat → Nat} {h : mv_H} {c : CfA} {lkB : LK} {C : List Nat} {SC : List (List Nat)} (h99 : RW X J P sy h c lkB C SC) : mv_i h 3 9 = -1 := h99.2.2.2.2.2.2.2.1
theorem RW.no {X : TX} {J P : Nat} {sy : List Nat → Nat} {h : mv_H} {c : CfA} {lkB : LK} {C : List Nat} {SC : List (List Nat)} (h99 : RW X J P sy h c lkB C SC) : mv_i h 21 0 = 0 := h99.2.2.2.2.2.2.2.2.1
theorem RW.sz {X : TX} {J P : Nat} {sy : List Nat → Nat} {h : mv_H} {c : CfA} {lkB : LK} {C : List Nat} {SC : List (List Nat)} (h99 : RW X J P sy h c lkB C SC) : ∃ z, mv_i h P 17 = nI z ∧ z ≤ 32768 := h99.2.2.2.2.2.2.2.2.2.1
theorem RW.md {X : TX} {J P : Nat} {sy : List Nat → Nat} {h : mv_H} {c : CfA} {lkB : LK} {C : List Nat} {SC : List (List Nat)} (h99 : RW X J P sy h c lkB C SC) : mv_i h 2 6 = nI c.md := h99.2.2.2.2.2.2.2.2.2.2.1
theorem RW.m3 {X : TX} {J P : Nat} {sy : List Nat → Nat} {h : mv_H} {c : CfA} {lkB : LK} {C : List Nat} {SC : List (List Nat)} (h99 : RW X J P sy h c lkB C SC) : c.md ≤ 3 := h99.2.2.2.2.2.2.2.2.2.2.2.1
theorem RW.rn {X : TX} {J P : Nat} {sy : List Nat → Nat} {h : mv_H} {c : CfA} {lkB : LK} {C : List Nat} {SC : List (List Nat)} (h99 : RW X J P sy h c lkB C SC) : RN X J P sy h c.o.s c.o.bl lkB C SC (if c.md = 0 then 0 else c.o.le) := h99.2.2.2.2.2.2.2.2.2.2.2.2.1
theorem RW.lk {X : TX} {J P : Nat} {sy : List Nat → Nat} {h : mv_H} {c : CfA} {lkB : LK} {C : List Nat} {SC : List (List Nat)} (h99 : RW X J P sy h c lkB C SC) : ¬ c.md = 0 → (∀ x, c.o.lk x = lkO lkB C x) ∧ ¬ c.o.bl = [] := h99.2.2.2.2.2.2.2.2.2.2.2.2.2.1
theorem RW.m0 {X : TX} {J P : Nat} {sy : List Nat → Nat} {h : mv_H} {c : CfA} {lkB : LK} {C : List Nat} {SC : List (List Nat)} (h99 : RW X J P sy h c lkB C SC) : c.md = 0 → c.o.bl = [] ∧ C = [] := h99.2.2.2.2.2.2.2.2.2.2.2.2.2.2.1
theorem RW.m1 {X : TX} {J P : Nat} {sy : List Nat → Nat} {h : mv_H} {c : CfA} {lkB : LK} {C : List Nat} {SC : List (List Nat)} (h99 : RW X J P sy h c lkB C SC) : c.md = 0 ∨ c.md = 1 → c.M = [] ∧ c.H = [] := h99.2.2.2.2.2.2.2.2.2.2.2.2.2.2.2.1
theorem RW.de {X : TX} {J P : Nat} {sy : List Nat → Nat} {h : mv_H} {c : CfA} {lkB : LK} {C : List Nat} {SC : List (List Nat)} (h99 : RW X J P sy h c lkB C SC) : c.d = c.o.bl.length + (if c.o.gl = 1 ∧ ¬ c.md = 0 ∧ ¬ c.md = 1 then 1 else 0) + nD c.M := h99.2.2.2.2.2.2.2.2.2.2.2.2.2.2.2.2.1
theorem RW.ex {X : TX} {J P : Nat} {sy : List Nat → Nat} {h : mv_H} {c : CfA} {lkB : LK} {C : List Nat} {SC : List (List Nat)} (h99 : RW X J P sy h c lkB C SC) : c.md = 2 ∨ c.md = 3 → CXq X J P h c.j c.d c.M c.H ∧ (∀ m, m ∈ c.M → AMj c.j m) ∧ HW c.md c.M c.H ∧ GoR X J P sy h c.o := h99.2.2.2.2.2.2.2.2.2.2.2.2.2.2.2.2.2
section RWS
variable {X : TX} {J P : Nat} {sy : List Nat → Nat} {h : mv_H} {c : CfA} {lkB : LK} {C : List Nat} {SC : List (List Nat)} (R : RW X J P sy h c lkB C SC)
theorem RW.pt (R : RW X J P sy h c lkB C SC) : PT X J h h c.j c.d := ⟨R.tb, Sm.rf, R.at', R.jJ, R.dp, R.d2, by rw [R.ok]; decide, rfl, fun z => z⟩
theorem RW.wa (R : RW X J P sy h c lkB C SC) : WA X J P sy h c.j c.d := by
  refine ⟨R.pt, R.rn.S, R.pp, R.hJ, R.sz, fun i h1 h2 z => ?_⟩
  have := R.rn.t2
  rcases R.rn.kn i h1 h2 with ⟨k, -⟩ | ⟨v, u, w, -, -, k3, k4, -⟩ | ⟨u, w, k, -⟩
  · rw [k] at z; exact absurd z (by decide)
  · exact ⟨u, k3, by omega⟩
  · rw [k] at z; exact absurd z (by decide)
end RWS
/-- between items -/
theorem RW.mk0 {X : TX} {J P : Nat} {sy : List Nat → Nat} {h h' : mv_H} {lkB' : LK} {j' : Nat} {o : OuA} (hpp : P = 32 ∨ P = 48) (hJ : X.kd J = 1 ∨ X.kd J = 2) (tb : TB X J h') (at' : mv_i h' 3 7 = nI (j' + 1)) (jJ : j' ≤ J) (dp : mv_i h' 3 8 = nI 0) (ok : mv_i h' 3 9 = -1) (no : mv_i h' 21 0 = 0) (sz : ∃ z, mv_i h' P 17 = nI z ∧ z ≤ 32768) (md : mv_i h' 2 6 = 0) (hb : o.bl = []) (rn : RN X J P sy h' o.s [] lkB' [] [] 0) : RW X J P sy h' ⟨0, j', 0, [], [], o⟩ lkB' [] [] := ⟨
  tb,
  hpp,
  hJ,
  at',
  jJ,
  dp,
  Nat.zero_le _,
  ok,
  no,
  sz,
  md,
  Nat.zero_le _,
  by
    have e : (if (CfA.mk 0 j' 0 [] [] o).md = 0 then 0 else (CfA.mk 0 j' 0 [] [] o).o.le) = 0 := if_pos rfl
    rw [e]
    show RN X J P sy h' o.s o.bl lkB' [] [] 0
    rw [hb]; exact rn,
  fun z => absurd rfl z,
  fun _ => ⟨hb, rfl⟩,
  fun _ => ⟨rfl, rfl⟩,
  by
    show 0 = o.bl.length + _ + 0
    rw [hb, if_neg (fun z => z.2.1 rfl)]; rfl,
  fun z => absurd z (by show ¬ (0 = 2 ∨ 0 = 3); omega)⟩
section ITM
variable {X : TX} {J P : Nat} {sy : List Nat → Nat} {h : mv_H} {c : CfA} {lkB : LK} {C : List Nat} {SC : List (List Nat)} (R : RW X J P sy h c lkB C SC) (hm : c.md = 0)
theorem RW.r0 (R : RW X J P sy h c lkB C SC) (hm : c.md = 0) : c.o.bl = [] ∧ C = [] ∧ SC = [] ∧ c.d = 0 ∧ RN X J P sy h c.o.s [] lkB [] [] 0 ∧ ∀ x, lkB x = c.o.s.lk x := by
  obtain ⟨a1, a2⟩ := R.m0 hm
  have r := R.rn
  rw [a1, a2, if_pos hm] at r
  have b := r.br
  have e : SC = [] := b.1
  have de := R.de
  rw [a1, (R.m1 (Or.inl hm)).1, if_neg (fun z => z.2.1 hm)] at de
  refine ⟨a1, a2, e, de, ?_, b.2⟩
  rw [e] at r; exact r
theorem RW.k0 (R : RW X J P sy h c lkB C SC) (hm : c.md = 0) {i : Nat} (hi : i ≤ J) (hk : X.kd i = 3) : (kOf h sy (X.nm i) = 0 ↔ (c.o.s.lk (X.nm i)).1 = 0) ∧ (kOf h sy (X.nm i) = 1 ↔ (c.o.s.lk (X.nm i)).1 = 1) ∧ (kOf h sy (X.nm i) = 2 ↔ (c.o.s.lk (X.nm i)).1 = 2) := by
  obtain ⟨a1, a2, a3, a4, r, a6⟩ := R.r0 hm
  have := r.kof hi hk
  rw [lkO_n, a6] at this
  rcases this with ⟨k1, k2⟩ | ⟨v, u, w, hv, k1, -, -, -, k2, -⟩ | ⟨k1, k2⟩
  · rw [k1, k2]; exact ⟨⟨fun _ => rfl, fun _ => rfl⟩, ⟨fun z => absurd z (by decide), fun z => absurd z (by decide)⟩, ⟨fun z => absurd z (by decide), fun z => absurd z (by decide)⟩⟩
  · rw [k1, k2]
    exact ⟨nIinj (a := v) (b := 0) (by omega) (by omega), nIinj (a := v) (b := 1) (by omega) (by omega), nIinj (a := v) (b := 2) (by omega) (by omega)⟩
  · rw [k2]
    rcases k1 with k1 | k1 <;> rw [k1] <;> exact ⟨⟨fun z => absurd z (by decide), fun z => absurd z (by decide)⟩, ⟨fun z => absurd z (by decide), fun z => absurd z (by decide)⟩, ⟨fun z => absurd z (by decide), fun z => absurd z (by decide)⟩⟩
/-- a THING more is A's -/
theorem RW.nw (R : RW X J P sy h c lkB C SC) (hm : c.md = 0) {g h' : mv_H} {i v w n j' : Nat} {zz : Int32} (z : Bool) (T : PT X J h g j' c.d) (n1 : mv_i g 21 = mv_i h 21) (hi : i ≤ J) (hk : X.kd i = 3) (hv : v = 1 ∨ v = 2) (hw : 0 < w ∧ w ≤ 64) (hc : kOf h sy (X.nm i) = 0 ∧ c.o.s.tl.length < 64 ∧ c.o.s.cells + n ≤ 65536) (Q : ThQ P g h' (sy (X.nm i)) c.o.s.tl.length (nI v) (nI w) (nI n) zz) : ∃ c' lkB' C' SC', aNw X c.o i v w n z j' = some c' ∧ RW X J P sy h' c' lkB' C' SC' ∧ c'.md = 0 := by
  obtain ⟨a1, a2, a3, a4, r, a6⟩ := R.r0 hm
  have hpp := R.pp
  have Rg : RN X J P sy g c.o.s [] lkB [] [] 0 := r.kp hpp T.sm.kp
  have R' := Rg.th hpp z hi hk Q hv hw hc.2.1 hc.2.2
  refine ⟨_, _, [], [], by unfold aNw; rw [if_pos ⟨((R.k0 hm hi hk).1.mp hc.1), hc.2⟩], RW.mk0 (h := h) (o := (OuA.mk (c.o.gl) (c.o.gn) (c.o.gw) (c.o.bl) (c.o.lk) (c.o.le) ((SI.mk (c.o.s.bits) (updK c.o.s.lk (X.nm i) (v, w)) (c.o.s.tl ++ [(w, n, z)]) (c.o.s.cells + n) (c.o.s.fe) (c.o.s.ops))))) hpp R.hJ (T.tb.fr (Q.ao 4 (by omega)) (Q.ao 5 (by omega)) (by rw [Q.b])) ?_ T.jJ ?_ ?_ ?_ ?_ ?_ a1 R', rfl⟩
  · rw [Q.i 3 7 (by omega)]; exact T.at'
  · rw [Q.i 3 8 (by omega), T.dp, a4]
  · rw [Q.i 3 9 (by omega), T.e9]; exact R.ok
  · rw [Q.i 21 0 (by omega), n1]; exact R.no
  · obtain ⟨y, ey, hy⟩ := R.sz
    exact ⟨y, by rw [Q.i P 17 (by omega), T.sm.i P 17 (by omega) (by omega)]; exact ey, hy⟩
  · rw [Q.i 2 6 (by omega), T.sm.i 2 6 (by omega) (by omega), R.md, hm]; rfl
end ITM
/-- the class behind a step of A -/
def StQ (X : TX) (J P : Nat) (sy : List Nat → Nat) (C0 : List Nat) (r : Option CfA) (h' : mv_H) : Prop := match r with
  | some c' => ∃ lkB' C' SC', RW X J P sy h' c' lkB' C' SC' ∧ (¬ c'.md = 0 → C' = C0)
  | none => Fl h'
section ITC
variable {X : TX} {J P : Nat} {sy : List Nat → Nat} {h : mv_H} {c : CfA} {lkB : LK} {C : List Nat} {SC : List (List Nat)} (R : RW X J P sy h c lkB C SC) (hm : c.md = 0)
theorem reg_R (R : RW X J P sy h c lkB C SC) (hm : c.md = 0) (hk : X.kd c.j = 201) : ∃ h', f_Weaver_register P h = some h' ∧ StQ X J P sy (X.nm (c.j + 2)) (aIt X c.j c.o) h' := by
  obtain ⟨a1, a2, a3, a4, r, a6⟩ := R.r0 hm
  have hJ := R.hJ
  obtain ⟨h', e, q⟩ := reg_A R.wa hk r.t0 r.t2 r.c0 r.c2
  refine ⟨h', e, ?_⟩
  unfold aIt
  rw [if_pos hk]
  rcases q with ⟨q1, q2, g, T, n, Q⟩ | ⟨q1, F⟩
  · have hj1 : c.j + 1 ≤ J := by have := T.jJ; omega
    obtain ⟨c', l', C', S', e', R', m'⟩ := R.nw hm (i := c.j + 1) (v := 1) (w := X.nu (c.j + 3)) (n := 0) false T n hj1 q1.1 (Or.inl rfl) (by omega) q2 Q
    rw [if_pos q1, e']
    exact ⟨l', C', S', R', fun z => absurd m' z⟩
  · by_cases z : X.kd (c.j + 1) = 3 ∧ X.kd (c.j + 2) = 58 ∧ X.kd (c.j + 3) = 4 ∧ X.kd (c.j + 4) = 59 ∧ 1 ≤ X.nu (c.j + 3) ∧ X.nu (c.j + 3) ≤ 64
    · have hj1 : c.j + 1 ≤ J := nxJ hJ R.jJ (by omega) (by omega)
      rw [if_pos z]
      unfold aNw
      rw [if_neg (fun y => q1 ⟨z, (R.k0 hm hj1 z.1).1.mpr y.1, y.2⟩)]
      exact F
    · rw [if_neg z]; exact F
theorem fil_R (R : RW X J P sy h c lkB C SC) (hm : c.md = 0) (hk : X.kd c.j = 202) : ∃ h', f_Weaver_file P h = some h' ∧ StQ X J P sy (X.nm (c.j + 2)) (aIt X c.j c.o) h' := by
  obtain ⟨a1, a2, a3, a4, r, a6⟩ := R.r0 hm
  have hJ := R.hJ
  have hj1 : c.j + 1 ≤ J := nxJ hJ R.jJ (by omega) (by omega)
  obtain ⟨h', e, q⟩ := fil_A R.wa hk r.t0 r.t2 r.c0 r.c2
  refine ⟨h', e, ?_⟩
  unfold aIt
  rw [if_neg (by omega), if_pos hk]
  rcases q with ⟨q1, q2, q3, g, T, n, Q⟩ | ⟨q1, F⟩
  · rw [if_pos q1]
    by_cases z : X.kd (c.j + 7) = 203
    · rw [if_pos z] at q2 T
      obtain ⟨c', l', C', S', e', R', m'⟩ := R.nw hm (i := c.j + 1) (v := 2) (w := X.nu (c.j + 3)) (n := X.nu (c.j + 5)) true T n hj1 q1.1 (Or.inr rfl) (by omega) q3 Q
      rw [if_pos z, if_pos q2, e']
      exact ⟨l', C', S', R', fun z => absurd m' z⟩
    · rw [if_neg z] at q2 T
      obtain ⟨c', l', C', S', e', R', m'⟩ := R.nw hm (i := c.j + 1) (v := 2) (w := X.nu (c.j + 3)) (n := X.nu (c.j + 5)) false T n hj1 q1.1 (Or.inr rfl) (by omega) q3 Q
      rw [if_neg z, if_pos q2, e']
      exact ⟨l', C', S', R', fun z => absurd m' z⟩
  · by_cases z : X.kd (c.j + 1) = 3 ∧ X.kd (c.j + 2) = 58 ∧ X.kd (c.j + 3) = 4 ∧ X.kd (c.j + 4) = 91 ∧ X.kd (c.j + 5) = 4 ∧ X.kd (c.j + 6) = 93 ∧ (1 ≤ X.nu (c.j + 3) ∧ X.nu (c.j + 3) ≤ 64) ∧ 1 ≤ X.nu (c.j + 5) ∧ X.nu (c.j + 5) ≤ 65536
    · rw [if_pos z]
      have no : ∀ (b : Bool) (k : Nat), (if X.kd (c.j + 7) = 203 then X.kd (c.j + 8) = 59 else X.kd (c.j + 7) = 59) → aNw X c.o (c.j + 1) 2 (X.nu (c.j + 3)) (X.nu (c.j + 5)) b k = none := fun b k w => by
        unfold aNw
        rw [if_neg (fun y => q1 ⟨z, w, (R.k0 hm hj1 z.1).1.mpr y.1, y.2⟩)]
      by_cases y : X.kd (c.j + 7) = 203
      · rw [if_pos y]
        by_cases x : X.kd (c.j + 8) = 59
        · rw [if_pos x, no true _ (by rw [if_pos y]; exact x)]; exact F
        · rw [if_neg x]; exact F
      · rw [if_neg y]
        by_cases x : X.kd (c.j + 7) = 59
        · rw [if_pos x, no false _ (by rw [if_neg y]; exact x)]; exact F
        · rw [if_neg x]; exact F
    · rw [if_neg z]; exact F
theorem fet_R (R : RW X J P sy h c lkB C SC) (hm : c.md = 0) (hk : X.kd c.j = 204) : ∃ h', f_Weaver_fetch P h = some h' ∧ StQ X J P sy (X.nm (c.j + 2)) (aIt X c.j c.o) h' := by
  obtain ⟨a1, a2, a3, a4, r, a6⟩ := R.r0 hm
  have hJ := R.hJ
  have hpp := R.pp
  obtain ⟨h', e, q⟩ := fet_A R.wa hk
  refine ⟨h', e, ?_⟩
  have hj1 : c.j + 1 ≤ J := nxJ hJ R.jJ (by omega) (by omega)
  -- the file's width
  have wid : ∀ i, i ≤ J → X.kd i = 3 → ((kOf h sy (X.nm i) = 2 ∧ mv_a h (P + 1) (mv_a h 15 (sy (X.nm i))).toNatClampNeg = 8) ↔ c.o.s.lk (X.nm i) = (2, 8)) := fun i hi hki => by
    have := r.kof hi hki
    rw [lkO_n, a6] at this
    rcases this with ⟨k1, k2⟩ | ⟨v, u, w, hv, k1, k2, k3, k4, k5, k6⟩ | ⟨k1, k2⟩
    · constructor
      · intro z; rw [k1] at z; exact absurd z.1 (by decide)
      · intro z; rw [z] at k2; exact absurd k2 (by decide)
    · have t2 := r.t2
      rw [k1, k2, cln (by omega), k4, k5]
      constructor
      · intro z
        have z1 := (nIinj (a := v) (b := 2) (by omega) (by omega)).mp z.1
        have z2 := (nIinj (a := w) (b := 8) (by omega) (by omega)).mp z.2
        rw [z1, z2]
      · intro z
        have z1 : v = 2 := congrArg Prod.fst z
        have z2 : w = 8 := congrArg Prod.snd z
        rw [z1, z2]; exact ⟨rfl, rfl⟩
    · constructor
      · intro z
        rcases k1 with k1 | k1 <;> rw [k1] at z <;> exact absurd z.1 (by decide)
      · intro z; rw [z] at k2; exact absurd k2 (by decide)
  unfold aIt
  rw [if_neg (by omega), if_neg (by omega), if_pos hk]
  have eq : ((X.kd (c.j + 1) = 3 ∧ X.kd (c.j + 2) = 205 ∧ X.kd (c.j + 3) = 3 ∧ X.kd (c.j + 4) = 59) ∧ mv_i h P 9 < 0 ∧ (kOf h sy (X.nm (c.j + 1)) = 1 ∧ kOf h sy (X.nm (c.j + 3)) = 2 ∧ mv_a h (P + 1) (mv_a h 15 (sy (X.nm (c.j + 3)))).toNatClampNeg = 8)) ↔ (X.kd (c.j + 1) = 3 ∧ X.kd (c.j + 2) = 205 ∧ X.kd (c.j + 3) = 3 ∧ X.kd (c.j + 4) = 59 ∧ (c.o.s.lk (X.nm (c.j + 1))).1 = 1 ∧ c.o.s.lk (X.nm (c.j + 3)) = (2, 8) ∧ c.o.s.fe = none) := by
    constructor
    · rintro ⟨⟨x1, x2, x3, x4⟩, x5, x6, x7⟩
      have hj2 := nxJ hJ hj1 (by omega) (by omega)
      have hj3 := nxJ hJ (j := c.j + 2) hj2 (by omega) (by omega)
      exact ⟨x1, x2, x3, x4, (R.k0 hm hj1 x1).2.1.mp x6, (wid _ hj3 x3).mp x7, r.fe.mp x5⟩
    · rintro ⟨x1, x2, x3, x4, x5, x6, x7⟩
      have hj2 := nxJ hJ hj1 (by omega) (by omega)
      have hj3 := nxJ hJ (j := c.j + 2) hj2 (by omega) (by omega)
      exact ⟨⟨x1, x2, x3, x4⟩, r.fe.mpr x7, (R.k0 hm hj1 x1).2.1.mpr x5, (wid _ hj3 x3).mpr x6⟩
  rcases q with ⟨q1, q2, q3, g, x, u, T, n, hu, eh, -, -⟩ | ⟨q1, F⟩
  · rw [if_pos (eq.mp ⟨q1, q2, q3⟩)]
    have Rg : RN X J P sy g c.o.s [] lkB [] [] 0 := r.kp hpp T.sm.kp
    have R' := Rg.ft hpp (x := x) hu (X.nm (c.j + 1), X.nm (c.j + 3))
    rw [← eh] at R'
    have ei : ∀ o k, ¬ (o = P ∧ (k = 8 ∨ k = 9)) → mv_i h' o k = mv_i g o k := fun o k q => by rw [eh]; ((simp only [rw_ii, rw_aa, rw_bb, rw_ia, rw_ib, rw_ai, rw_ab, rw_bi, rw_ba, true_and, and_true, if_true]; repeat' split) <;> first | rfl | (exfalso; omega))
    refine ⟨lkB, [], [], RW.mk0 (h := h) (o := (OuA.mk (c.o.gl) (c.o.gn) (c.o.gw) (c.o.bl) (c.o.lk) (c.o.le) ((SI.mk (c.o.s.bits) (c.o.s.lk) (c.o.s.tl) (c.o.s.cells) (some (X.nm (c.j + 1), X.nm (c.j + 3))) (c.o.s.ops))))) hpp hJ (T.tb.fr (by rw [eh]; rfl) (by rw [eh]; rfl) (by rw [eh]; rfl)) ?_ T.jJ ?_ ?_ ?_ ?_ ?_ a1 R', fun z => absurd rfl z⟩
    · rw [ei 3 7 (by omega)]; exact T.at'
    · rw [ei 3 8 (by omega), T.dp, a4]
    · rw [ei 3 9 (by omega), T.e9]; exact R.ok
    · rw [ei 21 0 (by omega), n]; exact R.no
    · obtain ⟨y, ey, hy⟩ := R.sz
      exact ⟨y, by rw [ei P 17 (by omega), T.sm.i P 17 (by omega) (by omega)]; exact ey, hy⟩
    · rw [ei 2 6 (by omega), T.sm.i 2 6 (by omega) (by omega), R.md, hm]; rfl
  · rw [if_neg (fun z => q1 (eq.mpr z))]; exact F
theorem op_R (R : RW X J P sy h c lkB C SC) (hm : c.md = 0) (hk : X.kd c.j = 206) : ∃ h', f_Weaver_op P h = some h' ∧ StQ X J P sy (X.nm (c.j + 2)) (aIt X c.j c.o) h' := by
  obtain ⟨a1, a2, a3, a4, r, a6⟩ := R.r0 hm
  have hJ := R.hJ
  have hpp := R.pp
  have hj1 : c.j + 1 ≤ J := nxJ hJ R.jJ (by omega) (by omega)
  obtain ⟨h', e, q⟩ := op_A R.wa hk r.o0 r.o2 (b := 0) (by rw [r.k0]; rfl) (by omega) r.b0 r.b2
  refine ⟨h', e, ?_⟩
  have o16 : X.kd (c.j + 1) = 3 → (¬ mv_a h 16 (sy (X.nm (c.j + 1))) = 1 ↔ ¬ X.nm (c.j + 1) ∈ c.o.s.ops.map Prod.fst) := fun z => by
    rw [r.on (c.j + 1) hj1 z]
    by_cases y : X.nm (c.j + 1) ∈ c.o.s.ops.map Prod.fst
    · rw [if_pos y]; exact ⟨fun w => absurd rfl w, fun w => absurd y w⟩
    · rw [if_neg y]; exact ⟨fun _ => y, fun _ => by decide⟩
  unfold aIt
  rw [if_neg (by omega), if_neg (by omega), if_neg (by omega), if_pos hk]
  rcases q with ⟨q1, q2, g1, g2, T, n, Q, e1, e2, e3, e4, e5⟩ | ⟨q1, F⟩
  · rw [if_pos ⟨q1.1, q1.2.1, q1.2.2.1, (o16 q1.1).mp q2.1, q2.2⟩]
    have Rg : RN X J P sy g1 c.o.s [] lkB [] [] 0 := r.kp hpp T.sm.kp
    have L0 : LTk (fun i => (X.nm (c.j + 2)).getD i 0) c.o.s.bits h 0 := fun x hx => by
      obtain ⟨l1, l2⟩ := r.lt x hx
      refine ⟨l1, ?_⟩
      rw [l2]
      show nJ 0 = nJ (0 * _)
      rw [Nat.zero_mul]
    have R' := Rg.op hpp hj1 q1.1 q2.2.2 q2.2.1 Q e1 e2 e3 e4 (e5 L0)
    have oi : ∀ a k, ¬ (a = 2 ∧ (k = 15 ∨ k = 6)) → mv_i (OBk g1 0 206 (-1) (-1)) a k = mv_i g1 a k := fun a k q => by unfold OBk; ((simp only [rw_ii, rw_aa, rw_bb, rw_ia, rw_ib, rw_ai, rw_ab, rw_bi, rw_ba, true_and, and_true, if_true]; repeat' split) <;> first | rfl | (exfalso; omega))
    have oa : ∀ r, ¬ (28 ≤ r ∧ r ≤ 31) → mv_a (OBk g1 0 206 (-1) (-1)) r = mv_a g1 r := fun r q => by unfold OBk; funext k; ((simp only [rw_ii, rw_aa, rw_bb, rw_ia, rw_ib, rw_ai, rw_ab, rw_bi, rw_ba, true_and, and_true, if_true]; repeat' split) <;> first | rfl | (exfalso; omega))
    have ei : ∀ a k, ¬ (a = 2 ∧ (k = 15 ∨ k = 6)) → ¬ (a = P ∧ k = 10) → mv_i h' a k = mv_i g1 a k := fun a k h1 h2 => by rw [e1, Q.i a k h2, oi a k h1]
    have ea : ∀ x, ¬ (x = 16 ∨ x = 17 ∨ x = P + 7 ∨ x = P + 8 ∨ (28 ≤ x ∧ x ≤ 31)) → mv_a h' x = mv_a g1 x := fun x h1 => by rw [e2 x (by omega) (by omega), Q.a x (by omega), oa x (by omega)]
    refine ⟨lkB, X.nm (c.j + 2), [], ?_, fun _ => rfl⟩
    refine ⟨T.tb.fr (ea 4 (by omega)) (ea 5 (by omega)) ?_, hpp, hJ, ?_, T.jJ, ?_, by show 1 ≤ 60; omega, ?_, ?_, ?_, ?_, by show 1 ≤ 3; omega, R', fun _ => ⟨fun x => lkO_g _ (a6 x).symm, fun z => by cases z⟩, fun z => absurd z (by show ¬ 1 = 0; omega), fun _ => ⟨rfl, rfl⟩, by rw [if_neg (fun z => z.2.2 rfl)]; rfl, fun z => absurd z (by show ¬ (1 = 2 ∨ 1 = 3); omega)⟩
    · rw [e4 6 (by omega), Q.b 6 (by omega)]; rfl
    · rw [ei 3 7 (by omega) (by omega)]; exact T.at'
    · rw [ei 3 8 (by omega) (by omega), T.dp, a4]
    · rw [ei 3 9 (by omega) (by omega), T.e9]; exact R.ok
    · rw [ei 21 0 (by omega) (by omega), n]; exact R.no
    · obtain ⟨y, ey, hy⟩ := R.sz
      exact ⟨y, by rw [ei P 17 (by omega) (by omega), T.sm.i P 17 (by omega) (by omega)]; exact ey, hy⟩
    · rw [e1, Q.i 2 6 (by omega)]; rfl
  · rw [if_neg (fun z => q1 ⟨⟨z.1, z.2.1, z.2.2.1, by rw [a4]; omega⟩, (o16 z.1).mpr z.2.2.2.1, z.2.2.2.2⟩)]; exact F
/-- an item -/
theorem itm_R (R : RW X J P sy h c lkB C SC) (hm : c.md = 0) : ∃ h', f_Weaver_item P h = some h' ∧ ((X.kd c.j = 1 ∧ h' = mv_si h 2 6 4) ∨ (¬ X.kd c.j = 1 ∧ StQ X J P sy (X.nm (c.j + 2)) (aIt X c.j c.o) h')) := by
  have hkd := (R.tb.k c.j R.jJ).2
  have t1 : (nI (X.kd c.j)).toInt = 1 ↔ X.kd c.j = 1 := by rw [nIi (by omega)]; omega
  have t201 : (nI (X.kd c.j)).toInt = 201 ↔ X.kd c.j = 201 := by rw [nIi (by omega)]; omega
  have t202 : (nI (X.kd c.j)).toInt = 202 ↔ X.kd c.j = 202 := by rw [nIi (by omega)]; omega
  have t204 : (nI (X.kd c.j)).toInt = 204 ↔ X.kd c.j = 204 := by rw [nIi (by omega)]; omega
  have t206 : (nI (X.kd c.j)).toInt = 206 ↔ X.kd c.j = 206 := by rw [nIi (by omega)]; omega
  unfold f_Weaver_item
  rw [R.pt.kd, xhb_s]
  by_cases c1 : X.kd c.j = 1
  · rw [if_pos (t1.mpr c1), xk_s]
    exact ⟨_, rfl, Or.inl ⟨c1, rfl⟩⟩
  rw [if_neg (fun z => c1 (t1.mp z))]
  by_cases c2 : X.kd c.j = 201
  · rw [if_pos (t201.mpr c2)]
    obtain ⟨h', e, q⟩ := reg_R R hm c2
    rw [e, xhv_s]; exact ⟨h', rfl, Or.inr ⟨c1, q⟩⟩
  rw [if_neg (fun z => c2 (t201.mp z))]
  by_cases c3 : X.kd c.j = 202
  · rw [if_pos (t202.mpr c3)]
    obtain ⟨h', e, q⟩ := fil_R R hm c3
    rw [e, xhv_s]; exact ⟨h', rfl, Or.inr ⟨c1, q⟩⟩
  rw [if_neg (fun z => c3 (t202.mp z))]
  by_cases c4 : X.kd c.j = 204
  · rw [if_pos (t204.mpr c4)]
    obtain ⟨h', e, q⟩ := fet_R R hm c4
    rw [e, xhv_s]; exact ⟨h', rfl, Or.inr ⟨c1, q⟩⟩
  rw [if_neg (fun z => c4 (t204.mp z))]
  by_cases c5 : X.kd c.j = 206
  · rw [if_pos (t206.mpr c5)]
    obtain ⟨h', e, q⟩ := op_R R hm c5
    rw [e, xhv_s]; exact ⟨h', rfl, Or.inr ⟨c1, q⟩⟩
  rw [if_neg (fun z => c5 (t206.mp z))]
  obtain ⟨h', e, w, -⟩ := R.pt.wr
  rw [e, xhv_s]
  refine ⟨h', rfl, Or.inr ⟨c1, ?_⟩⟩
  unfold aIt
  rw [if_neg c2, if_neg c3, if_neg c4, if_neg c5]
  exact w.fl
end ITC
section MKS
variable {X : TX} {J P : Nat} {sy : List Nat → Nat} {h h' : mv_H} {lkB : LK} {C : List Nat} {SC : List (List Nat)} {j d : Nat} {o : OuA}
/-- a statement is due -/
theorem RW.mkS (hpp : P = 32 ∨ P = 48) (hJ : X.kd J = 1 ∨ X.kd J = 2) (tb : TB X J h') (at' : mv_i h' 3 7 = nI (j + 1)) (jJ : j ≤ J) (dp : mv_i h' 3 8 = nI d) (d2 : d ≤ 60) (ok : mv_i h' 3 9 = -1) (no : mv_i h' 21 0 = 0) (sz : ∃ z, mv_i h' P 17 = nI z ∧ z ≤ 32768) (md : mv_i h' 2 6 = 1) (rn : RN X J P sy h' o.s o.bl lkB C SC o.le) (elk : ∀ x, o.lk x = lkO lkB C x) (hb : ¬ o.bl = []) (de : d = o.bl.length) : RW X J P sy h' ⟨1, j, d, [], [], o⟩ lkB C SC :=
  ⟨tb, hpp, hJ, at', jJ, dp, d2, ok, no, sz, md, by show 1 ≤ 3; omega, rn, fun _ => ⟨elk, hb⟩, fun z => absurd z (by show ¬ 1 = 0; omega), fun _ => ⟨rfl, rfl⟩, by rw [if_neg (fun z => z.2.2 rfl)]; exact de, fun z => absurd z (by show ¬ (1 = 2 ∨ 1 = 3); omega)⟩
/-- an EXPR is due -/
theorem RW.mkE (hpp : P = 32 ∨ P = 48) (hJ : X.kd J = 1 ∨ X.kd J = 2) (tb : TB X J h') (at' : mv_i h' 3 7 = nI (j + 1)) (jJ : j ≤ J) (dp : mv_i h' 3 8 = nI d) (d2 : d ≤ 60) (ok : mv_i h' 3 9 = -1) (no : mv_i h' 21 0 = 0) (sz : ∃ z, mv_i h' P 17 = nI z ∧ z ≤ 32768) (B : BeQ h' o.gl) (G : GoR X J P sy h' o) (rn : RN X J P sy h' o.s o.bl lkB C SC o.le) (elk : ∀ x, o.lk x = lkO lkB C x) (hb : ¬ o.bl = []) (de : d = o.bl.length + (if o.gl = 1 then 1 else 0)) : RW X J P sy h' ⟨2, j, d, [], [], o⟩ lkB C SC :=
  ⟨tb, hpp, hJ, at', jJ, dp, d2, ok, no, sz, B.m, by show 2 ≤ 3; omega, rn, fun _ => ⟨elk, hb⟩, fun z => absurd z (by show ¬ 2 = 0; omega), fun z => absurd z (by show ¬ (2 = 0 ∨ 2 = 1); omega), by
      by_cases c : o.gl = 1
      · rw [if_pos c] at de
        rw [if_pos ⟨c, (by show ¬ 2 = 0; omega), (by show ¬ 2 = 1; omega)⟩]; exact de
      · rw [if_neg c] at de
        rw [if_neg (fun z => c z.1)]; exact de, fun _ => ⟨⟨tb, hpp, at', jJ, dp, d2, ok, no, B.a, trivial, B.b, trivial, Nat.zero_le _, sz⟩, fun m q => absurd q List.not_mem_nil, rfl, G⟩⟩
end MKS
section STR
variable {X : TX} {J P : Nat} {sy : List Nat → Nat} {h : mv_H} {c : CfA} {lkB : LK} {C : List Nat} {SC : List (List Nat)} (R : RW X J P sy h c lkB C SC)
theorem RW.k1 (R : RW X J P sy h c lkB C SC) (hm : ¬ c.md = 0) {i : Nat} (hi : i ≤ J) (hk : X.kd i = 3) : (kOf h sy (X.nm i) = 0 ∧ (c.o.lk (X.nm i)).1 = 0) ∨ (∃ v u w, (v = 1 ∨ v = 2) ∧ kOf h sy (X.nm i) = nI v ∧ mv_a h 15 (sy (X.nm i)) = nI u ∧ u < c.o.s.tl.length ∧ mv_a h (P + 1) u = nI w ∧ c.o.lk (X.nm i) = (v, w) ∧ 0 < w ∧ w ≤ 64) ∨ ((kOf h sy (X.nm i) = 3 ∨ kOf h sy (X.nm i) = 4) ∧ (c.o.lk (X.nm i)).1 = 3) := by
  rw [(R.lk hm).1 (X.nm i)]
  exact R.rn.kof hi hk
variable (hm : c.md = 1)
theorem RW.r1 (R : RW X J P sy h c lkB C SC) (hm : c.md = 1) : RN X J P sy h c.o.s c.o.bl lkB C SC c.o.le ∧ c.d = c.o.bl.length ∧ (∀ x, c.o.lk x = lkO lkB C x) ∧ ¬ c.o.bl = [] := by
  have r := R.rn
  rw [if_neg (by omega)] at r
  have de := R.de
  rw [if_neg (fun z => z.2.2 hm), (R.m1 (Or.inr hm)).1] at de
  have l := R.lk (by omega)
  exact ⟨r, de, l.1, l.2⟩
theorem trp_R (R : RW X J P sy h c lkB C SC) (hm : c.md = 1) (hk : X.kd c.j = 208) : ∃ h', (xhb (f_Tokens_take h (208 : Int32)) fun v7 g6 => xhb (f_Tokens_take g6 (4 : Int32)) fun v9 g8 => xhb (f_Weaver_numberUpTo g8 v9 (1000000 : Int32)) fun v11 g10 => xhb (f_Program_emit P g10 (316 : Int32) ((v11).toInt64)) fun v13 g12 => xhb (f_Tokens_take g12 (59 : Int32)) fun v15 g14 => some g14) = some h' ∧ StQ X J P sy C (aSt X c.j c.d c.o) h' := by
  obtain ⟨r, de, elk, hb⟩ := R.r1 hm
  obtain ⟨h', e, q⟩ := trp_A R.wa hk
  refine ⟨h', e, ?_⟩
  unfold aSt
  rw [if_neg (by omega), if_neg (by omega), if_pos hk]
  rcases q with ⟨q1, Q, m⟩ | ⟨q1, F⟩
  · rw [if_pos q1]
    exact ⟨lkB, C, SC, RW.mkS R.pp R.hJ Q.tb Q.at' Q.jJ Q.dp Q.d2 (Q.e9.trans R.ok) (Q.n.trans R.no) Q.sz (by rw [m, R.md, hm]; rfl) (r.kp R.pp Q.kp) elk hb de, fun _ => rfl⟩
  · rw [if_neg q1]; exact F
theorem let_R (R : RW X J P sy h c lkB C SC) (hm : c.md = 1) (hk : X.kd c.j = 207) : ∃ h', f_Weaver_beginLet h = some h' ∧ StQ X J P sy C (aSt X c.j c.d c.o) h' := by
  obtain ⟨r, de, elk, hb⟩ := R.r1 hm
  have hpp := R.pp
  obtain ⟨h', e, q⟩ := let_A R.wa hk r.l0 r.l2
  refine ⟨h', e, ?_⟩
  unfold aSt
  rw [if_pos hk]
  have hj1 : c.j + 1 ≤ J := nxJ R.hJ R.jJ (by omega) (by omega)
  have k0 : X.kd (c.j + 1) = 3 → (kOf h sy (X.nm (c.j + 1)) = 0 ↔ (c.o.lk (X.nm (c.j + 1))).1 = 0) := fun z => by
    rcases R.k1 (by omega) hj1 z with ⟨k1, k2⟩ | ⟨v, u, w, hv, k1, -, -, -, k2, -⟩ | ⟨k1, k2⟩
    · rw [k1, k2]; exact ⟨fun _ => rfl, fun _ => rfl⟩
    · rw [k1, k2]; exact nIinj (a := v) (b := 0) (by omega) (by omega)
    · rw [k2]
      rcases k1 with k1 | k1 <;> rw [k1] <;> exact ⟨fun z => absurd z (by decide), fun z => absurd z (by decide)⟩
  rcases q with ⟨q1, q2, Q, B, t8, t9⟩ | ⟨q1, F⟩
  · rw [if_pos ⟨q1.1, q1.2, (k0 q1.1).mp q2.1, q2.2⟩]
    have hJb := R.tb.jb
    have G : GoR X J P sy h' (OuA.mk (0) (X.nm (c.j + 1)) (c.o.gw) (c.o.bl) (c.o.lk) (c.o.le) (c.o.s)) :=
      ⟨B.g, by show 0 ≤ 4; omega, fun _ => ⟨c.j + 3, t8, by have := Q.jJ; omega⟩, fun _ => ⟨⟨c.j + 1, hj1, q1.1, rfl⟩, t9, (k0 q1.1).mp q2.1, q2.2⟩, fun z => by
        have z : (0 : Nat) = 1 ∨ (0 : Nat) = 2 ∨ (0 : Nat) = 3 := z
        omega⟩
    exact ⟨lkB, C, SC, RW.mkE (o := (OuA.mk (0) (X.nm (c.j + 1)) (c.o.gw) (c.o.bl) (c.o.lk) (c.o.le) (c.o.s))) hpp R.hJ Q.tb Q.at' Q.jJ Q.dp Q.d2 (Q.e9.trans R.ok) (Q.n.trans R.no) Q.sz B G (r.kp hpp Q.kp) elk hb (by show c.d = c.o.bl.length + (if (0 : Nat) = 1 then 1 else 0); rw [if_neg (by omega)]; exact de), fun _ => rfl⟩
  · rw [if_neg (fun z => q1 ⟨⟨z.1, z.2.1⟩, (k0 z.1).mpr z.2.2.1, z.2.2.2⟩)]; exact F
theorem asg_R (R : RW X J P sy h c lkB C SC) (hm : c.md = 1) (hk : X.kd c.j = 3) : ∃ h', f_Weaver_beginAssignment h = some h' ∧ StQ X J P sy C (aSt X c.j c.d c.o) h' := by
  obtain ⟨r, de, elk, hb⟩ := R.r1 hm
  have hpp := R.pp
  have hJb := R.tb.jb
  have t2 := r.t2
  obtain ⟨h', e, q⟩ := asg_A R.wa hk
  refine ⟨h', e, ?_⟩
  unfold aSt
  rw [if_neg (by omega), if_pos hk]
  have kk : ∀ v, (v = 1 ∨ v = 2) → (kOf h sy (X.nm c.j) = nI v → ∃ u w, mv_a h 15 (sy (X.nm c.j)) = nI u ∧ u < c.o.s.tl.length ∧ mv_a h (P + 1) u = nI w ∧ c.o.lk (X.nm c.j) = (v, w) ∧ 0 < w ∧ w ≤ 64) ∧ ((c.o.lk (X.nm c.j)).1 = v → kOf h sy (X.nm c.j) = nI v) := fun v hv => by
    rcases R.k1 (by omega) R.jJ hk with ⟨k1, k2⟩ | ⟨v', u, w, hv', k1, k2, k3, k4, k5, k6⟩ | ⟨k1, k2⟩
    · constructor
      · intro z; rw [k1] at z
        have := (nIinj (a := 0) (b := v) (by omega) (by omega)).mp z
        omega
      · intro z; omega
    · constructor
      · intro z; rw [k1] at z
        have := (nIinj (a := v') (b := v) (by omega) (by omega)).mp z
        rw [← this]
        exact ⟨u, w, k2, k3, k4, k5, k6⟩
      · intro z; rw [k5] at z
        have z : v' = v := z
        rw [k1, z]
    · constructor
      · intro z
        rcases k1 with k1 | k1
        · rw [k1] at z
          have := (nIinj (a := 3) (b := v) (by omega) (by omega)).mp z
          omega
        · rw [k1] at z
          have := (nIinj (a := 4) (b := v) (by omega) (by omega)).mp z
          omega
      · intro z; omega
  rcases q with ⟨q1, q2, Q, B, t9⟩ | ⟨q1, q2, Q, B, t8, t9⟩ | ⟨q1, q2, F⟩
  · obtain ⟨u, w, w1, w2, w3, w4, w5⟩ := (kk 2 (Or.inr rfl)).1 q2.1
    rw [if_pos q1, if_pos ⟨by rw [w4], q2.2⟩, w4]
    have G : GoR X J P sy h' (OuA.mk (1) (c.o.gn) ((2, w).2) (c.o.bl) (c.o.lk) (c.o.le) (c.o.s)) :=
      ⟨B.g, by show 1 ≤ 4; omega, fun z => absurd rfl z, fun z => absurd z (by show ¬ 1 = 0; omega), fun _ => ⟨u, by rw [t9]; exact w1, w2, by rw [Q.kp.a (P + 1) (by omega) (by omega)]; exact w3, w5⟩⟩
    exact ⟨lkB, C, SC, RW.mkE (o := (OuA.mk (1) (c.o.gn) ((2, w).2) (c.o.bl) (c.o.lk) (c.o.le) (c.o.s))) hpp R.hJ Q.tb Q.at' Q.jJ Q.dp Q.d2 (Q.e9.trans R.ok) (Q.n.trans R.no) Q.sz B G (r.kp hpp Q.kp) elk hb (by show c.d + 1 = c.o.bl.length + (if (1 : Nat) = 1 then 1 else 0); rw [if_pos rfl, de]), fun _ => rfl⟩
  · obtain ⟨u, w, w1, w2, w3, w4, w5⟩ := (kk 1 (Or.inl rfl)).1 q2.1
    rw [if_neg q1, if_pos ⟨by rw [w4], q2.2⟩, w4]
    have G : GoR X J P sy h' (OuA.mk (2) (c.o.gn) ((1, w).2) (c.o.bl) (c.o.lk) (c.o.le) (c.o.s)) :=
      ⟨B.g, by show 2 ≤ 4; omega, fun _ => ⟨c.j + 2, t8, by have := Q.jJ; omega⟩, fun z => absurd z (by show ¬ 2 = 0; omega), fun _ => ⟨u, by rw [t9]; exact w1, w2, by rw [Q.kp.a (P + 1) (by omega) (by omega)]; exact w3, w5⟩⟩
    exact ⟨lkB, C, SC, RW.mkE (o := (OuA.mk (2) (c.o.gn) ((1, w).2) (c.o.bl) (c.o.lk) (c.o.le) (c.o.s))) hpp R.hJ Q.tb Q.at' Q.jJ Q.dp Q.d2 (Q.e9.trans R.ok) (Q.n.trans R.no) Q.sz B G (r.kp hpp Q.kp) elk hb (by show c.d = c.o.bl.length + (if (2 : Nat) = 1 then 1 else 0); rw [if_neg (by omega)]; exact de), fun _ => rfl⟩
  · by_cases z : X.kd (c.j + 1) = 91
    · rw [if_pos z, if_neg (fun y => q1 z ⟨(kk 2 (Or.inr rfl)).2 y.1, y.2⟩)]; exact F
    · rw [if_neg z, if_neg (fun y => q2 z ⟨(kk 1 (Or.inl rfl)).2 y.1, y.2⟩)]; exact F
theorem if_R (R : RW X J P sy h c lkB C SC) (hm : c.md = 1) (hk : X.kd c.j = 209) : ∃ h', f_Weaver_beginIf h (-1) = some h' ∧ StQ X J P sy C (aSt X c.j c.d c.o) h' := by
  obtain ⟨r, de, elk, hb⟩ := R.r1 hm
  have hpp := R.pp
  have hJb := R.tb.jb
  obtain ⟨h', e, Q, B, t8⟩ := bif_A R.wa R.wa.wq hk (-1)
  refine ⟨h', e, ?_⟩
  unfold aSt
  rw [if_neg (by omega), if_neg (by omega), if_neg (by omega), if_pos hk]
  have G : GoR X J P sy h' (OuA.mk (4) (c.o.gn) (c.o.gw) (c.o.bl) (c.o.lk) (c.o.le) (c.o.s)) :=
    ⟨B.g, by show 4 ≤ 4; omega, fun _ => ⟨c.j + 1, t8, by have := Q.jJ; omega⟩, fun z => absurd z (by show ¬ 4 = 0; omega), fun z => by
      have z : (4 : Nat) = 1 ∨ (4 : Nat) = 2 ∨ (4 : Nat) = 3 := z
      omega⟩
  exact ⟨lkB, C, SC, RW.mkE (o := (OuA.mk (4) (c.o.gn) (c.o.gw) (c.o.bl) (c.o.lk) (c.o.le) (c.o.s))) hpp R.hJ Q.tb Q.at' Q.jJ Q.dp Q.d2 (Q.e9.trans R.ok) (Q.n.trans R.no) Q.sz B G (r.kp hpp Q.kp) elk hb (by show c.d = c.o.bl.length + (if (4 : Nat) = 1 then 1 else 0); rw [if_neg (by omega)]; exact de), fun _ => rfl⟩
end STR
section CLR
variable {X : TX} {J P : Nat} {sy : List Nat → Nat} {h : mv_H} {c : CfA} {lkB : LK} {C : List Nat} {SC : List (List Nat)} (R : RW X J P sy h c lkB C SC) (hm : c.md = 1)
theorem cls_R (R : RW X J P sy h c lkB C SC) (hm : c.md = 1) (hk : X.kd c.j = 125) (hu : (mv_a h 29 (c.o.bl.length - 1)).toInt < 32768) (hc : ∃ l, Lk (mv_b h (P + 10)) (mv_a h 30 (c.o.bl.length - 1)).toInt l ∧ (∀ y, y ∈ l → y < 32768) ∧ (∀ y, y ∈ l → ¬ (mv_a h 29 (c.o.bl.length - 1)).toInt = y)) : ∃ h', f_Weaver_closeBlock P h = some h' ∧ StQ X J P sy C (aSt X c.j c.d c.o) h' := by
  obtain ⟨r, de, elk, hb⟩ := R.r1 hm
  have hpp := R.pp
  have hJ := R.hJ
  have hJb := R.tb.jb
  have hd2 := R.d2
  have eA : aSt X c.j c.d c.o = match c.o.bl with
    | [] => none
    | (k, lk0) :: bl => if k = 206 then some ⟨0, c.j + 1, c.d - 1, [], [], (OuA.mk (c.o.gl) (c.o.gn) (c.o.gw) (bl) (lk0) (c.o.le) (c.o.s))⟩
      else if k = 209 ∧ X.kd (c.j + 1) = 210 then
        (if X.kd (c.j + 2) = 209 then some ⟨2, c.j + 3, c.d - 1, [], [], (OuA.mk (4) (c.o.gn) (c.o.gw) (bl) (lk0) (c.o.le) (c.o.s))⟩
         else if X.kd (c.j + 2) = 123 then some ⟨1, c.j + 3, c.d, [], [], (OuA.mk (c.o.gl) (c.o.gn) (c.o.gw) ((210, lk0) :: bl) (lk0) (c.o.le) (c.o.s))⟩ else none)
      else some ⟨1, c.j + 1, c.d - 1, [], [], (OuA.mk (c.o.gl) (c.o.gn) (c.o.gw) (bl) (lk0) (c.o.le) (c.o.s))⟩ := by
    unfold aSt
    rw [if_neg (by omega), if_neg (by omega), if_neg (by omega), if_neg (by omega), if_pos hk]
    rfl
  rw [eA]
  clear eA
  obtain ⟨bl0, eb0⟩ : ∃ bl0, bl0 = c.o.bl := ⟨_, rfl⟩
  rw [← eb0] at r de hb hu hc ⊢
  cases bl0 with
  | nil => exact absurd rfl hb
  | cons b bl =>
  obtain ⟨k, lk0⟩ := b
  have de : c.d = bl.length + 1 := de
  have ebl : ((k, lk0) :: bl).length - 1 = bl.length := rfl
  rw [ebl] at hu hc
  obtain ⟨S1, S0, lkB0, k1, k2, k3, k4, k5, k6, k7, k8⟩ := r.cls hpp
  have k2 : mv_a h 28 bl.length = nI k := k2
  have k4 : ∀ x, lk0 x = lkO lkB0 C x := k4
  have k6 : k = 206 ↔ bl = [] := k6
  have k7 : k < 400 := k7
  have hlen : S0.length ≤ SC.length := by rw [k1, List.length_append]; omega
  have hs2 := r.s2
  have hl2 := r.l2
  have Bk : BkA P h (bl.length + 1) S0.length SC.length (sgF sy SC) := ⟨r.k0, by omega, by omega, r.s0, by omega, k3, hlen, r.sg, hu, hc⟩
  obtain ⟨g9, hC, h', e, q⟩ := cls_A R.wa hk (by omega) Bk
  refine ⟨h', e, ?_⟩
  have R9 := k8 g9 _ _ hC
  rw [show bl.length + 1 - 1 = bl.length by omega, k2] at q
  have t206 : nI k = 206 ↔ k = 206 := nIinj (a := k) (b := 206) (by omega) (by omega)
  have t209 : nI k = 209 ↔ k = 209 := nIinj (a := k) (b := 209) (by omega) (by omega)
  have n9 : mv_i g9 21 0 = 0 := by rw [hC.i 21 0 (by omega) (by omega) (by omega)]; exact R.no
  have ok9 : mv_i g9 3 9 = -1 := hC.e9.trans R.ok
  have m9 : mv_i g9 2 6 = 1 := by rw [hC.i 2 6 (by omega) (by omega) (by omega), R.md, hm]; rfl
  show StQ X J P sy C (if k = 206 then some ⟨0, c.j + 1, c.d - 1, [], [], (OuA.mk (c.o.gl) (c.o.gn) (c.o.gw) (bl) (lk0) (c.o.le) (c.o.s))⟩
      else if k = 209 ∧ X.kd (c.j + 1) = 210 then
        (if X.kd (c.j + 2) = 209 then some ⟨2, c.j + 3, c.d - 1, [], [], (OuA.mk (4) (c.o.gn) (c.o.gw) (bl) (lk0) (c.o.le) (c.o.s))⟩
         else if X.kd (c.j + 2) = 123 then some ⟨1, c.j + 3, c.d, [], [], (OuA.mk (c.o.gl) (c.o.gn) (c.o.gw) ((210, lk0) :: bl) (lk0) (c.o.le) (c.o.s))⟩ else none)
      else some ⟨1, c.j + 1, c.d - 1, [], [], (OuA.mk (c.o.gl) (c.o.gn) (c.o.gw) (bl) (lk0) (c.o.le) (c.o.s))⟩) h'
  rcases q with ⟨q1, g', k', Q, m', L, eh⟩ | ⟨⟨q1, q2, q3⟩, q⟩ | ⟨⟨q1, q2⟩, Q, m'⟩
  · have hk6 := t206.mp q1
    have hbl := k6.mp hk6
    have hS := k5 hbl
    rw [if_pos hk6]
    have d0 : c.d - 1 = 0 := by rw [de, hbl]; rfl
    rw [d0] at Q ⊢
    rw [hbl, hS] at R9
    have Rg := R9.kp hpp Q.kp
    rw [hS] at L
    have Rl := Rg.lv hpp L
    rw [← eh] at Rl
    have ei : ∀ o f, ¬ (o = 13 ∧ (f = 7 ∨ f = 9)) → ¬ (o = 2 ∧ f = 6) → mv_i h' o f = mv_i g' o f := fun o f h1 h2 => by rw [eh]; exact (mv_u_ne (mv_i k') _ h2).trans (L.i o f h1)
    refine ⟨lkB0, [], [], RW.mk0 (h := h) (o := (OuA.mk (c.o.gl) (c.o.gn) (c.o.gw) (bl) (lk0) (c.o.le) (c.o.s))) hpp hJ (Q.tb.fr ?_ ?_ ?_) ?_ Q.jJ ?_ ?_ ?_ ?_ (by rw [eh]; rfl) hbl Rl, fun z => absurd rfl z⟩
    · rw [eh]; exact L.a 4 (by omega) (by omega)
    · rw [eh]; exact L.a 5 (by omega) (by omega)
    · rw [eh]; exact L.b 6 (by omega)
    · rw [ei 3 7 (by omega) (by omega)]; exact Q.at'
    · rw [ei 3 8 (by omega) (by omega)]; exact Q.dp
    · rw [ei 3 9 (by omega) (by omega), Q.e9]; exact ok9
    · rw [ei 21 0 (by omega) (by omega), Q.n]; exact n9
    · obtain ⟨y, ey, hy⟩ := Q.sz
      exact ⟨y, by rw [ei P 17 (by omega) (by omega)]; exact ey, hy⟩
  · have n6 : ¬ k = 206 := fun z => q1 (t206.mpr z)
    have hbl : ¬ bl = [] := fun z => n6 (k6.mpr z)
    rw [if_neg n6, if_pos ⟨t209.mp q2, q3⟩]
    rcases q with ⟨p1, Q, B, t8⟩ | ⟨p1, p2, g1, a2, Q, eh⟩ | ⟨p1, p2, F⟩
    · rw [if_pos p1]
      have G : GoR X J P sy h' (OuA.mk (4) (c.o.gn) (c.o.gw) (bl) (lk0) (c.o.le) (c.o.s)) :=
        ⟨B.g, by show 4 ≤ 4; omega, fun _ => ⟨c.j + 3, t8, by have := Q.jJ; omega⟩, fun z => absurd z (by show ¬ 4 = 0; omega), fun z => by
          have z : (4 : Nat) = 1 ∨ (4 : Nat) = 2 ∨ (4 : Nat) = 3 := z
          omega⟩
      exact ⟨lkB0, C, S0, RW.mkE (o := (OuA.mk (4) (c.o.gn) (c.o.gw) (bl) (lk0) (c.o.le) (c.o.s))) hpp hJ Q.tb Q.at' Q.jJ Q.dp Q.d2 (Q.e9.trans ok9) (Q.n.trans n9) Q.sz B G (R9.kp hpp Q.kp) k4 hbl (by show c.d - 1 = bl.length + (if (4 : Nat) = 1 then 1 else 0); rw [if_neg (by omega)]; omega), fun _ => rfl⟩
    · rw [if_neg p1, if_pos p2]
      have R1 := (R9.kp hpp Q.kp).ob hpp (k := 210) (lk := lk0) (by omega) (by omega) k4 ⟨fun z => by omega, fun z => absurd z hbl⟩ (-1) a2
      have R1' : RN X J P sy h' c.o.s ((210, lk0) :: bl) lkB0 C S0 c.o.le := by rw [eh]; exact R1
      have oi : ∀ a f, ¬ (a = 2 ∧ (f = 15 ∨ f = 6)) → mv_i h' a f = mv_i g1 a f := fun a f w => by rw [eh]; unfold OBk; ((simp only [rw_ii, rw_aa, rw_bb, rw_ia, rw_ib, rw_ai, rw_ab, rw_bi, rw_ba, true_and, and_true, if_true]; repeat' split) <;> first | rfl | (exfalso; omega))
      have oa : ∀ x, ¬ (28 ≤ x ∧ x ≤ 31) → mv_a h' x = mv_a g1 x := fun x w => by rw [eh]; unfold OBk; funext f; ((simp only [rw_ii, rw_aa, rw_bb, rw_ia, rw_ib, rw_ai, rw_ab, rw_bi, rw_ba, true_and, and_true, if_true]; repeat' split) <;> first | rfl | (exfalso; omega))
      refine ⟨lkB0, C, S0, RW.mkS (o := (OuA.mk (c.o.gl) (c.o.gn) (c.o.gw) ((210, lk0) :: bl) (lk0) (c.o.le) (c.o.s))) hpp hJ (Q.tb.fr (oa 4 (by omega)) (oa 5 (by omega)) (by rw [eh]; rfl)) ?_ Q.jJ ?_ Q.d2 ?_ ?_ ?_ (by rw [eh]; rfl) R1' k4 (fun z => by cases z) (by show c.d = bl.length + 1; exact de), fun _ => rfl⟩
      · rw [oi 3 7 (by omega)]; exact Q.at'
      · rw [oi 3 8 (by omega)]; exact Q.dp
      · rw [oi 3 9 (by omega), Q.e9]; exact ok9
      · rw [oi 21 0 (by omega), Q.n]; exact n9
      · obtain ⟨y, ey, hy⟩ := Q.sz
        exact ⟨y, by rw [oi P 17 (by omega)]; exact ey, hy⟩
    · rw [if_neg p1, if_neg p2]; exact F
  · have n6 : ¬ k = 206 := fun z => q1 (t206.mpr z)
    have hbl : ¬ bl = [] := fun z => n6 (k6.mpr z)
    rw [if_neg n6, if_neg (fun z => q2 ⟨t209.mpr z.1, z.2⟩)]
    exact ⟨lkB0, C, S0, RW.mkS (o := (OuA.mk (c.o.gl) (c.o.gn) (c.o.gw) (bl) (lk0) (c.o.le) (c.o.s))) hpp hJ Q.tb Q.at' Q.jJ Q.dp Q.d2 (Q.e9.trans ok9) (Q.n.trans n9) Q.sz (by rw [m']; exact m9) (R9.kp hpp Q.kp) k4 hbl (by show c.d - 1 = bl.length; omega), fun _ => rfl⟩
/-- a statement -/
theorem stm_R (R : RW X J P sy h c lkB C SC) (hm : c.md = 1) (hX : X.kd c.j = 125 → (mv_a h 29 (c.o.bl.length - 1)).toInt < 32768 ∧ ∃ l, Lk (mv_b h (P + 10)) (mv_a h 30 (c.o.bl.length - 1)).toInt l ∧ (∀ y, y ∈ l → y < 32768) ∧ (∀ y, y ∈ l → ¬ (mv_a h 29 (c.o.bl.length - 1)).toInt = y)) : ∃ h', f_Weaver_statement P h = some h' ∧ StQ X J P sy C (aSt X c.j c.d c.o) h' := by
  have hkd := (R.tb.k c.j R.jJ).2
  have t3 : (nI (X.kd c.j)).toInt = 3 ↔ X.kd c.j = 3 := by rw [nIi (by omega)]; omega
  have t125 : (nI (X.kd c.j)).toInt = 125 ↔ X.kd c.j = 125 := by rw [nIi (by omega)]; omega
  have t207 : (nI (X.kd c.j)).toInt = 207 ↔ X.kd c.j = 207 := by rw [nIi (by omega)]; omega
  have t208 : (nI (X.kd c.j)).toInt = 208 ↔ X.kd c.j = 208 := by rw [nIi (by omega)]; omega
  have t209 : (nI (X.kd c.j)).toInt = 209 ↔ X.kd c.j = 209 := by rw [nIi (by omega)]; omega
  unfold f_Weaver_statement
  rw [R.pt.kd, xhb_s]
  by_cases c1 : X.kd c.j = 3
  · rw [if_pos (t3.mpr c1)]
    obtain ⟨h', e, q⟩ := asg_R R hm c1
    rw [e, xhv_s]; exact ⟨h', rfl, q⟩
  rw [if_neg (fun z => c1 (t3.mp z))]
  by_cases c2 : X.kd c.j = 125
  · rw [if_pos (t125.mpr c2)]
    obtain ⟨h', e, q⟩ := cls_R R hm c2 (hX c2).1 (hX c2).2
    rw [e, xhv_s]; exact ⟨h', rfl, q⟩
  rw [if_neg (fun z => c2 (t125.mp z))]
  by_cases c3 : X.kd c.j = 207
  · rw [if_pos (t207.mpr c3)]
    obtain ⟨h', e, q⟩ := let_R R hm c3
    rw [e, xhv_s]; exact ⟨h', rfl, q⟩
  rw [if_neg (fun z => c3 (t207.mp z))]
  by_cases c4 : X.kd c.j = 208
  · rw [if_pos (t208.mpr c4)]
    exact trp_R R hm c4
  rw [if_neg (fun z => c4 (t208.mp z))]
  by_cases c5 : X.kd c.j = 209
  · rw [if_pos (t209.mpr c5)]
    obtain ⟨h', e, q⟩ := if_R R hm c5
    rw [e, xhv_s]; exact ⟨h', rfl, q⟩
  rw [if_neg (fun z => c5 (t209.mp z))]
  obtain ⟨h', e, w, -⟩ := R.pt.wr
  rw [e, xhv_s]
  refine ⟨h', rfl, ?_⟩
  unfold aSt
  rw [if_neg c3, if_neg c1, if_neg c4, if_neg c5, if_neg c2]
  exact w.fl
end CLR
/-! what A keeps in an EXPR -/
theorem nHm_01 (m : MkA) : nHm m = 0 ∨ nHm m = 1 := by
  unfold nHm
  split
  · exact Or.inr rfl
  · split
    · exact Or.inr rfl
    · exact Or.inl rfl
theorem HK.n1 {m : MkA} {M : List MkA} {H : List Nat} (h : HK (m :: M) H) (c : nHm m = 1) : ∃ w H', H = w :: H' ∧ (¬ m.k = 123 → w ≤ 64) ∧ HK M H' := by
  have h : (if nHm m = 1 then ∃ w H', H = w :: H' ∧ (¬ m.k = 123 → w ≤ 64) ∧ HK M H' else HK M H) := h
  rw [if_pos c] at h; exact h
theorem HK.n0 {m : MkA} {M : List MkA} {H : List Nat} (h : HK (m :: M) H) (c : nHm m = 0) : HK M H := by
  have h : (if nHm m = 1 then ∃ w H', H = w :: H' ∧ (¬ m.k = 123 → w ≤ 64) ∧ HK M H' else HK M H) := h
  rw [if_neg (by omega)] at h; exact h
theorem HK.p1 {m : MkA} {M : List MkA} {w : Nat} {H : List Nat} (c : nHm m = 1) (hw : ¬ m.k = 123 → w ≤ 64) (h : HK M H) : HK (m :: M) (w :: H) := by
  show (if nHm m = 1 then ∃ w' H', w :: H = w' :: H' ∧ (¬ m.k = 123 → w' ≤ 64) ∧ HK M H' else HK M (w :: H))
  rw [if_pos c]; exact ⟨w, H, rfl, hw, h⟩
theorem HK.p0 {m : MkA} {M : List MkA} {H : List Nat} (c : nHm m = 0) (h : HK M H) : HK (m :: M) H := by
  show (if nHm m = 1 then ∃ w' H', H = w' :: H' ∧ (¬ m.k = 123 → w' ≤ 64) ∧ HK M H' else HK M H)
  rw [if_neg (by omega)]; exact h
theorem HW.m3 {M : List MkA} {w : Nat} {H : List Nat} (hw : w ≤ 64) (h : HK M H) : HW 3 M (w :: H) := by
  unfold HW; rw [if_pos rfl]; exact ⟨w, H, rfl, hw, h⟩
theorem HW.m2 {M : List MkA} {H : List Nat} (h : HK M H) : HW 2 M H := by
  unfold HW; rw [if_neg (by omega)]; exact h
theorem popS_k : ∀ {M : List MkA} {w : Nat} {H : List Nat} {d : Nat} {r : List MkA × List Nat × Nat}, popS M (w :: H) d = some r → HK M H → nD M ≤ d → r.2.1 = w :: H ∧ HK r.1 H ∧ r.2.2 + nD M = d + nD r.1 := by
  intro M
  induction M with
  | nil =>
    intro w H d r e hK hd
    have e : some ([], w :: H, d) = some r := e
    cases e
    exact ⟨rfl, hK, rfl⟩
  | cons m M ih =>
    intro w H d r e hK hd
    have e : (if m.k = 305 ∨ m.k = 306 then popS M (w :: H) (d - 1) else if m.k = 307 then (if (w :: H).headD 0 = 1 then popS M (w :: H) (d - 1) else none) else some (m :: M, w :: H, d)) = some r := e
    have go : (m.k = 305 ∨ m.k = 306 ∨ m.k = 307) → popS M (w :: H) (d - 1) = some r → r.2.1 = w :: H ∧ HK r.1 H ∧ r.2.2 + nD (m :: M) = d + nD r.1 := fun hk e => by
      have b2 : nD (m :: M) = nDm m + nD M := rfl
      rw [b2, nDm_s hk] at hd ⊢
      obtain ⟨a1, a2, a3⟩ := ih e (hK.n0 (nHm_s hk)) (by omega)
      exact ⟨a1, a2, by omega⟩
    by_cases c1 : m.k = 305 ∨ m.k = 306
    · rw [if_pos c1] at e
      exact go (by omega) e
    rw [if_neg c1] at e
    by_cases c2 : m.k = 307
    · rw [if_pos c2] at e
      by_cases c3 : (w :: H).headD 0 = 1
      · rw [if_pos c3] at e; exact go (by omega) e
      · rw [if_neg c3] at e; cases e
    · rw [if_neg c2] at e
      cases e
      exact ⟨rfl, hK, rfl⟩
theorem lvq_123 {k : Nat} (h : 0 < lvq k) : ¬ k = 123 := fun z => by rw [z] at h; exact absurd h (by decide)
theorem tw_b {k x y z : Nat} (e : tw k x y = some z) (hx : x ≤ 64) : z ≤ 64 := by
  unfold tw at e
  split at e
  · have e := Option.some.inj e
    rw [← e]
    split <;> omega
  · cases e
theorem popB_k {l : Nat} (hl : 1 ≤ l) : ∀ {M : List MkA} {w : Nat} {H : List Nat} {t : List MkA × List Nat}, popB l M (w :: H) = some t → HK M H → w ≤ 64 → ∃ w' H', t.2 = w' :: H' ∧ w' ≤ 64 ∧ HK t.1 H' := by
  intro M
  induction M with
  | nil =>
    intro w H t e hK hw
    have e : some ([], w :: H) = some t := e
    cases e
    exact ⟨w, H, rfl, hw, hK⟩
  | cons m M ih =>
    intro w H t e hK hw
    have e : (if l ≤ lvq m.k then (tw m.k ((w :: H).tail.headD 0) ((w :: H).headD 0)).bind fun z => popB l M (z :: (w :: H).tail.tail) else some (m :: M, w :: H)) = some t := e
    by_cases c : l ≤ lvq m.k
    · rw [if_pos c] at e
      obtain ⟨x, H', eH, hx, hK'⟩ := hK.n1 (nHm_b (by omega))
      have hx := hx (lvq_123 (by omega))
      rw [eH] at e
      have e : (tw m.k x w).bind (fun z => popB l M (z :: H')) = some t := e
      cases ez : tw m.k x w with
      | none => rw [ez] at e; cases e
      | some z =>
        rw [ez] at e
        exact ih e hK' (tw_b ez hx)
    · rw [if_neg c] at e
      cases e
      exact ⟨w, H, rfl, hw, hK⟩
theorem popC_k : ∀ {M : List MkA} {w : Nat} {H : List Nat} {d : Nat} {r : List MkA × List Nat × Nat}, popC M (w :: H) d = some r → HK M H → w ≤ 64 → nD M ≤ d → (∃ w' H', r.2.1 = w' :: H' ∧ w' ≤ 64 ∧ HK r.1 H') ∧ r.2.2 + nD M = d + nD r.1 := by
  intro M
  induction M with
  | nil =>
    intro w H d r e hK hw hd
    have e : some ([], w :: H, d) = some r := e
    cases e
    exact ⟨⟨w, H, rfl, hw, hK⟩, rfl⟩
  | cons m M ih =>
    intro w H d r e hK hw hd
    have e : (if m.k = 58 then (if m.q = 1 ∧ (w :: H).tail.headD 0 = (w :: H).headD 0 then popC M ((w :: H).tail.headD 0 :: (w :: H).tail.tail) (d - 1) else none) else some (m :: M, w :: H, d)) = some r := e
    by_cases c : m.k = 58
    · rw [if_pos c] at e
      obtain ⟨x, H', eH, hx, hK'⟩ := hK.n1 (nHm_58 c)
      have hx := hx (by omega)
      by_cases c2 : m.q = 1 ∧ (w :: H).tail.headD 0 = (w :: H).headD 0
      · rw [if_pos c2, eH] at e
        have b2 : nD (m :: M) = nDm m + nD M := rfl
        rw [b2, nDm_58 c] at hd ⊢
        obtain ⟨a1, a2⟩ := ih e hK' hx (by omega)
        exact ⟨a1, by omega⟩
      · rw [if_neg c2] at e; cases e
    · rw [if_neg c] at e
      cases e
      exact ⟨⟨w, H, rfl, hw, hK⟩, rfl⟩
theorem AMj.mo {j j' : Nat} {m : MkA} (h : AMj j m) (hj : j ≤ j') : AMj j' m := ⟨⟨h.1.1, fun z => by have := h.1.2.1 z; omega, h.1.2.2⟩, h.2⟩
/-- a step inside of an EXPR -/
def AQk (j d : Nat) (M : List MkA) (o : OuA) (c : CfA) : Prop := (c.o = o) ∧ (c.md = 2 ∨ c.md = 3) ∧ (∀ m, m ∈ c.M → AMj c.j m) ∧ (HW c.md c.M c.H) ∧ (c.d + nD M = d + nD c.M)
theorem AQk.o {j d : Nat} {M : List MkA} {o : OuA} {c : CfA} (h99 : AQk j d M o c) : c.o = o := h99.1
theorem AQk.md {j d : Nat} {M : List MkA} {o : OuA} {c : CfA} (h99 : AQk j d M o c) : c.md = 2 ∨ c.md = 3 := h99.2.1
theorem AQk.am {j d : Nat} {M : List MkA} {o : OuA} {c : CfA} (h99 : AQk j d M o c) : ∀ m, m ∈ c.M → AMj c.j m := h99.2.2.1
theorem AQk.hw {j d : Nat} {M : List MkA} {o : OuA} {c : CfA} (h99 : AQk j d M o c) : HW c.md c.M c.H := h99.2.2.2.1
theorem AQk.dq {j d : Nat} {M : List MkA} {o : OuA} {c : CfA} (h99 : AQk j d M o c) : c.d + nD M = d + nD c.M := h99.2.2.2.2
theorem amC {j j' : Nat} {m' : MkA} {M : List MkA} (hA : ∀ m, m ∈ M → AMj j m) (hj : j ≤ j') (h' : AMj j' m') : ∀ m, m ∈ m' :: M → AMj j' m := fun m q => by
  rcases List.mem_cons.mp q with q | q
  · rw [q]; exact h'
  · exact (hA m q).mo hj
theorem amM {j j' : Nat} {M : List MkA} (hA : ∀ m, m ∈ M → AMj j m) (hj : j ≤ j') : ∀ m, m ∈ M → AMj j' m := fun m q => (hA m q).mo hj
theorem am0 {j k c q : Nat} (h91 : ¬ k = 91) (h123 : k = 123 → c ≤ j) (h63 : ¬ k = 63 ∧ ¬ k = 58) : AMj j ⟨k, c, q⟩ := ⟨⟨fun z => absurd z h91, h123, fun z => by have z : k = 63 ∨ k = 58 := z; omega⟩, fun z => absurd z h91⟩
theorem nHm_z {m : MkA} (h1 : lvq m.k = 0) (h2 : ¬ m.k = 58) (h3 : ¬ (m.k = 123 ∨ (213 ≤ m.k ∧ m.k ≤ 216)) ∨ m.c = 0) : nHm m = 0 := by
  unfold nHm
  rw [if_neg (by omega), if_neg (fun z => h3.elim (fun w => w z.1) (fun w => z.2 w))]
section AK
variable {X : TX} {j d : Nat} {M : List MkA} {H : List Nat} {o : OuA} {c : CfA}
theorem lvq_s0 {k : Nat} (h : k = 305 ∨ k = 306 ∨ k = 307 ∨ k = 40 ∨ k = 123 ∨ k = 91 ∨ k = 63 ∨ (211 ≤ k ∧ k ≤ 216)) : lvq k = 0 := by
  rcases h with h | h | h | h
  · exact lvq_s (Or.inl h)
  · exact lvq_s (Or.inr (Or.inl h))
  · exact lvq_s (Or.inr (Or.inr h))
  · exact lvq_k (by omega)
/-- a mark of depth 1 that holds no width -/
theorem opnK {j' k x q : Nat} (hK : HK M H) (hA : ∀ m, m ∈ M → AMj j m) (hj : j ≤ j') (hl : k = 305 ∨ k = 306 ∨ k = 307 ∨ k = 40 ∨ k = 123 ∨ k = 91 ∨ k = 63 ∨ (211 ≤ k ∧ k ≤ 216)) (hx : k = 123 ∨ (213 ≤ k ∧ k ≤ 216) → x = 0) (h' : AMj j' ⟨k, x, q⟩) : AQk j d M o ⟨2, j', d + 1, ⟨k, x, q⟩ :: M, H, o⟩ := by
  have e0 := lvq_s0 hl
  refine ⟨rfl, Or.inl rfl, amC hA hj h', HW.m2 (HK.p0 (nHm_z e0 (by show ¬ k = 58; omega) ?_) hK), ?_⟩
  · by_cases z : k = 123 ∨ (213 ≤ k ∧ k ≤ 216)
    · exact Or.inr (hx z)
    · exact Or.inl z
  · show d + 1 + nD M = d + (nDm (MkA.mk (k) (x) (q)) + nD M)
    unfold nDm
    rw [if_neg (by show ¬ 0 < lvq k; omega)]; omega
/-- operand -/
theorem aOp_k (e : aOp X j d M H o = some c) (hK : HK M H) (hA : ∀ m, m ∈ M → AMj j m) (hlk : X.kd j = 3 → ¬ (o.lk (X.nm j)).1 = 0 → 0 < (o.lk (X.nm j)).2 ∧ (o.lk (X.nm j)).2 ≤ 64) : AQk j d M o c := by
  have sim : ∀ k, (k = 305 ∨ k = 306 ∨ k = 307 ∨ k = 40 ∨ k = 123 ∨ (211 ≤ k ∧ k ≤ 216)) → ∀ j', j ≤ j' → AQk j d M o ⟨2, j', d + 1, ⟨k, 0, 0⟩ :: M, H, o⟩ := fun k hk j' hj => opnK hK hA hj (by omega) (fun _ => rfl) (am0 (by omega) (fun _ => Nat.zero_le _) (by omega))
  unfold aOp at e
  by_cases c1 : X.kd j = 45
  · rw [if_pos c1] at e
    split at e
    · rw [← Option.some.inj e]; exact sim 305 (by omega) _ (by omega)
    · cases e
  rw [if_neg c1] at e
  by_cases c2 : X.kd j = 126
  · rw [if_pos c2] at e
    split at e
    · rw [← Option.some.inj e]; exact sim 306 (by omega) _ (by omega)
    · cases e
  rw [if_neg c2] at e
  by_cases c3 : X.kd j = 33
  · rw [if_pos c3] at e
    split at e
    · rw [← Option.some.inj e]; exact sim 307 (by omega) _ (by omega)
    · cases e
  rw [if_neg c3] at e
  by_cases c4 : X.kd j = 40 ∨ X.kd j = 123
  · rw [if_pos c4] at e
    split at e
    · rw [← Option.some.inj e]; exact sim _ (by omega) _ (by omega)
    · cases e
  rw [if_neg c4] at e
  by_cases c5 : X.kd j = 4
  · rw [if_pos c5] at e
    split at e
    · rename_i z
      rw [← Option.some.inj e]
      exact ⟨rfl, Or.inr rfl, amM hA (by show j ≤ j + 3; omega), HW.m3 z.2.2.2.1 hK, rfl⟩
    · cases e
  rw [if_neg c5] at e
  by_cases c6 : X.kd j = 3
  · rw [if_pos c6] at e
    by_cases z : (o.lk (X.nm j)).1 = 2 ∧ X.kd (j + 1) = 91
    · rw [if_pos z] at e
      split at e
      · rw [← Option.some.inj e]
        obtain ⟨w1, w2⟩ := hlk c6 (by omega)
        exact opnK hK hA (by omega) (by omega) (fun y => by omega) ⟨⟨fun _ => w1, fun y => absurd y (by show ¬ 91 = 123; omega), fun y => by have y : 91 = 63 ∨ 91 = 58 := y; omega⟩, fun _ => w2⟩
      · cases e
    · rw [if_neg z] at e
      split at e
      · rename_i y
        rw [← Option.some.inj e]
        obtain ⟨w1, w2⟩ := hlk c6 (by omega)
        exact ⟨rfl, Or.inr rfl, amM hA (by show j ≤ j + 1; omega), HW.m3 w2 hK, rfl⟩
      · cases e
  rw [if_neg c6] at e
  by_cases c7 : 211 ≤ X.kd j ∧ X.kd j ≤ 216
  · rw [if_pos c7] at e
    split at e
    · rw [← Option.some.inj e]; exact sim _ (by omega) _ (by omega)
    · cases e
  · rw [if_neg c7] at e; cases e
theorem aPk_k {w : Nat} (e : aPk X j d M (w :: H) o = some c) (hK : HK M H) (hw : w ≤ 64) (hA : ∀ m, m ∈ M → AMj j m) : AQk j d M o c := by
  unfold aPk at e
  split at e
  · split at e
    · split at e
      · rename_i z
        rw [← Option.some.inj e]
        have z3 : X.nu (j + 1) < w := z.2.2.1
        exact ⟨rfl, Or.inr rfl, amM hA (by show j ≤ j + 5; omega), HW.m3 (by omega) hK, rfl⟩
      · cases e
    · split at e
      · rw [← Option.some.inj e]
        exact ⟨rfl, Or.inr rfl, amM hA (by show j ≤ j + 3; omega), HW.m3 (by omega) hK, rfl⟩
      · cases e
  · cases e
theorem nDm_1 {m : MkA} (h : lvq m.k = 0) : nDm m = 1 := by unfold nDm; rw [if_neg (by omega)]
/-- behind a part of an EXPR -/
theorem aGo_k {m : MkA} {w : Nat} (e : aGo X m j d M (w :: H) o = some c) (hK : HK (m :: M) H) (hw : w ≤ 64) (hA : ∀ x, x ∈ m :: M → AMj j x) (hd : nD (m :: M) ≤ d) : AQk j d (m :: M) o c := by
  have hm := hA m List.mem_cons_self
  have hA' : ∀ x, x ∈ M → AMj j x := fun x q => hA x (List.mem_cons_of_mem _ q)
  have bD : nD (m :: M) = nDm m + nD M := rfl
  unfold aGo at e
  by_cases c1 : m.k = 63 ∧ X.kd j = 58
  · rw [if_pos c1] at e
    rw [← Option.some.inj e]
    refine ⟨rfl, Or.inl rfl, amC hA' (by show j ≤ j + 1; omega) ⟨⟨fun z => absurd z (by show ¬ 58 = 91; omega), fun z => absurd z (by show ¬ 58 = 123; omega), fun _ => hm.1.2.2 (Or.inl c1.1)⟩, fun z => absurd z (by show ¬ 58 = 91; omega)⟩, HW.m2 (HK.p1 (nHm_58 rfl) (fun _ => hw) (hK.n0 (nHm_z (lvq_s0 (by omega)) (by omega) (Or.inl (by omega))))), ?_⟩
    show d + (nDm m + nD M) = d + (nDm (MkA.mk 58 0 m.q) + nD M)
    rw [nDm_1 (lvq_s0 (by omega)), nDm_58 (m := MkA.mk 58 0 m.q) rfl]
  rw [if_neg c1] at e
  by_cases c2 : m.k = 123 ∧ (X.kd j = 44 ∨ X.kd j = 125)
  · rw [if_pos c2] at e
    have hcj := hm.1.2.1 c2.1
    have h123 := nHm_123 c2.1
    have n1 : nDm m = 1 := nDm_1 (lvq_s0 (by omega))
    -- what is held behind it
    have key : ∃ w' H', (if m.c = 0 then (w :: H) else ((w :: H).tail.headD 0 + (w :: H).headD 0) :: (w :: H).tail.tail) = w' :: H' ∧ (if m.c = 0 then (w :: H).headD 0 else (w :: H).tail.headD 0 + (w :: H).headD 0) = w' ∧ HK M H' := by
      by_cases z : m.c = 0
      · rw [if_pos z] at h123
        rw [if_pos z, if_pos z]
        exact ⟨w, H, rfl, rfl, hK.n0 h123⟩
      · rw [if_neg z] at h123
        obtain ⟨x, H', eH, -, hK'⟩ := hK.n1 h123
        rw [if_neg z, if_neg z, eH]
        exact ⟨x + w, H', rfl, rfl, hK'⟩
    obtain ⟨w', H', e1, e2, hK'⟩ := key
    rw [e1, e2] at e
    by_cases z : X.kd j = 44
    · rw [if_pos z] at e
      rw [← Option.some.inj e]
      refine ⟨rfl, Or.inl rfl, amC hA' (by show j ≤ j + 1; omega) (am0 (by omega) (fun _ => by show m.c + 1 ≤ j + 1; omega) (by omega)), HW.m2 (HK.p1 ?_ (fun y => absurd rfl y) hK'), ?_⟩
      · show nHm (MkA.mk 123 (m.c + 1) 0) = 1; rw [nHm_123 (m := MkA.mk 123 (m.c + 1) 0) rfl, if_neg (by show ¬ m.c + 1 = 0; omega)]
      · show d + (nDm m + nD M) = d + (nDm (MkA.mk (123) (m.c + 1) (0)) + nD M)
        rw [n1, nDm_1 (m := MkA.mk (123) (m.c + 1) (0)) rfl]
    · rw [if_neg z] at e
      split at e
      · rename_i y
        rw [← Option.some.inj e]
        refine ⟨rfl, Or.inr rfl, amM hA' (by show j ≤ j + 1; omega), HW.m3 y hK', ?_⟩
        show d - 1 + (nDm m + nD M) = d + nD M
        rw [n1]; omega
      · cases e
  rw [if_neg c2] at e
  by_cases c3 : m.k = 91 ∧ X.kd j = 93
  · rw [if_pos c3] at e
    rw [← Option.some.inj e]
    refine ⟨rfl, Or.inr rfl, amM hA' (by show j ≤ j + 1; omega), HW.m3 (hm.2 c3.1) (hK.n0 (nHm_z (lvq_s0 (by omega)) (by omega) (Or.inl (by omega)))), ?_⟩
    show d - 1 + (nDm m + nD M) = d + nD M
    rw [bD, nDm_1 (lvq_s0 (by omega))] at hd; rw [nDm_1 (lvq_s0 (by omega))]; omega
  rw [if_neg c3] at e
  by_cases c4 : m.k = 40 ∧ X.kd j = 41
  · rw [if_pos c4] at e
    rw [← Option.some.inj e]
    refine ⟨rfl, Or.inr rfl, amM hA' (by show j ≤ j + 1; omega), HW.m3 hw (hK.n0 (nHm_z (lvq_s0 (by omega)) (by omega) (Or.inl (by omega)))), ?_⟩
    show d - 1 + (nDm m + nD M) = d + nD M
    rw [bD, nDm_1 (lvq_s0 (by omega))] at hd; rw [nDm_1 (lvq_s0 (by omega))]; omega
  rw [if_neg c4] at e
  by_cases c5 : (m.k = 211 ∨ m.k = 212) ∧ X.kd j = 44
  · rw [if_pos c5] at e
    split at e
    · rename_i y
      rw [← Option.some.inj e]
      refine ⟨rfl, Or.inr rfl, amM hA' (by show j ≤ j + 3; omega), HW.m3 y.2.2.2.1 (hK.n0 (nHm_z (lvq_s0 (by omega)) (by omega) (Or.inl (by omega)))), ?_⟩
      show d - 1 + (nDm m + nD M) = d + nD M
      rw [bD, nDm_1 (lvq_s0 (by omega))] at hd; rw [nDm_1 (lvq_s0 (by omega))]; omega
    · cases e
  rw [if_neg c5] at e
  by_cases c6 : (213 ≤ m.k ∧ m.k ≤ 216) ∧ X.kd j = 44 ∧ m.c = 0
  · rw [if_pos c6] at e
    rw [← Option.some.inj e]
    refine ⟨rfl, Or.inl rfl, amC hA' (by show j ≤ j + 1; omega) (am0 (by omega) (fun z => by omega) (by omega)), HW.m2 (HK.p1 (nHm_2 (m := MkA.mk (m.k) (1) (0)) c6.1 (by show ¬ 1 = 0; omega)) (fun _ => hw) (hK.n0 (nHm_z (lvq_s0 (by omega)) (by omega) (Or.inr c6.2.2)))), ?_⟩
    show d + (nDm m + nD M) = d + (nDm (MkA.mk (m.k) (1) (0)) + nD M)
    rw [nDm_1 (m := m) (lvq_s0 (by omega)), nDm_1 (m := MkA.mk (m.k) (1) (0)) (lvq_s0 (by show m.k = 305 ∨ m.k = 306 ∨ m.k = 307 ∨ m.k = 40 ∨ m.k = 123 ∨ m.k = 91 ∨ m.k = 63 ∨ (211 ≤ m.k ∧ m.k ≤ 216); omega))]
  rw [if_neg c6] at e
  by_cases c7 : (213 ≤ m.k ∧ m.k ≤ 216) ∧ X.kd j = 41 ∧ ¬ m.c = 0
  · rw [if_pos c7] at e
    obtain ⟨x, H', eH, hx, hK'⟩ := hK.n1 (nHm_2 c7.1 c7.2.2)
    rw [eH] at e
    have e : (tw m.k x w).bind (fun z => some (CfA.mk 3 (j + 1) (d - 1) M (z :: H') o)) = some c := e
    cases ez : tw m.k x w with
    | none => rw [ez] at e; cases e
    | some z =>
      rw [ez] at e
      have e : some (CfA.mk 3 (j + 1) (d - 1) M (z :: H') o) = some c := e
      rw [← Option.some.inj e]
      refine ⟨rfl, Or.inr rfl, amM hA' (by show j ≤ j + 1; omega), HW.m3 (tw_b ez (hx (by omega))) hK', ?_⟩
      show d - 1 + (nDm m + nD M) = d + nD M
      rw [bD, nDm_1 (lvq_s0 (by omega))] at hd; rw [nDm_1 (lvq_s0 (by omega))]; omega
  · rw [if_neg c7] at e; cases e
end AK
theorem popB_p {l : Nat} : ∀ {M : List MkA} {H : List Nat} {t : List MkA × List Nat}, popB l M H = some t → H.length = nH M + 1 → 1 ≤ l → (∀ x, x ∈ H → 0 < x) → ∀ x, x ∈ t.2 → 0 < x := by
  intro M
  induction M with
  | nil =>
    intro H t e _ _ hp
    have e : some ([], H) = some t := e
    cases e; exact hp
  | cons m M ih =>
    intro H t e hL hl hp
    have e : (if l ≤ lvq m.k then (tw m.k (H.tail.headD 0) (H.headD 0)).bind fun z => popB l M (z :: H.tail.tail) else some (m :: M, H)) = some t := e
    by_cases c : l ≤ lvq m.k
    · rw [if_pos c] at e
      have b : nH (m :: M) = nHm m + nH M := rfl
      rw [b, nHm_b (by omega)] at hL
      cases H with
      | nil => exact absurd hL (by rw [List.length_nil]; omega)
      | cons w H =>
        cases H with
        | nil => exact absurd hL (by rw [List.length_cons, List.length_nil]; omega)
        | cons x H =>
          rw [List.length_cons, List.length_cons] at hL
          have e : (tw m.k x w).bind (fun z => popB l M (z :: H)) = some t := e
          cases ez : tw m.k x w with
          | none => rw [ez] at e; cases e
          | some z =>
            rw [ez] at e
            refine ih e (by rw [List.length_cons]; omega) hl (fun y q => ?_)
            rcases List.mem_cons.mp q with q | q
            · rw [q]
              unfold tw at ez
              split at ez
              · have ez := Option.some.inj ez
                rw [← ez]
                have := hp x (List.mem_cons_of_mem _ List.mem_cons_self)
                split <;> omega
              · cases ez
            · exact hp y (List.mem_cons_of_mem _ (List.mem_cons_of_mem _ q))
    · rw [if_neg c] at e
      cases e; exact hp
section AFK
variable {X : TX} {j d : Nat} {M : List MkA} {w : Nat} {H : List Nat} {o : OuA} {c : CfA}
theorem aFi_o {d' : Nat} {H' : List Nat} (e : aFi X j d' H' o = some c) (ho : c.o = o) (hm : c.md = 2 ∨ c.md = 3) : False := by
  unfold aFi at e
  split at e
  · rename_i g1
    split at e
    · rw [← Option.some.inj e] at ho
      have := congrArg OuA.gl ho
      have : (3 : Nat) = o.gl := this
      omega
    · cases e
  · split at e
    · split at e
      · rw [← Option.some.inj e] at hm
        have hm : (1 : Nat) = 2 ∨ (1 : Nat) = 3 := hm
        omega
      · cases e
    · split at e
      · split at e
        · rw [← Option.some.inj e] at hm
          have hm : (1 : Nat) = 2 ∨ (1 : Nat) = 3 := hm
          omega
        · cases e
      · split at e
        · rw [← Option.some.inj e] at hm
          have hm : (1 : Nat) = 2 ∨ (1 : Nat) = 3 := hm
          omega
        · cases e
/-- behind an operand -/
theorem aAf_k (e : aAf X j d M (w :: H) o = some c) (ho : c.o = o) (hm : c.md = 2 ∨ c.md = 3) (hK : HK M H) (hw : w ≤ 64) (hp : ∀ x, x ∈ w :: H → 0 < x) (hA : ∀ m, m ∈ M → AMj j m) (hd : nD M ≤ d) : AQk j d M o c := by
  unfold aAf at e
  by_cases c1 : X.kd j = 91
  · rw [if_pos c1] at e
    exact aPk_k e hK hw hA
  rw [if_neg c1] at e
  cases eS : popS M (w :: H) d with
  | none => rw [eS] at e; cases e
  | some r =>
  rw [eS] at e
  have e : (if 0 < lvq (X.kd j) then (popB (lvq (X.kd j)) r.1 r.2.1).bind fun t => some (CfA.mk 2 (j + 1) r.2.2 (⟨X.kd j, 0, 0⟩ :: t.1) t.2 o) else (popB 1 r.1 r.2.1).bind fun t => aCh X j r.2.2 t.1 t.2 o) = some c := e
  obtain ⟨s1, s2, s3⟩ := popS_k eS hK hd
  obtain ⟨-, -, s4, -, -, s5⟩ := popS_f eS
  have s4 := s4 hd
  have hA1 : ∀ m, m ∈ r.1 → AMj j m := fun m q => hA m (s5 m q)
  have hL : (w :: H).length = nH r.1 + 1 := by rw [List.length_cons, s2.len]
  rw [s1] at e
  by_cases c2 : 0 < lvq (X.kd j)
  · rw [if_pos c2] at e
    cases eB : popB (lvq (X.kd j)) r.1 (w :: H) with
    | none => rw [eB] at e; cases e
    | some t =>
    rw [eB] at e
    have e : some (CfA.mk 2 (j + 1) r.2.2 (⟨X.kd j, 0, 0⟩ :: t.1) t.2 o) = some c := e
    obtain ⟨w', H', b1, b2, b3⟩ := popB_k (by omega) eB s2 hw
    obtain ⟨-, -, b4, -, b5⟩ := popB_f (by omega) eB hL
    rw [← Option.some.inj e, b1]
    have k63 : ¬ X.kd j = 63 ∧ ¬ X.kd j = 58 := ⟨fun z => by rw [z] at c2; exact absurd c2 (by decide), fun z => by rw [z] at c2; exact absurd c2 (by decide)⟩
    refine ⟨rfl, Or.inl rfl, amC (fun m q => hA1 m (b5 m q)) (by show j ≤ j + 1; omega) (am0 c1 (fun z => absurd z (lvq_123 c2)) k63), HW.m2 (HK.p1 (nHm_b c2) (fun _ => b2) b3), ?_⟩
    show r.2.2 + nD M = d + (nDm (MkA.mk (X.kd j) (0) (0)) + nD t.1)
    rw [nDm_b (m := MkA.mk (X.kd j) (0) (0)) c2, b4]; omega
  · rw [if_neg c2] at e
    cases eB : popB 1 r.1 (w :: H) with
    | none => rw [eB] at e; cases e
    | some t =>
    rw [eB] at e
    have e : aCh X j r.2.2 t.1 t.2 o = some c := e
    obtain ⟨w', H', b1, b2, b3⟩ := popB_k (by omega) eB s2 hw
    obtain ⟨-, -, b4, -, b5⟩ := popB_f (by omega) eB hL
    have bp := popB_p eB hL (by omega) hp
    rw [b1] at bp e
    have hA2 : ∀ m, m ∈ t.1 → AMj j m := fun m q => hA1 m (b5 m q)
    unfold aCh at e
    by_cases c3 : X.kd j = 63
    · rw [if_pos c3] at e
      split at e
      · rw [← Option.some.inj e]
        have w0 : 0 < w' := bp w' List.mem_cons_self
        refine ⟨rfl, Or.inl rfl, amC hA2 (by show j ≤ j + 1; omega) ⟨⟨fun z => absurd z (by show ¬ 63 = 91; omega), fun z => absurd z (by show ¬ 63 = 123; omega), fun _ => w0⟩, fun z => absurd z (by show ¬ 63 = 91; omega)⟩, HW.m2 (HK.p0 (nHm_z rfl (by show ¬ 63 = 58; omega) (Or.inl (by show ¬ (63 = 123 ∨ (213 ≤ 63 ∧ 63 ≤ 216)); omega))) b3), ?_⟩
        show r.2.2 + 1 + nD M = d + (nDm (MkA.mk (63) (0) (w')) + nD t.1)
        rw [nDm_1 (m := MkA.mk (63) (0) (w')) rfl, b4]; omega
      · cases e
    · rw [if_neg c3] at e
      cases eC : popC t.1 (w' :: H') r.2.2 with
      | none => rw [eC] at e; cases e
      | some u =>
      rw [eC] at e
      have e : (match (generalizing := false) u.1 with | [] => aFi X j u.2.2 u.2.1 o | m :: M' => aGo X m j u.2.2 M' u.2.1 o) = some c := e
      have hL2 : (w' :: H').length = nH t.1 + 1 := by rw [List.length_cons, b3.len]
      obtain ⟨⟨x, H2, d1, d2, d3⟩, d4⟩ := popC_k eC b3 b2 (by omega)
      obtain ⟨-, -, d5, -, -, d6⟩ := popC_f eC hL2
      have d5 := d5 (by omega)
      have hA3 : ∀ m, m ∈ u.1 → AMj j m := fun m q => hA2 m (d6 m q)
      rw [d1] at e
      obtain ⟨L, eL⟩ : ∃ L, L = u.1 := ⟨_, rfl⟩
      rw [← eL] at e d3 d4 d5 hA3
      cases L with
      | nil => exact absurd (aFi_o e ho hm) (fun z => z)
      | cons m M' =>
        obtain ⟨k1, k2, k3, k4, k5⟩ := aGo_k e d3 d2 hA3 d5
        exact ⟨k1, k2, k3, k4, by omega⟩
/-- where the EXPR is over -/
theorem aAf_d {d' w' : Nat} (e : ∃ r t, popS M (w :: H) d = some r ∧ popB 1 r.1 r.2.1 = some t ∧ popC t.1 t.2 r.2.2 = some ([], [w'], d')) (hK : HK M H) (hw : w ≤ 64) (hd : nD M ≤ d) : d' + nD M = d ∧ w' ≤ 64 := by
  obtain ⟨r, t, eS, eB, eC⟩ := e
  obtain ⟨s1, s2, s3⟩ := popS_k eS hK hd
  obtain ⟨-, -, s4, -, -, s5⟩ := popS_f eS
  have s4 := s4 hd
  have hL : (w :: H).length = nH r.1 + 1 := by rw [List.length_cons, s2.len]
  rw [s1] at eB
  obtain ⟨w1, H1, b1, b2, b3⟩ := popB_k (by omega) eB s2 hw
  obtain ⟨-, -, b4, -, b5⟩ := popB_f (by omega) eB hL
  rw [b1] at eC
  obtain ⟨⟨x, H2, d1, d2, d3⟩, d4⟩ := popC_k eC b3 b2 (by omega)
  have d1 : [w'] = x :: H2 := d1
  have d4 : d' + nD t.1 = r.2.2 + 0 := d4
  have : w' = x := (List.cons.inj d1).1
  exact ⟨by omega, by omega⟩
end AFK
theorem HR.pos {h : mv_H} : ∀ {H : List Nat}, HR h H → ∀ x, x ∈ H → 0 < x := by
  intro H
  induction H with
  | nil => intro _ x q; exact absurd q List.not_mem_nil
  | cons w H ih =>
    intro hr x q
    rcases List.mem_cons.mp q with q | q
    · rw [q]; exact hr.1.2
    · exact ih hr.2 x q
/-- what the reading of an EXPR leaves -/
def RFq (P : Nat) (h h' : mv_H) : Prop := (∀ o k, ¬ ((o = 3 ∧ 7 ≤ k ∧ k ≤ 9) ∨ (o = 22 ∧ (k = 8 ∨ k = 10)) ∨ (o = P ∧ k = 17) ∨ o = 21) → mv_i h' o k = mv_i h o k) ∧ (∀ o, ¬ ((23 ≤ o ∧ o ≤ 27) ∨ o = P + 9) → mv_a h' o = mv_a h o) ∧ (∀ o, ¬ o = P + 10 → mv_b h' o = mv_b h o)
theorem RFq.i {P : Nat} {h h' : mv_H} (h99 : RFq P h h') : ∀ o k, ¬ ((o = 3 ∧ 7 ≤ k ∧ k ≤ 9) ∨ (o = 22 ∧ (k = 8 ∨ k = 10)) ∨ (o = P ∧ k = 17) ∨ o = 21) → mv_i h' o k = mv_i h o k := h99.1
theorem RFq.a {P : Nat} {h h' : mv_H} (h99 : RFq P h h') : ∀ o, ¬ ((23 ≤ o ∧ o ≤ 27) ∨ o = P + 9) → mv_a h' o = mv_a h o := h99.2.1
theorem RFq.b {P : Nat} {h h' : mv_H} (h99 : RFq P h h') : ∀ o, ¬ o = P + 10 → mv_b h' o = mv_b h o := h99.2.2
theorem RFq.kp {P : Nat} {h h' : mv_H} (F : RFq P h h') (v : Int32) : Kp P h (mv_si h' 2 6 v) :=
  ⟨fun r h1 h2 => F.a r (by omega), fun r h1 => F.b r h1, fun o k h1 h2 h3 h4 h5 => (mv_u_ne (mv_i h') _ (by omega)).trans (F.i o k (by omega))⟩
theorem CXq.f26 {X : TX} {J P : Nat} {h : mv_H} {j d : Nat} {M : List MkA} {H : List Nat} (C : CXq X J P h j d M H) (v : Int32) : CXq X J P (mv_si h 2 6 v) j d M H := by
  have hpp := C.pp
  refine ⟨C.tb.fr rfl rfl rfl, hpp, C.at', C.jJ, C.dp, C.d2, C.ok, C.no, C.ml, ?_, C.hl, ?_, C.sm, ?_⟩
  · exact MR.fr (h := h) (h' := mv_si h 2 6 v) rfl C.mr (fun _ _ => ⟨rfl, rfl, rfl, rfl⟩)
  · exact HR.fr (h := h) C.hr (fun _ _ => rfl)
  · obtain ⟨z, e, hz⟩ := C.sz
    exact ⟨z, (mv_u_ne (mv_i h) _ (by omega)).trans e, hz⟩
theorem GoR.rf {X : TX} {J P : Nat} {sy : List Nat → Nat} {h h' : mv_H} {o : OuA} (G : GoR X J P sy h o) (hpp : P = 32 ∨ P = 48) (F : RFq P h h') (v : Int32) : GoR X J P sy (mv_si h' 2 6 v) o := by
  have e : ∀ k, ¬ k = 6 → mv_i (mv_si h' 2 6 v) 2 k = mv_i h 2 k := fun k hk => (mv_u_ne (mv_i h') _ (by omega)).trans (F.i 2 k (by omega))
  refine ⟨(e 7 (by omega)).trans G.g, G.g4, fun z => by rw [e 8 (by omega)]; exact G.t z, fun z => by rw [e 9 (by omega)]; exact G.l z, fun z => ?_⟩
  obtain ⟨u, u1, u2, u3, u4⟩ := G.w z
  exact ⟨u, (e 9 (by omega)).trans u1, u2, by rw [← u3]; exact congrFun (F.a (P + 1) (by omega)) u, u4⟩
section EXR
variable {X : TX} {J P : Nat} {sy : List Nat → Nat} {h : mv_H} {c : CfA} {lkB : LK} {C : List Nat} {SC : List (List Nat)} (R : RW X J P sy h c lkB C SC)
/-- a step inside of an EXPR -/
theorem RW.mkX (R : RW X J P sy h c lkB C SC) (hm : c.md = 2 ∨ c.md = 3) {h' : mv_H} {c' : CfA} (F : RFq P h h') (C' : CXq X J P h' c'.j c'.d c'.M c'.H) (K : AQk c.j c.d c.M c.o c') : RW X J P sy (mv_si h' 2 6 (nI c'.md)) c' lkB C SC := by
  have hpp := R.pp
  have C2 := C'.f26 (nI c'.md)
  obtain ⟨k1, k2, k3, k4, k5⟩ := K
  obtain ⟨-, -, -, G⟩ := R.ex hm
  have r := R.rn
  rw [if_neg (by omega)] at r
  have r2 := r.kp hpp (F.kp (nI c'.md))
  have l := R.lk (by omega)
  have de := R.de
  refine ⟨C2.tb, hpp, R.hJ, C2.at', C2.jJ, C2.dp, C2.d2, C2.ok, C2.no, C2.sz, rfl, by omega, ?_, fun _ => by rw [k1]; exact l, fun z => by omega, fun z => by omega, ?_, fun _ => ⟨C2, k3, k4, by rw [k1]; exact G.rf hpp F _⟩⟩
  · rw [if_neg (by omega), k1]; exact r2
  · rw [k1]
    by_cases z : c.o.gl = 1
    · rw [if_pos ⟨z, by omega, by omega⟩] at de
      rw [if_pos ⟨z, by omega, by omega⟩]; omega
    · rw [if_neg (fun y => z y.1)] at de
      rw [if_neg (fun y => z y.1)]; omega
theorem RW.wb (R : RW X J P sy h c lkB C SC) (hm : ¬ c.md = 0) {i : Nat} (hi : i ≤ J) (hk : X.kd i = 3) (h0 : ¬ (c.o.lk (X.nm i)).1 = 0) : 0 < (c.o.lk (X.nm i)).2 ∧ (c.o.lk (X.nm i)).2 ≤ 64 := by
  rw [(R.lk hm).1] at h0 ⊢
  rcases lkO_c lkB C (X.nm i) h R.rn.lt R.rn.cl with ⟨n, -, -, -, n1, n2, e, -, -⟩ | ⟨e, -⟩
  · rw [e]; exact ⟨n1, n2⟩
  · rw [e] at h0 ⊢
    rcases R.rn.kn i hi hk with ⟨-, K⟩ | ⟨v, u, w, -, -, -, -, -, k6, k7, k8⟩ | ⟨u, w, -, -, -, -, k6, k7, k8⟩
    · exact absurd K h0
    · rw [k6]; exact ⟨k7, k8⟩
    · rw [k6]; exact ⟨k7, k8⟩
/-- operand -/
theorem opr_R (R : RW X J P sy h c lkB C SC) (hm : c.md = 2) (hM : c.M.length ≤ 1000) (hH : c.H.length < 1024) : ∃ v h', f_Exprs_operand P h = some (v, h') ∧ ((Fl h' ∧ aSp X c = none) ∨ (∃ c', aSp X c = some c' ∧ v = (if c'.md = 3 then 1 else 0) ∧ (c'.md = 2 ∨ c'.md = 3) ∧ CXq X J P h' c'.j c'.d c'.M c'.H ∧ AQk c.j c.d c.M c.o c')) := by
  obtain ⟨Cx, hA, hW, G⟩ := R.ex (Or.inl hm)
  have eA : aSp X c = aOp X c.j c.d c.M c.H c.o := by unfold aSp; rw [hm]; rfl
  have r := R.rn
  have hK : HK c.M c.H := by
    unfold HW at hW; rw [if_neg (by omega)] at hW; exact hW
  obtain ⟨v, h', e, q⟩ := opr_C (o := c.o) Cx hM hH R.hJ r.h36 (fun z => r.nvi R.jJ z (R.lk (by omega)).1)
  refine ⟨v, h', e, ?_⟩
  rw [eA]
  have kk := @aOp_k X c.j c.d c.M c.H c.o
  revert q kk
  cases aOp X c.j c.d c.M c.H c.o with
  | none => exact fun q _ => Or.inl ⟨q.1, rfl⟩
  | some c' =>
    intro q kk
    have K := kk rfl hK hA (fun z y => R.wb (by omega) R.jJ z y)
    exact Or.inr ⟨c', rfl, q.2, K.md, q.1, K⟩
/-- behind an operand -/
theorem aft_R (R : RW X J P sy h c lkB C SC) (hm : c.md = 3) (hM : c.M.length ≤ 1000) (hH : nH c.M < 1000) : ∃ v h', f_Exprs_after P h = some (v, h') ∧ ((Fl h' ∧ aSp X c = none) ∨ (v = 2 ∧ ∃ d' w, CXq X J P h' c.j d' [] [w] ∧ aSp X c = aFi X c.j d' [w] c.o ∧ d' + nD c.M = c.d ∧ w ≤ 64) ∨ (∃ c', aSp X c = some c' ∧ v = (if c'.md = 3 then 1 else 0) ∧ (c'.md = 2 ∨ c'.md = 3) ∧ CXq X J P h' c'.j c'.d c'.M c'.H ∧ AQk c.j c.d c.M c.o c')) := by
  obtain ⟨Cx, hA, hW, G⟩ := R.ex (Or.inr hm)
  have eA : aSp X c = aAf X c.j c.d c.M c.H c.o := by unfold aSp; rw [hm]; rfl
  obtain ⟨w, H, eH, hw, hK⟩ : ∃ w H', c.H = w :: H' ∧ w ≤ 64 ∧ HK c.M H' := by
    unfold HW at hW; rw [if_pos hm] at hW; exact hW
  have hL : c.H.length = nH c.M + 1 := by rw [eH, List.length_cons, hK.len]
  have de := R.de
  have hd : nD c.M ≤ c.d := by omega
  have hp := Cx.hr.pos
  obtain ⟨v, h', e, q⟩ := aft_C (o := c.o) Cx hL hM hH hd (fun m z => (hA m z).1) R.hJ
  refine ⟨v, h', e, ?_⟩
  rw [eA]
  rw [eH] at q hp ⊢
  rcases q with q | ⟨q1, d', w', q2, q3, q4⟩ | ⟨c', q1, q2, q3, q4, q5⟩
  · exact Or.inl q
  · obtain ⟨z1, z2⟩ := aAf_d q4 hK hw hd
    exact Or.inr (Or.inl ⟨q1, d', w', q2, q3, z1, z2⟩)
  · have K := aAf_k q1 q4 q5 hK hw hp hA hd
    exact Or.inr (Or.inr ⟨c', q1, q3, q5, q2, K⟩)
end EXR
theorem lkO_p (C : List Nat) (x : List Nat) : (∃ n, ∀ lk : LK, lkO lk C x = (3, n)) ∨ (∀ lk : LK, lkO lk C x = lk x) := by
  cases x with
  | nil => exact Or.inr fun _ => rfl
  | cons c l =>
    cases l with
    | nil =>
      by_cases z : isl c = true ∧ 0 < cntL c C
      · exact Or.inl ⟨cntL c C, fun lk => by show (if isl c = true ∧ 0 < cntL c C then (3, cntL c C) else lk [c]) = _; rw [if_pos z]⟩
      · exact Or.inr fun lk => by show (if isl c = true ∧ 0 < cntL c C then (3, cntL c C) else lk [c]) = _; rw [if_neg z]
    | cons a l => exact Or.inr fun _ => rfl
section FIR
variable {X : TX} {J P : Nat} {sy : List Nat → Nat} {h : mv_H} {c : CfA} {lkB : LK} {C : List Nat} {SC : List (List Nat)} (R : RW X J P sy h c lkB C SC) (hm : c.md = 3)
/-- the EXPR is over -/
theorem fin_R (R : RW X J P sy h c lkB C SC) (hm : c.md = 3) {h1 : mv_H} {d' w : Nat} (F : RFq P h h1) (C1 : CXq X J P h1 c.j d' [] [w]) (hd' : d' + nD c.M = c.d) (hw : w ≤ 64) : ∃ h', f_Weaver_finish P (mv_si h1 2 6 3) = some h' ∧ StQ X J P sy C (aFi X c.j d' [w] c.o) h' := by
  have hpp := R.pp
  have hJ := R.hJ
  have hJb := R.tb.jb
  obtain ⟨-, -, -, G0⟩ := R.ex (Or.inr hm)
  obtain ⟨h2, eh2⟩ : ∃ h2, h2 = mv_si h1 2 6 3 := ⟨_, rfl⟩
  rw [← eh2]
  have C2 : CXq X J P h2 c.j d' [] [w] := by rw [eh2]; exact C1.f26 3
  have G : GoR X J P sy h2 c.o := by rw [eh2]; exact G0.rf hpp F 3
  have r0 := R.rn
  rw [if_neg (by omega)] at r0
  have r : RN X J P sy h2 c.o.s c.o.bl lkB C SC c.o.le := by rw [eh2]; exact r0.kp hpp (F.kp 3)
  obtain ⟨elk, hb⟩ := R.lk (by omega)
  have de := R.de
  have w0 : 0 < w := C2.hr.pos w List.mem_cons_self
  have e27 : mv_a h2 27 0 = nI w := C2.hr.1.1
  have e10 : mv_i h2 22 10 = nI 1 := C2.hl
  have t2 := r.t2
  have W : WA X J P sy h2 c.j d' := by
    refine ⟨⟨C2.tb, Sm.rf, C2.at', C2.jJ, C2.dp, C2.d2, by rw [C2.ok]; decide, rfl, fun z => z⟩, r.S, hpp, hJ, C2.sz, fun i k1 k2 z => ?_⟩
    rcases r.kn i k1 k2 with ⟨k, -⟩ | ⟨v, u, w, -, -, k3, k4, -⟩ | ⟨u, w, k, -⟩
    · rw [k] at z; exact absurd z (by decide)
    · exact ⟨u, k3, by omega⟩
    · rw [k] at z; exact absurd z (by decide)
  have hd2 := C2.d2
  have db : d' = c.o.bl.length + (if c.o.gl = 1 then 1 else 0) := by
    by_cases z : c.o.gl = 1
    · rw [if_pos ⟨z, by omega, by omega⟩] at de
      rw [if_pos z]; omega
    · rw [if_neg (fun y => z y.1)] at de
      rw [if_neg z]; omega
  have g4 := G.g4
  unfold aFi
  by_cases c1 : c.o.gl = 1
  · rw [if_pos c1] at db ⊢
    obtain ⟨h', e, q⟩ := fin1_A W e10 (by rw [G.g, c1]; rfl) (by omega)
    refine ⟨h', e, ?_⟩
    rcases q with ⟨q1, Q, B, t8, t9⟩ | ⟨q1, Fl'⟩
    · rw [if_pos q1]
      have G' : GoR X J P sy h' (OuA.mk (3) (c.o.gn) (c.o.gw) (c.o.bl) (c.o.lk) (c.o.le) (c.o.s)) := by
        obtain ⟨u, u1, u2, u3, u4⟩ := G.w (Or.inl c1)
        exact ⟨B.g, by show 3 ≤ 4; omega, fun _ => ⟨c.j + 2, t8, by have := Q.jJ; omega⟩, fun z => absurd z (by show ¬ 3 = 0; omega), fun _ => ⟨u, by rw [t9]; exact u1, u2, by rw [Q.kp.a (P + 1) (by omega) (by omega)]; exact u3, u4⟩⟩
      exact ⟨lkB, C, SC, RW.mkE (o := (OuA.mk (3) (c.o.gn) (c.o.gw) (c.o.bl) (c.o.lk) (c.o.le) (c.o.s))) hpp hJ Q.tb Q.at' Q.jJ Q.dp Q.d2 (Q.e9.trans C2.ok) (Q.n.trans C2.no) Q.sz B G' (r.kp hpp Q.kp) elk hb (by show d' - 1 = c.o.bl.length + (if (3 : Nat) = 1 then 1 else 0); rw [if_neg (by omega)]; omega), fun _ => rfl⟩
    · rw [if_neg q1]; exact Fl'
  rw [if_neg c1] at db ⊢
  obtain ⟨t, t8, ht⟩ := G.t c1
  by_cases c2 : c.o.gl = 4
  · rw [if_pos c2]
    obtain ⟨h', e, q⟩ := fin4_A W e10 (by rw [G.g, c2]; rfl) t8 ht r.k0 (by omega)
    refine ⟨h', e, ?_⟩
    have tw : mv_a h2 27 0 ≤ 1 ↔ w = 1 := by
      rw [e27]
      constructor
      · intro z; have := (nIle (a := w) (b := 1) (by omega) (by omega)).mp z; omega
      · intro z; rw [z]; decide
    show StQ X J P sy C (if w = 1 ∧ d' < 60 ∧ X.kd c.j = 123 then some ⟨1, c.j + 1, d' + 1, [], [], (OuA.mk (c.o.gl) (c.o.gn) (c.o.gw) ((209, c.o.lk) :: c.o.bl) (c.o.lk) (c.o.le) (c.o.s))⟩ else none) h'
    rcases q with ⟨q1, q2, g1, a1, a2, Q, eh⟩ | ⟨q1, Fl'⟩
    · rw [if_pos ⟨tw.mp q1, q2.2, q2.1⟩]
      have R1 := (r.kp hpp Q.kp).ob hpp (k := 209) (lk := c.o.lk) (by omega) (by omega) elk ⟨fun z => by omega, fun z => absurd z hb⟩ a1 a2
      have R1' : RN X J P sy h' c.o.s ((209, c.o.lk) :: c.o.bl) lkB C SC c.o.le := by rw [eh]; exact R1
      have oi : ∀ a f, ¬ (a = 2 ∧ (f = 15 ∨ f = 6)) → mv_i h' a f = mv_i g1 a f := fun a f z => by rw [eh]; unfold OBk; ((simp only [rw_ii, rw_aa, rw_bb, rw_ia, rw_ib, rw_ai, rw_ab, rw_bi, rw_ba, true_and, and_true, if_true]; repeat' split) <;> first | rfl | (exfalso; omega))
      have oa : ∀ x, ¬ (28 ≤ x ∧ x ≤ 31) → mv_a h' x = mv_a g1 x := fun x z => by rw [eh]; unfold OBk; funext f; ((simp only [rw_ii, rw_aa, rw_bb, rw_ia, rw_ib, rw_ai, rw_ab, rw_bi, rw_ba, true_and, and_true, if_true]; repeat' split) <;> first | rfl | (exfalso; omega))
      refine ⟨lkB, C, SC, RW.mkS (o := (OuA.mk (c.o.gl) (c.o.gn) (c.o.gw) ((209, c.o.lk) :: c.o.bl) (c.o.lk) (c.o.le) (c.o.s))) hpp hJ (Q.tb.fr (oa 4 (by omega)) (oa 5 (by omega)) (by rw [eh]; rfl)) ?_ Q.jJ ?_ Q.d2 ?_ ?_ ?_ (by rw [eh]; rfl) R1' elk (fun z => by cases z) (by show d' + 1 = c.o.bl.length + 1; omega), fun _ => rfl⟩
      · rw [oi 3 7 (by omega)]; exact Q.at'
      · rw [oi 3 8 (by omega)]; exact Q.dp
      · rw [oi 3 9 (by omega), Q.e9]; exact C2.ok
      · rw [oi 21 0 (by omega), Q.n]; exact C2.no
      · obtain ⟨y, ey, hy⟩ := Q.sz
        exact ⟨y, by rw [oi P 17 (by omega)]; exact ey, hy⟩
    · rw [if_neg (fun z => q1 ⟨tw.mpr z.1, z.2.2, z.2.1⟩)]; exact Fl'
  rw [if_neg c2]
  by_cases c3 : c.o.gl = 0
  · rw [if_pos c3]
    obtain ⟨⟨i, i1, i2, i3⟩, l9, l0, l64⟩ := G.l c3
    obtain ⟨-, sb, -⟩ := r.S.t i i1 i2
    rw [i3] at sb
    have s2 := r.s2
    obtain ⟨h', e, q⟩ := fin0_A W e10 (by rw [G.g, c3]; rfl) r.l0 r.s0 s2 (Or.inr ⟨sy c.o.gn, l9, by omega, l64⟩)
    refine ⟨h', e, ?_⟩
    show StQ X J P sy C (if X.kd c.j = 59 then some ⟨1, c.j + 1, d', [], [], (OuA.mk (c.o.gl) (c.o.gn) (c.o.gw) (c.o.bl) (updK c.o.lk c.o.gn (3, w)) (c.o.le + 1) (c.o.s))⟩ else none) h'
    have pos9 : ¬ mv_i h2 2 9 < 0 := by
      rw [l9]
      exact fun z => by have := (nIlt (b := 0) (by omega) (by omega)).mp z; omega
    rcases q with ⟨s, es, hs, hl, q1, g3, k, Q, m3, A, T, n3⟩ | ⟨q1, Fl'⟩ | ⟨q1, -⟩
    · rw [if_pos q1]
      have es2 : s = sy c.o.gn := (nIinj (by omega) (by omega)).mp (es.symm.trans l9)
      obtain ⟨b, bl, ebl⟩ : ∃ b bl, c.o.bl = b :: bl := by
        cases z : c.o.bl with
        | nil => exact absurd z hb
        | cons b bl => exact ⟨b, bl, rfl⟩
      have lz : (lkB c.o.gn).1 = 0 := by
        rw [elk] at l0
        rcases lkO_p C c.o.gn with ⟨n, e⟩ | e
        · rw [e] at l0; exact absurd l0 (by show ¬ 3 = 0; omega)
        · rw [e] at l0; exact l0
      have Rg := r.kp hpp Q.kp
      rw [ebl] at Rg
      rw [es2, e27, ← i3] at A
      have Rk := Rg.al hpp i1 i2 l64 (by rw [i3]; exact lz) ⟨w0, hw⟩ A
      have Rh := Rk.kp hpp (T.sm.kp (P := P))
      rw [← ebl, i3] at Rh
      refine ⟨updK lkB c.o.gn (3, w), C, c.o.gn :: SC, RW.mkS (o := (OuA.mk (c.o.gl) (c.o.gn) (c.o.gw) (c.o.bl) (updK c.o.lk c.o.gn (3, w)) (c.o.le + 1) (c.o.s))) hpp hJ T.tb T.at' T.jJ T.dp T.d2 ?_ ?_ ?_ ?_ Rh (fun x => ?_) hb db, fun _ => rfl⟩
      · rw [T.e9, A.i 3 9 (by omega), Q.e9]; exact C2.ok
      · rw [n3, A.i 21 0 (by omega), Q.n]; exact C2.no
      · obtain ⟨y, ey, hy⟩ := Q.sz
        exact ⟨y, by rw [T.sm.i P 17 (by omega) (by omega), A.i P 17 (by omega)]; exact ey, hy⟩
      · rw [T.sm.i 2 6 (by omega) (by omega), A.i 2 6 (by omega)]; exact m3
      · show updK c.o.lk c.o.gn (3, w) x = lkO (updK lkB c.o.gn (3, w)) C x
        by_cases y : x = c.o.gn
        · rcases lkO_p C x with ⟨n, e⟩ | e
          · rw [elk, ← y, e] at l0; exact absurd l0 (by show ¬ 3 = 0; omega)
          · rw [e]; unfold updK; rw [if_pos y, if_pos y]
        · unfold updK
          rw [if_neg y, elk x]
          exact lkO_g C (by rw [if_neg y])
    · rw [if_neg q1]; exact Fl'
    · exact absurd q1 pos9
  · rw [if_neg c3]
    obtain ⟨u, u1, u2, u3, u4, u5⟩ := G.w (by omega)
    obtain ⟨h', e, q⟩ := fin2_A W e10 (by rw [G.g]; have : c.o.gl = 2 ∨ c.o.gl = 3 := by omega
                                          rcases this with z | z <;> rw [z]
                                          · exact Or.inl rfl
                                          · exact Or.inr rfl) t8 ht (Or.inr ⟨u, u1, by omega⟩)
    refine ⟨h', e, ?_⟩
    show StQ X J P sy C (if c.o.gw = w ∧ X.kd c.j = 59 then some ⟨1, c.j + 1, d', [], [], c.o⟩ else none) h'
    have wt : (mv_a h2 27 0 ≤ 0 ∨ mv_a h2 (P + 1) u ≤ 0 ∨ mv_a h2 27 0 = mv_a h2 (P + 1) u) ↔ c.o.gw = w := by
      rw [e27, u3]
      constructor
      · rintro (z | z | z)
        · have := (nIle (a := w) (b := 0) (by omega) (by omega)).mp z; omega
        · have := (nIle (a := c.o.gw) (b := 0) (by omega) (by omega)).mp z; omega
        · exact ((nIinj (by omega) (by omega)).mp z).symm
      · intro z; exact Or.inr (Or.inr (by rw [z]))
    have pos9 : ¬ mv_i h2 2 9 < 0 := by
      rw [u1]
      exact fun z => by have := (nIlt (b := 0) (by omega) (by omega)).mp z; omega
    rcases q with ⟨u', v1, v2, q1, q2, Q, m3⟩ | ⟨q1, Fl'⟩ | ⟨q1, -⟩
    · have eu : u = u' := (nIinj (by omega) (by omega)).mp (u1.symm.trans v1)
      rw [← eu] at q2
      rw [if_pos ⟨wt.mp q2, q1⟩]
      exact ⟨lkB, C, SC, RW.mkS hpp hJ Q.tb Q.at' Q.jJ Q.dp Q.d2 (Q.e9.trans C2.ok) (Q.n.trans C2.no) Q.sz m3 (r.kp hpp Q.kp) elk hb db, fun _ => rfl⟩
    · rw [if_neg (fun z => q1 u u1 (by omega) ⟨z.2, wt.mpr z.1⟩)]; exact Fl'
    · exact absurd q1 pos9
end FIR
