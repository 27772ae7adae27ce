/-! worlds that grow: cells in the order in which they are made -/
section MPW
def mw : mv_Sh := mb ++ me
abbrev mpw (w9 : mv_Sh) (dA : FieldType → ClassId) (D : va_G) (al : Nat → Nat) (n : Nat) : mv_G := (mc_cl, mc_ft, dA, D, al, w9.take n)
abbrev mq (dA : FieldType → ClassId) (D : va_G) (al : Nat → Nat) (n : Nat) : mv_G := mpw mw dA D al n
set_option maxRecDepth 100000 in
theorem mw_len : mw.length = 161 := rfl
theorem mw_le {n : Nat} (h : n ≤ 161) : n ≤ mw.length := by rw [mw_len]; exact h
variable {w9 : mv_Sh}
theorem mq_len {dA : FieldType → ClassId} {D : va_G} {al : Nat → Nat} {n : Nat} (h : n ≤ w9.length) : (mv_sh (mpw w9 dA D al n)).length = n := by
  show (w9.take n).length = n
  rw [List.length_take]
  exact Nat.min_eq_left h
/-- every reference is to a cell that is made -/
def mv_ok (σ : mv_H) (n : Nat) : Prop := ∀ o k r : Nat, o < n → mv_r σ o k = some r → r < n ∨ 161 ≤ r
/-- a new cell is empty -/
def mv_nw (σ : mv_H) (n : Nat) : mv_H := (fun o k => if o = n then 0 else σ.1 o k, fun o k => if o = n then 0 else σ.2.1 o k, fun o k => if o = n then none else σ.2.2.1 o k, fun o k => if o = n then 0 else σ.2.2.2.1 o k, fun o k => if o = n then 0 else σ.2.2.2.2 o k)
theorem mv_ok.nw {σ : mv_H} {n : Nat} (h : mv_ok σ n) : mv_ok (mv_nw σ n) (n + 1) := fun o k r ho hr => by
  have hr : (if o = n then none else mv_r σ o k) = some r := hr
  by_cases z : o = n
  · rw [if_pos z] at hr; cases hr
  · rw [if_neg z] at hr; have := h o k r (by omega) hr; omega
theorem mv_ok.sr {σ : mv_H} {n o k r : Nat} (h : mv_ok σ n) (hr : r < n ∨ 161 ≤ r) : mv_ok (mv_sr σ o k (some r)) n := fun o' k' r' ho h' => by
  have h' : mv_u (mv_r σ) o k (some r) o' k' = some r' := h'
  by_cases z : o' = o ∧ k' = k
  · rw [z.1, z.2, mv_u_same] at h'; cases h'; exact hr
  · rw [mv_u_ne _ _ z] at h'; exact h _ _ _ ho h'
theorem mv_ok.r {σ τ : mv_H} {n : Nat} (h : mv_ok σ n) (e : mv_r τ = mv_r σ) : mv_ok τ n := fun o k r ho hr => h o k r ho (by rw [← e]; exact hr)
/-- al' is al, and what is new lies behind z -/
def mq_gr (al al' : Nat → Nat) (n n' z : Nat) : Prop := (∀ k, k < n → al' k = al k) ∧ ∀ k, n ≤ k → k < n' → z ≤ al' k
theorem mq_gr.rf {al : Nat → Nat} {n z : Nat} : mq_gr al al n n z := ⟨fun _ _ => rfl, fun k h1 h2 => absurd h2 (by omega)⟩
theorem mq_gr.tr {al a1 a2 : Nat → Nat} {n n1 n2 z : Nat} (h : mq_gr al a1 n n1 z) (g : mq_gr a1 a2 n1 n2 z) (hn : n ≤ n1) : mq_gr al a2 n n2 z :=
  ⟨fun k hk => (g.1 k (by omega)).trans (h.1 k hk), fun k h1 h2 => by
    by_cases z : k < n1
    · rw [g.1 k z]; exact h.2 k h1 z
    · exact g.2 k (by omega) h2⟩
theorem mq_gr.le {al a1 : Nat → Nat} {n n1 z z' : Nat} (h : mq_gr al a1 n n1 z) (hz : z' ≤ z) : mq_gr al a1 n n1 z' := ⟨h.1, fun k h1 h2 => Nat.le_trans hz (h.2 k h1 h2)⟩
theorem mq_A {dA : FieldType → ClassId} {D : va_G} {al al' : Nat → Nat} {n n' z : Nat} (g : mq_gr al al' n n' z) (h : n ≤ n') (h' : n' ≤ w9.length) (q : Nat) : mv_A (mpw w9 dA D al' n') z q ↔ mv_A (mpw w9 dA D al n) z q := by
  unfold mv_A
  rw [mq_len (Nat.le_trans h h'), mq_len h']
  constructor
  · rintro (⟨o, ho, e⟩ | h)
    · by_cases w : o < n
      · exact Or.inl ⟨o, w, e.trans (g.1 o w)⟩
      · exact Or.inr (by rw [e]; exact g.2 o (by omega) ho)
    · exact Or.inr h
  · rintro (⟨o, ho, e⟩ | h)
    · exact Or.inl ⟨o, by omega, e.trans (g.1 o ho).symm⟩
    · exact Or.inr h
theorem mq_S {dA : FieldType → ClassId} {D : va_G} {al al' : Nat → Nat} {n n' z : Nat} {H0 H : Heap} {locs : List Loc} (g : mq_gr al al' n n' z) (h : n ≤ n') (h' : n' ≤ w9.length) (hS : va_S (mv_A (mpw w9 dA D al n) z) H0 H locs) : va_S (mv_A (mpw w9 dA D al' n') z) H0 H locs :=
  ⟨hS.1, fun q h1 h2 => hS.2.1 q h1 (fun w => h2 ((mq_A g h h' q).mpr w)), fun l hl => (mq_A g h h' _).mpr (hS.2.2 l hl)⟩
theorem mq_K {dA : FieldType → ClassId} {D : va_G} {al al' : Nat → Nat} {n n' z : Nat} {K : mv_T} {U : State} {H : Heap} (hN : mv_Tok K) (g : mq_gr al al' n n' z) (h : n ≤ n') (h' : n' ≤ w9.length) (hK : K (mv_A (mpw w9 dA D al n) z) U H) : K (mv_A (mpw w9 dA D al' n') z) U H :=
  hN.2.2 _ _ _ _ hK (fun q w => (mq_A g h h' q).mp w)
theorem mv_inj_of {G : mv_G} {σ : mv_H} {A : Nat → Prop} (h : va_D A (mv_wl G σ)) : mv_inj G := fun i j hi hj e => by
  have a1 : (mv_wl G σ)[i]? = some (mv_al G i, mv_ce G σ i ((mv_sh G)[i])) := by rw [mv_wl_at, List.getElem?_eq_getElem hi]; rfl
  have a2 : (mv_wl G σ)[j]? = some (mv_al G j, mv_ce G σ j ((mv_sh G)[j])) := by rw [mv_wl_at, List.getElem?_eq_getElem hj]; rfl
  exact h.1 i j _ _ a1 a2 e
theorem mq_fv {σ : mv_H} {al al' : Nat → Nat} {n o k : Nat} (ty : FieldType) (ho9 : o < n) (ha : ∀ k, k < n ∨ 161 ≤ k → al' k = al k) (hok : mv_ok σ n) : mv_fv al' (mv_nw σ n) ty o k = mv_fv al σ ty o k := by
  have ho : o ≠ n := by omega
  have e : mv_r (mv_nw σ n) o k = mv_r σ o k := if_neg ho
  have e2 : (mv_r σ o k).map al' = (mv_r σ o k).map al := by
    cases h : mv_r σ o k with
    | none => rfl
    | some r => show some _ = some _; rw [ha r (hok _ _ _ ho9 h)]
  cases ty with
  | long => exact congrArg Value.long (if_neg ho)
  | object c => show va_rf _ = va_rf _; rw [e, e2]
  | array t => show va_rf _ = va_rf _; rw [e, e2]
  | _ => exact congrArg Value.int (if_neg ho)
theorem mq_ce {dA : FieldType → ClassId} {D : va_G} {σ : mv_H} {al al' : Nat → Nat} {n o : Nat} (ho9 : o < n) (ha : ∀ k, k < n ∨ 161 ≤ k → al' k = al k) (hok : mv_ok σ n) (t : Nat ⊕ (FieldType × Nat)) : mv_ce (mpw w9 dA D al' (n + 1)) (mv_nw σ n) o t = mv_ce (mpw w9 dA D al n) σ o t := by
  cases t with
  | inl c =>
    show Sum.inr (c, mv_fs _ _ c o) = Sum.inr (c, mv_fs _ _ c o)
    have : mv_fs (mpw w9 dA D al' (n + 1)) (mv_nw σ n) c o = mv_fs (mpw w9 dA D al n) σ c o := by
      unfold mv_fs
      exact List.map_congr_left (fun k _ => mq_fv _ ho9 ha hok)
    rw [this]
  | inr x =>
    have hb : mv_b (mv_nw σ n) o = mv_b σ o := funext fun k => if_neg (by omega)
    have h2 : mv_a (mv_nw σ n) o = mv_a σ o := funext fun k => if_neg (by omega)
    show Sum.inl (_, mv_ac x.1 x.2 _ o) = Sum.inl (_, mv_ac x.1 x.2 _ o)
    have : mv_ac x.1 x.2 (mv_nw σ n) o = mv_ac x.1 x.2 σ o := by
      unfold mv_ac
      rw [hb, h2]
    rw [this]
theorem mq_wl {dA : FieldType → ClassId} {D : va_G} {σ : mv_H} {al al' : Nat → Nat} {n : Nat} {x : Nat ⊕ (FieldType × Nat)} (hx : w9[n]? = some x) (ha : ∀ k, k < n ∨ 161 ≤ k → al' k = al k) (hok : mv_ok σ n) :
    mv_wl (mpw w9 dA D al' (n + 1)) (mv_nw σ n) = mv_wl (mpw w9 dA D al n) σ ++ [(al' n, mv_ce (mpw w9 dA D al' (n + 1)) (mv_nw σ n) n x)] := by
  have hlt : n < w9.length := (List.getElem?_eq_some_iff.mp hx).1
  have hl : (mv_wl (mpw w9 dA D al n) σ).length = n := by rw [mv_wl_len, mq_len (by omega)]
  refine List.ext_getElem? fun o => ?_
  rw [mv_wl_at]
  by_cases h : o < n
  · rw [List.getElem?_append_left (by rw [hl]; exact h), mv_wl_at]
    show ((w9.take (n + 1))[o]?).map _ = ((w9.take n)[o]?).map _
    rw [List.getElem?_take, if_pos (by omega), List.getElem?_take, if_pos h]
    cases w9[o]? with
    | none => rfl
    | some t => 
      show some (al' o, _) = some (al o, _)
      rw [ha o (Or.inl h), mq_ce h ha hok]
  · rw [List.getElem?_append_right (by rw [hl]; omega), hl]
    show ((w9.take (n + 1))[o]?).map _ = _
    by_cases h2 : o = n
    · subst h2
      rw [List.getElem?_take, if_pos (by omega), hx, Nat.sub_self]
      rfl
    · rw [List.getElem?_take, if_neg (by omega), List.getElem?_eq_none (by show 1 ≤ o - n; omega)]
      rfl
/-- a new cell's fields -/
def mv_zt (ty : FieldType) : Bool := match ty with
  | .float => false
  | .double => false
  | _ => true
theorem mq_fz {σ : mv_H} {al : Nat → Nat} {n k : Nat} {ty : FieldType} (h : mv_zt ty = true) : mv_fv al (mv_nw σ n) ty n k = defaultValue ty := by
  have e : mv_r (mv_nw σ n) n k = none := if_pos rfl
  cases ty with
  | long => exact congrArg Value.long (if_pos rfl)
  | object c => show va_rf _ = _; rw [e]; rfl
  | array t => show va_rf _ = _; rw [e]; rfl
  | float => cases h
  | double => cases h
  | _ => exact congrArg Value.int (if_pos rfl)
section MQ
variable {p : Program} {l : Launch} {e : Env} {R : Room} {s : State} {m : MethodId} {args : Array Value} {below : List Frame} {meth : Method} {c : Code} {dA : FieldType → ClassId} {D : va_G} {al : Nat → Nat} {n : Nat} {ws : List Cond} {own : String} {cc : ByteArray} {nL : Nat} {cells slots : Nat} {Q : State → Prop} {σ : mv_H} {pc : Nat} {L : List (Nat × Value)} {st : List Value}
theorem mq_grow (B : mv_B p s m args meth c (mpw w9 dA D al n) ws own cc nL) (h161 : n < 161) {x : Nat ⊕ (FieldType × Nat)} (hx : w9[n]? = some x) (hok : mv_ok σ n) {H1 : Heap} {locs : List Loc} {q : Nat} {E : va_E}
    (hE : ∀ al', mv_ce (mpw w9 dA D al' (n + 1)) (mv_nw σ n) n x = E) (g1 : va_P D mc_cl (mv_wl (mpw w9 dA D al n) σ ++ [(q, E)]) H1) (g2 : va_D (mv_A (mpw w9 dA D al n) s.heap.size) (mv_wl (mpw w9 dA D al n) σ ++ [(q, E)])) (g3 : va_S (mv_A (mpw w9 dA D al n) s.heap.size) s.heap H1 locs) :
    ∃ al', mq_gr al al' n (n + 1) s.heap.size ∧ al' n = q ∧ mv_B p s m args meth c (mpw w9 dA D al' (n + 1)) ws own cc nL ∧ va_P D mc_cl (mv_wl (mpw w9 dA D al' (n + 1)) (mv_nw σ n)) H1 ∧ va_S (mv_A (mpw w9 dA D al' (n + 1)) s.heap.size) s.heap H1 locs := by
  have hlt : n < w9.length := (List.getElem?_eq_some_iff.mp hx).1
  have hl : (mv_wl (mpw w9 dA D al n) σ).length = n := by rw [mv_wl_len, mq_len (by omega)]
  have hq : s.heap.size ≤ q := by
    have h9 : (mv_wl (mpw w9 dA D al n) σ ++ [(q, E)])[n]? = some (q, E) := by
      rw [List.getElem?_append_right (by omega), hl, Nat.sub_self]; rfl
    rcases g2.2 n _ h9 with ⟨o, ho, e0⟩ | h
    · rw [mq_len (by omega)] at ho
      have h8 : (mv_wl (mpw w9 dA D al n) σ ++ [(q, E)])[o]? = some (al o, mv_ce (mpw w9 dA D al n) σ o ((mv_sh (mpw w9 dA D al n))[o]'(by rw [mq_len (by omega)]; exact ho))) := by
        rw [List.getElem?_append_left (by omega), mv_wl_at, List.getElem?_eq_getElem (by rw [mq_len (by omega)]; exact ho)]
        rfl
      have := g2.1 n o _ _ h9 h8 e0
      omega
    · exact h
  have ha : ∀ k, k < n ∨ 161 ≤ k → (fun k => if k = n then q else al k) k = al k := fun k hk => if_neg (by omega)
  have hgr : mq_gr al (fun k => if k = n then q else al k) n (n + 1) s.heap.size := ⟨fun k hk => ha k (Or.inl hk), fun k h1 h2 => by
    have : k = n := by omega
    subst this
    show s.heap.size ≤ (if k = k then q else al k)
    rw [if_pos rfl]
    exact hq⟩
  have e1 : mv_wl (mpw w9 dA D (fun k => if k = n then q else al k) (n + 1)) (mv_nw σ n) = mv_wl (mpw w9 dA D al n) σ ++ [(q, E)] := by
    rw [mq_wl hx ha hok, hE]
    show _ ++ [((if n = n then q else al n), E)] = _
    rw [if_pos rfl]
  refine ⟨fun k => if k = n then q else al k, hgr, if_pos rfl, ⟨B.1, B.2.1, B.2.2.1, B.2.2.2.1, B.2.2.2.2.1, ?_, B.2.2.2.2.2.2⟩, ?_, mq_S hgr (by omega) (by omega) g3⟩
  · refine mv_inj_of (σ := mv_nw σ n) (A := mv_A (mpw w9 dA D al n) s.heap.size) ?_
    rw [e1]
    exact g2
  · rw [e1]
    exact g1
/-- new C -/
theorem mq_new (B : mv_B p s m args meth c (mpw w9 dA D al n) ws own cc nL) {n2 : Nat} (hn2 : n + 1 = n2) (h161 : n < 161) {C : String} {T : u_T} {N ci index : Nat} (hx : w9[n]? = some (.inl ci)) (hok : mv_ok σ n) (hc : mc_cl[ci]? = some (C, T, N)) (hin : ∀ w ∈ u_ws C T N, w ∈ ws) (ht0 : ∀ j, j < N → parseFieldDescriptor (T j).2.2.1 = some (mc_ft ci j)) (hz : ∀ j, j < N → mv_zt (mc_ft ci j) = true)
    (hcl : (Cond.classLink own index C).before args s = true) (hinst : (Cond.instantiable C N).before args s = true) (hini : (Cond.initialized C).before args s = true) (hcells : cells + 1 ≤ R.cells) (hslots : slots + N ≤ R.slots) (hdg : decode cc pc = .ok (.new index, 3))
    (kk : ∀ al', mq_gr al al' n n2 s.heap.size → mv_B p s m args meth c (mpw w9 dA D al' n2) ws own cc nL → mv_V p l e R s m args below meth c (mpw w9 dA D al' n2) nL (cells + 1) (slots + N) Q (mv_nw σ n) (pc + 3) L (.ref (al' n) :: st)) :
    mv_V p l e R s m args below meth c (mpw w9 dA D al n) nL cells slots Q σ pc L st := fun H locs ls h1 h2 h3 => by
  subst hn2
  have hn : mv_nf mc_cl ci = N := by unfold mv_nf; rw [hc]
  refine va_new B.1.1 B.1.2 B.2.2.2.1 hin (mc_ft ci) ht0 B.2.2.1 hcl hinst hini B.2.2.2.2.1 h1 (mv_wl_D B.2.2.2.2.2.1 σ s.heap.size) h2 (fun q h => Or.inr h) hc (fs := mv_fs (mpw w9 dA D al n) (mv_nw σ n) ci n) ?_ hcells hslots hdg (fun q H1 g1 g2 g3 => ?_)
  · intro j hj
    unfold vp_V
    rw [List.getD_eq_getElem?_getD, mv_fs_at (G := mpw w9 dA D al n) (mv_nw σ n) (by show j < mv_nf mc_cl ci; omega)]
    exact (mq_fz (hz j hj)).symm
  · obtain ⟨al', f1, f2, f3, f4, f5⟩ := mq_grow B h161 hx hok (fun al' => by
      show Sum.inr (ci, mv_fs _ _ ci n) = Sum.inr (ci, mv_fs _ _ ci n)
      have : mv_fs (mpw w9 dA D al' (n + 1)) (mv_nw σ n) ci n = mv_fs (mpw w9 dA D al n) (mv_nw σ n) ci n := by
        unfold mv_fs
        refine List.map_congr_left (fun k hk => ?_)
        have hk : k < N := by
          have := List.mem_range.mp hk
          rw [show mv_nf (mv_cl (mpw w9 dA D al' (n + 1))) ci = N from hn] at this
          exact this
        exact (mq_fz (hz k hk)).trans (mq_fz (hz k hk)).symm
      rw [this]) g1 g2 g3
    rw [← f2]
    exact kk al' f1 f3 H1 locs ls f4 f5 h3
/-- new ty[N] -/
theorem mq_newa (B : mv_B p s m args meth c (mpw w9 dA D al n) ws own cc nL) {n2 : Nat} (hn2 : n + 1 = n2) (h161 : n < 161) {ty : FieldType} {atype : ArrayType} {N : Nat} {v : Int32} (hx : w9[n]? = some (.inr (ty, N))) (hok : mv_ok σ n) (harr : (Cond.arrayClass ty).before args s = true) (hty : newarray.typeOf atype = ty) (hz : ty = .int ∨ ty = .long ∨ ty = .byte ∨ ty = .boolean) (hv : ¬ v < 0) (hN : v.toNatClampNeg = N) (hb : N * componentBytes ty ≤ 536870912)
    (hcells : cells + 1 ≤ R.cells) (hslots : slots + N ≤ R.slots) (hdg : decode cc pc = .ok (.newarray atype, 2))
    (kk : ∀ al', mq_gr al al' n n2 s.heap.size → mv_B p s m args meth c (mpw w9 dA D al' n2) ws own cc nL → mv_V p l e R s m args below meth c (mpw w9 dA D al' n2) nL (cells + 1) (slots + N) Q (mv_nw σ n) (pc + 2) L (.ref (al' n) :: st)) :
    mv_V p l e R s m args below meth c (mpw w9 dA D al n) nL cells slots Q σ pc L (.int v :: st) := fun H locs ls h1 h2 h3 => by
  subst hn2
  refine va_newa (tys := mv_tys (mpw w9 dA D al n)) B.1.1 B.1.2 (by rw [hty]; exact harr) hty B.2.2.2.2.1 h1 (mv_wl_D B.2.2.2.2.2.1 σ s.heap.size) h2 (fun q h => Or.inr h) (a0 := mv_ac ty N (mv_nw σ n) n) ?_ hv hN hb hcells hslots hdg (fun q cA H1 hK g1 g2 g3 => ?_)
  · intro cA
    have ea : mv_a (mv_nw σ n) n = fun _ => 0 := funext fun k => if_pos rfl
    have eb : mv_b (mv_nw σ n) n = fun _ => 0 := funext fun k => if_pos rfl
    rcases hz with rfl | rfl | rfl | rfl
    · show vp_cell cA (N, .inl (mv_a (mv_nw σ n) n)) = _; rw [ea]; rfl
    · show vp_cell cA (N, .inr (.inl (mv_b (mv_nw σ n) n))) = _; rw [eb]; rfl
    · show vp_cell cA (N, .inl (mv_a (mv_nw σ n) n)) = _; rw [ea]; rfl
    · show vp_cell cA (N, .inl (mv_a (mv_nw σ n) n)) = _; rw [ea]; rfl
  · have hcA : cA = dA ty := by
      have h5 := (hK.2 4 (cA, ty) rfl).2
      rcases hz with rfl | rfl | rfl | rfl
      · exact Option.some.inj (h5.symm.trans (B.2.2.2.2.1.2 0 (dA .int, .int) rfl).2)
      · exact Option.some.inj (h5.symm.trans (B.2.2.2.2.1.2 1 (dA .long, .long) rfl).2)
      · exact Option.some.inj (h5.symm.trans (B.2.2.2.2.1.2 2 (dA .byte, .byte) rfl).2)
      · exact Option.some.inj (h5.symm.trans (B.2.2.2.2.1.2 3 (dA .boolean, .boolean) rfl).2)
    subst hcA
    obtain ⟨al', f1, f2, f3, f4, f5⟩ := mq_grow B h161 hx hok (fun al' => rfl) g1 g2 g3
    rw [← f2]
    exact kk al' f1 f3 H1 locs ls f4 f5 h3
/-- super() where the superclass is Object -/
theorem mv_obj {G : mv_G} (B : mv_B p s m args meth c G ws own cc nL) {a idx : Nat} (hlink : (Cond.methodLink own idx Lib.objectInit).before args s = true) (hinst : (Cond.instanceMethod Lib.objectInit).before args s = true) (hcode : (Cond.code Lib.objectInit ⟨#[0xb1]⟩ 1 none).before args s = true) (hdg : decode cc pc = .ok (.invokespecial idx, 3)) (hr8 : (st.map fun v => v.category).sum ≤ 8) (hR : 1 ≤ R.frames ∧ 20 ≤ R.locals)
    (kk : mv_V p l e R s m args below meth c G nL cells slots Q σ (pc + 3) L st) : mv_V p l e R s m args below meth c G nL cells slots Q σ pc L (.ref a :: st) := fun H locs ls h1 h2 h3 T hT X => by
  obtain ⟨vm', X', stp⟩ := X.initObject B.1.1 B.2.2.1 hlink hinst hcode (g := F0 m pc ls (.ref a :: st)) rfl (by rw [B.2.1]; exact h3.1) rfl (by rw [B.1.2]; exact hdg) hR.1 (Nat.le_trans (Nat.add_le_add_right (lv_room (m := m) (pc := pc) (ls := ls) hr8) 12) hR.2)
  obtain ⟨t, a1, b1⟩ := kk H locs ls h1 h2 h3 (T.setVm vm') hT X'
  exact ⟨t, stp _ a1, b1⟩
theorem mv_getN {G : mv_G} (B : mv_B p s m args meth c G ws own cc nL) {C : String} {T : u_T} {N index o ci : Nat} (k : Nat) (hs : (mv_sh G)[o]? = some (.inl ci)) (hc : (mv_cl G)[ci]? = some (C, T, N)) (hk : k < N) (hin : ∀ w ∈ u_ws C T N, w ∈ ws) (hlink : (Cond.fieldLink own index (T k).1 (T k).2.1 (T k).2.2.1).before args s = true) (hty : mv_isR (mv_ft G ci k) = true) (hr : mv_r σ o k = none) (hdg : decode cc pc = .ok (.getfield index, 3))
    (kk : mv_V p l e R s m args below meth c G nL cells slots Q σ (pc + 3) L (.null :: st)) : mv_V p l e R s m args below meth c G nL cells slots Q σ pc L (.ref (mv_al G o) :: st) := fun H locs ls h1 h2 h3 => by
  have hn : mv_nf (mv_cl G) ci = N := by unfold mv_nf; rw [hc]
  exact va_get (ci := ci) (v := .null) B.1.1 B.1.2 B.2.2.2.1 hin B.2.2.1 B.2.2.2.2.1 h1 o (mv_wl_o σ hs) hc k hk hlink (fun _ h => h) (by rw [mv_fs_at σ (by rw [hn]; exact hk), mv_fvR hty, hr]; rfl) hdg (kk H locs ls h1 h2 h3)
theorem mv_ifnn {G : mv_G} (B : mv_B p s m args meth c G ws own cc nL) {x : Nat} {off : Int} {tgt : Nat} (hdg : decode cc pc = .ok (.ifnonnull off, 3)) (ht : (pc : Int) + off = (tgt : Int))
    (kk : mv_V p l e R s m args below meth c G nL cells slots Q σ tgt L st) : mv_V p l e R s m args below meth c G nL cells slots Q σ pc L (.ref x :: st) := fun H locs ls h1 h2 h3 => lv_ifnonnull B.1.1 B.1.2 hdg ht (kk H locs ls h1 h2 h3)
theorem mv_ifnnN {G : mv_G} (B : mv_B p s m args meth c G ws own cc nL) {off : Int} (hdg : decode cc pc = .ok (.ifnonnull off, 3))
    (kk : mv_V p l e R s m args below meth c G nL cells slots Q σ (pc + 3) L st) : mv_V p l e R s m args below meth c G nL cells slots Q σ pc L (.null :: st) := fun H locs ls h1 h2 h3 => lv_ifnonnullN B.1.1 B.1.2 hdg (kk H locs ls h1 h2 h3)
/-- a final field, written by its constructor -/
theorem mv_putRF {G : mv_G} (B : mv_B p s m args meth c G ws own cc nL) {r : Nat} {C : String} {T : u_T} {N index o ci : Nat} (k : Nat) (hs : (mv_sh G)[o]? = some (.inl ci)) (hc : (mv_cl G)[ci]? = some (C, T, N)) (hk : k < N) (hin : ∀ w ∈ u_ws C T N, w ∈ ws) (ht0 : ∀ j, j < N → parseFieldDescriptor (T j).2.2.1 = some (mv_ft G ci j)) (hnm : ∀ a, a < N → ∀ b, b < N → a ≠ b → (T a).2.1 ≠ (T b).2.1) (hlink : (Cond.fieldLink own index (T k).1 (T k).2.1 (T k).2.2.1).before args s = true) (hfin : (T k).2.2.2 = true) (hin2 : meth.name = "<init>") (hdecl : (T k).1 = own) (hty : mv_isR (mv_ft G ci k) = true) (hdg : decode cc pc = .ok (.putfield index, 3))
    (kk : mv_V p l e R s m args below meth c G nL cells slots Q (mv_sr σ o k (some r)) (pc + 3) L st) : mv_V p l e R s m args below meth c G nL cells slots Q σ pc L (.ref (mv_al G r) :: .ref (mv_al G o) :: st) := fun H locs ls h1 h2 h3 => by
  have hn : mv_nf (mv_cl G) ci = N := by unfold mv_nf; rw [hc]
  refine va_putF (ci := ci) (v := .ref (mv_al G r)) B.1.1 B.1.2 B.2.2.2.1 hin (mv_ft G ci) ht0 hnm B.2.2.1 B.2.2.2.2.1 h1 (mv_wl_D B.2.2.2.2.2.1 σ s.heap.size) h2 o (mv_wl_o σ hs) hc k hk hlink (fun _ h => h) hfin hin2 hdecl (ht0 k hk) (by cases h9 : mv_ft G ci k <;> first | rfl | (rw [h9] at hty; cases hty)) (by cases h9 : mv_ft G ci k <;> first | rfl | (rw [h9] at hty; cases hty)) (by rw [mv_fs_len, hn]; exact hk) hdg (fun H1 locs1 g1 g2 g3 => ?_)
  rw [show Value.ref (mv_al G r) = va_rf (Option.map (mv_al G) (some r)) from rfl, ← mv_wl_sr hs (by rw [hn]; exact hk) hty] at g1
  exact kk H1 locs1 ls g1 g3 h3
end MQ
end MPW
/-! the same cells, told in another order -/
def mv_pm (π πi : Nat → Nat) (σ : mv_H) : mv_H := (fun o k => σ.1 (π o) k, fun o k => σ.2.1 (π o) k, fun o k => (σ.2.2.1 (π o) k).map πi, fun o k => σ.2.2.2.1 (π o) k, fun o k => σ.2.2.2.2 (π o) k)
theorem mv_pm_at (π πi : Nat → Nat) (σ : mv_H) (o : Nat) : mv_i (mv_pm π πi σ) o = mv_i σ (π o) ∧ mv_l (mv_pm π πi σ) o = mv_l σ (π o) ∧ (∀ k, mv_r (mv_pm π πi σ) o k = (mv_r σ (π o) k).map πi) ∧ mv_a (mv_pm π πi σ) o = mv_a σ (π o) ∧ mv_b (mv_pm π πi σ) o = mv_b σ (π o) := ⟨rfl, rfl, fun _ => rfl, rfl, rfl⟩
theorem mv_ok.pm {σ : mv_H} {π πi : Nat → Nat} {n : Nat} (h : mv_ok σ n) (h1 : ∀ k, k < n → π k < n) (hi : ∀ r, r < n ∨ 161 ≤ r → πi r < n ∨ 161 ≤ πi r) : mv_ok (mv_pm π πi σ) n := fun o k r ho hr => by
  have hr : (mv_r σ (π o) k).map πi = some r := hr
  cases h9 : mv_r σ (π o) k with
  | none => rw [h9] at hr; cases hr
  | some q =>
    rw [h9] at hr
    cases hr
    exact hi _ (h _ _ _ (h1 o ho) h9)
section MPM
variable {p : Program} {l : Launch} {e : Env} {R : Room} {s : State} {m : MethodId} {args : Array Value} {below : List Frame} {meth : Method} {c : Code} {dA : FieldType → ClassId} {D : va_G} {al al0 : Nat → Nat} {n n0 : Nat} {ws : List Cond} {own : String} {cc : ByteArray} {nL : Nat} {cells slots : Nat} {Q : State → Prop} {σ : mv_H} {pc : Nat} {L : List (Nat × Value)} {st : List Value} {w8 w9 : mv_Sh} {π πi : Nat → Nat}
theorem mq_pce {τ : mv_H} (hinv : ∀ r, π (πi r) = r) (o : Nat) (hσ : mv_i τ o = mv_i σ (π o) ∧ mv_l τ o = mv_l σ (π o) ∧ (∀ k, mv_r τ o k = (mv_r σ (π o) k).map πi) ∧ mv_a τ o = mv_a σ (π o) ∧ mv_b τ o = mv_b σ (π o)) (t : Nat ⊕ (FieldType × Nat)) : mv_ce (mpw w8 dA D (fun k => al (π k)) n) τ o t = mv_ce (mpw w9 dA D al n) σ (π o) t := by
  obtain ⟨e1, e2, e3, e4, e5⟩ := hσ
  cases t with
  | inl c =>
    show Sum.inr (c, mv_fs _ _ c o) = Sum.inr (c, mv_fs _ _ c (π o))
    have : mv_fs (mpw w8 dA D (fun k => al (π k)) n) τ c o = mv_fs (mpw w9 dA D al n) σ c (π o) := by
      unfold mv_fs
      refine List.map_congr_left (fun k _ => ?_)
      show mv_fv (fun k => al (π k)) τ (mc_ft c k) o k = mv_fv al σ (mc_ft c k) (π o) k
      have e9 : (mv_r τ o k).map (fun k => al (π k)) = (mv_r σ (π o) k).map al := by
        rw [e3]
        cases mv_r σ (π o) k with
        | none => rfl
        | some r => show some (al (π (πi r))) = some (al r); rw [hinv]
      cases mc_ft c k with
      | long => exact congrArg Value.long (congrFun e2 k)
      | object _ => show va_rf ((mv_r τ o k).map _) = _; rw [e9]; rfl
      | array _ => show va_rf ((mv_r τ o k).map _) = _; rw [e9]; rfl
      | _ => exact congrArg Value.int (congrFun e1 k)
    rw [this]
  | inr x =>
    show Sum.inl (_, mv_ac x.1 x.2 _ o) = Sum.inl (_, mv_ac x.1 x.2 _ (π o))
    have : mv_ac x.1 x.2 τ o = mv_ac x.1 x.2 σ (π o) := by
      unfold mv_ac
      rw [e4, e5]
    rw [this]
theorem mq_perm (B : mv_B p s m args meth c (mpw w9 dA D al n) ws own cc nL) (τ : mv_H) (h8 : n ≤ w8.length) (h9 : n ≤ w9.length) (hw : ∀ k, k < n → w8[k]? = w9[π k]?) (h1 : ∀ k, k < n → π k < n) (h2 : ∀ k, k < n → πi k < n) (hinv : ∀ r, π (πi r) = r) (hin2 : ∀ r, r < n → πi (π r) = r)
    (hσ : ∀ o, o < n → mv_i τ o = mv_i σ (π o) ∧ mv_l τ o = mv_l σ (π o) ∧ (∀ k, mv_r τ o k = (mv_r σ (π o) k).map πi) ∧ mv_a τ o = mv_a σ (π o) ∧ mv_b τ o = mv_b σ (π o))
    (kk : mv_B p s m args meth c (mpw w8 dA D (fun k => al (π k)) n) ws own cc nL → mv_V p l e R s m args below meth c (mpw w8 dA D (fun k => al (π k)) n) nL cells slots Q τ pc L st) :
    mv_V p l e R s m args below meth c (mpw w9 dA D al n) nL cells slots Q σ pc L st := fun H locs ls g1 g2 g3 => by
  have hA : ∀ z q, mv_A (mpw w8 dA D (fun k => al (π k)) n) z q ↔ mv_A (mpw w9 dA D al n) z q := fun z q => by
    unfold mv_A
    rw [mq_len h8, mq_len h9]
    constructor
    · rintro (⟨o, ho, e0⟩ | h)
      · exact Or.inl ⟨π o, h1 o ho, e0⟩
      · exact Or.inr h
    · rintro (⟨o, ho, e0⟩ | h)
      · exact Or.inl ⟨πi o, h2 o ho, by show q = al (π (πi o)); rw [hinv]; exact e0⟩
      · exact Or.inr h
  refine kk ⟨B.1, B.2.1, B.2.2.1, B.2.2.2.1, B.2.2.2.2.1, fun i j hi hj e0 => ?_, B.2.2.2.2.2.2⟩ H locs ls (fun k q hk => ?_) ⟨g2.1, fun q a b => g2.2.1 q a (fun z => b ((hA _ _).mpr z)), fun x hx => (hA _ _).mpr (g2.2.2 x hx)⟩ g3
  · rw [mq_len h8] at hi hj
    have := B.2.2.2.2.2.1 (π i) (π j) (by rw [mq_len h9]; exact h1 i hi) (by rw [mq_len h9]; exact h1 j hj) e0
    rw [← hin2 i hi, this, hin2 j hj]
  · rw [mv_wl_at] at hk
    have hk : ((w8.take n)[k]?).map (fun t => (al (π k), mv_ce (mpw w8 dA D (fun k => al (π k)) n) τ k t)) = some q := hk
    rw [List.getElem?_take] at hk
    by_cases hn : k < n
    · rw [if_pos hn, hw k hn] at hk
      refine g1 (π k) q ?_
      rw [mv_wl_at]
      show ((w9.take n)[π k]?).map _ = _
      rw [List.getElem?_take, if_pos (h1 k hn)]
      rw [← hk]
      cases w9[π k]? with
      | none => rfl
      | some t => exact congrArg some (congrArg (Prod.mk _) (mq_pce hinv k (hσ k hn) t).symm)
    · rw [if_neg hn] at hk
      cases hk
theorem mq_pgr {z : Nat} (h : mq_gr al0 al n0 n z) (hf : ∀ k, k < n0 → π k = k) (h1 : ∀ k, k < n → π k < n) (hin2 : ∀ r, πi (π r) = r) : mq_gr al0 (fun k => al (π k)) n0 n z :=
  ⟨fun k hk => by show al (π k) = _; rw [hf k hk]; exact h.1 k hk, fun k a b => h.2 (π k) (by
    by_cases w : π k < n0
    · have h9 := hf _ w
      have h8 : π k = k := by rw [← hin2 (π k), h9, hin2]
      omega
    · omega) (h1 k b)⟩
end MPM
/-- a book's own order: what it throws is made first, and told last -/
def pmB (B k : Nat) : Nat := if k ≤ B then k else if k < B + 33 then k + 1 else if k = B + 33 then B + 1 else k
def piB (B r : Nat) : Nat := if r ≤ B then r else if r = B + 1 then B + 33 else if r ≤ B + 33 then r - 1 else r
theorem pmB_pi (B r : Nat) : pmB B (piB B r) = r := by
  unfold piB
  split
  · unfold pmB; rw [if_pos (by omega)]
  · split
    · unfold pmB; rw [if_neg (by omega), if_neg (by omega), if_pos rfl]; omega
    · split
      · unfold pmB; rw [if_neg (by omega), if_pos (by omega)]; omega
      · unfold pmB; rw [if_neg (by omega), if_neg (by omega), if_neg (by omega)]
theorem piB_pm (B k : Nat) : piB B (pmB B k) = k := by
  unfold pmB
  split
  · unfold piB; rw [if_pos (by omega)]
  · split
    · unfold piB; rw [if_neg (by omega), if_neg (by omega), if_pos (by omega)]; omega
    · split
      · unfold piB; rw [if_neg (by omega), if_pos rfl]; omega
      · unfold piB; rw [if_neg (by omega), if_neg (by omega), if_neg (by omega)]
theorem pmB_lt {B k : Nat} (h : k < B + 34) : pmB B k < B + 34 := by
  unfold pmB
  split
  · omega
  · split
    · omega
    · split <;> omega
theorem piB_lt {B k : Nat} (h : k < B + 34) : piB B k < B + 34 := by
  unfold piB
  split
  · omega
  · split
    · omega
    · split <;> omega
theorem piB_ok {B k : Nat} (hB : B ≤ 108) (h : k < B + 34 ∨ 161 ≤ k) : piB B k < B + 34 ∨ 161 ≤ piB B k := by
  rcases h with h | h
  · exact Or.inl (piB_lt h)
  · right
    unfold piB
    rw [if_neg (by omega), if_neg (by omega), if_neg (by omega)]
    exact h
theorem pmB_fix {B k : Nat} (h : k < B + 1) : pmB B k = k := if_pos (by omega)
def wxB (B : Nat) : mv_Sh := mw.take (B + 1) ++ (.inl 13 :: (mw.drop (B + 1)).take 32)
theorem wx_len {B : Nat} (h : B ≤ 108) : (wxB B).length = B + 34 := by
  unfold wxB
  rw [List.length_append, List.length_take, List.length_cons, List.length_take, List.length_drop, mw_len]
  omega
theorem wx_eq {B : Nat} (h : B ≤ 108) : mw.take (B + 1) = (wxB B).take (B + 1) := by
  unfold wxB
  rw [List.take_append_of_le_length (by rw [List.length_take, mw_len]; omega), List.take_take, Nat.min_self]
theorem wx_at {B : Nat} (h : B ≤ 108) (hx : mw[B + 33]? = some (.inl 13)) (k : Nat) (hk : k < B + 34) : mw[k]? = (wxB B)[pmB B k]? := by
  have hl : (mw.take (B + 1)).length = B + 1 := by rw [List.length_take, mw_len]; omega
  unfold wxB pmB
  split
  · rw [List.getElem?_append_left (by omega), List.getElem?_take, if_pos (by omega)]
  · split
    · rw [List.getElem?_append_right (by omega), hl, show k + 1 - (B + 1) = (k - (B + 1)) + 1 by omega, List.getElem?_cons_succ, List.getElem?_take, if_pos (by omega), List.getElem?_drop, show B + 1 + (k - (B + 1)) = k by omega]
    · split
      · rw [List.getElem?_append_right (by omega), hl, show B + 1 - (B + 1) = 0 by omega, List.getElem?_cons_zero, ← hx]
        congr 1
      · omega
/-- cells below n, and those that the shipped program will have, stay -/
def Kpb (n : Nat) (σ τ : mv_H) : Prop := ∀ o, (o < n ∨ 143 ≤ o) → mv_i τ o = mv_i σ o ∧ mv_l τ o = mv_l σ o ∧ mv_r τ o = mv_r σ o ∧ mv_a τ o = mv_a σ o ∧ mv_b τ o = mv_b σ o
def gh (σ : mv_H) : Prop := ∀ o k r, 143 ≤ o → mv_r σ o k = some r → 143 ≤ r
theorem Kpb.rf {n : Nat} {σ : mv_H} : Kpb n σ σ := fun _ _ => ⟨rfl, rfl, rfl, rfl, rfl⟩
theorem Kpb.tr2 {n m : Nat} {σ τ υ : mv_H} (h : Kpb n σ τ) (g : Kpb m τ υ) (hn : n ≤ m) : Kpb n σ υ := fun o ho => by
  obtain ⟨h1, h2, h3, h4, h5⟩ := h o ho
  obtain ⟨g1, g2, g3, g4, g5⟩ := g o (by omega)
  exact ⟨g1.trans h1, g2.trans h2, g3.trans h3, g4.trans h4, g5.trans h5⟩
theorem Kpb.nw {n m : Nat} {σ τ : mv_H} (h : Kpb n σ τ) (hm : n ≤ m ∧ m < 143) : Kpb n σ (mv_nw τ m) := h.tr2 (m := n) (fun o ho => ⟨funext fun k => if_neg (by omega), funext fun k => if_neg (by omega), funext fun k => if_neg (by omega), funext fun k => if_neg (by omega), funext fun k => if_neg (by omega)⟩) (Nat.le_refl _)
theorem Kpb.sr {n a k : Nat} {v : Option Nat} {σ τ : mv_H} (h : Kpb n σ τ) (hm : n ≤ a ∧ a < 143) : Kpb n σ (mv_sr τ a k v) := h.tr2 (m := n) (fun o ho => ⟨rfl, rfl, mv_u_o _ _ (by omega), rfl, rfl⟩) (Nat.le_refl _)
theorem Kpb.si {n a k : Nat} {v : Int32} {σ τ : mv_H} (h : Kpb n σ τ) (hm : n ≤ a ∧ a < 143) : Kpb n σ (mv_si τ a k v) := h.tr2 (m := n) (fun o ho => ⟨mv_u_o _ _ (by omega), rfl, rfl, rfl, rfl⟩) (Nat.le_refl _)
theorem gh.kb {n : Nat} {σ τ : mv_H} (h : gh σ) (g : Kpb n σ τ) : gh τ := fun o k r ho hr => h o k r ho (by rw [← (g o (Or.inr ho)).2.2.1]; exact hr)
theorem piB_id {B r : Nat} (hB : B ≤ 108) (h : r < B + 1 ∨ 143 ≤ r) : piB B r = r := by
  unfold piB
  by_cases z : r ≤ B
  · rw [if_pos z]
  · rw [if_neg z, if_neg (by omega), if_neg (by omega)]
theorem pmB_id {B r : Nat} (hB : B ≤ 108) (h : r < B + 1 ∨ 143 ≤ r) : pmB B r = r := by
  unfold pmB
  by_cases z : r ≤ B
  · rw [if_pos z]
  · rw [if_neg z, if_neg (by omega), if_neg (by omega)]
theorem Kpb.pm {B : Nat} {σ τ : mv_H} (h : Kpb B σ τ) (h0 : mv_ok σ (B + 1)) (hg : gh σ) (hB : B ≤ 108) : Kpb B σ (mv_pm (pmB B) (piB B) τ) := fun o ho => by
  obtain ⟨h1, h2, h3, h4, h5⟩ := h o ho
  have e : pmB B o = o := pmB_id hB (by omega)
  refine ⟨?_, ?_, funext fun k => ?_, ?_, ?_⟩
  · show mv_i τ (pmB B o) = _; rw [e]; exact h1
  · show mv_l τ (pmB B o) = _; rw [e]; exact h2
  · show (mv_r τ (pmB B o) k).map (piB B) = _
    rw [e, h3]
    cases h9 : mv_r σ o k with
    | none => rfl
    | some r =>
      show some (piB B r) = some r
      rw [piB_id hB]
      rcases ho with ho | ho
      · have := h0 o k r (by omega) h9
        omega
      · exact Or.inr (hg o k r ho h9)
  · show mv_a τ (pmB B o) = _; rw [e]; exact h4
  · show mv_b τ (pmB B o) = _; rw [e]; exact h5
/-- names of cells that are not made give way to new ones -/
def shP (k : Nat) : Nat := if k < 143 then k else k - 18
def shI (r : Nat) : Nat := if r < 143 then r else r + 18
theorem shP_I (r : Nat) : shP (shI r) = r := by
  unfold shI
  split
  · unfold shP; rw [if_pos (by omega)]
  · unfold shP; rw [if_neg (by omega)]; omega
theorem shP_lt {k : Nat} (h : k < 143) : shP k = k := if_pos h
theorem shI_lt {k : Nat} (h : k < 143) : shI k = k := if_pos h
def mv_sf (σ : mv_H) : mv_H := (σ.1, σ.2.1, fun o k => if o < 143 then (σ.2.2.1 o k).map shI else mr o k, σ.2.2.2.1, σ.2.2.2.2)
theorem mv_sf_r {σ : mv_H} {o : Nat} (h : o < 143) (k : Nat) : mv_r (mv_sf σ) o k = (mv_r σ o k).map shI := if_pos h
theorem mv_sf_ok (σ : mv_H) : mv_ok (mv_sf σ) 143 := fun o k r ho hr => by
  rw [mv_sf_r ho] at hr
  cases h9 : mv_r σ o k with
  | none => rw [h9] at hr; cases hr
  | some q =>
    rw [h9] at hr
    cases hr
    show shI q < 143 ∨ 161 ≤ shI q
    unfold shI
    split <;> omega
/-- the contract of a method that makes cells -/
def mv_CN (l : Launch) (y : MethodName) (ws : List Cond) (rm : Room) (dA : FieldType → ClassId) (D : va_G) (al : Nat → Nat) (n n' : Nat) (K : mv_T) (av : List Value) (σ : mv_H) (Post : Option Value → mv_H → Prop) : Prop :=
  MetFree l y (headSpec ws rm) (va_Pc av (mv_S (mq dA D al n) K σ)) (fun _ _ _ _ _ => True) (fun _ st o t => ∃ (v : Option Value) (al' : Nat → Nat) (σ' : mv_H), o = .returned v ∧ mq_gr al al' n n' st.heap.size ∧ mv_inj (mq dA D al' n') ∧ Post v σ' ∧ mv_E (mq dA D al' n') st rm.cells rm.slots σ' t)
def mv_QN (dA : FieldType → ClassId) (D : va_G) (al : Nat → Nat) (n n' : Nat) (below : List Frame) (s : State) (mc ms : Nat) (Post : Option Value → mv_H → Prop) : State → Prop := fun t =>
  ∃ o : Outcome, t.status = .running ∧ Ended t below o ∧ ∃ (v : Option Value) (al' : Nat → Nat) (σ' : mv_H), o = .returned v ∧ mq_gr al al' n n' s.heap.size ∧ mv_inj (mq dA D al' n') ∧ Post v σ' ∧ mv_E (mq dA D al' n') s mc ms σ' t
theorem mv_CN.ofV {l : Launch} {y : MethodName} {ws wall : List Cond} {rm : Room} {dA : FieldType → ClassId} {D : va_G} {al : Nat → Nat} {n n' : Nat} {K : mv_T} {av : List Value} {σ : mv_H} {Post : Option Value → mv_H → Prop} {cc : ByteArray} {nL : Nat} {ret : Option FieldType}
    (hy : plainFor y = true) (hw : ws = Cond.code y cc nL ret :: wall) (hi : mv_inj (mq dA D al n)) (hL : (lg_sl av).length ≤ nL)
    (body : ∀ (p : Program) (e : Env) (s : State) (m : MethodId) (args : Array Value) (below : List Frame) (meth : Method) (c : Code), mv_B p s m args meth c (mq dA D al n) wall y.cls cc nL → K (mv_A (mq dA D al n) s.heap.size) s s.heap → meth.sig.returnType = ret → meth.name = y.name → c.exceptionTable.isEmpty = true →
      mv_V p l e rm s m args below meth c (mq dA D al n) nL 0 0 (mv_QN dA D al n n' below s rm.cells rm.slots Post) σ 0 (lv_args 0 av) []) : mv_CN l y ws rm dA D al n n' K av σ Post := by
  refine MetFree.of_bodySF (code := cc) (maxLocals := nL) (ret := ret) hy ?_ ?_
  · intro args s m h hn
    obtain ⟨meth, c, h1, h2, h3, h4, h5, h6, -, -⟩ := Cond.code_spec hn (atoms_spec (ws := ws) h _ (by rw [hw]; exact List.mem_cons_self))
    exact ⟨meth, c, h1, h2, h3, h4, h5, h6⟩
  · intro p e s m args below meth c s₁ B hml hP _
    obtain ⟨rfl, hP, hK, hN⟩ := hP
    have hh0 : s₁.heap = s.heap := by rw [B.state]; rfl
    have hts := atoms_spec (ws := ws) B.pre
    have hb : mv_B p s m av.toArray meth c (mq dA D al n) wall y.cls cc nL := ⟨⟨B.exec, B.bytes⟩, hml, findClass_of_methodNamed B.named, fun w h => hts w (by rw [hw]; exact List.mem_cons_of_mem _ h), hK, hi, B.notSynchronized⟩
    have hl := lv_entry av (n := nL) hL
    have hV := body p e s m _ below meth c hb hN B.returns (name_of_methodNamed B.named B.method).1 (B.noHandlers (hts _ (by rw [hw]; exact List.mem_cons_self))) s.heap [] _ hP va_S.rf hl
    obtain ⟨t, a1, o, b1, b2, b3⟩ := hV s₁ hh0 (Stand.of_body B)
    have he : entryFrame m av.toArray nL = F0 m 0 ((lg_sl av ++ List.replicate (nL - (lg_sl av).length) Slot.unset).toArray) [] := lg_entry_eq m av nL
    rw [← he] at a1
    exact ⟨t, o, a1, b1, b2, b3⟩
section MQC
variable {p : Program} {l : Launch} {e : Env} {R : Room} {s : State} {m : MethodId} {args : Array Value} {below : List Frame} {meth : Method} {c : Code} {dA : FieldType → ClassId} {D : va_G} {al al0 : Nat → Nat} {n n' n0 : Nat} {ws : List Cond} {own : String} {cc : ByteArray} {nL : Nat} {cells slots : Nat} {Q : State → Prop} {σ : mv_H} {pc : Nat} {L : List (Nat × Value)} {stk rest : List Value} {G : mv_G}
  {K : mv_T} {ws' wt' : List Cond} {rm' : Room} {y : MethodName} {bytes : ByteArray} {maxL index mc ms na : Nat} {ret : Option FieldType} {av : List Value} {PN : Option Value → mv_H → Prop} {Post : mv_O → mv_H → Prop}
theorem mq_ends {H : Heap} {locs : List Loc} {v : Option Value} (B : mv_B p s m args meth c (mq dA D al n') ws own cc nL) (hP : va_P D mc_cl (mv_wl (mq dA D al n') σ) H) (hS : va_S (mv_A (mq dA D al n') s.heap.size) s.heap H locs) (hg : mq_gr al0 al n0 n' s.heap.size) (hp : PN v σ) (hc : cells ≤ mc) (hs : slots ≤ ms) :
    ∀ t, MQ below (fun _ _ o t => o = .returned v ∧ t.heap = H) args s cells slots (mv_A (mq dA D al n') s.heap.size) t → mv_QN dA D al0 n0 n' below s mc ms PN t := by
  rintro t ⟨o, h1, h2, ⟨h3, h4⟩, Lc, ⟨-, h5, h6⟩, h7⟩
  exact ⟨o, h1, h2, v, al, σ, h3, hg, B.2.2.2.2.2.1, hp, by rw [h4]; exact hP, hS.F h4, h5, Lc, h6.mono hc hs, h7⟩
theorem mq_vret (B : mv_B p s m args meth c (mq dA D al n') ws own cc nL) (hr : meth.sig.returnType = none) (hdg : decode cc pc = .ok (.return_, 1)) (hc : cells ≤ mc) (hs : slots ≤ ms) (hg : mq_gr al0 al n0 n' s.heap.size) (hp : PN none σ) :
    mv_V p l e R s m args below meth c (mq dA D al n') nL cells slots (mv_QN dA D al0 n0 n' below s mc ms PN) σ pc L [] := fun H locs ls h1 h2 h3 => by
  have hlocks := B.2.2.2.2.2.2
  exact mv_W_mono (mq_ends B h1 h2 hg hp hc hs) (W.vret B.1.1 B.1.2 hr (fun t ht _ => ⟨rfl, ht⟩) h2.2.2 hdg)
theorem mq_iret (B : mv_B p s m args meth c (mq dA D al n') ws own cc nL) {v : Int32} {ty : FieldType} (hr : meth.sig.returnType = some ty) (hn : narrow ty (.int v) = .int v) (hdg : decode cc pc = .ok (.ireturn, 1)) (hc : cells ≤ mc) (hs : slots ≤ ms) (hg : mq_gr al0 al n0 n' s.heap.size) (hp : PN (some (.int v)) σ) :
    mv_V p l e R s m args below meth c (mq dA D al n') nL cells slots (mv_QN dA D al0 n0 n' below s mc ms PN) σ pc L [.int v] := fun H locs ls h1 h2 h3 => by
  have hlocks := B.2.2.2.2.2.2
  exact mv_W_mono (mq_ends B h1 h2 hg hp hc hs) (W.zret (ty := ty) B.1.1 B.1.2 hr hn (fun t ht _ => ⟨rfl, ht⟩) h2.2.2 hdg)
theorem mq_core {U : State} {Ls : List Loc} (X : Stand p l e R s m args below meth c U Ls cells slots) {g : JFrame} (hg : g.method = m) (hsize : g.locals.size = c.maxLocals) {ig : Instr} {len : Nat} (hdg : decode c.code g.pc = .ok (ig, len)) (hW : 2 * g.monitorRoom + (g.stack.map fun v => v.category).sum ≤ 8)
    {mk : MethodId} (hN : mv_Tok K) (hn : U.methodNamed? y = some mk) (hcd : ∃ (methY : Method) (cY : Code), U.vm.method? mk = some methY ∧ methY.code = some cY ∧ cY.maxLocals = maxL) (hini : (Cond.initialized y.cls).before av.toArray U = true)
    (hM : mv_CN l y ws' rm' dA D al n n' K av σ PN) (hpre : (allAtoms ws').before av.toArray U = true) (hS : mv_S (mq dA D al n) K σ U) (hframes : rm'.frames + 1 ≤ R.frames) (hlocals : 8 + (maxL + 11) + rm'.locals ≤ R.locals) (hcells : cells + rm'.cells ≤ R.cells) (hslots : slots + rm'.slots ≤ R.slots) :
    ∃ (v : Option Value) (al' : Nat → Nat) (σ' : mv_H) (T' : State) (Lc : List Loc), mq_gr al al' n n' U.heap.size ∧ mv_inj (mq dA D al' n') ∧ PN v σ' ∧ va_P D mc_cl (mv_wl (mq dA D al' n') σ') T'.heap ∧ U.heap.size ≤ T'.heap.size ∧ (∀ q : Nat, q < U.heap.size → ¬ mv_A (mq dA D al' n') U.heap.size q → T'.heap[q]? = U.heap[q]?) ∧
      Stand p l e R s m args below meth c T' (Ls ++ Lc) (cells + rm'.cells) (slots + rm'.slots) ∧ (∀ q ∈ Lc, mv_A (mq dA D al' n') U.heap.size q.base) ∧ mv_to p e below g len mk av.toArray U T' (.inl v) := by
  obtain ⟨methY, cY, hmY, hcY, hlY⟩ := hcd
  obtain ⟨kY, hkY, -⟩ := className_of_methodNamed hn
  have hinitY : kY.init = .initialized := Cond.initialized_spec (findClass_of_methodNamed hn) hkY hini
  have h : At U g.method c below := by rw [hg]; exact X.here
  have happ : (headSpec ws' rm').appliesLoose y e.platform (U.calling g mk av.toArray) = true :=
    Spec.appliesLoose_calling (g := g) h hdg hn hkY hinitY (X.room_calling (g := g) (R' := rm') hsize hmY hcY hframes (by rw [hlY]; omega) hcells hslots) hpre
  obtain ⟨mid, hmid⟩ := h.above
  have hfr : (U.setTop g).frames = (.java g :: mid) ++ below := by rw [State.frames_setTop' g h.top, hmid]; rfl
  have hS' : mv_S (mq dA D al n) K σ (U.calling g mk av.toArray) := ⟨hS.1, va_K.moved (u := U) (U := U.calling g mk av.toArray) (Vm.Alike.refl U.vm) hS.2.1, hN.1 _ U (U.calling g mk av.toArray) _ (State.WarmedH.refl U) hS.2.2⟩
  obtain ⟨o, s₂, hsteps, -, hend, v, al', σ', ho, hgr, hinj, hp, hP2, hF2, hW2, Lc, hsame, hLc⟩ := Steps.callFree hM p X.admits X.cas X.clock (acts := []) hfr happ ⟨rfl, hS'⟩ trivial
  rw [State.frames_setTop' g h.top] at hend
  have hgr3 : mq_gr al al' n n' U.heap.size := hgr
  have hF3 : va_F (mv_A (mq dA D al' n') U.heap.size) (U.calling g mk av.toArray) s₂ := hF2
  have hLc3 : ∀ q ∈ Lc, mv_A (mq dA D al' n') U.heap.size q.base := hLc
  obtain ⟨e2, q2, q3, q4, q5, q6⟩ := hsame
  have e3 : s₂ = ({ (U.calling g mk av.toArray).setFrames s₂.frames with heap := s₂.heap, slotsUsed := s₂.slotsUsed } : State).setVm s₂.vm := by
    have : s₂ = ({ s₂ with vm := (U.calling g mk av.toArray).vm } : State).setVm s₂.vm := rfl
    rw [show (({ s₂ with vm := (U.calling g mk av.toArray).vm } : State)) = _ from e2] at this
    exact this
  have hW' : U.WarmedH s₂.vm := hW2
  obtain ⟨g₀, hg0⟩ := Option.isSome_iff_exists.mp h.top
  obtain ⟨rr, hr⟩ := State.topJava?_eq_some.mp hg0
  have hr' : (({ U with heap := s₂.heap, slotsUsed := s₂.slotsUsed } : State).setVm s₂.vm).frames = .java g₀ :: rr := hr
  have hsm : U.sameButNew ({ U with heap := s₂.heap, slotsUsed := s₂.slotsUsed } : State) Lc rm'.cells rm'.slots := by
    refine ⟨?_, q2, q3, q4, q5, q6⟩
    obtain ⟨t, ht, -⟩ := State.frames_cons hr
    show ({ U with heap := s₂.heap, slotsUsed := s₂.slotsUsed } : State) = { U.setFrames U.frames with heap := s₂.heap, slotsUsed := s₂.slotsUsed }
    rw [State.setFrames_self ht]
  subst hg
  have XT : Stand p l e R s g.method args below meth c (({ U with heap := s₂.heap, slotsUsed := s₂.slotsUsed } : State).setVm s₂.vm) (Ls ++ Lc) (cells + rm'.cells) (slots + rm'.slots) :=
    ⟨X.admits, X.cas, X.clock, X.frames, X.room, X.hears, X.method, X.code, (X.here.setHeapUsed s₂.heap s₂.slotsUsed).setVm hW'.alike, X.tail, State.WarmedH.trans X.warmed hW', X.limits, X.bytes, X.same.trans (hsm.setVm s.vm)⟩
  refine ⟨v, al', σ', ({ U with heap := s₂.heap, slotsUsed := s₂.slotsUsed } : State).setVm s₂.vm, Lc, hgr3, hinj, hp, hP2, hF3.1, hF3.2, XT, hLc3, ?_⟩
  subst ho
  obtain ⟨c₂, i₂, len₂, hc₂, hd₂, hf₂⟩ := hend
  have hcc : c₂ = c := by
    have h1 : s₂.code? g.method = U.code? g.method := by
      rw [State.code?_eq, State.code?_eq, hW'.alike.method?]
    exact Option.some.inj (hc₂.symm.trans (h1.trans h.code))
  subst hcc
  have hlen : len₂ = len := by rw [hdg] at hd₂; cases hd₂; rfl
  subst hlen
  have hs₂ : s₂ = (({ U with heap := s₂.heap, slotsUsed := s₂.slotsUsed } : State).setVm s₂.vm).setTop { g with pc := g.pc + len₂, stack := v.toList ++ g.stack } := by
    refine e3.trans ?_
    rw [hf₂, State.calling_eq h.top, State.setFrames_setFrames, State.setTop_of_frames _ hr', hr]
    rfl
  show Steps p.tables e below _ ((({ U with heap := s₂.heap, slotsUsed := s₂.slotsUsed } : State).setVm s₂.vm).setTop { g with pc := g.pc + len₂, stack := v.toList ++ g.stack })
  rw [← hs₂]
  exact hsteps
/-- behind a call that makes cells -/
theorem mq_back {T U : State} {H : Heap} {locs : List Loc} {ls : Array Slot} {mk : MethodId} (B : mv_B p s m args meth c (mq dA D al n) ws own cc nL) (hU : U.heap = H) (hnn : n ≤ n') (h161 : n' ≤ 161) (h2 : va_S (mv_A (mq dA D al n) s.heap.size) s.heap H locs) (h3 : lv_has ls nL L)
    (hcore : ∃ (v : Option Value) (al' : Nat → Nat) (σ' : mv_H) (T' : State) (Lc : List Loc), mq_gr al al' n n' U.heap.size ∧ mv_inj (mq dA D al' n') ∧ PN v σ' ∧ va_P D mc_cl (mv_wl (mq dA D al' n') σ') T'.heap ∧ U.heap.size ≤ T'.heap.size ∧ (∀ q : Nat, q < U.heap.size → ¬ mv_A (mq dA D al' n') U.heap.size q → T'.heap[q]? = U.heap[q]?) ∧
      Stand p l e R s m args below meth c T' (locs ++ Lc) (cells + rm'.cells) (slots + rm'.slots) ∧ (∀ q ∈ Lc, mv_A (mq dA D al' n') U.heap.size q.base) ∧ mv_to p e below (F0 m pc ls rest) 3 mk av.toArray U T' (.inl v))
    (hstep : ∀ tg, Steps p.tables e below (doInvoke e (U.setTop (F0 m pc ls rest)) [] mk av.toArray).1 tg → Steps p.tables e below (T.setTop (F0 m pc ls stk)) tg)
    (kn : ∀ (v : Option Value) (al' : Nat → Nat) (σ' : mv_H), mq_gr al al' n n' s.heap.size → mv_B p s m args meth c (mq dA D al' n') ws own cc nL → PN v σ' → mv_V p l e R s m args below meth c (mq dA D al' n') nL (cells + rm'.cells) (slots + rm'.slots) Q σ' (pc + 3) L (v.toList ++ rest)) :
    ∃ t, Steps p.tables e below (T.setTop (F0 m pc ls stk)) t ∧ Q t := by
  obtain ⟨v, al', σ', T', Lc, hgr, hinj, hp, hP, hz, hk, X', hL, hto⟩ := hcore
  subst hU
  have hg2 : mq_gr al al' n n' s.heap.size := hgr.le h2.1
  have h2' := mq_S hg2 hnn (mw_le h161) h2
  have up : ∀ q, mv_A (mq dA D al' n') U.heap.size q → mv_A (mq dA D al' n') s.heap.size q := fun q h => by
    rcases h with h | h
    · exact Or.inl h
    · exact Or.inr (Nat.le_trans h2.1 h)
  have hS : va_S (mv_A (mq dA D al' n') s.heap.size) s.heap T'.heap (locs ++ Lc) := ⟨Nat.le_trans h2'.1 hz, fun q g1 g2 => (hk q (Nat.lt_of_lt_of_le g1 h2'.1) (fun z => g2 (up q z))).trans (h2'.2.1 q g1 g2), fun q hq => by
    rcases List.mem_append.mp hq with h | h
    · exact h2'.2.2 q h
    · exact up _ (hL q h)⟩
  obtain ⟨t, a1, b1⟩ := kn v al' σ' hg2 ⟨B.1, B.2.1, B.2.2.1, B.2.2.2.1, B.2.2.2.2.1, hinj, B.2.2.2.2.2.2⟩ hp T'.heap _ ls hP hS h3 T' rfl X'
  exact ⟨t, hstep t (Steps.trans hto a1), b1⟩
/-- behind a call that does not throw -/
theorem mv_backG {T U : State} {H : Heap} {locs : List Loc} {ls : Array Slot} {mk : MethodId} (hU : U.heap = H) (h2 : va_S (mv_A G s.heap.size) s.heap H locs) (h3 : lv_has ls nL L)
    (hcore : ∃ (r : mv_O) (σ' : mv_H) (T' : State) (Lc : List Loc), Post r σ' ∧ va_P (mv_D G) (mv_cl G) (mv_wl G σ') T'.heap ∧ U.heap.size ≤ T'.heap.size ∧ (∀ q : Nat, q < U.heap.size → ¬ mv_A G U.heap.size q → T'.heap[q]? = U.heap[q]?) ∧
      Stand p l e R s m args below meth c T' (locs ++ Lc) (cells + rm'.cells) (slots + rm'.slots) ∧ (∀ q ∈ Lc, mv_A G U.heap.size q.base) ∧ mv_to p e below (F0 m pc ls rest) 3 mk av.toArray U T' r)
    (hstep : ∀ tg, Steps p.tables e below (doInvoke e (U.setTop (F0 m pc ls rest)) [] mk av.toArray).1 tg → Steps p.tables e below (T.setTop (F0 m pc ls stk)) tg)
    (kt : ∀ (x : String × Nat) (σ' : mv_H), ¬ Post (.inr x) σ')
    (kn : ∀ (v : Option Value) (σ' : mv_H), Post (.inl v) σ' → mv_V p l e R s m args below meth c G nL (cells + rm'.cells) (slots + rm'.slots) Q σ' (pc + 3) L (v.toList ++ rest)) :
    ∃ t, Steps p.tables e below (T.setTop (F0 m pc ls stk)) t ∧ Q t := by
  obtain ⟨r, σ', T', Lc, hp, hP, hz, hk, X', hL, hto⟩ := hcore
  subst hU
  have up : ∀ q, mv_A G U.heap.size q → mv_A G s.heap.size q := fun q h => by
    rcases h with h | h
    · exact Or.inl h
    · exact Or.inr (Nat.le_trans h2.1 h)
  have hS : va_S (mv_A G s.heap.size) s.heap T'.heap (locs ++ Lc) := ⟨Nat.le_trans h2.1 hz, fun q g1 g2 => (hk q (Nat.lt_of_lt_of_le g1 h2.1) (fun z => g2 (up q z))).trans (h2.2.1 q g1 g2), fun q hq => by
    rcases List.mem_append.mp hq with h | h
    · exact h2.2.2 q h
    · exact up _ (hL q h)⟩
  cases r with
  | inl v =>
    obtain ⟨t, a1, b1⟩ := kn v σ' hp T'.heap _ ls hP hS h3 T' rfl X'
    exact ⟨t, hstep t (Steps.trans hto a1), b1⟩
  | inr x => exact absurd hp (kt x σ')
theorem mq_callI (B : mv_B p s m args meth c (mq dA D al n) ws own cc nL) (hN : mv_Tok K) (hNs : K (mv_A (mq dA D al n) s.heap.size) s s.heap) (hnn : n ≤ n') (h161 : n' ≤ 161) {a : Nat} (hM : mv_CN l y ws' rm' dA D al n n' K (.ref a :: av) σ PN) (hw : ws' = Cond.code y bytes maxL none :: wt') (hG : GoodIn ws ws')
    (hlink : (Cond.methodLink own index y).before args s = true) (hinst : (Cond.instanceMethod y).before args s = true) (hini : (Cond.initialized y.cls).before args s = true)
    (hd : y.name = "<init>" ∧ (y.cls ≠ "java/lang/invoke/MethodHandle" ∧ y.cls ≠ "java/lang/invoke/VarHandle") ∧ (parseMethodDescriptor y.desc).map (fun d => d.parameters.length) = some na) (hn : av.length = na)
    (hdg : decode cc pc = .ok (.invokespecial index, 3)) (hstk : stk = av.reverse ++ .ref a :: rest) (hr8 : (rest.map fun v => v.category).sum ≤ 8) (hroom : rm'.frames + 1 ≤ R.frames ∧ 8 + (maxL + 11) + rm'.locals ≤ R.locals) (hcell : cells + rm'.cells ≤ R.cells ∧ slots + rm'.slots ≤ R.slots)
    (kn : ∀ (v : Option Value) (al' : Nat → Nat) (σ' : mv_H), mq_gr al al' n n' s.heap.size → mv_B p s m args meth c (mq dA D al' n') ws own cc nL → PN v σ' → mv_V p l e R s m args below meth c (mq dA D al' n') nL (cells + rm'.cells) (slots + rm'.slots) Q σ' (pc + 3) L (v.toList ++ rest)) :
    mv_V p l e R s m args below meth c (mq dA D al n) nL cells slots Q σ pc L stk := fun H locs ls h1 h2 h3 T hT X => by
  have hcode : (Cond.code y bytes maxL none).before args s = true := B.2.2.2.1 _ (hG _ (by rw [hw]; exact List.mem_cons_self)).1
  have hpl : e.platform.magicAccessors = ({} : Platform).magicAccessors := by rw [X.admits.platform]
  have hlen : ∀ sig, parseMethodDescriptor y.desc = some sig → av.length = sig.parameters.length := fun sig h => by
    have h9 := hd.2.2
    rw [h] at h9
    exact hn.trans (Option.some.inj h9).symm
  obtain ⟨mk, methM, cM, kP, vm₁, hnamed, hmethM, hcodeM, -, hlocalsM, -, hkP, -, hW₁, hstep₁⟩ := Steps.initColdArgs (e := e) X.here B.1.1 X.warmed hpl B.2.2.1 hd.1 hd.2.1 hlink hinst hcode (f := F0 m pc ls stk) rfl hlen hstk (by rw [B.1.2]; exact hdg)
  have X₁ := X.noted hW₁
  have hU : (T.setVm vm₁).heap = H := hT
  have hcore := mq_core X₁ (g := F0 m pc ls rest) rfl (by rw [B.2.1]; exact h3.1) (ig := .invokespecial index) (len := 3) (by rw [B.1.2]; exact hdg) (lv_room hr8) hN (X₁.named hnamed) (mv_cd B hG hw X₁.warmed (X₁.named hnamed))
    (word_at X₁.warmed (Or.inl (by first | rfl | simp [Cond.onTables, Cond.keeps, Cond.steady])) hini) hM (mv_pre B hG X₁.warmed _) (mv_S_of B hN hNs hU X₁.warmed h1 h2) hroom.1 hroom.2 hcell.1 hcell.2
  exact mq_back B hU hnn h161 h2 h3 hcore (fun tg h => hstep₁ _ fun acts => by rw [doInvoke_state]; exact h) kn
theorem mv_callI (B : mv_B p s m args meth c G ws own cc nL) (hN : mv_Tok K) (hNs : K (mv_A G s.heap.size) s s.heap) {a : Nat} (hM : mv_C l y ws' rm' G K (.ref a :: av) σ Post) (hw : ws' = Cond.code y bytes maxL none :: wt') (hG : GoodIn ws ws')
    (hlink : (Cond.methodLink own index y).before args s = true) (hinst : (Cond.instanceMethod y).before args s = true) (hini : (Cond.initialized y.cls).before args s = true)
    (hd : y.name = "<init>" ∧ (y.cls ≠ "java/lang/invoke/MethodHandle" ∧ y.cls ≠ "java/lang/invoke/VarHandle") ∧ (parseMethodDescriptor y.desc).map (fun d => d.parameters.length) = some na) (hn : av.length = na)
    (hdg : decode cc pc = .ok (.invokespecial index, 3)) (hstk : stk = av.reverse ++ .ref a :: rest) (hr8 : (rest.map fun v => v.category).sum ≤ 8) (hroom : rm'.frames + 1 ≤ R.frames ∧ 8 + (maxL + 11) + rm'.locals ≤ R.locals) (hcell : cells + rm'.cells ≤ R.cells ∧ slots + rm'.slots ≤ R.slots)
    (kt : ∀ (x : String × Nat) (σ' : mv_H), ¬ Post (.inr x) σ')
    (kn : ∀ (v : Option Value) (σ' : mv_H), Post (.inl v) σ' → mv_V p l e R s m args below meth c G nL (cells + rm'.cells) (slots + rm'.slots) Q σ' (pc + 3) L (v.toList ++ rest)) :
    mv_V p l e R s m args below meth c G nL cells slots Q σ pc L stk := fun H locs ls h1 h2 h3 T hT X => by
  have hcode : (Cond.code y bytes maxL none).before args s = true := B.2.2.2.1 _ (hG _ (by rw [hw]; exact List.mem_cons_self)).1
  have hpl : e.platform.magicAccessors = ({} : Platform).magicAccessors := by rw [X.admits.platform]
  have hlen : ∀ sig, parseMethodDescriptor y.desc = some sig → av.length = sig.parameters.length := fun sig h => by
    have h9 := hd.2.2
    rw [h] at h9
    exact hn.trans (Option.some.inj h9).symm
  obtain ⟨mk, methM, cM, kP, vm₁, hnamed, hmethM, hcodeM, -, hlocalsM, -, hkP, -, hW₁, hstep₁⟩ := Steps.initColdArgs (e := e) X.here B.1.1 X.warmed hpl B.2.2.1 hd.1 hd.2.1 hlink hinst hcode (f := F0 m pc ls stk) rfl hlen hstk (by rw [B.1.2]; exact hdg)
  have X₁ := X.noted hW₁
  have hU : (T.setVm vm₁).heap = H := hT
  have hcore := mv_core X₁ (g := F0 m pc ls rest) rfl (by rw [B.2.1]; exact h3.1) (ig := .invokespecial index) (len := 3) (by rw [B.1.2]; exact hdg) (lv_room hr8) hN (X₁.named hnamed) (mv_cd B hG hw X₁.warmed (X₁.named hnamed))
    (word_at X₁.warmed (Or.inl (by first | rfl | simp [Cond.onTables, Cond.keeps, Cond.steady])) hini) hM (mv_pre B hG X₁.warmed _) (mv_S_of B hN hNs hU X₁.warmed h1 h2) hroom.1 hroom.2 hcell.1 hcell.2
  exact mv_backG hU h2 h3 hcore (fun tg h => hstep₁ _ fun acts => by rw [doInvoke_state]; exact h) kt kn
theorem mq_callIN (B : mv_B p s m args meth c (mq dA D al n) ws own cc nL) (hN : mv_Tok K) (hNs : K (mv_A (mq dA D al n) s.heap.size) s s.heap) (hnn : n ≤ n') (h161 : n' ≤ 161) {a : Nat} {host : String} (hM : mv_CN l y ws' rm' dA D al n n' K (.ref a :: av) σ PN) (hw : ws' = Cond.code y bytes maxL none :: wt') (hG : GoodIn ws ws')
    (hlink : (Cond.methodLinkNest own index y host).before args s = true) (hinst : (Cond.instanceMethod y).before args s = true) (hini : (Cond.initialized y.cls).before args s = true)
    (hd : y.name = "<init>" ∧ (y.cls ≠ "java/lang/invoke/MethodHandle" ∧ y.cls ≠ "java/lang/invoke/VarHandle") ∧ (parseMethodDescriptor y.desc).map (fun d => d.parameters.length) = some na) (hn : av.length = na)
    (hdg : decode cc pc = .ok (.invokespecial index, 3)) (hstk : stk = av.reverse ++ .ref a :: rest) (hr8 : (rest.map fun v => v.category).sum ≤ 8) (hroom : rm'.frames + 1 ≤ R.frames ∧ 8 + (maxL + 11) + rm'.locals ≤ R.locals) (hcell : cells + rm'.cells ≤ R.cells ∧ slots + rm'.slots ≤ R.slots)
    (kn : ∀ (v : Option Value) (al' : Nat → Nat) (σ' : mv_H), mq_gr al al' n n' s.heap.size → mv_B p s m args meth c (mq dA D al' n') ws own cc nL → PN v σ' → mv_V p l e R s m args below meth c (mq dA D al' n') nL (cells + rm'.cells) (slots + rm'.slots) Q σ' (pc + 3) L (v.toList ++ rest)) :
    mv_V p l e R s m args below meth c (mq dA D al n) nL cells slots Q σ pc L stk := fun H locs ls h1 h2 h3 T hT X => by
  have hcode : (Cond.code y bytes maxL none).before args s = true := B.2.2.2.1 _ (hG _ (by rw [hw]; exact List.mem_cons_self)).1
  have hpl : e.platform.magicAccessors = ({} : Platform).magicAccessors := by rw [X.admits.platform]
  have hlen : ∀ sig, parseMethodDescriptor y.desc = some sig → av.length = sig.parameters.length := fun sig h => by
    have h9 := hd.2.2
    rw [h] at h9
    exact hn.trans (Option.some.inj h9).symm
  obtain ⟨mk, methM, cM, kP, vm₁, hnamed, hmethM, hcodeM, -, hlocalsM, -, hkP, -, hW₁, hstep₁⟩ := Steps.initColdArgsNest (e := e) X.here B.1.1 X.warmed hpl B.2.2.1 hd.1 hd.2.1 hlink hinst hcode (f := F0 m pc ls stk) rfl hlen hstk (by rw [B.1.2]; exact hdg)
  have X₁ := X.noted hW₁
  have hU : (T.setVm vm₁).heap = H := hT
  have hcore := mq_core X₁ (g := F0 m pc ls rest) rfl (by rw [B.2.1]; exact h3.1) (ig := .invokespecial index) (len := 3) (by rw [B.1.2]; exact hdg) (lv_room hr8) hN (X₁.named hnamed) (mv_cd B hG hw X₁.warmed (X₁.named hnamed))
    (word_at X₁.warmed (Or.inl (by first | rfl | simp [Cond.onTables, Cond.keeps, Cond.steady])) hini) hM (mv_pre B hG X₁.warmed _) (mv_S_of B hN hNs hU X₁.warmed h1 h2) hroom.1 hroom.2 hcell.1 hcell.2
  exact mq_back B hU hnn h161 h2 h3 hcore (fun tg h => hstep₁ _ fun acts => by rw [doInvoke_state]; exact h) kn
theorem mv_callIN (B : mv_B p s m args meth c G ws own cc nL) (hN : mv_Tok K) (hNs : K (mv_A G s.heap.size) s s.heap) {a : Nat} {host : String} (hM : mv_C l y ws' rm' G K (.ref a :: av) σ Post) (hw : ws' = Cond.code y bytes maxL none :: wt') (hG : GoodIn ws ws')
    (hlink : (Cond.methodLinkNest own index y host).before args s = true) (hinst : (Cond.instanceMethod y).before args s = true) (hini : (Cond.initialized y.cls).before args s = true)
    (hd : y.name = "<init>" ∧ (y.cls ≠ "java/lang/invoke/MethodHandle" ∧ y.cls ≠ "java/lang/invoke/VarHandle") ∧ (parseMethodDescriptor y.desc).map (fun d => d.parameters.length) = some na) (hn : av.length = na)
    (hdg : decode cc pc = .ok (.invokespecial index, 3)) (hstk : stk = av.reverse ++ .ref a :: rest) (hr8 : (rest.map fun v => v.category).sum ≤ 8) (hroom : rm'.frames + 1 ≤ R.frames ∧ 8 + (maxL + 11) + rm'.locals ≤ R.locals) (hcell : cells + rm'.cells ≤ R.cells ∧ slots + rm'.slots ≤ R.slots)
    (kt : ∀ (x : String × Nat) (σ' : mv_H), ¬ Post (.inr x) σ')
    (kn : ∀ (v : Option Value) (σ' : mv_H), Post (.inl v) σ' → mv_V p l e R s m args below meth c G nL (cells + rm'.cells) (slots + rm'.slots) Q σ' (pc + 3) L (v.toList ++ rest)) :
    mv_V p l e R s m args below meth c G nL cells slots Q σ pc L stk := fun H locs ls h1 h2 h3 T hT X => by
  have hcode : (Cond.code y bytes maxL none).before args s = true := B.2.2.2.1 _ (hG _ (by rw [hw]; exact List.mem_cons_self)).1
  have hpl : e.platform.magicAccessors = ({} : Platform).magicAccessors := by rw [X.admits.platform]
  have hlen : ∀ sig, parseMethodDescriptor y.desc = some sig → av.length = sig.parameters.length := fun sig h => by
    have h9 := hd.2.2
    rw [h] at h9
    exact hn.trans (Option.some.inj h9).symm
  obtain ⟨mk, methM, cM, kP, vm₁, hnamed, hmethM, hcodeM, -, hlocalsM, -, hkP, -, hW₁, hstep₁⟩ := Steps.initColdArgsNest (e := e) X.here B.1.1 X.warmed hpl B.2.2.1 hd.1 hd.2.1 hlink hinst hcode (f := F0 m pc ls stk) rfl hlen hstk (by rw [B.1.2]; exact hdg)
  have X₁ := X.noted hW₁
  have hU : (T.setVm vm₁).heap = H := hT
  have hcore := mv_core X₁ (g := F0 m pc ls rest) rfl (by rw [B.2.1]; exact h3.1) (ig := .invokespecial index) (len := 3) (by rw [B.1.2]; exact hdg) (lv_room hr8) hN (X₁.named hnamed) (mv_cd B hG hw X₁.warmed (X₁.named hnamed))
    (word_at X₁.warmed (Or.inl (by first | rfl | simp [Cond.onTables, Cond.keeps, Cond.steady])) hini) hM (mv_pre B hG X₁.warmed _) (mv_S_of B hN hNs hU X₁.warmed h1 h2) hroom.1 hroom.2 hcell.1 hcell.2
  exact mv_backG hU h2 h3 hcore (fun tg h => hstep₁ _ fun acts => by rw [doInvoke_state]; exact h) kt kn
theorem mq_callV (B : mv_B p s m args meth c (mq dA D al n) ws own cc nL) (hN : mv_Tok K) (hNs : K (mv_A (mq dA D al n) s.heap.size) s s.heap) (hnn : n ≤ n') (h161 : n' ≤ 161) {C : String} {T0 : u_T} {N0 o ci : Nat} (hs : (mv_sh (mq dA D al n))[o]? = some (.inl ci)) (hcl : (mv_cl (mq dA D al n))[ci]? = some (C, T0, N0)) (hM : mv_CN l y ws' rm' dA D al n n' K (.ref (mv_al (mq dA D al n) o) :: av) σ PN) (hw : ws' = Cond.code y bytes maxL ret :: wt') (hG : GoodIn ws ws')
    (hlink : (Cond.methodLink own index y).before args s = true) (hinst : (Cond.instanceMethod y).before args s = true) (hsel : (Cond.selects C y y).before args s = true) (hini : (Cond.initialized y.cls).before args s = true)
    (hd : y.cls ≠ "java/lang/invoke/MethodHandle" ∧ y.cls ≠ "java/lang/invoke/VarHandle" ∧ (parseMethodDescriptor y.desc).map (fun d => d.parameters.length) = some na) (hn : av.length = na)
    (hdg : decode cc pc = .ok (.invokevirtual index, 3)) (hstk : stk = av.reverse ++ .ref (mv_al (mq dA D al n) o) :: rest) (hr8 : (rest.map fun v => v.category).sum ≤ 8) (hroom : rm'.frames + 1 ≤ R.frames ∧ 8 + (maxL + 11) + rm'.locals ≤ R.locals) (hcell : cells + rm'.cells ≤ R.cells ∧ slots + rm'.slots ≤ R.slots)
    (kn : ∀ (v : Option Value) (al' : Nat → Nat) (σ' : mv_H), mq_gr al al' n n' s.heap.size → mv_B p s m args meth c (mq dA D al' n') ws own cc nL → PN v σ' → mv_V p l e R s m args below meth c (mq dA D al' n') nL (cells + rm'.cells) (slots + rm'.slots) Q σ' (pc + 3) L (v.toList ++ rest)) :
    mv_V p l e R s m args below meth c (mq dA D al n) nL cells slots Q σ pc L stk := fun H locs ls h1 h2 h3 T hT X => by
  have hcode : (Cond.code y bytes maxL ret).before args s = true := B.2.2.2.1 _ (hG _ (by rw [hw]; exact List.mem_cons_self)).1
  obtain ⟨mk, methM, hnamed, hmethM, hstM, habM⟩ := Cond.instanceMethod_spec hinst
  obtain ⟨methM', cM, hmethM', -, -, -, -, -, -, hsigM⟩ := Cond.code_spec hnamed hcode
  cases hmethM.symm.trans hmethM'
  obtain ⟨r0, z1, cellB, z2, z3, z4, -⟩ := h1 o _ (mv_wl_o σ hs)
  have hr0 : r0 = (C, T0, N0) := Option.some.inj (z1.symm.trans hcl)
  subst hr0
  obtain ⟨-, hfc, -⟩ := B.2.2.2.2.1.1 ci _ hcl
  have hcls : s.vm.findClass C = some cellB.cls := by rw [z3]; exact hfc
  obtain ⟨c2, r2, m2, q1, q2, q3, q4, kP, hkP, hkPi⟩ := Cond.selects_spec hsel
  cases hcls.symm.trans q1
  cases (State.methodFound?_of_named hnamed ⟨hd.1, hd.2.1⟩).symm.trans q2
  cases hnamed.symm.trans q3
  have hselP : selectMethod e.platform s.vm cellB.cls mk = .method mk := by rw [Launch.admits_selectMethod X.admits]; exact q4
  have hlen : av.length = methM.sig.parameters.length := by
    have h9 := hd.2.2
    rw [hsigM] at h9
    exact hn.trans (Option.some.inj h9).symm
  obtain ⟨vm₁, X₁, hstep₁⟩ := X.invokevirtual B.1.1 B.2.2.1 hlink hnamed hmethM hstM hkP hkPi ⟨hd.1, hd.2.1⟩ (a := mv_al (mq dA D al n) o) (cell := cellB) (by rw [hT]; exact z2)
    (fun z h => by rw [h] at z4; cases z4) hselP hmethM habM hkP hkPi (g := F0 m pc ls stk) rfl (argsL := av) (rest := rest) hlen hstk (by rw [B.1.2]; exact hdg)
  have hU : (T.setVm vm₁).heap = H := hT
  have hcore := mq_core X₁ (g := F0 m pc ls rest) rfl (by rw [B.2.1]; exact h3.1) (ig := .invokevirtual index) (len := 3) (by rw [B.1.2]; exact hdg) (lv_room hr8) hN (X₁.named hnamed) (mv_cd B hG hw X₁.warmed (X₁.named hnamed))
    (word_at X₁.warmed (Or.inl (by first | rfl | simp [Cond.onTables, Cond.keeps, Cond.steady])) hini) hM (mv_pre B hG X₁.warmed _) (mv_S_of B hN hNs hU X₁.warmed h1 h2) hroom.1 hroom.2 hcell.1 hcell.2
  exact mq_back B hU hnn h161 h2 h3 hcore (fun tg h => hstep₁ _ fun acts => by rw [doInvoke_state]; exact h) kn
theorem mv_callVG (B : mv_B p s m args meth c G ws own cc nL) (hN : mv_Tok K) (hNs : K (mv_A G s.heap.size) s s.heap) {C : String} {T0 : u_T} {N0 o ci : Nat} (hs : (mv_sh G)[o]? = some (.inl ci)) (hcl : (mv_cl G)[ci]? = some (C, T0, N0)) (hM : mv_C l y ws' rm' G K (.ref (mv_al G o) :: av) σ Post) (hw : ws' = Cond.code y bytes maxL ret :: wt') (hG : GoodIn ws ws')
    (hlink : (Cond.methodLink own index y).before args s = true) (hinst : (Cond.instanceMethod y).before args s = true) (hsel : (Cond.selects C y y).before args s = true) (hini : (Cond.initialized y.cls).before args s = true)
    (hd : y.cls ≠ "java/lang/invoke/MethodHandle" ∧ y.cls ≠ "java/lang/invoke/VarHandle" ∧ (parseMethodDescriptor y.desc).map (fun d => d.parameters.length) = some na) (hn : av.length = na)
    (hdg : decode cc pc = .ok (.invokevirtual index, 3)) (hstk : stk = av.reverse ++ .ref (mv_al G o) :: rest) (hr8 : (rest.map fun v => v.category).sum ≤ 8) (hroom : rm'.frames + 1 ≤ R.frames ∧ 8 + (maxL + 11) + rm'.locals ≤ R.locals) (hcell : cells + rm'.cells ≤ R.cells ∧ slots + rm'.slots ≤ R.slots)
    (kt : ∀ (x : String × Nat) (σ' : mv_H), ¬ Post (.inr x) σ')
    (kn : ∀ (v : Option Value) (σ' : mv_H), Post (.inl v) σ' → mv_V p l e R s m args below meth c G nL (cells + rm'.cells) (slots + rm'.slots) Q σ' (pc + 3) L (v.toList ++ rest)) :
    mv_V p l e R s m args below meth c G nL cells slots Q σ pc L stk := fun H locs ls h1 h2 h3 T hT X => by
  have hcode : (Cond.code y bytes maxL ret).before args s = true := B.2.2.2.1 _ (hG _ (by rw [hw]; exact List.mem_cons_self)).1
  obtain ⟨mk, methM, hnamed, hmethM, hstM, habM⟩ := Cond.instanceMethod_spec hinst
  obtain ⟨methM', cM, hmethM', -, -, -, -, -, -, hsigM⟩ := Cond.code_spec hnamed hcode
  cases hmethM.symm.trans hmethM'
  obtain ⟨r0, z1, cellB, z2, z3, z4, -⟩ := h1 o _ (mv_wl_o σ hs)
  have hr0 : r0 = (C, T0, N0) := Option.some.inj (z1.symm.trans hcl)
  subst hr0
  obtain ⟨-, hfc, -⟩ := B.2.2.2.2.1.1 ci _ hcl
  have hcls : s.vm.findClass C = some cellB.cls := by rw [z3]; exact hfc
  obtain ⟨c2, r2, m2, q1, q2, q3, q4, kP, hkP, hkPi⟩ := Cond.selects_spec hsel
  cases hcls.symm.trans q1
  cases (State.methodFound?_of_named hnamed ⟨hd.1, hd.2.1⟩).symm.trans q2
  cases hnamed.symm.trans q3
  have hselP : selectMethod e.platform s.vm cellB.cls mk = .method mk := by rw [Launch.admits_selectMethod X.admits]; exact q4
  have hlen : av.length = methM.sig.parameters.length := by
    have h9 := hd.2.2
    rw [hsigM] at h9
    exact hn.trans (Option.some.inj h9).symm
  obtain ⟨vm₁, X₁, hstep₁⟩ := X.invokevirtual B.1.1 B.2.2.1 hlink hnamed hmethM hstM hkP hkPi ⟨hd.1, hd.2.1⟩ (a := mv_al G o) (cell := cellB) (by rw [hT]; exact z2)
    (fun z h => by rw [h] at z4; cases z4) hselP hmethM habM hkP hkPi (g := F0 m pc ls stk) rfl (argsL := av) (rest := rest) hlen hstk (by rw [B.1.2]; exact hdg)
  have hU : (T.setVm vm₁).heap = H := hT
  have hcore := mv_core X₁ (g := F0 m pc ls rest) rfl (by rw [B.2.1]; exact h3.1) (ig := .invokevirtual index) (len := 3) (by rw [B.1.2]; exact hdg) (lv_room hr8) hN (X₁.named hnamed) (mv_cd B hG hw X₁.warmed (X₁.named hnamed))
    (word_at X₁.warmed (Or.inl (by first | rfl | simp [Cond.onTables, Cond.keeps, Cond.steady])) hini) hM (mv_pre B hG X₁.warmed _) (mv_S_of B hN hNs hU X₁.warmed h1 h2) hroom.1 hroom.2 hcell.1 hcell.2
  exact mv_backG hU h2 h3 hcore (fun tg h => hstep₁ _ fun acts => by rw [doInvoke_state]; exact h) kt kn
theorem mv_callSWG (B : mv_B p s m args meth c G ws own cc nL) (hN : mv_Tok K) (hNs : K (mv_A G s.heap.size) s s.heap) {hh : List (Nat × Nat × Nat × Nat)} (hM : mv_C l y ws' rm' G K av σ Post) (hw : ws' = Cond.codeWith y bytes maxL ret hh :: wt') (hG : GoodIn ws ws')
    (hlink : (Cond.methodLink own index y).before args s = true) (hstt : (Cond.static y).before args s = true) (hini : (Cond.initialized y.cls).before args s = true)
    (hd : y.cls ≠ "java/lang/invoke/MethodHandle" ∧ y.cls ≠ "java/lang/invoke/VarHandle" ∧ (parseMethodDescriptor y.desc).map (fun d => d.parameters.length) = some na) (hn : av.length = na)
    (hdg : decode cc pc = .ok (.invokestatic index, 3)) (hstk : stk = av.reverse ++ rest) (hr8 : (rest.map fun v => v.category).sum ≤ 8) (hroom : rm'.frames + 1 ≤ R.frames ∧ 8 + (maxL + 11) + rm'.locals ≤ R.locals) (hcell : cells + rm'.cells ≤ R.cells ∧ slots + rm'.slots ≤ R.slots)
    (kt : ∀ (x : String × Nat) (σ' : mv_H), ¬ Post (.inr x) σ')
    (kn : ∀ (v : Option Value) (σ' : mv_H), Post (.inl v) σ' → mv_V p l e R s m args below meth c G nL (cells + rm'.cells) (slots + rm'.slots) Q σ' (pc + 3) L (v.toList ++ rest)) :
    mv_V p l e R s m args below meth c G nL cells slots Q σ pc L stk := fun H locs ls h1 h2 h3 T hT X => by
  have hcode : (Cond.codeWith y bytes maxL ret hh).before args s = true := B.2.2.2.1 _ (hG _ (by rw [hw]; exact List.mem_cons_self)).1
  obtain ⟨mk, methM, cM, hnamed, hmethM, -, -, -, -, -, -, hsigM⟩ := Cond.codeWith_spec hcode
  have hstatic : methM.isStatic = true := Cond.static_spec hnamed hmethM hstt
  obtain ⟨kP, hkP, -⟩ := className_of_methodNamed hnamed
  have hinitP : kP.init = .initialized := Cond.initialized_spec (findClass_of_methodNamed hnamed) hkP hini
  have hlen : av.length = methM.sig.parameters.length := by
    have h9 := hd.2.2
    rw [hsigM] at h9
    exact hn.trans (Option.some.inj h9).symm
  obtain ⟨vm₁, X₁, hstep₁⟩ := X.invokestatic B.1.1 B.2.2.1 hlink hnamed hmethM hstatic hkP hinitP ⟨hd.1, hd.2.1⟩ (g := F0 m pc ls stk) rfl (argsL := av) (rest := rest) hlen hstk (by rw [B.1.2]; exact hdg)
  have hU : (T.setVm vm₁).heap = H := hT
  have hcore := mv_core X₁ (g := F0 m pc ls rest) rfl (by rw [B.2.1]; exact h3.1) (ig := .invokestatic index) (len := 3) (by rw [B.1.2]; exact hdg) (lv_room hr8) hN (X₁.named hnamed) (mv_cdW B hG hw X₁.warmed (X₁.named hnamed))
    (word_at X₁.warmed (Or.inl (by first | rfl | simp [Cond.onTables, Cond.keeps, Cond.steady])) hini) hM (mv_pre B hG X₁.warmed _) (mv_S_of B hN hNs hU X₁.warmed h1 h2) hroom.1 hroom.2 hcell.1 hcell.2
  exact mv_backG hU h2 h3 hcore (fun tg h => hstep₁ _ fun acts => by rw [doInvoke_state]; exact h) kt kn
end MQC
