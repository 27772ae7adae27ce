/-! the law -/
/-- how many cells and slots the law has made when it is at t -/
def BD (ext : mv_Sh) (C S t : Nat) : Prop := (ext = [] ∧ C ≤ 143 + t ∧ S ≤ 1620000 + 6 * t) ∨ (ext = me ∧ C ≤ 161 + t ∧ S ≤ 1650000 + 6 * t)
theorem BD.up {ext : mv_Sh} {C S t C' S' : Nat} (h : BD ext C S t) (hc : C' ≤ C + 1) (hs : S' ≤ S + 6) : BD ext C' S' (t + 6) := by
  rcases h with ⟨h, a, b⟩ | ⟨h, a, b⟩
  · exact Or.inl ⟨h, by omega, by omega⟩
  · exact Or.inr ⟨h, by omega, by omega⟩
theorem BD.le {ext : mv_Sh} {C S t : Nat} (h : BD ext C S t) (ht : t ≤ 3072) : C ≤ 5000 ∧ S ≤ 1700000 := by
  rcases h with ⟨-, a, b⟩ | ⟨-, a, b⟩ <;> omega
theorem sc_in {i j : Int32} {t L : Nat} (hi : i.toInt = t) (hj : 0 ≤ j.toInt ∧ j.toInt ≤ 5) (h : t + 6 ≤ L) (hL : L ≤ 3072) : vp_in (i + j) L := by
  have e : (i + j).toInt = i.toInt + j.toInt := i32_add (by omega) (by omega)
  exact i32_in (by omega) (by omega)
theorem lg_same {x y : Int64} (h : x = y) : lg_cmp x y = 0 := by
  subst h
  unfold lg_cmp
  simp
theorem fe_cmp {σ τ : mv_H} {v : Int32} {k : Nat} (hm : MM σ τ) (ho : mv_b σ 142 0 = Int64.ofInt ((k + 20 : Nat) : Int)) (hv : v.toInt = ((k + 20 : Nat) : Int)) (hk : k + 20 ≤ 32768) : lg_cmp (mv_b τ 142 (0 : Int32).toNatClampNeg) v.toInt64 = 0 := by
  refine lg_same ?_
  show mv_b τ 142 0 = _
  rw [(hm 142 (by omega)).2.2.2.2, ho]
  apply Int64.toInt_inj.mp
  rw [Int32.toInt_toInt64, hv, Int64.toInt_ofInt_of_le (by omega) (by omega)]
theorem en_thr {n v : Int32} {w : Int32} {k : Nat} {σ τ : mv_H} (hD : EN n k v σ) (hE : ((n.toInt < 0 ∨ (k : Int) < n.toInt) ∧ mv_i τ 70 2 = 1) ∨ (¬ (n.toInt < 0 ∨ (k : Int) < n.toInt) ∧ mv_i τ 70 2 = 0 ∧ w.toInt = ((k - n.toInt.toNat : Nat) : Int))) : mv_i τ 70 2 = v := by
  rcases hD with ⟨a, b⟩ | ⟨a, b, -⟩ <;> rcases hE with ⟨c, d⟩ | ⟨c, d, -⟩
  · rw [b, d]
  · exact absurd a c
  · exact absurd c a
  · rw [b, d]
theorem en_cmp {n v w : Int32} {k : Nat} {σ τ : mv_H} (hm : MM σ τ) (hD : EN n k v σ) (hE : ((n.toInt < 0 ∨ (k : Int) < n.toInt) ∧ mv_i τ 70 2 = 1) ∨ (¬ (n.toInt < 0 ∨ (k : Int) < n.toInt) ∧ mv_i τ 70 2 = 0 ∧ w.toInt = ((k - n.toInt.toNat : Nat) : Int))) (hv : v = 0) (hk : k ≤ 32768) : lg_cmp (mv_b τ 142 (0 : Int32).toNatClampNeg) w.toInt64 = 0 := by
  refine lg_same ?_
  show mv_b τ 142 0 = _
  rcases hD with ⟨a, b⟩ | ⟨a, b, d⟩
  · rw [hv] at b
    exact absurd b (by decide)
  · rcases hE with ⟨c, -⟩ | ⟨-, -, c⟩
    · exact absurd c a
    · rw [(hm 142 (by omega)).2.2.2.2, d]
      apply Int64.toInt_inj.mp
      rw [Int32.toInt_toInt64, c, Int64.toInt_ofInt_of_le (by omega) (by omega)]
theorem TEQ.go {σ τ : mv_H} (h : TEQ σ) (g : GOb σ τ) : TEQ τ := by
  show mv_a τ 1 = mv_a τ 71
  rw [g.2, (g.1 71 (by omega) (by omega)).2.2.2.1]
  exact h
theorem TEQ.gs {σ τ : mv_H} (h : TEQ σ) (g : GS σ τ) : TEQ τ := by
  show mv_a τ 1 = mv_a τ 71
  rw [g.2, (g.1 71 (by omega) (by omega)).2.2.2.1]
  exact h
theorem TEQ.m7 {σ τ : mv_H} (h : TEQ σ) (g : M7 σ τ) : TEQ τ := by
  show mv_a τ 1 = mv_a τ 71
  rw [g.2, show mv_a τ 1 = mv_a σ 1 from funext fun k => (g.1 1 (by omega)).2.2.2.1 k]
  exact h
theorem TEQ.fd {σ τ υ : mv_H} {k : Nat} {g : Nat → Int32} (h : TEQ σ) (hG : GOf σ τ) (hE : FE σ τ k 20 g) (hM : MM τ υ) (hE7 : FE7 τ υ k 20 g) : TEQ υ := funext fun i => by
  have e1 : mv_a υ 1 i = mv_a τ 1 i := (hM 1 (by omega)).2.2.2.1 i
  have e7 : mv_a τ 71 i = mv_a σ 71 i := by rw [(hG 71 (by omega) (by omega)).2.2.2.1]
  have e0 : mv_a σ 1 i = mv_a σ 71 i := congrFun h i
  rw [e1]
  by_cases z : k ≤ i ∧ i < k + 20
  · have a := hE.2 (i - k) (by omega)
    have b := hE7.2 (i - k) (by omega)
    rw [show k + (i - k) = i by omega] at a b
    rw [a, b]
  · rw [hE.1 i (by omega), hE7.1 i (by omega), e7, e0]
theorem BW.toR {σ τ : mv_H} {k : Nat} {v : Int32} (h : BW (txT (cc σ k) k) v τ) (t : TEQ σ) (g : GOb σ τ) : BW (txT (ck τ k) k) v τ := by
  have e : ck τ k = cc σ k := funext fun p => by
    unfold ck cc
    rw [(g.1 71 (by omega) (by omega)).2.2.2.1, ← (show mv_a σ 1 = mv_a σ 71 from t)]
  rw [e]
  exact h
theorem LI.b7 {ext : mv_Sh} {σ : mv_H} {k : Nat} (h : LI ext σ k) (t : TEQ σ) : byt7 σ := by
  have hI : In σ k := by
    rcases h with h | h | h
    · exact h.2.1
    · exact h.2.1
    · exact h.2.2.1
  have hb := byt_of hI.2.2
  intro p hp
  rw [← (show mv_a σ 1 = mv_a σ 71 from t)]
  exact hb p hp
theorem bd_thr {X : TX} {v w : Int32} {σ τ : mv_H} (hW : BW X v σ) (hM : BM X w τ) : mv_i τ 70 2 = v := by
  rcases hW with ⟨a, b⟩ | ⟨a, s, b, -⟩ <;> rcases hM with ⟨c, d⟩ | ⟨c, s', d, -⟩
  · rw [a, c]
  · rw [b] at d; cases d
  · rw [b] at d; cases d
  · rw [a, c]
theorem bd_cmp {X : TX} {v w : Int32} {σ τ : mv_H} (hm : MM σ τ) (hW : BW X v σ) (hM : BM X w τ) (hv : v = 0) : lg_cmp (mv_b τ 142 (0 : Int32).toNatClampNeg) w.toInt64 = 0 := by
  refine lg_same ?_
  show mv_b τ 142 0 = _
  rw [(hm 142 (by omega)).2.2.2.2]
  rcases hW with ⟨a, b⟩ | ⟨a, s, b, f, -⟩
  · rw [hv] at a
    exact absurd a (by decide)
  · rcases hM with ⟨c, d⟩ | ⟨c, s', d, g, -⟩
    · rw [b] at d; cases d
    · rw [b] at d
      cases d
      rw [f, g]
theorem tg_cmp {σ τ : mv_H} {w : Int32} (hm : MM σ τ) (h : mv_b σ 142 0 = w.toInt64) : lg_cmp (mv_b τ 142 (0 : Int32).toNatClampNeg) w.toInt64 = 0 := by
  refine lg_same ?_
  show mv_b τ 142 0 = _
  rw [(hm 142 (by omega)).2.2.2.2]
  exact h
theorem fd_cmp {σ τ : mv_H} {w : Int64} (hm : MM σ τ) (h : mv_b σ 142 0 = w) : lg_cmp (mv_b τ 142 (0 : Int32).toNatClampNeg) w = 0 := by
  refine lg_same ?_
  show mv_b τ 142 0 = _
  rw [(hm 142 (by omega)).2.2.2.2]
  exact h
theorem fr_cmp {ext : mv_Sh} {σ : mv_H} {k : Nat} {v w : Int64} (h : CQq ext σ) (hL : LI ext σ k) (hV : FV σ v) (hW : FW σ w) : lg_cmp v w = 0 := by
  refine lg_same ?_
  obtain ⟨⟨P, N, h1, h2, h3, h4⟩, h5⟩ := h
  have hv := hV P h1
  rcases h4 with ⟨a, b, s, c, d⟩ | ⟨a, b⟩
  · rcases hW with ⟨e, f⟩ | ⟨e, f⟩
    · rw [hv, f N h2]
      exact fr_eq c d
    · exact absurd a e
  · rcases hW with ⟨e, f⟩ | ⟨e, f⟩
    · exact absurd e a
    · subst b
      have hx := cq_me hL h1
      rw [hv, f, hx.2]
      exact (h5.1 hx.1).free
section LAWR
variable {p : Program} {l : Launch} {e : Env} {R : Room} {s : State} {m : MethodId} {args : Array Value} {below : List Frame} {meth : Method} {c : Code} {G : mv_G} {ws : List Cond} {own : String} {cc : ByteArray} {nL : Nat} {cells slots : Nat} {Q : State → Prop} {σ : mv_H} {pc : Nat} {L : List (Nat × Value)} {st : List Value} {b n : Nat} {xs : Nat → Int32}
theorem mv_sld (B : mv_B p s m args meth c G ws own cc nL) (hX : va_X b n xs s s.heap) (hb : b < s.heap.size) (hA : ¬ mv_A G s.heap.size b) {i : Int32} (hin : vp_in i n) (hdg : decode cc pc = .ok (.iaload, 1))
    (k : mv_V p l e R s m args below meth c G nL cells slots Q σ (pc + 1) L (.int (xs i.toNatClampNeg) :: st)) : mv_V p l e R s m args below meth c G nL cells slots Q σ pc L (.int i :: .ref b :: st) := fun H locs ls h1 h2 h3 => va_sld B.1.1 B.1.2 hX hb hA h2 hin hdg (k H locs ls h1 h2 h3)
theorem mv_sln (B : mv_B p s m args meth c G ws own cc nL) (hX : va_X b n xs s s.heap) (hb : b < s.heap.size) (hA : ¬ mv_A G s.heap.size b) (hdg : decode cc pc = .ok (.arraylength, 1))
    (k : mv_V p l e R s m args below meth c G nL cells slots Q σ (pc + 1) L (.int (Int32.ofNat n) :: st)) : mv_V p l e R s m args below meth c G nL cells slots Q σ pc L (.ref b :: st) := fun H locs ls h1 h2 h3 => va_slen B.1.1 B.1.2 hX hb hA h2 hdg (k H locs ls h1 h2 h3)
end LAWR
/-- the law's end -/
theorem law_ret {p : Program} {l : Launch} {e : Env} {s : State} {m : MethodId} {below : List Frame} {meth : Method} {c : Code} {b : Nat} {G : mv_G} {ws : List Cond} {own : String} {σ : mv_H} {L : List (Nat × Value)} {C S : Nat} (B : mv_B p s m #[Value.ref b] meth c G ws own code 8) (hr : meth.sig.returnType = ret) (hge : ∀ o, o < (mv_sh G).length → s.heap.size ≤ mv_al G o) {pc : Nat} (hdg : decode code pc = .ok (.ireturn, 1)) (hc : C ≤ 5000 ∧ S ≤ 1700000) :
    mv_V p l e room_1 s m #[Value.ref b] below meth c G 8 C S (lw_Z below #[Value.ref b] s) σ pc L [.int 1] := fun H locs ls h1 h2 h3 T hT X => by
  have X' : Stand p l e room_1 s m #[Value.ref b] below meth c T [] 917410 6343873 := ⟨X.admits, X.cas, X.clock, X.frames, X.room, X.hears, X.method, X.code, X.here, X.tail, X.warmed, X.limits, X.bytes, X.same.weaken (fun y hy hlt => by
    rcases h2.2.2 y hy with ⟨o, ho, e0⟩ | h
    · exact absurd hlt (Nat.not_lt.mpr (by rw [e0]; exact hge o ho))
    · exact absurd hlt (Nat.not_lt.mpr h)) (by omega) (by omega)⟩
  exact lw_ret B.1.1 B.1.2 hr B.2.2.2.2.2.2 hdg T hT X'

theorem law_i {i : Int32} {t : Nat} (hi : i.toInt = t) (ht : t ≤ 3072) : (i + 6).toInt = ((t + 6 : Nat) : Int) := by
  rw [i32_add (x := i) (y := 6) (by show -2147483648 ≤ i.toInt + 6; omega) (by show i.toInt + 6 < 2147483648; omega), hi]
  show (t : Int) + 6 = _
  omega
theorem law_le {i : Int32} {t L : Nat} (hi : i.toInt = t) (hL : L ≤ 3072) (h : ¬ Int32.ofNat L - 6 < i) : t + 6 ≤ L := by
  have e : (Int32.ofNat L).toInt = L := Int32.toInt_ofNat_of_lt (by omega)
  have e2 : (Int32.ofNat L - 6).toInt = (L : Int) - 6 := by
    rw [i32_sub (x := Int32.ofNat L) (y := 6) (by rw [e]; show -2147483648 ≤ (L : Int) - 6; omega) (by rw [e]; show (L : Int) - 6 < 2147483648; omega), e]
    rfl
  have h2 : ¬ (Int32.ofNat L - 6).toInt < i.toInt := fun z => h (Int32.lt_iff_toInt_lt.mpr z)
  rw [e2, hi] at h2
  omega
theorem law_if {n : Int32} {k : Nat} : (if n.toInt < 0 ∨ (k : Int) < n.toInt then k else k - n.toInt.toNat) ≤ k := by
  split <;> omega
theorem law_ba {dA : FieldType → ClassId} {D : va_G} {al : Nat → Nat} {ext : mv_Sh} {z b : Nat} (hge : ∀ o, o < (mv_sh (mg dA D al ext)).length → z ≤ al o) (hb : b < z) : ¬ mv_A (mg dA D al ext) z b := by
  rintro (⟨o, ho, e⟩ | h)
  · have := hge o ho
    have e : b = al o := e
    omega
  · omega
theorem law_K {sk sv : Nat → Nat} {dA : FieldType → ClassId} {D : va_G} {al : Nat → Nat} {ext : mv_Sh} {s : State} (hK : mKt sk sv (fun q => s.heap.size ≤ q) s s.heap) (hge : ∀ o, o < (mv_sh (mg dA D al ext)).length → s.heap.size ≤ al o) : mKt sk sv (mv_A (mg dA D al ext) s.heap.size) s s.heap :=
  (mKt_ok sk sv).2.2 _ _ _ _ hK (fun q h => by
    rcases h with ⟨o, ho, e⟩ | h
    · show s.heap.size ≤ q
      rw [e]; exact hge o ho
    · exact h)
set_option maxRecDepth 100000 in
theorem law_ge {dA : FieldType → ClassId} {D : va_G} {al al1 : Nat → Nat} {z : Nat} (g : mq_gr al al1 143 161 z) (h : ∀ o, o < (mv_sh (mg dA D al [])).length → z ≤ al o) : ∀ o, o < (mv_sh (mg dA D al1 me)).length → z ≤ al1 o := fun o ho => by
  have ho : o < 161 := ho
  by_cases w : o < 143
  · rw [g.1 o w]
    exact h o w
  · exact g.2 o (by omega) ho

theorem k_1663 : (Jvm.Cond.methodLink "MachineLoomLaw" (55 : Nat) ({ cls := "MachineLoomLaw", name := "feed", desc := "(LMachineLoom;IIIII[J)I" } : Jvm.MethodName)) ∈ ma := ma_of (tb_7 _ (List.mem_of_getElem? (i := 223) rfl)) rfl
theorem k_0 : (Jvm.Cond.initialized "MachineLoomLaw") ∈ ma := ma_of (tb_1 _ (List.mem_of_getElem? (i := 0) rfl)) rfl
theorem k_1664 : (Jvm.Cond.static ({ cls := "MachineLoomLaw", name := "feed", desc := "(LMachineLoom;IIIII[J)I" } : Jvm.MethodName)) ∈ ma := ma_of (tb_7 _ (List.mem_of_getElem? (i := 224) rfl)) rfl
theorem k_2094 : (Jvm.Cond.methodLink "MachineLoomLaw" (60 : Nat) ({ cls := "MachineLoomModel", name := "feed", desc := "(IIIII)I" } : Jvm.MethodName)) ∈ ma := ma_of (tb_9 _ (List.mem_of_getElem? (i := 174) rfl)) rfl
theorem k_2095 : (Jvm.Cond.instanceMethod ({ cls := "MachineLoomModel", name := "feed", desc := "(IIIII)I" } : Jvm.MethodName)) ∈ ma := ma_of (tb_9 _ (List.mem_of_getElem? (i := 175) rfl)) rfl
theorem k_2096 : (Jvm.Cond.selects "MachineLoomModel" ({ cls := "MachineLoomModel", name := "feed", desc := "(IIIII)I" } : Jvm.MethodName) ({ cls := "MachineLoomModel", name := "feed", desc := "(IIIII)I" } : Jvm.MethodName)) ∈ ma := ma_of (tb_9 _ (List.mem_of_getElem? (i := 176) rfl)) rfl
theorem k_1696 : (Jvm.Cond.methodLink "MachineLoomLaw" (61 : Nat) ({ cls := "MachineLoomLaw", name := "end", desc := "(LMachineLoom;I[J)I" } : Jvm.MethodName)) ∈ ma := ma_of (tb_8 _ (List.mem_of_getElem? (i := 16) rfl)) rfl
theorem k_1697 : (Jvm.Cond.static ({ cls := "MachineLoomLaw", name := "end", desc := "(LMachineLoom;I[J)I" } : Jvm.MethodName)) ∈ ma := ma_of (tb_8 _ (List.mem_of_getElem? (i := 17) rfl)) rfl
theorem k_2098 : (Jvm.Cond.methodLink "MachineLoomLaw" (64 : Nat) ({ cls := "MachineLoomModel", name := "end", desc := "(I)I" } : Jvm.MethodName)) ∈ ma := ma_of (tb_9 _ (List.mem_of_getElem? (i := 178) rfl)) rfl
theorem k_2099 : (Jvm.Cond.instanceMethod ({ cls := "MachineLoomModel", name := "end", desc := "(I)I" } : Jvm.MethodName)) ∈ ma := ma_of (tb_9 _ (List.mem_of_getElem? (i := 179) rfl)) rfl
theorem k_2100 : (Jvm.Cond.selects "MachineLoomModel" ({ cls := "MachineLoomModel", name := "end", desc := "(I)I" } : Jvm.MethodName) ({ cls := "MachineLoomModel", name := "end", desc := "(I)I" } : Jvm.MethodName)) ∈ ma := ma_of (tb_9 _ (List.mem_of_getElem? (i := 180) rfl)) rfl
theorem k_1709 : (Jvm.Cond.methodLink "MachineLoomLaw" (65 : Nat) ({ cls := "MachineLoomLaw", name := "build", desc := "(LMachineLoom;[J)I" } : Jvm.MethodName)) ∈ ma := ma_of (tb_8 _ (List.mem_of_getElem? (i := 29) rfl)) rfl
theorem k_1710 : (Jvm.Cond.static ({ cls := "MachineLoomLaw", name := "build", desc := "(LMachineLoom;[J)I" } : Jvm.MethodName)) ∈ ma := ma_of (tb_8 _ (List.mem_of_getElem? (i := 30) rfl)) rfl
theorem k_2102 : (Jvm.Cond.methodLink "MachineLoomLaw" (68 : Nat) ({ cls := "MachineLoomModel", name := "build", desc := "()I" } : Jvm.MethodName)) ∈ ma := ma_of (tb_9 _ (List.mem_of_getElem? (i := 182) rfl)) rfl
theorem k_2103 : (Jvm.Cond.instanceMethod ({ cls := "MachineLoomModel", name := "build", desc := "()I" } : Jvm.MethodName)) ∈ ma := ma_of (tb_9 _ (List.mem_of_getElem? (i := 183) rfl)) rfl
theorem k_2104 : (Jvm.Cond.selects "MachineLoomModel" ({ cls := "MachineLoomModel", name := "build", desc := "()I" } : Jvm.MethodName) ({ cls := "MachineLoomModel", name := "build", desc := "()I" } : Jvm.MethodName)) ∈ ma := ma_of (tb_9 _ (List.mem_of_getElem? (i := 184) rfl)) rfl
theorem k_517 : (Jvm.Cond.methodLink "MachineLoomLaw" (69 : Nat) ({ cls := "MachineLoom", name := "ship", desc := "()I" } : Jvm.MethodName)) ∈ ma := ma_of (tb_3 _ (List.mem_of_getElem? (i := 37) rfl)) rfl
theorem k_518 : (Jvm.Cond.instanceMethod ({ cls := "MachineLoom", name := "ship", desc := "()I" } : Jvm.MethodName)) ∈ ma := ma_of (tb_3 _ (List.mem_of_getElem? (i := 38) rfl)) rfl
theorem k_519 : (Jvm.Cond.selects "MachineLoom" ({ cls := "MachineLoom", name := "ship", desc := "()I" } : Jvm.MethodName) ({ cls := "MachineLoom", name := "ship", desc := "()I" } : Jvm.MethodName)) ∈ ma := ma_of (tb_3 _ (List.mem_of_getElem? (i := 39) rfl)) rfl
theorem k_2345 : (Jvm.Cond.methodLink "MachineLoomLaw" (72 : Nat) ({ cls := "MachineLoomModel", name := "ship", desc := "()I" } : Jvm.MethodName)) ∈ ma := ma_of (tb_10 _ (List.mem_of_getElem? (i := 185) rfl)) rfl
theorem k_2346 : (Jvm.Cond.instanceMethod ({ cls := "MachineLoomModel", name := "ship", desc := "()I" } : Jvm.MethodName)) ∈ ma := ma_of (tb_10 _ (List.mem_of_getElem? (i := 186) rfl)) rfl
theorem k_2347 : (Jvm.Cond.selects "MachineLoomModel" ({ cls := "MachineLoomModel", name := "ship", desc := "()I" } : Jvm.MethodName) ({ cls := "MachineLoomModel", name := "ship", desc := "()I" } : Jvm.MethodName)) ∈ ma := ma_of (tb_10 _ (List.mem_of_getElem? (i := 187) rfl)) rfl
theorem k_1732 : (Jvm.Cond.methodLink "MachineLoomLaw" (73 : Nat) ({ cls := "MachineLoomLaw", name := "fault", desc := "(LMachineLoom;I[J)I" } : Jvm.MethodName)) ∈ ma := ma_of (tb_8 _ (List.mem_of_getElem? (i := 52) rfl)) rfl
theorem k_1733 : (Jvm.Cond.static ({ cls := "MachineLoomLaw", name := "fault", desc := "(LMachineLoom;I[J)I" } : Jvm.MethodName)) ∈ ma := ma_of (tb_8 _ (List.mem_of_getElem? (i := 53) rfl)) rfl
theorem k_2349 : (Jvm.Cond.methodLink "MachineLoomLaw" (75 : Nat) ({ cls := "MachineLoomModel", name := "fault", desc := "(I)I" } : Jvm.MethodName)) ∈ ma := ma_of (tb_10 _ (List.mem_of_getElem? (i := 189) rfl)) rfl
theorem k_2350 : (Jvm.Cond.instanceMethod ({ cls := "MachineLoomModel", name := "fault", desc := "(I)I" } : Jvm.MethodName)) ∈ ma := ma_of (tb_10 _ (List.mem_of_getElem? (i := 190) rfl)) rfl
theorem k_2351 : (Jvm.Cond.selects "MachineLoomModel" ({ cls := "MachineLoomModel", name := "fault", desc := "(I)I" } : Jvm.MethodName) ({ cls := "MachineLoomModel", name := "fault", desc := "(I)I" } : Jvm.MethodName)) ∈ ma := ma_of (tb_10 _ (List.mem_of_getElem? (i := 191) rfl)) rfl
theorem k_2611 : (Jvm.Cond.constantLong "MachineLoomLaw" (76 : Nat) (4294967295 : Int64)) ∈ ma := ma_of (tb_11 _ (List.mem_of_getElem? (i := 211) rfl)) rfl
theorem k_1556 : (Jvm.Cond.methodLink "MachineLoomLaw" (78 : Nat) ({ cls := "MachineLoom", name := "decode", desc := "(J)I" } : Jvm.MethodName)) ∈ ma := ma_of (tb_7 _ (List.mem_of_getElem? (i := 116) rfl)) rfl
theorem k_1557 : (Jvm.Cond.instanceMethod ({ cls := "MachineLoom", name := "decode", desc := "(J)I" } : Jvm.MethodName)) ∈ ma := ma_of (tb_7 _ (List.mem_of_getElem? (i := 117) rfl)) rfl
theorem k_1558 : (Jvm.Cond.selects "MachineLoom" ({ cls := "MachineLoom", name := "decode", desc := "(J)I" } : Jvm.MethodName) ({ cls := "MachineLoom", name := "decode", desc := "(J)I" } : Jvm.MethodName)) ∈ ma := ma_of (tb_7 _ (List.mem_of_getElem? (i := 118) rfl)) rfl
theorem k_2353 : (Jvm.Cond.methodLink "MachineLoomLaw" (82 : Nat) ({ cls := "MachineLoomModel", name := "decode", desc := "(J)I" } : Jvm.MethodName)) ∈ ma := ma_of (tb_10 _ (List.mem_of_getElem? (i := 193) rfl)) rfl
theorem k_1739 : (Jvm.Cond.methodLink "MachineLoomLaw" (83 : Nat) ({ cls := "MachineLoomLaw", name := "field", desc := "(LMachineLoom;IIJ[J)I" } : Jvm.MethodName)) ∈ ma := ma_of (tb_8 _ (List.mem_of_getElem? (i := 59) rfl)) rfl
theorem k_1740 : (Jvm.Cond.static ({ cls := "MachineLoomLaw", name := "field", desc := "(LMachineLoom;IIJ[J)I" } : Jvm.MethodName)) ∈ ma := ma_of (tb_8 _ (List.mem_of_getElem? (i := 60) rfl)) rfl
theorem k_2382 : (Jvm.Cond.methodLink "MachineLoomLaw" (86 : Nat) ({ cls := "MachineLoomModel", name := "field", desc := "(IIJ)J" } : Jvm.MethodName)) ∈ ma := ma_of (tb_10 _ (List.mem_of_getElem? (i := 222) rfl)) rfl
theorem k_2383 : (Jvm.Cond.instanceMethod ({ cls := "MachineLoomModel", name := "field", desc := "(IIJ)J" } : Jvm.MethodName)) ∈ ma := ma_of (tb_10 _ (List.mem_of_getElem? (i := 223) rfl)) rfl
theorem k_2384 : (Jvm.Cond.selects "MachineLoomModel" ({ cls := "MachineLoomModel", name := "field", desc := "(IIJ)J" } : Jvm.MethodName) ({ cls := "MachineLoomModel", name := "field", desc := "(IIJ)J" } : Jvm.MethodName)) ∈ ma := ma_of (tb_10 _ (List.mem_of_getElem? (i := 224) rfl)) rfl
theorem k_1767 : (Jvm.Cond.methodLink "MachineLoomLaw" (87 : Nat) ({ cls := "MachineLoomLaw", name := "poke", desc := "(LMachineLoom;IIJ)I" } : Jvm.MethodName)) ∈ ma := ma_of (tb_8 _ (List.mem_of_getElem? (i := 87) rfl)) rfl
theorem k_1768 : (Jvm.Cond.static ({ cls := "MachineLoomLaw", name := "poke", desc := "(LMachineLoom;IIJ)I" } : Jvm.MethodName)) ∈ ma := ma_of (tb_8 _ (List.mem_of_getElem? (i := 88) rfl)) rfl
theorem k_2411 : (Jvm.Cond.methodLink "MachineLoomLaw" (90 : Nat) ({ cls := "MachineLoomModel", name := "poke", desc := "(IIJ)V" } : Jvm.MethodName)) ∈ ma := ma_of (tb_11 _ (List.mem_of_getElem? (i := 11) rfl)) rfl
theorem k_2412 : (Jvm.Cond.instanceMethod ({ cls := "MachineLoomModel", name := "poke", desc := "(IIJ)V" } : Jvm.MethodName)) ∈ ma := ma_of (tb_11 _ (List.mem_of_getElem? (i := 12) rfl)) rfl
theorem k_2413 : (Jvm.Cond.selects "MachineLoomModel" ({ cls := "MachineLoomModel", name := "poke", desc := "(IIJ)V" } : Jvm.MethodName) ({ cls := "MachineLoomModel", name := "poke", desc := "(IIJ)V" } : Jvm.MethodName)) ∈ ma := ma_of (tb_11 _ (List.mem_of_getElem? (i := 13) rfl)) rfl
theorem k_1779 : (Jvm.Cond.methodLink "MachineLoomLaw" (91 : Nat) ({ cls := "MachineLoomLaw", name := "peek", desc := "(LMachineLoom;II[J)I" } : Jvm.MethodName)) ∈ ma := ma_of (tb_8 _ (List.mem_of_getElem? (i := 99) rfl)) rfl
theorem k_1780 : (Jvm.Cond.static ({ cls := "MachineLoomLaw", name := "peek", desc := "(LMachineLoom;II[J)I" } : Jvm.MethodName)) ∈ ma := ma_of (tb_8 _ (List.mem_of_getElem? (i := 100) rfl)) rfl
theorem k_2434 : (Jvm.Cond.methodLink "MachineLoomLaw" (94 : Nat) ({ cls := "MachineLoomModel", name := "peek", desc := "(II)J" } : Jvm.MethodName)) ∈ ma := ma_of (tb_11 _ (List.mem_of_getElem? (i := 34) rfl)) rfl
theorem k_2435 : (Jvm.Cond.instanceMethod ({ cls := "MachineLoomModel", name := "peek", desc := "(II)J" } : Jvm.MethodName)) ∈ ma := ma_of (tb_11 _ (List.mem_of_getElem? (i := 35) rfl)) rfl
theorem k_2436 : (Jvm.Cond.selects "MachineLoomModel" ({ cls := "MachineLoomModel", name := "peek", desc := "(II)J" } : Jvm.MethodName) ({ cls := "MachineLoomModel", name := "peek", desc := "(II)J" } : Jvm.MethodName)) ∈ ma := ma_of (tb_11 _ (List.mem_of_getElem? (i := 36) rfl)) rfl
theorem k_1568 : (Jvm.Cond.methodLink "MachineLoomLaw" (95 : Nat) ({ cls := "MachineLoom", name := "step", desc := "(J)I" } : Jvm.MethodName)) ∈ ma := ma_of (tb_7 _ (List.mem_of_getElem? (i := 128) rfl)) rfl
theorem k_1569 : (Jvm.Cond.instanceMethod ({ cls := "MachineLoom", name := "step", desc := "(J)I" } : Jvm.MethodName)) ∈ ma := ma_of (tb_7 _ (List.mem_of_getElem? (i := 129) rfl)) rfl
theorem k_1570 : (Jvm.Cond.selects "MachineLoom" ({ cls := "MachineLoom", name := "step", desc := "(J)I" } : Jvm.MethodName) ({ cls := "MachineLoom", name := "step", desc := "(J)I" } : Jvm.MethodName)) ∈ ma := ma_of (tb_7 _ (List.mem_of_getElem? (i := 130) rfl)) rfl
theorem k_2443 : (Jvm.Cond.methodLink "MachineLoomLaw" (98 : Nat) ({ cls := "MachineLoomModel", name := "step", desc := "(J)I" } : Jvm.MethodName)) ∈ ma := ma_of (tb_11 _ (List.mem_of_getElem? (i := 43) rfl)) rfl
theorem k_2444 : (Jvm.Cond.instanceMethod ({ cls := "MachineLoomModel", name := "step", desc := "(J)I" } : Jvm.MethodName)) ∈ ma := ma_of (tb_11 _ (List.mem_of_getElem? (i := 44) rfl)) rfl
theorem k_2445 : (Jvm.Cond.selects "MachineLoomModel" ({ cls := "MachineLoomModel", name := "step", desc := "(J)I" } : Jvm.MethodName) ({ cls := "MachineLoomModel", name := "step", desc := "(J)I" } : Jvm.MethodName)) ∈ ma := ma_of (tb_11 _ (List.mem_of_getElem? (i := 45) rfl)) rfl
theorem k_1786 : (Jvm.Cond.methodLink "MachineLoomLaw" (99 : Nat) ({ cls := "MachineLoomLaw", name := "run", desc := "(LMachineLoom;I[J)I" } : Jvm.MethodName)) ∈ ma := ma_of (tb_8 _ (List.mem_of_getElem? (i := 106) rfl)) rfl
theorem k_1787 : (Jvm.Cond.static ({ cls := "MachineLoomLaw", name := "run", desc := "(LMachineLoom;I[J)I" } : Jvm.MethodName)) ∈ ma := ma_of (tb_8 _ (List.mem_of_getElem? (i := 107) rfl)) rfl
theorem k_2558 : (Jvm.Cond.methodLink "MachineLoomLaw" (101 : Nat) ({ cls := "MachineLoomModel", name := "run", desc := "(I)I" } : Jvm.MethodName)) ∈ ma := ma_of (tb_11 _ (List.mem_of_getElem? (i := 158) rfl)) rfl
theorem k_2559 : (Jvm.Cond.instanceMethod ({ cls := "MachineLoomModel", name := "run", desc := "(I)I" } : Jvm.MethodName)) ∈ ma := ma_of (tb_11 _ (List.mem_of_getElem? (i := 159) rfl)) rfl
theorem k_2560 : (Jvm.Cond.selects "MachineLoomModel" ({ cls := "MachineLoomModel", name := "run", desc := "(I)I" } : Jvm.MethodName) ({ cls := "MachineLoomModel", name := "run", desc := "(I)I" } : Jvm.MethodName)) ∈ ma := ma_of (tb_11 _ (List.mem_of_getElem? (i := 160) rfl)) rfl
theorem k_1643 : (Jvm.Cond.methodLink "MachineLoomLaw" (102 : Nat) ({ cls := "MachineLoom", name := "trap", desc := "()I" } : Jvm.MethodName)) ∈ ma := ma_of (tb_7 _ (List.mem_of_getElem? (i := 203) rfl)) rfl
theorem k_1644 : (Jvm.Cond.instanceMethod ({ cls := "MachineLoom", name := "trap", desc := "()I" } : Jvm.MethodName)) ∈ ma := ma_of (tb_7 _ (List.mem_of_getElem? (i := 204) rfl)) rfl
theorem k_1645 : (Jvm.Cond.selects "MachineLoom" ({ cls := "MachineLoom", name := "trap", desc := "()I" } : Jvm.MethodName) ({ cls := "MachineLoom", name := "trap", desc := "()I" } : Jvm.MethodName)) ∈ ma := ma_of (tb_7 _ (List.mem_of_getElem? (i := 205) rfl)) rfl
theorem k_2574 : (Jvm.Cond.methodLink "MachineLoomLaw" (105 : Nat) ({ cls := "MachineLoomModel", name := "trap", desc := "()I" } : Jvm.MethodName)) ∈ ma := ma_of (tb_11 _ (List.mem_of_getElem? (i := 174) rfl)) rfl
theorem k_2575 : (Jvm.Cond.instanceMethod ({ cls := "MachineLoomModel", name := "trap", desc := "()I" } : Jvm.MethodName)) ∈ ma := ma_of (tb_11 _ (List.mem_of_getElem? (i := 175) rfl)) rfl
theorem k_2576 : (Jvm.Cond.selects "MachineLoomModel" ({ cls := "MachineLoomModel", name := "trap", desc := "()I" } : Jvm.MethodName) ({ cls := "MachineLoomModel", name := "trap", desc := "()I" } : Jvm.MethodName)) ∈ ma := ma_of (tb_11 _ (List.mem_of_getElem? (i := 176) rfl)) rfl
theorem k_1802 : (Jvm.Cond.methodLink "MachineLoomLaw" (106 : Nat) ({ cls := "MachineLoomLaw", name := "thing", desc := "(LMachineLoom;II[J)I" } : Jvm.MethodName)) ∈ ma := ma_of (tb_8 _ (List.mem_of_getElem? (i := 122) rfl)) rfl
theorem k_1803 : (Jvm.Cond.static ({ cls := "MachineLoomLaw", name := "thing", desc := "(LMachineLoom;II[J)I" } : Jvm.MethodName)) ∈ ma := ma_of (tb_8 _ (List.mem_of_getElem? (i := 123) rfl)) rfl
theorem k_2578 : (Jvm.Cond.methodLink "MachineLoomLaw" (108 : Nat) ({ cls := "MachineLoomModel", name := "thing", desc := "(II)I" } : Jvm.MethodName)) ∈ ma := ma_of (tb_11 _ (List.mem_of_getElem? (i := 178) rfl)) rfl
theorem k_2579 : (Jvm.Cond.instanceMethod ({ cls := "MachineLoomModel", name := "thing", desc := "(II)I" } : Jvm.MethodName)) ∈ ma := ma_of (tb_11 _ (List.mem_of_getElem? (i := 179) rfl)) rfl
theorem k_2580 : (Jvm.Cond.selects "MachineLoomModel" ({ cls := "MachineLoomModel", name := "thing", desc := "(II)I" } : Jvm.MethodName) ({ cls := "MachineLoomModel", name := "thing", desc := "(II)I" } : Jvm.MethodName)) ∈ ma := ma_of (tb_11 _ (List.mem_of_getElem? (i := 180) rfl)) rfl
theorem k_1647 : (Jvm.Cond.methodLink "MachineLoomLaw" (109 : Nat) ({ cls := "MachineLoom", name := "free", desc := "()J" } : Jvm.MethodName)) ∈ ma := ma_of (tb_7 _ (List.mem_of_getElem? (i := 207) rfl)) rfl
theorem k_1648 : (Jvm.Cond.instanceMethod ({ cls := "MachineLoom", name := "free", desc := "()J" } : Jvm.MethodName)) ∈ ma := ma_of (tb_7 _ (List.mem_of_getElem? (i := 208) rfl)) rfl
theorem k_1649 : (Jvm.Cond.selects "MachineLoom" ({ cls := "MachineLoom", name := "free", desc := "()J" } : Jvm.MethodName) ({ cls := "MachineLoom", name := "free", desc := "()J" } : Jvm.MethodName)) ∈ ma := ma_of (tb_7 _ (List.mem_of_getElem? (i := 209) rfl)) rfl
theorem k_2586 : (Jvm.Cond.methodLink "MachineLoomLaw" (113 : Nat) ({ cls := "MachineLoomModel", name := "free", desc := "()J" } : Jvm.MethodName)) ∈ ma := ma_of (tb_11 _ (List.mem_of_getElem? (i := 186) rfl)) rfl
theorem k_2587 : (Jvm.Cond.instanceMethod ({ cls := "MachineLoomModel", name := "free", desc := "()J" } : Jvm.MethodName)) ∈ ma := ma_of (tb_11 _ (List.mem_of_getElem? (i := 187) rfl)) rfl
theorem k_2588 : (Jvm.Cond.selects "MachineLoomModel" ({ cls := "MachineLoomModel", name := "free", desc := "()J" } : Jvm.MethodName) ({ cls := "MachineLoomModel", name := "free", desc := "()J" } : Jvm.MethodName)) ∈ ma := ma_of (tb_11 _ (List.mem_of_getElem? (i := 188) rfl)) rfl
theorem k_1659 : (Jvm.Cond.methodLink "MachineLoomLaw" (114 : Nat) ({ cls := "MachineLoom", name := "count", desc := "(I)I" } : Jvm.MethodName)) ∈ ma := ma_of (tb_7 _ (List.mem_of_getElem? (i := 219) rfl)) rfl
theorem k_1660 : (Jvm.Cond.instanceMethod ({ cls := "MachineLoom", name := "count", desc := "(I)I" } : Jvm.MethodName)) ∈ ma := ma_of (tb_7 _ (List.mem_of_getElem? (i := 220) rfl)) rfl
theorem k_1661 : (Jvm.Cond.selects "MachineLoom" ({ cls := "MachineLoom", name := "count", desc := "(I)I" } : Jvm.MethodName) ({ cls := "MachineLoom", name := "count", desc := "(I)I" } : Jvm.MethodName)) ∈ ma := ma_of (tb_7 _ (List.mem_of_getElem? (i := 221) rfl)) rfl
theorem k_2598 : (Jvm.Cond.methodLink "MachineLoomLaw" (117 : Nat) ({ cls := "MachineLoomModel", name := "count", desc := "(I)I" } : Jvm.MethodName)) ∈ ma := ma_of (tb_11 _ (List.mem_of_getElem? (i := 198) rfl)) rfl
theorem k_2599 : (Jvm.Cond.instanceMethod ({ cls := "MachineLoomModel", name := "count", desc := "(I)I" } : Jvm.MethodName)) ∈ ma := ma_of (tb_11 _ (List.mem_of_getElem? (i := 199) rfl)) rfl
theorem k_2600 : (Jvm.Cond.selects "MachineLoomModel" ({ cls := "MachineLoomModel", name := "count", desc := "(I)I" } : Jvm.MethodName) ({ cls := "MachineLoomModel", name := "count", desc := "(I)I" } : Jvm.MethodName)) ∈ ma := ma_of (tb_11 _ (List.mem_of_getElem? (i := 200) rfl)) rfl
theorem d_law_23 : decode code 23 = .ok (.iload 4, 2) := by decide +kernel
theorem d_law_25 : decode code 25 = .ok (.aload_n 0, 1) := by decide +kernel
theorem d_law_26 : decode code 26 = .ok (.arraylength, 1) := by decide +kernel
theorem d_law_27 : decode code 27 = .ok (.bipush 6, 2) := by decide +kernel
theorem d_law_29 : decode code 29 = .ok (.isub, 1) := by decide +kernel
theorem d_law_30 : decode code 30 = .ok (.if_icmp .gt (691), 3) := by decide +kernel
theorem d_law_33 : decode code 33 = .ok (.aload_n 0, 1) := by decide +kernel
theorem d_law_34 : decode code 34 = .ok (.iload 4, 2) := by decide +kernel
theorem d_law_36 : decode code 36 = .ok (.iaload, 1) := by decide +kernel
theorem d_law_37 : decode code 37 = .ok (.bipush 15, 2) := by decide +kernel
theorem d_law_39 : decode code 39 = .ok (.iand, 1) := by decide +kernel
theorem d_law_40 : decode code 40 = .ok (.tableswitch (675) (0) (14) #[76, 152, 180, 196, 209, 237, 294, 378, 459, 499, 556, 584, 597, 637, 650], 76) := by decide +kernel
theorem d_law_116 : decode code 116 = .ok (.aload_n 1, 1) := by decide +kernel
theorem d_law_117 : decode code 117 = .ok (.aload_n 0, 1) := by decide +kernel
theorem d_law_118 : decode code 118 = .ok (.iload 4, 2) := by decide +kernel
theorem d_law_120 : decode code 120 = .ok (.iconst 1, 1) := by decide +kernel
theorem d_law_121 : decode code 121 = .ok (.iadd, 1) := by decide +kernel
theorem d_law_122 : decode code 122 = .ok (.iaload, 1) := by decide +kernel
theorem d_law_123 : decode code 123 = .ok (.aload_n 0, 1) := by decide +kernel
theorem d_law_124 : decode code 124 = .ok (.iload 4, 2) := by decide +kernel
theorem d_law_126 : decode code 126 = .ok (.iconst 2, 1) := by decide +kernel
theorem d_law_127 : decode code 127 = .ok (.iadd, 1) := by decide +kernel
theorem d_law_128 : decode code 128 = .ok (.iaload, 1) := by decide +kernel
theorem d_law_129 : decode code 129 = .ok (.aload_n 0, 1) := by decide +kernel
theorem d_law_130 : decode code 130 = .ok (.iload 4, 2) := by decide +kernel
theorem d_law_132 : decode code 132 = .ok (.iconst 3, 1) := by decide +kernel
theorem d_law_133 : decode code 133 = .ok (.iadd, 1) := by decide +kernel
theorem d_law_134 : decode code 134 = .ok (.iaload, 1) := by decide +kernel
theorem d_law_135 : decode code 135 = .ok (.aload_n 0, 1) := by decide +kernel
theorem d_law_136 : decode code 136 = .ok (.iload 4, 2) := by decide +kernel
theorem d_law_138 : decode code 138 = .ok (.iconst 4, 1) := by decide +kernel
theorem d_law_139 : decode code 139 = .ok (.iadd, 1) := by decide +kernel
theorem d_law_140 : decode code 140 = .ok (.iaload, 1) := by decide +kernel
theorem d_law_141 : decode code 141 = .ok (.aload_n 0, 1) := by decide +kernel
theorem d_law_142 : decode code 142 = .ok (.iload 4, 2) := by decide +kernel
theorem d_law_144 : decode code 144 = .ok (.iconst 5, 1) := by decide +kernel
theorem d_law_145 : decode code 145 = .ok (.iadd, 1) := by decide +kernel
theorem d_law_146 : decode code 146 = .ok (.iaload, 1) := by decide +kernel
theorem d_law_147 : decode code 147 = .ok (.aload_n 3, 1) := by decide +kernel
theorem d_law_148 : decode code 148 = .ok (.invokestatic 55, 3) := by decide +kernel
theorem d_law_151 : decode code 151 = .ok (.istore 5, 2) := by decide +kernel
theorem d_law_153 : decode code 153 = .ok (.aload_n 2, 1) := by decide +kernel
theorem d_law_154 : decode code 154 = .ok (.aload_n 0, 1) := by decide +kernel
theorem d_law_155 : decode code 155 = .ok (.iload 4, 2) := by decide +kernel
theorem d_law_157 : decode code 157 = .ok (.iconst 1, 1) := by decide +kernel
theorem d_law_158 : decode code 158 = .ok (.iadd, 1) := by decide +kernel
theorem d_law_159 : decode code 159 = .ok (.iaload, 1) := by decide +kernel
theorem d_law_160 : decode code 160 = .ok (.aload_n 0, 1) := by decide +kernel
theorem d_law_161 : decode code 161 = .ok (.iload 4, 2) := by decide +kernel
theorem d_law_163 : decode code 163 = .ok (.iconst 2, 1) := by decide +kernel
theorem d_law_164 : decode code 164 = .ok (.iadd, 1) := by decide +kernel
theorem d_law_165 : decode code 165 = .ok (.iaload, 1) := by decide +kernel
theorem d_law_166 : decode code 166 = .ok (.aload_n 0, 1) := by decide +kernel
theorem d_law_167 : decode code 167 = .ok (.iload 4, 2) := by decide +kernel
theorem d_law_169 : decode code 169 = .ok (.iconst 3, 1) := by decide +kernel
theorem d_law_170 : decode code 170 = .ok (.iadd, 1) := by decide +kernel
theorem d_law_171 : decode code 171 = .ok (.iaload, 1) := by decide +kernel
theorem d_law_172 : decode code 172 = .ok (.aload_n 0, 1) := by decide +kernel
theorem d_law_173 : decode code 173 = .ok (.iload 4, 2) := by decide +kernel
theorem d_law_175 : decode code 175 = .ok (.iconst 4, 1) := by decide +kernel
theorem d_law_176 : decode code 176 = .ok (.iadd, 1) := by decide +kernel
theorem d_law_177 : decode code 177 = .ok (.iaload, 1) := by decide +kernel
theorem d_law_178 : decode code 178 = .ok (.aload_n 0, 1) := by decide +kernel
theorem d_law_179 : decode code 179 = .ok (.iload 4, 2) := by decide +kernel
theorem d_law_181 : decode code 181 = .ok (.iconst 5, 1) := by decide +kernel
theorem d_law_182 : decode code 182 = .ok (.iadd, 1) := by decide +kernel
theorem d_law_183 : decode code 183 = .ok (.iaload, 1) := by decide +kernel
theorem d_law_184 : decode code 184 = .ok (.invokevirtual 60, 3) := by decide +kernel
theorem d_law_187 : decode code 187 = .ok (.istore 6, 2) := by decide +kernel
theorem d_law_189 : decode code 189 = .ok (.goto (526), 3) := by decide +kernel
theorem d_law_192 : decode code 192 = .ok (.aload_n 1, 1) := by decide +kernel
theorem d_law_193 : decode code 193 = .ok (.aload_n 0, 1) := by decide +kernel
theorem d_law_194 : decode code 194 = .ok (.iload 4, 2) := by decide +kernel
theorem d_law_196 : decode code 196 = .ok (.iconst 1, 1) := by decide +kernel
theorem d_law_197 : decode code 197 = .ok (.iadd, 1) := by decide +kernel
theorem d_law_198 : decode code 198 = .ok (.iaload, 1) := by decide +kernel
theorem d_law_199 : decode code 199 = .ok (.aload_n 3, 1) := by decide +kernel
theorem d_law_200 : decode code 200 = .ok (.invokestatic 61, 3) := by decide +kernel
theorem d_law_203 : decode code 203 = .ok (.istore 5, 2) := by decide +kernel
theorem d_law_205 : decode code 205 = .ok (.aload_n 2, 1) := by decide +kernel
theorem d_law_206 : decode code 206 = .ok (.aload_n 0, 1) := by decide +kernel
theorem d_law_207 : decode code 207 = .ok (.iload 4, 2) := by decide +kernel
theorem d_law_209 : decode code 209 = .ok (.iconst 1, 1) := by decide +kernel
theorem d_law_210 : decode code 210 = .ok (.iadd, 1) := by decide +kernel
theorem d_law_211 : decode code 211 = .ok (.iaload, 1) := by decide +kernel
theorem d_law_212 : decode code 212 = .ok (.invokevirtual 64, 3) := by decide +kernel
theorem d_law_215 : decode code 215 = .ok (.istore 6, 2) := by decide +kernel
theorem d_law_217 : decode code 217 = .ok (.goto (498), 3) := by decide +kernel
theorem d_law_220 : decode code 220 = .ok (.aload_n 1, 1) := by decide +kernel
theorem d_law_221 : decode code 221 = .ok (.aload_n 3, 1) := by decide +kernel
theorem d_law_222 : decode code 222 = .ok (.invokestatic 65, 3) := by decide +kernel
theorem d_law_225 : decode code 225 = .ok (.istore 5, 2) := by decide +kernel
theorem d_law_227 : decode code 227 = .ok (.aload_n 2, 1) := by decide +kernel
theorem d_law_228 : decode code 228 = .ok (.invokevirtual 68, 3) := by decide +kernel
theorem d_law_231 : decode code 231 = .ok (.istore 6, 2) := by decide +kernel
theorem d_law_233 : decode code 233 = .ok (.goto (482), 3) := by decide +kernel
theorem d_law_236 : decode code 236 = .ok (.aload_n 1, 1) := by decide +kernel
theorem d_law_237 : decode code 237 = .ok (.invokevirtual 69, 3) := by decide +kernel
theorem d_law_240 : decode code 240 = .ok (.pop, 1) := by decide +kernel
theorem d_law_241 : decode code 241 = .ok (.aload_n 2, 1) := by decide +kernel
theorem d_law_242 : decode code 242 = .ok (.invokevirtual 72, 3) := by decide +kernel
theorem d_law_245 : decode code 245 = .ok (.pop, 1) := by decide +kernel
theorem d_law_246 : decode code 246 = .ok (.goto (469), 3) := by decide +kernel
theorem d_law_249 : decode code 249 = .ok (.aload_n 1, 1) := by decide +kernel
theorem d_law_250 : decode code 250 = .ok (.aload_n 0, 1) := by decide +kernel
theorem d_law_251 : decode code 251 = .ok (.iload 4, 2) := by decide +kernel
theorem d_law_253 : decode code 253 = .ok (.iconst 1, 1) := by decide +kernel
theorem d_law_254 : decode code 254 = .ok (.iadd, 1) := by decide +kernel
theorem d_law_255 : decode code 255 = .ok (.iaload, 1) := by decide +kernel
theorem d_law_256 : decode code 256 = .ok (.aload_n 3, 1) := by decide +kernel
theorem d_law_257 : decode code 257 = .ok (.invokestatic 73, 3) := by decide +kernel
theorem d_law_260 : decode code 260 = .ok (.istore 5, 2) := by decide +kernel
theorem d_law_262 : decode code 262 = .ok (.aload_n 2, 1) := by decide +kernel
theorem d_law_263 : decode code 263 = .ok (.aload_n 0, 1) := by decide +kernel
theorem d_law_264 : decode code 264 = .ok (.iload 4, 2) := by decide +kernel
theorem d_law_266 : decode code 266 = .ok (.iconst 1, 1) := by decide +kernel
theorem d_law_267 : decode code 267 = .ok (.iadd, 1) := by decide +kernel
theorem d_law_268 : decode code 268 = .ok (.iaload, 1) := by decide +kernel
theorem d_law_269 : decode code 269 = .ok (.invokevirtual 75, 3) := by decide +kernel
theorem d_law_272 : decode code 272 = .ok (.istore 6, 2) := by decide +kernel
theorem d_law_274 : decode code 274 = .ok (.goto (441), 3) := by decide +kernel
theorem d_law_277 : decode code 277 = .ok (.aload_n 1, 1) := by decide +kernel
theorem d_law_278 : decode code 278 = .ok (.aload_n 0, 1) := by decide +kernel
theorem d_law_279 : decode code 279 = .ok (.iload 4, 2) := by decide +kernel
theorem d_law_281 : decode code 281 = .ok (.iconst 1, 1) := by decide +kernel
theorem d_law_282 : decode code 282 = .ok (.iadd, 1) := by decide +kernel
theorem d_law_283 : decode code 283 = .ok (.iaload, 1) := by decide +kernel
theorem d_law_284 : decode code 284 = .ok (.i2l, 1) := by decide +kernel
theorem d_law_285 : decode code 285 = .ok (.bipush 32, 2) := by decide +kernel
theorem d_law_287 : decode code 287 = .ok (.lshl, 1) := by decide +kernel
theorem d_law_288 : decode code 288 = .ok (.aload_n 0, 1) := by decide +kernel
theorem d_law_289 : decode code 289 = .ok (.iload 4, 2) := by decide +kernel
theorem d_law_291 : decode code 291 = .ok (.iconst 2, 1) := by decide +kernel
theorem d_law_292 : decode code 292 = .ok (.iadd, 1) := by decide +kernel
theorem d_law_293 : decode code 293 = .ok (.iaload, 1) := by decide +kernel
theorem d_law_294 : decode code 294 = .ok (.i2l, 1) := by decide +kernel
theorem d_law_295 : decode code 295 = .ok (.ldc2_w 76, 3) := by decide +kernel
theorem d_law_298 : decode code 298 = .ok (.land, 1) := by decide +kernel
theorem d_law_299 : decode code 299 = .ok (.lor, 1) := by decide +kernel
theorem d_law_300 : decode code 300 = .ok (.invokevirtual 78, 3) := by decide +kernel
theorem d_law_303 : decode code 303 = .ok (.pop, 1) := by decide +kernel
theorem d_law_304 : decode code 304 = .ok (.aload_n 2, 1) := by decide +kernel
theorem d_law_305 : decode code 305 = .ok (.aload_n 0, 1) := by decide +kernel
theorem d_law_306 : decode code 306 = .ok (.iload 4, 2) := by decide +kernel
theorem d_law_308 : decode code 308 = .ok (.iconst 1, 1) := by decide +kernel
theorem d_law_309 : decode code 309 = .ok (.iadd, 1) := by decide +kernel
theorem d_law_310 : decode code 310 = .ok (.iaload, 1) := by decide +kernel
theorem d_law_311 : decode code 311 = .ok (.i2l, 1) := by decide +kernel
theorem d_law_312 : decode code 312 = .ok (.bipush 32, 2) := by decide +kernel
theorem d_law_314 : decode code 314 = .ok (.lshl, 1) := by decide +kernel
theorem d_law_315 : decode code 315 = .ok (.aload_n 0, 1) := by decide +kernel
theorem d_law_316 : decode code 316 = .ok (.iload 4, 2) := by decide +kernel
theorem d_law_318 : decode code 318 = .ok (.iconst 2, 1) := by decide +kernel
theorem d_law_319 : decode code 319 = .ok (.iadd, 1) := by decide +kernel
theorem d_law_320 : decode code 320 = .ok (.iaload, 1) := by decide +kernel
theorem d_law_321 : decode code 321 = .ok (.i2l, 1) := by decide +kernel
theorem d_law_322 : decode code 322 = .ok (.ldc2_w 76, 3) := by decide +kernel
theorem d_law_325 : decode code 325 = .ok (.land, 1) := by decide +kernel
theorem d_law_326 : decode code 326 = .ok (.lor, 1) := by decide +kernel
theorem d_law_327 : decode code 327 = .ok (.invokevirtual 82, 3) := by decide +kernel
theorem d_law_330 : decode code 330 = .ok (.pop, 1) := by decide +kernel
theorem d_law_331 : decode code 331 = .ok (.goto (384), 3) := by decide +kernel
theorem d_law_334 : decode code 334 = .ok (.aload_n 1, 1) := by decide +kernel
theorem d_law_335 : decode code 335 = .ok (.aload_n 0, 1) := by decide +kernel
theorem d_law_336 : decode code 336 = .ok (.iload 4, 2) := by decide +kernel
theorem d_law_338 : decode code 338 = .ok (.iconst 1, 1) := by decide +kernel
theorem d_law_339 : decode code 339 = .ok (.iadd, 1) := by decide +kernel
theorem d_law_340 : decode code 340 = .ok (.iaload, 1) := by decide +kernel
theorem d_law_341 : decode code 341 = .ok (.aload_n 0, 1) := by decide +kernel
theorem d_law_342 : decode code 342 = .ok (.iload 4, 2) := by decide +kernel
theorem d_law_344 : decode code 344 = .ok (.iconst 2, 1) := by decide +kernel
theorem d_law_345 : decode code 345 = .ok (.iadd, 1) := by decide +kernel
theorem d_law_346 : decode code 346 = .ok (.iaload, 1) := by decide +kernel
theorem d_law_347 : decode code 347 = .ok (.aload_n 0, 1) := by decide +kernel
theorem d_law_348 : decode code 348 = .ok (.iload 4, 2) := by decide +kernel
theorem d_law_350 : decode code 350 = .ok (.iconst 3, 1) := by decide +kernel
theorem d_law_351 : decode code 351 = .ok (.iadd, 1) := by decide +kernel
theorem d_law_352 : decode code 352 = .ok (.iaload, 1) := by decide +kernel
theorem d_law_353 : decode code 353 = .ok (.i2l, 1) := by decide +kernel
theorem d_law_354 : decode code 354 = .ok (.bipush 32, 2) := by decide +kernel
theorem d_law_356 : decode code 356 = .ok (.lshl, 1) := by decide +kernel
theorem d_law_357 : decode code 357 = .ok (.aload_n 0, 1) := by decide +kernel
theorem d_law_358 : decode code 358 = .ok (.iload 4, 2) := by decide +kernel
theorem d_law_360 : decode code 360 = .ok (.iconst 4, 1) := by decide +kernel
theorem d_law_361 : decode code 361 = .ok (.iadd, 1) := by decide +kernel
theorem d_law_362 : decode code 362 = .ok (.iaload, 1) := by decide +kernel
theorem d_law_363 : decode code 363 = .ok (.i2l, 1) := by decide +kernel
theorem d_law_364 : decode code 364 = .ok (.ldc2_w 76, 3) := by decide +kernel
theorem d_law_367 : decode code 367 = .ok (.land, 1) := by decide +kernel
theorem d_law_368 : decode code 368 = .ok (.lor, 1) := by decide +kernel
theorem d_law_369 : decode code 369 = .ok (.aload_n 3, 1) := by decide +kernel
theorem d_law_370 : decode code 370 = .ok (.invokestatic 83, 3) := by decide +kernel
theorem d_law_373 : decode code 373 = .ok (.istore 5, 2) := by decide +kernel
theorem d_law_375 : decode code 375 = .ok (.aload_n 2, 1) := by decide +kernel
theorem d_law_376 : decode code 376 = .ok (.aload_n 0, 1) := by decide +kernel
theorem d_law_377 : decode code 377 = .ok (.iload 4, 2) := by decide +kernel
theorem d_law_379 : decode code 379 = .ok (.iconst 1, 1) := by decide +kernel
theorem d_law_380 : decode code 380 = .ok (.iadd, 1) := by decide +kernel
theorem d_law_381 : decode code 381 = .ok (.iaload, 1) := by decide +kernel
theorem d_law_382 : decode code 382 = .ok (.aload_n 0, 1) := by decide +kernel
theorem d_law_383 : decode code 383 = .ok (.iload 4, 2) := by decide +kernel
theorem d_law_385 : decode code 385 = .ok (.iconst 2, 1) := by decide +kernel
theorem d_law_386 : decode code 386 = .ok (.iadd, 1) := by decide +kernel
theorem d_law_387 : decode code 387 = .ok (.iaload, 1) := by decide +kernel
theorem d_law_388 : decode code 388 = .ok (.aload_n 0, 1) := by decide +kernel
theorem d_law_389 : decode code 389 = .ok (.iload 4, 2) := by decide +kernel
theorem d_law_391 : decode code 391 = .ok (.iconst 3, 1) := by decide +kernel
theorem d_law_392 : decode code 392 = .ok (.iadd, 1) := by decide +kernel
theorem d_law_393 : decode code 393 = .ok (.iaload, 1) := by decide +kernel
theorem d_law_394 : decode code 394 = .ok (.i2l, 1) := by decide +kernel
theorem d_law_395 : decode code 395 = .ok (.bipush 32, 2) := by decide +kernel
theorem d_law_397 : decode code 397 = .ok (.lshl, 1) := by decide +kernel
theorem d_law_398 : decode code 398 = .ok (.aload_n 0, 1) := by decide +kernel
theorem d_law_399 : decode code 399 = .ok (.iload 4, 2) := by decide +kernel
theorem d_law_401 : decode code 401 = .ok (.iconst 4, 1) := by decide +kernel
theorem d_law_402 : decode code 402 = .ok (.iadd, 1) := by decide +kernel
theorem d_law_403 : decode code 403 = .ok (.iaload, 1) := by decide +kernel
theorem d_law_404 : decode code 404 = .ok (.i2l, 1) := by decide +kernel
theorem d_law_405 : decode code 405 = .ok (.ldc2_w 76, 3) := by decide +kernel
theorem d_law_408 : decode code 408 = .ok (.land, 1) := by decide +kernel
theorem d_law_409 : decode code 409 = .ok (.lor, 1) := by decide +kernel
theorem d_law_410 : decode code 410 = .ok (.invokevirtual 86, 3) := by decide +kernel
theorem d_law_413 : decode code 413 = .ok (.lstore 6, 2) := by decide +kernel
theorem d_law_415 : decode code 415 = .ok (.goto (300), 3) := by decide +kernel
theorem d_law_418 : decode code 418 = .ok (.aload_n 1, 1) := by decide +kernel
theorem d_law_419 : decode code 419 = .ok (.aload_n 0, 1) := by decide +kernel
theorem d_law_420 : decode code 420 = .ok (.iload 4, 2) := by decide +kernel
theorem d_law_422 : decode code 422 = .ok (.iconst 1, 1) := by decide +kernel
theorem d_law_423 : decode code 423 = .ok (.iadd, 1) := by decide +kernel
theorem d_law_424 : decode code 424 = .ok (.iaload, 1) := by decide +kernel
theorem d_law_425 : decode code 425 = .ok (.aload_n 0, 1) := by decide +kernel
theorem d_law_426 : decode code 426 = .ok (.iload 4, 2) := by decide +kernel
theorem d_law_428 : decode code 428 = .ok (.iconst 2, 1) := by decide +kernel
theorem d_law_429 : decode code 429 = .ok (.iadd, 1) := by decide +kernel
theorem d_law_430 : decode code 430 = .ok (.iaload, 1) := by decide +kernel
theorem d_law_431 : decode code 431 = .ok (.aload_n 0, 1) := by decide +kernel
theorem d_law_432 : decode code 432 = .ok (.iload 4, 2) := by decide +kernel
theorem d_law_434 : decode code 434 = .ok (.iconst 3, 1) := by decide +kernel
theorem d_law_435 : decode code 435 = .ok (.iadd, 1) := by decide +kernel
theorem d_law_436 : decode code 436 = .ok (.iaload, 1) := by decide +kernel
theorem d_law_437 : decode code 437 = .ok (.i2l, 1) := by decide +kernel
theorem d_law_438 : decode code 438 = .ok (.bipush 32, 2) := by decide +kernel
theorem d_law_440 : decode code 440 = .ok (.lshl, 1) := by decide +kernel
theorem d_law_441 : decode code 441 = .ok (.aload_n 0, 1) := by decide +kernel
theorem d_law_442 : decode code 442 = .ok (.iload 4, 2) := by decide +kernel
theorem d_law_444 : decode code 444 = .ok (.iconst 4, 1) := by decide +kernel
theorem d_law_445 : decode code 445 = .ok (.iadd, 1) := by decide +kernel
theorem d_law_446 : decode code 446 = .ok (.iaload, 1) := by decide +kernel
theorem d_law_447 : decode code 447 = .ok (.i2l, 1) := by decide +kernel
theorem d_law_448 : decode code 448 = .ok (.ldc2_w 76, 3) := by decide +kernel
theorem d_law_451 : decode code 451 = .ok (.land, 1) := by decide +kernel
theorem d_law_452 : decode code 452 = .ok (.lor, 1) := by decide +kernel
theorem d_law_453 : decode code 453 = .ok (.invokestatic 87, 3) := by decide +kernel
theorem d_law_456 : decode code 456 = .ok (.istore 5, 2) := by decide +kernel
theorem d_law_458 : decode code 458 = .ok (.aload_n 2, 1) := by decide +kernel
theorem d_law_459 : decode code 459 = .ok (.aload_n 0, 1) := by decide +kernel
theorem d_law_460 : decode code 460 = .ok (.iload 4, 2) := by decide +kernel
theorem d_law_462 : decode code 462 = .ok (.iconst 1, 1) := by decide +kernel
theorem d_law_463 : decode code 463 = .ok (.iadd, 1) := by decide +kernel
theorem d_law_464 : decode code 464 = .ok (.iaload, 1) := by decide +kernel
theorem d_law_465 : decode code 465 = .ok (.aload_n 0, 1) := by decide +kernel
theorem d_law_466 : decode code 466 = .ok (.iload 4, 2) := by decide +kernel
theorem d_law_468 : decode code 468 = .ok (.iconst 2, 1) := by decide +kernel
theorem d_law_469 : decode code 469 = .ok (.iadd, 1) := by decide +kernel
theorem d_law_470 : decode code 470 = .ok (.iaload, 1) := by decide +kernel
theorem d_law_471 : decode code 471 = .ok (.aload_n 0, 1) := by decide +kernel
theorem d_law_472 : decode code 472 = .ok (.iload 4, 2) := by decide +kernel
theorem d_law_474 : decode code 474 = .ok (.iconst 3, 1) := by decide +kernel
theorem d_law_475 : decode code 475 = .ok (.iadd, 1) := by decide +kernel
theorem d_law_476 : decode code 476 = .ok (.iaload, 1) := by decide +kernel
theorem d_law_477 : decode code 477 = .ok (.i2l, 1) := by decide +kernel
theorem d_law_478 : decode code 478 = .ok (.bipush 32, 2) := by decide +kernel
theorem d_law_480 : decode code 480 = .ok (.lshl, 1) := by decide +kernel
theorem d_law_481 : decode code 481 = .ok (.aload_n 0, 1) := by decide +kernel
theorem d_law_482 : decode code 482 = .ok (.iload 4, 2) := by decide +kernel
theorem d_law_484 : decode code 484 = .ok (.iconst 4, 1) := by decide +kernel
theorem d_law_485 : decode code 485 = .ok (.iadd, 1) := by decide +kernel
theorem d_law_486 : decode code 486 = .ok (.iaload, 1) := by decide +kernel
theorem d_law_487 : decode code 487 = .ok (.i2l, 1) := by decide +kernel
theorem d_law_488 : decode code 488 = .ok (.ldc2_w 76, 3) := by decide +kernel
theorem d_law_491 : decode code 491 = .ok (.land, 1) := by decide +kernel
theorem d_law_492 : decode code 492 = .ok (.lor, 1) := by decide +kernel
theorem d_law_493 : decode code 493 = .ok (.invokevirtual 90, 3) := by decide +kernel
theorem d_law_496 : decode code 496 = .ok (.goto (219), 3) := by decide +kernel
theorem d_law_499 : decode code 499 = .ok (.aload_n 1, 1) := by decide +kernel
theorem d_law_500 : decode code 500 = .ok (.aload_n 0, 1) := by decide +kernel
theorem d_law_501 : decode code 501 = .ok (.iload 4, 2) := by decide +kernel
theorem d_law_503 : decode code 503 = .ok (.iconst 1, 1) := by decide +kernel
theorem d_law_504 : decode code 504 = .ok (.iadd, 1) := by decide +kernel
theorem d_law_505 : decode code 505 = .ok (.iaload, 1) := by decide +kernel
theorem d_law_506 : decode code 506 = .ok (.aload_n 0, 1) := by decide +kernel
theorem d_law_507 : decode code 507 = .ok (.iload 4, 2) := by decide +kernel
theorem d_law_509 : decode code 509 = .ok (.iconst 2, 1) := by decide +kernel
theorem d_law_510 : decode code 510 = .ok (.iadd, 1) := by decide +kernel
theorem d_law_511 : decode code 511 = .ok (.iaload, 1) := by decide +kernel
theorem d_law_512 : decode code 512 = .ok (.aload_n 3, 1) := by decide +kernel
theorem d_law_513 : decode code 513 = .ok (.invokestatic 91, 3) := by decide +kernel
theorem d_law_516 : decode code 516 = .ok (.istore 5, 2) := by decide +kernel
theorem d_law_518 : decode code 518 = .ok (.aload_n 2, 1) := by decide +kernel
theorem d_law_519 : decode code 519 = .ok (.aload_n 0, 1) := by decide +kernel
theorem d_law_520 : decode code 520 = .ok (.iload 4, 2) := by decide +kernel
theorem d_law_522 : decode code 522 = .ok (.iconst 1, 1) := by decide +kernel
theorem d_law_523 : decode code 523 = .ok (.iadd, 1) := by decide +kernel
theorem d_law_524 : decode code 524 = .ok (.iaload, 1) := by decide +kernel
theorem d_law_525 : decode code 525 = .ok (.aload_n 0, 1) := by decide +kernel
theorem d_law_526 : decode code 526 = .ok (.iload 4, 2) := by decide +kernel
theorem d_law_528 : decode code 528 = .ok (.iconst 2, 1) := by decide +kernel
theorem d_law_529 : decode code 529 = .ok (.iadd, 1) := by decide +kernel
theorem d_law_530 : decode code 530 = .ok (.iaload, 1) := by decide +kernel
theorem d_law_531 : decode code 531 = .ok (.invokevirtual 94, 3) := by decide +kernel
theorem d_law_534 : decode code 534 = .ok (.lstore 6, 2) := by decide +kernel
theorem d_law_536 : decode code 536 = .ok (.goto (179), 3) := by decide +kernel
theorem d_law_539 : decode code 539 = .ok (.aload_n 1, 1) := by decide +kernel
theorem d_law_540 : decode code 540 = .ok (.aload_n 0, 1) := by decide +kernel
theorem d_law_541 : decode code 541 = .ok (.iload 4, 2) := by decide +kernel
theorem d_law_543 : decode code 543 = .ok (.iconst 1, 1) := by decide +kernel
theorem d_law_544 : decode code 544 = .ok (.iadd, 1) := by decide +kernel
theorem d_law_545 : decode code 545 = .ok (.iaload, 1) := by decide +kernel
theorem d_law_546 : decode code 546 = .ok (.i2l, 1) := by decide +kernel
theorem d_law_547 : decode code 547 = .ok (.bipush 32, 2) := by decide +kernel
theorem d_law_549 : decode code 549 = .ok (.lshl, 1) := by decide +kernel
theorem d_law_550 : decode code 550 = .ok (.aload_n 0, 1) := by decide +kernel
theorem d_law_551 : decode code 551 = .ok (.iload 4, 2) := by decide +kernel
theorem d_law_553 : decode code 553 = .ok (.iconst 2, 1) := by decide +kernel
theorem d_law_554 : decode code 554 = .ok (.iadd, 1) := by decide +kernel
theorem d_law_555 : decode code 555 = .ok (.iaload, 1) := by decide +kernel
theorem d_law_556 : decode code 556 = .ok (.i2l, 1) := by decide +kernel
theorem d_law_557 : decode code 557 = .ok (.ldc2_w 76, 3) := by decide +kernel
theorem d_law_560 : decode code 560 = .ok (.land, 1) := by decide +kernel
theorem d_law_561 : decode code 561 = .ok (.lor, 1) := by decide +kernel
theorem d_law_562 : decode code 562 = .ok (.invokevirtual 95, 3) := by decide +kernel
theorem d_law_565 : decode code 565 = .ok (.pop, 1) := by decide +kernel
theorem d_law_566 : decode code 566 = .ok (.aload_n 2, 1) := by decide +kernel
theorem d_law_567 : decode code 567 = .ok (.aload_n 0, 1) := by decide +kernel
theorem d_law_568 : decode code 568 = .ok (.iload 4, 2) := by decide +kernel
theorem d_law_570 : decode code 570 = .ok (.iconst 1, 1) := by decide +kernel
theorem d_law_571 : decode code 571 = .ok (.iadd, 1) := by decide +kernel
theorem d_law_572 : decode code 572 = .ok (.iaload, 1) := by decide +kernel
theorem d_law_573 : decode code 573 = .ok (.i2l, 1) := by decide +kernel
theorem d_law_574 : decode code 574 = .ok (.bipush 32, 2) := by decide +kernel
theorem d_law_576 : decode code 576 = .ok (.lshl, 1) := by decide +kernel
theorem d_law_577 : decode code 577 = .ok (.aload_n 0, 1) := by decide +kernel
theorem d_law_578 : decode code 578 = .ok (.iload 4, 2) := by decide +kernel
theorem d_law_580 : decode code 580 = .ok (.iconst 2, 1) := by decide +kernel
theorem d_law_581 : decode code 581 = .ok (.iadd, 1) := by decide +kernel
theorem d_law_582 : decode code 582 = .ok (.iaload, 1) := by decide +kernel
theorem d_law_583 : decode code 583 = .ok (.i2l, 1) := by decide +kernel
theorem d_law_584 : decode code 584 = .ok (.ldc2_w 76, 3) := by decide +kernel
theorem d_law_587 : decode code 587 = .ok (.land, 1) := by decide +kernel
theorem d_law_588 : decode code 588 = .ok (.lor, 1) := by decide +kernel
theorem d_law_589 : decode code 589 = .ok (.invokevirtual 98, 3) := by decide +kernel
theorem d_law_592 : decode code 592 = .ok (.pop, 1) := by decide +kernel
theorem d_law_593 : decode code 593 = .ok (.goto (122), 3) := by decide +kernel
theorem d_law_596 : decode code 596 = .ok (.aload_n 1, 1) := by decide +kernel
theorem d_law_597 : decode code 597 = .ok (.aload_n 0, 1) := by decide +kernel
theorem d_law_598 : decode code 598 = .ok (.iload 4, 2) := by decide +kernel
theorem d_law_600 : decode code 600 = .ok (.iconst 1, 1) := by decide +kernel
theorem d_law_601 : decode code 601 = .ok (.iadd, 1) := by decide +kernel
theorem d_law_602 : decode code 602 = .ok (.iaload, 1) := by decide +kernel
theorem d_law_603 : decode code 603 = .ok (.aload_n 3, 1) := by decide +kernel
theorem d_law_604 : decode code 604 = .ok (.invokestatic 99, 3) := by decide +kernel
theorem d_law_607 : decode code 607 = .ok (.istore 5, 2) := by decide +kernel
theorem d_law_609 : decode code 609 = .ok (.aload_n 2, 1) := by decide +kernel
theorem d_law_610 : decode code 610 = .ok (.aload_n 0, 1) := by decide +kernel
theorem d_law_611 : decode code 611 = .ok (.iload 4, 2) := by decide +kernel
theorem d_law_613 : decode code 613 = .ok (.iconst 1, 1) := by decide +kernel
theorem d_law_614 : decode code 614 = .ok (.iadd, 1) := by decide +kernel
theorem d_law_615 : decode code 615 = .ok (.iaload, 1) := by decide +kernel
theorem d_law_616 : decode code 616 = .ok (.invokevirtual 101, 3) := by decide +kernel
theorem d_law_619 : decode code 619 = .ok (.istore 6, 2) := by decide +kernel
theorem d_law_621 : decode code 621 = .ok (.goto (94), 3) := by decide +kernel
theorem d_law_624 : decode code 624 = .ok (.aload_n 1, 1) := by decide +kernel
theorem d_law_625 : decode code 625 = .ok (.invokevirtual 102, 3) := by decide +kernel
theorem d_law_628 : decode code 628 = .ok (.pop, 1) := by decide +kernel
theorem d_law_629 : decode code 629 = .ok (.aload_n 2, 1) := by decide +kernel
theorem d_law_630 : decode code 630 = .ok (.invokevirtual 105, 3) := by decide +kernel
theorem d_law_633 : decode code 633 = .ok (.pop, 1) := by decide +kernel
theorem d_law_634 : decode code 634 = .ok (.goto (81), 3) := by decide +kernel
theorem d_law_637 : decode code 637 = .ok (.aload_n 1, 1) := by decide +kernel
theorem d_law_638 : decode code 638 = .ok (.aload_n 0, 1) := by decide +kernel
theorem d_law_639 : decode code 639 = .ok (.iload 4, 2) := by decide +kernel
theorem d_law_641 : decode code 641 = .ok (.iconst 1, 1) := by decide +kernel
theorem d_law_642 : decode code 642 = .ok (.iadd, 1) := by decide +kernel
theorem d_law_643 : decode code 643 = .ok (.iaload, 1) := by decide +kernel
theorem d_law_644 : decode code 644 = .ok (.aload_n 0, 1) := by decide +kernel
theorem d_law_645 : decode code 645 = .ok (.iload 4, 2) := by decide +kernel
theorem d_law_647 : decode code 647 = .ok (.iconst 2, 1) := by decide +kernel
theorem d_law_648 : decode code 648 = .ok (.iadd, 1) := by decide +kernel
theorem d_law_649 : decode code 649 = .ok (.iaload, 1) := by decide +kernel
theorem d_law_650 : decode code 650 = .ok (.aload_n 3, 1) := by decide +kernel
theorem d_law_651 : decode code 651 = .ok (.invokestatic 106, 3) := by decide +kernel
theorem d_law_654 : decode code 654 = .ok (.istore 5, 2) := by decide +kernel
theorem d_law_656 : decode code 656 = .ok (.aload_n 2, 1) := by decide +kernel
theorem d_law_657 : decode code 657 = .ok (.aload_n 0, 1) := by decide +kernel
theorem d_law_658 : decode code 658 = .ok (.iload 4, 2) := by decide +kernel
theorem d_law_660 : decode code 660 = .ok (.iconst 1, 1) := by decide +kernel
theorem d_law_661 : decode code 661 = .ok (.iadd, 1) := by decide +kernel
theorem d_law_662 : decode code 662 = .ok (.iaload, 1) := by decide +kernel
theorem d_law_663 : decode code 663 = .ok (.aload_n 0, 1) := by decide +kernel
theorem d_law_664 : decode code 664 = .ok (.iload 4, 2) := by decide +kernel
theorem d_law_666 : decode code 666 = .ok (.iconst 2, 1) := by decide +kernel
theorem d_law_667 : decode code 667 = .ok (.iadd, 1) := by decide +kernel
theorem d_law_668 : decode code 668 = .ok (.iaload, 1) := by decide +kernel
theorem d_law_669 : decode code 669 = .ok (.invokevirtual 108, 3) := by decide +kernel
theorem d_law_672 : decode code 672 = .ok (.istore 6, 2) := by decide +kernel
theorem d_law_674 : decode code 674 = .ok (.goto (41), 3) := by decide +kernel
theorem d_law_677 : decode code 677 = .ok (.aload_n 1, 1) := by decide +kernel
theorem d_law_678 : decode code 678 = .ok (.invokevirtual 109, 3) := by decide +kernel
theorem d_law_681 : decode code 681 = .ok (.pop2, 1) := by decide +kernel
theorem d_law_682 : decode code 682 = .ok (.aload_n 2, 1) := by decide +kernel
theorem d_law_683 : decode code 683 = .ok (.invokevirtual 113, 3) := by decide +kernel
theorem d_law_686 : decode code 686 = .ok (.pop2, 1) := by decide +kernel
theorem d_law_687 : decode code 687 = .ok (.goto (28), 3) := by decide +kernel
theorem d_law_690 : decode code 690 = .ok (.aload_n 1, 1) := by decide +kernel
theorem d_law_691 : decode code 691 = .ok (.aload_n 0, 1) := by decide +kernel
theorem d_law_692 : decode code 692 = .ok (.iload 4, 2) := by decide +kernel
theorem d_law_694 : decode code 694 = .ok (.iconst 1, 1) := by decide +kernel
theorem d_law_695 : decode code 695 = .ok (.iadd, 1) := by decide +kernel
theorem d_law_696 : decode code 696 = .ok (.iaload, 1) := by decide +kernel
theorem d_law_697 : decode code 697 = .ok (.invokevirtual 114, 3) := by decide +kernel
theorem d_law_700 : decode code 700 = .ok (.aload_n 2, 1) := by decide +kernel
theorem d_law_701 : decode code 701 = .ok (.aload_n 0, 1) := by decide +kernel
theorem d_law_702 : decode code 702 = .ok (.iload 4, 2) := by decide +kernel
theorem d_law_704 : decode code 704 = .ok (.iconst 1, 1) := by decide +kernel
theorem d_law_705 : decode code 705 = .ok (.iadd, 1) := by decide +kernel
theorem d_law_706 : decode code 706 = .ok (.iaload, 1) := by decide +kernel
theorem d_law_707 : decode code 707 = .ok (.invokevirtual 117, 3) := by decide +kernel
theorem d_law_710 : decode code 710 = .ok (.if_icmp .eq (5), 3) := by decide +kernel
theorem d_law_715 : decode code 715 = .ok (.iinc 4 (6), 3) := by decide +kernel
theorem d_law_718 : decode code 718 = .ok (.goto (-695), 3) := by decide +kernel
theorem d_law_721 : decode code 721 = .ok (.iconst 1, 1) := by decide +kernel
theorem d_law_722 : decode code 722 = .ok (.ireturn, 1) := by decide +kernel
set_option maxHeartbeats 8000000 in
set_option maxRecDepth 100000 in
theorem law_lp {p : Program} {e : Env} {s : State} {m : MethodId} {below : List Frame} {meth : Method} {c : Code} (l : Launch) {b L : Nat} {xs : Nat → Int32} {dA : FieldType → ClassId} {D : va_G} {sk sv : Nat → Nat} (hlt : l.stackTraces = false) (hL : L ≤ 3072) (hX : va_X b L xs s s.heap) (hb : b < s.heap.size) (hr : meth.sig.returnType = ret) (hKs : mKt sk sv (fun q => s.heap.size ≤ q) s s.heap) : ∀ (nn : Nat) (ext : mv_Sh) (al : Nat → Nat) (σ : mv_H) (k9 C9 S9 : Nat) (i9 : Int32) (t9 : Nat) (B : mv_B p s m #[Value.ref b] meth c (mg dA D al ext) ma R_law code 8) (hge : ∀ o, o < (mv_sh (mg dA D al ext)).length → s.heap.size ≤ al o) (hLI : LI ext σ k9) (hMJ : MJ σ k9) (hTE : TEQ σ) (hCQ : CQq ext σ) (hWK : WKq σ) (hi9 : i9.toInt = t9) (ht : t9 ≤ L) (hk : 3 * k9 ≤ 10 * t9) (hBD : BD ext C9 S9 t9), L - t9 < nn → mv_V p l e room_1 s m #[Value.ref b] below meth c (mg dA D al ext) 8 C9 S9 (lw_Z below #[Value.ref b] s) σ 23 [(4, .int i9), (3, .ref (al 142)), (2, .ref (al 70)), (1, .ref (al 0)), (0, .ref b)] [] := by
  intro nn
  induction nn with
  | zero => intro ext al σ k9 C9 S9 i9 t9 B hge hLI hMJ hTE hCQ hWK hi9 ht hk hBD hm; exact absurd hm (Nat.not_lt_zero _)
  | succ nn ih =>
    intro ext al σ k9 C9 S9 i9 t9 B hge hLI hMJ hTE hCQ hWK hi9 ht hk hBD hm
    have hNs := law_K hKs hge
    have hbA := law_ba hge hb
    have j743 : t9 + 6 ≤ L → ∀ (ext : mv_Sh) (al : Nat → Nat) (σ : mv_H) (k9 C9 S9 : Nat) (B : mv_B p s m #[Value.ref b] meth c (mg dA D al ext) ma R_law code 8) (hge : ∀ o, o < (mv_sh (mg dA D al ext)).length → s.heap.size ≤ al o) (hLI : LI ext σ k9) (hMJ : MJ σ k9) (hTE : TEQ σ) (hCQ : CQq ext σ) (hWK : WKq σ) (hk : 3 * k9 ≤ 10 * (t9 + 6)) (hBD : BD ext C9 S9 (t9 + 6)), mv_V p l e room_1 s m #[Value.ref b] below meth c (mg dA D al ext) 8 C9 S9 (lw_Z below #[Value.ref b] s) σ 715 [(4, .int i9), (3, .ref (al 142)), (2, .ref (al 70)), (1, .ref (al 0)), (0, .ref b)] [] := by
      intro h6 ext al σ k9 C9 S9 B hge hLI hMJ hTE hCQ hWK hk hBD
      refine mv_iinc (pc := 715) (j := 0) (v := 6) B d_law_715 rfl (by decide) (by decide) rfl ?_
      refine mv_goto (pc := 718) (tgt := 23) B d_law_718 rfl ?_
      exact ih ext al σ k9 C9 S9 _ (t9 + 6) B hge hLI hMJ hTE hCQ hWK (law_i hi9 (by omega)) h6 hk hBD (by omega)
    refine mv_iload (pc := 23) B d_law_23 0 rfl ?_
    refine mv_aload_n (pc := 25) B d_law_25 rfl 4 rfl ?_
    refine mv_sln (pc := 26) B hX hb hbA d_law_26 ?_
    refine mv_bipush (pc := 27) (v := 6) B d_law_27 (by decide) ?_
    refine mv_isub (pc := 29) B d_law_29 ?_
    refine mv_icmp_gt (pc := 30) (tgt := 721) B d_law_30 rfl (fun h30 => ?_) (fun h30 => ?_)
    · skip
      refine mv_iconst (pc := 721) (v := 1) B d_law_721 (by decide) ?_
      exact law_ret B hr hge d_law_722 (hBD.le (by omega))
    · skip
      have h30 : t9 + 6 ≤ L := law_le hi9 hL h30
      have j743 := j743 h30
      have f1 : vp_in (i9 + 1) L := sc_in hi9 (by decide) h30 hL
      have f2 : vp_in (i9 + 2) L := sc_in hi9 (by decide) h30 hL
      have f3 : vp_in (i9 + 3) L := sc_in hi9 (by decide) h30 hL
      have f4 : vp_in (i9 + 4) L := sc_in hi9 (by decide) h30 hL
      have f5 : vp_in (i9 + 5) L := sc_in hi9 (by decide) h30 hL
      have f0 : vp_in i9 L := i32_in (by omega) (by omega)
      have hCS := hBD.le (by omega)
      refine mv_aload_n (pc := 33) B d_law_33 rfl 4 rfl ?_
      refine mv_iload (pc := 34) B d_law_34 0 rfl ?_
      refine mv_sld (pc := 36) B hX hb hbA f0 d_law_36 ?_
      refine mv_bipush (pc := 37) (v := 15) B d_law_37 (by decide) ?_
      refine mv_iand (pc := 39) B d_law_39 ?_
      refine mv_tsw (pc := 40) B d_law_40 (by decide) (by decide) ?_
      refine ⟨fun h40 => ?_, fun h40n0 => ?_⟩
      · skip
        refine mv_aload_n (pc := 116) B d_law_116 rfl 3 rfl ?_
        refine mv_aload_n (pc := 117) B d_law_117 rfl 4 rfl ?_
        refine mv_iload (pc := 118) B d_law_118 0 rfl ?_
        refine mv_iconst (pc := 120) (v := 1) B d_law_120 (by decide) ?_
        refine mv_iadd (pc := 121) B d_law_121 ?_
        refine mv_sld (pc := 122) B hX hb hbA f1 d_law_122 ?_
        refine mv_aload_n (pc := 123) B d_law_123 rfl 4 rfl ?_
        refine mv_iload (pc := 124) B d_law_124 0 rfl ?_
        refine mv_iconst (pc := 126) (v := 2) B d_law_126 (by decide) ?_
        refine mv_iadd (pc := 127) B d_law_127 ?_
        refine mv_sld (pc := 128) B hX hb hbA f2 d_law_128 ?_
        refine mv_aload_n (pc := 129) B d_law_129 rfl 4 rfl ?_
        refine mv_iload (pc := 130) B d_law_130 0 rfl ?_
        refine mv_iconst (pc := 132) (v := 3) B d_law_132 (by decide) ?_
        refine mv_iadd (pc := 133) B d_law_133 ?_
        refine mv_sld (pc := 134) B hX hb hbA f3 d_law_134 ?_
        refine mv_aload_n (pc := 135) B d_law_135 rfl 4 rfl ?_
        refine mv_iload (pc := 136) B d_law_136 0 rfl ?_
        refine mv_iconst (pc := 138) (v := 4) B d_law_138 (by decide) ?_
        refine mv_iadd (pc := 139) B d_law_139 ?_
        refine mv_sld (pc := 140) B hX hb hbA f4 d_law_140 ?_
        refine mv_aload_n (pc := 141) B d_law_141 rfl 4 rfl ?_
        refine mv_iload (pc := 142) B d_law_142 0 rfl ?_
        refine mv_iconst (pc := 144) (v := 5) B d_law_144 (by decide) ?_
        refine mv_iadd (pc := 145) B d_law_145 ?_
        refine mv_sld (pc := 146) B hX hb hbA f5 d_law_146 ?_
        refine mv_aload_n (pc := 147) B d_law_147 rfl 1 rfl ?_
        refine mv_callSWG (pc := 148) (na := 7) B (mKt_ok sk sv) hNs (u_Law_feed l B.2.2.2.2.2.1 _ hlt _ _ _ _ _ k9 hLI (by omega)) rfl (ma_goodc kc_Law_feed) (B.2.2.2.1 _ k_1663) (B.2.2.2.1 _ k_1664) (B.2.2.2.1 _ k_0) ⟨by decide +kernel, by decide +kernel, by decide +kernel⟩ rfl d_law_148 rfl (Nat.le_of_ble_eq_true rfl) ⟨by decide, by decide⟩ ⟨Nat.le_trans (Nat.add_le_add_right hCS.1 _) (by decide), Nat.le_trans (Nat.add_le_add_right hCS.2 _) (by decide)⟩ (fun x9 τ9 h9 => by obtain ⟨_, h9, _⟩ := h9; cases h9) (fun w148 σ148 h9 => ?_)
        obtain ⟨v148, h8, h9⟩ := h9
        cases h8
        obtain ⟨e5, hLI, ⟨hG, hE1, hGP, hMK⟩, hout⟩ := h9
        have hWK := hWK.c hG hGP hMK.l
        have hMJ := hMJ.go hG hLI.hm
        have hCQ := hCQ.c hG hGP
        subst e5
        refine mv_istore (pc := 151) B d_law_151 (by decide) rfl ?_
        refine mv_aload_n (pc := 153) B d_law_153 rfl 3 rfl ?_
        refine mv_aload_n (pc := 154) B d_law_154 rfl 5 rfl ?_
        refine mv_iload (pc := 155) B d_law_155 1 rfl ?_
        refine mv_iconst (pc := 157) (v := 1) B d_law_157 (by decide) ?_
        refine mv_iadd (pc := 158) B d_law_158 ?_
        refine mv_sld (pc := 159) B hX hb hbA f1 d_law_159 ?_
        refine mv_aload_n (pc := 160) B d_law_160 rfl 5 rfl ?_
        refine mv_iload (pc := 161) B d_law_161 1 rfl ?_
        refine mv_iconst (pc := 163) (v := 2) B d_law_163 (by decide) ?_
        refine mv_iadd (pc := 164) B d_law_164 ?_
        refine mv_sld (pc := 165) B hX hb hbA f2 d_law_165 ?_
        refine mv_aload_n (pc := 166) B d_law_166 rfl 5 rfl ?_
        refine mv_iload (pc := 167) B d_law_167 1 rfl ?_
        refine mv_iconst (pc := 169) (v := 3) B d_law_169 (by decide) ?_
        refine mv_iadd (pc := 170) B d_law_170 ?_
        refine mv_sld (pc := 171) B hX hb hbA f3 d_law_171 ?_
        refine mv_aload_n (pc := 172) B d_law_172 rfl 5 rfl ?_
        refine mv_iload (pc := 173) B d_law_173 1 rfl ?_
        refine mv_iconst (pc := 175) (v := 4) B d_law_175 (by decide) ?_
        refine mv_iadd (pc := 176) B d_law_176 ?_
        refine mv_sld (pc := 177) B hX hb hbA f4 d_law_177 ?_
        refine mv_aload_n (pc := 178) B d_law_178 rfl 5 rfl ?_
        refine mv_iload (pc := 179) B d_law_179 1 rfl ?_
        refine mv_iconst (pc := 181) (v := 5) B d_law_181 (by decide) ?_
        refine mv_iadd (pc := 182) B d_law_182 ?_
        refine mv_sld (pc := 183) B hX hb hbA f5 d_law_183 ?_
        refine mv_callVG (pc := 184) (na := 5) (ci := 11) (C := R_Model) (o := 70) B (mKt_ok sk sv) hNs rfl rfl (w_Model_feed l B.2.2.2.2.2.1 _ _ _ _ _ _ k9 hMJ (by omega)) rfl (ma_goodc kc_Model_feed) (B.2.2.2.1 _ k_2094) (B.2.2.2.1 _ k_2095) (B.2.2.2.1 _ k_2096) (B.2.2.2.1 _ k_12) ⟨by decide +kernel, by decide +kernel, by decide +kernel⟩ rfl d_law_184 rfl (Nat.le_of_ble_eq_true rfl) ⟨by decide, by decide⟩ ⟨Nat.le_trans (Nat.add_le_add_right (Nat.add_le_add_right hCS.1 _) _) (by decide), Nat.le_trans (Nat.add_le_add_right (Nat.add_le_add_right hCS.2 _) _) (by decide)⟩ (fun x9 τ9 h9 => by obtain ⟨_, h9, _⟩ := h9; cases h9) (fun w184 σ184 h9 => ?_)
        obtain ⟨v184, h8, h9⟩ := h9
        cases h8
        obtain ⟨⟨hMM, hMJ, hv, hthr, hE7, hMQ⟩, hRK⟩ := h9
        have hWK := hWK.m hMM hRK
        have hLI := hLI.mm hMM hMJ.hm
        have hTE := hTE.fd hG hE1 hMM hE7
        have hCQ := hCQ.m hMM hMQ
        refine mv_istore (pc := 187) B d_law_187 (by decide) rfl ?_
        refine mv_goto (pc := 189) (tgt := 715) B d_law_189 rfl ?_
        refine mv_lpick [2, 3, 4, 5, 6] rfl ?_
        exact j743 _ _ _ (k9 + 20) _ _ B hge hLI hMJ hTE hCQ hWK (by omega) (hBD.up (by first | exact Nat.le_refl _ | exact Nat.le_succ _) (by first | exact Nat.le_refl _ | exact Nat.le_add_right _ 6))
      refine ⟨fun h40 => ?_, fun h40n1 => ?_⟩
      · skip
        refine mv_aload_n (pc := 192) B d_law_192 rfl 3 rfl ?_
        refine mv_aload_n (pc := 193) B d_law_193 rfl 4 rfl ?_
        refine mv_iload (pc := 194) B d_law_194 0 rfl ?_
        refine mv_iconst (pc := 196) (v := 1) B d_law_196 (by decide) ?_
        refine mv_iadd (pc := 197) B d_law_197 ?_
        refine mv_sld (pc := 198) B hX hb hbA f1 d_law_198 ?_
        refine mv_aload_n (pc := 199) B d_law_199 rfl 1 rfl ?_
        refine mv_callSWG (pc := 200) (na := 3) B (mKt_ok sk sv) hNs (u_Law_end l B.2.2.2.2.2.1 _ hlt _ k9 hLI) rfl (ma_goodc kc_Law_end) (B.2.2.2.1 _ k_1696) (B.2.2.2.1 _ k_1697) (B.2.2.2.1 _ k_0) ⟨by decide +kernel, by decide +kernel, by decide +kernel⟩ rfl d_law_200 rfl (Nat.le_of_ble_eq_true rfl) ⟨by decide, by decide⟩ ⟨Nat.le_trans (Nat.add_le_add_right hCS.1 _) (by decide), Nat.le_trans (Nat.add_le_add_right hCS.2 _) (by decide)⟩ (fun x9 τ9 h9 => by obtain ⟨_, h9, _⟩ := h9; cases h9) (fun w200 σ200 h9 => ?_)
        obtain ⟨v200, h8, h9⟩ := h9
        cases h8
        obtain ⟨hG, hLI, hD⟩ := h9
        have hWK := hWK.c hG.1.1.1 hG.1.2 hG.2.l
        obtain ⟨hG, -⟩ := hG
        have hMJ := hMJ.go hG.1.1 hLI.hm
        have hTE := hTE.go hG.1
        have hCQ := hCQ.c hG.1.1 hG.2
        refine mv_istore (pc := 203) B d_law_203 (by decide) rfl ?_
        refine mv_aload_n (pc := 205) B d_law_205 rfl 3 rfl ?_
        refine mv_aload_n (pc := 206) B d_law_206 rfl 5 rfl ?_
        refine mv_iload (pc := 207) B d_law_207 1 rfl ?_
        refine mv_iconst (pc := 209) (v := 1) B d_law_209 (by decide) ?_
        refine mv_iadd (pc := 210) B d_law_210 ?_
        refine mv_sld (pc := 211) B hX hb hbA f1 d_law_211 ?_
        refine mv_callVG (pc := 212) (na := 1) (ci := 11) (C := R_Model) (o := 70) B (mKt_ok sk sv) hNs rfl rfl (w_Model_end l B.2.2.2.2.2.1 _ _ k9 hMJ (by omega)) rfl (ma_goodc kc_Model_end) (B.2.2.2.1 _ k_2098) (B.2.2.2.1 _ k_2099) (B.2.2.2.1 _ k_2100) (B.2.2.2.1 _ k_12) ⟨by decide +kernel, by decide +kernel, by decide +kernel⟩ rfl d_law_212 rfl (Nat.le_of_ble_eq_true rfl) ⟨by decide, by decide⟩ ⟨Nat.le_trans (Nat.add_le_add_right (Nat.add_le_add_right hCS.1 _) _) (by decide), Nat.le_trans (Nat.add_le_add_right (Nat.add_le_add_right hCS.2 _) _) (by decide)⟩ (fun x9 τ9 h9 => by obtain ⟨_, h9, _⟩ := h9; cases h9) (fun w212 σ212 h9 => ?_)
        obtain ⟨v212, h8, h9⟩ := h9
        cases h8
        obtain ⟨⟨hMM, hMJ⟩, hRK⟩ := h9
        have hWK := hWK.m hMM.1.1 hRK
        have hTE := hTE.m7 hMM.1
        have hLI := hLI.mm hMM.1.1 hMJ.hm
        have hCQ := hCQ.m hMM.1.1 hMM.2
        refine mv_istore (pc := 215) B d_law_215 (by decide) rfl ?_
        refine mv_goto (pc := 217) (tgt := 715) B d_law_217 rfl ?_
        refine mv_lpick [2, 3, 4, 5, 6] rfl ?_
        exact j743 _ _ _ _ _ _ B hge hLI hMJ hTE hCQ hWK (by have h7 := law_if (n := xs (i9 + 1).toNatClampNeg) (k := k9); omega) (hBD.up (by first | exact Nat.le_refl _ | exact Nat.le_succ _) (by first | exact Nat.le_refl _ | exact Nat.le_add_right _ 6))
      refine ⟨fun h40 => ?_, fun h40n2 => ?_⟩
      · skip
        refine mv_aload_n (pc := 220) B d_law_220 rfl 3 rfl ?_
        refine mv_aload_n (pc := 221) B d_law_221 rfl 1 rfl ?_
        refine mv_callSWG (pc := 222) (na := 2) B (mKt_ok sk sv) hNs (u_Law_build l B.2.2.2.2.2.1 _ hlt k9 hLI (by omega)) rfl (ma_goodc kc_Law_build) (B.2.2.2.1 _ k_1709) (B.2.2.2.1 _ k_1710) (B.2.2.2.1 _ k_0) ⟨by decide +kernel, by decide +kernel, by decide +kernel⟩ rfl d_law_222 rfl (Nat.le_of_ble_eq_true rfl) ⟨by decide, by decide⟩ ⟨Nat.le_trans (Nat.add_le_add_right hCS.1 _) (by decide), Nat.le_trans (Nat.add_le_add_right hCS.2 _) (by decide)⟩ (fun x9 τ9 h9 => by obtain ⟨_, h9, _⟩ := h9; cases h9) (fun w222 σ222 h9 => ?_)
        obtain ⟨v222, h8, h9⟩ := h9
        cases h8
        obtain ⟨hG, hLI, hBW, hKH, hBL⟩ := h9
        have hBW := hBW.toR hTE hG
        have hBL := hBL.toR hTE hG
        have hMJ := hMJ.go hG.1 hLI.hm
        have hTE := hTE.go hG
        refine mv_istore (pc := 225) B d_law_225 (by decide) rfl ?_
        refine mv_aload_n (pc := 227) B d_law_227 rfl 3 rfl ?_
        refine mv_callVG (pc := 228) (na := 0) (ci := 11) (C := R_Model) (o := 70) B (mKt_ok sk sv) hNs rfl rfl (w_Model_build l B.2.2.2.2.2.1 _ k9 hMJ (by omega) (hLI.b7 hTE)) rfl (ma_goodc kc_Model_build) (B.2.2.2.1 _ k_2102) (B.2.2.2.1 _ k_2103) (B.2.2.2.1 _ k_2104) (B.2.2.2.1 _ k_12) ⟨by decide +kernel, by decide +kernel, by decide +kernel⟩ rfl d_law_228 rfl (Nat.le_of_ble_eq_true rfl) ⟨by decide, by decide⟩ ⟨Nat.le_trans (Nat.add_le_add_right (Nat.add_le_add_right hCS.1 _) _) (by decide), Nat.le_trans (Nat.add_le_add_right (Nat.add_le_add_right hCS.2 _) _) (by decide)⟩ (fun x9 τ9 h9 => by obtain ⟨_, h9, _⟩ := h9; cases h9) (fun w228 σ228 h9 => ?_)
        obtain ⟨v228, h8, h9⟩ := h9
        cases h8
        obtain ⟨⟨hMM, hMJ, hBM, hKB⟩, hBZ⟩ := h9
        have hWK := hWK.bd hG hBW hKH hBL hMM.1 hBM hKB hBZ
        have hCQ := hCQ.bd hG hBW hKH hMM.1 hBM hKB
        have hTE := hTE.m7 hMM
        have hLI := hLI.mm hMM.1 hMJ.hm
        refine mv_istore (pc := 231) B d_law_231 (by decide) rfl ?_
        refine mv_goto (pc := 233) (tgt := 715) B d_law_233 rfl ?_
        refine mv_lpick [2, 3, 4, 5, 6] rfl ?_
        exact j743 _ _ _ 0 _ _ B hge hLI hMJ hTE hCQ hWK (by omega) (hBD.up (by first | exact Nat.le_refl _ | exact Nat.le_succ _) (by first | exact Nat.le_refl _ | exact Nat.le_add_right _ 6))
      refine ⟨fun h40 => ?_, fun h40n3 => ?_⟩
      · skip
        refine mv_aload_n (pc := 236) B d_law_236 rfl 3 rfl ?_
        have hBD0 := hBD
        rcases hBD with ⟨hx, hB1, hB2⟩ | ⟨hx, hB1, hB2⟩
        · subst hx
          have hBD := hBD0
          have hP : ∃ P R M, (P = 32 ∨ P = 48) ∧ LC [] σ P R M k9 := by
            rcases hLI with h | h | h
            · exact ⟨_, _, _, Or.inl rfl, h⟩
            · exact ⟨_, _, _, Or.inr rfl, h⟩
            · exact absurd h.1 (fun z => nomatch z)
          obtain ⟨P, R, M, hP, hC⟩ := hP
          rw [← mq_143] at B hNs ⊢
          refine mq_callV (pc := 237) (na := 0) (ci := 0) (C := R_Loom) (o := 0) B (mKt_ok sk sv) hNs (by decide) (by decide) rfl rfl (c_ship_new l B.2.2.2.2.2.1 hlt _ P R M k9 hP hC) rfl (ma_goodc kc_Loom_ship) (B.2.2.2.1 _ k_517) (B.2.2.2.1 _ k_518) (B.2.2.2.1 _ k_519) (B.2.2.2.1 _ k_1) ⟨by decide +kernel, by decide +kernel, by decide +kernel⟩ rfl d_law_237 rfl (Nat.le_of_ble_eq_true rfl) ⟨by decide, by decide⟩ ⟨Nat.le_trans (Nat.add_le_add_right hCS.1 _) (by decide), Nat.le_trans (Nat.add_le_add_right hCS.2 _) (by decide)⟩ (fun w237 al1 σ237 g1 B h9 => ?_)
          obtain ⟨v9, h8, hC, hGS, hv48, hSH, hLD⟩ := h9
          cases h8
          have hS9w : WS9 σ237 := WS9.of hWK (hGS.1 70 (by omega) (by omega)).1 hLD (LC48 hC)
          have hS9c : CS9 σ237 := CS9.gs hCQ hGS hC.2.2.1.2.2 hSH
          have hLI : LI me σ237 k9 := Or.inr (Or.inr ⟨rfl, hC⟩)
          have hMJ := hMJ.gs hGS hLI.hm
          have hTE := hTE.gs hGS
          have hNs : mKt sk sv (mv_A (mq dA D al1 161) s.heap.size) s s.heap := mq_K (mKt_ok sk sv) g1 (by decide) (mw_le (by decide)) hNs
          rw [mq_161] at B hNs ⊢
          rw [← g1.1 70 (by decide), ← g1.1 0 (by decide), ← g1.1 142 (by decide)]
          have hge : ∀ o, o < (mv_sh (mg dA D al1 me)).length → s.heap.size ≤ al1 o := law_ge g1 hge
          have hbA : ¬ mv_A (mg dA D al1 me) s.heap.size b := law_ba hge hb
          clear hP hC hGS
          refine mv_pop (pc := 240) B d_law_240 rfl ?_
          refine mv_aload_n (pc := 241) B d_law_241 rfl 2 rfl ?_
          refine mv_callVG (pc := 242) (na := 0) (ci := 11) (C := R_Model) (o := 70) B (mKt_ok sk sv) hNs rfl rfl (w_Model_ship l B.2.2.2.2.2.1 _ k9 hMJ) rfl (ma_goodc kc_Model_ship) (B.2.2.2.1 _ k_2345) (B.2.2.2.1 _ k_2346) (B.2.2.2.1 _ k_2347) (B.2.2.2.1 _ k_12) ⟨by decide +kernel, by decide +kernel, by decide +kernel⟩ rfl d_law_242 rfl (Nat.le_of_ble_eq_true rfl) ⟨by decide, by decide⟩ ⟨Nat.le_trans (Nat.add_le_add_right (Nat.add_le_add_right hCS.1 _) _) (by decide), Nat.le_trans (Nat.add_le_add_right (Nat.add_le_add_right hCS.2 _) _) (by decide)⟩ (fun x9 τ9 h9 => by obtain ⟨_, h9, _⟩ := h9; cases h9) (fun w242 σ242 h9 => ?_)
          obtain ⟨v242, h8, h9⟩ := h9
          cases h8
          obtain ⟨⟨h9, hw48, hr70, h1170⟩, hSZ⟩ := h9
          obtain ⟨hMM, hMJ⟩ := h9
          have hTE := hTE.m7 hMM
          have hLI := hLI.mm hMM.1 hMJ.hm
          have hCQ := CQq.sh hS9c hMM.1 hr70 h1170
          have hWK := WKq.sh hS9w hS9c hMM.1 hSZ hr70 h1170
          refine mv_pop (pc := 245) B d_law_245 rfl ?_
          refine mv_goto (pc := 246) (tgt := 715) B d_law_246 rfl ?_
          refine mv_lpick [0, 1, 2, 3, 4] rfl ?_
          exact j743 _ _ _ k9 _ _ B hge hLI hMJ hTE hCQ hWK (by omega) (Or.inr ⟨rfl, by show C9 + 18 + 0 ≤ _; omega, by show S9 + 28413 + 0 ≤ _; omega⟩)
        · subst hx
          have hBD := hBD0
          refine mv_callVG (pc := 237) (na := 0) (ci := 0) (C := R_Loom) (o := 0) B (mKt_ok sk sv) hNs rfl rfl (u_Loom_ship l B.2.2.2.2.2.1 _ hlt k9 hLI) rfl (ma_goodc kc_Loom_ship) (B.2.2.2.1 _ k_517) (B.2.2.2.1 _ k_518) (B.2.2.2.1 _ k_519) (B.2.2.2.1 _ k_1) ⟨by decide +kernel, by decide +kernel, by decide +kernel⟩ rfl d_law_237 rfl (Nat.le_of_ble_eq_true rfl) ⟨by decide, by decide⟩ ⟨Nat.le_trans (Nat.add_le_add_right hCS.1 _) (by decide), Nat.le_trans (Nat.add_le_add_right hCS.2 _) (by decide)⟩ (fun x9 τ9 h9 => by obtain ⟨_, h9, _⟩ := h9; cases h9) (fun w237 σ237 h9 => ?_)
          obtain ⟨v237, h8, h9⟩ := h9
          cases h8
          obtain ⟨h9, hv48, hr64, hsh9, hLD⟩ := h9
          obtain ⟨hG, hLI⟩ := h9
          have hS9w : WS9 σ237 := WS9.of hWK (hG.1 70 (by omega) (by omega)).1 hLD (cq_me hLI hr64).2
          have hMJ := hMJ.go hG.1 hLI.hm
          have hTE := hTE.go hG
          have hS9c := CS9.go hCQ hG hr64 hsh9
          refine mv_pop (pc := 240) B d_law_240 rfl ?_
          refine mv_aload_n (pc := 241) B d_law_241 rfl 2 rfl ?_
          refine mv_callVG (pc := 242) (na := 0) (ci := 11) (C := R_Model) (o := 70) B (mKt_ok sk sv) hNs rfl rfl (w_Model_ship l B.2.2.2.2.2.1 _ k9 hMJ) rfl (ma_goodc kc_Model_ship) (B.2.2.2.1 _ k_2345) (B.2.2.2.1 _ k_2346) (B.2.2.2.1 _ k_2347) (B.2.2.2.1 _ k_12) ⟨by decide +kernel, by decide +kernel, by decide +kernel⟩ rfl d_law_242 rfl (Nat.le_of_ble_eq_true rfl) ⟨by decide, by decide⟩ ⟨Nat.le_trans (Nat.add_le_add_right (Nat.add_le_add_right hCS.1 _) _) (by decide), Nat.le_trans (Nat.add_le_add_right (Nat.add_le_add_right hCS.2 _) _) (by decide)⟩ (fun x9 τ9 h9 => by obtain ⟨_, h9, _⟩ := h9; cases h9) (fun w242 σ242 h9 => ?_)
          obtain ⟨v242, h8, h9⟩ := h9
          cases h8
          obtain ⟨⟨h9, hw48, hr70, h1170⟩, hSZ⟩ := h9
          obtain ⟨hMM, hMJ⟩ := h9
          have hTE := hTE.m7 hMM
          have hLI := hLI.mm hMM.1 hMJ.hm
          have hCQ := CQq.sh hS9c hMM.1 hr70 h1170
          have hWK := WKq.sh hS9w hS9c hMM.1 hSZ hr70 h1170
          refine mv_pop (pc := 245) B d_law_245 rfl ?_
          refine mv_goto (pc := 246) (tgt := 715) B d_law_246 rfl ?_
          refine mv_lpick [0, 1, 2, 3, 4] rfl ?_
          exact j743 _ _ _ k9 _ _ B hge hLI hMJ hTE hCQ hWK (by omega) (hBD.up (by first | exact Nat.le_refl _ | exact Nat.le_succ _) (by first | exact Nat.le_refl _ | exact Nat.le_add_right _ 6))
      refine ⟨fun h40 => ?_, fun h40n4 => ?_⟩
      · skip
        refine mv_aload_n (pc := 249) B d_law_249 rfl 3 rfl ?_
        refine mv_aload_n (pc := 250) B d_law_250 rfl 4 rfl ?_
        refine mv_iload (pc := 251) B d_law_251 0 rfl ?_
        refine mv_iconst (pc := 253) (v := 1) B d_law_253 (by decide) ?_
        refine mv_iadd (pc := 254) B d_law_254 ?_
        refine mv_sld (pc := 255) B hX hb hbA f1 d_law_255 ?_
        refine mv_aload_n (pc := 256) B d_law_256 rfl 1 rfl ?_
        refine mv_callSWG (pc := 257) (na := 3) B (mKt_ok sk sv) hNs (u_Law_fault l B.2.2.2.2.2.1 _ hlt _ k9 hLI) rfl (ma_goodc kc_Law_fault) (B.2.2.2.1 _ k_1732) (B.2.2.2.1 _ k_1733) (B.2.2.2.1 _ k_0) ⟨by decide +kernel, by decide +kernel, by decide +kernel⟩ rfl d_law_257 rfl (Nat.le_of_ble_eq_true rfl) ⟨by decide, by decide⟩ ⟨Nat.le_trans (Nat.add_le_add_right hCS.1 _) (by decide), Nat.le_trans (Nat.add_le_add_right hCS.2 _) (by decide)⟩ (fun x9 τ9 h9 => by obtain ⟨_, h9, _⟩ := h9; cases h9) (fun w257 σ257 h9 => ?_)
        obtain ⟨v257, h8, h9⟩ := h9
        cases h8
        obtain ⟨hG, hLI⟩ := h9
        have hWK := hWK.c hG.1.1.1 hG.1.2 hG.2.l
        obtain ⟨hG, -⟩ := hG
        have hMJ := hMJ.go hG.1.1 hLI.hm
        have hTE := hTE.go hG.1
        have hCQ := hCQ.c hG.1.1 hG.2
        refine mv_istore (pc := 260) B d_law_260 (by decide) rfl ?_
        refine mv_aload_n (pc := 262) B d_law_262 rfl 3 rfl ?_
        refine mv_aload_n (pc := 263) B d_law_263 rfl 5 rfl ?_
        refine mv_iload (pc := 264) B d_law_264 1 rfl ?_
        refine mv_iconst (pc := 266) (v := 1) B d_law_266 (by decide) ?_
        refine mv_iadd (pc := 267) B d_law_267 ?_
        refine mv_sld (pc := 268) B hX hb hbA f1 d_law_268 ?_
        refine mv_callVG (pc := 269) (na := 1) (ci := 11) (C := R_Model) (o := 70) B (mKt_ok sk sv) hNs rfl rfl (w_Model_fault l B.2.2.2.2.2.1 _ _ k9 hMJ) rfl (ma_goodc kc_Model_fault) (B.2.2.2.1 _ k_2349) (B.2.2.2.1 _ k_2350) (B.2.2.2.1 _ k_2351) (B.2.2.2.1 _ k_12) ⟨by decide +kernel, by decide +kernel, by decide +kernel⟩ rfl d_law_269 rfl (Nat.le_of_ble_eq_true rfl) ⟨by decide, by decide⟩ ⟨Nat.le_trans (Nat.add_le_add_right (Nat.add_le_add_right hCS.1 _) _) (by decide), Nat.le_trans (Nat.add_le_add_right (Nat.add_le_add_right hCS.2 _) _) (by decide)⟩ (fun x9 τ9 h9 => by obtain ⟨_, h9, _⟩ := h9; cases h9) (fun w269 σ269 h9 => ?_)
        obtain ⟨v269, h8, h9⟩ := h9
        cases h8
        obtain ⟨⟨hMM, hMJ⟩, hRK⟩ := h9
        have hWK := hWK.m hMM.1.1 hRK
        have hTE := hTE.m7 hMM.1
        have hLI := hLI.mm hMM.1.1 hMJ.hm
        have hCQ := hCQ.m hMM.1.1 hMM.2
        refine mv_istore (pc := 272) B d_law_272 (by decide) rfl ?_
        refine mv_goto (pc := 274) (tgt := 715) B d_law_274 rfl ?_
        refine mv_lpick [2, 3, 4, 5, 6] rfl ?_
        exact j743 _ _ _ k9 _ _ B hge hLI hMJ hTE hCQ hWK (by omega) (hBD.up (by first | exact Nat.le_refl _ | exact Nat.le_succ _) (by first | exact Nat.le_refl _ | exact Nat.le_add_right _ 6))
      refine ⟨fun h40 => ?_, fun h40n5 => ?_⟩
      · skip
        refine mv_aload_n (pc := 277) B d_law_277 rfl 3 rfl ?_
        refine mv_aload_n (pc := 278) B d_law_278 rfl 4 rfl ?_
        refine mv_iload (pc := 279) B d_law_279 0 rfl ?_
        refine mv_iconst (pc := 281) (v := 1) B d_law_281 (by decide) ?_
        refine mv_iadd (pc := 282) B d_law_282 ?_
        refine mv_sld (pc := 283) B hX hb hbA f1 d_law_283 ?_
        refine mv_i2l (pc := 284) B d_law_284 ?_
        refine mv_bipush (pc := 285) (v := 32) B d_law_285 (by decide) ?_
        refine mv_lshl (pc := 287) B d_law_287 ?_
        refine mv_aload_n (pc := 288) B d_law_288 rfl 4 rfl ?_
        refine mv_iload (pc := 289) B d_law_289 0 rfl ?_
        refine mv_iconst (pc := 291) (v := 2) B d_law_291 (by decide) ?_
        refine mv_iadd (pc := 292) B d_law_292 ?_
        refine mv_sld (pc := 293) B hX hb hbA f2 d_law_293 ?_
        refine mv_i2l (pc := 294) B d_law_294 ?_
        refine mv_ldc2 (pc := 295) (v := 4294967295) B (B.2.2.2.1 _ k_2611) d_law_295 ?_
        refine mv_land (pc := 298) B d_law_298 ?_
        refine mv_lor (pc := 299) B d_law_299 ?_
        refine mv_callVG (pc := 300) (na := 1) (ci := 0) (C := R_Loom) (o := 0) B (mKt_ok sk sv) hNs rfl rfl (w_Loom_decode l B.2.2.2.2.2.1 _ _ k9 hLI hCQ hWK) rfl (ma_goodc kc_Loom_decode) (B.2.2.2.1 _ k_1556) (B.2.2.2.1 _ k_1557) (B.2.2.2.1 _ k_1558) (B.2.2.2.1 _ k_1) ⟨by decide +kernel, by decide +kernel, by decide +kernel⟩ rfl d_law_300 rfl (Nat.le_of_ble_eq_true rfl) ⟨by decide, by decide⟩ ⟨Nat.le_trans (Nat.add_le_add_right hCS.1 _) (by decide), Nat.le_trans (Nat.add_le_add_right hCS.2 _) (by decide)⟩ (fun x9 τ9 h9 => by obtain ⟨_, h9, _⟩ := h9; cases h9) (fun w300 σ300 h9 => ?_)
        obtain ⟨v300, h8, h9⟩ := h9
        cases h8
        obtain ⟨hG, hLI⟩ := h9
        have hWK := hWK.c hG.1.1.1 hG.1.2 hG.2
        obtain ⟨hG, -⟩ := hG
        have hMJ := hMJ.go hG.1.1 hLI.hm
        have hTE := hTE.go hG.1
        have hCQ := hCQ.c hG.1.1 hG.2
        refine mv_pop (pc := 303) B d_law_303 rfl ?_
        refine mv_aload_n (pc := 304) B d_law_304 rfl 2 rfl ?_
        refine mv_aload_n (pc := 305) B d_law_305 rfl 4 rfl ?_
        refine mv_iload (pc := 306) B d_law_306 0 rfl ?_
        refine mv_iconst (pc := 308) (v := 1) B d_law_308 (by decide) ?_
        refine mv_iadd (pc := 309) B d_law_309 ?_
        refine mv_sld (pc := 310) B hX hb hbA f1 d_law_310 ?_
        refine mv_i2l (pc := 311) B d_law_311 ?_
        refine mv_bipush (pc := 312) (v := 32) B d_law_312 (by decide) ?_
        refine mv_lshl (pc := 314) B d_law_314 ?_
        refine mv_aload_n (pc := 315) B d_law_315 rfl 4 rfl ?_
        refine mv_iload (pc := 316) B d_law_316 0 rfl ?_
        refine mv_iconst (pc := 318) (v := 2) B d_law_318 (by decide) ?_
        refine mv_iadd (pc := 319) B d_law_319 ?_
        refine mv_sld (pc := 320) B hX hb hbA f2 d_law_320 ?_
        refine mv_i2l (pc := 321) B d_law_321 ?_
        refine mv_ldc2 (pc := 322) (v := 4294967295) B (B.2.2.2.1 _ k_2611) d_law_322 ?_
        refine mv_land (pc := 325) B d_law_325 ?_
        refine mv_lor (pc := 326) B d_law_326 ?_
        refine mv_callVG (pc := 327) (na := 1) (ci := 11) (C := R_Model) (o := 70) B (mKt_ok sk sv) hNs rfl rfl (w_Model_decode l B.2.2.2.2.2.1 _ _ k9 hMJ hWK) rfl (ma_goodc kc_Model_decode) (B.2.2.2.1 _ k_2353) (B.2.2.2.1 _ k_2354) (B.2.2.2.1 _ k_2355) (B.2.2.2.1 _ k_12) ⟨by decide +kernel, by decide +kernel, by decide +kernel⟩ rfl d_law_327 rfl (Nat.le_of_ble_eq_true rfl) ⟨by decide, by decide⟩ ⟨Nat.le_trans (Nat.add_le_add_right (Nat.add_le_add_right hCS.1 _) _) (by decide), Nat.le_trans (Nat.add_le_add_right (Nat.add_le_add_right hCS.2 _) _) (by decide)⟩ (fun x9 τ9 h9 => by obtain ⟨_, h9, _⟩ := h9; cases h9) (fun w327 σ327 h9 => ?_)
        obtain ⟨v327, h8, h9⟩ := h9
        cases h8
        obtain ⟨⟨hMM, hMJ⟩, hRK⟩ := h9
        have hWK := hWK.m hMM.1.1 hRK
        have hTE := hTE.m7 hMM.1
        have hLI := hLI.mm hMM.1.1 hMJ.hm
        have hCQ := hCQ.m hMM.1.1 hMM.2
        refine mv_pop (pc := 330) B d_law_330 rfl ?_
        refine mv_goto (pc := 331) (tgt := 715) B d_law_331 rfl ?_
        refine mv_lpick [0, 1, 2, 3, 4] rfl ?_
        exact j743 _ _ _ k9 _ _ B hge hLI hMJ hTE hCQ hWK (by omega) (hBD.up (by first | exact Nat.le_refl _ | exact Nat.le_succ _) (by first | exact Nat.le_refl _ | exact Nat.le_add_right _ 6))
      refine ⟨fun h40 => ?_, fun h40n6 => ?_⟩
      · skip
        refine mv_aload_n (pc := 334) B d_law_334 rfl 3 rfl ?_
        refine mv_aload_n (pc := 335) B d_law_335 rfl 4 rfl ?_
        refine mv_iload (pc := 336) B d_law_336 0 rfl ?_
        refine mv_iconst (pc := 338) (v := 1) B d_law_338 (by decide) ?_
        refine mv_iadd (pc := 339) B d_law_339 ?_
        refine mv_sld (pc := 340) B hX hb hbA f1 d_law_340 ?_
        refine mv_aload_n (pc := 341) B d_law_341 rfl 4 rfl ?_
        refine mv_iload (pc := 342) B d_law_342 0 rfl ?_
        refine mv_iconst (pc := 344) (v := 2) B d_law_344 (by decide) ?_
        refine mv_iadd (pc := 345) B d_law_345 ?_
        refine mv_sld (pc := 346) B hX hb hbA f2 d_law_346 ?_
        refine mv_aload_n (pc := 347) B d_law_347 rfl 4 rfl ?_
        refine mv_iload (pc := 348) B d_law_348 0 rfl ?_
        refine mv_iconst (pc := 350) (v := 3) B d_law_350 (by decide) ?_
        refine mv_iadd (pc := 351) B d_law_351 ?_
        refine mv_sld (pc := 352) B hX hb hbA f3 d_law_352 ?_
        refine mv_i2l (pc := 353) B d_law_353 ?_
        refine mv_bipush (pc := 354) (v := 32) B d_law_354 (by decide) ?_
        refine mv_lshl (pc := 356) B d_law_356 ?_
        refine mv_aload_n (pc := 357) B d_law_357 rfl 4 rfl ?_
        refine mv_iload (pc := 358) B d_law_358 0 rfl ?_
        refine mv_iconst (pc := 360) (v := 4) B d_law_360 (by decide) ?_
        refine mv_iadd (pc := 361) B d_law_361 ?_
        refine mv_sld (pc := 362) B hX hb hbA f4 d_law_362 ?_
        refine mv_i2l (pc := 363) B d_law_363 ?_
        refine mv_ldc2 (pc := 364) (v := 4294967295) B (B.2.2.2.1 _ k_2611) d_law_364 ?_
        refine mv_land (pc := 367) B d_law_367 ?_
        refine mv_lor (pc := 368) B d_law_368 ?_
        refine mv_aload_n (pc := 369) B d_law_369 rfl 1 rfl ?_
        refine mv_callSWG (pc := 370) (na := 5) B (mKt_ok sk sv) hNs (u_Law_field l B.2.2.2.2.2.1 _ hlt _ _ _ k9 hLI) rfl (ma_goodc kc_Law_field) (B.2.2.2.1 _ k_1739) (B.2.2.2.1 _ k_1740) (B.2.2.2.1 _ k_0) ⟨by decide +kernel, by decide +kernel, by decide +kernel⟩ rfl d_law_370 rfl (Nat.le_of_ble_eq_true rfl) ⟨by decide, by decide⟩ ⟨Nat.le_trans (Nat.add_le_add_right hCS.1 _) (by decide), Nat.le_trans (Nat.add_le_add_right hCS.2 _) (by decide)⟩ (fun x9 τ9 h9 => by obtain ⟨_, h9, _⟩ := h9; cases h9) (fun w370 σ370 h9 => ?_)
        obtain ⟨v370, h8, h9⟩ := h9
        cases h8
        obtain ⟨h9, -⟩ := h9
        obtain ⟨hG, hLI⟩ := h9
        have hWK := hWK.c hG.1.1.1 hG.1.2 hG.2.l
        obtain ⟨hG, -⟩ := hG
        have hMJ := hMJ.go hG.1.1 hLI.hm
        have hTE := hTE.go hG.1
        have hCQ := hCQ.c hG.1.1 hG.2
        refine mv_istore (pc := 373) B d_law_373 (by decide) rfl ?_
        refine mv_aload_n (pc := 375) B d_law_375 rfl 3 rfl ?_
        refine mv_aload_n (pc := 376) B d_law_376 rfl 5 rfl ?_
        refine mv_iload (pc := 377) B d_law_377 1 rfl ?_
        refine mv_iconst (pc := 379) (v := 1) B d_law_379 (by decide) ?_
        refine mv_iadd (pc := 380) B d_law_380 ?_
        refine mv_sld (pc := 381) B hX hb hbA f1 d_law_381 ?_
        refine mv_aload_n (pc := 382) B d_law_382 rfl 5 rfl ?_
        refine mv_iload (pc := 383) B d_law_383 1 rfl ?_
        refine mv_iconst (pc := 385) (v := 2) B d_law_385 (by decide) ?_
        refine mv_iadd (pc := 386) B d_law_386 ?_
        refine mv_sld (pc := 387) B hX hb hbA f2 d_law_387 ?_
        refine mv_aload_n (pc := 388) B d_law_388 rfl 5 rfl ?_
        refine mv_iload (pc := 389) B d_law_389 1 rfl ?_
        refine mv_iconst (pc := 391) (v := 3) B d_law_391 (by decide) ?_
        refine mv_iadd (pc := 392) B d_law_392 ?_
        refine mv_sld (pc := 393) B hX hb hbA f3 d_law_393 ?_
        refine mv_i2l (pc := 394) B d_law_394 ?_
        refine mv_bipush (pc := 395) (v := 32) B d_law_395 (by decide) ?_
        refine mv_lshl (pc := 397) B d_law_397 ?_
        refine mv_aload_n (pc := 398) B d_law_398 rfl 5 rfl ?_
        refine mv_iload (pc := 399) B d_law_399 1 rfl ?_
        refine mv_iconst (pc := 401) (v := 4) B d_law_401 (by decide) ?_
        refine mv_iadd (pc := 402) B d_law_402 ?_
        refine mv_sld (pc := 403) B hX hb hbA f4 d_law_403 ?_
        refine mv_i2l (pc := 404) B d_law_404 ?_
        refine mv_ldc2 (pc := 405) (v := 4294967295) B (B.2.2.2.1 _ k_2611) d_law_405 ?_
        refine mv_land (pc := 408) B d_law_408 ?_
        refine mv_lor (pc := 409) B d_law_409 ?_
        refine mv_callVG (pc := 410) (na := 3) (ci := 11) (C := R_Model) (o := 70) B (mKt_ok sk sv) hNs rfl rfl (w_Model_field l B.2.2.2.2.2.1 _ _ _ _ k9 hMJ) rfl (ma_goodc kc_Model_field) (B.2.2.2.1 _ k_2382) (B.2.2.2.1 _ k_2383) (B.2.2.2.1 _ k_2384) (B.2.2.2.1 _ k_12) ⟨by decide +kernel, by decide +kernel, by decide +kernel⟩ rfl d_law_410 rfl (Nat.le_of_ble_eq_true rfl) ⟨by decide, by decide⟩ ⟨Nat.le_trans (Nat.add_le_add_right (Nat.add_le_add_right hCS.1 _) _) (by decide), Nat.le_trans (Nat.add_le_add_right (Nat.add_le_add_right hCS.2 _) _) (by decide)⟩ (fun x9 τ9 h9 => by obtain ⟨_, h9, _⟩ := h9; cases h9) (fun w410 σ410 h9 => ?_)
        obtain ⟨v410, h8, h9⟩ := h9
        cases h8
        obtain ⟨⟨hMM, hMJ⟩, hRK⟩ := h9
        have hWK := hWK.m hMM.1.1 hRK
        have hTE := hTE.m7 hMM.1
        have hLI := hLI.mm hMM.1.1 hMJ.hm
        have hCQ := hCQ.m hMM.1.1 hMM.2
        refine mv_lstore (pc := 413) B d_law_413 (by decide) rfl ?_
        refine mv_goto (pc := 415) (tgt := 715) B d_law_415 rfl ?_
        refine mv_lpick [2, 3, 4, 5, 6] rfl ?_
        exact j743 _ _ _ k9 _ _ B hge hLI hMJ hTE hCQ hWK (by omega) (hBD.up (by first | exact Nat.le_refl _ | exact Nat.le_succ _) (by first | exact Nat.le_refl _ | exact Nat.le_add_right _ 6))
      refine ⟨fun h40 => ?_, fun h40n7 => ?_⟩
      · skip
        refine mv_aload_n (pc := 418) B d_law_418 rfl 3 rfl ?_
        refine mv_aload_n (pc := 419) B d_law_419 rfl 4 rfl ?_
        refine mv_iload (pc := 420) B d_law_420 0 rfl ?_
        refine mv_iconst (pc := 422) (v := 1) B d_law_422 (by decide) ?_
        refine mv_iadd (pc := 423) B d_law_423 ?_
        refine mv_sld (pc := 424) B hX hb hbA f1 d_law_424 ?_
        refine mv_aload_n (pc := 425) B d_law_425 rfl 4 rfl ?_
        refine mv_iload (pc := 426) B d_law_426 0 rfl ?_
        refine mv_iconst (pc := 428) (v := 2) B d_law_428 (by decide) ?_
        refine mv_iadd (pc := 429) B d_law_429 ?_
        refine mv_sld (pc := 430) B hX hb hbA f2 d_law_430 ?_
        refine mv_aload_n (pc := 431) B d_law_431 rfl 4 rfl ?_
        refine mv_iload (pc := 432) B d_law_432 0 rfl ?_
        refine mv_iconst (pc := 434) (v := 3) B d_law_434 (by decide) ?_
        refine mv_iadd (pc := 435) B d_law_435 ?_
        refine mv_sld (pc := 436) B hX hb hbA f3 d_law_436 ?_
        refine mv_i2l (pc := 437) B d_law_437 ?_
        refine mv_bipush (pc := 438) (v := 32) B d_law_438 (by decide) ?_
        refine mv_lshl (pc := 440) B d_law_440 ?_
        refine mv_aload_n (pc := 441) B d_law_441 rfl 4 rfl ?_
        refine mv_iload (pc := 442) B d_law_442 0 rfl ?_
        refine mv_iconst (pc := 444) (v := 4) B d_law_444 (by decide) ?_
        refine mv_iadd (pc := 445) B d_law_445 ?_
        refine mv_sld (pc := 446) B hX hb hbA f4 d_law_446 ?_
        refine mv_i2l (pc := 447) B d_law_447 ?_
        refine mv_ldc2 (pc := 448) (v := 4294967295) B (B.2.2.2.1 _ k_2611) d_law_448 ?_
        refine mv_land (pc := 451) B d_law_451 ?_
        refine mv_lor (pc := 452) B d_law_452 ?_
        refine mv_callSWG (pc := 453) (na := 4) B (mKt_ok sk sv) hNs (w_Law_poke l B.2.2.2.2.2.1 _ hlt _ _ _ k9 hLI hCQ hWK) rfl (ma_goodc kc_Law_poke) (B.2.2.2.1 _ k_1767) (B.2.2.2.1 _ k_1768) (B.2.2.2.1 _ k_0) ⟨by decide +kernel, by decide +kernel, by decide +kernel⟩ rfl d_law_453 rfl (Nat.le_of_ble_eq_true rfl) ⟨by decide, by decide⟩ ⟨Nat.le_trans (Nat.add_le_add_right hCS.1 _) (by decide), Nat.le_trans (Nat.add_le_add_right hCS.2 _) (by decide)⟩ (fun x9 τ9 h9 => by obtain ⟨_, h9, _⟩ := h9; cases h9) (fun w453 σ453 h9 => ?_)
        obtain ⟨v453, h8, h9⟩ := h9
        cases h8
        obtain ⟨⟨hG, hLI⟩, hPV, hWP⟩ := h9
        have hMJ := hMJ.go hG.1.1 hLI.hm
        have hTE := hTE.go hG.1
        have hCQ := hCQ.c hG.1.1 hG.2
        refine mv_istore (pc := 456) B d_law_456 (by decide) rfl ?_
        refine mv_aload_n (pc := 458) B d_law_458 rfl 3 rfl ?_
        refine mv_aload_n (pc := 459) B d_law_459 rfl 5 rfl ?_
        refine mv_iload (pc := 460) B d_law_460 1 rfl ?_
        refine mv_iconst (pc := 462) (v := 1) B d_law_462 (by decide) ?_
        refine mv_iadd (pc := 463) B d_law_463 ?_
        refine mv_sld (pc := 464) B hX hb hbA f1 d_law_464 ?_
        refine mv_aload_n (pc := 465) B d_law_465 rfl 5 rfl ?_
        refine mv_iload (pc := 466) B d_law_466 1 rfl ?_
        refine mv_iconst (pc := 468) (v := 2) B d_law_468 (by decide) ?_
        refine mv_iadd (pc := 469) B d_law_469 ?_
        refine mv_sld (pc := 470) B hX hb hbA f2 d_law_470 ?_
        refine mv_aload_n (pc := 471) B d_law_471 rfl 5 rfl ?_
        refine mv_iload (pc := 472) B d_law_472 1 rfl ?_
        refine mv_iconst (pc := 474) (v := 3) B d_law_474 (by decide) ?_
        refine mv_iadd (pc := 475) B d_law_475 ?_
        refine mv_sld (pc := 476) B hX hb hbA f3 d_law_476 ?_
        refine mv_i2l (pc := 477) B d_law_477 ?_
        refine mv_bipush (pc := 478) (v := 32) B d_law_478 (by decide) ?_
        refine mv_lshl (pc := 480) B d_law_480 ?_
        refine mv_aload_n (pc := 481) B d_law_481 rfl 5 rfl ?_
        refine mv_iload (pc := 482) B d_law_482 1 rfl ?_
        refine mv_iconst (pc := 484) (v := 4) B d_law_484 (by decide) ?_
        refine mv_iadd (pc := 485) B d_law_485 ?_
        refine mv_sld (pc := 486) B hX hb hbA f4 d_law_486 ?_
        refine mv_i2l (pc := 487) B d_law_487 ?_
        refine mv_ldc2 (pc := 488) (v := 4294967295) B (B.2.2.2.1 _ k_2611) d_law_488 ?_
        refine mv_land (pc := 491) B d_law_491 ?_
        refine mv_lor (pc := 492) B d_law_492 ?_
        refine mv_callVG (pc := 493) (na := 3) (ci := 11) (C := R_Model) (o := 70) B (mKt_ok sk sv) hNs rfl rfl (w_Model_poke l B.2.2.2.2.2.1 _ _ _ _ k9 _ hMJ hCQ hLI hPV hWP) rfl (ma_goodc kc_Model_poke) (B.2.2.2.1 _ k_2411) (B.2.2.2.1 _ k_2412) (B.2.2.2.1 _ k_2413) (B.2.2.2.1 _ k_12) ⟨by decide +kernel, by decide +kernel, by decide +kernel⟩ rfl d_law_493 rfl (Nat.le_of_ble_eq_true rfl) ⟨by decide, by decide⟩ ⟨Nat.le_trans (Nat.add_le_add_right (Nat.add_le_add_right hCS.1 _) _) (by decide), Nat.le_trans (Nat.add_le_add_right (Nat.add_le_add_right hCS.2 _) _) (by decide)⟩ (fun x9 τ9 h9 => by cases h9.1) (fun w493 σ493 h9 => ?_)
        obtain ⟨h8, h9⟩ := h9
        cases h8
        obtain ⟨⟨hMM, hMJ⟩, hWK⟩ := h9
        have hTE := hTE.m7 hMM.1
        have hLI := hLI.mm hMM.1.1 hMJ.hm
        have hCQ := hCQ.m hMM.1.1 hMM.2
        refine mv_goto (pc := 496) (tgt := 715) B d_law_496 rfl ?_
        refine mv_lpick [1, 2, 3, 4, 5] rfl ?_
        exact j743 _ _ _ k9 _ _ B hge hLI hMJ hTE hCQ hWK (by omega) (hBD.up (by first | exact Nat.le_refl _ | exact Nat.le_succ _) (by first | exact Nat.le_refl _ | exact Nat.le_add_right _ 6))
      refine ⟨fun h40 => ?_, fun h40n8 => ?_⟩
      · skip
        refine mv_aload_n (pc := 499) B d_law_499 rfl 3 rfl ?_
        refine mv_aload_n (pc := 500) B d_law_500 rfl 4 rfl ?_
        refine mv_iload (pc := 501) B d_law_501 0 rfl ?_
        refine mv_iconst (pc := 503) (v := 1) B d_law_503 (by decide) ?_
        refine mv_iadd (pc := 504) B d_law_504 ?_
        refine mv_sld (pc := 505) B hX hb hbA f1 d_law_505 ?_
        refine mv_aload_n (pc := 506) B d_law_506 rfl 4 rfl ?_
        refine mv_iload (pc := 507) B d_law_507 0 rfl ?_
        refine mv_iconst (pc := 509) (v := 2) B d_law_509 (by decide) ?_
        refine mv_iadd (pc := 510) B d_law_510 ?_
        refine mv_sld (pc := 511) B hX hb hbA f2 d_law_511 ?_
        refine mv_aload_n (pc := 512) B d_law_512 rfl 1 rfl ?_
        refine mv_callSWG (pc := 513) (na := 4) B (mKt_ok sk sv) hNs (w_Law_peek l B.2.2.2.2.2.1 _ hlt _ _ k9 hLI) rfl (ma_goodc kc_Law_peek) (B.2.2.2.1 _ k_1779) (B.2.2.2.1 _ k_1780) (B.2.2.2.1 _ k_0) ⟨by decide +kernel, by decide +kernel, by decide +kernel⟩ rfl d_law_513 rfl (Nat.le_of_ble_eq_true rfl) ⟨by decide, by decide⟩ ⟨Nat.le_trans (Nat.add_le_add_right hCS.1 _) (by decide), Nat.le_trans (Nat.add_le_add_right hCS.2 _) (by decide)⟩ (fun x9 τ9 h9 => by obtain ⟨_, h9, _⟩ := h9; cases h9) (fun w513 σ513 h9 => ?_)
        obtain ⟨v513, h8, h9⟩ := h9
        cases h8
        obtain ⟨h9, hPK⟩ := h9
        obtain ⟨hG, hLI⟩ := h9
        have hWK := hWK.c hG.1.1.1 hG.1.2 hG.2.l
        obtain ⟨hG, -⟩ := hG
        have hMJ := hMJ.go hG.1.1 hLI.hm
        have hTE := hTE.go hG.1
        have hCQ := hCQ.c hG.1.1 hG.2
        refine mv_istore (pc := 516) B d_law_516 (by decide) rfl ?_
        refine mv_aload_n (pc := 518) B d_law_518 rfl 3 rfl ?_
        refine mv_aload_n (pc := 519) B d_law_519 rfl 5 rfl ?_
        refine mv_iload (pc := 520) B d_law_520 1 rfl ?_
        refine mv_iconst (pc := 522) (v := 1) B d_law_522 (by decide) ?_
        refine mv_iadd (pc := 523) B d_law_523 ?_
        refine mv_sld (pc := 524) B hX hb hbA f1 d_law_524 ?_
        refine mv_aload_n (pc := 525) B d_law_525 rfl 5 rfl ?_
        refine mv_iload (pc := 526) B d_law_526 1 rfl ?_
        refine mv_iconst (pc := 528) (v := 2) B d_law_528 (by decide) ?_
        refine mv_iadd (pc := 529) B d_law_529 ?_
        refine mv_sld (pc := 530) B hX hb hbA f2 d_law_530 ?_
        refine mv_callVG (pc := 531) (na := 2) (ci := 11) (C := R_Model) (o := 70) B (mKt_ok sk sv) hNs rfl rfl (w_Model_peek l B.2.2.2.2.2.1 _ _ _ k9 _ hMJ hCQ hLI hPK hWK) rfl (ma_goodc kc_Model_peek) (B.2.2.2.1 _ k_2434) (B.2.2.2.1 _ k_2435) (B.2.2.2.1 _ k_2436) (B.2.2.2.1 _ k_12) ⟨by decide +kernel, by decide +kernel, by decide +kernel⟩ rfl d_law_531 rfl (Nat.le_of_ble_eq_true rfl) ⟨by decide, by decide⟩ ⟨Nat.le_trans (Nat.add_le_add_right (Nat.add_le_add_right hCS.1 _) _) (by decide), Nat.le_trans (Nat.add_le_add_right (Nat.add_le_add_right hCS.2 _) _) (by decide)⟩ (fun x9 τ9 h9 => by obtain ⟨_, h9, _⟩ := h9; cases h9) (fun w531 σ531 h9 => ?_)
        obtain ⟨v531, h8, h9⟩ := h9
        cases h8
        obtain ⟨⟨hMM, hMJ⟩, hWK, hthr, hPC⟩ := h9
        have hTE := hTE.m7 hMM.1
        have hLI := hLI.mm hMM.1.1 hMJ.hm
        have hCQ := hCQ.m hMM.1.1 hMM.2
        refine mv_lstore (pc := 534) B d_law_534 (by decide) rfl ?_
        refine mv_goto (pc := 536) (tgt := 715) B d_law_536 rfl ?_
        refine mv_lpick [2, 3, 4, 5, 6] rfl ?_
        exact j743 _ _ _ k9 _ _ B hge hLI hMJ hTE hCQ hWK (by omega) (hBD.up (by first | exact Nat.le_refl _ | exact Nat.le_succ _) (by first | exact Nat.le_refl _ | exact Nat.le_add_right _ 6))
      refine ⟨fun h40 => ?_, fun h40n9 => ?_⟩
      · skip
        refine mv_aload_n (pc := 539) B d_law_539 rfl 3 rfl ?_
        refine mv_aload_n (pc := 540) B d_law_540 rfl 4 rfl ?_
        refine mv_iload (pc := 541) B d_law_541 0 rfl ?_
        refine mv_iconst (pc := 543) (v := 1) B d_law_543 (by decide) ?_
        refine mv_iadd (pc := 544) B d_law_544 ?_
        refine mv_sld (pc := 545) B hX hb hbA f1 d_law_545 ?_
        refine mv_i2l (pc := 546) B d_law_546 ?_
        refine mv_bipush (pc := 547) (v := 32) B d_law_547 (by decide) ?_
        refine mv_lshl (pc := 549) B d_law_549 ?_
        refine mv_aload_n (pc := 550) B d_law_550 rfl 4 rfl ?_
        refine mv_iload (pc := 551) B d_law_551 0 rfl ?_
        refine mv_iconst (pc := 553) (v := 2) B d_law_553 (by decide) ?_
        refine mv_iadd (pc := 554) B d_law_554 ?_
        refine mv_sld (pc := 555) B hX hb hbA f2 d_law_555 ?_
        refine mv_i2l (pc := 556) B d_law_556 ?_
        refine mv_ldc2 (pc := 557) (v := 4294967295) B (B.2.2.2.1 _ k_2611) d_law_557 ?_
        refine mv_land (pc := 560) B d_law_560 ?_
        refine mv_lor (pc := 561) B d_law_561 ?_
        refine mv_callVG (pc := 562) (na := 1) (ci := 0) (C := R_Loom) (o := 0) B (mKt_ok sk sv) hNs rfl rfl (w_Loom_step l B.2.2.2.2.2.1 _ _ k9 hLI hCQ hWK) rfl (ma_goodc kc_Loom_step) (B.2.2.2.1 _ k_1568) (B.2.2.2.1 _ k_1569) (B.2.2.2.1 _ k_1570) (B.2.2.2.1 _ k_1) ⟨by decide +kernel, by decide +kernel, by decide +kernel⟩ rfl d_law_562 rfl (Nat.le_of_ble_eq_true rfl) ⟨by decide, by decide⟩ ⟨Nat.le_trans (Nat.add_le_add_right hCS.1 _) (by decide), Nat.le_trans (Nat.add_le_add_right hCS.2 _) (by decide)⟩ (fun x9 τ9 h9 => by obtain ⟨_, h9, _⟩ := h9; cases h9) (fun w562 σ562 h9 => ?_)
        obtain ⟨v562, h8, h9⟩ := h9
        cases h8
        obtain ⟨⟨hG, hLI⟩, hWS⟩ := h9
        have hMJ := hMJ.go hG.1.1 hLI.hm
        have hTE := hTE.go hG.1
        have hCQ := hCQ.c hG.1.1 hG.2
        refine mv_pop (pc := 565) B d_law_565 rfl ?_
        refine mv_aload_n (pc := 566) B d_law_566 rfl 2 rfl ?_
        refine mv_aload_n (pc := 567) B d_law_567 rfl 4 rfl ?_
        refine mv_iload (pc := 568) B d_law_568 0 rfl ?_
        refine mv_iconst (pc := 570) (v := 1) B d_law_570 (by decide) ?_
        refine mv_iadd (pc := 571) B d_law_571 ?_
        refine mv_sld (pc := 572) B hX hb hbA f1 d_law_572 ?_
        refine mv_i2l (pc := 573) B d_law_573 ?_
        refine mv_bipush (pc := 574) (v := 32) B d_law_574 (by decide) ?_
        refine mv_lshl (pc := 576) B d_law_576 ?_
        refine mv_aload_n (pc := 577) B d_law_577 rfl 4 rfl ?_
        refine mv_iload (pc := 578) B d_law_578 0 rfl ?_
        refine mv_iconst (pc := 580) (v := 2) B d_law_580 (by decide) ?_
        refine mv_iadd (pc := 581) B d_law_581 ?_
        refine mv_sld (pc := 582) B hX hb hbA f2 d_law_582 ?_
        refine mv_i2l (pc := 583) B d_law_583 ?_
        refine mv_ldc2 (pc := 584) (v := 4294967295) B (B.2.2.2.1 _ k_2611) d_law_584 ?_
        refine mv_land (pc := 587) B d_law_587 ?_
        refine mv_lor (pc := 588) B d_law_588 ?_
        refine mv_callVG (pc := 589) (na := 1) (ci := 11) (C := R_Model) (o := 70) B (mKt_ok sk sv) hNs rfl rfl (w_Model_step l B.2.2.2.2.2.1 _ _ k9 _ hMJ (SHq.of hCQ hLI) hWS) rfl (ma_goodc kc_Model_step) (B.2.2.2.1 _ k_2443) (B.2.2.2.1 _ k_2444) (B.2.2.2.1 _ k_2445) (B.2.2.2.1 _ k_12) ⟨by decide +kernel, by decide +kernel, by decide +kernel⟩ rfl d_law_589 rfl (Nat.le_of_ble_eq_true rfl) ⟨by decide, by decide⟩ ⟨Nat.le_trans (Nat.add_le_add_right (Nat.add_le_add_right hCS.1 _) _) (by decide), Nat.le_trans (Nat.add_le_add_right (Nat.add_le_add_right hCS.2 _) _) (by decide)⟩ (fun x9 τ9 h9 => by obtain ⟨_, h9, _⟩ := h9; cases h9) (fun w589 σ589 h9 => ?_)
        obtain ⟨v589, h8, h9⟩ := h9
        cases h8
        obtain ⟨⟨hMM, hMJ⟩, hWK, hst⟩ := h9
        have hTE := hTE.m7 hMM.1
        have hLI := hLI.mm hMM.1.1 hMJ.hm
        have hCQ := hCQ.m hMM.1.1 hMM.2
        refine mv_pop (pc := 592) B d_law_592 rfl ?_
        refine mv_goto (pc := 593) (tgt := 715) B d_law_593 rfl ?_
        refine mv_lpick [0, 1, 2, 3, 4] rfl ?_
        exact j743 _ _ _ k9 _ _ B hge hLI hMJ hTE hCQ hWK (by omega) (hBD.up (by first | exact Nat.le_refl _ | exact Nat.le_succ _) (by first | exact Nat.le_refl _ | exact Nat.le_add_right _ 6))
      refine ⟨fun h40 => ?_, fun h40n10 => ?_⟩
      · skip
        refine mv_aload_n (pc := 596) B d_law_596 rfl 3 rfl ?_
        refine mv_aload_n (pc := 597) B d_law_597 rfl 4 rfl ?_
        refine mv_iload (pc := 598) B d_law_598 0 rfl ?_
        refine mv_iconst (pc := 600) (v := 1) B d_law_600 (by decide) ?_
        refine mv_iadd (pc := 601) B d_law_601 ?_
        refine mv_sld (pc := 602) B hX hb hbA f1 d_law_602 ?_
        refine mv_aload_n (pc := 603) B d_law_603 rfl 1 rfl ?_
        refine mv_callSWG (pc := 604) (na := 3) B (mKt_ok sk sv) hNs (w_Law_run l B.2.2.2.2.2.1 _ hlt _ k9 hLI hCQ hWK) rfl (ma_goodc kc_Law_run) (B.2.2.2.1 _ k_1786) (B.2.2.2.1 _ k_1787) (B.2.2.2.1 _ k_0) ⟨by decide +kernel, by decide +kernel, by decide +kernel⟩ rfl d_law_604 rfl (Nat.le_of_ble_eq_true rfl) ⟨by decide, by decide⟩ ⟨Nat.le_trans (Nat.add_le_add_right hCS.1 _) (by decide), Nat.le_trans (Nat.add_le_add_right hCS.2 _) (by decide)⟩ (fun x9 τ9 h9 => by obtain ⟨_, h9, _⟩ := h9; cases h9) (fun w604 σ604 h9 => ?_)
        obtain ⟨v604, h8, h9⟩ := h9
        cases h8
        obtain ⟨⟨hG, hLI⟩, hWR⟩ := h9
        have hMJ := hMJ.go hG.1.1 hLI.hm
        have hTE := hTE.go hG.1
        have hCQ := hCQ.c hG.1.1 hG.2
        refine mv_istore (pc := 607) B d_law_607 (by decide) rfl ?_
        refine mv_aload_n (pc := 609) B d_law_609 rfl 3 rfl ?_
        refine mv_aload_n (pc := 610) B d_law_610 rfl 5 rfl ?_
        refine mv_iload (pc := 611) B d_law_611 1 rfl ?_
        refine mv_iconst (pc := 613) (v := 1) B d_law_613 (by decide) ?_
        refine mv_iadd (pc := 614) B d_law_614 ?_
        refine mv_sld (pc := 615) B hX hb hbA f1 d_law_615 ?_
        refine mv_callVG (pc := 616) (na := 1) (ci := 11) (C := R_Model) (o := 70) B (mKt_ok sk sv) hNs rfl rfl (w_Model_run l B.2.2.2.2.2.1 _ _ k9 _ hMJ (SHq.of hCQ hLI) hWR) rfl (ma_goodc kc_Model_run) (B.2.2.2.1 _ k_2558) (B.2.2.2.1 _ k_2559) (B.2.2.2.1 _ k_2560) (B.2.2.2.1 _ k_12) ⟨by decide +kernel, by decide +kernel, by decide +kernel⟩ rfl d_law_616 rfl (Nat.le_of_ble_eq_true rfl) ⟨by decide, by decide⟩ ⟨Nat.le_trans (Nat.add_le_add_right (Nat.add_le_add_right hCS.1 _) _) (by decide), Nat.le_trans (Nat.add_le_add_right (Nat.add_le_add_right hCS.2 _) _) (by decide)⟩ (fun x9 τ9 h9 => by obtain ⟨_, h9, _⟩ := h9; cases h9) (fun w616 σ616 h9 => ?_)
        obtain ⟨v616, h8, h9⟩ := h9
        cases h8
        obtain ⟨⟨hMM, hMJ⟩, hWK, hthr, hRC⟩ := h9
        have hTE := hTE.m7 hMM.1
        have hLI := hLI.mm hMM.1.1 hMJ.hm
        have hCQ := hCQ.m hMM.1.1 hMM.2
        refine mv_istore (pc := 619) B d_law_619 (by decide) rfl ?_
        refine mv_goto (pc := 621) (tgt := 715) B d_law_621 rfl ?_
        refine mv_lpick [2, 3, 4, 5, 6] rfl ?_
        exact j743 _ _ _ k9 _ _ B hge hLI hMJ hTE hCQ hWK (by omega) (hBD.up (by first | exact Nat.le_refl _ | exact Nat.le_succ _) (by first | exact Nat.le_refl _ | exact Nat.le_add_right _ 6))
      refine ⟨fun h40 => ?_, fun h40n11 => ?_⟩
      · skip
        refine mv_aload_n (pc := 624) B d_law_624 rfl 3 rfl ?_
        refine mv_callVG (pc := 625) (na := 0) (ci := 0) (C := R_Loom) (o := 0) B (mKt_ok sk sv) hNs rfl rfl (w_Loom_trap l B.2.2.2.2.2.1 _ k9 hLI) rfl (ma_goodc kc_Loom_trap) (B.2.2.2.1 _ k_1643) (B.2.2.2.1 _ k_1644) (B.2.2.2.1 _ k_1645) (B.2.2.2.1 _ k_1) ⟨by decide +kernel, by decide +kernel, by decide +kernel⟩ rfl d_law_625 rfl (Nat.le_of_ble_eq_true rfl) ⟨by decide, by decide⟩ ⟨Nat.le_trans (Nat.add_le_add_right hCS.1 _) (by decide), Nat.le_trans (Nat.add_le_add_right hCS.2 _) (by decide)⟩ (fun x9 τ9 h9 => by obtain ⟨_, h9, _⟩ := h9; cases h9) (fun w625 σ625 h9 => ?_)
        obtain ⟨v625, h8, h9⟩ := h9
        cases h8
        obtain ⟨h9, htv⟩ := h9
        obtain ⟨hG, hLI⟩ := h9
        have hWK := hWK.c hG.1.1.1 hG.1.2 hG.2.l
        obtain ⟨hG, -⟩ := hG
        have hMJ := hMJ.go hG.1.1 hLI.hm
        have hTE := hTE.go hG.1
        have hCQ := hCQ.c hG.1.1 hG.2
        refine mv_pop (pc := 628) B d_law_628 rfl ?_
        refine mv_aload_n (pc := 629) B d_law_629 rfl 2 rfl ?_
        refine mv_callVG (pc := 630) (na := 0) (ci := 11) (C := R_Model) (o := 70) B (mKt_ok sk sv) hNs rfl rfl (w_Model_trap l B.2.2.2.2.2.1 _ k9 hMJ) rfl (ma_goodc kc_Model_trap) (B.2.2.2.1 _ k_2574) (B.2.2.2.1 _ k_2575) (B.2.2.2.1 _ k_2576) (B.2.2.2.1 _ k_12) ⟨by decide +kernel, by decide +kernel, by decide +kernel⟩ rfl d_law_630 rfl (Nat.le_of_ble_eq_true rfl) ⟨by decide, by decide⟩ ⟨Nat.le_trans (Nat.add_le_add_right (Nat.add_le_add_right hCS.1 _) _) (by decide), Nat.le_trans (Nat.add_le_add_right (Nat.add_le_add_right hCS.2 _) _) (by decide)⟩ (fun x9 τ9 h9 => by obtain ⟨_, h9, _⟩ := h9; cases h9) (fun w630 σ630 h9 => ?_)
        obtain ⟨v630, h8, h9⟩ := h9
        cases h8
        obtain ⟨h9, htw⟩ := h9
        have htc := htv.trans (hWK.1.1.trans htw.symm)
        obtain ⟨⟨hMM, hMJ⟩, hRK⟩ := h9
        have hWK := hWK.m hMM.1.1 hRK
        have hTE := hTE.m7 hMM.1
        have hLI := hLI.mm hMM.1.1 hMJ.hm
        have hCQ := hCQ.m hMM.1.1 hMM.2
        refine mv_pop (pc := 633) B d_law_633 rfl ?_
        refine mv_goto (pc := 634) (tgt := 715) B d_law_634 rfl ?_
        refine mv_lpick [0, 1, 2, 3, 4] rfl ?_
        exact j743 _ _ _ k9 _ _ B hge hLI hMJ hTE hCQ hWK (by omega) (hBD.up (by first | exact Nat.le_refl _ | exact Nat.le_succ _) (by first | exact Nat.le_refl _ | exact Nat.le_add_right _ 6))
      refine ⟨fun h40 => ?_, fun h40n12 => ?_⟩
      · skip
        refine mv_aload_n (pc := 637) B d_law_637 rfl 3 rfl ?_
        refine mv_aload_n (pc := 638) B d_law_638 rfl 4 rfl ?_
        refine mv_iload (pc := 639) B d_law_639 0 rfl ?_
        refine mv_iconst (pc := 641) (v := 1) B d_law_641 (by decide) ?_
        refine mv_iadd (pc := 642) B d_law_642 ?_
        refine mv_sld (pc := 643) B hX hb hbA f1 d_law_643 ?_
        refine mv_aload_n (pc := 644) B d_law_644 rfl 4 rfl ?_
        refine mv_iload (pc := 645) B d_law_645 0 rfl ?_
        refine mv_iconst (pc := 647) (v := 2) B d_law_647 (by decide) ?_
        refine mv_iadd (pc := 648) B d_law_648 ?_
        refine mv_sld (pc := 649) B hX hb hbA f2 d_law_649 ?_
        refine mv_aload_n (pc := 650) B d_law_650 rfl 1 rfl ?_
        refine mv_callSWG (pc := 651) (na := 4) B (mKt_ok sk sv) hNs (u_Law_thing l B.2.2.2.2.2.1 _ hlt _ _ k9 hLI) rfl (ma_goodc kc_Law_thing) (B.2.2.2.1 _ k_1802) (B.2.2.2.1 _ k_1803) (B.2.2.2.1 _ k_0) ⟨by decide +kernel, by decide +kernel, by decide +kernel⟩ rfl d_law_651 rfl (Nat.le_of_ble_eq_true rfl) ⟨by decide, by decide⟩ ⟨Nat.le_trans (Nat.add_le_add_right hCS.1 _) (by decide), Nat.le_trans (Nat.add_le_add_right hCS.2 _) (by decide)⟩ (fun x9 τ9 h9 => by obtain ⟨_, h9, _⟩ := h9; cases h9) (fun w651 σ651 h9 => ?_)
        obtain ⟨v651, h8, h9⟩ := h9
        cases h8
        obtain ⟨h9, -⟩ := h9
        obtain ⟨hG, hLI⟩ := h9
        have hWK := hWK.c hG.1.1.1 hG.1.2 hG.2.l
        obtain ⟨hG, -⟩ := hG
        have hMJ := hMJ.go hG.1.1 hLI.hm
        have hTE := hTE.go hG.1
        have hCQ := hCQ.c hG.1.1 hG.2
        refine mv_istore (pc := 654) B d_law_654 (by decide) rfl ?_
        refine mv_aload_n (pc := 656) B d_law_656 rfl 3 rfl ?_
        refine mv_aload_n (pc := 657) B d_law_657 rfl 5 rfl ?_
        refine mv_iload (pc := 658) B d_law_658 1 rfl ?_
        refine mv_iconst (pc := 660) (v := 1) B d_law_660 (by decide) ?_
        refine mv_iadd (pc := 661) B d_law_661 ?_
        refine mv_sld (pc := 662) B hX hb hbA f1 d_law_662 ?_
        refine mv_aload_n (pc := 663) B d_law_663 rfl 5 rfl ?_
        refine mv_iload (pc := 664) B d_law_664 1 rfl ?_
        refine mv_iconst (pc := 666) (v := 2) B d_law_666 (by decide) ?_
        refine mv_iadd (pc := 667) B d_law_667 ?_
        refine mv_sld (pc := 668) B hX hb hbA f2 d_law_668 ?_
        refine mv_callVG (pc := 669) (na := 2) (ci := 11) (C := R_Model) (o := 70) B (mKt_ok sk sv) hNs rfl rfl (w_Model_thing l B.2.2.2.2.2.1 _ _ _ k9 hMJ) rfl (ma_goodc kc_Model_thing) (B.2.2.2.1 _ k_2578) (B.2.2.2.1 _ k_2579) (B.2.2.2.1 _ k_2580) (B.2.2.2.1 _ k_12) ⟨by decide +kernel, by decide +kernel, by decide +kernel⟩ rfl d_law_669 rfl (Nat.le_of_ble_eq_true rfl) ⟨by decide, by decide⟩ ⟨Nat.le_trans (Nat.add_le_add_right (Nat.add_le_add_right hCS.1 _) _) (by decide), Nat.le_trans (Nat.add_le_add_right (Nat.add_le_add_right hCS.2 _) _) (by decide)⟩ (fun x9 τ9 h9 => by obtain ⟨_, h9, _⟩ := h9; cases h9) (fun w669 σ669 h9 => ?_)
        obtain ⟨v669, h8, h9⟩ := h9
        cases h8
        obtain ⟨⟨hMM, hMJ⟩, hRK⟩ := h9
        have hWK := hWK.m hMM.1.1 hRK
        have hTE := hTE.m7 hMM.1
        have hLI := hLI.mm hMM.1.1 hMJ.hm
        have hCQ := hCQ.m hMM.1.1 hMM.2
        refine mv_istore (pc := 672) B d_law_672 (by decide) rfl ?_
        refine mv_goto (pc := 674) (tgt := 715) B d_law_674 rfl ?_
        refine mv_lpick [2, 3, 4, 5, 6] rfl ?_
        exact j743 _ _ _ k9 _ _ B hge hLI hMJ hTE hCQ hWK (by omega) (hBD.up (by first | exact Nat.le_refl _ | exact Nat.le_succ _) (by first | exact Nat.le_refl _ | exact Nat.le_add_right _ 6))
      refine ⟨fun h40 => ?_, fun h40n13 => ?_⟩
      · skip
        refine mv_aload_n (pc := 677) B d_law_677 rfl 3 rfl ?_
        refine mv_callVG (pc := 678) (na := 0) (ci := 0) (C := R_Loom) (o := 0) B (mKt_ok sk sv) hNs rfl rfl (u_Loom_free l B.2.2.2.2.2.1 _ k9 hLI) rfl (ma_goodc kc_Loom_free) (B.2.2.2.1 _ k_1647) (B.2.2.2.1 _ k_1648) (B.2.2.2.1 _ k_1649) (B.2.2.2.1 _ k_1) ⟨by decide +kernel, by decide +kernel, by decide +kernel⟩ rfl d_law_678 rfl (Nat.le_of_ble_eq_true rfl) ⟨by decide, by decide⟩ ⟨Nat.le_trans (Nat.add_le_add_right hCS.1 _) (by decide), Nat.le_trans (Nat.add_le_add_right hCS.2 _) (by decide)⟩ (fun x9 τ9 h9 => by obtain ⟨_, h9, _⟩ := h9; cases h9) (fun w678 σ678 h9 => ?_)
        obtain ⟨v678, h8, h9⟩ := h9
        cases h8
        obtain ⟨h9, -⟩ := h9
        obtain ⟨hG, hLI⟩ := h9
        have hWK := hWK.c hG.1.1.1 hG.1.2 hG.2.l
        obtain ⟨hG, -⟩ := hG
        have hMJ := hMJ.go hG.1.1 hLI.hm
        have hTE := hTE.go hG.1
        have hCQ := hCQ.c hG.1.1 hG.2
        refine mv_pop2_2 (pc := 681) B d_law_681 rfl ?_
        refine mv_aload_n (pc := 682) B d_law_682 rfl 2 rfl ?_
        refine mv_callVG (pc := 683) (na := 0) (ci := 11) (C := R_Model) (o := 70) B (mKt_ok sk sv) hNs rfl rfl (w_Model_free l B.2.2.2.2.2.1 _ k9 hMJ) rfl (ma_goodc kc_Model_free) (B.2.2.2.1 _ k_2586) (B.2.2.2.1 _ k_2587) (B.2.2.2.1 _ k_2588) (B.2.2.2.1 _ k_12) ⟨by decide +kernel, by decide +kernel, by decide +kernel⟩ rfl d_law_683 rfl (Nat.le_of_ble_eq_true rfl) ⟨by decide, by decide⟩ ⟨Nat.le_trans (Nat.add_le_add_right (Nat.add_le_add_right hCS.1 _) _) (by decide), Nat.le_trans (Nat.add_le_add_right (Nat.add_le_add_right hCS.2 _) _) (by decide)⟩ (fun x9 τ9 h9 => by obtain ⟨_, h9, _⟩ := h9; cases h9) (fun w683 σ683 h9 => ?_)
        obtain ⟨v683, h8, h9⟩ := h9
        cases h8
        obtain ⟨⟨hMM, hMJ⟩, hRK⟩ := h9
        have hWK := hWK.m hMM.1.1 hRK
        have hTE := hTE.m7 hMM.1
        have hLI := hLI.mm hMM.1.1 hMJ.hm
        have hCQ := hCQ.m hMM.1.1 hMM.2
        refine mv_pop2_2 (pc := 686) B d_law_686 rfl ?_
        refine mv_goto (pc := 687) (tgt := 715) B d_law_687 rfl ?_
        refine mv_lpick [0, 1, 2, 3, 4] rfl ?_
        exact j743 _ _ _ k9 _ _ B hge hLI hMJ hTE hCQ hWK (by omega) (hBD.up (by first | exact Nat.le_refl _ | exact Nat.le_succ _) (by first | exact Nat.le_refl _ | exact Nat.le_add_right _ 6))
      refine ⟨fun h40 => ?_, fun h40n14 => ?_⟩
      · skip
        refine mv_aload_n (pc := 690) B d_law_690 rfl 3 rfl ?_
        refine mv_aload_n (pc := 691) B d_law_691 rfl 4 rfl ?_
        refine mv_iload (pc := 692) B d_law_692 0 rfl ?_
        refine mv_iconst (pc := 694) (v := 1) B d_law_694 (by decide) ?_
        refine mv_iadd (pc := 695) B d_law_695 ?_
        refine mv_sld (pc := 696) B hX hb hbA f1 d_law_696 ?_
        refine mv_callVG (pc := 697) (na := 1) (ci := 0) (C := R_Loom) (o := 0) B (mKt_ok sk sv) hNs rfl rfl (w_Loom_count l B.2.2.2.2.2.1 _ _ k9 hLI) rfl (ma_goodc kc_Loom_count) (B.2.2.2.1 _ k_1659) (B.2.2.2.1 _ k_1660) (B.2.2.2.1 _ k_1661) (B.2.2.2.1 _ k_1) ⟨by decide +kernel, by decide +kernel, by decide +kernel⟩ rfl d_law_697 rfl (Nat.le_of_ble_eq_true rfl) ⟨by decide, by decide⟩ ⟨Nat.le_trans (Nat.add_le_add_right hCS.1 _) (by decide), Nat.le_trans (Nat.add_le_add_right hCS.2 _) (by decide)⟩ (fun x9 τ9 h9 => by obtain ⟨_, h9, _⟩ := h9; cases h9) (fun w697 σ697 h9 => ?_)
        obtain ⟨v697, h8, h9⟩ := h9
        cases h8
        obtain ⟨h9, hcv⟩ := h9
        obtain ⟨hG, hLI⟩ := h9
        have hWK := hWK.c hG.1.1.1 hG.1.2 hG.2.l
        obtain ⟨hG, -⟩ := hG
        have hMJ := hMJ.go hG.1.1 hLI.hm
        have hTE := hTE.go hG.1
        have hCQ := hCQ.c hG.1.1 hG.2
        refine mv_aload_n (pc := 700) B d_law_700 rfl 2 rfl ?_
        refine mv_aload_n (pc := 701) B d_law_701 rfl 4 rfl ?_
        refine mv_iload (pc := 702) B d_law_702 0 rfl ?_
        refine mv_iconst (pc := 704) (v := 1) B d_law_704 (by decide) ?_
        refine mv_iadd (pc := 705) B d_law_705 ?_
        refine mv_sld (pc := 706) B hX hb hbA f1 d_law_706 ?_
        refine mv_callVG (pc := 707) (na := 1) (ci := 11) (C := R_Model) (o := 70) B (mKt_ok sk sv) hNs rfl rfl (w_Model_cnt l B.2.2.2.2.2.1 _ _ k9 hMJ) rfl (ma_goodc kc_Model_count) (B.2.2.2.1 _ k_2598) (B.2.2.2.1 _ k_2599) (B.2.2.2.1 _ k_2600) (B.2.2.2.1 _ k_12) ⟨by decide +kernel, by decide +kernel, by decide +kernel⟩ rfl d_law_707 rfl (Nat.le_of_ble_eq_true rfl) ⟨by decide, by decide⟩ ⟨Nat.le_trans (Nat.add_le_add_right (Nat.add_le_add_right hCS.1 _) _) (by decide), Nat.le_trans (Nat.add_le_add_right (Nat.add_le_add_right hCS.2 _) _) (by decide)⟩ (fun x9 τ9 h9 => by obtain ⟨_, h9, _⟩ := h9; cases h9) (fun w707 σ707 h9 => ?_)
        obtain ⟨v707, h8, h9⟩ := h9
        cases h8
        obtain ⟨h9, hcw⟩ := h9
        have hcc := cn_eq hCQ hLI hMJ hWK hcv hcw
        obtain ⟨⟨hMM, hMJ⟩, hRK⟩ := h9
        have hWK := hWK.m hMM.1.1 hRK
        have hTE := hTE.m7 hMM.1
        have hLI := hLI.mm hMM.1.1 hMJ.hm
        have hCQ := hCQ.m hMM.1.1 hMM.2
        refine mv_icmp_eq (pc := 710) (tgt := 715) B d_law_710 rfl (fun h710 => ?_) (fun h710 => ?_)
        · skip
          refine mv_lpick [0, 1, 2, 3, 4] rfl ?_
          exact j743 _ _ _ k9 _ _ B hge hLI hMJ hTE hCQ hWK (by omega) (hBD.up (by first | exact Nat.le_refl _ | exact Nat.le_succ _) (by first | exact Nat.le_refl _ | exact Nat.le_add_right _ 6))
        · skip
          exact absurd hcc h710
      show mv_V _ _ _ _ _ _ _ _ _ _ _ _ _ _ _ _ 715 _ _
      refine mv_lpick [0, 1, 2, 3, 4] rfl ?_
      exact j743 _ _ _ k9 _ _ B hge hLI hMJ hTE hCQ hWK (by omega) (hBD.up (by first | exact Nat.le_refl _ | exact Nat.le_succ _) (by first | exact Nat.le_refl _ | exact Nat.le_add_right _ 6))
