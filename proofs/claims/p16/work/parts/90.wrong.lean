theorem k_1832 : (Jvm.Cond.instanceMethod ({ cls := "MachineLoomModel$Book$Wrong", name := "<init>", desc := "()V" } : Jvm.MethodName)) ∈ ma := ma_of (tb_8 _ (List.mem_of_getElem? (i := 152) rfl)) rfl
theorem k_1833 : (Jvm.Cond.code ({ cls := "MachineLoomModel$Book$Wrong", name := "<init>", desc := "()V" } : Jvm.MethodName) prog_16_method_1_code (1 : Nat) (Option.none : Option Jvm.ClassFile.FieldType)) ∈ ma := ma_of (tb_8 _ (List.mem_of_getElem? (i := 153) rfl)) rfl
theorem k_1834 : (Jvm.Cond.methodLink "MachineLoomModel$Book$Wrong" (1 : Nat) ({ cls := "java/lang/RuntimeException", name := "<init>", desc := "()V" } : Jvm.MethodName)) ∈ ma := ma_of (tb_8 _ (List.mem_of_getElem? (i := 154) rfl)) rfl
theorem k_1825 : (Jvm.Cond.selects "MachineLoomModel$Book$Wrong" ({ cls := "java/lang/Throwable", name := "fillInStackTrace", desc := "(I)Ljava/lang/Throwable;" } : Jvm.MethodName) ({ cls := "java/lang/Throwable", name := "fillInStackTrace", desc := "(I)Ljava/lang/Throwable;" } : Jvm.MethodName)) ∈ ma := ma_of (tb_8 _ (List.mem_of_getElem? (i := 145) rfl)) rfl
theorem k_987 : (Jvm.Cond.selects "MachineLoomModel$Book$Wrong" ({ cls := "java/lang/Throwable", name := "fillInStackTrace", desc := "()Ljava/lang/Throwable;" } : Jvm.MethodName) ({ cls := "java/lang/Throwable", name := "fillInStackTrace", desc := "()Ljava/lang/Throwable;" } : Jvm.MethodName)) ∈ ma := ma_of (tb_5 _ (List.mem_of_getElem? (i := 27) rfl)) rfl
theorem k_1826 : (Jvm.Cond.lays "MachineLoomModel$Book$Wrong" "java/lang/Throwable" "cause" "Ljava/lang/Throwable;") ∈ ma := ma_of (tb_8 _ (List.mem_of_getElem? (i := 146) rfl)) rfl
theorem k_1827 : (Jvm.Cond.lays "MachineLoomModel$Book$Wrong" "java/lang/Throwable" "stackTrace" "[Ljava/lang/StackTraceElement;") ∈ ma := ma_of (tb_8 _ (List.mem_of_getElem? (i := 147) rfl)) rfl
theorem k_1828 : (Jvm.Cond.lays "MachineLoomModel$Book$Wrong" "java/lang/Throwable" "suppressedExceptions" "Ljava/util/List;") ∈ ma := ma_of (tb_8 _ (List.mem_of_getElem? (i := 148) rfl)) rfl
theorem k_1830 : (Jvm.Cond.lays "MachineLoomModel$Book$Wrong" "java/lang/Throwable" "backtrace" "Ljava/lang/Object;") ∈ ma := ma_of (tb_8 _ (List.mem_of_getElem? (i := 150) rfl)) rfl
theorem k_17 : (Jvm.Cond.initialized "MachineLoomModel$Book$Wrong") ∈ ma := ma_of (tb_1 _ (List.mem_of_getElem? (i := 17) rfl)) rfl
section MQW
variable {p : Program} {l : Launch} {e : Env} {R : Room} {s : State} {m : MethodId} {args : Array Value} {below : List Frame} {meth : Method} {c : Code} {dA : FieldType → ClassId} {D : va_G} {al : Nat → Nat} {n : Nat} {own : String} {cc : ByteArray} {nL : Nat} {cells slots : Nat} {Q : State → Prop} {σ : mv_H} {pc : Nat} {L : List (Nat × Value)} {st : List Value} {w9 : mv_Sh}
set_option maxHeartbeats 4000000 in
/-- new Wrong(): a cell of the world; what Throwable keeps of it lies outside the fields that are told -/
theorem mq_wrong (B : mv_B p s m args meth c (mpw w9 dA D al n) ma own cc nL) {n2 : Nat} (hn2 : n + 1 = n2) (h161 : n < 161) (hl : l.stackTraces = false) (hZ : mt_K (mv_A (mpw w9 dA D al n) s.heap.size) s s.heap) (hx : w9[n]? = some (.inl 13)) (hok : mv_ok σ n) {ik ic : Nat} {host : String}
    (hk : (Cond.classLink own ik "MachineLoomModel$Book$Wrong").before args s = true) (hln : (Cond.methodLinkNest own ic ({ cls := "MachineLoomModel$Book$Wrong", name := "<init>", desc := "()V" } : Jvm.MethodName) host).before args s = true)
    (d0 : decode cc pc = .ok (.new ik, 3)) (d3 : decode cc (pc + 3) = .ok (.dup, 1)) (d4 : decode cc (pc + 4) = .ok (.invokespecial ic, 3)) (hst : (st.map fun v => v.category).sum ≤ 8) (hroom : 6 ≤ R.frames ∧ 90 ≤ R.locals) (hcells : cells + 1 ≤ R.cells) (hslots : slots + 7 ≤ R.slots)
    (kk : ∀ al', mq_gr al al' n n2 s.heap.size → mv_B p s m args meth c (mpw w9 dA D al' n2) ma own cc nL → mv_V p l e R s m args below meth c (mpw w9 dA D al' n2) nL (cells + 1) (slots + 7) Q (mv_nw σ n) (pc + 7) L (.ref (al' n) :: st)) :
    mv_V p l e R s m args below meth c (mpw w9 dA D al n) nL cells slots Q σ pc L st := fun H locs ls h1 h2 h3 T hT X => by
  subst hn2
  have hma := B.2.2.2.1
  have htr : e.platform.stackTraces = false := (show e.platform.stackTraces = l.stackTraces by rw [X.admits.platform]).trans hl
  have howns : e.platform.frameOwnsMonitors = true := by rw [X.admits.platform]
  have hfin : e.platform.finalization = false := by rw [X.admits.platform]
  have hpl : e.platform.magicAccessors = ({} : Platform).magicAccessors := by rw [X.admits.platform]
  have hins : (Cond.instantiable "MachineLoomModel$Book$Wrong" 7).before args s = true := (hma _ k_1823)
  obtain ⟨Tt, Z, Lk, LZ, Y⟩ := ThrowableC.of_atoms (args := args) (s := s) howns hfin hpl (mt_c (hma _ k_14) (mt_c (hma _ k_976) (mt_c (hma _ k_985) (mt_c (hma _ k_992) (mt_c (hma _ k_995) (mt_c (hma _ k_997) (mt_c (hma _ k_977) (mt_c (hma _ k_978) (mt_c (hma _ k_43) (mt_c (hma _ k_44) (mt_c (hma _ k_979) (mt_c (hma _ k_984) (mt_c (hma _ k_993) (mt_c (hma _ k_1193) (mt_c (hma _ k_966) (mt_c (hma _ k_1194) (mt_c (hma _ k_968) (mt_c (hma _ k_1195) (mt_c (hma _ k_970) (mt_c (hma _ k_980) (mt_c hZ.1.lies (mt_c (hma _ k_982) (mt_c hZ.2.lies (mt_c (hma _ k_972) mt_n))))))))))))))))))))))))
  obtain ⟨P1, Ps, hlen, L1, hL, hP1m, hlink1, hlink⟩ := Jvm.Bundle.chain0 (args := args) hpl Y.init0 ["java/lang/RuntimeException", "java/lang/Exception"] "MachineLoomModel$Book$Wrong" (by decide +kernel) (by decide +kernel) (mt_a (mt_c (hma _ k_1832) (mt_c (hma _ k_1833) (mt_c (hma _ k_1834) (mt_c (hma _ k_1684) (mt_c (mt_decl (hma _ k_1684) (hma _ k_1685)) mt_n))))) (mt_a (mt_c (hma _ k_1684) (mt_c (hma _ k_1685) (mt_c (hma _ k_1686) (mt_c (hma _ k_1687) (mt_c (mt_decl (hma _ k_1687) (hma _ k_1688)) mt_n))))) (mt_c (hma _ k_1687) (mt_c (hma _ k_1688) (mt_c (hma _ k_1689) (mt_c (hma _ k_977) (mt_c (mt_decl (hma _ k_977) (hma _ k_978)) mt_n)))))))
  have hfound : s.vm.findClass "MachineLoomModel$Book$Wrong" = some P1.m.cls := findClass_of_methodNamed hP1m
  obtain ⟨vm₁, cX, kX, hfX, hkX, hord, -, X₁, st1⟩ := X.newCold B.1.1 (own := own) (C := "MachineLoomModel$Book$Wrong") (index := ik) (n := 7) B.2.2.1 hk hins (hma _ k_17) (g := F0 m pc ls st) rfl (by rw [B.1.2]; exact d0) hcells hslots
  cases Option.some.inj (hfX.symm.trans hfound)
  generalize hT1 : (T.setVm vm₁).pushCell { cls := P1.m.cls, slots := kX.instanceTypes.map defaultValue, vm := .none } = T1 at X₁ st1
  have hcell : T1.heap[T.heap.size]? = some (Jvm.freshCell P1.m.cls kX) := by rw [← hT1]; exact State.heap_pushCell_size _ _
  have hold : ∀ q, q < T.heap.size → T1.heap[q]? = T.heap[q]? := fun q hq => by
    rw [← hT1]
    show (T.heap.push _)[q]? = _
    rw [Array.getElem?_push, if_neg (Nat.ne_of_lt hq)]
  have hsize1 : T1.heap.size = T.heap.size + 1 := by
    rw [← hT1]
    exact Array.size_push _
  have hsel0 : selectMethod e.platform s.vm P1.m.cls Tt.fill0 = .method Tt.fill0 := by
    obtain ⟨c2, r2, m2, q1, q2, q3, q4, -⟩ := Cond.selects_spec (hma _ k_1825)
    cases Option.some.inj (q1.symm.trans hfound)
    cases Option.some.inj (q2.symm.trans (State.methodFound?_of_named Y.fill0 (by decide)))
    cases Option.some.inj (q3.symm.trans Y.fill0)
    rw [Launch.admits_selectMethod X.admits]; exact q4
  have hselF : selectMethod e.platform s.vm P1.m.cls Tt.fill = .method Tt.fill := by
    obtain ⟨c2, r2, m2, q1, q2, q3, q4, -⟩ := Cond.selects_spec (hma _ k_987)
    cases Option.some.inj (q1.symm.trans hfound)
    cases Option.some.inj (q2.symm.trans (State.methodFound?_of_named Y.fill (by decide)))
    cases Option.some.inj (q3.symm.trans Y.fill)
    rw [Launch.admits_selectMethod X.admits]; exact q4
  obtain ⟨cellS, hcS0, hiss⟩ := Y.statics
  obtain ⟨u0, hu0⟩ := Cond.staticRefV (args := args) Y.unassigned Lk.unassignedStatic Lk.statics hcS0 hiss hZ.1.ref
  obtain ⟨sen, hsen⟩ := Cond.staticRefV (args := args) Y.sentinel Lk.sentinelStatic Lk.statics hcS0 hiss hZ.2.ref
  obtain ⟨ci198, i198, fB, hk198, hg198, ha198, hsB, -, hnB, htB, hffB⟩ := Cond.ownField (t := .object "java/lang/Object") Y.found Lk.cls (by decide +kernel) (hma _ k_975) (hma _ k_974) e.platform hpl
  have hnA : ¬ mv_A (mpw w9 dA D al n) s.heap.size Tt.aS := by
    obtain ⟨-, c0, k0, i0, f0, a0, cell0, -, q2, -, q4, -, -, -, -, -, q10⟩ := hZ.1
    have e9 := q2.symm.trans Y.unassigned
    simp only [Option.some.injEq, Prod.mk.injEq] at e9
    rw [e9.2.1] at q4
    rw [Lk.statics] at q4
    rw [Option.some.inj q4]
    exact q10
  have hltS : Tt.aS < s.heap.size := (Array.getElem?_eq_some_iff.mp hcS0).1
  have hTs : T.heap[Tt.aS]? = some cellS := by rw [hT, h2.2.1 _ hltS hnA]; exact hcS0
  have hltT : Tt.aS < T.heap.size := (Array.getElem?_eq_some_iff.mp hTs).1
  have hcellS : T1.heap[Tt.aS]? = some cellS := (hold _ hltT).trans hTs
  have hneS : Tt.aS ≠ T.heap.size := Nat.ne_of_lt hltT
  have hknownS : cellS.vm ≠ .unknown := fun hu => by rw [hu] at hiss; cases hiss
  obtain ⟨tyC, dC, hdC, hdnC⟩ := Cond.laysAt hfound hkX Y.cause (hma _ k_1826)
  obtain ⟨tyS, dS, hdS, hdnS⟩ := Cond.laysAt hfound hkX Y.stack (hma _ k_1827)
  obtain ⟨tyP, dP, hdP, hdnP⟩ := Cond.laysAt hfound hkX Y.supp (hma _ k_1828)
  obtain ⟨tyB, dB, hdB, hdnB⟩ := Cond.laysAt hfound hkX hffB (hma _ k_1830)
  have bC := Cond.laysApart hdB hdC hdnB hdnC (by rw [hnB, Y.causeName]; decide)
  have bS := Cond.laysApart hdB hdS hdnB hdnS (by rw [hnB, Y.stackName]; decide)
  have bP := Cond.laysApart hdB hdP hdnB hdnP (by rw [hnB, Y.suppName]; decide)
  have hskip : SkipFacts Tt e.platform s (fun u => u) u0 ((preparedCellV Tt.toThrowableT (freshCell P1.m.cls kX) T.heap.size u0 sen).withEntry T1.cur) :=
    ⟨{ ci198 := ci198, i198 := i198, fBack := fB }, ⟨hk198, hg198, ha198, hsB⟩, by
      have := fresh_default (c := P1.m.cls) tyB
      rw [htB] at this
      simpa [preparedCellV, Cell.setSlot, Cell.withEntry, Array.getElem?_setIfInBounds, bC, bS, bP, bC.symm, bS.symm, bP.symm, defaultValue] using this, fun _ _ => rfl⟩
  have hsz : ls.size = c.maxLocals := by rw [B.2.1]; exact h3.1
  have d3' : decode c.code (pc + 3) = .ok (.dup, 1) := by rw [B.1.2]; exact d3
  have d4' : decode c.code (pc + 4) = .ok (.invokespecial ic, 3) := by rw [B.1.2]; exact d4
  obtain ⟨tm, methC, cdC, kC, vm₂, hnC, -, -, -, -, -, -, -, hW₂, st2⟩ := Steps.initColdArgsNest (tb := p.tables) (e := e) (below := below) (s := s) (U := T1) X₁.here B.1.1 X₁.warmed hpl B.2.2.1 (t := ({ cls := "MachineLoomModel$Book$Wrong", name := "<init>", desc := "()V" } : Jvm.MethodName)) rfl (by decide +kernel)
    hln (hma _ k_1832) (bytes := Jvm.Bundle.five) (maxL := 1) (hma _ k_1833) (f := { method := m, pc := pc + 4, locals := ls, stack := .ref T.heap.size :: .ref T.heap.size :: st, locked := none }) rfl (a := T.heap.size) (argsL := []) (rest := .ref T.heap.size :: st) (fun sig hsig => by
      have h9 : parseMethodDescriptor "()V" = some sig := hsig
      rw [show parseMethodDescriptor "()V" = some ⟨[], none⟩ by decide +kernel] at h9
      cases h9; rfl) rfl d4'
  cases Option.some.inj (hnC.symm.trans hP1m)
  have X₂ := X₁.noted hW₂
  have hlr : 2 * ({ method := m, pc := pc + 4, locals := ls, stack := .ref T.heap.size :: st, locked := none } : JFrame).monitorRoom + ((Value.ref T.heap.size :: st).map fun v => v.category).sum ≤ 9 := by
    show 0 + (1 + (st.map fun v => v.category).sum) ≤ 9
    omega
  obtain ⟨vm₃, X₃, st3⟩ := X₂.ctorPlainOffV B.1.1 (g := { method := m, pc := pc + 4, locals := ls, stack := .ref T.heap.size :: st, locked := none }) rfl hsz Tt Lk Z LZ (P1 :: Ps)
    (fun P hP => by rcases List.mem_cons.mp hP with rfl | hP; exact L1; exact hL P hP) ⟨hlink1, hlink⟩ (u0 := u0) (sen := sen) (self := T.heap.size) (cell := freshCell P1.m.cls kX) (cellS := cellS)
    hcell (fun _ => by simp) (by simp) rfl rfl hsel0 hselF hcellS hneS hknownS hu0 hsen
    (Takes.of_laid hkX hord tyC (by rw [Y.causeType]; rfl)) (Takes.of_laid hkX hord tyS (by rw [Y.stackType]; exact fits_refV_array _ u0)) (Takes.of_laid hkX hord tyP (by rw [Y.suppType]; exact fits_refV_object _ sen)) Y.objLocals hskip htr [] d4'
    (by simp only [List.length_cons, hlen]; show 3 + 2 < R.frames; omega) (by simp only [List.length_cons, hlen]; show _ + (13 * (2 + 1) + 41) ≤ R.locals; omega)
  generalize hcF : (preparedCellV Tt.toThrowableT (freshCell P1.m.cls kX) T.heap.size u0 sen).setSlot Tt.fStack.slot u0.v = cF at X₃ st3
  generalize hT3 : ((T1.setVm vm₂).setVm vm₃).setCell T.heap.size cF = T3 at X₃ st3
  have hlt1 : T.heap.size < T1.heap.size := by omega
  have hF : T3.heap[T.heap.size]? = some cF := by rw [← hT3]; exact heapAt_setCell_self (s := (T1.setVm vm₂).setVm vm₃) cF hlt1
  have hO : ∀ q, q < T.heap.size → T3.heap[q]? = T.heap[q]? := fun q hq => by
    rw [← hold q hq, ← hT3]
    show (T1.heap.set! T.heap.size cF)[q]? = _
    rw [Array.set!_eq_setIfInBounds, Array.getElem?_setIfInBounds, if_neg (Nat.ne_of_gt hq)]
  have hKn : u_Kn s R_Wrong F_Wrong 1 (D.1 13) (D.2 13) := B.2.2.2.2.1.1 13 _ rfl
  have hcid : P1.m.cls = D.1 13 := Option.some.inj (hfound.symm.trans hKn.2.1)
  obtain ⟨ce0, w1, w2, w3, w4⟩ := u_born (o := T.heap.size) (H := T1.heap) (mc_ft 13) hma i_Wrong hKn (by rw [← hcid]; exact hkX) (by rw [← hcid]; exact hcell) t_Wrong_ok
  cases Option.some.inj (hcell.symm.trans w1)
  have hpl0 : ∃ (cf : ClassId) (kf : Class) (fi : Nat) (fd : Field), s.fieldFound? (F_Wrong 0).1 (F_Wrong 0).2.1 (F_Wrong 0).2.2.1 = some (cf, kf, fi, fd) ∧ fd.slot = D.2 13 0 := hKn.1 0 (by decide)
  obtain ⟨cf, kf, fi, fd, hi0, he0⟩ := hpl0
  have hlay : (Cond.lays R_Wrong (F_Wrong 0).1 (F_Wrong 0).2.1 (F_Wrong 0).2.2.1).before args s = true := by
    have := hma _ (i_Wrong _ (u_in_lay (k := 0) (by decide)))
    unfold u_lay at this
    rw [if_neg (by decide)] at this
    exact this
  obtain ⟨ty0, dd0, hd0, hdn0⟩ := Cond.laysAt hfound hkX hi0 hlay
  have hnm : fd.name = "place" := (State.fieldFound?_type hi0 (t_Wrong_ok 0 (by decide))).1
  have aC := Cond.laysApart hd0 hdC hdn0 hdnC (by rw [hnm, Y.causeName]; decide)
  have aS := Cond.laysApart hd0 hdS hdn0 hdnS (by rw [hnm, Y.stackName]; decide)
  have aP := Cond.laysApart hd0 hdP hdn0 hdnP (by rw [hnm, Y.suppName]; decide)
  have hslot : cF.slots[D.2 13 0]? = some (.int 0) := by
    have h0 := w4 0 (by decide)
    rw [← he0] at h0 ⊢
    rw [← hcF]
    have h0 : (freshCell P1.m.cls kX).slots[fd.slot]? = some (.int 0) := h0
    simpa [preparedCellV, Cell.setSlot, Array.getElem?_setIfInBounds, aC, aS, aP, aC.symm, aS.symm, aP.symm] using h0
  have e7 : vp_V (mv_fs (mpw w9 dA D al n) (mv_nw σ n) 13 n) 0 = .int 0 := by
    unfold vp_V
    rw [List.getD_eq_getElem?_getD, mv_fs_at (G := mpw w9 dA D al n) (mv_nw σ n) (c := 13) (k := 0) (show 0 < mv_nf mc_cl 13 by decide)]
    exact mq_fz (al := al) (ty := .int) rfl
  have hcc : cF.cls = D.1 13 := by rw [← hcF, ← hcid]; rfl
  have hcv : cF.vm = .none := by rw [← hcF]; rfl
  have hTH : T.heap.size = H.size := by rw [hT]
  have hq1 : ∀ (k : Nat) (x : Nat × va_E), (mv_wl (mpw w9 dA D al n) σ)[k]? = some x → T3.heap[x.1]? = H[x.1]? := fun k x hk => by
    rw [hO _ (by rw [hTH]; exact (h1 k x hk).lt), hT]
  have g2 : va_D (mv_A (mpw w9 dA D al n) s.heap.size) (mv_wl (mpw w9 dA D al n) σ ++ [(H.size, .inr (13, mv_fs (mpw w9 dA D al n) (mv_nw σ n) 13 n))]) := (mv_wl_D B.2.2.2.2.2.1 σ s.heap.size).push h1 rfl (Or.inr h2.1)
  have g1 : va_P D mc_cl (mv_wl (mpw w9 dA D al n) σ ++ [(H.size, .inr (13, mv_fs (mpw w9 dA D al n) (mv_nw σ n) 13 n))]) T3.heap := by
    refine (h1.kept hq1).app (fun k x hx => ?_)
    have hz : k < 1 := (List.getElem?_eq_some_iff.mp hx).1
    rw [show k = 0 by omega] at hx
    cases hx
    refine ⟨_, rfl, cF, by rw [← hTH]; exact hF, hcc, hcv, fun j hj => ?_⟩
    have hj : j < 1 := hj
    rw [show j = 0 by omega, hslot]
    exact congrArg some e7.symm
  have g3 : va_S (mv_A (mpw w9 dA D al n) s.heap.size) s.heap T3.heap (locs ++ [⟨T.heap.size, Tt.fCause.slot⟩, ⟨T.heap.size, Tt.fStack.slot⟩, ⟨T.heap.size, Tt.fSupp.slot⟩, ⟨T.heap.size, Tt.fStack.slot⟩]) := by
    refine ⟨?_, fun q w1 w2 => ?_, fun x hx => ?_⟩
    · have : T.heap.size < T3.heap.size := (Array.getElem?_eq_some_iff.mp hF).1
      have := h2.1
      omega
    · rw [hO q (by rw [hTH]; exact Nat.lt_of_lt_of_le w1 h2.1), hT]
      exact h2.2.1 q w1 w2
    · rcases List.mem_append.mp hx with h | h
      · exact h2.2.2 x h
      · have hb : x.base = T.heap.size := by
          simp only [List.mem_cons, List.not_mem_nil, or_false] at h
          rcases h with rfl | rfl | rfl | rfl <;> rfl
        exact Or.inr (by rw [hb, hTH]; exact h2.1)
  obtain ⟨al', f1, f2, f3, f4, f5⟩ := mq_grow B h161 hx hok (E := .inr (13, mv_fs (mpw w9 dA D al n) (mv_nw σ n) 13 n)) (fun al' => rfl) g1 g2 g3
  obtain ⟨t, a1, b1⟩ := kk al' f1 f3 T3.heap _ ls f4 f5 h3 T3 rfl X₃
  refine ⟨t, ?_, b1⟩
  rw [f2, ← hTH] at a1
  refine st1 _ ?_
  show Steps p.tables e below (T1.setTop { method := m, pc := pc + 3, locals := ls, stack := .ref T.heap.size :: st, locked := none }) _
  jvm_step X₁.here [X₁.here.top, B.1.1, d3', Value.category]
  refine st2 _ (fun acts => ?_)
  rw [doInvoke_state]
  exact st3 _ a1
end MQW
