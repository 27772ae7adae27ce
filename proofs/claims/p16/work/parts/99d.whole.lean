theorem k_37 : (Jvm.Cond.classLink "MachineLoomLaw" (8 : Nat) "MachineLoom") ∈ ma := ma_of (tb_1 _ (List.mem_of_getElem? (i := 37) rfl)) rfl
theorem k_39 : (Jvm.Cond.methodLink "MachineLoomLaw" (51 : Nat) ({ cls := "MachineLoom", name := "<init>", desc := "()V" } : Jvm.MethodName)) ∈ ma := ma_of (tb_1 _ (List.mem_of_getElem? (i := 39) rfl)) rfl
theorem k_40 : (Jvm.Cond.instanceMethod ({ cls := "MachineLoom", name := "<init>", desc := "()V" } : Jvm.MethodName)) ∈ ma := ma_of (tb_1 _ (List.mem_of_getElem? (i := 40) rfl)) rfl
theorem k_1809 : (Jvm.Cond.classLink "MachineLoomLaw" (52 : Nat) "MachineLoomModel") ∈ ma := ma_of (tb_8 _ (List.mem_of_getElem? (i := 129) rfl)) rfl
theorem k_1811 : (Jvm.Cond.methodLink "MachineLoomLaw" (54 : Nat) ({ cls := "MachineLoomModel", name := "<init>", desc := "()V" } : Jvm.MethodName)) ∈ ma := ma_of (tb_8 _ (List.mem_of_getElem? (i := 131) rfl)) rfl
theorem k_1812 : (Jvm.Cond.instanceMethod ({ cls := "MachineLoomModel", name := "<init>", desc := "()V" } : Jvm.MethodName)) ∈ ma := ma_of (tb_8 _ (List.mem_of_getElem? (i := 132) rfl)) rfl
theorem d_law_0 : decode code 0 = .ok (.new 8, 3) := by decide +kernel
theorem d_law_3 : decode code 3 = .ok (.dup, 1) := by decide +kernel
theorem d_law_4 : decode code 4 = .ok (.invokespecial 51, 3) := by decide +kernel
theorem d_law_7 : decode code 7 = .ok (.astore_n 1, 1) := by decide +kernel
theorem d_law_8 : decode code 8 = .ok (.new 52, 3) := by decide +kernel
theorem d_law_11 : decode code 11 = .ok (.dup, 1) := by decide +kernel
theorem d_law_12 : decode code 12 = .ok (.invokespecial 54, 3) := by decide +kernel
theorem d_law_15 : decode code 15 = .ok (.astore_n 2, 1) := by decide +kernel
theorem d_law_16 : decode code 16 = .ok (.iconst 1, 1) := by decide +kernel
theorem d_law_17 : decode code 17 = .ok (.newarray .long, 2) := by decide +kernel
theorem d_law_19 : decode code 19 = .ok (.astore_n 3, 1) := by decide +kernel
theorem d_law_20 : decode code 20 = .ok (.iconst 0, 1) := by decide +kernel
theorem d_law_21 : decode code 21 = .ok (.istore 4, 2) := by decide +kernel
set_option maxHeartbeats 4000000 in
set_option maxRecDepth 100000 in
theorem whole_start {p : Program} {e : Env} {s : State} {m : MethodId} {below : List Frame} {meth : Method} {c : Code} (l : Launch) (hlt : l.stackTraces = false) {b L : Nat} {xs : Nat → Int32} (hL : L ≤ 3072) (C0 : lw_At p s m meth c b L xs) : W p l e room_1 s m #[Value.ref b] below meth c s.heap [] 0 0 (lw_Z below #[Value.ref b] s) (entryFrame m ([Value.ref b] : List Value).toArray 8) := by
  obtain ⟨hexec, hcode, hret, hml, hown, hts, hX, hbl, hlocks, hgv⟩ := C0
  have hma : ∀ w ∈ ma, w.before #[Value.ref b] s = true := fun w hw => hts w (List.mem_filter.mp hw).1
  have htb : ∀ w ∈ tables_1, w.before #[Value.ref b] s = true := fun w hw => hts w (List.mem_append_right _ hw)
  obtain ⟨sk, sv, hKs⟩ := law_Ks (flat_of_before _ hgv) htb
  obtain ⟨dA, D, hK⟩ := law_D hma
  obtain ⟨al, B, hNs, hg⟩ : ∃ al : Nat → Nat, mv_B p s m #[Value.ref b] meth c (mq dA D al 0) ma R_law code 8 ∧ mKt sk sv (mv_A (mq dA D al 0) s.heap.size) s s.heap ∧ mq_gr al al 0 0 s.heap.size :=
    ⟨fun _ => 0, ⟨⟨hexec, hcode⟩, hml, hown, hma, hK, fun i j hi _ _ => absurd hi (Nat.not_lt_zero _), hlocks⟩, (mKt_ok sk sv).2.2 _ _ _ _ hKs (fun q h => by
      rcases h with ⟨o, ho, -⟩ | h
      · exact absurd ho (Nat.not_lt_zero _)
      · exact h), mq_gr.rf⟩
  have V : mv_V p l e room_1 s m #[Value.ref b] below meth c (mq dA D al 0) 8 0 0 (lw_Z below #[Value.ref b] s) s00 0 (lv_args 0 [Value.ref b]) [] := by
    have hok := s00_ok
    refine mq_new (pc := 0) (ci := 0) (C := R_Loom) (T := F_Loom) (N := 10) (n2 := 1) B rfl (by decide) rfl hok rfl i_Loom t_Loom_ok (by decide) (B.2.2.2.1 _ k_37) (B.2.2.2.1 _ k_38) (B.2.2.2.1 _ k_1) (Nat.le_of_ble_eq_true rfl) (Nat.le_of_ble_eq_true rfl) d_law_0 (fun al1 g1 B => ?_)
    have hok := hok.nw
    have hNs := mq_K (mKt_ok sk sv) g1 (by decide) (mw_le (by decide)) hNs
    have hg := hg.tr g1 (by decide)
    refine mv_dup (pc := 3) B d_law_3 rfl ?_
    refine mq_callI (pc := 4) (na := 0) B (mKt_ok sk sv) hNs (by decide) (by decide) (nc_Loom l B.2.2.2.2.2.1 hlt _ hok) rfl (ma_goodc kc_Loom_init) (B.2.2.2.1 _ k_39) (B.2.2.2.1 _ k_40) (B.2.2.2.1 _ k_1) ⟨rfl, ⟨by decide +kernel, by decide +kernel⟩, by decide +kernel⟩ rfl d_law_4 rfl (Nat.le_of_ble_eq_true rfl) ⟨by decide, by decide⟩ ⟨Nat.le_of_ble_eq_true rfl, Nat.le_of_ble_eq_true rfl⟩ (fun v9 al2 σ2 g2 B h9 => ?_)
    obtain ⟨rfl, υ, hTr, hTk, hσ, hok⟩ := h9
    subst hσ
    have hokL : mv_ok (sgL υ) 70 := hok
    have hNs := mq_K (mKt_ok sk sv) g2 (by decide) (mw_le (by decide)) hNs
    have hg := hg.tr g2 (by decide)
    rw [← g2.1 0 (by decide)]
    refine mv_astore_n (pc := 7) B d_law_7 rfl (by decide) rfl ?_
    refine mq_new (pc := 8) (ci := 11) (C := R_Model) (T := F_Model) (N := 16) (n2 := 71) B rfl (by decide) rfl hok rfl i_Model t_Model_ok (by decide) (B.2.2.2.1 _ k_1809) (B.2.2.2.1 _ k_1810) (B.2.2.2.1 _ k_12) (Nat.le_of_ble_eq_true rfl) (Nat.le_of_ble_eq_true rfl) d_law_8 (fun al3 g3 B => ?_)
    have hok := hok.nw
    have hNs := mq_K (mKt_ok sk sv) g3 (by decide) (mw_le (by decide)) hNs
    have hg := hg.tr g3 (by decide)
    rw [← g3.1 0 (by decide)]
    refine mv_dup (pc := 11) B d_law_11 rfl ?_
    refine mq_callI (pc := 12) (na := 0) B (mKt_ok sk sv) hNs (by decide) (by decide) (nc_Model l B.2.2.2.2.2.1 hlt _ hok) rfl (ma_goodc kc_Model_init) (B.2.2.2.1 _ k_1811) (B.2.2.2.1 _ k_1812) (B.2.2.2.1 _ k_12) ⟨rfl, ⟨by decide +kernel, by decide +kernel⟩, by decide +kernel⟩ rfl d_law_12 rfl (Nat.le_of_ble_eq_true rfl) ⟨by decide, by decide⟩ ⟨Nat.le_of_ble_eq_true rfl, Nat.le_of_ble_eq_true rfl⟩ (fun v9 al4 σ4 g4 B h9 => ?_)
    obtain ⟨rfl, rfl⟩ := h9
    have hok := ok_Model hok
    have hNs := mq_K (mKt_ok sk sv) g4 (by decide) (mw_le (by decide)) hNs
    have hg := hg.tr g4 (by decide)
    rw [← g4.1 70 (by decide)]
    rw [← g4.1 0 (by decide)]
    refine mv_astore_n (pc := 15) B d_law_15 rfl (by decide) rfl ?_
    refine mv_iconst (pc := 16) (v := 1) B d_law_16 (by decide) ?_
    refine mq_newa (pc := 17) (ty := .long) (N := 1) (n2 := 143) B rfl (by decide) rfl hok (B.2.2.2.1 _ k_88) rfl (Or.inr (Or.inl rfl)) (by decide) (by decide) (by decide) (Nat.le_of_ble_eq_true rfl) (Nat.le_of_ble_eq_true rfl) d_law_17 (fun al5 g5 B => ?_)
    have hNs := mq_K (mKt_ok sk sv) g5 (by decide) (mw_le (by decide)) hNs
    have hg := hg.tr g5 (by decide)
    rw [← g5.1 70 (by decide)]
    rw [← g5.1 0 (by decide)]
    refine mv_astore_n (pc := 19) B d_law_19 rfl (by decide) rfl ?_
    refine mv_iconst (pc := 20) (v := 0) B d_law_20 (by decide) ?_
    refine mv_istore (pc := 21) B d_law_21 (by decide) rfl ?_
    rw [show mpw mw dA D al5 143 = mg dA D al5 [] from mq_143] at B ⊢
    refine mv_lpick [0, 1, 2, 3, 4] rfl ?_
    have hge : ∀ o, o < (mv_sh (mg dA D al5 [])).length → s.heap.size ≤ al5 o := fun o ho => hg.2 o (Nat.zero_le _) ho
    exact law_lp l hlt hL hX hbl hret hKs _ [] al5 (sgI υ) 0 _ _ 0 0 B hge (Or.inl (in_LC hTr hokL hTk)) (in_MJ hTr hokL) (in_TE hTr hokL) (in_CQ hTr hokL hTk) (in_WK hTr hokL) rfl (Nat.zero_le _) (Nat.le_refl _) (Or.inl ⟨rfl, Nat.le_of_ble_eq_true rfl, Nat.le_of_ble_eq_true rfl⟩) (Nat.lt_succ_self _)
  have he : entryFrame m ([Value.ref b] : List Value).toArray 8 = F0 m 0 ((lg_sl [Value.ref b] ++ List.replicate (8 - (lg_sl [Value.ref b]).length) Slot.unset).toArray) [] := lg_entry_eq m [Value.ref b] 8
  rw [he]
  exact V s.heap [] _ (fun k q h => by
    rw [mv_wl_at] at h
    cases h) va_S.rf (lv_entry [Value.ref b] (n := 8) (Nat.le_of_ble_eq_true rfl))
set_option maxHeartbeats 4000000 in
theorem lw_walk (l : Launch) (hlt : l.stackTraces = false) (b : Addr) (xs : List Int32) : MetFree l x (headSpec (Jvm.Cond.code x code maxLocals ret :: tables_1) room_1) (lw_P b xs) (fun _ _ _ _ _ => True) lw_Q := by
  refine MetFree.of_bodyS (code := code) (maxLocals := maxLocals) (ret := ret) (by decide) ?_ ?_
  · intro args s m h hn
    obtain ⟨meth, c, h1, h2, h3, h4, h5, h6, -, -⟩ := Cond.code_spec hn (atoms_spec (ws := Jvm.Cond.code x code maxLocals ret :: tables_1) h _ List.mem_cons_self)
    exact ⟨meth, c, h1, h2, h3, h4, h5, h6⟩
  · intro p e s m args below meth c s₁ B hml0 hP _
    obtain ⟨rfl, hx, hbd, hgv⟩ := hP
    obtain ⟨scr, harrAt, hlist, hof, hsmall⟩ := hx
    obtain ⟨hcb, hkn, -, -⟩ := State.arrayAt?_spec harrAt
    have hown : s.vm.findClass R_law = some m.cls := findClass_of_methodNamed B.named
    have hts0 : ∀ c ∈ (Jvm.Cond.code x code maxLocals ret :: tables_1), c.before #[Value.ref b] s = true := atoms_spec (ws := Jvm.Cond.code x code maxLocals ret :: tables_1) B.pre
    have hts : ∀ w ∈ lw_tbl, w.before #[Value.ref b] s = true := k2_hts_sels lw_privs (fun w hw => hts0 w (List.mem_cons_of_mem _ hw)) lw_privs_ok
    have hml : c.maxLocals = 8 := B.maxLocals_eq (hts0 _ List.mem_cons_self)
    have X₀ : Stand p l e room_1 s m #[Value.ref b] below meth c s₁ [] 0 0 := Stand.of_body B
    have hh0 : s₁.heap = s.heap := by rw [B.state]; rfl
    have hsz : scr.slots.size = xs.length := by rw [← Array.length_toList, hlist, List.length_map]
    have hval : ∀ j : Nat, j < xs.length → scr.slots[j]? = some (.int (xs.getD j 0)) := fun j hj => by
      rw [← Array.getElem?_toList, hlist]
      simp [hj]
    have hbl : b < s.heap.size := (Array.getElem?_eq_some_iff.mp hcb).1
    have hX : va_X b xs.length (fun j => xs.getD j 0) s s.heap := ⟨scr, hcb, hof, hkn, hsz, hval⟩
    have K : W p l e room_1 s m #[Value.ref b] below meth c s₁.heap [] 0 0 (lw_Z below #[Value.ref b] s) (entryFrame m ([Value.ref b] : List Value).toArray 8) := by
      rw [hh0]
      exact whole_start l hlt hbd ⟨B.exec, B.bytes, B.returns, hml, hown, hts, hX, hbl, B.notSynchronized, hgv⟩
    obtain ⟨t, a1, o, b1, b2, b3⟩ := K s₁ rfl X₀
    exact ⟨t, o, a1, b1, b2, b3⟩
theorem lw_pre_spec {args : Array Value} {s : State} (h : (Jvm.Cond.and given_1 narrow_1).before args s = true) (hr : rest_1_c.before args s = true) : ∃ (b : Addr) (xs : List Int32), lw_P b xs args s := by
  have hs := flat_of_before _ h
  have hq := flat_of_before _ hr
  have hc : (Cond.count 1).before args s = true := hs _ (by decide +kernel)
  have harr : (Cond.arrayOf (.arg 0) .int).before args s = true := hs _ (by decide +kernel)
  have hle : (Cond.le (.length (.arg 0)) (.int 3072)).before args s = true := hs _ (by decide +kernel)
  have hlen : (Cond.isInt (.length (.arg 0))).before args s = true := hq _ (by decide +kernel)
  have hall : (Cond.all (.arg 0) (.isInt (.elem (.arg 0) (.index 0)))).before args s = true := hq _ (by decide +kernel)
  obtain ⟨b, xs, hb, hx⟩ := State.ints_of_pre rfl harr hlen hall
  have hsm : xs.length < 2 ^ 31 := hx.choose_spec.2.2.2
  have hev : (Term.length (.arg 0)).eval args s none [] s = some (.int xs.length.toInt32) := hx.length_eval hb
  have hv := Cond.le_ints hev (show (Term.int 3072).eval args s none [] s = some (.int 3072) from rfl)
  have hd : xs.length.toInt32 ≤ 3072 := by
    simpa [Cond.before, Cond.holds, hv] using hle
  have hN : xs.length ≤ 3072 := (Int32.ofNat_le_ofNat hsm (by decide)).mp (show Int32.ofNat xs.length ≤ Int32.ofNat 3072 from hd)
  exact ⟨b, xs, Cond.one_arg hc (show args[0]? = some (.ref b) from hb), hx, hN, h⟩
theorem lw_comes (l : Launch) (hlt : l.stackTraces = false) : Comes l x (Jvm.Cond.code x code maxLocals ret :: tables_1) room_1 (fun tb e args s => Calls_1 tb e args s ∧ rest_1 tb e args s ∧ Pre_1 tb e args s)
    (fun _ _ args s o t => lw_Q args s o t) := by
  intro p e ha hc hk s m args below hf hfit hheap happ hpre
  obtain ⟨b, xs, hP⟩ := lw_pre_spec hpre.2.2 hpre.2.1
  obtain ⟨k, o, h1, h2, h3, hQ⟩ := lw_walk l hlt b xs p e ha hc hk s m args below hf ((Spec.applies_iff_loose hf).mp happ).1 hP trivial
  exact ⟨k, o, h1, h2, h3, hQ⟩
theorem lw_frame {s t : State} {o : Outcome} {args : Array Value} (h : Framed s o t [] 917410 6343873) :
    Framed s o t (fieldLocs frame_1_writes args s ++ arrayLocs frame_1_arrays args s ++ staticLocs frame_1_statics s) 917410 6343873 := h
theorem lw_limb (L : Cond) (hL : ∀ (args : Array Value) (s t : State), L.after args s (.returned (some (.int 1))) t = true) :
    ArmFor flags0 classFile x code maxLocals ret World_1 tables_1 room_1 Calls_1 rest_1 Pre_1
      (fun tb e a s o t => postC L tb e a s o t ∧ Framed s o t (fieldLocs frame_1_writes a s ++ arrayLocs frame_1_arrays a s ++ staticLocs frame_1_statics s) 917410 6343873) := by
  intro l hfl _ _ p e ha hc hk s m args below hf hfit hheap happ hpre
  obtain ⟨k, o, h1, h2, h3, rfl, hF⟩ := lw_comes l (by show (!l.flags.contains noTraceFlag) = false; rw [hfl]; decide +kernel) p e ha hc hk s m args below hf hfit hheap happ hpre
  exact ⟨k, _, h1, h2, h3, hL args s _, lw_frame hF⟩
theorem i_vc : Claimed_1_1 ∧ Claimed_1_2 := ⟨lw_limb limb_1_1 (fun args s t => by simp [limb_1_1, Cond.after, Cond.holds, Cond.value]), lw_limb limb_1_2 (fun args s t => Cond.after_iff.mpr (by
  first | (rw [show limb_1_2 = Cond.eq .result (.int 1) from rfl, Cond.eq_ints (x := 1) (y := 1) rfl rfl]; simp; done) | (simp [limb_1_2, Cond.value, Term.eval]; done)))⟩

