/-! the TEXT, on good roads -/
theorem ndW {P N : Nat} {T : Nat → Nat} {d : Nat} {h : mv_H} (H : HB P N T d h) {j : Nat} (G : gkT T N j) {a0 i : Nat} (hw : wrdN a0 = WDN.getD i [] ∧ (st_g a0).2.2.2.length ≤ 1000) (hi : i < 17) (v : Int64) {u : Unit} (e : ndq (txT T N) d j (200 + i) = some u) : gkT T N (j + 1) ∧ ∃ v', f_Book_needWord P (rB P N h j v) a0 = some (some 0, rB P N h (j + 1) v') := by
  rcases ndWS H G hw hi v with ⟨k2, p2, G1, s2, v2, e2⟩ | ⟨s2, g, e2⟩
  · exact ⟨G1, v2, e2⟩
  · rw [s2] at e; cases e
theorem txt_G {P N : Nat} {T : Nat → Nat} {h : mv_H} (Q : T0q P N T h) (i18' : mv_i h P 18 = -1) (i21' : mv_i h P 21 = -1) {r : SI × LZ × List DnS} (ht : tTx (txT T N) = some r) : ∃ x h' v' m' j', f_Book_text_1 P h = some (some x, rB P N h' j' v') ∧ IGq P N T r.1 r.2.1 r.2.2 h' m' j' := by
  have hP := Q.p
  have n10 := Q.n10
  unfold tTx at ht
  obtain ⟨u1, g1, ht⟩ := obn ht
  obtain ⟨u2, g2, ht⟩ := obn ht
  obtain ⟨u3, g3, ht⟩ := obn ht
  unfold f_Book_text_1
  rw [xk_s, xk_s]
  generalize hh1 : mv_si (mv_si h P 3 0) P 8 0 = h1
  have i1 : ∀ c, ¬ c = 3 → ¬ c = 8 → mv_i h1 P c = mv_i h P c := fun c c1 c2 => by rw [← hh1]; exact (mv_u_ne (mv_i (mv_si h P 3 0)) _ (by omega)).trans (mv_u_ne (mv_i h) _ (by omega))
  have i13 : mv_i h1 P 3 = nI 0 := by rw [← hh1]; exact (mv_u_ne (mv_i (mv_si h P 3 0)) _ (by omega)).trans (mv_u_same (mv_i h) P 3 _)
  have i18 : mv_i h1 P 8 = nI 0 := by rw [← hh1]; exact mv_u_same (mv_i (mv_si h P 3 0)) P 8 _
  have t1 : ck h1 N = T := by rw [← hh1]; exact Q.t
  have H : HB P N T 0 h1 := ⟨by rw [i1 2 (by omega) (by omega)]; exact Q.n, by omega, t1, i18, by omega, hP⟩
  have en := next_e (P := P) (h := h1) (n := N) H.n H.n2 (p := 0) (Nat.zero_le _) (mv_i h1 P 4) (mv_i h1 P 5) (mv_i h1 P 6) (mv_i h1 P 7) (mv_l h1 P 9)
  rw [← i13, ← tkR_me h1] at en
  have ep : s_skip (ck h1 N) N (N + 1) 0 = pos T N 0 := by rw [t1]; rfl
  rw [ep, t1] at en
  have et : s_tok T N (pos T N 0) = tok T N 0 := rfl
  rw [et] at en
  have hb : (tok T N 0).2.2.2 = none := by
    cases hb : (tok T N 0).2.2.2 with
    | none => rfl
    | some x =>
      have k0 : kdT T N 0 = 2 := by unfold kdT; rw [hb, if_pos (Or.inl (fun z => by cases z))]
      have : ndq (txT T N) 0 0 200 = none := by
        unfold ndq gd
        rw [show (txT T N).kd 0 = kdT T N 0 from rfl, k0]; rfl
      rw [this] at g1; cases g1
  have hth : f_Book_next P h1 = some (some 0, rB P N h1 0 (mv_l h1 P 9)) := by
    rw [en]; unfold tkT; rw [hb]
    unfold rB rA
    rw [t1]; rfl
  have G0 : gkT T N 0 := ⟨hb, fun i hi => by omega⟩
  obtain ⟨G1, v2, e2⟩ := ndW H G0 (i := 0) (wds (139, 0) (by decide)) (by decide) (mv_l h1 P 9) g1
  obtain ⟨k3, -, G3, v3, e3⟩ := nG H G1 (c := 4) (k := 2) (by omega) (kd_num H.lt G1.1) v2 g2
  obtain ⟨n3, nn3⟩ := H.num G1 k3 v2
  obtain ⟨k4, -, G4, v4, e4⟩ := nG H G3 (c := 59) (k := 59) (by omega) (H.ch (c := 59) G3 (by omega) (by omega)) v3 g3
  rw [hth, xtb_s, e2, xtb_s, e3, xtb_s, n3, e4, xtb_s]
  have n3' : (txT T N).nu (0 + 1) = (txT T N).nu 1 := rfl
  rw [n3'] at nn3 ⊢
  have cc : (txT T N).nu 1 = 8 ∨ (txT T N).nu 1 = 16 ∨ (txT T N).nu 1 = 32 ∨ (txT T N).nu 1 = 64 := by
    by_cases q : (txT T N).nu 1 = 8 ∨ (txT T N).nu 1 = 16 ∨ (txT T N).nu 1 = 32 ∨ (txT T N).nu 1 = 64
    · exact q
    · rw [if_neg q] at ht; cases ht
  rw [if_pos cc] at ht
  have ei : ∀ L c, ¬ c = 20 → ¬ c = 3 → ¬ c = 8 → mv_i (mv_si h1 P 20 (nI L)) P c = mv_i h P c := fun L c c1 c2 c3 => (mv_u_ne (mv_i h1) _ (by omega)).trans (i1 c c2 c3)
  have IQ0 : ∀ (L : Nat) (s : SI), L ≤ 64 → s.bits = L → s.lk = (fun _ => (0, 0)) → s.tl = [] → s.cells = 0 → s.fe = none → s.ops = [] → IQq P N T s true (mv_si h1 P 20 (nI L)) 0 3 := fun L s hL e1 e2 e3 e4 e5 e6 => by
    have z : (0 : Int32).toNatClampNeg = 0 := rfl
    have hb7 : byt7 h1 := by rw [← hh1]; exact Q.b7
    have e17 := (ei L 17 (by omega) (by omega) (by omega)).trans Q.i17
    have e29 := (ei L 29 (by omega) (by omega) (by omega)).trans Q.i29
    have e51 := (ei L 51 (by omega) (by omega) (by omega)).trans Q.i51
    exact ⟨⟨by rw [ei L 2 (by omega) (by omega) (by omega)]; exact Q.n, by omega, t1, (mv_u_ne (mv_i h1) _ (by omega)).trans i18, by omega, hP⟩, n10, hb7, by rw [ei L 38 (by omega) (by omega) (by omega), Q.i38]; exact ⟨⟨fun _ => rfl, fun _ => rfl⟩, by decide⟩, by rw [ei L 48 (by omega) (by omega) (by omega), Q.i48]; rfl, fun i hi => by omega, by omega, G4, ⟨L, mv_u_same (mv_i h1) P 20 _, hL, fun _ => e1.symm⟩, by rw [e17]; exact ⟨rfl, by rw [z]; omega, fun i hi => by rw [z] at hi; omega, fun i hi => by rw [z] at hi; omega, fun i hi => by rw [z] at hi; omega⟩, fun _ q e _ _ => by rw [e17, e2]; rfl, fun _ => by rw [e17, e3]; rfl, fun _ i hi => by rw [e3] at hi; exact absurd hi (Nat.not_lt_zero _), ⟨0, by rw [ei L 19 (by omega) (by omega) (by omega), Q.i19]; rfl, by omega, fun _ => e4.symm⟩, ⟨0, by rw [ei L 22 (by omega) (by omega) (by omega), Q.i22]; rfl, by omega, fun _ => ⟨fun _ => e5, fun _ => rfl⟩⟩, by rw [e2]; exact fun x hx => absurd rfl hx, by rw [e29]; rfl, by rw [e29, z]; omega, by rw [e51]; rfl, by rw [e51, z]; omega, by rw [e29]; exact fun i hi => by rw [z] at hi; omega, fun _ => by rw [e29, z]; exact ⟨by rw [e6]; rfl, fun i hi => by omega, fun i hi => by omega⟩⟩
  have IG0 : IGq P N T (SI.mk ((txT T N).nu 1) (fun _ => (0, 0)) [] 0 none []) (fun _ => 0) [] (mv_si h1 P 20 (nI ((txT T N).nu 1))) 0 3 := by
    refine ⟨IQ0 _ _ (by omega) rfl rfl rfl rfl rfl rfl, ?_, ?_, fun i hi => absurd hi (Nat.not_lt_zero _), rfl, fun o ho => absurd ho (Nat.not_lt_zero _)⟩
    · intro q e t _ _ ht0
      unfold tfz at ht0
      rw [ei _ 17 (by omega) (by omega) (by omega), Q.i17] at ht0
      cases ht0
    · show mv_i (mv_si h1 P 20 (nI ((txT T N).nu 1))) P 18 = -1 ∧ mv_i (mv_si h1 P 20 (nI ((txT T N).nu 1))) P 21 = -1
      rw [ei _ 18 (by omega) (by omega) (by omega), ei _ 21 (by omega) (by omega) (by omega)]
      exact ⟨i18', i21'⟩
  have go : ∃ x h' v' m' j', f_Book_text_1_75 P (nJ ((txT T N).nu 1)) (mv_i (rB P N h1 (0 + 1) v2) P 5) (rB P N h1 (0 + 1 + 1 + 1) v4) = some (some x, rB P N h' j' v') ∧ IGq P N T r.1 r.2.1 r.2.2 h' m' j' := by
    unfold f_Book_text_1_75 f_Book_text_1_81
    rw [nJi (by omega), rB_si (by omega), xk_s]
    have r20 : mv_i (rB P N (mv_si h1 P 20 (nI ((txT T N).nu 1))) (0 + 1 + 1 + 1) v4) P 20 = nI ((txT T N).nu 1) := (rB_o _ _ (by omega)).trans (mv_u_same (mv_i h1) P 20 _)
    rw [r20, if_neg (show ¬ nI ((txT T N).nu 1) = 0 from fun z => by have := (nIinj (b := 0) (by omega) (by omega)).mp z; omega)]
    exact itm_G 200000 200000 _ _ _ _ 0 3 v4 r IG0 (by omega) ht
  rw [show (8 : Int64) = nJ 8 from rfl, show (16 : Int64) = nJ 16 from rfl, show (32 : Int64) = nJ 32 from rfl, show (64 : Int64) = nJ 64 from rfl]
  by_cases c8 : (txT T N).nu 1 = 8
  · rw [if_pos ((lc_eq2 nn3 (by omega)).mpr c8)]; exact go
  rw [if_neg (fun z => c8 ((lc_eq2 nn3 (by omega)).mp z))]
  by_cases c16 : (txT T N).nu 1 = 16
  · rw [if_pos ((lc_eq2 nn3 (by omega)).mpr c16)]; exact go
  rw [if_neg (fun z => c16 ((lc_eq2 nn3 (by omega)).mp z))]
  by_cases c32 : (txT T N).nu 1 = 32
  · rw [if_pos ((lc_eq2 nn3 (by omega)).mpr c32)]; exact go
  rw [if_neg (fun z => c32 ((lc_eq2 nn3 (by omega)).mp z)), if_pos ((lc_eq2 nn3 (by omega)).mpr (by omega))]
  exact go
