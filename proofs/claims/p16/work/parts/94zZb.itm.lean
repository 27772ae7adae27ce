/-! items on good roads -/
section ITG
variable {P N : Nat} {T : Nat → Nat} {s : SI} {lz : LZ} {B : List DnS} {h : mv_H} {m j : Nat}
theorem IGq.st (Q : IGq P N T s lz B h m j) {j' : Nat} (gk : gkT T N j') (hj : j ≤ j') : IGq P N T s lz B h m j' := ⟨Q.1.st gk hj, Q.2⟩
theorem BDg.si (D : BDg P s B h m) (o k : Nat) (x : Int32) : BDg P s B (mv_si h o k x) m := ⟨D.1, fun i hi => (D.2 i hi).fr (GSq.sd o k x) (Nat.le_refl _)⟩
theorem IGq.si (Q : IGq P N T s lz B h m j) {k : Nat} (hk : ¬ (k = 2 ∨ k = 8 ∨ k = 38 ∨ k = 48 ∨ k = 20 ∨ k = 17 ∨ k = 18 ∨ k = 19 ∨ k = 21 ∨ k = 22 ∨ k = 29 ∨ k = 51)) (x : Int32) : IGq P N T s lz B (mv_si h P k x) m j := by
  obtain ⟨Q1, TZ, FE, ZR, BD⟩ := Q
  have ei : ∀ c, ¬ c = k → mv_i (mv_si h P k x) P c = mv_i h P c := fun c hc => mv_u_ne (mv_i h) _ (by omega)
  refine ⟨Q1.si (by omega) x, ?_, ?_, ZR, BD.si P k x⟩
  · intro q e t h1 h2 ht
    refine TZ q e t h1 h2 ?_
    unfold tfz at ht ⊢
    rw [ei 17 (by omega)] at ht
    exact ht
  · unfold FEg at FE ⊢
    rw [ei 18 (by omega), ei 21 (by omega)]
    exact FE
theorem IGq.nmK (Q : IGq P N T s lz B h m j) (i : Nat) : IGq P N T s lz B (nmK P N T h i) m j := (Q.si (by omega) _).si (by omega) _
theorem nam0G {d : Nat} (H : HB P N T d h) {j : Nat} (G : gkT T N j) (v : Int64) {u : Unit} (e : ndq (txT T N) d j 3 = some u) : kdT T N j = 3 ∧ gkT T N (j + 1) ∧ ∃ v', f_Book_name P (rB P N h j v) = some (some 0, rB P N (nmK P N T h j) (j + 1) v') := by
  rcases nam0 H G v with ⟨k2, G2, p2, s2, v2, e2⟩ | ⟨s2, g, e2⟩
  · exact ⟨k2, G2, v2, e2⟩
  · rw [s2] at e; cases e
theorem rng0G {d : Nat} (H : HB P N T d h) {j : Nat} (G : gkT T N j) {lo hi : Nat} (hl : lo < 1000000) (hh : hi < 10000000) (v : Int64) {u : Unit} (e : ndq (txT T N) d j 4 = some u) (c : lo ≤ (txT T N).nu j ∧ (txT T N).nu j ≤ hi) : gkT T N (j + 1) ∧ ∃ v', f_Book_ranged P (rB P N h j v) (nJ lo) (nJ hi) = some (some (nI ((txT T N).nu j)), rB P N h (j + 1) v') := by
  rcases rng0 H 0 G hl hh v with ⟨k4, G4, s4, v4, h4, x, e4, X4, n4, a4, hr⟩ | ⟨s4, g, e4⟩
  · obtain ⟨-, -, r3, r4⟩ := hr.resolve_right (fun q => q.1 c)
    subst r4
    rw [r3] at e4
    exact ⟨G4, v4, e4⟩
  · rw [s4] at e; cases e
theorem reg_G (Q : IGq P N T s lz B h m j) (hk : kdT T N j = 201) (v : Int64) {r : Nat × SI} (ht : sRg (txT T N) s j = some r) : IOg P N T j (r.1, r.2, updZ lz ((txT T N).nm (j + 1)) s.tl.length, B) (f_Book_newThing P (rB P N h j v) 0) := by
  have H := Q.1.hb
  have hP := H.p
  unfold sRg at ht
  obtain ⟨u1, g1, ht⟩ := obn ht
  obtain ⟨u2, g2, ht⟩ := obn ht
  obtain ⟨u3, g3, ht⟩ := obn ht
  obtain ⟨u4, g4, ht⟩ := obn ht
  obtain ⟨u5, g5, ht⟩ := obn ht
  have cc : 1 ≤ (txT T N).nu (j + 3) ∧ (txT T N).nu (j + 3) ≤ 64 := by
    by_cases q : 1 ≤ (txT T N).nu (j + 3) ∧ (txT T N).nu (j + 3) ≤ 64
    · exact q
    · rw [if_neg q] at ht; cases ht
  rw [if_pos cc] at ht
  obtain ⟨-, G1, v1, e1⟩ := psG H Q.1.gk (by omega) (by omega) v g1
  obtain ⟨k2, G2, v2, e2⟩ := nam0G H G1 v1 g2
  have Q2 := ((Q.st G1 (by omega)).nmK (j + 1)).st G2 (by omega)
  have H2 := Q2.1.hb
  have e49 : mv_i (rB P N (nmK P N T h (j + 1)) (j + 1 + 1) v2) P 49 = nI (pos T N (j + 1)) := (rB_o _ _ (by omega)).trans (nmK_49 _)
  have e50 : mv_i (rB P N (nmK P N T h (j + 1)) (j + 1 + 1) v2) P 50 = nI (bp T N (j + 1 + 1)) := (rB_o _ _ (by omega)).trans (nmK_50 _)
  obtain ⟨k3, -, G3, v3, e3⟩ := nG H2 G2 (c := 58) (k := 58) (by omega) (H2.ch (c := 58) G2 (by omega) (by omega)) v2 g3
  obtain ⟨G4, v4, e4⟩ := rng0G H2 G3 (lo := 1) (hi := 64) (by omega) (by omega) v3 g4 cc
  unfold f_Book_newThing
  rw [e1, xtb_s, e2, xtb_s, e49, e50, e3, xtb_s, show (1 : Int64) = nJ 1 from rfl, show (64 : Int64) = nJ 64 from rfl, e4, xtb_s, if_pos rfl]
  exact nt104G (Q2.st G4 (by omega)) G1 k2 false false (W := (txT T N).nu (j + 3)) (n := 0) cc ⟨by omega, fun q => (by cases q), fun _ => ⟨rfl, rfl⟩⟩ (by omega) v4 g5 ht
theorem fil_G (Q : IGq P N T s lz B h m j) (hk : kdT T N j = 202) (v : Int64) {r : Nat × SI} (ht : sFi (txT T N) s j = some r) : IOg P N T j (r.1, r.2, updZ lz ((txT T N).nm (j + 1)) s.tl.length, B) (f_Book_newThing P (rB P N h j v) 1) := by
  have H := Q.1.hb
  have hP := H.p
  unfold sFi at ht
  obtain ⟨u1, g1, ht⟩ := obn ht
  obtain ⟨u2, g2, ht⟩ := obn ht
  obtain ⟨u3, g3, ht⟩ := obn ht
  obtain ⟨u4, g4, ht⟩ := obn ht
  obtain ⟨u5, g5, ht⟩ := obn ht
  obtain ⟨u6, g6, ht⟩ := obn ht
  obtain ⟨u7, g7, ht⟩ := obn ht
  obtain ⟨-, G1, v1, e1⟩ := psG H Q.1.gk (by omega) (by omega) v g1
  obtain ⟨k2, G2, v2, e2⟩ := nam0G H G1 v1 g2
  have Q2 := ((Q.st G1 (by omega)).nmK (j + 1)).st G2 (by omega)
  have H2 := Q2.1.hb
  have e49 : mv_i (rB P N (nmK P N T h (j + 1)) (j + 1 + 1) v2) P 49 = nI (pos T N (j + 1)) := (rB_o _ _ (by omega)).trans (nmK_49 _)
  have e50 : mv_i (rB P N (nmK P N T h (j + 1)) (j + 1 + 1) v2) P 50 = nI (bp T N (j + 1 + 1)) := (rB_o _ _ (by omega)).trans (nmK_50 _)
  -- all that is wanted of the numbers
  have cc : (1 ≤ (txT T N).nu (j + 3) ∧ (txT T N).nu (j + 3) ≤ 64) ∧ 1 ≤ (txT T N).nu (j + 5) ∧ (txT T N).nu (j + 5) ≤ 65536 := by
    by_cases q : (1 ≤ (txT T N).nu (j + 3) ∧ (txT T N).nu (j + 3) ≤ 64) ∧ 1 ≤ (txT T N).nu (j + 5) ∧ (txT T N).nu (j + 5) ≤ 65536
    · exact q
    · by_cases c : (txT T N).kd (j + 7) = 203
      · rw [if_pos c] at ht
        obtain ⟨-, -, ht⟩ := obn ht
        obtain ⟨-, -, ht⟩ := obn ht
        rw [if_neg q] at ht; cases ht
      · rw [if_neg c] at ht
        obtain ⟨-, -, ht⟩ := obn ht
        rw [if_neg q] at ht; cases ht
  obtain ⟨k3, -, G3, v3, e3⟩ := nG H2 G2 (c := 58) (k := 58) (by omega) (H2.ch (c := 58) G2 (by omega) (by omega)) v2 g3
  obtain ⟨G4, v4, e4⟩ := rng0G H2 G3 (lo := 1) (hi := 64) (by omega) (by omega) v3 g4 cc.1
  obtain ⟨k5, -, G5, v5, e5⟩ := nG H2 G4 (c := 91) (k := 91) (by omega) (H2.ch (c := 91) G4 (by omega) (by omega)) v4 g5
  have H5 : HB P N T (0 + 1) (mv_si (nmK P N T h (j + 1)) P 8 (nI (0 + 1))) := H2.dep (by omega)
  obtain ⟨G6, v6, e6⟩ := rng0G H5 G5 (lo := 1) (hi := 65536) (by omega) (by omega) v5 g6 cc.2
  obtain ⟨k7, -, G7, v7, e7⟩ := nG H5 G6 (c := 93) (k := 93) (by omega) (H5.ch (c := 93) G6 (by omega) (by omega)) v6 g7
  have back : mv_si (mv_si (nmK P N T h (j + 1)) P 8 (nI (0 + 1))) P 8 (nI 0) = nmK P N T h (j + 1) := by
    rw [mv_si_si, ← H2.dp]
    exact mv_si_self _ _ _
  have Q7 : IGq P N T s lz B (nmK P N T h (j + 1)) m (j + 7) := Q2.st G7 (by omega)
  have e8 : f_Book_newThing P (rB P N h j v) 1 = (xhb (f_Book_is P (rB P N (nmK P N T h (j + 1)) (j + 7) v7) 142) fun u40 g39 => if u40 = (0 : Int32) then (f_Book_newThing_104 P 1 (nI (pos T N (j + 1))) (nI (bp T N (j + 1 + 1))) (nI ((txT T N).nu (j + 3))) (nI ((txT T N).nu (j + 5))) u40 g39) else (xtb (f_Book_pass P g39) fun u42 g41 => f_Book_newThing_104 P 1 (nI (pos T N (j + 1))) (nI (bp T N (j + 1 + 1))) (nI ((txT T N).nu (j + 3))) (nI ((txT T N).nu (j + 5))) u40 g41)) := by
    unfold f_Book_newThing
    rw [e1, xtb_s, e2, xtb_s, e49, e50, e3, xtb_s, show (1 : Int64) = nJ 1 from rfl, show (64 : Int64) = nJ 64 from rfl, show (65536 : Int64) = nJ 65536 from rfl, e4, xtb_s, if_neg n10, e5, xtb_s, dUp H2 (by omega), xk_s, e6, xtb_s, e7, xtb_s, dDn H5, xk_s, back]
  rw [e8, is_S Q7.1.hb G7 (i := 3) (wds (142, 3) (by decide)) (by decide) v7, xhb_s]
  by_cases c : kdT T N (j + 7) = 203
  · rw [if_pos (show (txT T N).kd (j + 7) = 203 from c)] at ht
    obtain ⟨u8, g8, ht⟩ := obn ht
    obtain ⟨u9, g9, ht⟩ := obn ht
    rw [if_pos cc] at ht
    obtain ⟨-, G8, v8, e9⟩ := psG Q7.1.hb G7 (by rw [show j + 1 + 1 + 1 + 1 + 1 + 1 + 1 = j + 7 from rfl]; omega) (by rw [show j + 1 + 1 + 1 + 1 + 1 + 1 + 1 = j + 7 from rfl]; omega) v7 g8
    have e9 : f_Book_pass P (rB P N (nmK P N T h (j + 1)) (j + 7) v7) = some (some 0, rB P N (nmK P N T h (j + 1)) (j + 8) v8) := e9
    rw [if_neg (b01_dp (show kdT T N (j + 1 + 1 + 1 + 1 + 1 + 1 + 1) = 200 + 3 from c)), e9, xtb_s, decide_eq_true (show kdT T N (j + 1 + 1 + 1 + 1 + 1 + 1 + 1) = 200 + 3 from c)]
    exact nt104G (Q7.st G8 (by omega)) G1 k2 true true (W := (txT T N).nu (j + 3)) (n := (txT T N).nu (j + 5)) cc.1 ⟨cc.2.2, fun _ => cc.2.1, fun q => by cases q⟩ (by omega) v8 g9 ht
  · rw [if_neg (show ¬ (txT T N).kd (j + 7) = 203 from c)] at ht
    obtain ⟨u9, g9, ht⟩ := obn ht
    rw [if_pos cc] at ht
    rw [if_pos (b01_dn (show ¬ kdT T N (j + 1 + 1 + 1 + 1 + 1 + 1 + 1) = 200 + 3 from c)), decide_eq_false (show ¬ kdT T N (j + 1 + 1 + 1 + 1 + 1 + 1 + 1) = 200 + 3 from c)]
    exact nt104G Q7 G1 k2 true false (W := (txT T N).nu (j + 3)) (n := (txT T N).nu (j + 5)) cc.1 ⟨cc.2.2, fun _ => cc.2.1, fun q => by cases q⟩ (by omega) v7 g9 ht
/-- a THING by its name -/
theorem IGq.th (Q : IGq P N T s lz B h m j) {i : Nat} (G : gkT T N i) (hk : kdT T N i = 3) (hl : ¬ (s.lk ((txT T N).nm i)).1 = 0) : ∃ t, tfz P h (pos T N i) (bp T N (i + 1)) = some t ∧ lz ((txT T N).nm i) = t ∧ t < s.tl.length ∧ s.lk ((txT T N).nm i) = if mv_a h (P + 6) t = 0 then (1, (mv_a h (P + 3) t).toNatClampNeg) else (2, (mv_a h (P + 3) t).toNatClampNeg) := by
  have L := Q.1.lkT rfl G hk
  have npq := Q.1.hb.npq G
  have L : s.lk ((txT T N).nm i) = match tfz P h (pos T N i) (bp T N (i + 1)) with
      | some i => if mv_a h (P + 6) i = 0 then (1, (mv_a h (P + 3) i).toNatClampNeg) else (2, (mv_a h (P + 3) i).toNatClampNeg)
      | none => (0, 0) := L
  cases c : tfz P h (pos T N i) (bp T N (i + 1)) with
  | none => rw [L, c] at hl; exact absurd rfl hl
  | some t =>
    rw [c] at L
    have z := Q.2.1 _ _ t npq.1 npq.2 c
    rw [← Q.1.hb.nmt G hk] at z
    exact ⟨t, rfl, z, by rw [Q.1.tc rfl]; exact fsz_lt c, L⟩
theorem fet_G (Q : IGq P N T s lz B h m j) (hk : kdT T N j = 204) (v : Int64) {r : Nat × SI} (ht : sFe (txT T N) s j = some r) : IOg P N T j (r.1, r.2, lz, B) (f_Book_fetch P (rB P N h j v)) := by
  have H := Q.1.hb
  have hP := H.p
  unfold sFe at ht
  obtain ⟨u1, g1, ht⟩ := obn ht
  obtain ⟨u2, g2, ht⟩ := obn ht
  obtain ⟨u3, g3, ht⟩ := obn ht
  obtain ⟨u4, g4, ht⟩ := obn ht
  obtain ⟨u5, g5, ht⟩ := obn ht
  have cc : (s.lk ((txT T N).nm (j + 1))).1 = 1 ∧ s.lk ((txT T N).nm (j + 3)) = (2, 8) ∧ s.fe = none := by
    by_cases q : (s.lk ((txT T N).nm (j + 1))).1 = 1 ∧ s.lk ((txT T N).nm (j + 3)) = (2, 8) ∧ s.fe = none
    · exact q
    · rw [if_neg q] at ht; cases ht
  rw [if_pos cc] at ht
  obtain rfl := Option.some.inj ht
  obtain ⟨-, G1, v1, e1⟩ := psG H Q.1.gk (by omega) (by omega) v g1
  obtain ⟨k2, G2, v2, e2⟩ := nam0G H G1 v1 g2
  have Q2 := ((Q.st G1 (by omega)).nmK (j + 1)).st G2 (by omega)
  have H2 := Q2.1.hb
  have e49 : mv_i (rB P N (nmK P N T h (j + 1)) (j + 1 + 1) v2) P 49 = nI (pos T N (j + 1)) := (rB_o _ _ (by omega)).trans (nmK_49 _)
  have e50 : mv_i (rB P N (nmK P N T h (j + 1)) (j + 1 + 1) v2) P 50 = nI (bp T N (j + 1 + 1)) := (rB_o _ _ (by omega)).trans (nmK_50 _)
  obtain ⟨k3, G3, v3, e3⟩ : kdT T N (j + 2) = 205 ∧ gkT T N (j + 3) ∧ ∃ v3, f_Book_needWord P (rB P N (nmK P N T h (j + 1)) (j + 1 + 1) v2) 145 = some (some 0, rB P N (nmK P N T h (j + 1)) (j + 3) v3) := by
    rcases ndWS H2 G2 (i := 5) (wds (145, 5) (by decide)) (by decide) v2 with ⟨k3, p3, G3, s3, v3, e3⟩ | ⟨s3, g, e3⟩
    · exact ⟨k3, G3, v3, e3⟩
    · have s3 : ndq (txT T N) 0 (j + 2) 205 = none := s3
      rw [s3] at g3; cases g3
  obtain ⟨k4, G4, v4, e4⟩ := nam0G H2 G3 v3 g4
  have Q4 := ((Q2.st G3 (by omega)).nmK (j + 3)).st G4 (by omega)
  have H4 := Q4.1.hb
  obtain ⟨k5, -, G5, v5, e5⟩ := nG H4 G4 (c := 59) (k := 59) (by omega) (H4.ch (c := 59) G4 (by omega) (by omega)) v4 g5
  have Q5 := Q4.st G5 (by omega)
  have f49 : mv_i (nmK P N T (nmK P N T h (j + 1)) (j + 3)) P 49 = nI (pos T N (j + 3)) := nmK_49 _
  have f50 : mv_i (nmK P N T (nmK P N T h (j + 1)) (j + 3)) P 50 = nI (bp T N (j + 3 + 1)) := nmK_50 _
  have h22 : mv_i (nmK P N T (nmK P N T h (j + 1)) (j + 3)) P 22 = mv_i h P 22 := (nmK_i (by omega) _).trans (nmK_i (by omega) _)
  generalize nmK P N T (nmK P N T h (j + 1)) (j + 3) = h5 at *
  have npq1 := H.npq G1
  have npq2 := H.npq G3
  have hn2 := H.n2
  have r49 : mv_i (rB P N h5 (j + 3 + 1 + 1) v5) P 49 = nI (pos T N (j + 3)) := (rB_o _ _ (by omega)).trans f49
  have r50 : mv_i (rB P N h5 (j + 3 + 1 + 1) v5) P 50 = nI (bp T N (j + 3 + 1)) := (rB_o _ _ (by omega)).trans f50
  have t1 := Q5.1.tr.t1
  obtain ⟨ta, ca, za, la, ka⟩ := Q5.th G1 k2 (by rw [cc.1]; decide)
  obtain ⟨tb, cb, zb, lb, kb⟩ := Q5.th G3 k4 (by rw [cc.2.1]; show ¬ 2 = 0; decide)
  have tcl := Q5.1.tc rfl
  have fa6 : mv_a h5 (P + 6) ta = 0 := by
    by_cases q : mv_a h5 (P + 6) ta = 0
    · exact q
    · rw [if_neg q] at ka
      have := cc.1
      rw [ka] at this
      exact absurd (show 2 = 1 from this) (by decide)
  have fb6 : ¬ mv_a h5 (P + 6) tb = 0 := fun q => by
    rw [if_pos q, cc.2.1] at kb
    exact absurd (show 2 = 1 from congrArg Prod.fst kb) (by decide)
  have fb3 : (mv_a h5 (P + 3) tb).toNatClampNeg = 8 := by
    rw [if_neg fb6, cc.2.1] at kb
    exact (congrArg Prod.snd kb).symm
  have fb3' : mv_a h5 (P + 3) tb = 8 := by
    rw [(Q5.1.tr.t3 tb (by omega)).1, fb3]; rfl
  obtain ⟨f, hf1, hf2, hf3⟩ := Q5.1.fe
  have f0 : f = 0 := (hf3 rfl).mpr cc.2.2
  subst f0
  have ra6 : mv_a (rB P N h5 (j + 3 + 1 + 1) v5) (P + 6) ta = 0 := fa6
  have rb6 : ¬ mv_a (rB P N h5 (j + 3 + 1 + 1) v5) (P + 6) tb = 0 := fb6
  have rb3 : mv_a (rB P N h5 (j + 3 + 1 + 1) v5) (P + 3) tb = 8 := fb3'
  have r22 : mv_i (rB P N h5 (j + 3 + 1 + 1) v5) P 22 = nI 0 := (rB_o _ _ (by omega)).trans hf1
  have e126 : f_Book_fetch_126 P (mv_i (rB P N h j v) P 5) (nI (pos T N (j + 1))) (nI ta) (nI tb) 1 1 (rB P N h5 (j + 3 + 1 + 1) v5) = some (some 0, rB P N (mv_si (mv_si (mv_si h5 P 22 (nI (0 + 1))) P 18 (nI ta)) P 21 (nI tb)) (j + 3 + 1 + 1) v5) := by
    unfold f_Book_fetch_126 f_Book_fetch_139 f_Book_fetch_153 f_Book_fetch_167
    rw [if_neg n10, if_neg n10, r22, if_pos (show nI 0 ≤ (0 : Int32) by decide), nI1 (by omega), rB_si (by omega), xk_s]
    have : mv_i (rB P N (mv_si h5 P 22 (nI (0 + 1))) (j + 3 + 1 + 1) v5) P 22 = nI (0 + 1) := (rB_o _ _ (by omega)).trans (mv_u_same (mv_i h5) P 22 _)
    rw [this, if_neg (show ¬ (1 : Int32) < nI (0 + 1) by decide), if_neg n10, if_neg n10, rB_si (by omega), xk_s, rB_si (by omega), xk_s]
  have e82 : f_Book_fetch P (rB P N h j v) = some (some 0, rB P N (mv_si (mv_si (mv_si h5 P 22 (nI (0 + 1))) P 18 (nI ta)) P 21 (nI tb)) (j + 3 + 1 + 1) v5) := by
    unfold f_Book_fetch
    rw [e1, xtb_s, e2, xtb_s, e49, e50, e3, xtb_s, e4, xtb_s, e5, xtb_s, thgI rfl Q5.1.tr hn2 npq1.1 npq1.2, xhb_s, r49, r50, thgI rfl Q5.1.tr hn2 npq2.1 npq2.2, xhb_s, ca, cb, show resI (some ta) = nI ta from rfl, show resI (some tb) = nI tb from rfl, if_neg (nI_neg (by omega)), xvi_n (show ta < 4100 by omega) (by decide), cond_true, cln (by omega), ra6, if_pos rfl]
    unfold f_Book_fetch_82
    rw [if_neg (nI_neg (by omega)), xvi_n (show tb < 4100 by omega) (by decide), cond_true, cond_true, cln (by omega), if_neg rb6, rb3, if_pos rfl]
    unfold f_Book_fetch_121
    exact e126
  obtain ⟨Q5q, TZ, FE, ZR, BD⟩ := Q5
  refine ⟨0, _, v5, m, e82, ⟨?_, ?_, ?_, ZR, ?_⟩, by show j < j + 5; omega⟩
  · exact ((Q5q.s22 (f := 0) (by omega) ((txT T N).nm (j + 1), (txT T N).nm (j + 3))).si (by omega) _).si (by omega) _
  · intro q e t h1 h2 ht0
    refine TZ q e t h1 h2 ?_
    unfold tfz at ht0 ⊢
    rw [sin9 _ _ (by omega), sin9 _ _ (by omega), sin9 _ _ (by omega)] at ht0
    exact ht0
  · show (s.lk ((txT T N).nm (j + 1))).1 = 1 ∧ (s.lk ((txT T N).nm (j + 3))).1 = 2 ∧ mv_i (mv_si (mv_si (mv_si h5 P 22 (nI (0 + 1))) P 18 (nI ta)) P 21 (nI tb)) P 18 = nI (lz ((txT T N).nm (j + 1))) ∧ mv_i (mv_si (mv_si (mv_si h5 P 22 (nI (0 + 1))) P 18 (nI ta)) P 21 (nI tb)) P 21 = nI (lz ((txT T N).nm (j + 3)))
    rw [za, zb, mv_si_s, sin9 _ _ (by omega), mv_si_s, cc.2.1]
    exact ⟨cc.1, rfl, rfl, rfl⟩
  · exact ((BD.si P 22 _).si P 18 _).si P 21 _
end ITG
