/-! good roads: statements -/
theorem ZQ.si {P N : Nat} {T : Nat → Nat} {lz : LZ} {C LW : List Nat} {Tn : Nat} {h : mv_H} (Z : ZQ P N T lz C LW Tn h) {c : Nat} (hc : ¬ (c = 17 ∨ c = 29 ∨ c = 30 ∨ c = 35)) (x : Int32) : ZQ P N T lz C LW Tn (mv_si h P c x) := by
  have ei : ∀ k, ¬ k = c → mv_i (mv_si h P c x) P k = mv_i h P k := fun k hk => mv_u_ne (mv_i h) _ (by omega)
  have e1 : lfz P (mv_si h P c x) = lfz P h := by
    funext q e
    unfold lfz
    rw [ei 35 (by omega)]
    rfl
  have e2 : tfz P (mv_si h P c x) = tfz P h := by
    funext q e
    unfold tfz
    rw [ei 17 (by omega)]
    rfl
  have e3 : cfz P N (mv_si h P c x) = cfz P N h := by
    funext q
    unfold cfz
    rw [ei 30 (by omega), ei 29 (by omega)]
    rfl
  unfold ZQ
  rw [ei 17 (by omega), e1, e2, e3]
  exact Z
theorem ZQ.nmK {P N : Nat} {T : Nat → Nat} {lz : LZ} {C LW : List Nat} {Tn : Nat} {h : mv_H} (Z : ZQ P N T lz C LW Tn h) (j : Nat) : ZQ P N T lz C LW Tn (nmK P N T h j) := (Z.si (by omega) _).si (by omega) _
theorem nmG {P N : Nat} {T : Nat → Nat} {lk : LK} {d m : Nat} {h : mv_H} (E : ESq P N T lk true d h m) {j : Nat} (G : gkT T N j) (v : Int64) {u : Unit} (e : ndq (txT T N) d j 3 = some u) : kdT T N j = 3 ∧ gkT T N (j + 1) ∧ d ≤ 60 ∧ ∃ v', f_Book_name P (rB P N h j v) = some (some 0, rB P N (nmK P N T h j) (j + 1) v') := by
  rcases name_S E G v with ⟨k2, G2, p2, s2, v2, e2⟩ | ⟨s2, g, e2⟩
  · exact ⟨k2, G2, ps_d p2, v2, e2⟩
  · rw [s2] at e; cases e
/-- the deepest ifs of a statement -/
def usD (d : Nat) : Nat := 62 - d
section SOG
variable (P N : Nat) (T : Nat → Nat) (C : List Nat) (Tn : Nat)
def SQg (lk : LK) (lz : LZ) (le : Nat) (LW : List Nat) (d : Nat) (h : mv_H) (m j : Nat) : Prop := SQq P N T lk le true d h m j ∧ ZQ P N T lz C LW Tn h ∧ LW.length = le
def SOg (nn : Nat) (LW : List Nat) (d j m : Nat) (h : mv_H) (r : VS) (res : Option (Option Int32 × mv_H)) : Prop := ∃ x h' v' m' LW', res = some (some (nI x), rB P N h' r.1 v') ∧ SRq P N T r.2.1.1 r.2.2.1 true d j r.1 m m' h h' ∧ (ZQ P N T r.2.1.2 C LW' Tn h' ∧ LW'.length = r.2.2.1 ∧ PxL LW LW') ∧ NB P m h h' ∧ SN P h' Tn C nn (usD d) LW m x r.2.2.2 LW' m' ∧ mv_a h' (P + 22) x = -1
def BOg (nn : Nat) (LW : List Nat) (lk : LK) (lz : LZ) (d j m : Nat) (h : mv_H) (r : VS) (res : Option (Option Int32 × mv_H)) : Prop := r.2.1 = (lk, lz) ∧ ∃ a h' v' m' LW', res = some (some a, rB P N h' r.1 v') ∧ SRq P N T lk r.2.2.1 true d j r.1 m m' h h' ∧ mv_i h' P 35 = mv_i h P 35 ∧ (ZQ P N T lz C (padL LW LW') Tn h' ∧ LW'.length = r.2.2.1 ∧ PxL LW LW') ∧ NB P m h h' ∧ BKq P h' (SN P h' Tn C nn (usD (d + 1))) LW m a r.2.2.2 LW' m'
end SOG
theorem padL_len {LW L1 : List Nat} (h : PxL LW L1) : (padL LW L1).length = L1.length := by
  obtain ⟨l, rfl⟩ := h
  unfold padL
  rw [List.length_append, List.length_replicate, List.length_append]
  omega
/-! a let more -/
theorem fsz_add {t : Nat → Int32} {r14 r15 r14' r15' : Nat → Int32} {L q0 e0 : Nat} (h : ∀ k, k < L → r14' k = r14 k ∧ r15' k = r15 k) (h14 : (r14' L).toNatClampNeg = q0) (h15 : (r15' L).toNatClampNeg = e0) (q e : Nat) : fsz t (L + 1) r14' r15' q e = match fsz t L r14 r15 q e with
      | some x => some x
      | none => if s7z t q0 (e0 - q0) = s7z t q (e - q) then some L else none := by
  unfold fsz
  rw [fstm_add, fstm_cg (p := fun i => decide (s7z t (r14 i).toNatClampNeg ((r15 i).toNatClampNeg - (r14 i).toNatClampNeg) = s7z t q (e - q))) L 0 (fun k _ hk => by have := h k (by omega); simp only [this.1, this.2])]
  simp only [Nat.zero_add, h14, h15, decide_eq_true_eq]
  cases fstm (fun i => decide (s7z t (r14 i).toNatClampNeg ((r15 i).toNatClampNeg - (r14 i).toNatClampNeg) = s7z t q (e - q))) L 0 <;> rfl
theorem ltH_Z {P N : Nat} {T : Nat → Nat} {lk : LK} {lz : LZ} {C LW : List Nat} {Tn d m : Nat} {h : mv_H} (E : ESq P N T lk true d h m) (Z : ZQ P N T lz C LW Tn h) (hb7 : byt7 h) {L lr q0 e0 w : Nat} (hL : mv_i h P 35 = nI L) (hL2 : L < 4100) (hq : q0 ≤ e0) (he : e0 ≤ N) (hw : w ≤ 64) (hz : (lk (tn T q0 (e0 - q0))).1 = 0) (hlr : lr < 64) (hLW : LW.length = lr) : ZQ P N T (updZ lz (tn T q0 (e0 - q0)) lr) C (LW ++ [w]) Tn (ltH P L lr q0 e0 (nI w) h) := by
  have hP := E.hb.p
  have hn2 := E.hb.n2
  have X := ltH_fr (P := P) (h := h) (L := L) lr q0 e0 (nI w)
  have e35 : mv_i (ltH P L lr q0 e0 (nI w) h) P 35 = nI (L + 1) := by rw [ltH_i, if_neg (by omega), if_pos ⟨rfl, rfl⟩]
  have c35 : (mv_i h P 35).toNatClampNeg = L := by rw [hL, cln (by omega)]
  have c35' : (mv_i (ltH P L lr q0 e0 (nI w) h) P 35).toNatClampNeg = L + 1 := by rw [e35, cln (by omega)]
  have r14 : mv_a (ltH P L lr q0 e0 (nI w) h) (P + 14) L = nI q0 := by rw [ltH_a, if_neg (by omega), if_neg (by omega), if_neg (by omega), if_pos ⟨rfl, rfl⟩]
  have r15 : mv_a (ltH P L lr q0 e0 (nI w) h) (P + 15) L = nI e0 := by rw [ltH_a, if_neg (by omega), if_neg (by omega), if_pos ⟨rfl, rfl⟩]
  have r16 : mv_a (ltH P L lr q0 e0 (nI w) h) (P + 16) L = nI w := by rw [ltH_a, if_neg (by omega), if_pos ⟨rfl, rfl⟩]
  have r17 : mv_a (ltH P L lr q0 e0 (nI w) h) (P + 17) L = nI lr := by rw [ltH_a, if_pos ⟨rfl, rfl⟩]
  have et : tfz P (ltH P L lr q0 e0 (nI w) h) = tfz P h := by
    funext q e
    unfold tfz
    rw [X.a 71 (by omega), X.i P 17 (by omega), X.a (P + 1) (by omega), X.a (P + 2) (by omega)]
  have ec : cfz P N (ltH P L lr q0 e0 (nI w) h) = cfz P N h := by
    funext q
    unfold cfz
    rw [X.ckq hP, X.i P 30 (by omega), X.i P 29 (by omega), X.a (P + 10) (by omega), X.a (P + 13) (by omega)]
  refine ⟨by rw [X.i P 17 (by omega)]; exact Z.1, fun q e h1 h2 => ?_⟩
  have old := E.ev rfl q e h1 h2
  have z := Z.2 q e h1 h2
  have hs := s7_tn_iff hb7 hn2 E.hb.t hq he h1 h2
  have el : lfz P (ltH P L lr q0 e0 (nI w) h) q e = match lfz P h q e with
      | some x => some x
      | none => if s7z (mv_a h 71) q0 (e0 - q0) = s7z (mv_a h 71) q (e - q) then some L else none := by
    unfold lfz
    rw [c35', c35, X.a 71 (by omega)]
    exact fsz_add (fun k hk => ⟨X.q (P + 14) k (by omega) (by omega) hk, X.q (P + 15) k (by omega) (by omega) hk⟩) (by rw [r14, cln (by omega)]) (by rw [r15, cln (by omega)]) q e
  rw [el, et, ec, X.ckq hP]
  by_cases c : tn T q (e - q) = tn T q0 (e0 - q0)
  · have hn : lfz P h q e = none := by
      cases cl : lfz P h q e with
      | none => rfl
      | some i =>
        have : lkQ P N h q e = (3, (mv_a h (P + 16) i).toNatClampNeg) := by
          show (match lfz P h q e with | some i => _ | none => _) = _
          rw [cl]
        rw [this, c] at old
        rw [← old] at hz
        exact absurd hz (by show ¬ 3 = 0; decide)
    rw [hn, if_pos (hs.mpr c)]
    have eu : updZ lz (tn T q0 (e0 - q0)) lr (tn T q (e - q)) = lr := if_pos c
    show updZ lz (tn T q0 (e0 - q0)) lr (tn T q (e - q)) < 64 ∧ mv_a (ltH P L lr q0 e0 (nI w) h) (P + 17) L = nI (updZ lz (tn T q0 (e0 - q0)) lr (tn T q (e - q))) ∧ (LW ++ [w])[updZ lz (tn T q0 (e0 - q0)) lr (tn T q (e - q))]? = some (mv_a (ltH P L lr q0 e0 (nI w) h) (P + 16) L).toNatClampNeg ∧ (mv_a (ltH P L lr q0 e0 (nI w) h) (P + 16) L).toNatClampNeg ≤ 64
    rw [eu, r16, r17, cln (by omega)]
    refine ⟨hlr, rfl, ?_, hw⟩
    rw [List.getElem?_append_right (by omega), hLW, Nat.sub_self]
    rfl
  · have eu : updZ lz (tn T q0 (e0 - q0)) lr (tn T q (e - q)) = lz (tn T q (e - q)) := if_neg c
    have ns : ¬ s7z (mv_a h 71) q0 (e0 - q0) = s7z (mv_a h 71) q (e - q) := fun w => c (hs.mp w)
    cases cl : lfz P h q e with
    | some i =>
      rw [cl] at z
      obtain ⟨z1, z2, z3, z4⟩ := z
      have hi : i < L := by rw [← c35]; exact fsz_lt cl
      show updZ lz (tn T q0 (e0 - q0)) lr (tn T q (e - q)) < 64 ∧ mv_a (ltH P L lr q0 e0 (nI w) h) (P + 17) i = nI (updZ lz (tn T q0 (e0 - q0)) lr (tn T q (e - q))) ∧ (LW ++ [w])[updZ lz (tn T q0 (e0 - q0)) lr (tn T q (e - q))]? = some (mv_a (ltH P L lr q0 e0 (nI w) h) (P + 16) i).toNatClampNeg ∧ (mv_a (ltH P L lr q0 e0 (nI w) h) (P + 16) i).toNatClampNeg ≤ 64
      rw [eu, X.q (P + 17) i (by omega) (by omega) hi, X.q (P + 16) i (by omega) (by omega) hi]
      refine ⟨z1, z2, ?_, z4⟩
      exact PxL.inn ⟨[w], rfl⟩ z3
    | none =>
      rw [cl] at z
      have e0' : (match (none : Option Nat) with | some x => some x | none => if s7z (mv_a h 71) q0 (e0 - q0) = s7z (mv_a h 71) q (e - q) then some L else none) = none := by
        show (if _ then _ else _) = _
        rw [if_neg ns]
      rw [e0']
      unfold ZZ1 at z ⊢
      rw [eu]
      exact z
section STG
variable {P N : Nat} {T : Nat → Nat} {C : List Nat} {Tn : Nat} {lk : LK} {lz : LZ} {le : Nat} {LW : List Nat} {d m j : Nat} {h : mv_H}
theorem lts_G (nn : Nat) (Q : SQg P N T C Tn lk lz le LW d h m j) (hk : kdT T N j = 207) (v : Int64) {r : VS} (ht : tLe (txT T N) C lk lz le d j = some r) : SOg P N T C Tn (nn + 1) LW d j m h r (f_Book_letStatement P (rB P N h j v)) := by
  obtain ⟨Q, Z, hLW⟩ := Q
  have E := Q.es
  have H := E.hb
  have hP := H.p
  have n10 := Q.n10
  have hmj := Q.mj
  unfold tLe at ht
  obtain ⟨u1, g1, ht⟩ := obn ht
  obtain ⟨u2, g2, ht⟩ := obn ht
  obtain ⟨u3, g3, ht⟩ := obn ht
  obtain ⟨⟨j4, w4, D4⟩, t4, ht⟩ := obn ht
  obtain ⟨u5, g5, ht⟩ := obn ht
  have cc : (lk ((txT T N).nm (j + 1))).1 = 0 ∧ le < 64 := by
    by_cases q : (lk ((txT T N).nm (j + 1))).1 = 0 ∧ le < 64
    · exact q
    · rw [if_neg q] at ht; cases ht
  rw [if_pos cc] at ht
  obtain rfl := Option.some.inj ht
  obtain ⟨hd, G1, v1, e1⟩ := psG H Q.gk (by omega) (by omega) v g1
  obtain ⟨k2, G2, -, v2, e2⟩ := nmG E G1 v1 g2
  have E2 := E.nmK (j + 1)
  have H2 := E2.hb
  have pq := name_pq E G1
  have en := nm_tn E G1 k2
  have e49 : mv_i (rB P N (nmK P N T h (j + 1)) (j + 1 + 1) v2) P 49 = nI (pos T N (j + 1)) := (rB_o _ _ (by omega)).trans (nmK_49 _)
  have e50 : mv_i (rB P N (nmK P N T h (j + 1)) (j + 1 + 1) v2) P 50 = nI (bp T N (j + 1 + 1)) := (rB_o _ _ (by omega)).trans (nmK_50 _)
  obtain ⟨k3, -, G3, v3, e3⟩ := nG H2 G2 (c := 61) (k := 61) (by omega) (H2.ch (c := 61) G2 (by omega) (by omega)) v2 g3
  have Z2 := Z.nmK (j + 1)
  obtain ⟨x4, h4, v4, m4, e4, R4, B4, N4, O4⟩ := xG P N T lk lz C LW Tn 868 0 0 0 d (j + 3) _ m v3 _ (F868 (by omega)) E2 Z2 G3 (by omega) (preg0 (Or.inl rfl)) t4
  have e4 : f_BookR P 868 0 0 (rB P N (nmK P N T h (j + 1)) (j + 1 + 1 + 1) v3) = some (some (nI x4), rB P N h4 j4 v4) := e4
  have R4 : XRq P N T lk true d (j + 3) j4 m m4 (nmK P N T h (j + 1)) h4 x4 w4 := R4
  have N4 : ND P h4 Tn m C LW (x4 + 1) (rho 0 0 d) x4 w4 D4 := N4
  have E4 := R4.es
  have H4 := E4.hb
  obtain ⟨k5, -, G5, v5, e5⟩ := nG H4 R4.gk (c := 59) (k := 59) (by omega) (H4.ch (c := 59) R4.gk (by omega) (by omega)) v4 g5
  have hc4 := R4.cnt
  have hj4 := R4.jj
  have hm4 := R4.mm
  have xm4 := R4.xm
  have wd := N4.wd
  have hjb := gk_n E4 G5
  have h4m : m4 < 33000 := by omega
  have X4 := R4.fr
  have Z4 := Z2.fr X4 hP
  have i35 : mv_i h4 P 35 = mv_i h P 35 := X4.L.1.trans (nmK_i (by omega) _)
  have i36 : mv_i h4 P 36 = mv_i h P 36 := X4.L.2.1.trans (nmK_i (by omega) _)
  have a71 : mv_a h4 71 = mv_a h 71 := X4.a 71 (by omega)
  have F4 : SFr P (mv_i h P 35).toNatClampNeg h h4 := (nmK_fr _ _).trans X4.s (Nat.le_refl _)
  have hlk : lk ((txT T N).nm (j + 1)) = lkQ P N h4 (pos T N (j + 1)) (bp T N (j + 1 + 1)) := by rw [en]; exact (E4.ev rfl _ _ pq.1 pq.2).symm
  have elk : lkQ P N h4 (pos T N (j + 1)) (bp T N (j + 1 + 1)) = match lfz P h4 (pos T N (j + 1)) (bp T N (j + 1 + 1)) with
      | some i => (3, (mv_a h4 (P + 16) i).toNatClampNeg)
      | none => if bp T N (j + 1 + 1) - pos T N (j + 1) = 1 ∧ isl (ck h4 N (pos T N (j + 1))) = true ∧ 0 < cfz P N h4 (pos T N (j + 1)) then (3, cfz P N h4 (pos T N (j + 1))) else match tfz P h4 (pos T N (j + 1)) (bp T N (j + 1 + 1)) with
        | some i => if mv_a h4 (P + 6) i = 0 then (1, (mv_a h4 (P + 3) i).toNatClampNeg) else (2, (mv_a h4 (P + 3) i).toNatClampNeg)
        | none => (0, 0) := rfl
  have cl0 := cc.1
  rw [hlk] at cl0
  have c1 : lfz P h4 (pos T N (j + 1)) (bp T N (j + 1 + 1)) = none := by
    cases c1 : lfz P h4 (pos T N (j + 1)) (bp T N (j + 1 + 1)) with
    | none => rfl
    | some i => rw [elk, c1] at cl0; exact absurd (show 3 = 0 from cl0) (by decide)
  rw [elk, c1] at cl0
  have c2 : ¬ (bp T N (j + 1 + 1) - pos T N (j + 1) = 1 ∧ isl (ck h4 N (pos T N (j + 1))) = true ∧ 0 < cfz P N h4 (pos T N (j + 1))) := fun c2 => by
    simp only [if_pos c2] at cl0
    exact absurd cl0 (by decide)
  simp only [if_neg c2] at cl0
  have c3 : tfz P h4 (pos T N (j + 1)) (bp T N (j + 1 + 1)) = none := by
    cases c3 : tfz P h4 (pos T N (j + 1)) (bp T N (j + 1 + 1)) with
    | none => rfl
    | some t =>
      rw [c3] at cl0
      have cl0 : (if mv_a h4 (P + 6) t = 0 then (1, (mv_a h4 (P + 3) t).toNatClampNeg) else (2, (mv_a h4 (P + 3) t).toNatClampNeg)).1 = 0 := cl0
      split at cl0
      · exact absurd (show 1 = 0 from cl0) (by decide)
      · exact absurd (show 2 = 0 from cl0) (by decide)
  obtain ⟨lr, hlr, hlr2, hlr3⟩ := Q.le0
  have hlr3 := hlr3 rfl
  subst hlr3
  have e36 : mv_i (rB P N h4 (j4 + 1) v5) P 36 = nI lr := (rB_o _ _ (by omega)).trans (i36.trans hlr)
  have hL5 := Q.ln
  unfold f_Book_letStatement
  rw [e1, xtb_s, e2, xtb_s, e49, e50, e3, xtb_s, e4, xtb_s, e5, xtb_s, let_S E4 pq.1 pq.2, xhb_s, c1, show resI none = -1 from rfl, if_neg (show ¬ (0 : Int32) ≤ -1 by decide), fld_S E4 pq.1 pq.2, xhb_s, if_pos (b01_dn c2), thg_S E4 pq.1 pq.2, xhb_s, c3, show resI none = -1 from rfl, if_pos (show (-1 : Int32) < 0 by decide), e36, if_pos (show nI lr < (64 : Int32) from Int32.not_le.mp (fun z => by have := (nIle (a := 64) (by omega) (by omega)).mp z; omega))]
  have q35 : mv_i h4 P 35 = nI (mv_i h P 35).toNatClampNeg := by rw [i35]; exact E.ro.l0
  have q36 : mv_i h4 P 36 = nI lr := i36.trans hlr
  generalize hLdef : (mv_i h P 35).toNatClampNeg = L at q35 hL5 F4
  have hL : L < 4100 := by omega
  have hb7 : byt7 h4 := byt7_row a71 Q.b7
  have ew : mv_a h4 (P + 23) x4 = nI w4 := wd.1
  obtain ⟨lk', hlk', E7⟩ := ltH_S E4 hb7 (L := L) (lr := lr) q35 hL pq.1 pq.2 (by omega : w4 ≤ 40000) true (fun _ => ⟨rfl, by rw [← en]; exact cc.1, wd.2.1⟩) E4.fa (Or.inl (lkP_upd E.lp ⟨wd.2.1, by omega⟩ _))
  have hlk' := hlk' rfl
  subst hlk'
  have Z7 := ltH_Z E4 Z4 hb7 (L := L) (lr := lr) q35 hL pq.1 pq.2 wd.2.2.1 (by rw [← en]; exact cc.1) cc.2 hLW
  rw [← en] at E7 Z7
  obtain ⟨e8, E8⟩ := nNx E7 h4m 14 (nI lr) (nI x4) 0 (w := 0) (by omega) (j4 + 1) v5
  have Fl := ltH_fr (P := P) (h := h4) (L := L) lr (pos T N (j + 1)) (bp T N (j + 1 + 1)) (nI w4)
  have X8 : XFr P m4 (ltH P L lr (pos T N (j + 1)) (bp T N (j + 1 + 1)) (nI w4) h4) (ndH P m4 14 (nI lr) (nI x4) 0 0 (ltH P L lr (pos T N (j + 1)) (bp T N (j + 1 + 1)) (nI w4) h4)) := ndH_X
  have z35 := X8.L.1.trans (show mv_i (ltH P L lr (pos T N (j + 1)) (bp T N (j + 1 + 1)) (nI w4) h4) P 35 = nI (L + 1) by rw [ltH_i, if_neg (by omega), if_pos ⟨rfl, rfl⟩])
  have z36 := X8.L.2.1.trans (show mv_i (ltH P L lr (pos T N (j + 1)) (bp T N (j + 1 + 1)) (nI w4) h4) P 36 = nI (lr + 1) by rw [ltH_i, if_pos ⟨rfl, rfl⟩])
  have e95 : f_Book_letStatement_95 P (nI (pos T N (j + 1))) (nI (bp T N (j + 1 + 1))) (nI x4) (rB P N h4 (j4 + 1) v5) = some (some (nI m4), rB P N (ndH P m4 14 (nI lr) (nI x4) 0 0 (ltH P L lr (pos T N (j + 1)) (bp T N (j + 1 + 1)) (nI w4) h4)) (j4 + 1) v5) := by
    unfold f_Book_letStatement_95
    have r35 : mv_i (rB P N h4 (j4 + 1) v5) P 35 = nI L := (rB_o _ _ (by omega)).trans q35
    have r36 : mv_i (rB P N h4 (j4 + 1) v5) P 36 = nI lr := (rB_o _ _ (by omega)).trans q36
    have ewb : mv_a (rB P N h4 (j4 + 1) v5) (P + 23) x4 = nI w4 := ew
    have s35 : ∀ g o k x, mv_i (mv_sa g o k x) = mv_i g := fun _ _ _ _ => rfl
    simp only [xk_s, s35, r35, r36]
    have s23 : mv_a (mv_sa (mv_sa (rB P N h4 (j4 + 1) v5) (P + 14) (nI L).toNatClampNeg (nI (pos T N (j + 1)))) (P + 15) (nI L).toNatClampNeg (nI (bp T N (j + 1 + 1)))) (P + 23) (nI x4).toNatClampNeg = nI w4 := by
      rw [cln (show x4 < 2147483648 by omega)]
      exact (mv_u_ne (mv_a (mv_sa (rB P N h4 (j4 + 1) v5) (P + 14) (nI L).toNatClampNeg (nI (pos T N (j + 1))))) _ (by omega)).trans ((mv_u_ne (mv_a (rB P N h4 (j4 + 1) v5)) _ (by omega)).trans ewb)
    rw [s23, xvi_n hL (by decide), xvi_n (show x4 < 33000 by omega) (by decide)]
    simp only [cond_true]
    have t35 : ∀ g x, mv_i (mv_si g P 35 x) P 36 = mv_i g P 36 := fun g x => mv_u_ne (mv_i g) _ (by omega)
    have t36 : ∀ g x, mv_i (mv_si g P 36 x) P 36 = x := fun g x => mv_u_same (mv_i g) P 36 x
    simp only [t36, t35, s35, r36]
    rw [nI1 (by omega), nI1 (by omega), cln (by omega), rB_sa (by omega), rB_sa (by omega), rB_sa (by omega), rB_sa (by omega), rB_si (by omega), rB_si (by omega)]
    have e1 : nI (lr + 1) - 1 = nI lr := nIsub (a := lr + 1) (b := 1) (by omega) (by omega)
    rw [e1]
    show xhb (f_Book_node P (rB P N (ltH P L lr (pos T N (j + 1)) (bp T N (j + 1 + 1)) (nI w4) h4) (j4 + 1) v5) 14 (nI lr) (nI x4) 0 (nI 0)) _ = _
    rw [e8, xhb_s]
  rw [e95]
  have FF : SFr P L h (ndH P m4 14 (nI lr) (nI x4) 0 0 (ltH P L lr (pos T N (j + 1)) (bp T N (j + 1 + 1)) (nI w4) h4)) := (F4.trans Fl (Nat.le_refl _)).trans X8.s (Nat.le_refl _)
  have SQ8 : SQq P N T (updK lk ((txT T N).nm (j + 1)) (3, w4)) (lr + 1) true d (ndH P m4 14 (nI lr) (nI x4) 0 0 (ltH P L lr (pos T N (j + 1)) (bp T N (j + 1 + 1)) (nI w4) h4)) (m4 + 1) (j4 + 1) := ⟨E8, n10, FF.b7 hP Q.b7, ⟨lr + 1, z36, by omega, fun _ => rfl⟩, by rw [z35, cln (by omega)]; omega, G5, by omega, by rw [FF.i P 17 (by omega), FF.a (P + 6) (by omega)]; exact Q.f6⟩
  have lt_a : ∀ o k, P + 18 ≤ o → mv_a (ltH P L lr (pos T N (j + 1)) (bp T N (j + 1 + 1)) (nI w4) h4) o k = mv_a h4 o k := fun o k q => by rw [ltH_a, if_neg (by omega), if_neg (by omega), if_neg (by omega), if_neg (by omega)]
  have B7 : NB P m4 h4 (ltH P L lr (pos T N (j + 1)) (bp T N (j + 1 + 1)) (nI w4) h4) := ⟨fun o k q _ _ => lt_a o k q, fun _ _ => rfl⟩
  have B8 : NB P m4 h4 (ndH P m4 14 (nI lr) (nI x4) 0 0 (ltH P L lr (pos T N (j + 1)) (bp T N (j + 1 + 1)) (nI w4) h4)) := B7.trans ndH_B (Nat.le_refl _)
  have BB : NB P m h (ndH P m4 14 (nI lr) (nI x4) 0 0 (ltH P L lr (pos T N (j + 1)) (bp T N (j + 1 + 1)) (nI w4) h4)) := NB.trans (h1 := h4) B4 B8 hm4
  have N8 : ND P (ndH P m4 14 (nI lr) (nI x4) 0 0 (ltH P L lr (pos T N (j + 1)) (bp T N (j + 1 + 1)) (nI w4) h4)) Tn 0 C LW (x4 + 1) 633 x4 w4 D4 := by
    have g : GSq P 0 m4 h4 (ndH P m4 14 (nI lr) (nI x4) 0 0 (ltH P L lr (pos T N (j + 1)) (bp T N (j + 1 + 1)) (nI w4) h4)) := B8.g (Nat.le_refl _) (Fl.trans X8.s (Nat.le_refl _))
    exact ((N4.lo (Nat.zero_le _)).rk (by unfold rho; rw [if_pos rfl]; omega)).fr g.1 xm4
  refine ⟨m4, _, v5, m4 + 1, LW ++ [w4], rfl, ⟨SQ8, by rw [hLdef]; exact FF, by show j < j4 + 1; omega, by show m4 + 1 + j ≤ m + (j4 + 1); omega, by omega, by rw [z35, hLdef, cln (by omega)]; omega, by rw [z35, hLdef, cln (by omega)]; show 5 * (L + 1) + j ≤ 5 * L + (j4 + 1); omega⟩, ⟨Z7.fr X8 hP, by rw [List.length_append, hLW]; rfl, [w4], rfl⟩, BB, ⟨⟨h4m, hm4, by omega⟩, Or.inl ⟨x4, w4, x4 + 1, D4, ndH_18, by rw [ndH_19, hLW], by omega, ndH_20, xm4, N8, by rw [hLW], rfl⟩⟩, ndH_22⟩
theorem trp_G (nn : Nat) (Q : SQg P N T C Tn lk lz le LW d h m j) (hk : kdT T N j = 208) (v : Int64) {r : VS} (ht : tTr (txT T N) lk lz le d j = some r) : SOg P N T C Tn (nn + 1) LW d j m h r (xtb (f_Book_pass P (rB P N h j v)) fun u45 g44 => xtb (f_Book_ranged P g44 (1 : Int64) (1000000 : Int64)) fun u47 g46 => xtb (f_Book_need P g46 (59 : Int32)) fun u49 g48 => xhb (f_Book_node P g48 (17 : Int32) u47 (0 : Int32) (0 : Int32) (0 : Int32)) fun u51 g50 => some (some u51, g50)) := by
  obtain ⟨Q, Z, hLW⟩ := Q
  have E := Q.es
  have H := E.hb
  have hmj := Q.mj
  unfold tTr at ht
  obtain ⟨u1, g1, ht⟩ := obn ht
  obtain ⟨u2, g2, ht⟩ := obn ht
  obtain ⟨u3, g3, ht⟩ := obn ht
  have cc : 1 ≤ (txT T N).nu (j + 1) ∧ (txT T N).nu (j + 1) ≤ 1000000 := by
    by_cases q : 1 ≤ (txT T N).nu (j + 1) ∧ (txT T N).nu (j + 1) ≤ 1000000
    · exact q
    · rw [if_neg q] at ht; cases ht
  rw [if_pos cc] at ht
  obtain rfl := Option.some.inj ht
  obtain ⟨hd, G1, v1, e1⟩ := psG H Q.gk (by omega) (by omega) v g1
  rcases rng_S E G1 (lo := 1) (hi := 1000000) (by omega) (by omega) v1 with ⟨k2, G2, s2, v2, h2, b2, x, e2, E2, X2, hr⟩ | ⟨s2, g, e2⟩
  rotate_left
  · rw [s2] at g2; cases g2
  obtain ⟨-, -, rfl, rfl, rfl⟩ := hr.resolve_right (fun q => q.1 cc)
  obtain ⟨k3, -, G3, v3, e3⟩ := nG H G2 (c := 59) (k := 59) (by omega) (H.ch (c := 59) G2 (by omega) (by omega)) v2 g3
  have hjb := gk_n E G3
  have n10 := Q.n10
  obtain ⟨e4, E4⟩ := nNx E (show m < 33000 by omega) 17 (nI ((txT T N).nu (j + 1))) 0 0 (w := 0) (by omega) (j + 1 + 1 + 1) v3
  rw [e1, xtb_s, show (1 : Int64) = nJ 1 from rfl, show (1000000 : Int64) = nJ 1000000 from rfl, e2, xtb_s, e3, xtb_s]
  show SOg P N T C Tn (nn + 1) LW d j m h2 _ (xhb (f_Book_node P (rB P N h2 (j + 1 + 1 + 1) v3) 17 (nI ((txT T N).nu (j + 1))) 0 0 (nI 0)) _)
  rw [e4, xhb_s]
  have XX : XFr P m h2 (ndH P m 17 (nI ((txT T N).nu (j + 1))) 0 0 0 h2) := ndH_X
  exact ⟨m, _, v3, m + 1, LW, rfl, ⟨Q.x (L := 0) (fun w => w) E4 XX.L.1 XX.L.2.1 XX.s G3 (by show j ≤ j + 3; omega) (by show m + 1 ≤ j + 3; omega), XX.s, by show j < j + 3; omega, by show m + 1 + j ≤ m + (j + 3); omega, by omega, by rw [XX.L.1]; omega, by rw [XX.L.1]; show 5 * _ + j ≤ 5 * _ + (j + 3); omega⟩, ⟨Z.fr XX H.p, hLW, [], (List.append_nil _).symm⟩, ndH_B, ⟨⟨by omega, Nat.le_refl _, by omega⟩, Or.inr (Or.inr (Or.inr (Or.inl ⟨(txT T N).nu (j + 1), ndH_18, ndH_19, cc.1, cc.2, rfl, rfl⟩)))⟩, ndH_22⟩
/-- behind what is assigned -/
theorem as2_G (kS : Nat → mv_H → Option (Option Int32 × mv_H)) (nn : Nat) {j0 m0 : Nat} {h0 : mv_H} {i : Nat} (Q : SQq P N T lk le true d h m i) (Z : ZQ P N T lz C LW Tn h) (hLW : LW.length = le) (hj0 : j0 < i) (Gj : gkT T N j0) (hkj : kdT T N j0 = 3) (F0 : SFr P (mv_i h0 P 35).toNatClampNeg h0 h) (B0 : NB P m0 h0 h) (q35 : mv_i h P 35 = mv_i h0 P 35) (hc0 : m + j0 ≤ m0 + i) (hm0 : m0 ≤ m) {f : Bool} (x3 : Int32) (Di : DnE) (hx3 : f = true → ∃ xi wi, x3 = nI xi ∧ xi < m ∧ ND P h Tn 0 C LW (xi + 1) 633 xi wi Di) (v : Int64) {r : VS} (ht : tA2 (txT T N) C lk lz le d j0 (bif f then 2 else 1) i (bif f then zCl (lz ((txT T N).nm j0)) Di else zRg (lz ((txT T N).nm j0))) = some r) :
    SOg P N T C Tn (nn + 1) LW d j0 m0 h0 r (f_Book_statement_142 P kS (nI (pos T N j0)) (nI (bp T N (j0 + 1))) x3 (b01 f) (rB P N h i v)) := by
  have E := Q.es
  have H := E.hb
  have hmj := Q.mj
  have n10 := Q.n10
  have pq := name_pq E Gj
  have en := nm_tn E Gj hkj
  unfold tA2 at ht
  obtain ⟨u3, g3, ht⟩ := obn ht
  obtain ⟨⟨j4, w4, D4⟩, t4, ht⟩ := obn ht
  obtain ⟨u5, g5, ht⟩ := obn ht
  have cc : lk ((txT T N).nm j0) = (bif f then 2 else 1, w4) := by
    by_cases q : lk ((txT T N).nm j0) = (bif f then 2 else 1, w4)
    · exact q
    · rw [if_neg q] at ht; cases ht
  rw [if_pos cc] at ht
  obtain rfl := Option.some.inj ht
  obtain ⟨k3, hd, G3, v3, e3⟩ := nG H Q.gk (c := 61) (k := 61) (by omega) (H.ch (c := 61) Q.gk (by omega) (by omega)) v g3
  obtain ⟨x4, h4, v4, m4, e4, R4, B4, N4, O4⟩ := xG P N T lk lz C LW Tn 868 0 0 0 d (i + 1) _ m v3 _ (F868 (by omega)) E Z G3 (by omega) (preg0 (Or.inl rfl)) t4
  have e4 : f_BookR P 868 0 0 (rB P N h (i + 1) v3) = some (some (nI x4), rB P N h4 j4 v4) := e4
  have R4 : XRq P N T lk true d (i + 1) j4 m m4 h h4 x4 w4 := R4
  have N4 : ND P h4 Tn m C LW (x4 + 1) (rho 0 0 d) x4 w4 D4 := N4
  have E4 := R4.es
  have H4 := E4.hb
  obtain ⟨k5, -, G5, v5, e5⟩ := nG H4 R4.gk (c := 59) (k := 59) (by omega) (H4.ch (c := 59) R4.gk (by omega) (by omega)) v4 g5
  have hc4 := R4.cnt
  have hj4 := R4.jj
  have hm4 := R4.mm
  have xm4 := R4.xm
  have wd := N4.wd
  have hjb := gk_n E4 G5
  have h4m : m4 < 33000 := by omega
  have X4 := R4.fr
  have Z4 := Z.fr X4 H.p
  have hlk : lk ((txT T N).nm j0) = lkQ P N h4 (pos T N j0) (bp T N (j0 + 1)) := by rw [en]; exact (E4.ev rfl _ _ pq.1 pq.2).symm
  have elk : lkQ P N h4 (pos T N j0) (bp T N (j0 + 1)) = match lfz P h4 (pos T N j0) (bp T N (j0 + 1)) with
      | some i => (3, (mv_a h4 (P + 16) i).toNatClampNeg)
      | none => if bp T N (j0 + 1) - pos T N j0 = 1 ∧ isl (ck h4 N (pos T N j0)) = true ∧ 0 < cfz P N h4 (pos T N j0) then (3, cfz P N h4 (pos T N j0)) else match tfz P h4 (pos T N j0) (bp T N (j0 + 1)) with
        | some i => if mv_a h4 (P + 6) i = 0 then (1, (mv_a h4 (P + 3) i).toNatClampNeg) else (2, (mv_a h4 (P + 3) i).toNatClampNeg)
        | none => (0, 0) := rfl
  have kf : ∀ c : Nat, (bif f then 2 else 1) = c → c = 1 ∨ c = 2 := fun c e => by cases f <;> (simp at e; omega)
  have z1 := Z4.2 _ _ pq.1 pq.2
  rw [← en] at z1
  have cl := cc
  rw [hlk] at cl
  have c1 : lfz P h4 (pos T N j0) (bp T N (j0 + 1)) = none := by
    cases c1 : lfz P h4 (pos T N j0) (bp T N (j0 + 1)) with
    | none => rfl
    | some i => rw [elk, c1] at cl; have := kf 3 (congrArg Prod.fst cl).symm; omega
  rw [elk, c1] at cl
  rw [c1] at z1
  have c2 : ¬ (bp T N (j0 + 1) - pos T N j0 = 1 ∧ isl (ck h4 N (pos T N j0)) = true ∧ 0 < cfz P N h4 (pos T N j0)) := fun c2 => by
    simp only [if_pos c2] at cl
    have := kf 3 (congrArg Prod.fst cl).symm; omega
  simp only [if_neg c2] at cl
  have z1 : (if decide (bp T N (j0 + 1) - pos T N j0 = 1) = true ∧ isl (ck h4 N (pos T N j0)) = true ∧ 0 < cfz P N h4 (pos T N j0) then _ else match tfz P h4 (pos T N j0) (bp T N (j0 + 1)) with | some t => lz ((txT T N).nm j0) = t | none => True) := z1
  rw [if_neg (fun q => c2 ⟨of_decide_eq_true q.1, q.2⟩)] at z1
  cases c3 : tfz P h4 (pos T N j0) (bp T N (j0 + 1)) with
  | none => rw [c3] at cl; have := kf 0 (congrArg Prod.fst cl).symm; omega
  | some t =>
  rw [c3] at cl z1
  have z1 : lz ((txT T N).nm j0) = t := z1
  have ht0 := fsz_lt c3
  have t1 := E4.ro.t1
  have t3 := E4.ro.t3 t ht0
  have htn : t < Tn := by rw [← Z4.1]; exact ht0
  have i17 : mv_i h4 P 17 = mv_i h P 17 := X4.i P 17 (by omega)
  have a6 : mv_a h4 (P + 6) = mv_a h (P + 6) := X4.a (P + 6) (by omega)
  have f6 := Q.f6 t (by rw [← i17]; exact ht0)
  rw [← a6] at f6
  have ew : mv_a (rB P N h4 (j4 + 1) v5) (P + 3) t = nI (mv_a h4 (P + 3) t).toNatClampNeg := t3.1
  have ef : mv_a (rB P N h4 (j4 + 1) v5) (P + 6) t = mv_a h4 (P + 6) t := rfl
  have ex : mv_a (rB P N h4 (j4 + 1) v5) (P + 23) (nI x4).toNatClampNeg = nI w4 := by rw [cln (by omega)]; exact wd.1
  have cl : (if mv_a h4 (P + 6) t = 0 then (1, (mv_a h4 (P + 3) t).toNatClampNeg) else (2, (mv_a h4 (P + 3) t).toNatClampNeg)) = (bif f then 2 else 1, w4) := cl
  have c4 : mv_a h4 (P + 6) t = b01 f := by
    rcases f6 with f6 | f6
    · rw [if_pos f6] at cl
      have cl := congrArg Prod.fst cl
      cases f with
      | false => exact f6
      | true => exact absurd (show 1 = 2 from cl) (by decide)
    · rw [if_neg (show ¬ mv_a h4 (P + 6) t = 0 by rw [f6]; decide)] at cl
      have cl := congrArg Prod.fst cl
      cases f with
      | false => exact absurd (show 2 = 1 from cl) (by decide)
      | true => exact f6
  have c7 : (mv_a h4 (P + 3) t).toNatClampNeg = w4 := by
    split at cl
    · exact congrArg Prod.snd cl
    · exact congrArg Prod.snd cl
  rw [c7] at ew
  unfold f_Book_statement_142
  rw [e3, xtb_s, e4, xtb_s, e5, xtb_s, let_S E4 pq.1 pq.2, xhb_s, c1, show resI none = -1 from rfl, if_neg (show ¬ (0 : Int32) ≤ -1 by decide), fld_S E4 pq.1 pq.2, xhb_s, if_pos (b01_dn c2), thg_S E4 pq.1 pq.2, xhb_s, c3]
  unfold f_Book_statement_194
  rw [show resI (some t) = nI t from rfl, if_neg (nI_neg (by omega)), xvi_n (by omega) (by decide), cond_true, cond_true, cln (by omega), ew, ef, xvi_n (by omega) (by decide), cond_true, ex, if_pos c4, if_neg (fun z => absurd ((nle_0 (by omega)).mp z) (by omega)), if_neg (fun z => absurd ((nle_0 (by omega)).mp z) (by omega))]
  unfold f_Book_statement_255
  rw [if_neg (show ¬ (1 : Int32) = 0 by decide), xvi_n (by omega) (by decide), cond_true, xvi_n (by omega) (by decide), cond_true, cln (by omega), ew, ex, if_pos rfl]
  unfold f_Book_statement_286 f_Book_statement_299
  have BB : NB P m0 h0 h4 := B0.trans B4 hm0
  have fin : ∀ (s : Int32), let h8 := ndH P m4 s (nI t) (nI x4) x3 0 h4; SRq P N T lk le true d j0 (j4 + 1) m0 (m4 + 1) h0 h8 ∧ ZQ P N T lz C LW Tn h8 ∧ NB P m0 h0 h8 ∧ ND P h8 Tn 0 C LW (x4 + 1) 633 x4 w4 D4 ∧ GSq P 0 m h h8 := fun s => by
    have E8 := (nNx E4 h4m s (nI t) (nI x4) x3 (w := 0) (by omega) (j4 + 1) v5).2
    have X8 : XFr P m4 h4 (ndH P m4 s (nI t) (nI x4) x3 0 h4) := ndH_X
    have XX := X4.trans X8 hm4
    have z35 := XX.L.1.trans q35
    refine ⟨⟨Q.x (L := 0) (fun w => w) E8 XX.L.1 XX.L.2.1 XX.s G5 (by omega) (by omega), F0.trans XX.s (Nat.le_refl _), by omega, by omega, by omega, by rw [z35]; omega, by rw [z35]; omega⟩, Z4.fr X8 H.p, BB.trans ndH_B (by omega), ?_, (B4.trans ndH_B hm4).g (Nat.le_refl _) (XX.s (L := 0))⟩
    exact (((N4.lo (Nat.zero_le _)).rk (by unfold rho; rw [if_pos rfl]; omega)).nd xm4)
  cases f with
  | false =>
    obtain ⟨f1, f2, f3, f4, f5⟩ := fin 15
    rw [if_pos (show b01 false = 0 from rfl)]
    show SOg P N T C Tn (nn + 1) LW d j0 m0 h0 _ (xhb (f_Book_node P (rB P N h4 (j4 + 1) v5) 15 (nI t) (nI x4) x3 (nI 0)) _)
    rw [(nNx E4 h4m 15 (nI t) (nI x4) x3 (w := 0) (by omega) (j4 + 1) v5).1, xhb_s]
    refine ⟨m4, _, v5, m4 + 1, LW, rfl, f1, ⟨f2, hLW, [], (List.append_nil _).symm⟩, f3, ⟨⟨h4m, by omega, by omega⟩, Or.inr (Or.inl ⟨t, x4, w4, x4 + 1, D4, ndH_18, ndH_19, by omega, htn, ndH_20, xm4, f4, ?_, ?_, rfl⟩)⟩, ndH_22⟩
    · rw [ndH_X.a (P + 6) (by omega)]; exact c4
    · show zRg (lz ((txT T N).nm j0)) D4 = _
      rw [z1]
  | true =>
    obtain ⟨f1, f2, f3, f4, f5⟩ := fin 16
    obtain ⟨xi, wi, rfl, hxi, Ni⟩ := hx3 rfl
    rw [if_neg (show ¬ b01 true = 0 by decide)]
    show SOg P N T C Tn (nn + 1) LW d j0 m0 h0 _ (xhb (f_Book_node P (rB P N h4 (j4 + 1) v5) 16 (nI t) (nI x4) (nI xi) (nI 0)) _)
    rw [(nNx E4 h4m 16 (nI t) (nI x4) (nI xi) (w := 0) (by omega) (j4 + 1) v5).1, xhb_s]
    refine ⟨m4, _, v5, m4 + 1, LW, rfl, f1, ⟨f2, hLW, [], (List.append_nil _).symm⟩, f3, ⟨⟨h4m, by omega, by omega⟩, Or.inr (Or.inr (Or.inl ⟨t, x4, xi, w4, wi, x4 + 1 + (xi + 1), D4, Di, ndH_18, ndH_19, by omega, htn, ndH_20, ndH_21, xm4, by omega, f4.le (by omega), (Ni.fr f5.1 hxi).le (by omega), ?_, ?_, rfl⟩))⟩, ndH_22⟩
    · rw [ndH_X.a (P + 6) (by omega), c4]; decide
    · show zCl (lz ((txT T N).nm j0)) Di D4 = _
      rw [z1]
end STG
