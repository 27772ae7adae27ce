/-! good roads: ifs -/
theorem padL_self (L : List Nat) : padL L L = L := by
  unfold padL
  rw [Nat.sub_self]
  exact List.append_nil _
theorem PxL.pad (LW L1 : List Nat) : PxL LW (padL LW L1) := ⟨_, rfl⟩
theorem PxL.trans {A B D : List Nat} (a : PxL A B) (b : PxL B D) : PxL A D := by
  obtain ⟨l1, rfl⟩ := a
  obtain ⟨l2, rfl⟩ := b
  exact ⟨l1 ++ l2, by rw [List.append_assoc]⟩
theorem vp1 : ¬ vp_nar .boolean (1 : Int32) = 0 := by decide
/-- one if -/
theorem IfO.one {P T : Nat} {h : mv_H} {C : List Nat} {B : BKt} {x y n lo lb m1 : Nat} {LW LW1 : List Nat} {Dy : DnE} {D1 : DnS} (s1 : mv_a h (P + 18) x = 18) (s2 : x < 33000) (s3 : mv_a h (P + 19) x = nI y) (s4 : y < x) (s5 : ND P h T 0 C LW n 633 y 1 Dy) (hlb : lo ≤ lb) (s6 : B LW lb (mv_a h (P + 20) x) D1 LW1 m1) (s7 : lo ≤ m1) (s8 : m1 ≤ x) (s9 : PxL LW LW1) : IfO P h T C B [x] LW lo (fun e => zIf Dy D1 e) (padL LW LW1) (x + 1) := ⟨y, n, Dy, D1, LW1, m1, ⟨s1, s2, s3, s4, s5, ⟨lb, hlb, s6⟩, s7, s8, s9⟩, ⟨rfl, rfl, rfl⟩⟩
/-- the ifs stand where other things change -/
theorem IfO.fr {P T : Nat} {h h' : mv_H} {C : List Nat} {B B' : BKt} (hB : ∀ LW lo a D LW' hi, B LW lo a D LW' hi → GSq P lo hi h h' → B' LW lo a D LW' hi) : ∀ {L LW : List Nat} {lo : Nat} {ch : DnS → DnS} {LWc : List Nat} {mc : Nat}, IfO P h T C B L LW lo ch LWc mc → GSq P lo mc h h' → IfO P h' T C B' L LW lo ch LWc mc ∧ lo < mc := by
  intro L
  induction L with
  | nil => intro LW lo ch LWc mc s; exact s.elim
  | cons x L ih =>
    intro LW lo ch LWc mc s g
    obtain ⟨y, n, Dy, D1, LW1, m1, ⟨s1, s2, s3, s4, s5, ⟨lb, hlb, s6⟩, s7, s8, s9⟩, s11⟩ := s
    have hd : x < mc → (mv_a h' (P + 18) x = 18 ∧ x < 33000 ∧ mv_a h' (P + 19) x = nI y ∧ y < x ∧ ND P h' T 0 C LW n 633 y 1 Dy ∧ BLo B' LW lo (mv_a h' (P + 20) x) D1 LW1 m1 ∧ lo ≤ m1 ∧ m1 ≤ x ∧ PxL LW LW1) := fun hx => ⟨by rw [g.2.1 (P + 18) x (by omega) (by omega) hx]; exact s1, s2, by rw [g.2.1 (P + 19) x (by omega) (by omega) hx]; exact s3, s4, s5.fr (g.1.le (m2 := x) (by omega)) s4, ⟨lb, hlb, by rw [g.2.1 (P + 20) x (by omega) (by omega) hx]; exact hB _ _ _ _ _ _ s6 (g.le hlb (by omega))⟩, s7, s8, s9⟩
    cases L with
    | nil =>
      obtain ⟨q1, q2, q3⟩ := s11
      exact ⟨⟨y, n, Dy, D1, LW1, m1, hd (by omega), ⟨q1, q2, q3⟩⟩, by omega⟩
    | cons x2 L =>
      obtain ⟨q1, q2, ch', q3, q4⟩ := s11
      have hx : x + 1 < mc := by
        obtain ⟨M, l0, e⟩ : ∃ M l0, x2 :: L = M ++ [l0] := ⟨(x2 :: L).dropLast, (x2 :: L).getLast (by simp), (List.dropLast_concat_getLast (by simp)).symm⟩
        rw [e] at q4
        have := q4.mc
        omega
      obtain ⟨i1, i2⟩ := ih q4 (g.le (by omega) (Nat.le_refl _))
      exact ⟨⟨y, n, Dy, D1, LW1, m1, hd (by omega), ⟨by rw [g.2.1 (P + 21) x (by omega) (by omega) (by omega)]; exact q1, by rw [g.2.1 (P + 25) x (by omega) (by omega) (by omega)]; exact q2, ch', q3, i1⟩⟩, by omega⟩
section IFG
variable {P N : Nat} {T : Nat → Nat} {C : List Nat} {Tn nn : Nat}
theorem il_G (IH : IHt P N T C Tn nn) {lk : LK} {lz : LZ} {LW0 : List Nat} {d m0 j0 : Nat} {h0 : mv_H} (F0 : Fs nn 0 d) : ∀ (k kk : Nat) (le j m : Nat) (LW : List Nat) (h : mv_H) (v : Int64) (x1 x2 : Int32) (ch : DnS → DnS) (L : List Nat) (r : VS), SQg P N T C Tn lk lz le LW d h m j → kdT T N j = 209 → SFr P (mv_i h0 P 35).toNatClampNeg h0 h → NB P m0 h0 h → mv_i h P 35 = mv_i h0 P 35 → j0 ≤ j → m + j0 ≤ m0 + j → m0 ≤ m → ((L = [] ∧ x2 = -1 ∧ LW = LW0 ∧ m = m0 ∧ ch = fun e => e) ∨ (∃ M l0 f0 L', L = M ++ [l0] ∧ L = f0 :: L' ∧ x1 = nI f0 ∧ x2 = nI l0 ∧ mv_a h (P + 22) f0 = -1 ∧ IfO P h Tn C (BKq P h (SN P h Tn C nn (usD (d + 1)))) L LW0 m0 ch LW m)) → 32768 - j < kk → tIL (txT T N) C (tS (txT T N) C nn) d lk lz k le j ch = some r →
    SOg P N T C Tn (nn + 1) LW0 d j0 m0 h0 r (f_Book_ifStatement_4 P (f_BookS P nn) kk x1 x2 (rB P N h j v)) := by
  intro k
  induction k with
  | zero => intro kk le j m LW h v x1 x2 ch L r _ _ _ _ _ _ _ _ _ _ ht; cases ht
  | succ k ih =>
    intro kk le j m LW h v x1 x2 ch L r Q hk Fr B q35 hj hc hmm hx h2 ht
    obtain ⟨kk, rfl⟩ : ∃ q, kk = q + 1 := ⟨kk - 1, by omega⟩
    show SOg P N T C Tn (nn + 1) LW0 d j0 m0 h0 r (fF_Book_ifStatement_4 P (f_BookS P nn) (f_Book_ifStatement_4 P (f_BookS P nn) kk) x1 x2 (rB P N h j v))
    obtain ⟨Q, Z, hLW⟩ := Q
    have E := Q.es
    have H := E.hb
    have hP := H.p
    have n10 := Q.n10
    have hmj := Q.mj
    have hd61 : d ≤ 61 := F0.1
    have ht : ((gd (ps (txT T N) d j)).bind fun _ => (tE8 (txT T N) C lk lz d (j + 1)).bind fun x => (gd (Nat.beq x.2.1 1)).bind fun _ => (tS (txT T N) C nn 0 lk lz le d x.1).bind fun r => if kdT T N r.1 = 210 then (gd (ps (txT T N) d r.1)).bind fun _ => if kdT T N (r.1 + 1) = 209 then tIL (txT T N) C (tS (txT T N) C nn) d lk lz k r.2.2.1 (r.1 + 1) (fun e => ch (zIf x.2.2 r.2.2.2 e)) else (tS (txT T N) C nn 0 lk lz r.2.2.1 d (r.1 + 1)).bind fun q => some (q.1, (lk, lz), q.2.2.1, ch (zIf x.2.2 r.2.2.2 q.2.2.2)) else some (r.1, (lk, lz), r.2.2.1, ch (zIf x.2.2 r.2.2.2 zSk))) = some r := ht
    obtain ⟨u1, g1, ht⟩ := obn ht
    obtain ⟨⟨j4, w4, D4⟩, t4, ht⟩ := obn ht
    obtain ⟨u5, g5, ht⟩ := obn ht
    obtain ⟨⟨j6, ⟨lk6, lz6⟩, le6, D6⟩, t6, ht⟩ := obn ht
    have hw1 : w4 = 1 := Nat.eq_of_beq_eq_true (gdS g5)
    subst hw1
    obtain ⟨hd, G1, v1, e1⟩ := psG H Q.gk (by omega) (by omega) v g1
    obtain ⟨x4, h4, v4, m4, e4, R4, B4, N4, O4⟩ := xG P N T lk lz C LW Tn 868 0 0 0 d (j + 1) _ m v1 _ (F868 (by omega)) E Z G1 (by omega) (preg0 (Or.inl rfl)) t4
    have e4 : f_BookR P 868 0 0 (rB P N h (j + 1) v1) = some (some (nI x4), rB P N h4 j4 v4) := e4
    have R4 : XRq P N T lk true d (j + 1) j4 m m4 h h4 x4 1 := R4
    have N4 : ND P h4 Tn m C LW (x4 + 1) (rho 0 0 d) x4 1 D4 := N4
    have E4 := R4.es
    have hc4 := R4.cnt
    have hj4 := R4.jj
    have hm4 := R4.mm
    have xm4 := R4.xm
    have hjb := gk_n E4 R4.gk
    have X4 := R4.fr
    have Z4 := Z.fr X4 hP
    have ex : mv_a (rB P N h4 j4 v4) (P + 23) (nI x4).toNatClampNeg = nI 1 := by rw [cln (by omega)]; exact N4.wd.1
    have Q4 : SQq P N T lk le true d h4 m4 j4 := Q.x (L := 0) (fun w => w) E4 X4.L.1 X4.L.2.1 X4.s R4.gk (by omega) (by omega)
    obtain ⟨e6p, a6, h6, v6, m6, LW1, e6, R6, q6', ⟨Z6, hL6, px6⟩, B6, K6⟩ := (IH 0 lk lz le LW d h4 m4 j4 v4 _ F0 (by omega) ⟨Q4, Z4, hLW⟩ (fun w => by omega) t6).1 rfl
    have e6 : f_BookS P nn 0 (rB P N h4 j4 v4) = some (some a6, rB P N h6 j6 v6) := e6
    have R6 : SRq P N T lk le6 true d j4 j6 m4 m6 h4 h6 := R6
    have hL6 : LW1.length = le6 := hL6
    have K6 : BKq P h6 (SN P h6 Tn C nn (usD (d + 1))) LW m4 a6 D6 LW1 m6 := K6
    have hj6 := R6.jj
    have hc6 := R6.cnt
    have hm6 := R6.mm
    have hjb6 := gk_n R6.sq.es R6.sq.gk
    have m6b : m6 < 33000 := by omega
    have Q6 := R6.sq
    have q6 : mv_i h6 P 35 = mv_i h0 P 35 := q6'.trans (X4.L.1.trans q35)
    have F6 : SFr P (mv_i h0 P 35).toNatClampNeg h0 h6 := (Fr.trans X4.s (Nat.le_refl _)).trans R6.fr (by rw [X4.L.1, q35]; omega)
    have BB6 : NB P m h h6 := B4.trans B6 hm4
    obtain ⟨e7, E7⟩ := nNx Q6.es m6b 18 (nI x4) a6 (-1) (w := 0) (by omega) j6 v6
    have X7 : XFr P m6 h6 (ndH P m6 18 (nI x4) a6 (-1) 0 h6) := ndH_X
    have B7 : NB P m6 h6 (ndH P m6 18 (nI x4) a6 (-1) 0 h6) := ndH_B
    -- behind the node, the one before aimed at it: heap h8
    have g81 : ∀ (h8 : mv_H) (f0 : Nat) (M' L' : List Nat), ESq P N T lk true d h8 (m6 + 1) → XFr P m6 h6 h8 → (M' ++ [m6] = f0 :: L') → mv_a h8 (P + 22) f0 = -1 → mv_a h8 (P + 25) m6 = 0 → mv_a h8 (P + 21) m6 = -1 → NB P m0 h0 h8 → IfO P h8 Tn C (BKq P h8 (SN P h8 Tn C nn (usD (d + 1)))) (M' ++ [m6]) LW0 m0 (fun e => ch (zIf D4 D6 e)) (padL LW LW1) (m6 + 1) → SOg P N T C Tn (nn + 1) LW0 d j0 m0 h0 r (f_Book_ifStatement_81 P (f_BookS P nn) (f_Book_ifStatement_4 P (f_BookS P nn) kk) (nI f0) (nI m6) (rB P N h8 j6 v6)) := fun h8 f0 M' L' E8 X8 eL O8 c8 r8 B8 I8 => by
      have Q8 : SQq P N T lk le6 true d h8 (m6 + 1) j6 := Q6.x (L := 0) (fun w => w) E8 X8.L.1 X8.L.2.1 X8.s Q6.gk (Nat.le_refl _) (by omega)
      have F8 : SFr P (mv_i h0 P 35).toNatClampNeg h0 h8 := F6.trans X8.s (Nat.le_refl _)
      have q8 : mv_i h8 P 35 = mv_i h0 P 35 := X8.L.1.trans q6
      have Z8 : ZQ P N T lz C (padL LW LW1) Tn h8 := Z6.fr X8 hP
      have len8 : (padL LW LW1).length = le6 := by rw [padL_len px6]; exact hL6
      have mcI := I8.mc
      obtain ⟨kz, ekz⟩ := mcI.2.2.2.2
      have px8 : PxL LW0 (padL LW LW1) := ⟨_, ekz⟩
      have f0m : m0 ≤ f0 ∧ f0 < m6 + 1 := by
        have I8' := I8
        rw [eL] at I8'
        obtain ⟨y, n, Dy, D1, LWx, mx, ⟨s1, s2, s3, s4, s5, ⟨lb, hlb, s6⟩, s7, s8, s9⟩, s11⟩ := I8'
        refine ⟨by omega, ?_⟩
        cases L' with
        | nil =>
          obtain ⟨-, q2, -⟩ := s11
          omega
        | cons z L'' =>
          obtain ⟨q1, q2, ch', q3, q4⟩ := s11
          obtain ⟨Mz, lz0, ez⟩ : ∃ M l0, z :: L'' = M ++ [l0] := ⟨(z :: L'').dropLast, (z :: L'').getLast (by simp), (List.dropLast_concat_getLast (by simp)).symm⟩
          rw [ez] at q4
          have := q4.mc
          omega
      have usd : 0 < usD d ∧ usD d - 1 = usD (d + 1) := by unfold usD; omega
      unfold f_Book_ifStatement_81
      rw [is_S E8.hb Q8.gk (i := 10) (wds (156, 10) (by decide)) (by decide) v6, xhb_s]
      by_cases c : kdT T N j6 = 210
      rotate_left
      · rw [if_neg c] at ht
        obtain rfl := Option.some.inj ht
        rw [if_pos (b01_dn c)]
        have IC8 := I8.cl (D2 := zSk) (LW2 := padL LW LW1) (hi := m6 + 1) c8 ⟨[], by rw [r8]; exact ⟨rfl, rfl, rfl, rfl⟩⟩ (Nat.le_refl _) ⟨[], (List.append_nil _).symm⟩
        rw [padL_self, eL] at IC8
        refine ⟨f0, h8, v6, m6 + 1, padL LW LW1, rfl, ⟨Q8, F8, by show j0 < j6; omega, by show m6 + 1 + j0 ≤ m0 + j6; omega, by omega, by rw [q8]; omega, by rw [q8]; show 5 * _ + j0 ≤ 5 * _ + j6; omega⟩, ⟨Z8, len8, px8⟩, B8, ⟨⟨by omega, f0m.1, f0m.2⟩, Or.inr (Or.inr (Or.inr (Or.inr ⟨usd.1, L', by rw [usd.2]; exact IC8⟩)))⟩, O8⟩
      rw [if_pos c] at ht
      rw [if_neg (b01_dp c)]
      obtain ⟨u9, g9, ht⟩ := obn ht
      obtain ⟨-, G9, v9, e9⟩ := psG E8.hb Q8.gk (by omega) (by omega) v6 g9
      rw [e9, xtb_s, is_S E8.hb G9 (i := 9) (wds (155, 9) (by decide)) (by decide) v9, xhb_s]
      have Q9 : SQq P N T lk le6 true d h8 (m6 + 1) (j6 + 1) := Q8.x (L := 0) (fun w => w) E8 rfl rfl (SFr.refl _ _ _) G9 (by omega) (by omega)
      by_cases c9 : kdT T N (j6 + 1) = 209
      · rw [if_pos c9] at ht
        rw [if_neg (b01_dp c9)]
        exact ih kk le6 (j6 + 1) (m6 + 1) (padL LW LW1) h8 v9 (nI f0) (nI m6) (fun e => ch (zIf D4 D6 e)) (M' ++ [m6]) r ⟨Q9, Z8, len8⟩ c9 F8 B8 q8 (by omega) (by omega) (by omega) (Or.inr ⟨M', m6, f0, L', rfl, eL, rfl, rfl, O8, I8⟩) (by omega) ht
      · rw [if_neg c9] at ht
        rw [if_pos (b01_dn c9)]
        obtain ⟨⟨ja, ⟨lka, lza⟩, lea, Da⟩, ta, ht⟩ := obn ht
        obtain rfl := Option.some.inj ht
        obtain ⟨eap, aa, ha, va, ma, LWa, ea, Ra, qa', ⟨Za, hLa, pxa⟩, Ba, Ka⟩ := (IH 0 lk lz le6 (padL LW LW1) d h8 (m6 + 1) (j6 + 1) v9 _ F0 (by omega) ⟨Q9, Z8, len8⟩ (fun w => by omega) ta).1 rfl
        have ea : f_BookS P nn 0 (rB P N h8 (j6 + 1) v9) = some (some aa, rB P N ha ja va) := ea
        have Ra : SRq P N T lk lea true d (j6 + 1) ja (m6 + 1) ma h8 ha := Ra
        have hLa : LWa.length = lea := hLa
        have Ka : BKq P ha (SN P ha Tn C nn (usD (d + 1))) (padL LW LW1) (m6 + 1) aa Da LWa ma := Ka
        rw [ea, xtb_s, xvi_n (by omega) (by decide), cond_true, cln (by omega), rB_sa (by omega), xk_s]
        have hja := Ra.jj
        have hca := Ra.cnt
        have hma := Ra.mm
        have Qa := Ra.sq.fo2 (o := P + 21) (by omega) m6 aa
        have Va := Ra.sq.es.fo2 (o := P + 21) (by omega) m6 aa
        have qa : mv_i (mv_sa ha (P + 21) m6 aa) P 35 = mv_i h0 P 35 := (show mv_i ha P 35 = mv_i h8 P 35 from qa').trans q8
        have nX : ¬ XSq P ha m6 := fun q => by
          unfold XSq at q
          rw [Ba.1 (P + 18) m6 (by omega) (by omega) (by omega), mcI.2.2.2.1] at q
          exact absurd q (by decide)
        have ea' : ∀ o k, ¬ (o = P + 21 ∧ k = m6) → mv_a (mv_sa ha (P + 21) m6 aa) o k = mv_a ha o k := fun o k q => san9 ha _ q
        have gK : GSq P (m6 + 1) ma ha (mv_sa ha (P + 21) m6 aa) := ⟨⟨fun k _ _ hX => ⟨ea' _ _ (by omega), ea' _ _ (by omega), ea' _ _ (by omega), ea' _ _ (fun z => nX (by rw [← z.2]; exact hX)), ea' _ _ (by omega), rfl⟩, fun k _ _ _ => ea' _ _ (by omega), fun o k q _ => ea' _ _ (by omega)⟩, fun o k q a b => ea' _ _ (by omega), fun k _ _ => ea' _ _ (by omega), fun k _ => ea' _ _ (by omega)⟩
        have Ka' : BKq P (mv_sa ha (P + 21) m6 aa) (SN P (mv_sa ha (P + 21) m6 aa) Tn C nn (usD (d + 1))) (padL LW LW1) (m6 + 1) aa Da LWa ma := Ka.fr gK
        have g8a : GSq P 0 (m6 + 1) h8 ha := Ba.g (Nat.le_refl _) Ra.fr
        have Ia : IfO P ha Tn C (BKq P ha (SN P ha Tn C nn (usD (d + 1)))) (M' ++ [m6]) LW0 m0 (fun e => ch (zIf D4 D6 e)) (padL LW LW1) (m6 + 1) := (I8.fr (fun _ _ _ _ _ _ q g => q.fr g) (g8a.le (Nat.zero_le _) (Nat.le_refl _))).1
        -- the else's aim is set in the last if alone
        have Ib : IfO P (mv_sa ha (P + 21) m6 aa) Tn C (BKq P (mv_sa ha (P + 21) m6 aa) (SN P (mv_sa ha (P + 21) m6 aa) Tn C nn (usD (d + 1)))) (M' ++ [m6]) LW0 m0 (fun e => ch (zIf D4 D6 e)) (padL LW LW1) (m6 + 1) := by
          have key : ∀ (M LWx : List Nat) (lo : Nat) (chx : DnS → DnS), IfO P ha Tn C (BKq P ha (SN P ha Tn C nn (usD (d + 1)))) (M ++ [m6]) LWx lo chx (padL LW LW1) (m6 + 1) → IfO P (mv_sa ha (P + 21) m6 aa) Tn C (BKq P (mv_sa ha (P + 21) m6 aa) (SN P (mv_sa ha (P + 21) m6 aa) Tn C nn (usD (d + 1)))) (M ++ [m6]) LWx lo chx (padL LW LW1) (m6 + 1) := by
            have nf : ∀ q, q ≤ m6 → NFr P 0 q ha (mv_sa ha (P + 21) m6 aa) := fun q hq => ⟨fun k _ _ hX => ⟨ea' _ _ (by omega), ea' _ _ (by omega), ea' _ _ (by omega), ea' _ _ (fun z => nX (by rw [← z.2]; exact hX)), ea' _ _ (by omega), rfl⟩, fun k _ _ _ => ea' _ _ (by omega), fun o k q _ => ea' _ _ (by omega)⟩
            have gB : ∀ lb mx, mx ≤ m6 → GSq P lb mx ha (mv_sa ha (P + 21) m6 aa) := fun lb mx hq => ⟨nf mx hq, fun o k q a b => ea' _ _ (by omega), fun k _ _ => ea' _ _ (by omega), fun k _ => ea' _ _ (by omega)⟩
            intro M
            induction M with
            | nil =>
              intro LWx lo chx s
              obtain ⟨y, n, Dy, D1, LWy, mx, ⟨s1, s2, s3, s4, s5, ⟨lb, hlb, s6⟩, s7, s8, s9⟩, s11⟩ := s
              exact ⟨y, n, Dy, D1, LWy, mx, ⟨by rw [ea' _ _ (by omega)]; exact s1, s2, by rw [ea' _ _ (by omega)]; exact s3, s4, s5.fr (nf m6 (Nat.le_refl _)) s4, ⟨lb, hlb, by rw [ea' _ _ (by omega)]; exact BKq.fr s6 (gB lb mx s8)⟩, s7, s8, s9⟩, s11⟩
            | cons z M ihM =>
              intro LWx lo chx s
              have smc := s.mc (M := z :: M)
              obtain ⟨y, n, Dy, D1, LWy, mx, ⟨s1, s2, s3, s4, s5, ⟨lb, hlb, s6⟩, s7, s8, s9⟩, s11⟩ := s
              have go : ∀ x2 L2, M ++ [m6] = x2 :: L2 → (mv_a ha (P + 21) z = nI x2 ∧ ¬ mv_a ha (P + 25) z = 0 ∧ ∃ ch', chx = (fun e => zIf Dy D1 (ch' e)) ∧ IfO P ha Tn C (BKq P ha (SN P ha Tn C nn (usD (d + 1)))) (M ++ [m6]) (padL LWx LWy) (z + 1) ch' (padL LW LW1) (m6 + 1)) → z < m6 ∧ (mv_a (mv_sa ha (P + 21) m6 aa) (P + 21) z = nI x2 ∧ ¬ mv_a (mv_sa ha (P + 21) m6 aa) (P + 25) z = 0 ∧ ∃ ch', chx = (fun e => zIf Dy D1 (ch' e)) ∧ IfO P (mv_sa ha (P + 21) m6 aa) Tn C (BKq P (mv_sa ha (P + 21) m6 aa) (SN P (mv_sa ha (P + 21) m6 aa) Tn C nn (usD (d + 1)))) (M ++ [m6]) (padL LWx LWy) (z + 1) ch' (padL LW LW1) (m6 + 1)) := fun x2 L2 _ q => by
                obtain ⟨q1, q2, ch', q3, q4⟩ := q
                have hz := q4.mc.2.1
                exact ⟨by omega, by rw [ea' _ _ (by omega)]; exact q1, by rw [ea' _ _ (by omega)]; exact q2, ch', q3, ihM _ _ _ q4⟩
              cases M with
              | nil =>
                obtain ⟨hz, q⟩ := go m6 [] rfl s11
                exact ⟨y, n, Dy, D1, LWy, mx, ⟨by rw [ea' _ _ (by omega)]; exact s1, s2, by rw [ea' _ _ (by omega)]; exact s3, s4, s5.fr (nf m6 (Nat.le_refl _)) (by omega), ⟨lb, hlb, by rw [ea' _ _ (by omega)]; exact BKq.fr s6 (gB lb mx (by omega))⟩, s7, s8, s9⟩, q⟩
              | cons z2 M =>
                obtain ⟨hz, q⟩ := go z2 (M ++ [m6]) rfl s11
                exact ⟨y, n, Dy, D1, LWy, mx, ⟨by rw [ea' _ _ (by omega)]; exact s1, s2, by rw [ea' _ _ (by omega)]; exact s3, s4, s5.fr (nf m6 (Nat.le_refl _)) (by omega), ⟨lb, hlb, by rw [ea' _ _ (by omega)]; exact BKq.fr s6 (gB lb mx (by omega))⟩, s7, s8, s9⟩, q⟩
          exact key M' LW0 m0 _ Ia
        have r21 : mv_a (mv_sa ha (P + 21) m6 aa) (P + 21) m6 = aa := mv_u_same _ _ _ _
        have ICa := Ib.cl (D2 := Da) (LW2 := LWa) (hi := ma) (by rw [ea' _ _ (by omega), Ba.1 (P + 25) m6 (by omega) (by omega) (by omega)]; exact c8) (by rw [r21]; exact Ka') hma pxa
        rw [eL] at ICa
        refine ⟨f0, _, va, ma, padL (padL LW LW1) LWa, rfl, ⟨Qa, (F8.trans Ra.fr (by rw [q8]; omega)).trans Va.2.s (Nat.le_refl _), by show j0 < ja; omega, by show ma + j0 ≤ m0 + ja; omega, by omega, by rw [qa]; omega, by rw [qa]; show 5 * _ + j0 ≤ 5 * _ + ja; omega⟩, ⟨Za.fr Va.2 hP, by rw [padL_len pxa]; exact hLa, px8.trans (PxL.pad _ _)⟩, ⟨fun o k q1 q2 q3 => by rw [ea' _ _ (by omega), Ba.1 o k q1 q2 (by omega)]; exact B8.1 o k q1 q2 q3, fun k q => (Ba.2 k (by omega)).trans (B8.2 k q)⟩, ⟨⟨by omega, f0m.1, by omega⟩, Or.inr (Or.inr (Or.inr (Or.inr ⟨usd.1, L', by rw [usd.2]; exact ICa⟩)))⟩, ?_⟩
        rw [ea' _ _ (by omega), Ba.1 (P + 22) f0 (by omega) (by omega) f0m.2]
        exact O8
    unfold fF_Book_ifStatement_4
    rw [e1, xtb_s, e4, xtb_s, xvi_n (by omega) (by decide), cond_true, ex, if_pos (show nI 1 ≤ (1 : Int32) by decide)]
    unfold f_Book_ifStatement_36
    rw [e6, xtb_s]
    show SOg P N T C Tn (nn + 1) LW0 d j0 m0 h0 r (xhb (f_Book_node P (rB P N h6 j6 v6) 18 (nI x4) a6 (-1) (nI 0)) _)
    rw [e7, xhb_s]
    -- the condition and the block, below the new node
    have N46 : ND P h6 Tn 0 C LW (x4 + 1) 633 x4 1 D4 := by
      have g : GSq P 0 m4 h4 h6 := B6.g (Nat.le_refl _) R6.fr
      exact ((N4.lo (Nat.zero_le _)).rk (by unfold rho; rw [if_pos rfl]; omega)).fr g.1 xm4
    rcases hx with ⟨rfl, rfl, rfl, rfl, rfl⟩ | ⟨M, l0, f0, L', eL1, eL2, rfl, rfl, Of, I0⟩
    · rw [if_neg (show ¬ (0 : Int32) ≤ -1 by decide)]
      have g7 : GSq P 0 m6 h6 (ndH P m6 18 (nI x4) a6 (-1) 0 h6) := B7.g (Nat.le_refl _) (X7.s (L := 0))
      exact g81 (ndH P m6 18 (nI x4) a6 (-1) 0 h6) m6 [] [] E7 X7 rfl ndH_22 ndH_25 ndH_21 ((B.trans BB6 hmm).trans B7 (by omega)) (IfO.one ndH_18 m6b ndH_19 (by omega) (N46.fr g7.1 (by omega)) hm4 (by rw [ndH_20]; exact K6.fr (g7.le (Nat.zero_le _) (Nat.le_refl _))) (by omega) (Nat.le_refl _) px6)
    · have mcI := (show IfO P h Tn C (BKq P h (SN P h Tn C nn (usD (d + 1)))) (M ++ [l0]) LW0 m0 ch LW m from by rw [← eL1]; exact I0)
      have mc := mcI.mc
      have hl0 : l0 + 1 = m := mc.1.symm
      rw [if_pos (show (0 : Int32) ≤ nI l0 from (nIle (a := 0) (by omega) (by omega)).mpr (by omega)), xvi_n (by omega) (by decide), cond_true, cln (by omega), rB_sa (by omega), xk_s, cond_true, rB_sa (by omega), xk_s]
      have V1 := E7.fo2 (o := P + 21) (by omega) l0 (nI m6)
      have V2 := V1.1.fo2 (o := P + 25) (by omega) l0 (vp_nar .boolean (1 : Int32))
      have X8 : XFr P m6 h6 (mv_sa (mv_sa (ndH P m6 18 (nI x4) a6 (-1) 0 h6) (P + 21) l0 (nI m6)) (P + 25) l0 (vp_nar .boolean (1 : Int32))) := (X7.trans V1.2 (by omega)).trans V2.2 (by omega)
      have e8 : ∀ o k, ¬ ((o = P + 21 ∨ o = P + 25) ∧ k = l0) → mv_a (mv_sa (mv_sa (ndH P m6 18 (nI x4) a6 (-1) 0 h6) (P + 21) l0 (nI m6)) (P + 25) l0 (vp_nar .boolean (1 : Int32))) o k = mv_a (ndH P m6 18 (nI x4) a6 (-1) 0 h6) o k := fun o k q => by rw [san9 _ _ (fun z => q ⟨Or.inr z.1, z.2⟩), san9 _ _ (fun z => q ⟨Or.inl z.1, z.2⟩)]
      have e86 : ∀ o k, ¬ ((o = P + 21 ∨ o = P + 25) ∧ k = l0) → k < m6 → mv_a (mv_sa (mv_sa (ndH P m6 18 (nI x4) a6 (-1) 0 h6) (P + 21) l0 (nI m6)) (P + 25) l0 (vp_nar .boolean (1 : Int32))) o k = mv_a h6 o k := fun o k q hk => (e8 o k q).trans (ndH_o o k (by omega))
      have nX : ¬ XSq P h6 l0 := fun q => by
        unfold XSq at q
        rw [BB6.1 (P + 18) l0 (by omega) (by omega) (by omega), mc.2.2.2.1] at q
        exact absurd q (by decide)
      have e36 : ∀ o k, (o = P + 3 ∨ o = P + 6) → mv_a (mv_sa (mv_sa (ndH P m6 18 (nI x4) a6 (-1) 0 h6) (P + 21) l0 (nI m6)) (P + 25) l0 (vp_nar .boolean (1 : Int32))) o k = mv_a h6 o k := fun o k q => by rw [X8.a o (by omega)]
      have nf6 : ∀ q, q ≤ m6 → NFr P 0 q h6 (mv_sa (mv_sa (ndH P m6 18 (nI x4) a6 (-1) 0 h6) (P + 21) l0 (nI m6)) (P + 25) l0 (vp_nar .boolean (1 : Int32))) := fun q hq => ⟨fun k _ hk hX => ⟨e86 _ _ (by omega) (by omega), e86 _ _ (by omega) (by omega), e86 _ _ (by omega) (by omega), e86 _ _ (fun z => nX (by rw [← z.2]; exact hX)) (by omega), e86 _ _ (by omega) (by omega), rfl⟩, fun k _ hk _ => e86 _ _ (by omega) (by omega), fun o k q _ => e36 o k q⟩
      have g6h : ∀ lb mx, mx ≤ m6 → (l0 < lb ∨ mx ≤ l0) → GSq P lb mx h6 (mv_sa (mv_sa (ndH P m6 18 (nI x4) a6 (-1) 0 h6) (P + 21) l0 (nI m6)) (P + 25) l0 (vp_nar .boolean (1 : Int32))) := fun lb mx hq hl => ⟨nf6 mx hq, fun o k q a b => e86 _ _ (by omega) (by omega), fun k _ _ => e86 _ _ (by omega) (by omega), fun k _ => e36 _ _ (Or.inr rfl)⟩
      have gh6 : GSq P 0 m h h6 := BB6.g (Nat.le_refl _) ((X4.s (L := (mv_i h4 P 35).toNatClampNeg)).trans R6.fr (Nat.le_refl _))
      have ghT : ∀ a b c : mv_H, NFr P 0 l0 a b → NFr P 0 l0 b c → NFr P 0 l0 a c := fun a b c f g => ⟨fun k k1 k2 hX => by
          obtain ⟨a1, a2, a3, a4, a5, a6⟩ := f.1 k k1 k2 hX
          have hX2 : XSq P b k := by unfold XSq at hX ⊢; rw [a1]; exact hX
          obtain ⟨b1, b2, b3, b4, b5, b6⟩ := g.1 k k1 k2 hX2
          exact ⟨b1.trans a1, b2.trans a2, b3.trans a3, b4.trans a4, b5.trans a5, b6.trans a6⟩, fun k k1 k2 hX => by
          have hX2 : XSq P b k := by unfold XSq at hX ⊢; rw [(f.1 k k1 (by omega) hX).1]; exact hX
          exact (g.2.1 k k1 k2 hX2).trans (f.2.1 k k1 k2 hX), fun o k q hk => (g.2.2 o k q hk).trans (f.2.2 o k q hk)⟩
      have one : IfO P (mv_sa (mv_sa (ndH P m6 18 (nI x4) a6 (-1) 0 h6) (P + 21) l0 (nI m6)) (P + 25) l0 (vp_nar .boolean (1 : Int32))) Tn C (BKq P (mv_sa (mv_sa (ndH P m6 18 (nI x4) a6 (-1) 0 h6) (P + 21) l0 (nI m6)) (P + 25) l0 (vp_nar .boolean (1 : Int32))) (SN P (mv_sa (mv_sa (ndH P m6 18 (nI x4) a6 (-1) 0 h6) (P + 21) l0 (nI m6)) (P + 25) l0 (vp_nar .boolean (1 : Int32))) Tn C nn (usD (d + 1)))) [m6] LW m (fun e => zIf D4 D6 e) (padL LW LW1) (m6 + 1) :=
        IfO.one (by rw [e8 _ _ (by omega)]; exact ndH_18) m6b (by rw [e8 _ _ (by omega)]; exact ndH_19) (by omega) (N46.fr (nf6 m6 (Nat.le_refl _)) (by omega)) hm4 (by rw [e8 _ _ (by omega), ndH_20]; exact K6.fr (g6h m4 m6 (Nat.le_refl _) (Or.inl (by omega)))) (by omega) (Nat.le_refl _) px6
      have I8 := IfO.sn (h' := mv_sa (mv_sa (ndH P m6 18 (nI x4) a6 (-1) 0 h6) (P + 21) l0 (nI m6)) (P + 25) l0 (vp_nar .boolean (1 : Int32))) (B' := BKq P (mv_sa (mv_sa (ndH P m6 18 (nI x4) a6 (-1) 0 h6) (P + 21) l0 (nI m6)) (P + 25) l0 (vp_nar .boolean (1 : Int32))) (SN P (mv_sa (mv_sa (ndH P m6 18 (nI x4) a6 (-1) 0 h6) (P + 21) l0 (nI m6)) (P + 25) l0 (vp_nar .boolean (1 : Int32))) Tn C nn (usD (d + 1)))) (fun LW lo a D LW' hi q1 q2 => (q2.fr (gh6.le (Nat.zero_le _) (by omega))).fr (g6h lo hi (by omega) (Or.inr q1))) (ghT _ _ _ (gh6.1.le (by omega)) (nf6 l0 (by omega))) (fun o k q1 q2 => (e86 o k (by omega) (by omega)).trans (BB6.1 o k (by omega) (by omega) (by omega))) (fun o k q1 q2 => (e86 o k (by omega) (by omega)).trans (BB6.1 o k (by omega) (by omega) (by omega))) (by rw [san9 _ _ (by omega)]; exact mv_u_same _ _ _ _) (by rw [show mv_a (mv_sa (mv_sa (ndH P m6 18 (nI x4) a6 (-1) 0 h6) (P + 21) l0 (nI m6)) (P + 25) l0 (vp_nar .boolean (1 : Int32))) (P + 25) l0 = vp_nar .boolean (1 : Int32) from mv_u_same _ _ _ _]; exact vp1) one mcI
      have hf : m0 ≤ f0 ∧ f0 < m := by
        have I0' := I0
        rw [eL2] at I0'
        obtain ⟨y, n, Dy, D1, LWx, mx, ⟨s1, s2, s3, s4, s5, ⟨lb, hlb, s6⟩, s7, s8, s9⟩, s11⟩ := I0'
        refine ⟨by omega, ?_⟩
        cases L' with
        | nil =>
          obtain ⟨-, q2, -⟩ := s11
          omega
        | cons z L'' =>
          obtain ⟨q1, q2, ch', q3, q4⟩ := s11
          obtain ⟨Mz, lz0, ez⟩ : ∃ M l0, z :: L'' = M ++ [l0] := ⟨(z :: L'').dropLast, (z :: L'').getLast (by simp), (List.dropLast_concat_getLast (by simp)).symm⟩
          rw [ez] at q4
          have := q4.mc
          omega
      have B8 : NB P m0 h0 (mv_sa (mv_sa (ndH P m6 18 (nI x4) a6 (-1) 0 h6) (P + 21) l0 (nI m6)) (P + 25) l0 (vp_nar .boolean (1 : Int32))) := ⟨fun o k q1 q2 q3 => by
          rw [e86 o k (by have := mc.2.1; omega) (by omega), BB6.1 o k q1 q2 (by omega)]
          exact B.1 o k q1 q2 q3, fun k q => (BB6.2 k (by omega)).trans (B.2 k q)⟩
      refine g81 _ f0 (M ++ [l0]) (L' ++ [m6]) V2.1 X8 (by rw [← eL1, eL2]; rfl) ?_ (by rw [e8 _ _ (by omega)]; exact ndH_25) (by rw [e8 _ _ (by omega)]; exact ndH_21) B8 I8
      rw [e86 _ _ (by omega) (by omega), BB6.1 (P + 22) f0 (by omega) (by omega) hf.2]
      exact Of
theorem ifs_G (IH : IHt P N T C Tn nn) {lk : LK} {lz : LZ} {le : Nat} {LW : List Nat} {d m j : Nat} {h : mv_H} (F : Fs (nn + 1) 2 d) (Q : SQg P N T C Tn lk lz le LW d h m j) (hk : kdT T N j = 209) (v : Int64) {r : VS} (ht : tIs (txT T N) C (tS (txT T N) C nn) lk lz le d j = some r) : SOg P N T C Tn (nn + 1) LW d j m h r (f_Book_ifStatement P (f_BookS P nn) (rB P N h j v)) := by
  unfold f_Book_ifStatement
  unfold tIs at ht
  unfold Fs at F
  rw [if_neg (by omega), if_neg (by omega)] at F
  exact il_G IH (by unfold Fs; rw [if_pos rfl]; omega) 200000 200000 le j m LW h v (-1) (-1) (fun e => e) [] r Q hk (SFr.refl _ _ _) (NB.refl _ _ _) rfl (Nat.le_refl _) (by omega) (Nat.le_refl _) (Or.inl ⟨rfl, rfl, rfl, rfl, rfl⟩) (by omega) ht
end IFG
/-- statements of the reference, on good roads: their nodes stand for what T says -/
theorem sG (P N : Nat) (T : Nat → Nat) (C : List Nat) (Tn : Nat) : ∀ nn, IHt P N T C Tn nn := by
  intro nn
  induction nn with
  | zero => intro mo lk lz le LW d h m j v r F; unfold Fs at F; omega
  | succ nn IH =>
    intro mo lk lz le LW d h m j v r F hmo Q hp ht
    by_cases c0 : mo = 0
    · subst c0
      rw [tS_0] at ht
      rw [fBS_0]
      exact ⟨fun _ => blk_G IH F Q v ht, fun q => absurd rfl q⟩
    by_cases c1 : mo = 1
    · subst c1
      rw [tS_1] at ht
      rw [fBS_1]
      exact ⟨fun q => by omega, fun _ => stm_G IH F Q v ht⟩
    · have c2 : mo = 2 := by omega
      subst c2
      rw [tS_2] at ht
      rw [fBS_2]
      exact ⟨fun q => by omega, fun _ => ifs_G IH F Q (hp rfl) v ht⟩
