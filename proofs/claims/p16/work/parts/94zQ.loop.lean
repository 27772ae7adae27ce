/-! perform runs the code as rn does -/
theorem sin9 (h : mv_H) {o k o' k' : Nat} (x : Int32) (q : ¬ (o' = o ∧ k' = k)) : mv_i (mv_si h o k x) o' k' = mv_i h o' k' := mv_u_ne (mv_i h) x q
theorem nI_cl {x : Int32} (h : 0 < x.toNatClampNeg) : nI x.toNatClampNeg = x := by
  have e : x.toNatClampNeg = x.toInt.toNat := rfl
  have hr := i32_rng x
  apply Int32.toInt_inj.mp
  rw [nIi (by omega)]
  omega
theorem rnZ {e : E0q} {L : CDq} {n a : Nat} {st : List Int64} {s : STq} (h : L a = (311, 0)) : rn e L (n + 1) a st s = none := by
  show (if (L a).1 = 317 then _ else if (L a).1 = 316 then _ else if (L a).1 = 311 then (if a < tI (L a).2 then rn e L n (tI (L a).2) st s else none) else _) = _
  have : tI (0 : Int64) = 0 := by decide
  rw [h, if_neg (by simp), if_neg (by simp), if_pos rfl, if_neg (by show ¬ a < tI 0; omega)]
theorem lcN (i : Int64) {c : Nat} (hc : c ≤ 65536) : (lg_cmp i 0 < 0 → ¬ i.toBitVec.toNat < c) ∧ (¬ lg_cmp i 0 < 0 → (lg_cmp i (nI c).toInt64 < 0 ↔ i.toBitVec.toNat < c)) := by
  have hv : i.toBitVec.toNat < 18446744073709551616 := i.toBitVec.isLt
  have e1 : (nI c).toInt64 = nJ c := by rw [xI_l, xi2l_s (by omega)]
  have a1 := lc_lt (v := i.toBitVec.toNat) (w := 0) hv (by decide)
  have a2 := lc_lt (v := i.toBitVec.toNat) (w := c) hv (by omega)
  rw [nJ_bv] at a1 a2
  have a1 : lg_cmp i 0 < 0 ↔ (i.toBitVec.toNat < 0 ∨ 9223372036854775808 ≤ i.toBitVec.toNat) := a1
  rw [e1]
  constructor
  · intro h; have := a1.mp h; omega
  · intro h
    have : ¬ (i.toBitVec.toNat < 0 ∨ 9223372036854775808 ≤ i.toBitVec.toNat) := fun q => h (a1.mpr q)
    rw [a2]; omega
theorem i32_nat {i : Int64} {c : Nat} (h : i.toBitVec.toNat < c) (hc : c ≤ 65536) : i.toInt32 = nI i.toBitVec.toNat := by
  have := nJi (x := i.toBitVec.toNat) (by omega)
  rw [nJ_bv] at this
  exact this
section PL
variable {P : Nat} {fs : Nat → Nat} {e : E0q} {T z : Nat} {L : CDq} {hg : Nat → Nat} {v0 : Nat → Int64}
/-- a cell read -/
theorem cel9 {h : mv_H} (B : TBw P fs e T h) {t : Nat} (ht : t < T) {i : Int64} {st : List Int64} (S : SKs h (i :: st)) : (i.toBitVec.toNat < (e.2 t).2.1 → ∃ h', f_Machine_ofCell P h (nI 304) (nI t) = some (1, h') ∧ SKs h' (mv_b h 65 (fs t + i.toBitVec.toNat) :: st) ∧ TFr h h') ∧ (¬ i.toBitVec.toNat < (e.2 t).2.1 → ∃ h', f_Machine_ofCell P h (nI 304) (nI t) = some (0, h') ∧ TFr h h') := by
  obtain ⟨-, ⟨b1, b2⟩, b3, -, b5, -⟩ := B.2 t ht
  have hT := B.1
  obtain ⟨h1, e1, S1, F1⟩ := pop9 S P
  have lc := lcN i b2
  have hl : st.length ≤ 1009 := by have : st.length + 1 ≤ 1010 := S.2.1; omega
  unfold f_Machine_ofCell f_Machine_ofCell_15 f_Machine_ofCell_45 f_Machine_ofCell_88
  rw [if_neg (by decide), e1, xhb_s, F1.2.1 (P + 2), F1.2.1 (P + 3), xvi_n (by omega) (by decide), cln (by omega), b1, b3, if_neg (show ¬ nI 304 = 315 by decide), xzb01.1, xzb01.2]
  simp only [cond_true]
  refine ⟨fun q => ?_, fun q => ?_⟩
  · have n1 : ¬ lg_cmp i 0 < 0 := fun y => lc.1 y q
    have hc : ncl e t = (e.2 t).2.1 := by unfold ncl; rw [if_neg (by omega)]
    obtain ⟨h2, e2, S2, F2⟩ := psh9 S1 hl P (mv_b h1 65 (fs t + i.toBitVec.toNat))
    rw [if_neg n1, if_pos ((lc.2 n1).mpr q), i32_nat q b2, nIadd (by omega), xvi_m (by omega) (by decide), cond_true, cln (by omega), e2, xhv_s]
    rw [F1.2.2.1 65 (by omega)] at S2
    exact ⟨h2, rfl, S2, F1.trans F2⟩
  · by_cases n1 : lg_cmp i 0 < 0
    · rw [if_pos n1]; exact ⟨h1, rfl, F1⟩
    · rw [if_neg n1, if_neg (fun y => q ((lc.2 n1).mp y))]; exact ⟨h1, rfl, F1⟩
/-- a cell assigned -/
theorem sce9 {h : mv_H} (hP : P = 32 ∨ P = 48 ∨ P = 145) (B : TBw P fs e T h) {s : STq} (V : VLw fs e T h s) {u : Nat} (U : UNw h v0 u) (hu : u < 8193) {t : Nat} (ht : t < T) {i v : Int64} {st : List Int64} (S : SKs h (v :: i :: st)) : (i.toBitVec.toNat < (e.2 t).2.1 → ∃ h', f_Machine_ofCell P h (nI 315) (nI t) = some (1, h') ∧ SKs h' st ∧ MFw h h' ∧ UNw h' v0 (u + 1) ∧ VLw fs e T h' (s.1, wrT e t i.toBitVec.toNat v s.2.1, s.2.2) ∧ mv_i h' 64 8 = mv_i h 64 8) ∧ (¬ i.toBitVec.toNat < (e.2 t).2.1 → ∃ h', f_Machine_ofCell P h (nI 315) (nI t) = some (0, h') ∧ TFr h h') := by
  obtain ⟨-, ⟨b1, b2⟩, b3, -, b5, -⟩ := B.2 t ht
  have hT := B.1
  obtain ⟨h0, e0, S0, F0⟩ := pop9 S P
  obtain ⟨h1, e1, S1, F1⟩ := pop9 S0 P
  have F01 := F0.trans F1
  have lc := lcN i b2
  unfold f_Machine_ofCell f_Machine_ofCell_15 f_Machine_ofCell_45 f_Machine_ofCell_88
  rw [if_pos (by decide), e0, xhb_s, e1, xhb_s, F01.2.1 (P + 2), xvi_n (by omega) (by decide), cln (by omega), b1, if_pos (show nI 315 = 315 by decide), xzb01.1, xzb01.2]
  simp only [cond_true]
  refine ⟨fun q => ?_, fun q => ?_⟩
  · have n1 : ¬ lg_cmp i 0 < 0 := fun y => lc.1 y q
    have hc : ncl e t = (e.2 t).2.1 := by unfold ncl; rw [if_neg (by omega)]
    obtain ⟨h2, e2, F2, U2, V2, I2, K2⟩ := asg9 hP (B.fr hP F01.m) (V.st F01) (U.st F01) hu ht (show i.toBitVec.toNat < ncl e t by omega) v s.2.2
    rw [if_neg n1, if_pos ((lc.2 n1).mpr q), i32_nat q b2, e2, xhv_s]
    refine ⟨h2, rfl, ⟨(I2 64 4 (by omega)).trans S1.1, S1.2.1, S1.2.2.fr (fun k _ => by rw [K2])⟩, F01.m.trans F2, U2, V2, (I2 64 8 (by omega)).trans (F01.1 64 8 (by omega))⟩
  · by_cases n1 : lg_cmp i 0 < 0
    · rw [if_pos n1]; exact ⟨h1, rfl, F01⟩
    · rw [if_neg n1, if_neg (fun y => q ((lc.2 n1).mp y))]; exact ⟨h1, rfl, F01⟩
theorem isS_1 {k : Nat} (h : k = 314 ∨ k = 315) : isSet (nI k) = 1 := by rcases h with rfl | rfl <;> decide
theorem pfm (hP : P = 32 ∨ P = 48 ∨ P = 145) (W : WOw T z hg L) : ∀ (n a t u nn : Nat) (st : List Int64) (s : STq) (h : mv_H) (r : Int32 × STq), rn e L n a st s = some r → PIw P fs e T z L hg v0 h a u st s → t ≤ a → z - a < nn → PEw P fs e T v0 h r (f_Machine_perform_11 P nn e.1 (nI a) (nI t) h) := by
  intro n
  induction n with
  | zero => intro a t u nn st s h r er; cases er
  | succ n ih =>
    intro a t u nn st s h r er I hta hnn
    obtain ⟨nn, rfl⟩ : ∃ q, nn = q + 1 := ⟨nn - 1, by omega⟩
    have I0 := I
    obtain ⟨⟨c1, c2, c3, c4⟩, iB, iV, iA, iS, iH, iU, iN, iZ⟩ := I
    have haz : a < z := by
      by_cases q : a < z
      · exact q
      · rw [rnZ (c3 a (by omega))] at er; cases er
    obtain ⟨d1', d2', d3', -⟩ := c4 a haz
    have hW := W.2 a haz
    have hg1 := W.1 (a + 1)
    have hga := W.1 a
    obtain ⟨k, w, hLa⟩ : ∃ k w, L a = (k, w) := ⟨_, _, rfl⟩
    rw [hLa] at d1' d2' d3' hW
    replace d2' : k < 318 := d2'
    replace d1' : mv_a h (P + 9) a = nI k := d1'
    replace d3' : mv_b h (P + 10) a = if k = 303 then nJ (fs (tI w)) else w := d3'
    have w5 : ¬ (k = 311 ∨ k = 312 ∨ k = 316 ∨ k = 317) → (opd (nI k)).1 ≤ hg a ∧ hg (a + 1) + (opd (nI k)).1 = hg a + (opd (nI k)).2 := hW.2.2.2.2
    have nsz : nSet (mv_a h (P + 9)) (a + 1) = nSet (mv_a h (P + 9)) a + isSet (nI k) := by
      show nSet (mv_a h (P + 9)) a + isSet (mv_a h (P + 9) a) = _
      rw [d1']
    have nsm := nSet_mono (mv_a h (P + 9)) (show a + 1 ≤ z by omega)
    have hsz1 : ¬ mv_i h P 17 ≤ nI t := fun q => by
      rw [c1] at q
      have := (nIle (by omega) (by omega)).mp q; omega
    have hsz2 : ¬ mv_i h P 17 ≤ nI a := fun q => by
      rw [c1] at q
      have := (nIle (by omega) (by omega)).mp q; omega
    show PEw P fs e T v0 h r (fF_Machine_perform_11 P (f_Machine_perform_11 P nn) e.1 (nI a) (nI t) h)
    unfold fF_Machine_perform_11 f_Machine_perform_235
    rw [if_neg hsz1, if_neg hsz2, xvi_n (by omega) (by decide), cond_true, cond_true, cln (by omega), d1', nI1 (by omega), nI1 (by omega)]
    /- the next place -/
    have nx : ∀ (h' : mv_H) (st' : List Int64), rn e L n (a + 1) st' s = some r → SKs h' st' → st'.length = hg (a + 1) → TFr h h' → PEw P fs e T v0 h r (f_Machine_perform_11 P nn e.1 (nI (a + 1)) (nI (t + 1)) h') := fun h' st' er' S' hs F => PEw.tr F.m (ih (a + 1) (t + 1) u nn st' s h' r er' (I0.t hP F S' hs (by omega)) (by omega) (by omega))
    by_cases k317 : k = 317
    · subst k317
      rw [rn317 hLa] at er
      obtain rfl := Option.some.inj er
      rw [if_neg (by decide), if_neg (by decide), if_neg (by decide), if_neg (by decide), if_neg (by decide), if_neg (by decide), if_neg (by decide), if_neg (by decide), if_neg (by decide), if_neg (by decide), if_neg (by decide), if_neg (by decide), if_neg (by decide), if_neg (by decide), if_neg (by decide), if_neg (by decide), if_pos (by decide)]
      exact ⟨h, rfl, MFw.refl h, fun _ => ⟨iV, iA⟩, u, iU, by omega⟩
    by_cases k316 : k = 316
    · subst k316
      rw [rn316 hLa] at er
      obtain rfl := Option.some.inj er
      rw [if_neg (by decide)] at d3'
      rw [if_neg (by decide), if_neg (by decide), if_neg (by decide), if_neg (by decide), if_neg (by decide), if_neg (by decide), if_neg (by decide), if_neg (by decide), if_neg (by decide), if_neg (by decide), if_neg (by decide), if_neg (by decide), if_neg (by decide), if_neg (by decide), if_neg (by decide), if_pos (by decide), d3']
      exact ⟨h, rfl, MFw.refl h, fun _ => ⟨iV, iA⟩, u, iU, by omega⟩
    by_cases k311 : k = 311
    · subst k311
      have hw : a < tI w := by
        by_cases q : a < tI w
        · exact q
        · have : rn e L (n + 1) a st s = none := by
            show (if (L a).1 = 317 then _ else if (L a).1 = 316 then _ else if (L a).1 = 311 then (if a < tI (L a).2 then rn e L n (tI (L a).2) st s else none) else _) = _
            rw [hLa, if_neg (by simp), if_neg (by simp), if_pos rfl, if_neg q]
          rw [this] at er; cases er
      rw [rn311 hLa hw] at er
      rw [if_neg (by decide)] at d3'
      have ew : w.toInt32 = nI (tI w) := (nI_cl (by show 0 < tI w; omega)).symm
      rw [if_neg (by decide), if_neg (by decide), if_neg (by decide), if_neg (by decide), if_neg (by decide), if_neg (by decide), if_neg (by decide), if_neg (by decide), if_neg (by decide), if_neg (by decide), if_pos (by decide), d3', ew]
      have wz : tI w ≤ z ∧ hg (tI w) = hg a := hW.2.2.1 rfl
      exact ih (tI w) (t + 1) u nn st s h r er (I0.t hP (TFr.refl h) iS (by rw [iH, wz.2]) (by omega)) (by omega) (by have := wz.1; omega)
    by_cases k312 : k = 312
    · subst k312
      have wz : tI w ≤ z ∧ hg a = hg (tI w) + 1 ∧ hg (a + 1) = hg (tI w) := hW.2.2.2.1 rfl
      have wz2 : hg a = hg (tI w) + 1 := wz.2.1
      cases st with
      | nil => have : 0 = hg a := iH; omega
      | cons v st =>
        have hl : st.length + 1 = hg a := iH
        have e0 : mv_i h 64 4 - 1 = nI st.length := by
          rw [iS.1]
          exact nIsub (a := st.length + 1) (b := 1) (by omega) (by omega)
        have S1 : SKs (mv_si h 64 4 (nI st.length)) st := ⟨mv_u_same (mv_i h) 64 4 _, by omega, iS.2.2.2.fr (fun i hi => rfl)⟩
        have F1 : TFr h (mv_si h 64 4 (nI st.length)) := ⟨fun o k q => mv_u_ne (mv_i h) _ q, fun o => rfl, fun o q => rfl, rfl, rfl⟩
        have e2 : mv_b (mv_si h 64 4 (nI st.length)) 67 st.length = v := iS.2.2.1
        rw [if_neg (by decide)] at d3'
        have hw : a < tI w ∨ ¬ v = 0 := by
          by_cases q : a < tI w
          · exact Or.inl q
          · refine Or.inr (fun q2 => ?_)
            have : rn e L (n + 1) a (v :: st) s = none := by
              show (if (L a).1 = 317 then _ else if (L a).1 = 316 then _ else if (L a).1 = 311 then _ else if (L a).1 = 312 then (if v = 0 then (if a < tI (L a).2 then rn e L n (tI (L a).2) st s else none) else rn e L n (a + 1) st s) else _) = _
              rw [hLa, if_neg (by simp), if_neg (by simp), if_neg (by simp), if_pos rfl, if_pos q2, if_neg q]
            rw [this] at er; cases er
        unfold f_Machine_perform_194 f_Machine_perform_235
        rw [if_neg (by decide), if_neg (by decide), if_neg (by decide), if_neg (by decide), if_neg (by decide), if_neg (by decide), if_neg (by decide), if_neg (by decide), if_neg (by decide), if_neg (by decide), if_neg (by decide), if_pos (by decide), e0, xk_s, S1.1, xvi_n (by omega) (by decide), cond_true, cln (by omega), e2, d3']
        have wz3 : hg (a + 1) = hg (tI w) := wz.2.2
        by_cases q : v = 0
        · have hw := hw.resolve_right (fun y => y q)
          have ew : w.toInt32 = nI (tI w) := (nI_cl (by show 0 < tI w; omega)).symm
          rw [rn312 hLa hw, if_pos q] at er
          rw [if_pos ((lg_cmp_eq _ _).mpr q), ew, nI1 (by omega)]
          exact PEw.tr F1.m (ih (tI w) (t + 1) u nn st s _ r er (I0.t hP F1 S1 (by omega) (by omega)) (by omega) (by have := wz.1; omega))
        · have er : rn e L n (a + 1) st s = some r := by
            have : rn e L (n + 1) a (v :: st) s = rn e L n (a + 1) st s := by
              show (if (L a).1 = 317 then _ else if (L a).1 = 316 then _ else if (L a).1 = 311 then _ else if (L a).1 = 312 then (if v = 0 then (if a < tI (L a).2 then rn e L n (tI (L a).2) st s else none) else rn e L n (a + 1) st s) else _) = _
              rw [hLa, if_neg (by simp), if_neg (by simp), if_neg (by simp), if_pos rfl, if_neg q]
            rw [this] at er; exact er
          rw [if_neg (fun y => q ((lg_cmp_eq _ _).mp y)), nI1 (by omega)]
          exact nx _ st er S1 (by omega) F1
    obtain ⟨w6, w5⟩ := w5 (by omega)
    by_cases k301 : k = 301
    · subst k301
      rw [rn301 hLa] at er
      rw [opd_0 (by omega)] at w5
      replace w5 : hg (a + 1) + 0 = hg a + 1 := w5
      rw [if_neg (by decide)] at d3'
      obtain ⟨h1, e1, S1, F1⟩ := psh9 iS (by omega) P (gatV e.1 w)
      rw [if_pos (by decide), d3', ga_V, xhb_s, e1, xhv_s]
      exact nx h1 _ er S1 (by show st.length + 1 = _; omega) F1
    by_cases k304 : k = 304
    · subst k304
      rw [opd_1 (by omega)] at w5
      replace w5 : hg (a + 1) + 1 = hg a + 1 := w5
      cases st with
      | nil => exact absurd (show rn e L (n + 1) a [] s = none from by
          show (if (L a).1 = 317 then _ else if (L a).1 = 316 then _ else if (L a).1 = 311 then _ else if (L a).1 = 312 then none else if (L a).1 = 301 then _ else if (L a).1 = 304 then none else _) = _
          rw [hLa, if_neg (by simp), if_neg (by simp), if_neg (by simp), if_neg (by simp), if_neg (by simp), if_pos rfl]) (by rw [er]; exact fun q => by cases q)
      | cons i st =>
        have hl : st.length + 1 = hg a := iH
        rw [rn304 hLa] at er
        obtain ⟨tt, et, ht⟩ := hW.2.1 (Or.inr (Or.inl rfl))
        replace et : w = nJ tt := et
        have hT := iB.1
        rw [if_neg (by decide), et] at d3'
        rw [et, tI_n (by omega)] at er
        have C := cel9 iB ht iS
        unfold f_Machine_perform_212 f_Machine_perform_235
        rw [if_neg (by decide), if_neg (by decide), if_neg (by decide), if_pos (by decide), d3', nJi (by omega)]
        by_cases q : i.toBitVec.toNat < (e.2 tt).2.1
        · obtain ⟨h1, e1, S1, F1⟩ := C.1 q
          have hc : i.toBitVec.toNat < ncl e tt := by unfold ncl; rw [if_neg (by omega)]; exact q
          rw [if_pos q] at er
          rw [iV.1 tt _ ht hc] at S1
          rw [e1, xhb_s, if_neg (by decide), nI1 (by omega)]
          exact nx h1 _ er S1 (by show st.length + 1 = _; omega) F1
        · obtain ⟨h1, e1, F1⟩ := C.2 q
          rw [if_neg q] at er
          obtain rfl := Option.some.inj er
          rw [e1, xhb_s, if_pos rfl]
          exact ⟨h1, rfl, F1.m, fun y => absurd y m3_0, u, iU.st F1, by omega⟩
    by_cases k315 : k = 315
    · subst k315
      replace w5 : hg (a + 1) + 2 = hg a + 0 := w5
      rcases st with _ | ⟨v, _ | ⟨i, st⟩⟩
      · have : 0 = hg a := iH; omega
      · have : 1 = hg a := iH; omega
      have hl : st.length + 1 + 1 = hg a := iH
      rw [rn315 hLa] at er
      obtain ⟨tt, et, ht⟩ := hW.2.1 (Or.inr (Or.inr (Or.inr rfl)))
      replace et : w = nJ tt := et
      have hT := iB.1
      rw [if_neg (by decide), et] at d3'
      rw [et, tI_n (by omega)] at er
      have s1 := isS_1 (k := 315) (by omega)
      have C := sce9 hP iB iV iU (by omega) ht iS
      unfold f_Machine_perform_212 f_Machine_perform_235
      rw [if_neg (by decide), if_neg (by decide), if_neg (by decide), if_neg (by decide), if_neg (by decide), if_neg (by decide), if_neg (by decide), if_neg (by decide), if_neg (by decide), if_neg (by decide), if_neg (by decide), if_neg (by decide), if_neg (by decide), if_neg (by decide), if_pos (by decide), d3', nJi (by omega)]
      by_cases q : i.toBitVec.toNat < (e.2 tt).2.1
      · obtain ⟨h1, e1, S1, F1, U1, V1, A1⟩ := C.1 q
        rw [if_pos q] at er
        rw [e1, xhb_s, if_neg (by decide), nI1 (by omega)]
        refine PEw.tr F1 (ih (a + 1) (t + 1) (u + 1) nn st _ h1 r er ⟨CRw.fr ⟨c1, c2, c3, c4⟩ hP F1, iB.fr hP F1, V1, ?_, S1, by omega, U1, ?_, ?_⟩ (by omega) (by omega))
        · unfold ASw
          rw [A1, F1.1 P 8 (by omega)]
          exact iA
        · rw [F1.2.1 (P + 9) (by omega), nsz, s1]; omega
        · rw [F1.2.1 (P + 9) (by omega)]; exact iZ
      · obtain ⟨h1, e1, F1⟩ := C.2 q
        rw [if_neg q] at er
        obtain rfl := Option.some.inj er
        rw [e1, xhb_s, if_pos rfl]
        exact ⟨h1, rfl, F1.m, fun y => absurd y m3_0, u, iU.st F1, by omega⟩
    /- what work does -/
    have wk : ∀ (h' : mv_H) (st' : List Int64) (s' : STq) (u' : Nat), f_Machine_work P h (nI k) (mv_b h (P + 10) a) = some h' → rn e L n (a + 1) st' s' = some r → PIw P fs e T z L hg v0 h' (a + 1) u' st' s' → MFw h h' → PEw P fs e T v0 h r (f_Machine_perform_227 P (f_Machine_perform_11 P nn) e.1 (nI (a + 1)) (nI t) (nI k) (mv_b h (P + 10) a) h) := fun h' st' s' u' ew' er' I' F => by
      unfold f_Machine_perform_227 f_Machine_perform_235
      rw [ew', xhv_s, nI1 (by omega)]
      exact PEw.tr F (ih (a + 1) (t + 1) u' nn st' s' h' r er' I' (by omega) (by omega))
    have wt : ∀ (h' : mv_H) (st' : List Int64), f_Machine_work P h (nI k) (mv_b h (P + 10) a) = some h' → rn e L n (a + 1) st' s = some r → SKs h' st' → st'.length = hg (a + 1) → TFr h h' → PEw P fs e T v0 h r (f_Machine_perform_227 P (f_Machine_perform_11 P nn) e.1 (nI (a + 1)) (nI t) (nI k) (mv_b h (P + 10) a) h) := fun h' st' ew' er' S' hs F => wk h' st' s u ew' er' (I0.t hP F S' hs (by omega)) F.m
    by_cases k300 : k = 300
    · subst k300
      rw [rn300 hLa] at er
      rw [opd_0 (by omega)] at w5
      replace w5 : hg (a + 1) + 0 = hg a + 1 := w5
      rw [if_neg (by decide)] at d3'
      obtain ⟨h1, e1, S1, F1⟩ := wk300 (P := P) iS (by omega) w
      have := wt h1 _ (by rw [d3']; exact e1) er S1 (by show st.length + 1 = _; omega) F1
      rw [if_neg (by decide), if_neg (by decide), if_neg (by decide), if_neg (by decide), if_neg (by decide), if_neg (by decide), if_neg (by decide), if_neg (by decide), if_neg (by decide), if_neg (by decide), if_neg (by decide), if_neg (by decide), if_neg (by decide), if_neg (by decide), if_neg (by decide), if_neg (by decide), if_neg (by decide)]
      exact this
    by_cases k302 : k = 302
    · subst k302
      rw [rn302 hLa] at er
      rw [opd_0 (by omega)] at w5
      replace w5 : hg (a + 1) + 0 = hg a + 1 := w5
      obtain ⟨i, ei, hi⟩ := hW.1 (Or.inl rfl)
      replace ei : w = nJ i := ei
      rw [if_neg (by decide), ei] at d3'
      rw [ei, tI_n (by omega), ← iV.2 i hi] at er
      obtain ⟨h1, e1, S1, F1⟩ := wk302 (P := P) iS (by omega) hi
      have := wt h1 _ (by rw [d3']; exact e1) er S1 (by show st.length + 1 = _; omega) F1
      rw [if_neg (by decide), if_pos (by decide)]
      exact this
    by_cases k303 : k = 303
    · subst k303
      rw [rn303 hLa] at er
      rw [opd_0 (by omega)] at w5
      replace w5 : hg (a + 1) + 0 = hg a + 1 := w5
      obtain ⟨tt, et, ht⟩ := hW.2.1 (Or.inl rfl)
      replace et : w = nJ tt := et
      have hT := iB.1
      rw [if_pos rfl, et, tI_n (by omega)] at d3'
      have hf := (iB.2 tt ht).2.2.2.2.1
      have h1c : 0 < ncl e tt := by unfold ncl; split <;> omega
      rw [et, tI_n (by omega), ← iV.1 tt 0 ht h1c] at er
      obtain ⟨h1, e1, S1, F1⟩ := wk303 (P := P) iS (by omega) (i := fs tt) (by omega)
      have := wt h1 _ (by rw [d3']; exact e1) er S1 (by show st.length + 1 = _; omega) F1
      rw [if_neg (by decide), if_neg (by decide), if_pos (by decide)]
      exact this
    by_cases k313 : k = 313
    · subst k313
      replace w5 : hg (a + 1) + 1 = hg a + 0 := w5
      cases st with
      | nil => have : 0 = hg a := iH; omega
      | cons v st =>
        have hl : st.length + 1 = hg a := iH
        rw [rn313 hLa] at er
        obtain ⟨i, ei, hi⟩ := hW.1 (Or.inr rfl)
        replace ei : w = nJ i := ei
        rw [if_neg (by decide), ei] at d3'
        rw [ei, tI_n (by omega)] at er
        obtain ⟨h1, e1, S1, F1⟩ := pop9 iS P
        have ew : f_Machine_work P h (nI 313) (mv_b h (P + 10) a) = some (mv_sb h1 66 i v) := by
          rw [d3']
          unfold f_Machine_work
          rw [if_neg (by decide), if_neg (by decide), if_neg (by decide), if_neg (by decide), if_neg (by decide), if_neg (by decide), if_neg (by decide), if_neg (by decide), if_neg (by decide), if_neg (by decide), if_neg (by decide), if_neg (by decide), if_neg (by decide), if_pos (by decide), e1, xhb_s, nJi (by omega), xvi_n hi (by decide), cond_true, cln (by omega), xk_s]
        have A19 := iA.st hP F1
        have F2 : MFw h (mv_sb h1 66 i v) := F1.m.trans ⟨fun _ _ _ => rfl, fun _ _ => rfl, fun o q => funext fun k => mv_u_ne (mv_b h1) _ (fun y => q (Or.inr (Or.inl y.1))), rfl, rfl⟩
        have eb : ∀ o, ¬ o = 66 → mv_b (mv_sb h1 66 i v) o = mv_b h1 o := fun o q => funext fun k => mv_u_ne (mv_b h1) _ (fun y => q y.1)
        have := wk (mv_sb h1 66 i v) st _ u ew er ⟨CRw.fr ⟨c1, c2, c3, c4⟩ hP F2, iB.fr hP F2, ⟨fun t' i' h1' h2' => by
            rw [eb 65 (by omega)]; exact (iV.st F1).1 t' i' h1' h2', fun k hk => by
            by_cases q : k = i
            · rw [q]
              show mv_b (mv_sb h1 66 i v) 66 i = (if i = i then v else s.1 i)
              rw [if_pos rfl]; exact mv_u_same (mv_b h1) 66 i v
            · show mv_b (mv_sb h1 66 i v) 66 k = (if k = i then v else s.1 k)
              rw [if_neg q]
              exact (mv_u_ne (mv_b h1) _ (fun y => q y.2)).trans ((iV.st F1).2 k hk)⟩, (show ASw P (mv_sb h1 66 i v) (fun k => if k = i then v else s.1 k, s.2.1, s.2.2) from A19), ⟨S1.1, S1.2.1, S1.2.2.fr (fun k _ => by rw [eb 67 (by omega)])⟩, by omega, by
            have := iU.st F1
            unfold UNw
            rw [eb 69 (by omega), eb 65 (by omega)]
            exact this, by rw [F2.2.1 (P + 9) (by omega), nsz]; omega, by rw [F2.2.1 (P + 9) (by omega)]; exact iZ⟩ F2
        rw [if_neg (by decide), if_neg (by decide), if_neg (by decide), if_neg (by decide), if_neg (by decide), if_neg (by decide), if_neg (by decide), if_neg (by decide), if_neg (by decide), if_neg (by decide), if_neg (by decide), if_neg (by decide), if_pos (by decide)]
        exact this
    by_cases k314 : k = 314
    · subst k314
      replace w5 : hg (a + 1) + 1 = hg a + 0 := w5
      cases st with
      | nil => have : 0 = hg a := iH; omega
      | cons v st =>
        have hl : st.length + 1 = hg a := iH
        rw [rn314 hLa] at er
        obtain ⟨tt, et, ht⟩ := hW.2.1 (Or.inr (Or.inr (Or.inl rfl)))
        replace et : w = nJ tt := et
        have hT := iB.1
        rw [if_neg (by decide), et] at d3'
        rw [et, tI_n (by omega)] at er
        have s1 := isS_1 (k := 314) (by omega)
        have h1c : 0 < ncl e tt := by unfold ncl; split <;> omega
        have ff : ∀ y0 : Int32, (y0 = 0 ∨ y0 = 1) → (y0 = 1 ↔ (mv_i h 64 8 = 1 ∨ mv_i h P 8 = nI tt)) → ∃ h', f_Machine_work_152 P (nJ tt) y0 h = some h' ∧ PIw P fs e T z L hg v0 h' (a + 1) (u + 1) st (s.1, wrT e tt 0 v s.2.1, fun k => if k = tt then true else s.2.2 k) ∧ MFw h h' := fun y0 hy hy2 => by
          have xy : xzb y0 = true := by rcases hy with q | q <;> rw [q] <;> decide
          have F0 : MFw h (mv_si h 64 8 y0) := ⟨fun o k q => mv_u_ne (mv_i h) _ (fun y => q ⟨y.1, Or.inr (Or.inr y.2)⟩), fun _ _ => rfl, fun _ _ => rfl, rfl, rfl⟩
          have i8 : mv_i (mv_si h 64 8 y0) 64 8 = y0 := mv_u_same (mv_i h) 64 8 y0
          have S0 : SKs (mv_si h 64 8 y0) (v :: st) := ⟨(sin9 h y0 (by decide)).trans iS.1, iS.2.1, iS.2.2.fr (fun _ _ => rfl)⟩
          obtain ⟨h1, e1, S1, F1⟩ := pop9 S0 P
          have U0 : UNw (mv_si h 64 8 y0) v0 u := ⟨(sin9 h y0 (by decide)).trans iU.1, iU.2.1, iU.2.2⟩
          obtain ⟨h2, e2, F2, U2, V2, I2, K2⟩ := asg9 hP ((iB.fr hP F0).fr hP F1.m) ((show VLw fs e T (mv_si h 64 8 y0) s from iV).st F1) (U0.st F1) (by omega) ht h1c v (fun k => if k = tt then true else s.2.2 k)
          have F3 := (F0.trans F1.m).trans F2
          refine ⟨h2, ?_, ⟨CRw.fr ⟨c1, c2, c3, c4⟩ hP F3, iB.fr hP F3, V2, ⟨?_, ?_⟩, ⟨(I2 64 4 (by omega)).trans S1.1, S1.2.1, S1.2.2.fr (fun k _ => by rw [K2])⟩, by omega, U2, by rw [F3.2.1 (P + 9) (by omega), nsz, s1]; omega, by rw [F3.2.1 (P + 9) (by omega)]; exact iZ⟩, F3⟩
          · unfold f_Machine_work_152
            rw [xy, cond_true, xk_s, e1, xhb_s, nJi (by omega), show (0 : Int32) = nI 0 from rfl, e2, xhv_s]
          · rw [I2 64 8 (by omega), F1.1 64 8 (by omega), i8]; exact hy
          · rw [I2 64 8 (by omega), F1.1 64 8 (by omega), i8, hy2, F3.1 P 8 (by omega)]
            constructor
            · intro q
              rcases q with q | q
              · obtain ⟨u9, x1, x2, x3⟩ := iA.2.mp q
                refine ⟨u9, x1, x2, ?_⟩
                show (if u9 = tt then true else s.2.2 u9) = true
                split
                · rfl
                · exact x3
              · exact ⟨tt, by omega, q, by show (if tt = tt then true else s.2.2 tt) = true; rw [if_pos rfl]⟩
            · intro ⟨u9, x1, x2, x3⟩
              by_cases q : u9 = tt
              · rw [q] at x2; exact Or.inr x2
              · have x3 : (if u9 = tt then true else s.2.2 u9) = true := x3
                rw [if_neg q] at x3
                exact Or.inl (iA.2.mpr ⟨u9, x1, x2, x3⟩)
        have n10' : ¬ (1 : Int32) = 0 := by decide
        have ew : ∃ h', f_Machine_work P h (nI 314) (mv_b h (P + 10) a) = some h' ∧ PIw P fs e T z L hg v0 h' (a + 1) (u + 1) st (s.1, wrT e tt 0 v s.2.1, fun k => if k = tt then true else s.2.2 k) ∧ MFw h h' := by
          rw [d3']
          unfold f_Machine_work f_Machine_work_147
          rw [if_neg (by decide), if_neg (by decide), if_neg (by decide), if_neg (by decide), if_neg (by decide), if_neg (by decide), if_neg (by decide), if_neg (by decide), if_neg (by decide), if_neg (by decide), if_neg (by decide), if_neg (by decide), if_neg (by decide), if_neg (by decide), if_pos (by decide)]
          by_cases a8 : mv_i h 64 8 = 0
          · rw [if_pos a8]
            by_cases a9 : lg_cmp (nJ tt) (mv_i h P 8).toInt64 = 0
            · rw [if_pos a9]
              refine ff 1 (Or.inr rfl) ⟨fun _ => Or.inr ?_, fun _ => rfl⟩
              have q := (lg_cmp_eq _ _).mp a9
              have q2 : (nI tt).toInt64 = (mv_i h P 8).toInt64 := by rw [xI_l, xi2l_s (by omega)]; exact q
              have q3 := congrArg Int64.toInt q2
              rw [Int32.toInt_toInt64, Int32.toInt_toInt64] at q3
              exact (Int32.toInt_inj.mp q3).symm
            · rw [if_neg a9]
              refine ff 0 (Or.inl rfl) ⟨fun q => absurd q.symm n10', fun q => ?_⟩
              rcases q with q | q
              · rw [a8] at q; exact absurd q.symm n10'
              · refine absurd ?_ a9
                rw [q, lg_cmp_eq, xI_l, xi2l_s (by omega)]
          · rw [if_neg a8]
            exact ff 1 (Or.inr rfl) ⟨fun _ => Or.inl (iA.1.resolve_left a8), fun _ => rfl⟩
        obtain ⟨h2, e2, I2, F2⟩ := ew
        have := wk h2 st _ (u + 1) e2 er I2 F2
        rw [if_neg (by decide), if_neg (by decide), if_neg (by decide), if_neg (by decide), if_neg (by decide), if_neg (by decide), if_neg (by decide), if_neg (by decide), if_neg (by decide), if_neg (by decide), if_neg (by decide), if_neg (by decide), if_neg (by decide), if_pos (by decide)]
        exact this
    by_cases kU : k = 305 ∨ k = 306 ∨ k = 307 ∨ k = 308 ∨ k = 310
    · rw [opd_1 (by omega)] at w5
      replace w5 : hg (a + 1) + 1 = hg a + 1 := w5
      rw [if_neg (by omega)] at d3'
      cases st with
      | nil =>
        exact absurd (show rn e L (n + 1) a [] s = none from by
          show (if (L a).1 = 317 then _ else if (L a).1 = 316 then _ else if (L a).1 = 311 then _ else if (L a).1 = 312 then none else if (L a).1 = 301 then _ else if (L a).1 = 304 then none else if (L a).1 = 315 then none else if (L a).1 = 300 then _ else if (L a).1 = 302 then _ else if (L a).1 = 303 then _ else if (L a).1 = 313 then none else if (L a).1 = 314 then none else if (L a).1 = 305 ∨ (L a).1 = 306 ∨ (L a).1 = 307 ∨ (L a).1 = 308 ∨ (L a).1 = 310 then none else _) = _
          rw [hLa, if_neg (by show ¬ k = 317; omega), if_neg (by show ¬ k = 316; omega), if_neg (by show ¬ k = 311; omega), if_neg (by show ¬ k = 312; omega), if_neg (by show ¬ k = 301; omega), if_neg (by show ¬ k = 304; omega), if_neg (by show ¬ k = 315; omega), if_neg (by show ¬ k = 300; omega), if_neg (by show ¬ k = 302; omega), if_neg (by show ¬ k = 303; omega), if_neg (by show ¬ k = 313; omega), if_neg (by show ¬ k = 314; omega), if_pos kU]) (by rw [er]; exact fun q => by cases q)
      | cons v st =>
        have hl : st.length + 1 = hg a := iH
        rw [rnU1 hLa kU] at er
        obtain ⟨h1, e1, S1, F1⟩ := wkU1 (P := P) iS kU w
        have := wt h1 _ (by rw [d3']; exact e1) er S1 (by show st.length + 1 = _; omega) F1
        rcases kU with rfl | rfl | rfl | rfl | rfl
        · rw [if_neg (by decide), if_neg (by decide), if_neg (by decide), if_neg (by decide), if_pos (by decide)]; exact this
        · rw [if_neg (by decide), if_neg (by decide), if_neg (by decide), if_neg (by decide), if_neg (by decide), if_pos (by decide)]; exact this
        · rw [if_neg (by decide), if_neg (by decide), if_neg (by decide), if_neg (by decide), if_neg (by decide), if_neg (by decide), if_pos (by decide)]; exact this
        · rw [if_neg (by decide), if_neg (by decide), if_neg (by decide), if_neg (by decide), if_neg (by decide), if_neg (by decide), if_neg (by decide), if_pos (by decide)]; exact this
        · rw [if_neg (by decide), if_neg (by decide), if_neg (by decide), if_neg (by decide), if_neg (by decide), if_neg (by decide), if_neg (by decide), if_neg (by decide), if_neg (by decide), if_pos (by decide)]; exact this
    have kV : k < 300 ∨ k = 309 := by omega
    rw [opd_2 kV] at w5 w6
    replace w6 : 2 ≤ hg a := w6
    replace w5 : hg (a + 1) + 2 = hg a + 1 := w5
    rw [if_neg (by omega)] at d3'
    rcases st with _ | ⟨y, _ | ⟨x, st⟩⟩
    · have : 0 = hg a := iH; omega
    · have : 1 = hg a := iH; omega
    have hl : st.length + 1 + 1 = hg a := iH
    rw [rnU2 hLa kV] at er
    obtain ⟨h1, e1, S1, F1⟩ := wkU2 (P := P) iS kV w
    have := wt h1 _ (by rw [d3']; exact e1) er S1 (by show st.length + 1 = _; omega) F1
    have c : ∀ m : Int, 300 ≤ m → ¬ m = 309 → m < 318 → ¬ (nI k).toInt = m := fun m h1 h2 h3 => by rw [nIi (by omega)]; omega
    rw [if_neg (c 301 (by omega) (by omega) (by omega)), if_neg (c 302 (by omega) (by omega) (by omega)), if_neg (c 303 (by omega) (by omega) (by omega)), if_neg (c 304 (by omega) (by omega) (by omega)), if_neg (c 305 (by omega) (by omega) (by omega)), if_neg (c 306 (by omega) (by omega) (by omega)), if_neg (c 307 (by omega) (by omega) (by omega)), if_neg (c 308 (by omega) (by omega) (by omega))]
    by_cases k309 : k = 309
    · rw [if_pos (show (nI k).toInt = 309 by rw [k309]; decide)]; exact this
    · rw [if_neg (show ¬ (nI k).toInt = 309 by rw [nIi (by omega)]; omega), if_neg (c 310 (by omega) (by omega) (by omega)), if_neg (c 311 (by omega) (by omega) (by omega)), if_neg (c 312 (by omega) (by omega) (by omega)), if_neg (c 313 (by omega) (by omega) (by omega)), if_neg (c 314 (by omega) (by omega) (by omega)), if_neg (c 315 (by omega) (by omega) (by omega)), if_neg (c 316 (by omega) (by omega) (by omega)), if_neg (c 317 (by omega) (by omega) (by omega))]
      exact this
end PL
