/-! rows s126 .. s134 -/
/-! what the class's tokens are -/
theorem wrd_ix {L R : List (List Int32)} (hL : L = WD ++ R) {i : Nat} (hi : i < 17) {w : List Nat} (hw : ∀ x, x ∈ w → x < 256) (e : L.getD i [] = w.map sb) : wix w = i := by
  have h17 := WD_ok.1
  have hix : ∀ i, i < 17 → wix (WDN.getD i []) = i := by decide +kernel
  have e2 : L.getD i [] = WD.getD i [] := by
    rw [hL, List.getD_eq_getElem?_getD, List.getElem?_append_left (by omega), ← List.getD_eq_getElem?_getD]
  have hm : WD.getD i [] ∈ WD := by
    rw [List.getD_eq_getElem?_getD, List.getElem?_eq_getElem (by omega)]
    exact List.getElem_mem _
  have hx := WD_mem _ hm
  have hall := List.all_eq_true.mp hx.2
  have e3 : w.map sb = (((WD.getD i []).map fun x => x.toNatClampNeg)).map sb := by rw [← hx.1, ← e2, e]
  have e4 := (map_sb _ _ hw (fun x hx' => by have := Nat.blt_eq.mp (hall x hx'); omega)).mp e3
  have e5 : WDN.getD i [] = (WD.getD i []).map fun x => x.toNatClampNeg := by
    unfold WDN
    rw [List.getD_eq_getElem?_getD, List.getElem?_map, List.getD_eq_getElem?_getD, List.getElem?_eq_getElem (by omega)]
    rfl
  rw [e4, ← e5]
  exact hix i hi
/-- letter -/
theorem letE {g : mv_H} {L : List (List Int32)} (hS : SYM g L) (hl : L.length ≤ 16440) (hp : stL L L.length ≤ 32880) {s : Nat} (hs : s < L.length) {x : List Nat} (e : L.getD s [] = x.map sb) (hx : ∀ c, x = [c] → isL c = true) : ∀ k : mv_H, mv_a k 8 = mv_a g 8 → mv_a k 9 = mv_a g 9 → f_Symbols_letter k (nI s) = some (nI (ltr x), k) := by
  intro k e8 e9
  have m1 := stL_mono (L := L) (L.length - (s + 1)) (s + 1) (by omega)
  rw [show s + 1 + (L.length - (s + 1)) = L.length by omega] at m1
  have ss := stL_s hs
  have el : (L.getD s []).length = x.length := by rw [e, List.length_map]
  rw [el] at ss
  have r0 : mv_a k 9 s = nI (stL L s) := by rw [e9]; exact hS.st s (by omega)
  have r1 : mv_a k 9 (s + 1) = nI (stL L (s + 1)) := by rw [e9]; exact hS.st (s + 1) (by omega)
  have ed : nI (stL L (s + 1)) - nI (stL L s) = nI x.length := by
    rw [nIsub (by omega) (by omega)]
    congr 1; omega
  unfold f_Symbols_letter f_Symbols_letter_32
  rw [xvi_n (by omega) (by decide), cond_true, nI1 (by omega), xvi_n (show s + 1 < 16449 by omega) (by decide), cond_true, cln (by omega), cln (by omega), r0, r1, ed]
  by_cases c1 : x.length = 1
  · obtain ⟨c, ec⟩ : ∃ c, x = [c] := by
      cases x with
      | nil => cases c1
      | cons c l => cases l with
        | nil => exact ⟨c, rfl⟩
        | cons a l => cases c1
    have hc := hx c ec
    have hcb : ∀ c, isL c = true → c ≤ 122 ∧ 65 ≤ c := fun c h => by
      unfold isL at h
      rw [Bool.or_eq_true, Bool.or_eq_true, Bool.and_eq_true, Bool.and_eq_true] at h
      rcases h with (⟨h1, h2⟩ | ⟨h1, h2⟩) | h
      · have := Nat.le_of_ble_eq_true h1; have := Nat.le_of_ble_eq_true h2; omega
      · have := Nat.le_of_ble_eq_true h1; have := Nat.le_of_ble_eq_true h2; omega
      · have := Nat.eq_of_beq_eq_true h; omega
    have hb := hcb c hc
    have r8 : mv_a k 8 (stL L s) = nI c := by
      have := hS.sp s hs 0 (by rw [el, c1]; omega)
      rw [Nat.add_zero] at this
      rw [e8, this, e, ec]
      show sb c = nI c
      unfold sb
      rw [if_pos (by omega)]
    rw [if_pos (show nI x.length = 1 by rw [c1]; rfl), xvi_n (show stL L s < 32896 by omega) (by decide), cond_true, cond_true, cln (by omega), r8]
    have el2 : ltr x = if isl c = true then c else 0 := by rw [ec]; rfl
    by_cases c2 : c = 95
    · rw [if_pos (show nI c = 95 by rw [c2]; rfl), el2, c2]; rfl
    · have hi : isl c = true := by
        unfold isL at hc
        rw [Bool.or_eq_true] at hc
        rcases hc with hc | hc
        · exact hc
        · exact absurd (Nat.eq_of_beq_eq_true hc) c2
      rw [if_neg (show ¬ nI c = 95 from fun z => c2 ((nIinj (b := 95) (by omega) (by omega)).mp z)), el2, if_pos hi]
  · rw [if_neg (show ¬ nI x.length = 1 from fun z => c1 ((nIinj (b := 1) (by omega) (by omega)).mp z))]
    have : ltr x = 0 := by
      cases x with
      | nil => rfl
      | cons c l => cases l with
        | nil => exact absurd rfl c1
        | cons a l => rfl
    rw [this]; rfl
/-- a CODE's signs -/
theorem cod_c (T : Nat → Nat) (n : Nat) : ∀ (m p : Nat), n - p < m → (s_code T n m p).2 = none → p + 1 ≤ (s_code T n m p).1 ∧ (∀ x, p ≤ x → x + 1 < (s_code T n m p).1 → T x = 46 ∨ T x = 48 ∨ T x = 49 ∨ isl (T x) = true) := by
  intro m
  induction m with
  | zero => intro p h; omega
  | succ m ih =>
    intro p hm e
    have eu : s_code T n (m + 1) p = if n ≤ p then (n, some n) else if T p = 34 then (p + 1, none) else if T p = 48 ∨ T p = 49 ∨ T p = 46 ∨ (isL (T p) = true ∧ ¬ T p = 95) then s_code T n m (p + 1) else (p, some p) := rfl
    rw [eu] at e ⊢
    by_cases c1 : n ≤ p
    · rw [if_pos c1] at e; cases e
    rw [if_neg c1] at e ⊢
    by_cases c2 : T p = 34
    · rw [if_pos c2]
      exact ⟨Nat.le_refl _, fun x h1 h2 => by have h2 : x + 1 < p + 1 := h2; omega⟩
    rw [if_neg c2] at e ⊢
    by_cases c3 : T p = 48 ∨ T p = 49 ∨ T p = 46 ∨ (isL (T p) = true ∧ ¬ T p = 95)
    · rw [if_pos c3] at e ⊢
      obtain ⟨a1, a2⟩ := ih (p + 1) (by omega) e
      refine ⟨by omega, fun x h1 h2 => ?_⟩
      by_cases z : x = p
      · rw [z]
        rcases c3 with y | y | y | ⟨y, y2⟩
        · exact Or.inr (Or.inl y)
        · exact Or.inr (Or.inr (Or.inl y))
        · exact Or.inl y
        · unfold isL at y
          rw [Bool.or_eq_true] at y
          rcases y with y | y
          · exact Or.inr (Or.inr (Or.inr y))
          · exact absurd (Nat.eq_of_beq_eq_true y) y2
      · exact a2 x (by omega) h2
    · rw [if_neg c3] at e; cases e
section TKK
variable {h g : mv_H} {n J : Nat} {L : List (List Int32)} (K : TKS h n g J L) (hb : byt h) (hn : n ≤ 32768)
theorem tkK (K : TKS h n g J L) (hb : byt h) (hn : n ≤ 32768) {i : Nat} (hi : i ≤ J) : mv_a g 4 (i + 1) = nI ((txT (cc h n) n).kd i) ∧ (txT (cc h n) n).kd i < 300 ∧
    ((txT (cc h n) n).kd i = 3 → ∃ s, s < L.length ∧ L.getD s [] = ((txT (cc h n) n).nm i).map sb ∧ mv_b g 6 (i + 1) = nJ s ∧ (∀ c, (txT (cc h n) n).nm i = [c] → isL c = true) ∧ ∀ x, x ∈ (txT (cc h n) n).nm i → x < 256) ∧
    ((txT (cc h n) n).kd i = 4 → mv_b g 6 (i + 1) = nJ ((txT (cc h n) n).nu i) ∧ (txT (cc h n) n).nu i < 18446744073709551616) ∧
    ((txT (cc h n) n).kd i = 5 → ∃ q, mv_a g 5 (i + 1) = nI q ∧ q + 1 + ((txT (cc h n) n).nm i).length ≤ n ∧ mv_b g 6 (i + 1) = nJ ((txT (cc h n) n).nm i).length ∧ ∀ k, k < ((txT (cc h n) n).nm i).length → mv_a g 1 (q + 1 + k) = nI (((txT (cc h n) n).nm i).getD k 0) ∧ (((txT (cc h n) n).nm i).getD k 0 = 46 ∨ ((txT (cc h n) n).nm i).getD k 0 = 48 ∨ ((txT (cc h n) n).nm i).getD k 0 = 49 ∨ isl (((txT (cc h n) n).nm i).getD k 0) = true)) := by
  have hT := cc_end h n
  have hT2 := cc_lt h n
  have hq := (bp_bd hT hT2 i).2.1
  have tbd := tok_bd hT hT2 hq
  have hnx := (bp_bd hT hT2 (i + 1)).1
  obtain ⟨bh, hC⟩ := K.tk i hi
  have ekd : (txT (cc h n) n).kd i = kdT (cc h n) n i := rfl
  have enm : (txT (cc h n) n).nm i = nmT (cc h n) n i := rfl
  have ebp : bp (cc h n) n (i + 1) = (tok (cc h n) n i).2.1 := rfl
  have tbd1 : pos (cc h n) n i ≤ (tok (cc h n) n i).2.1 := tbd.1
  rcases hC with ⟨b1, b2, -⟩ | ⟨b1, b2, b3, -⟩ | ⟨b1, b2, -, b4⟩
  · have e : kdT (cc h n) n i = 2 := by
      unfold kdT
      rw [if_pos (show ¬ (tok (cc h n) n i).2.2.2 = none ∨ (tok (cc h n) n i).1 = -1 from b1)]
    rw [ekd, e]
    exact ⟨b2, by omega, fun z => by omega, fun z => by omega, fun z => by omega⟩
  · have e : kdT (cc h n) n i = 1 := by
      unfold kdT
      rw [if_neg (show ¬ (¬ (tok (cc h n) n i).2.2.2 = none ∨ (tok (cc h n) n i).1 = -1) from b1), if_pos b2]
    rw [ekd, e]
    exact ⟨b3, by omega, fun z => by omega, fun z => by omega, fun z => by omega⟩
  have b1' : ¬ (¬ (tok (cc h n) n i).2.2.2 = none ∨ (tok (cc h n) n i).1 = -1) := b1
  rcases b4 with ⟨c1, s, s1, s2, s3, s4⟩ | ⟨c1, c2, x, c3, c4⟩ | ⟨c1, c2, c3⟩ | ⟨c, c1, c2, c3, c4⟩
  · have en : (txT (cc h n) n).nm i = tn (cc h n) (pos (cc h n) n i) (bp (cc h n) n (i + 1) - pos (cc h n) n i) := by
      rw [enm]
      unfold nmT
      rw [if_neg (by rw [c1]; decide)]
    have hql : pos (cc h n) n i + (bp (cc h n) n (i + 1) - pos (cc h n) n i) ≤ n := by rw [ebp] at hnx ⊢; omega
    have hw := tn_256 (T := cc h n) (fun p hp => cc_256 hp) hql
    have es : L.getD s [] = (tn (cc h n) (pos (cc h n) n i) (bp (cc h n) n (i + 1) - pos (cc h n) n i)).map sb := by rw [s2, ← ebp]; exact sl_tn hb hn hql
    obtain ⟨R, hL⟩ := K.wrd
    have hwi := word_iff K.sym hL s1 hw es
    have e : kdT (cc h n) n i = if tn (cc h n) (pos (cc h n) n i) (bp (cc h n) n (i + 1) - pos (cc h n) n i) ∈ WDN then 200 + wix (tn (cc h n) (pos (cc h n) n i) (bp (cc h n) n (i + 1) - pos (cc h n) n i)) else 3 := by
      unfold kdT
      rw [if_neg b1', if_neg (by rw [c1]; decide), if_pos c1]
    rw [ekd, e]
    by_cases z : s < 17
    · rw [if_pos (hwi.mp z), wrd_ix hL z hw es]
      rw [if_neg (by omega)] at s4
      exact ⟨s4, by omega, fun y => by omega, fun y => by omega, fun y => by omega⟩
    · rw [if_neg (fun y => z (hwi.mpr y))]
      rw [if_pos (by omega)] at s4
      refine ⟨s4, by omega, fun _ => ⟨s, s1, by rw [en]; exact es, s3, fun c hc => ?_, by rw [en]; exact hw⟩, fun y => by omega, fun y => by omega⟩
      have hl := (tbd.2.2.2 c1).1
      rw [en] at hc
      have hlen : bp (cc h n) n (i + 1) - pos (cc h n) n i = 1 := by
        have := congrArg List.length hc
        rw [tn_len] at this
        exact this
      rw [hlen] at hc
      have : cc h n (pos (cc h n) n i + 0) = c := by
        have := tn_get (cc h n) (pos (cc h n) n i) 1 0 (by omega)
        rw [hc] at this
        exact this.symm
      rw [← this]; exact hl
  · have e : kdT (cc h n) n i = 4 := by
      unfold kdT
      rw [if_neg b1', if_neg (by rw [c1]; decide), if_neg (by rw [c1]; decide), if_pos c1]
    rw [ekd, e]
    obtain ⟨k1, k2⟩ := num_tok hT hT2 c1
    refine ⟨c2, by omega, fun y => by omega, fun _ => ⟨?_, k2⟩, fun y => by omega⟩
    rw [c4]
    have : some x = some ((txT (cc h n) n).nu i) := c3.symm.trans k1
    rw [Option.some.inj this]
  · have e : kdT (cc h n) n i = 5 := by
      unfold kdT
      rw [if_neg b1', if_neg (by rw [c1]; decide), if_neg (by rw [c1]; decide), if_neg (by rw [c1]; decide), if_pos c1]
    have en : (txT (cc h n) n).nm i = tn (cc h n) (pos (cc h n) n i + 1) (bp (cc h n) n (i + 1) - pos (cc h n) n i - 2) := by
      rw [enm]
      unfold nmT
      rw [if_pos c1]
    -- the signs
    have hcode : ∀ q, (s_tok (cc h n) n q).1 = 3 → (s_tok (cc h n) n q).2.2.2 = none → (s_tok (cc h n) n q).2.1 = (s_code (cc h n) n (n + 1) (q + 1)).1 ∧ (s_code (cc h n) n (n + 1) (q + 1)).2 = none := by
      intro q h1 h2
      have hS : ∀ c, c < 257 → isS c = true → 33 ≤ c ∧ c < 256 := isS_33
      have ni3 : ∀ c : Nat, 4 ≤ c → c < 300 → nI c = 3 → False := fun c a b w => by
        have := (nIinj (a := c) (b := 3) (by omega) (by omega)).mp w
        omega
      have hpv : ∀ c d, pairv c d = 0 ∨ (256 ≤ pairv c d ∧ pairv c d ≤ 260) := by
        intro c d
        unfold pairv
        cases (Nat.beq c 61 && Nat.beq d 61) <;> cases (Nat.beq c 33 && Nat.beq d 61) <;> cases (Nat.beq c 60 && Nat.beq d 61) <;> cases (Nat.beq c 60 && Nat.beq d 60) <;> cases (Nat.beq c 62 && Nat.beq d 62) <;> decide
      have hcq := cc_lt h n q
      unfold s_tok at h1 h2 ⊢
      split at h1
      · exact absurd h1 (by show ¬ (0 : Int32) = 3; decide)
      rename_i z1
      rw [if_neg z1] at h2 ⊢
      split at h1
      · exact absurd h1 (by show ¬ (1 : Int32) = 3; decide)
      rename_i z2
      rw [if_neg z2] at h2 ⊢
      split at h1
      · exact absurd h1 (by show ¬ (2 : Int32) = 3; decide)
      rename_i z3
      rw [if_neg z3] at h2 ⊢
      split at h1
      · rename_i z4
        rw [if_pos z4] at h2 ⊢
        exact ⟨rfl, h2⟩
      rename_i z4
      split at h1
      · rename_i z5
        rcases hpv (cc h n q) (cc h n (q + 1)) with y | y
        · exact absurd y z5
        · exact absurd (ni3 _ (by omega) (by omega) h1) (fun w => w)
      split at h1
      · exact absurd h1 (by show ¬ (260 : Int32) = 3; decide)
      split at h1
      · rename_i z7
        have := hS _ (by omega) z7
        exact absurd (ni3 _ (by omega) (by omega) h1) (fun w => w)
      · exact absurd h1 (by show ¬ (-1 : Int32) = 3; decide)
    have hgood : (tok (cc h n) n i).2.2.2 = none := by
      rcases Classical.em ((tok (cc h n) n i).2.2.2 = none) with z | z
      · exact z
      · exact absurd (Or.inl z) b1'
    obtain ⟨d1, d2⟩ := hcode (pos (cc h n) n i) c1 hgood
    have d1 : (tok (cc h n) n i).2.1 = (s_code (cc h n) n (n + 1) (pos (cc h n) n i + 1)).1 := d1
    obtain ⟨f1, f2⟩ := cod_c (cc h n) n (n + 1) (pos (cc h n) n i + 1) (by omega) d2
    rw [← d1] at f1 f2
    rw [ekd, e]
    refine ⟨c2, by omega, fun y => by omega, fun y => by omega, fun _ => ⟨pos (cc h n) n i, b2, ?_, ?_, fun k hk => ?_⟩⟩
    · rw [en, tn_len, ebp]; rw [ebp] at hnx; omega
    · rw [en, tn_len, ebp]; exact c3
    · rw [en, tn_len] at hk
      rw [en, tn_get _ _ _ _ hk]
      rw [ebp] at hk hnx
      have hx := f2 (pos (cc h n) n i + 1 + k) (by omega) (by omega)
      refine ⟨?_, hx⟩
      have hlt : cc h n (pos (cc h n) n i + 1 + k) < 128 := by
        rcases hx with y | y | y | y
        · omega
        · omega
        · omega
        · have := isl_b y; omega
      have er : mv_a g 1 = mv_a h 1 := K.a 1 (by omega) (by omega) (by omega)
      rw [er, cc_b hb hn (show pos (cc h n) n i + 1 + k < n by omega)]
      unfold sb
      rw [if_pos hlt]
  · have n0 : ∀ m : Nat, m < 33 → ¬ (tok (cc h n) n i).1 = nI m := fun m hm w => by
      rw [c3] at w
      have := (nIinj (a := c) (b := m) (by omega) (by omega)).mp w
      omega
    have e : kdT (cc h n) n i = (ckd (tok (cc h n) n i).1).toNatClampNeg := by
      unfold kdT
      rw [if_neg b1', if_neg (show ¬ (tok (cc h n) n i).1 = 0 from n0 0 (by omega)), if_neg (show ¬ (tok (cc h n) n i).1 = 1 from n0 1 (by omega)), if_neg (show ¬ (tok (cc h n) n i).1 = 2 from n0 2 (by omega)), if_neg (show ¬ (tok (cc h n) n i).1 = 3 from n0 3 (by omega))]
    obtain ⟨p1, p2⟩ := ckd_p c (by omega)
    have key : ∃ m, ckd (nI c) = nI m ∧ 33 ≤ m ∧ m < 256 := by
      by_cases z : 256 ≤ c
      · exact ⟨c - 128, p1 z, by omega, by omega⟩
      · exact ⟨c, p2 (by omega), by omega, by omega⟩
    obtain ⟨m, m1, m2, m3⟩ := key
    rw [c3, m1, cln (by omega)] at e
    rw [ekd, e]
    exact ⟨by rw [c4, c3, m1], by omega, fun y => by omega, fun y => by omega, fun y => by omega⟩
theorem tkJ (K : TKS h n g J L) (hb : byt h) (hn : n ≤ 32768) : (txT (cc h n) n).kd J = 1 ∨ (txT (cc h n) n).kd J = 2 := by
  have ekd : (txT (cc h n) n).kd J = kdT (cc h n) n J := rfl
  have st := K.stop
  unfold goT badT at st
  rw [ekd]
  unfold kdT
  by_cases z : ¬ (tok (cc h n) n J).2.2.2 = none ∨ (tok (cc h n) n J).1 = -1
  · rw [if_pos z]; exact Or.inr rfl
  · rw [if_neg z]
    by_cases y : (tok (cc h n) n J).1 = 0
    · rw [if_pos y]; exact Or.inl rfl
    · exact absurd ⟨z, y⟩ st
/-- the tokens of the class -/
theorem tkB (K : TKS h n g J L) (hb : byt h) (hn : n ≤ 32768) (hn2 : n ≤ 10240) (hp : ∀ i, i ≤ J → 0 ≤ (mv_a g 5 (i + 1)).toInt) : TB (txT (cc h n) n) J g :=
  ⟨by have := K.jn; omega, fun i hi => ⟨(tkK K hb hn hi).1, (tkK K hb hn hi).2.1⟩, fun i hi => by
    have h0 := hp i hi
    have hr := (i32_rng (mv_a g 5 (i + 1))).2
    refine ⟨(mv_a g 5 (i + 1)).toInt.toNat, Int32.toInt_inj.mp ?_, by omega⟩
    rw [nIi (by omega)]; omega, fun i hi => (tkK K hb hn hi).2.2.2.1⟩
/-- its names and codes -/
theorem tkS (K : TKS h n g J L) (hb : byt h) (hn : n ≤ 32768) (z6 : mv_b g 6 0 = 0) : ∃ sy, SyQ (txT (cc h n) n) J sy g ∧ ∀ i, i ≤ J → (txT (cc h n) n).kd i = 3 → sy ((txT (cc h n) n).nm i) < L.length := by
  have hch : ∀ x : List Nat, ∃ s, (∃ s', s' < L.length ∧ L.getD s' [] = x.map sb) → s < L.length ∧ L.getD s [] = x.map sb := fun x => by
    rcases Classical.em (∃ s', s' < L.length ∧ L.getD s' [] = x.map sb) with ⟨s, hs⟩ | z
    · exact ⟨s, fun _ => hs⟩
    · exact ⟨0, fun y => absurd y z⟩
  obtain ⟨sy, hsy⟩ := Classical.axiomOfChoice hch
  have hlen := K.len
  refine ⟨sy, ⟨fun i hi hk => ?_, fun i i' hi hi' hk hk' e => ?_, z6, ?_, fun i hi hk => ?_⟩, fun i hi hk => ?_⟩
  · obtain ⟨s, s1, s2, s3, s4, s5⟩ := (tkK K hb hn hi).2.2.1 hk
    obtain ⟨y1, y2⟩ := hsy _ ⟨s, s1, s2⟩
    have es : sy ((txT (cc h n) n).nm i) = s := (sym_iff K.sym y1 s1).mp (y2.trans s2.symm)
    refine ⟨by rw [es]; exact s3, by omega, ?_⟩
    exact letE K.sym hlen K.spl y1 y2 s4
  · obtain ⟨s, s1, s2, s3, s4, s5⟩ := (tkK K hb hn hi).2.2.1 hk
    obtain ⟨s', s1', s2', s3', s4', s5'⟩ := (tkK K hb hn hi').2.2.1 hk'
    obtain ⟨y1, y2⟩ := hsy _ ⟨s, s1, s2⟩
    obtain ⟨y1', y2'⟩ := hsy _ ⟨s', s1', s2'⟩
    rw [e] at y2
    exact (map_sb _ _ s5 s5').mp (y2.symm.trans y2')
  · obtain ⟨R, hL⟩ := K.wrd
    have h17 := WD_ok.1
    have e0 : L.getD 0 [] = WD.getD 0 [] := by rw [hL, List.getD_eq_getElem?_getD, List.getElem?_append_left (by omega), ← List.getD_eq_getElem?_getD]
    have h4 : (WD.getD 0 []).map (fun x => x.toNatClampNeg) = [98, 105, 116, 115] ∧ WD.getD 0 [] = ([98, 105, 116, 115] : List Nat).map sb := by decide +kernel
    have hl0 : 0 < L.length := by rw [hL, List.length_append]; omega
    refine ⟨0, by omega, fun k e8 e9 => ?_⟩
    exact letE K.sym hlen K.spl hl0 (x := [98, 105, 116, 115]) (e0.trans h4.2) (fun c z => by cases z) k e8 e9
  · obtain ⟨q, q1, q2, q3, q4⟩ := (tkK K hb hn hi).2.2.2.2 hk
    exact ⟨q, q1, by omega, q3, q4⟩
  · obtain ⟨s, s1, s2, -⟩ := (tkK K hb hn hi).2.2.1 hk
    exact (hsy _ ⟨s, s1, s2⟩).1
end TKK
/-- names cleared -/
theorem ncl_e (g : mv_H) {l n : Nat} (el : mv_i g 7 5 = nI l) (hl : l ≤ 16440) (hn : n ≤ 64) (sg : Nat → Nat) (e7 : mv_i g 13 7 = nI n) (hs : ∀ i, i < n → mv_a g 19 i = nI (sg i) ∧ sg i < 16448) : ∃ h', f_Names_clear g = some h' ∧ (∀ o k, ¬ (o = 13 ∧ (k = 7 ∨ k = 9)) → mv_i h' o k = mv_i g o k) ∧ mv_i h' 13 7 = 0 ∧ mv_i h' 13 9 = 0 ∧ (∀ r, ¬ r = 14 → ¬ r = 16 → ¬ r = 17 → mv_a h' r = mv_a g r) ∧ (∀ y, y < l → mv_a h' 14 y = 0 ∧ mv_a h' 16 y = 0) ∧ (∀ c, c < 128 → mv_a h' 17 c = 0 ∧ mv_b h' 18 c = 0) ∧ (∀ r, ¬ r = 18 → mv_b h' r = mv_b g r) := by
  have xv : xvr (0 : Int32) (nI l) 16448 = true := by
    unfold xvr
    rw [nIi (by omega)]
    have h0 : ((0 : Int32)).toInt = 0 := rfl
    rw [h0]
    simp; omega
  obtain ⟨g3, eg3⟩ : ∃ g3, g3 = mv_fi (mv_fi g 14 0 l 0) 16 0 l (vp_nar .byte 0) := ⟨_, rfl⟩
  have fa : ∀ r k, mv_a g3 r k = if r = 16 ∧ k < l then 0 else if r = 14 ∧ k < l then 0 else mv_a g r k := fun r k => by
    rw [eg3, show vp_nar .byte (0 : Int32) = 0 from by decide]
    show (if r = 16 then (fun j => if 0 ≤ j ∧ j < l then (0 : Int32) else (if (16 : Nat) = 14 then (fun j => if 0 ≤ j ∧ j < l then (0 : Int32) else mv_a g 14 j) else mv_a g 16) j) else (if r = 14 then (fun j => if 0 ≤ j ∧ j < l then (0 : Int32) else mv_a g 14 j) else mv_a g r)) k = _
    by_cases c : r = 16
    · rw [if_pos c]
      show (if 0 ≤ k ∧ k < l then (0 : Int32) else (if (16 : Nat) = 14 then (fun j => if 0 ≤ j ∧ j < l then (0 : Int32) else mv_a g 14 j) else mv_a g 16) k) = _
      by_cases c2 : k < l
      · rw [if_pos ⟨Nat.zero_le _, c2⟩, if_pos ⟨c, c2⟩]
      · rw [if_neg (fun z => c2 z.2), if_neg (by omega), if_neg (fun z => c2 z.2), if_neg (fun z => c2 z.2), c]
    · rw [if_neg c, if_neg (show ¬ (r = 16 ∧ k < l) from fun z => c z.1)]
      by_cases c1 : r = 14
      · rw [if_pos c1]
        show (if 0 ≤ k ∧ k < l then (0 : Int32) else mv_a g 14 k) = _
        by_cases c2 : k < l
        · rw [if_pos ⟨Nat.zero_le _, c2⟩, if_pos ⟨c1, c2⟩]
        · rw [if_neg (fun z => c2 z.2), if_neg (fun z => c2 z.2), c1]
      · rw [if_neg c1, if_neg (show ¬ (r = 14 ∧ k < l) from fun z => c1 z.1)]
  have fi : mv_i g3 = mv_i g := by rw [eg3]; rfl
  have fb : mv_b g3 = mv_b g := by rw [eg3]; rfl
  obtain ⟨h', e', Q⟩ := lv_e hn sg g3 (by rw [fi]; exact e7) (fun i hi => by rw [fa, if_neg (by omega), if_neg (by omega)]; exact hs i hi)
  refine ⟨h', ?_, fun o k q => by rw [Q.i o k q, fi], Q.sc, Q.le, fun r h1 h2 h3 => ?_, fun y hy => ?_, Q.l, fun r h1 => by rw [Q.b r h1, fb]⟩
  · unfold f_Names_clear
    have el2 : mv_i (mv_fi g 14 0 l 0) 7 5 = nI l := el
    rw [el, xv, cond_true, xk_s, show ((0 : Int32)).toNatClampNeg = 0 from rfl, cln (by omega), el2, xv, cond_true, xk_s, cln (by omega), ← eg3, e', xhv_s]
  · rw [Q.a r h1 h3]
    funext k
    rw [fa, if_neg (fun z => h2 z.1), if_neg (fun z => h1 z.1)]
  · constructor
    · rcases Classical.em (∃ i, i < n ∧ sg i = y) with z | z
      · exact Q.z y z
      · rw [Q.o y z, fa, if_neg (by omega), if_pos ⟨rfl, hy⟩]
    · rw [Q.a 16 (by omega) (by omega), fa, if_pos ⟨rfl, hy⟩]
section STT
variable {X : TX} {J P : Nat} {h : mv_H}
/-- bits NUMBER ; -/
theorem rbt_A (hpp : P = 32 ∨ P = 48) (hJ : X.kd J = 1 ∨ X.kd J = 2) (T : PT X J h h 0 0) : ∃ h', f_Weaver_readBits P h = some h' ∧ (((X.kd 0 = 200 ∧ X.kd 1 = 4 ∧ X.kd 2 = 59 ∧ (X.nu 1 = 8 ∨ X.nu 1 = 16 ∨ X.nu 1 = 32 ∨ X.nu 1 = 64)) ∧ ∃ g, PT X J h g 3 0 ∧ mv_i g 21 = mv_i h 21 ∧ h' = mv_si g P 0 (nI (X.nu 1))) ∨ (¬ (X.kd 0 = 200 ∧ X.kd 1 = 4 ∧ X.kd 2 = 59 ∧ (X.nu 1 = 8 ∨ X.nu 1 = 16 ∨ X.nu 1 = 32 ∨ X.nu 1 = 64)) ∧ Fl h')) := by
  have hJb := T.tb.jb
  -- wrong: the number's token is any
  have wt : ∀ (g : mv_H) (t : Nat), Wr g → t < 32770 → ∃ h', (bif xvi (nI t) 32770 then if (lg_cmp (mv_b g 6 (nI t).toNatClampNeg) (8 : Int64)) = (0 : Int32) then (f_Weaver_readBits_72 P (mv_b g 6 (nI t).toNatClampNeg) g) else (if (lg_cmp (mv_b g 6 (nI t).toNatClampNeg) (16 : Int64)) = (0 : Int32) then (f_Weaver_readBits_72 P (mv_b g 6 (nI t).toNatClampNeg) g) else (if (lg_cmp (mv_b g 6 (nI t).toNatClampNeg) (32 : Int64)) = (0 : Int32) then (f_Weaver_readBits_72 P (mv_b g 6 (nI t).toNatClampNeg) g) else (if (lg_cmp (mv_b g 6 (nI t).toNatClampNeg) (64 : Int64)) = (0 : Int32) then (f_Weaver_readBits_72 P (mv_b g 6 (nI t).toNatClampNeg) g) else (xhv (f_Weaver_tell g (nI t) (3 : Int32)) fun g9 => some g9)))) else none) = some h' ∧ Fl h' := fun g t w ht => by
    have e72 : ∀ y, ∃ h', f_Weaver_readBits_72 P y g = some h' ∧ Fl h' := fun y => by
      refine ⟨mv_si g P 0 y.toInt32, rfl, Or.inl ?_⟩
      rw [show mv_i (mv_si g P 0 y.toInt32) 3 9 = mv_i g 3 9 from mv_u_ne (mv_i g) _ (by omega)]
      exact w
    rw [xvi_n ht (by decide), cond_true]
    split
    · exact e72 _
    · split
      · exact e72 _
      · split
        · exact e72 _
        · split
          · exact e72 _
          · obtain ⟨g', e, n, -, -⟩ := wtl g ht (x := 3) (by decide)
            rw [e, xhv_s]
            exact ⟨g', rfl, Or.inr n⟩
  unfold f_Weaver_readBits
  rcases T.tk hJ (k := 200) (by omega) (by omega) with ⟨q0, g1, e, T1, n1⟩ | ⟨q0, g1, e, w1, -⟩
  rotate_left
  · rw [show f_Tokens_take h 200 = _ from e, xhb_s, tkW w1 (by decide), xhb_s, tkW w1 (by decide), xhb_s]
    obtain ⟨h', e', F⟩ := wt g1 0 w1 (by omega)
    exact ⟨h', e', Or.inr ⟨fun z => q0 z.1, F⟩⟩
  rw [show f_Tokens_take h 200 = _ from e, xhb_s]
  rcases T1.tk hJ (k := 4) (by omega) (by omega) with ⟨q1, g2, e, T2, n2⟩ | ⟨q1, g2, e, w2, -⟩
  rotate_left
  · rw [show f_Tokens_take g1 4 = _ from e, xhb_s, tkW w2 (by decide), xhb_s]
    obtain ⟨h', e', F⟩ := wt g2 0 w2 (by omega)
    exact ⟨h', e', Or.inr ⟨fun z => q1 z.2.1, F⟩⟩
  rw [show f_Tokens_take g1 4 = _ from e, xhb_s]
  rcases T2.tk hJ (k := 59) (by omega) (by omega) with ⟨q2, g3, e, T3, n3⟩ | ⟨q2, g3, e, w3, -⟩
  rotate_left
  · rw [show f_Tokens_take g2 59 = _ from e, xhb_s]
    obtain ⟨h', e', F⟩ := wt g3 (0 + 1 + 1) w3 (by omega)
    exact ⟨h', e', Or.inr ⟨fun z => q2 z.2.2.1, F⟩⟩
  rw [show f_Tokens_take g2 59 = _ from e, xhb_s]
  obtain ⟨eA, hA⟩ := T3.tb.n 1 T1.jJ q1
  rw [xvi_n (show 0 + 1 + 1 < 32770 by omega) (by decide), cond_true, cln (by omega), show mv_b g3 6 (0 + 1 + 1) = nJ (X.nu 1) from eA]
  have t8 : lg_cmp (nJ (X.nu 1)) (8 : Int64) = 0 ↔ X.nu 1 = 8 := lc_eq2 hA (w := 8) (by omega)
  have t16 : lg_cmp (nJ (X.nu 1)) (16 : Int64) = 0 ↔ X.nu 1 = 16 := lc_eq2 hA (w := 16) (by omega)
  have t32 : lg_cmp (nJ (X.nu 1)) (32 : Int64) = 0 ↔ X.nu 1 = 32 := lc_eq2 hA (w := 32) (by omega)
  have t64 : lg_cmp (nJ (X.nu 1)) (64 : Int64) = 0 ↔ X.nu 1 = 64 := lc_eq2 hA (w := 64) (by omega)
  have good : (X.nu 1 = 8 ∨ X.nu 1 = 16 ∨ X.nu 1 = 32 ∨ X.nu 1 = 64) → ∃ h', f_Weaver_readBits_72 P (nJ (X.nu 1)) g3 = some h' ∧ (((X.kd 0 = 200 ∧ X.kd 1 = 4 ∧ X.kd 2 = 59 ∧ (X.nu 1 = 8 ∨ X.nu 1 = 16 ∨ X.nu 1 = 32 ∨ X.nu 1 = 64)) ∧ ∃ g, PT X J h g 3 0 ∧ mv_i g 21 = mv_i h 21 ∧ h' = mv_si g P 0 (nI (X.nu 1))) ∨ (¬ (X.kd 0 = 200 ∧ X.kd 1 = 4 ∧ X.kd 2 = 59 ∧ (X.nu 1 = 8 ∨ X.nu 1 = 16 ∨ X.nu 1 = 32 ∨ X.nu 1 = 64)) ∧ Fl h')) := fun hv => by
    unfold f_Weaver_readBits_72
    rw [nJi (by omega), xk_s]
    exact ⟨_, rfl, Or.inl ⟨⟨q0, q1, q2, hv⟩, g3, T3, by rw [n3, n2, n1], rfl⟩⟩
  by_cases c1 : X.nu 1 = 8
  · rw [if_pos (t8.mpr c1)]; exact good (by omega)
  rw [if_neg (fun z => c1 (t8.mp z))]
  by_cases c2 : X.nu 1 = 16
  · rw [if_pos (t16.mpr c2)]; exact good (by omega)
  rw [if_neg (fun z => c2 (t16.mp z))]
  by_cases c3 : X.nu 1 = 32
  · rw [if_pos (t32.mpr c3)]; exact good (by omega)
  rw [if_neg (fun z => c3 (t32.mp z))]
  by_cases c4 : X.nu 1 = 64
  · rw [if_pos (t64.mpr c4)]; exact good (by omega)
  rw [if_neg (fun z => c4 (t64.mp z))]
  obtain ⟨g', e, n, -, -⟩ := wtl g3 (t := 0 + 1 + 1) (by omega) (x := 3) (by decide)
  rw [e, xhv_s]
  exact ⟨g', rfl, Or.inr ⟨fun z => by omega, Or.inr n⟩⟩
end STT
theorem bk_kd (T : Nat → Nat) (n i : Nat) (e : (txT T n).bk i = true) : (txT T n).kd i = 2 := by
  have e : bkT T n i = true := e
  show kdT T n i = 2
  unfold kdT
  rw [if_pos (Or.inl (fun z => by
    have := bkT_n.mpr z
    rw [this] at e; cases e))]
/-- the start of the items -/
theorem stt_R {h0 g : mv_H} {n J P : Nat} {L : List (List Int32)} (hpp : P = 32 ∨ P = 48) (K : TKS h0 n g J L) (hb : byt h0) (hn : n ≤ 10240) (hp : ∀ i, i ≤ J → 0 ≤ (mv_a g 5 (i + 1)).toInt) (z6 : mv_b g 6 0 = 0)
    (p1 : mv_i h0 P 1 = 0) (p7 : mv_i h0 P 7 = 0) (p9 : mv_i h0 P 9 = -1) (p10 : mv_i h0 P 10 = 0) (p17 : mv_i h0 P 17 = 0) (p6 : mv_i h0 P 6 = 0) (p8 : mv_i h0 P 8 = -1) (n0 : mv_i h0 21 0 = 0) (b0 : mv_i h0 2 15 = 0) (m0 : mv_i h0 2 6 = 0)
    {k : Nat} (hk : k ≤ 64) (sg : Nat → Nat) (e7 : mv_i h0 13 7 = nI k) (hs : ∀ i, i < k → mv_a h0 19 i = nI (sg i) ∧ sg i < 16448) :
    ∃ g2 h' sy, f_Names_clear g = some g2 ∧ f_Weaver_readBits P g2 = some h' ∧ TB (txT (cc h0 n) n) J g ∧ SyQ (txT (cc h0 n) n) J sy g ∧ (∀ i, i ≤ J → (txT (cc h0 n) n).kd i = 3 → sy ((txT (cc h0 n) n).nm i) < L.length) ∧ ((∃ o lkB, RW (txT (cc h0 n) n) J P sy h' ⟨0, 3, 0, [], [], o⟩ lkB [] [] ∧ EndW (txT (cc h0 n) n) ⟨0, 3, 0, [], [], o⟩ (sTx (txT (cc h0 n) n)) ∧ o = ⟨0, [], 0, [], fun _ => (0, 0), 0, ⟨(txT (cc h0 n) n).nu 1, fun _ => (0, 0), [], 0, none, []⟩⟩ ∧ mv_i h' P 6 = 0 ∧ mv_i h' P 8 = -1 ∧ mv_i h' P 17 = 0) ∨ (Fl h' ∧ sTx (txT (cc h0 n) n) = none)) := by
  have hn3 : n ≤ 32768 := by omega
  have tb := tkB K hb hn3 hn hp
  have hJ := tkJ K hb hn3
  obtain ⟨sy, S, hsy⟩ := tkS K hb hn3 z6
  have hbk := bk_kd (cc h0 n) n
  generalize txT (cc h0 n) n = X at *
  have ti : ∀ o f, ¬ o = 7 → ¬ o = 3 → mv_i g o f = mv_i h0 o f := fun o f h1 h2 => K.i o f (by omega) (by omega)
  have ta : ∀ r, 12 < r → mv_a g r = mv_a h0 r := fun r hr => K.a r (by omega) (by omega) (Or.inr hr)
  have hlen := K.len
  obtain ⟨g2, e2, q1, q2, q3, q4, q5, q6, q7⟩ := ncl_e g (l := L.length) K.sym.sz hlen hk sg (by rw [ti 13 7 (by omega) (by omega)]; exact e7) (fun i hi => by rw [ta 19 (by omega)]; exact hs i hi)
  have i2 : ∀ o f, ¬ o = 7 → ¬ o = 3 → ¬ o = 13 → mv_i g2 o f = mv_i h0 o f := fun o f h1 h2 h3 => by rw [q1 o f (by omega), ti o f h1 h2]
  have T2 : PT X J g2 g2 0 0 := by
    refine ⟨tb.fr (q4 4 (by omega) (by omega) (by omega)) (q4 5 (by omega) (by omega) (by omega)) (q7 6 (by omega)), Sm.rf, ?_, Nat.zero_le _, ?_, by omega, ?_, rfl, fun z => z⟩
    · rw [q1 3 7 (by omega)]; exact K.i7
    · rw [q1 3 8 (by omega)]; exact K.i8
    · rw [q1 3 9 (by omega), K.i9]; decide
  obtain ⟨h', e3, r⟩ := rbt_A hpp hJ T2
  refine ⟨g2, h', sy, e2, e3, tb, S, hsy, ?_⟩
  have hJb := tb.jb
  rcases r with ⟨r1, g3, T3, n3, eh⟩ | ⟨r1, F⟩
  · have ei : ∀ o f, ¬ (o = P ∧ f = 0) → mv_i h' o f = mv_i g3 o f := fun o f q => by rw [eh]; exact mv_u_ne (mv_i g3) _ q
    have ej : ∀ o f, ¬ (o = P ∧ f = 0) → ¬ o = 3 → ¬ o = 21 → mv_i h' o f = mv_i g2 o f := fun o f h1 h2 h3 => by rw [ei o f h1, T3.sm.i o f (by omega) h3]
    have ea : mv_a h' = mv_a g2 := by rw [eh]; exact T3.sm.a
    have eb : mv_b h' = mv_b g2 := by rw [eh]; exact T3.sm.b
    have nu64 : X.nu 1 ≤ 64 := by omega
    have rn : RN X J P sy h' ⟨X.nu 1, fun _ => (0, 0), [], 0, none, []⟩ [] (fun _ => (0, 0)) [] [] 0 := by
      refine ⟨S.fr ?_ ?_ ?_ ?_ ?_, ?_, ?_, nu64, ?_, Nat.zero_le _, ?_, Nat.zero_le _, ?_, ?_, Nat.zero_le _, fun i h1 h2 => ?_, fun j hj => absurd hj (Nat.not_lt_zero _), fun i h1 h2 => Or.inl ⟨?_, rfl⟩, fun c hc => ?_, Nat.zero_le _, ?_, Nat.zero_le _, ?_, Nat.le_refl _, trivial, fun x q => absurd q List.not_mem_nil, fun x => by show ¬ 0 = 3; omega, ?_, ⟨rfl, fun _ => rfl⟩, fun i hi => absurd hi (Nat.not_lt_zero _), fun k hk => absurd hk (Nat.not_lt_zero _)⟩
      · rw [ea]; exact q4 1 (by omega) (by omega) (by omega)
      · rw [ea]; exact q4 5 (by omega) (by omega) (by omega)
      · rw [ea]; exact q4 8 (by omega) (by omega) (by omega)
      · rw [ea]; exact q4 9 (by omega) (by omega) (by omega)
      · rw [eb]; exact q7 6 (by omega)
      · rw [ei 3 6 (by omega), T3.sm.i 3 6 (by omega) (by omega), q1 3 6 (by omega)]; exact K.i6
      · rw [eh]; exact mv_u_same _ P 0 _
      · rw [ej P 1 (by omega) (by omega) (by omega), i2 P 1 (by omega) (by omega) (by omega), p1]; rfl
      · rw [ej P 7 (by omega) (by omega) (by omega), i2 P 7 (by omega) (by omega) (by omega), p7]; rfl
      · rw [ej P 9 (by omega) (by omega) (by omega), i2 P 9 (by omega) (by omega) (by omega), p9]; exact ⟨fun _ => rfl, fun _ => by decide⟩
      · rw [ej P 10 (by omega) (by omega) (by omega), i2 P 10 (by omega) (by omega) (by omega), p10]; rfl
      · rw [ea, (q5 _ (hsy i h1 h2)).2]
        rw [if_neg (fun z => by cases z)]
      · rw [ea]; exact (q5 _ (hsy i h1 h2)).1
      · rw [ea, eb]; exact q6 c hc
      · rw [ej 13 9 (by omega) (by omega) (by omega)]; exact q3
      · rw [ej 13 7 (by omega) (by omega) (by omega)]; exact q2
      · rw [ej 2 15 (by omega) (by omega) (by omega), i2 2 15 (by omega) (by omega) (by omega)]; exact b0
    refine Or.inl ⟨⟨0, [], 0, [], fun _ => (0, 0), 0, ⟨X.nu 1, fun _ => (0, 0), [], 0, none, []⟩⟩, fun _ => (0, 0), RW.mk0 (h := g2) (o := ⟨0, [], 0, [], fun _ => (0, 0), 0, ⟨X.nu 1, fun _ => (0, 0), [], 0, none, []⟩⟩) hpp hJ (T3.tb.fr (by rw [eh]; rfl) (by rw [eh]; rfl) (by rw [eh]; rfl)) ?_ T3.jJ ?_ ?_ ?_ ?_ ?_ rfl rn, ?_, rfl, by rw [ej P 6 (by omega) (by omega) (by omega), i2 P 6 (by omega) (by omega) (by omega)]; exact p6, by rw [ej P 8 (by omega) (by omega) (by omega), i2 P 8 (by omega) (by omega) (by omega)]; exact p8, by rw [ej P 17 (by omega) (by omega) (by omega), i2 P 17 (by omega) (by omega) (by omega)]; exact p17⟩
    · rw [ei 3 7 (by omega)]; exact T3.at'
    · rw [ei 3 8 (by omega)]; exact T3.dp
    · rw [ei 3 9 (by omega), T3.e9, q1 3 9 (by omega)]; exact K.i9
    · rw [ei 21 0 (by omega), n3, i2 21 0 (by omega) (by omega) (by omega)]; exact n0
    · exact ⟨0, by rw [ej P 17 (by omega) (by omega) (by omega), i2 P 17 (by omega) (by omega) (by omega), p17]; rfl, by omega⟩
    · rw [ej 2 6 (by omega) (by omega) (by omega), i2 2 6 (by omega) (by omega) (by omega)]; exact m0
    · unfold sTx
      rcases nd_c hbk (j := 0) (show 0 ≤ 60 by omega) 200 with ⟨a1, a2⟩ | ⟨a1, a2⟩
      rotate_left
      · have a2 : ¬ X.kd 0 = 200 ∨ X.kd 1 = 2 := a2
        omega
      rcases nd_c hbk (j := 1) (show 0 ≤ 60 by omega) 4 with ⟨b1, b2⟩ | ⟨b1, b2⟩
      rotate_left
      · have b2 : ¬ X.kd 1 = 4 ∨ X.kd 2 = 2 := b2
        omega
      rw [a1, Option.bind_some, b1, Option.bind_some]
      rcases nd_c hbk (j := 2) (show 0 ≤ 60 by omega) 59 with ⟨c1, c2⟩ | ⟨c1, c2⟩
      · rw [c1, Option.bind_some, if_pos r1.2.2.2]
        exact lpA hbk hJ (by omega) 200000 3 0 0 0 [] (fun _ => (0, 0)) _ T3.jJ (by omega)
      · have c2 : ¬ X.kd 2 = 59 ∨ X.kd 3 = 2 := c2
        rw [c1]
        exact EndW.two (show X.kd 3 = 2 by omega)
  · refine Or.inr ⟨F, ?_⟩
    unfold sTx
    rcases nd_c hbk (j := 0) (show 0 ≤ 60 by omega) 200 with ⟨a1, a2⟩ | ⟨a1, a2⟩
    rotate_left
    · rw [a1]; rfl
    rw [a1, Option.bind_some]
    rcases nd_c hbk (j := 1) (show 0 ≤ 60 by omega) 4 with ⟨b1, b2⟩ | ⟨b1, b2⟩
    rotate_left
    · rw [b1]; rfl
    rw [b1, Option.bind_some]
    rcases nd_c hbk (j := 2) (show 0 ≤ 60 by omega) 59 with ⟨c1, c2⟩ | ⟨c1, c2⟩
    · rw [c1, Option.bind_some, if_neg (fun z => r1 ⟨a2, b2, c2, z⟩)]
    · rw [c1]; rfl
theorem is01_t {c : Nat} : is01 c = true ↔ (c = 48 ∨ c = 49) := by
  unfold is01
  rw [Bool.or_eq_true]
  exact ⟨fun z => z.elim (fun y => Or.inl (Nat.eq_of_beq_eq_true y)) (fun y => Or.inr (Nat.eq_of_beq_eq_true y)), fun z => z.elim (fun y => Or.inl (by rw [y]; rfl)) (fun y => Or.inr (by rw [y]; rfl))⟩
theorem is1_t {c : Nat} : is1 c = true ↔ c = 49 := by
  unfold is1
  exact ⟨fun z => Nat.eq_of_beq_eq_true z, fun z => by rw [z]; rfl⟩
/-- codes apart, as bits -/
theorem apt_b {x y : List Nat} {L : Nat} (hx : x.length = L) (hy : y.length = L) (hL : L ≤ 64) : lg_cmp ((nJ (mkN (fun i => is01 (x.getD i 0)) L) &&& nJ (mkN (fun i => is01 (y.getD i 0)) L)) &&& (nJ (mkN (fun i => is1 (x.getD i 0)) L) ^^^ nJ (mkN (fun i => is1 (y.getD i 0)) L))) (0 : Int64) = 0 ↔ ∀ k, k < L → dif x y k = false := by
  have hp : (2 : Nat) ^ L ≤ 2 ^ 64 := Nat.pow_le_pow_right (by omega) hL
  have b1 := mkN_b (fun i => is01 (x.getD i 0)) L
  have hlt : (mkN (fun i => is01 (x.getD i 0)) L &&& mkN (fun i => is01 (y.getD i 0)) L) &&& (mkN (fun i => is1 (x.getD i 0)) L ^^^ mkN (fun i => is1 (y.getD i 0)) L) < 18446744073709551616 := by
    have h1 : (mkN (fun i => is01 (x.getD i 0)) L &&& mkN (fun i => is01 (y.getD i 0)) L) ≤ mkN (fun i => is01 (x.getD i 0)) L := Nat.and_le_left
    have h2 : (mkN (fun i => is01 (x.getD i 0)) L &&& mkN (fun i => is01 (y.getD i 0)) L) &&& (mkN (fun i => is1 (x.getD i 0)) L ^^^ mkN (fun i => is1 (y.getD i 0)) L) ≤ (mkN (fun i => is01 (x.getD i 0)) L &&& mkN (fun i => is01 (y.getD i 0)) L) := Nat.and_le_left
    have e : (2 : Nat) ^ 64 = 18446744073709551616 := by decide
    omega
  rw [xJ_and, xJ_xor, xJ_and]
  have t := lc_eq2 hlt (w := 0) (by omega)
  have t : lg_cmp (nJ ((mkN (fun i => is01 (x.getD i 0)) L &&& mkN (fun i => is01 (y.getD i 0)) L) &&& (mkN (fun i => is1 (x.getD i 0)) L ^^^ mkN (fun i => is1 (y.getD i 0)) L))) (0 : Int64) = 0 ↔ (mkN (fun i => is01 (x.getD i 0)) L &&& mkN (fun i => is01 (y.getD i 0)) L) &&& (mkN (fun i => is1 (x.getD i 0)) L ^^^ mkN (fun i => is1 (y.getD i 0)) L) = 0 := t
  rw [t]
  have bit : ∀ i, ((mkN (fun i => is01 (x.getD i 0)) L &&& mkN (fun i => is01 (y.getD i 0)) L) &&& (mkN (fun i => is1 (x.getD i 0)) L ^^^ mkN (fun i => is1 (y.getD i 0)) L)).testBit i = (decide (i < L) && dif x y (L - 1 - i)) := fun i => by
    rw [Nat.testBit_and, Nat.testBit_and, Nat.testBit_xor, mkN_t, mkN_t, mkN_t, mkN_t]
    by_cases z : i < L
    · rw [show decide (i < L) = true from decide_eq_true z]
      unfold dif is01 is1
      cases ha : Nat.beq (x.getD (L - 1 - i) 0) 48 <;> cases hb : Nat.beq (x.getD (L - 1 - i) 0) 49 <;> cases hc : Nat.beq (y.getD (L - 1 - i) 0) 48 <;> cases hd : Nat.beq (y.getD (L - 1 - i) 0) 49 <;> first | rfl | (exfalso; first | (have h1 := Nat.eq_of_beq_eq_true ha; have h2 := Nat.eq_of_beq_eq_true hb; omega) | (have h1 := Nat.eq_of_beq_eq_true hc; have h2 := Nat.eq_of_beq_eq_true hd; omega))
    · rw [show decide (i < L) = false from decide_eq_false z]; rfl
  constructor
  · intro e k hk
    have := bit (L - 1 - k)
    rw [e, Nat.zero_testBit, show decide (L - 1 - k < L) = true from decide_eq_true (by omega), Bool.true_and, show L - 1 - (L - 1 - k) = k by omega] at this
    exact this.symm
  · intro e
    refine Nat.eq_of_testBit_eq (fun i => ?_)
    rw [bit, Nat.zero_testBit]
    by_cases z : i < L
    · rw [e _ (by omega), Bool.and_false]
    · rw [show decide (i < L) = false from decide_eq_false z]; rfl
theorem ftl (g : mv_H) (y x : Int32) : ∃ g', f_Faults_tell g y x = some g' := by
  unfold f_Faults_tell f_Faults_tell_31
  split
  · exact ⟨_, rfl⟩
  · split
    · exact ⟨_, rfl⟩
    · split
      · split <;> exact ⟨_, rfl⟩
      · exact ⟨_, rfl⟩
theorem aptC_d {x y : List Nat} (h : x.length = y.length) : aptC x y = true ↔ ∃ k, k < x.length ∧ dif x y k = true := by
  rw [aptC_q x y h, anq_iff]
  exact ⟨fun ⟨k, _, h2, h3⟩ => ⟨k, by omega, h3⟩, fun ⟨k, h2, h3⟩ => ⟨k, Nat.zero_le _, by omega, h3⟩⟩
section APT
variable {P n L : Nat} {h : mv_H} {c : Nat → List Nat} (hn : n ≤ 512) (hL : L ≤ 64) (e10 : mv_i h P 10 = nI n) (hc : ∀ k, k < n → mv_b h (P + 5) k = nJ (mkN (fun i => is01 ((c k).getD i 0)) L) ∧ mv_b h (P + 6) k = nJ (mkN (fun i => is1 ((c k).getD i 0)) L) ∧ (c k).length = L)
theorem ap_e (hn : n ≤ 512) (hL : L ≤ 64) (hc : ∀ k, k < n → mv_b h (P + 5) k = nJ (mkN (fun i => is01 ((c k).getD i 0)) L) ∧ mv_b h (P + 6) k = nJ (mkN (fun i => is1 ((c k).getD i 0)) L) ∧ (c k).length = L) {i j : Nat} (hi : i < n) (hj : j < n) : (aptC (c j) (c i) = true ∧ f_Program_apart P h (nI j) (nI i) = some (1, h)) ∨ (¬ aptC (c j) (c i) = true ∧ f_Program_apart P h (nI j) (nI i) = some (0, h)) := by
  obtain ⟨a1, a2, a3⟩ := hc i hi
  obtain ⟨b1, b2, b3⟩ := hc j hj
  have t := apt_b b3 a3 hL
  have q := aptC_d (x := c j) (y := c i) (by rw [b3, a3])
  unfold f_Program_apart
  rw [xvi_n (show j < 512 by omega) (by decide), xvi_n (show i < 512 by omega) (by decide), cond_true, cond_true, cond_true, cond_true, cln (by omega), cln (by omega), a1, a2, b1, b2]
  by_cases z : lg_cmp ((nJ (mkN (fun k => is01 ((c j).getD k 0)) L) &&& nJ (mkN (fun k => is01 ((c i).getD k 0)) L)) &&& (nJ (mkN (fun k => is1 ((c j).getD k 0)) L) ^^^ nJ (mkN (fun k => is1 ((c i).getD k 0)) L))) (0 : Int64) = 0
  · rw [if_pos z, xz0, cond_true]
    refine Or.inr ⟨fun w => ?_, rfl⟩
    obtain ⟨k, k1, k2⟩ := q.mp w
    rw [t.mp z k (by omega)] at k2; cases k2
  · rw [if_neg z, xz1', cond_true]
    refine Or.inl ⟨?_, rfl⟩
    rcases Classical.em (aptC (c j) (c i) = true) with w | w
    · exact w
    · refine absurd (t.mpr (fun k hk => ?_)) z
      cases y : dif (c j) (c i) k with
      | false => rfl
      | true => exact absurd (q.mpr ⟨k, by omega, y⟩) w
theorem ap15 (hn : n ≤ 512) (hL : L ≤ 64) (hc : ∀ k, k < n → mv_b h (P + 5) k = nJ (mkN (fun i => is01 ((c k).getD i 0)) L) ∧ mv_b h (P + 6) k = nJ (mkN (fun i => is1 ((c k).getD i 0)) L) ∧ (c k).length = L) (k2 : Int32 → mv_H → Option (Int32 × mv_H)) {i : Nat} (hi : i < n) : ∀ (nn j : Nat), j ≤ i → i < nn + j → ((∀ j', j ≤ j' → j' < i → aptC (c j') (c i) = true) ∧ f_Weaver_areApart_15 P k2 nn (nI i) (nI j) h = k2 (nI (i + 1)) h) ∨ ((∃ j', j' < i ∧ ¬ aptC (c j') (c i) = true) ∧ ∃ h', f_Weaver_areApart_15 P k2 nn (nI i) (nI j) h = some (0, h')) := by
  intro nn
  induction nn with
  | zero => intro j h1 h2; omega
  | succ nn ih =>
    intro j hj hnn
    have e0 : f_Weaver_areApart_15 P k2 (nn + 1) (nI i) (nI j) h = fF_Weaver_areApart_15 P k2 (f_Weaver_areApart_15 P k2 nn) (nI i) (nI j) h := rfl
    rw [e0]
    unfold fF_Weaver_areApart_15
    by_cases z : i = j
    · rw [if_pos (show nI i ≤ nI j by rw [z]; exact Int32.le_refl _), nI1 (by omega)]
      exact Or.inl ⟨fun j' h1 h2 => by omega, rfl⟩
    · rw [if_neg (show ¬ nI i ≤ nI j from fun w => by have := (nIle (by omega) (by omega)).mp w; omega)]
      rcases ap_e hn hL hc hi (show j < n by omega) with ⟨q1, q2⟩ | ⟨q1, q2⟩
      · rw [q2, xhb_s, if_neg (by decide), nI1 (by omega)]
        rcases ih (j + 1) (by omega) (by omega) with ⟨r1, r2⟩ | ⟨r1, r2⟩
        · refine Or.inl ⟨fun j' h1 h2 => ?_, r2⟩
          by_cases y : j' = j
          · rw [y]; exact q1
          · exact r1 j' (by omega) h2
        · exact Or.inr ⟨r1, r2⟩
      · obtain ⟨g', e'⟩ := ftl h (nI i) 7
        rw [q2, xhb_s, if_pos rfl, e', xhv_s, xk_s, xz0, cond_true]
        exact Or.inr ⟨⟨j, by omega, q1⟩, _, rfl⟩
theorem ap2 (hn : n ≤ 512) (hL : L ≤ 64) (e10 : mv_i h P 10 = nI n) (hc : ∀ k, k < n → mv_b h (P + 5) k = nJ (mkN (fun i => is01 ((c k).getD i 0)) L) ∧ mv_b h (P + 6) k = nJ (mkN (fun i => is1 ((c k).getD i 0)) L) ∧ (c k).length = L) : ∀ (nn i : Nat), 1 ≤ i → n + 1 < nn + i → i ≤ n + 1 → ((∀ i' j', i ≤ i' → i' < n → j' < i' → aptC (c j') (c i') = true) ∧ f_Weaver_areApart_2 P nn (nI i) h = some (1, h)) ∨ ((∃ i' j', i' < n ∧ j' < i' ∧ ¬ aptC (c j') (c i') = true) ∧ ∃ h', f_Weaver_areApart_2 P nn (nI i) h = some (0, h')) := by
  intro nn
  induction nn with
  | zero =>
    intro i h1 h2 h3
    omega
  | succ nn ih =>
    intro i h1 h2 h3
    have e0 : f_Weaver_areApart_2 P (nn + 1) (nI i) h = fF_Weaver_areApart_2 P (f_Weaver_areApart_2 P nn) (nI i) h := rfl
    rw [e0]
    unfold fF_Weaver_areApart_2
    by_cases z : n ≤ i
    · rw [if_pos (show mv_i h P 10 ≤ nI i by rw [e10]; exact (nIle (by omega) (by omega)).mpr z), xz1', cond_true]
      exact Or.inl ⟨fun i' j' a b _ => by omega, rfl⟩
    · rw [if_neg (show ¬ mv_i h P 10 ≤ nI i from fun w => by rw [e10] at w; have := (nIle (by omega) (by omega)).mp w; omega)]
      rcases ap15 hn hL hc (f_Weaver_areApart_2 P nn) (i := i) (by omega) 200000 0 (by omega) (by omega) with ⟨r1, r2⟩ | ⟨⟨j', r1, r2⟩, h', r3⟩
      · have r2 : f_Weaver_areApart_15 P (f_Weaver_areApart_2 P nn) 200000 (nI i) 0 h = f_Weaver_areApart_2 P nn (nI (i + 1)) h := r2
        rw [r2]
        rcases ih (i + 1) (by omega) (by omega) (by omega) with ⟨s1, s2⟩ | s
        · refine Or.inl ⟨fun i' j' a b d => ?_, s2⟩
          by_cases y : i' = i
          · rw [y] at d ⊢; exact r1 j' (Nat.zero_le _) d
          · exact s1 i' j' (by omega) b d
        · exact Or.inr s
      · exact Or.inr ⟨⟨i, j', by omega, r1, r2⟩, h', r3⟩
end APT
/-- the ops' codes are apart, or not -/
theorem apt_R {X : TX} {J P : Nat} {sy : List Nat → Nat} {h : mv_H} {s : SI} {bl : List (Nat × LK)} {lkB : LK} {C : List Nat} {SC : List (List Nat)} {le : Nat} (R : RN X J P sy h s bl lkB C SC le) : (aptL (s.ops.map Prod.snd) = true ∧ f_Weaver_areApart P h = some (1, h)) ∨ (¬ aptL (s.ops.map Prod.snd) = true ∧ ∃ h', f_Weaver_areApart P h = some (0, h')) := by
  have em : ∀ k, k < s.ops.length → (s.ops.map Prod.snd).getD k [] = (s.ops.getD k ([], [])).2 := fun k hk => by
    rw [List.getD_eq_getElem?_getD, List.getElem?_map, List.getD_eq_getElem?_getD, List.getElem?_eq_getElem hk]; rfl
  have el : (s.ops.map Prod.snd).length = s.ops.length := List.length_map _
  have q := aptL_q (s.ops.map Prod.snd)
  rcases ap2 (c := fun k => (s.ops.getD k ([], [])).2) R.o2 R.b2 R.o0 R.oc 200000 1 (by omega) (by have := R.o2; omega) (by omega) with ⟨r1, r2⟩ | ⟨⟨i, j, r1, r2, r3⟩, h', r4⟩
  · refine Or.inl ⟨q.mpr (fun i j hj hi => ?_), r2⟩
    rw [el] at hi
    rw [em i hi, em j (by omega)]
    exact r1 i j (by omega) hi hj
  · refine Or.inr ⟨fun w => r3 ?_, h', r4⟩
    have := q.mp w i j r2 (by rw [el]; exact r1)
    rw [em i r1, em j (by omega)] at this
    exact this
/-! turns of a flagged Weaver: they end, and the flag stays -/
theorem Fl.w {X : TX} {J P : Nat} {h h' : mv_H} {j d : Nat} (Q : WQ X J P h h' j d) (n : ¬ mv_i h 21 0 = 0) : Fl h' := Or.inr (by rw [Q.n]; exact n)
section FLG
variable {X : TX} {J P : Nat} {sy : List Nat → Nat} {h : mv_H} {j d : Nat} (W : WA X J P sy h j d) (nn : ¬ mv_i h 21 0 = 0)
theorem itm_F (W : WA X J P sy h j d) (nn : ¬ mv_i h 21 0 = 0) {t c o b L : Nat} (e1 : mv_i h P 1 = nI t) (ht : t ≤ 64) (e7 : mv_i h P 7 = nI c) (hc : c ≤ 65536) (eo : mv_i h P 10 = nI o) (ho : o ≤ 512) (eb : mv_i h 2 15 = nI b) (hb : b ≤ 60) (eL : mv_i h P 0 = nI L) (hL : L ≤ 64) : ∃ h', f_Weaver_item P h = some h' ∧ Fl h' := by
  have hpp := W.pp
  have hkd := (W.pt.tb.k j W.pt.jJ).2
  have t1 : (nI (X.kd j)).toInt = 1 ↔ X.kd j = 1 := by rw [nIi (by omega)]; omega
  have t201 : (nI (X.kd j)).toInt = 201 ↔ X.kd j = 201 := by rw [nIi (by omega)]; omega
  have t202 : (nI (X.kd j)).toInt = 202 ↔ X.kd j = 202 := by rw [nIi (by omega)]; omega
  have t204 : (nI (X.kd j)).toInt = 204 ↔ X.kd j = 204 := by rw [nIi (by omega)]; omega
  have t206 : (nI (X.kd j)).toInt = 206 ↔ X.kd j = 206 := by rw [nIi (by omega)]; omega
  unfold f_Weaver_item
  rw [W.pt.kd, xhb_s]
  by_cases c1 : X.kd j = 1
  · rw [if_pos (t1.mpr c1), xk_s]
    exact ⟨_, rfl, Or.inr nn⟩
  rw [if_neg (fun z => c1 (t1.mp z))]
  by_cases c2 : X.kd j = 201
  · rw [if_pos (t201.mpr c2)]
    obtain ⟨h', e, q⟩ := reg_A W c2 e1 ht e7 hc
    rw [e, xhv_s]
    refine ⟨h', rfl, ?_⟩
    rcases q with ⟨-, -, g, -, n, Q⟩ | ⟨-, F⟩
    · exact Fl.n nn (by rw [Q.n hpp, n])
    · exact F
  rw [if_neg (fun z => c2 (t201.mp z))]
  by_cases c3 : X.kd j = 202
  · rw [if_pos (t202.mpr c3)]
    obtain ⟨h', e, q⟩ := fil_A W c3 e1 ht e7 hc
    rw [e, xhv_s]
    refine ⟨h', rfl, ?_⟩
    rcases q with ⟨-, -, -, g, -, n, Q⟩ | ⟨-, F⟩
    · exact Fl.n nn (by rw [Q.n hpp, n])
    · exact F
  rw [if_neg (fun z => c3 (t202.mp z))]
  by_cases c4 : X.kd j = 204
  · rw [if_pos (t204.mpr c4)]
    obtain ⟨h', e, q⟩ := fet_A W c4
    rw [e, xhv_s]
    refine ⟨h', rfl, ?_⟩
    rcases q with ⟨-, -, -, g, x, u, -, n, -, eh, -⟩ | ⟨-, F⟩
    · refine Fl.n nn ?_
      rw [eh, ← n]
      funext k; ((simp only [rw_ii, rw_aa, rw_bb, rw_ia, rw_ib, rw_ai, rw_ab, rw_bi, rw_ba, true_and, and_true, if_true]; repeat' split) <;> first | rfl | (exfalso; omega))
    · exact F
  rw [if_neg (fun z => c4 (t204.mp z))]
  by_cases c5 : X.kd j = 206
  · rw [if_pos (t206.mpr c5)]
    obtain ⟨h', e, q⟩ := op_A W c5 eo ho eb hb eL hL
    rw [e, xhv_s]
    refine ⟨h', rfl, ?_⟩
    rcases q with ⟨-, -, g1, g2, -, n, Q, e1', -⟩ | ⟨-, F⟩
    · refine Or.inr ?_
      rw [e1', Q.i 21 0 (by omega)]
      show ¬ mv_i g1 21 0 = 0
      rw [n]; exact nn
    · exact F
  rw [if_neg (fun z => c5 (t206.mp z))]
  obtain ⟨h', e, w, -⟩ := W.pt.wr
  rw [e, xhv_s]
  exact ⟨h', rfl, w.fl⟩
theorem stm_F (W : WA X J P sy h j d) (nn : ¬ mv_i h 21 0 = 0) {l : Nat} (el : mv_i h 13 9 = nI l) (hl : l ≤ 64) (hB : X.kd j = 125 → 0 < d ∧ ∃ b kk n s, BkA P h b kk n s) : ∃ h', f_Weaver_statement P h = some h' ∧ Fl h' := by
  have hpp := W.pp
  have hkd := (W.pt.tb.k j W.pt.jJ).2
  have t3 : (nI (X.kd j)).toInt = 3 ↔ X.kd j = 3 := by rw [nIi (by omega)]; omega
  have t125 : (nI (X.kd j)).toInt = 125 ↔ X.kd j = 125 := by rw [nIi (by omega)]; omega
  have t207 : (nI (X.kd j)).toInt = 207 ↔ X.kd j = 207 := by rw [nIi (by omega)]; omega
  have t208 : (nI (X.kd j)).toInt = 208 ↔ X.kd j = 208 := by rw [nIi (by omega)]; omega
  have t209 : (nI (X.kd j)).toInt = 209 ↔ X.kd j = 209 := by rw [nIi (by omega)]; omega
  unfold f_Weaver_statement
  rw [W.pt.kd, xhb_s]
  by_cases c1 : X.kd j = 3
  · rw [if_pos (t3.mpr c1)]
    obtain ⟨h', e, q⟩ := asg_A W c1
    rw [e, xhv_s]
    refine ⟨h', rfl, ?_⟩
    rcases q with ⟨-, -, Q, -⟩ | ⟨-, -, Q, -⟩ | ⟨-, -, F⟩
    · exact Fl.w Q nn
    · exact Fl.w Q nn
    · exact F
  rw [if_neg (fun z => c1 (t3.mp z))]
  by_cases c2 : X.kd j = 125
  · rw [if_pos (t125.mpr c2)]
    obtain ⟨hd, b, kk, n, s, B⟩ := hB c2
    obtain ⟨g9, hC, h', e, q⟩ := cls_A W c2 hd B
    rw [e, xhv_s]
    refine ⟨h', rfl, ?_⟩
    have n9 : ¬ mv_i g9 21 0 = 0 := by rw [hC.i 21 0 (by omega) (by omega) (by omega)]; exact nn
    rcases q with ⟨-, g', k', Q, -, L, eh⟩ | ⟨-, q⟩ | ⟨-, Q, -⟩
    · refine Or.inr ?_
      rw [eh]
      show ¬ mv_i k' 21 0 = 0
      rw [L.i 21 0 (by omega), Q.n]; exact n9
    · rcases q with ⟨-, Q, -⟩ | ⟨-, -, g1, a2, Q, eh⟩ | ⟨-, -, F⟩
      · exact Fl.w Q n9
      · refine Or.inr ?_
        rw [eh]
        show ¬ mv_i g1 21 0 = 0
        rw [Q.n]; exact n9
      · exact F
    · exact Fl.w Q n9
  rw [if_neg (fun z => c2 (t125.mp z))]
  by_cases c3 : X.kd j = 207
  · rw [if_pos (t207.mpr c3)]
    obtain ⟨h', e, q⟩ := let_A W c3 el hl
    rw [e, xhv_s]
    refine ⟨h', rfl, ?_⟩
    rcases q with ⟨-, -, Q, -⟩ | ⟨-, F⟩
    · exact Fl.w Q nn
    · exact F
  rw [if_neg (fun z => c3 (t207.mp z))]
  by_cases c4 : X.kd j = 208
  · rw [if_pos (t208.mpr c4)]
    obtain ⟨h', e, q⟩ := trp_A W c4
    refine ⟨h', e, ?_⟩
    rcases q with ⟨-, Q, -⟩ | ⟨-, F⟩
    · exact Fl.w Q nn
    · exact F
  rw [if_neg (fun z => c4 (t208.mp z))]
  by_cases c5 : X.kd j = 209
  · rw [if_pos (t209.mpr c5)]
    obtain ⟨h', e, Q, -⟩ := bif_A W W.wq c5 (-1)
    rw [e, xhv_s]
    exact ⟨h', rfl, Fl.w Q nn⟩
  rw [if_neg (fun z => c5 (t209.mp z))]
  obtain ⟨h', e, w, -⟩ := W.pt.wr
  rw [e, xhv_s]
  exact ⟨h', rfl, w.fl⟩
theorem fin_F (W : WA X J P sy h j d) (nn : ¬ mv_i h 21 0 = 0) (e10 : mv_i h 22 10 = nI 1) {gl : Nat} (eg : mv_i h 2 7 = nI gl) (hg : gl ≤ 4) (hd : gl = 1 → 0 < d) (ht : ¬ gl = 1 → ∃ t, mv_i h 2 8 = nI t ∧ t < 32770) {b l n : Nat} (eb : mv_i h 2 15 = nI b) (hb : b ≤ 60) (el : mv_i h 13 9 = nI l) (en : mv_i h 13 7 = nI n) (hn : n ≤ l) (h0 : gl = 0 → mv_i h 2 9 < 0 ∨ ∃ s, mv_i h 2 9 = nI s ∧ s < 16448 ∧ l < 64) (h2 : gl = 2 ∨ gl = 3 → mv_i h 2 9 < 0 ∨ ∃ u, mv_i h 2 9 = nI u ∧ u < 64) : ∃ h', f_Weaver_finish P h = some h' ∧ Fl h' := by
  have hpp := W.pp
  have hc : gl = 1 ∨ gl = 4 ∨ gl = 0 ∨ (gl = 2 ∨ gl = 3) := by omega
  rcases hc with c | c | c | c
  · obtain ⟨h', e, q⟩ := fin1_A W e10 (by rw [eg, c]; rfl) (hd c)
    refine ⟨h', e, ?_⟩
    rcases q with ⟨-, Q, -⟩ | ⟨-, F⟩
    · exact Fl.w Q nn
    · exact F
  · obtain ⟨t, et, ht'⟩ := ht (by omega)
    obtain ⟨h', e, q⟩ := fin4_A W e10 (by rw [eg, c]; rfl) et ht' eb hb
    refine ⟨h', e, ?_⟩
    rcases q with ⟨-, -, g1, a1, a2, Q, eh⟩ | ⟨-, F⟩
    · refine Or.inr ?_
      rw [eh]
      show ¬ mv_i g1 21 0 = 0
      rw [Q.n]; exact nn
    · exact F
  · obtain ⟨h', e, q⟩ := fin0_A W e10 (by rw [eg, c]; rfl) el en hn (h0 c)
    refine ⟨h', e, ?_⟩
    rcases q with ⟨s, -, -, -, -, g3, k, Q, -, A, T, n3⟩ | ⟨-, F⟩ | ⟨-, F⟩
    · refine Or.inr ?_
      rw [n3, A.i 21 0 (by omega), Q.n]; exact nn
    · exact F
    · exact F nn
  · obtain ⟨t, et, ht'⟩ := ht (by omega)
    obtain ⟨h', e, q⟩ := fin2_A W e10 (by rw [eg]; rcases c with z | z <;> rw [z]
                                          · exact Or.inl rfl
                                          · exact Or.inr rfl) et ht' (h2 c)
    refine ⟨h', e, ?_⟩
    rcases q with ⟨u, -, -, -, -, Q, -⟩ | ⟨-, F⟩ | ⟨-, F⟩
    · exact Fl.w Q nn
    · exact F
    · exact F nn
end FLG
/-! a heap that keeps what the reading of an EXPR leaves -/
def patE (P : Nat) (u h' : mv_H) : mv_H := (fun o k => if (o = 3 ∧ 7 ≤ k ∧ k ≤ 9) ∨ (o = 22 ∧ (k = 8 ∨ k = 10)) ∨ (o = P ∧ k = 17) ∨ o = 21 then mv_i h' o k else mv_i u o k, h'.2.1, h'.2.2.1, fun o => if (23 ≤ o ∧ o ≤ 27) ∨ o = P + 9 then mv_a h' o else mv_a u o, fun o => if o = P + 10 then mv_b h' o else mv_b u o)
theorem patE_i (P : Nat) (u h' : mv_H) (o k : Nat) : mv_i (patE P u h') o k = if (o = 3 ∧ 7 ≤ k ∧ k ≤ 9) ∨ (o = 22 ∧ (k = 8 ∨ k = 10)) ∨ (o = P ∧ k = 17) ∨ o = 21 then mv_i h' o k else mv_i u o k := rfl
theorem patE_a (P : Nat) (u h' : mv_H) (o : Nat) : mv_a (patE P u h') o = if (23 ≤ o ∧ o ≤ 27) ∨ o = P + 9 then mv_a h' o else mv_a u o := rfl
theorem patE_b (P : Nat) (u h' : mv_H) (o : Nat) : mv_b (patE P u h') o = if o = P + 10 then mv_b h' o else mv_b u o := rfl
theorem patE_F (P : Nat) (u h' : mv_H) : RFq P u (patE P u h') :=
  ⟨fun o k q => by rw [patE_i, if_neg q], fun o q => by rw [patE_a, if_neg q], fun o q => by rw [patE_b, if_neg q]⟩
theorem patE_C {X : TX} {J P : Nat} {u h' : mv_H} {j d : Nat} {M : List MkA} {H : List Nat} (C : CXq X J P h' j d M H) (tb : TB X J u) (e : ∀ t, t < 64 → mv_a h' (P + 1) t = mv_a u (P + 1) t) : CXq X J P (patE P u h') j d M H := by
  have hpp := C.pp
  have ei : ∀ o k, ((o = 3 ∧ 7 ≤ k ∧ k ≤ 9) ∨ (o = 22 ∧ (k = 8 ∨ k = 10)) ∨ (o = P ∧ k = 17) ∨ o = 21) → mv_i (patE P u h') o k = mv_i h' o k := fun o k q => by rw [patE_i, if_pos q]
  have ea : ∀ o, 23 ≤ o → o ≤ 27 → mv_a (patE P u h') o = mv_a h' o := fun o h1 h2 => by rw [patE_a, if_pos (Or.inl ⟨h1, h2⟩)]
  have eu : ∀ o, ¬ ((23 ≤ o ∧ o ≤ 27) ∨ o = P + 9) → mv_a (patE P u h') o = mv_a u o := fun o q => by rw [patE_a, if_neg q]
  refine ⟨tb.fr (eu 4 (by omega)) (eu 5 (by omega)) (by rw [patE_b, if_neg (by omega)]), hpp, by rw [ei 3 7 (by omega)]; exact C.at', C.jJ, by rw [ei 3 8 (by omega)]; exact C.dp, C.d2, by rw [ei 3 9 (by omega)]; exact C.ok, by rw [ei 21 0 (by omega)]; exact C.no, by rw [ei 22 8 (by omega)]; exact C.ml, ?_, by rw [ei 22 10 (by omega)]; exact C.hl, C.hr.fr (fun i _ => by rw [ea 27 (by omega) (by omega)]), C.sm, by rw [ei P 17 (by omega)]; exact C.sz⟩
  have eP := eu (P + 1) (by omega)
  have e23 := ea 23 (by omega) (by omega)
  have e24 := ea 24 (by omega) (by omega)
  have e25 := ea 25 (by omega) (by omega)
  have e26 := ea 26 (by omega) (by omega)
  have : ∀ (M : List MkA), MR P h' M → MR P (patE P u h') M := by
    intro M
    induction M with
    | nil => intro _; exact trivial
    | cons m M ih =>
      intro hM
      obtain ⟨⟨q1, q2, q3, q4, q5, q6, q7⟩, q8⟩ := hM
      refine ⟨⟨?_, q2, q3, ?_, ?_, ?_, ?_⟩, ih q8⟩
      · rw [e23]; exact q1
      · rw [e24]; exact q4
      · rw [e25]; exact q5
      · intro z
        obtain ⟨t, t1, t2, t3⟩ := q6 z
        exact ⟨t, by rw [e25]; exact t1, t2, by rw [eP, ← e t t2]; exact t3⟩
      · intro z
        rw [e25, e26]; exact q7 z
  exact this M C.mr
section EWI
variable {X : TX} {c c' : CfA} {r : Option SI}
theorem EndW.go' (h : EndW X c r) (e : aSp X c = some c') : ¬ (c.md = 0 ∧ X.kd c.j = 1) → EndW X c' r := by
  intro n
  have t9 := EndW.inv h
  clear h
  rcases t9 with ⟨h, h2, er⟩ | ⟨h, er⟩ | ⟨c9, h, t⟩
  · subst er; rw [h] at e; cases e
  · subst er; exact absurd h n
  · rw [h] at e; rw [← Option.some.inj e]; exact t
theorem EndW.no' (h : EndW X c r) (e : aSp X c = none) (n : ¬ (c.md = 0 ∧ X.kd c.j = 1)) : r = none := by
  have t9 := EndW.inv h
  clear h
  rcases t9 with ⟨h, h2, er⟩ | ⟨h, er⟩ | ⟨c9, h, t⟩
  · subst er; rfl
  · subst er; exact absurd h n
  · rw [h] at e; cases e
theorem EndW.fi' (h : EndW X c r) (n : c.md = 0 ∧ X.kd c.j = 1) : r = some c.o.s := by
  have t9 := EndW.inv h
  clear h
  rcases t9 with ⟨h, h2, er⟩ | ⟨h, er⟩ | ⟨c9, h, t⟩
  · subst er; exact absurd n h2
  · subst er; rfl
  · skip
    unfold aSp at h
    rw [n.1] at h
    have h : aIt X c.j c.o = some _ := h
    unfold aIt at h
    rw [if_neg (by omega), if_neg (by omega), if_neg (by omega), if_neg (by omega)] at h
    cases h
end EWI
/-- a heap that keeps the tokens -/
def patS (u h' : mv_H) : mv_H := (h'.1, h'.2.1, h'.2.2.1, fun o => if o = 1 ∨ o = 4 ∨ o = 5 ∨ o = 8 ∨ o = 9 then mv_a u o else mv_a h' o, fun o => if o = 6 then mv_b u o else mv_b h' o)
theorem patS_T {X : TX} {J : Nat} {u : mv_H} (T : TB X J u) (h' : mv_H) : TB X J (patS u h') := T.fr rfl rfl rfl
theorem patS_S {X : TX} {J : Nat} {sy : List Nat → Nat} {u : mv_H} (S : SyQ X J sy u) (h' : mv_H) : SyQ X J sy (patS u h') := S.fr rfl rfl rfl rfl rfl
theorem patS_F {h' : mv_H} (F : Fl h') (u : mv_H) : Fl (patS u h') := F
/-- an Int32 that is not below 0 -/
theorem nI_o2 {x : Int32} {n : Nat} (h : x.toInt = n) : x = nI n := Int32.toInt_inj.mp (by
  have := (i32_rng x).2
  rw [nIi (by omega)]; exact h)
theorem nI_ex {x : Int32} (h : 0 ≤ x.toInt) : ∃ n : Nat, x = nI n ∧ x.toInt = n := ⟨x.toInt.toNat, nI_o2 (by omega), by omega⟩
/-! from the safety of the walk to the exact rows -/
/-- what two heaps of the walk share -/
def AgF (P : Nat) (τ υ : mv_H) : Prop := (∀ k, 5 ≤ k → k ≤ 9 → mv_i υ 3 k = mv_i τ 3 k) ∧ (mv_i υ 21 0 = mv_i τ 21 0) ∧ (∀ k, (6 ≤ k ∧ k ≤ 10) ∨ k = 15 → mv_i υ 2 k = mv_i τ 2 k) ∧ (∀ k, k = 7 ∨ k = 9 → mv_i υ 13 k = mv_i τ 13 k) ∧ (∀ k, k = 8 ∨ k = 10 → mv_i υ 22 k = mv_i τ 22 k) ∧ (∀ k, k = 0 ∨ k = 1 ∨ k = 7 ∨ k = 9 ∨ k = 10 ∨ k = 17 → mv_i υ P k = mv_i τ P k) ∧ (∀ y, y < 16448 → mv_a υ 14 y = mv_a τ 14 y ∧ mv_a υ 15 y = mv_a τ 15 y) ∧ (∀ y, y < 64 → mv_a υ 19 y = mv_a τ 19 y) ∧ (∀ y, y < 61 → mv_a υ 29 y = mv_a τ 29 y ∧ mv_a υ 30 y = mv_a τ 30 y ∧ mv_a υ 31 y = mv_a τ 31 y) ∧ (∀ y, y < 64 → mv_a υ (P + 1) y = mv_a τ (P + 1) y) ∧ (∀ y, y < 32768 → mv_b υ (P + 10) y = mv_b τ (P + 10) y)
theorem AgF.i3 {P : Nat} {τ υ : mv_H} (h99 : AgF P τ υ) : ∀ k, 5 ≤ k → k ≤ 9 → mv_i υ 3 k = mv_i τ 3 k := h99.1
theorem AgF.i21 {P : Nat} {τ υ : mv_H} (h99 : AgF P τ υ) : mv_i υ 21 0 = mv_i τ 21 0 := h99.2.1
theorem AgF.i2 {P : Nat} {τ υ : mv_H} (h99 : AgF P τ υ) : ∀ k, (6 ≤ k ∧ k ≤ 10) ∨ k = 15 → mv_i υ 2 k = mv_i τ 2 k := h99.2.2.1
theorem AgF.i13 {P : Nat} {τ υ : mv_H} (h99 : AgF P τ υ) : ∀ k, k = 7 ∨ k = 9 → mv_i υ 13 k = mv_i τ 13 k := h99.2.2.2.1
theorem AgF.i22 {P : Nat} {τ υ : mv_H} (h99 : AgF P τ υ) : ∀ k, k = 8 ∨ k = 10 → mv_i υ 22 k = mv_i τ 22 k := h99.2.2.2.2.1
theorem AgF.iP {P : Nat} {τ υ : mv_H} (h99 : AgF P τ υ) : ∀ k, k = 0 ∨ k = 1 ∨ k = 7 ∨ k = 9 ∨ k = 10 ∨ k = 17 → mv_i υ P k = mv_i τ P k := h99.2.2.2.2.2.1
theorem AgF.a14 {P : Nat} {τ υ : mv_H} (h99 : AgF P τ υ) : ∀ y, y < 16448 → mv_a υ 14 y = mv_a τ 14 y ∧ mv_a υ 15 y = mv_a τ 15 y := h99.2.2.2.2.2.2.1
theorem AgF.a19 {P : Nat} {τ υ : mv_H} (h99 : AgF P τ υ) : ∀ y, y < 64 → mv_a υ 19 y = mv_a τ 19 y := h99.2.2.2.2.2.2.2.1
theorem AgF.a28 {P : Nat} {τ υ : mv_H} (h99 : AgF P τ υ) : ∀ y, y < 61 → mv_a υ 29 y = mv_a τ 29 y ∧ mv_a υ 30 y = mv_a τ 30 y ∧ mv_a υ 31 y = mv_a τ 31 y := h99.2.2.2.2.2.2.2.2.1
theorem AgF.aw {P : Nat} {τ υ : mv_H} (h99 : AgF P τ υ) : ∀ y, y < 64 → mv_a υ (P + 1) y = mv_a τ (P + 1) y := h99.2.2.2.2.2.2.2.2.2.1
theorem AgF.b10 {P : Nat} {τ υ : mv_H} (h99 : AgF P τ υ) : ∀ y, y < 32768 → mv_b υ (P + 10) y = mv_b τ (P + 10) y := h99.2.2.2.2.2.2.2.2.2.2
section SAF
variable {X : TX} {J P : Nat} {sy : List Nat → Nat} {τ υ : mv_H} (A : AgF P τ υ) (hpp : P = 32 ∨ P = 48) (hJ : X.kd J = 1 ∨ X.kd J = 2) (T : TB X J υ) (S : SyQ X J sy υ) {n sz th sl no : Nat} (hsy : ∀ i, i ≤ J → X.kd i = 3 → sy (X.nm i) < n) (hn : n ≤ 16448) (hsz : sz = J + 2) (hW : WN P 512 τ n th sl no)
theorem wa_of (A : AgF P τ υ) (hpp : P = 32 ∨ P = 48) (hJ : X.kd J = 1 ∨ X.kd J = 2) (T : TB X J υ) (S : SyQ X J sy υ) (hsy : ∀ i, i ≤ J → X.kd i = 3 → sy (X.nm i) < n) (hn : n ≤ 16448) (hsz : sz = J + 2) (hW : WN P 512 τ n th sl no) {s a d : Nat} (h7 : (mv_i τ 3 7).toInt = a) (h9 : (mv_i τ 3 9).toInt < 0) (h8 : (mv_i τ 3 8).toInt = d) (hd : d ≤ 60) (ha : a < sz) (ha1 : 1 ≤ a) (hs : (mv_i τ P 17).toInt = s) (hs2 : s ≤ 32768) : WA X J P sy υ (a - 1) d := by
  have hJb := T.jb
  refine ⟨⟨T, Sm.rf, ?_, by omega, ?_, hd, ?_, rfl, fun z => z⟩, S, hpp, hJ, ⟨s, ?_, hs2⟩, fun i h1 h2 z => ?_⟩
  · rw [A.i3 7 (by omega) (by omega), nI_o2 h7, show a - 1 + 1 = a by omega]
  · rw [A.i3 8 (by omega) (by omega), nI_o2 h8]
  · rw [A.i3 9 (by omega) (by omega), Int32.lt_iff_toInt_lt]; exact h9
  · rw [A.iP 17 (by omega), nI_o2 hs]
  · have hy := hsy i h1 h2
    obtain ⟨e14, e15⟩ := A.a14 (sy (X.nm i)) (by omega)
    rw [e14] at z
    rw [e15]
    obtain ⟨k1, -⟩ := hW.1 (sy (X.nm i)) hy
    obtain ⟨k2, k3⟩ := k1 z
    obtain ⟨u, u1, u2⟩ := nI_ex k2
    have := hW.2.1.2.1
    exact ⟨u, u1, by omega⟩
theorem nums_of (A : AgF P τ υ) (hpp : P = 32 ∨ P = 48) (hW : WN P 512 τ n th sl no) : (∃ t, mv_i υ P 1 = nI t ∧ t ≤ 64) ∧ (∃ c, mv_i υ P 7 = nI c ∧ c ≤ 65536) ∧ (∃ o, mv_i υ P 10 = nI o ∧ o ≤ 512) ∧ (∃ L, mv_i υ P 0 = nI L ∧ L ≤ 64) ∧ (∃ k l, mv_i υ 13 7 = nI k ∧ mv_i υ 13 9 = nI l ∧ k ≤ l ∧ l ≤ 64 ∧ (mv_i τ 13 7).toInt = k ∧ (mv_i τ 13 9).toInt = l ∧ ∃ sg : Nat → Nat, ∀ i, i < k → mv_a υ 19 i = nI (sg i) ∧ sg i < 16448) := by
  obtain ⟨-, ⟨t1, t2, -, -, t5, t6, -⟩, ⟨n1, n2, n3⟩, ⟨l1, l2⟩, ⟨ac, c1, c2, -⟩, o1, o2⟩ := hW
  obtain ⟨L, e1, e2⟩ := nI_ex t5
  obtain ⟨k, k1, k2⟩ := nI_ex n1
  obtain ⟨l, g1, g2⟩ := nI_ex (show 0 ≤ (mv_i τ 13 9).toInt by omega)
  refine ⟨⟨th, by rw [A.iP 1 (by omega), nI_o2 t1], t2⟩, ⟨ac, by rw [A.iP 7 (by omega), nI_o2 c1], c2⟩, ⟨no, by rw [A.iP 10 (by omega), nI_o2 o1], o2⟩, ⟨L, by rw [A.iP 0 (by omega)]; exact e1, by omega⟩, ⟨k, l, by rw [A.i13 7 (by omega)]; exact k1, by rw [A.i13 9 (by omega)]; exact g1, by omega, by omega, k2, g2, fun i => (mv_a τ 19 i).toInt.toNat, fun i hi => ?_⟩⟩
  have hi' : i < (mv_i τ 13 7).toNatClampNeg := by rw [k1, cln (by omega)]; exact hi
  obtain ⟨q1, q2⟩ := n3 i hi'
  show mv_a υ 19 i = nI (mv_a τ 19 i).toInt.toNat ∧ (mv_a τ 19 i).toInt.toNat < 16448
  exact ⟨by rw [A.a19 i (by omega)]; exact nI_o2 (by omega), by omega⟩
/-- an item, flagged -/
theorem it_F (A : AgF P τ υ) (hpp : P = 32 ∨ P = 48) (hJ : X.kd J = 1 ∨ X.kd J = 2) (T : TB X J υ) (S : SyQ X J sy υ) (hsy : ∀ i, i ≤ J → X.kd i = 3 → sy (X.nm i) < n) (hn : n ≤ 16448) (hsz : sz = J + 2) (hW : WN P 512 τ n th sl no) {s a ns : Nat} (hS : WS P τ sz th s a ns no []) (hz : sz ≤ 32770) (nn : ¬ mv_i υ 21 0 = 0) : ∃ h', f_Weaver_item P υ = some h' ∧ Fl h' := by
  obtain ⟨⟨h1, h2, h3, h4, h5, h6, -⟩, ⟨h7, -⟩, h8, -⟩ := hS
  obtain ⟨d, d1, d2⟩ := nI_ex (show 0 ≤ (mv_i τ 3 8).toInt by have : (([] : List Bk).length : Int) = 0 := rfl; omega)
  have W := wa_of A hpp hJ T S hsy hn hsz hW h1 h2 d2 (by omega) h5 (by omega) h8 (by omega)
  obtain ⟨⟨t, t1, t2⟩, ⟨c, c1, c2⟩, ⟨o, o1, o2⟩, ⟨L, l1, l2⟩, -⟩ := nums_of A hpp hW
  exact itm_F W nn t1 t2 c1 c2 o1 o2 (b := 0) (by rw [A.i2 15 (by omega)]; exact nI_o2 h7) (by omega) l1 l2
/-- the innermost block's jumps -/
theorem chn_of (A : AgF P τ υ) (hpp : P = 32 ∨ P = 48) (hW : WN P 512 τ n th sl no) {s a ns : Nat} {b : Bk} {bl : List Bk} (hS : WS P τ sz th s a ns no (b :: bl)) (hz : sz ≤ 32770) : bl.length < 60 ∧ (mv_a υ 29 bl.length).toInt < 32768 ∧ (∃ l, Lk (mv_b υ (P + 10)) (mv_a υ 30 bl.length).toInt l ∧ (∀ y, y ∈ l → y < 32768) ∧ (∀ y, y ∈ l → ¬ (mv_a υ 29 bl.length).toInt = y)) ∧ ∃ kk : Nat, mv_a υ 31 bl.length = nI kk ∧ (kk : Int) ≤ (mv_i τ 13 7).toInt := by
  obtain ⟨⟨h1, h2, h3, h4, h5, h6, -⟩, ⟨h7, hB, hO⟩, h8, -⟩ := hS
  obtain ⟨-, k2, k3, k4, k5, -⟩ := hB
  obtain ⟨o1, o2, o3⟩ := hO b List.mem_cons_self
  have hl : bl.length < 60 := by
    have : ((b :: bl).length : Int) = bl.length + 1 := by rw [List.length_cons]; omega
    omega
  obtain ⟨a29, a30, a31⟩ := A.a28 bl.length (by omega)
  have hy : ∀ y, y ∈ b.2 → y < 32768 := fun y q => by have := (o2 y q).1; omega
  refine ⟨hl, ?_, ⟨b.2, ?_, hy, fun y q e => ?_⟩, ?_⟩
  · rw [a29, k2]
    rcases Int.lt_or_le b.1.toInt 0 with z | z
    · omega
    · obtain ⟨u, -, u2⟩ := nI_ex z
      have := (o1 u u2).1
      omega
  · rw [a30]
    exact Lk_c k3 (fun y q => A.b10 y (hy y q))
  · rw [a29, k2] at e
    have f1 := (o1 y e).2
    have f2 := (o2 y q).2
    rw [f1] at f2
    exact absurd f2 (by decide)
  · obtain ⟨kk, e1, e2⟩ := nI_ex k4
    exact ⟨kk, by rw [a31]; exact e1, by omega⟩
/-- a statement, flagged -/
theorem st_F (A : AgF P τ υ) (hpp : P = 32 ∨ P = 48) (hJ : X.kd J = 1 ∨ X.kd J = 2) (T : TB X J υ) (S : SyQ X J sy υ) (hsy : ∀ i, i ≤ J → X.kd i = 3 → sy (X.nm i) < n) (hn : n ≤ 16448) (hsz : sz = J + 2) (hW : WN P 512 τ n th sl no) {s a ns : Nat} {bl : List Bk} (hne : ¬ bl = []) (hS : WS P τ sz th s a ns no bl) (hz : sz ≤ 32770) (nn : ¬ mv_i υ 21 0 = 0) : ∃ h', f_Weaver_statement P υ = some h' ∧ Fl h' := by
  cases bl with
  | nil => exact absurd rfl hne
  | cons b bl =>
  obtain ⟨c1, c2, c3, kk, c4, c5⟩ := chn_of A hpp hW hS hz
  obtain ⟨⟨h1, h2, h3, h4, h5, h6, -⟩, ⟨h7, -⟩, h8, -⟩ := hS
  have h3' : ((b :: bl).length : Int) = bl.length + 1 := by rw [List.length_cons]; omega
  obtain ⟨d, d1, d2⟩ := nI_ex (show 0 ≤ (mv_i τ 3 8).toInt by omega)
  have W := wa_of A hpp hJ T S hsy hn hsz hW h1 h2 d2 (by omega) h5 (by omega) h8 (by omega)
  obtain ⟨-, -, -, -, ⟨k, l, k1, k2, k3, k4, k5, k6, sg, k7⟩⟩ := nums_of A hpp hW
  refine stm_F W nn k2 k4 (fun _ => ⟨by omega, bl.length + 1, kk, k, sg, ?_⟩)
  have e15 : mv_i υ 2 15 = nI (bl.length + 1) := by rw [A.i2 15 (by omega)]; exact nI_o2 (by rw [h7]; rfl)
  exact ⟨e15, by omega, by omega, k1, by omega, c4, by omega, k7, c2, c3⟩
end SAF
/-! marks are no more than tokens -/
theorem popS_l : ∀ {M : List MkA} {H : List Nat} {d : Nat} {r : List MkA × List Nat × Nat}, popS M H d = some r → r.1.length ≤ M.length := fun e => (popS_f e).2.2.2.1
theorem popB_l {l : Nat} : ∀ {M : List MkA} {H : List Nat} {t : List MkA × List Nat}, popB l M H = some t → t.1.length ≤ M.length := by
  intro M
  induction M with
  | nil => intro H t e; have e : some ([], H) = some t := e; cases e; exact Nat.le_refl _
  | cons m M ih =>
    intro H t e
    have e : (if l ≤ lvq m.k then (tw m.k (H.tail.headD 0) (H.headD 0)).bind fun z => popB l M (z :: H.tail.tail) else some (m :: M, H)) = some t := e
    by_cases c : l ≤ lvq m.k
    · rw [if_pos c] at e
      cases ez : tw m.k (H.tail.headD 0) (H.headD 0) with
      | none => rw [ez] at e; cases e
      | some z => rw [ez] at e; have := ih e; rw [List.length_cons]; omega
    · rw [if_neg c] at e; cases e; exact Nat.le_refl _
theorem popC_l : ∀ {M : List MkA} {H : List Nat} {d : Nat} {r : List MkA × List Nat × Nat}, popC M H d = some r → r.1.length ≤ M.length := by
  intro M
  induction M with
  | nil => intro H d r e; have e : some ([], H, d) = some r := e; cases e; exact Nat.le_refl _
  | cons m M ih =>
    intro H d r e
    have e : (if m.k = 58 then (if m.q = 1 ∧ H.tail.headD 0 = H.headD 0 then popC M (H.tail.headD 0 :: H.tail.tail) (d - 1) else none) else some (m :: M, H, d)) = some r := e
    by_cases c : m.k = 58
    · rw [if_pos c] at e
      split at e
      · have := ih e; rw [List.length_cons]; omega
      · cases e
    · rw [if_neg c] at e; cases e; exact Nat.le_refl _
section AML
variable {X : TX}
theorem aGo_l {m : MkA} {j d : Nat} {M : List MkA} {H : List Nat} {o : OuA} {c : CfA} (e : aGo X m j d M H o = some c) : c.M.length ≤ M.length + 1 ∧ j < c.j := by
  unfold aGo at e
  repeat' split at e
  all_goals first
    | (cases e; exact ⟨Nat.le_refl _, by show j < j + 1; omega⟩)
    | (cases e; exact ⟨Nat.le_succ _, by show j < j + 1; omega⟩)
    | (cases e; exact ⟨Nat.le_succ _, by show j < j + 3; omega⟩)
    | (cases e; done)
    | (cases ez : tw m.k (H.tail.headD 0) (H.headD 0) with
       | none => rw [ez] at e; cases e
       | some z => rw [ez] at e; cases e; exact ⟨Nat.le_succ _, by show j < j + 1; omega⟩)
theorem aFi_l {j d : Nat} {H : List Nat} {o : OuA} {c : CfA} (e : aFi X j d H o = some c) : c.M.length = 0 := by
  unfold aFi at e
  repeat' split at e
  all_goals (cases e; try rfl)
theorem aSp_ml {c c' : CfA} (e : aSp X c = some c') (h : c.M.length ≤ c.j) : c'.M.length ≤ c'.j := by
  unfold aSp at e
  split at e
  · have : c'.M.length = 0 := by
      unfold aIt aNw at e
      repeat' split at e
      all_goals (cases e; try rfl)
    omega
  · have : c'.M.length = 0 := by
      unfold aSt at e
      repeat' split at e
      all_goals (cases e; try rfl)
    omega
  · have : c'.M.length ≤ c.M.length + 1 ∧ c.j < c'.j := by
      unfold aOp at e
      repeat' split at e
      all_goals first
        | (cases e; exact ⟨Nat.le_refl _, by show c.j < c.j + 1; omega⟩)
        | (cases e; exact ⟨Nat.le_refl _, by show c.j < c.j + 2; omega⟩)
        | (cases e; exact ⟨Nat.le_succ _, by show c.j < c.j + 1; omega⟩)
        | (cases e; exact ⟨Nat.le_succ _, by show c.j < c.j + 3; omega⟩)
        | (cases e; done)
    omega
  · unfold aAf at e
    by_cases c1 : X.kd c.j = 91
    · rw [if_pos c1] at e
      have : c'.M.length ≤ c.M.length + 1 ∧ c.j < c'.j := by
        unfold aPk at e
        repeat' split at e
        all_goals first
          | (cases e; exact ⟨Nat.le_succ _, by show c.j < c.j + 5; omega⟩)
          | (cases e; exact ⟨Nat.le_succ _, by show c.j < c.j + 3; omega⟩)
          | (cases e; done)
      omega
    rw [if_neg c1] at e
    cases eS : popS c.M c.H c.d with
    | none => rw [eS] at e; cases e
    | some r =>
    rw [eS] at e
    have l1 := popS_l eS
    have e : (if 0 < lvq (X.kd c.j) then (popB (lvq (X.kd c.j)) r.1 r.2.1).bind fun t => some (CfA.mk 2 (c.j + 1) r.2.2 (⟨X.kd c.j, 0, 0⟩ :: t.1) t.2 c.o) else (popB 1 r.1 r.2.1).bind fun t => aCh X c.j r.2.2 t.1 t.2 c.o) = some c' := e
    by_cases c2 : 0 < lvq (X.kd c.j)
    · rw [if_pos c2] at e
      cases eB : popB (lvq (X.kd c.j)) r.1 r.2.1 with
      | none => rw [eB] at e; cases e
      | some t =>
        rw [eB] at e
        have l2 := popB_l eB
        have e : some (CfA.mk 2 (c.j + 1) r.2.2 (⟨X.kd c.j, 0, 0⟩ :: t.1) t.2 c.o) = some c' := e
        rw [← Option.some.inj e]
        show t.1.length + 1 ≤ c.j + 1
        omega
    · rw [if_neg c2] at e
      cases eB : popB 1 r.1 r.2.1 with
      | none => rw [eB] at e; cases e
      | some t =>
        rw [eB] at e
        have l2 := popB_l eB
        have e : aCh X c.j r.2.2 t.1 t.2 c.o = some c' := e
        unfold aCh at e
        by_cases c3 : X.kd c.j = 63
        · rw [if_pos c3] at e
          split at e
          · rw [← Option.some.inj e]
            show t.1.length + 1 ≤ c.j + 1
            omega
          · cases e
        · rw [if_neg c3] at e
          cases eC : popC t.1 t.2 r.2.2 with
          | none => rw [eC] at e; cases e
          | some u =>
            rw [eC] at e
            have l3 := popC_l eC
            have e : (match (generalizing := false) u.1 with | [] => aFi X c.j u.2.2 u.2.1 c.o | m :: M' => aGo X m c.j u.2.2 M' u.2.1 c.o) = some c' := e
            obtain ⟨L, eL⟩ : ∃ L, L = u.1 := ⟨_, rfl⟩
            rw [← eL] at e l3
            cases L with
            | nil =>
              have e : aFi X c.j u.2.2 u.2.1 c.o = some c' := e
              rw [aFi_l e]; exact Nat.zero_le _
            | cons m M' =>
              have e : aGo X m c.j u.2.2 M' u.2.1 c.o = some c' := e
              obtain ⟨k1, k2⟩ := aGo_l e
              rw [List.length_cons] at l3
              omega
end AML
