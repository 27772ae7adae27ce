/-! the reference's STEP -/
def ATr (P : Nat) (e : E0q) (T : Nat) (at9 : Nat → Nat) (h : mv_H) : Prop := ∀ t, t < T → mv_a h (P + 5) t = nI (at9 t) ∧ at9 t + (e.2 t).2.1 ≤ 65536 ∧ ∀ t', t < t' → t' < T → at9 t + (e.2 t).2.1 ≤ at9 t'
/-- only what stands in THINGS has changed -/
def CFr (P : Nat) (h h' : mv_H) : Prop := mv_i h' = mv_i h ∧ h'.2.1 = h.2.1 ∧ mv_r h' = mv_r h ∧ mv_a h' = mv_a h ∧ ∀ o, ¬ (o = P + 27 ∨ o = P + 28) → mv_b h' o = mv_b h o
theorem CFr.refl (P : Nat) (h : mv_H) : CFr P h h := ⟨rfl, rfl, rfl, rfl, fun _ _ => rfl⟩
theorem CFr.trans {P : Nat} {h g k : mv_H} (a : CFr P h g) (b : CFr P g k) : CFr P h k := ⟨b.1.trans a.1, b.2.1.trans a.2.1, b.2.2.1.trans a.2.2.1, b.2.2.2.1.trans a.2.2.2.1, fun o q => (b.2.2.2.2 o q).trans (a.2.2.2.2 o q)⟩
theorem CFr.s7 (P : Nat) (h : mv_H) (k : Nat) (v : Int64) : CFr P h (mv_sb h (P + 27) k v) := ⟨rfl, rfl, rfl, rfl, fun o q => sbn (fun z => q (Or.inl z))⟩
theorem CFr.s8 (P : Nat) (h : mv_H) (k : Nat) (v : Int64) : CFr P h (mv_sb h (P + 28) k v) := ⟨rfl, rfl, rfl, rfl, fun o q => sbn (fun z => q (Or.inr z))⟩
def fin3 (P : Nat) (x3 : Int32) (hz : mv_H) : Option (Int32 × mv_H) := (if (mv_i hz P 18) < (0 : Int32) then (some ((0 : Int32), hz)) else (if x3 = (0 : Int32) then (bif xvi (mv_i hz P 18) 4100 then bif xvi (mv_i hz P 18) 4100 then xhb (f_Book_cut hz ((mv_b hz (P + 27) ((mv_i hz P 18)).toNatClampNeg) + ((((mv_i hz P 20) / (8 : Int32))).toInt64)) (mv_a hz (P + 3) ((mv_i hz P 18)).toNatClampNeg)) fun u4 g3 => bif xvi (mv_i hz P 18) 4100 then xk (mv_sb g3 (P + 27) ((mv_i hz P 18)).toNatClampNeg u4) fun g6 => some ((0 : Int32), g6) else none else none else none) else (some ((0 : Int32), hz))))
theorem cm_lp {P T : Nat} {e : E0q} {at9 : Nat → Nat} {h0 : mv_H} {n : Nat} (B : TBr P e T h0) (A : ATr P e T at9 h0) (hn : mv_i h0 P 61 = nI n) (hn2 : n ≤ 12000) (W : WVq P T e h0 n) (x3 : Int32) : ∀ (m j nn : Nat) (h : mv_H), j + m = n → m < nn → CFr P h0 h → (∀ t i, t < T → i < ncl e t → bsV P h t i = rdP (mv_a h0 (P + 29)) (mv_a h0 (P + 30)) (mv_b h0 (P + 32)) (bsV P h0) j t i) → ∃ h', f_Book_step_109 P nn x3 (nI j) h = fin3 P x3 h' ∧ CFr P h0 h' ∧ ∀ t i, t < T → i < ncl e t → bsV P h' t i = rdP (mv_a h0 (P + 29)) (mv_a h0 (P + 30)) (mv_b h0 (P + 32)) (bsV P h0) n t i := by
  intro m
  induction m with
  | zero =>
    intro j nn h hj hm F V
    obtain ⟨nn, rfl⟩ : ∃ q, nn = q + 1 := ⟨nn - 1, by omega⟩
    have hjn : j = n := by omega
    subst hjn
    refine ⟨h, ?_, F, V⟩
    show fF_Book_step_109 P (f_Book_step_109 P nn) x3 (nI j) h = _
    unfold fF_Book_step_109 f_Book_step_243
    rw [if_pos (show mv_i h P 61 ≤ nI j by rw [F.1, hn]; exact Int32.le_refl _)]
    rfl
  | succ m ih =>
    intro j nn h hj hm F V
    obtain ⟨nn, rfl⟩ : ∃ q, nn = q + 1 := ⟨nn - 1, by omega⟩
    have hT := B.1
    obtain ⟨t0, i0, c1, c2, c3, c4⟩ := W j (by omega)
    have hcl := ncl_le B c2
    have b6 := (B.2 t0 c2).2.2.1
    obtain ⟨a1, a2, -⟩ := A t0 c2
    have n0 : ¬ mv_i h P 61 ≤ nI j := fun q => by
      rw [F.1, hn] at q
      have := (nIle (by omega) (by omega)).mp q
      omega
    have hv : xvi (nI j) 12000 = true := xvi_n (by omega) (by decide)
    have hc : (nI j).toNatClampNeg = j := cln (by omega)
    have hvt : xvi (nI t0) 4100 = true := xvi_n (by omega) (by decide)
    have hct : (nI t0).toNatClampNeg = t0 := cln (by omega)
    have e32 : mv_b h (P + 32) j = mv_b h0 (P + 32) j := by rw [F.2.2.2.2 (P + 32) (by omega)]
    have rs : ∀ t i, rdP (mv_a h0 (P + 29)) (mv_a h0 (P + 30)) (mv_b h0 (P + 32)) (bsV P h0) (j + 1) t i = if mv_a h0 (P + 29) j = nI t ∧ mv_a h0 (P + 30) j = nI i then mv_b h0 (P + 32) j else rdP (mv_a h0 (P + 29)) (mv_a h0 (P + 30)) (mv_b h0 (P + 32)) (bsV P h0) j t i := fun _ _ => rfl
    have key : ∀ t i, t < T → i < ncl e t → ((mv_a h0 (P + 29) j = nI t ∧ mv_a h0 (P + 30) j = nI i) ↔ (t = t0 ∧ i = i0)) := fun t i ht hi => by
      have := ncl_le B ht
      rw [c1, c3]
      exact ⟨fun q => ⟨((nIinj (by omega) (by omega)).mp q.1).symm, ((nIinj (by omega) (by omega)).mp q.2).symm⟩, fun q => ⟨by rw [q.1], by rw [q.2]⟩⟩
    have e1 : f_Book_step_109 P (nn + 1) x3 (nI j) h = if mv_a h0 (P + 6) t0 = 0 then f_Book_step_109 P nn x3 (nI (j + 1)) (mv_sb h (P + 27) t0 (mv_b h0 (P + 32) j)) else (bif xvi (nI (at9 t0) + nI i0) 65536 then f_Book_step_109 P nn x3 (nI (j + 1)) (mv_sb h (P + 28) (nI (at9 t0) + nI i0).toNatClampNeg (mv_b h0 (P + 32) j)) else none) := by
      show fF_Book_step_109 P (f_Book_step_109 P nn) x3 (nI j) h = _
      unfold fF_Book_step_109 f_Book_step_187
      rw [if_neg n0]
      simp only [hv, hc, cond_true, F.2.2.2.1, c1, c3, hvt, hct, a1, e32, xk_s]
      rw [nI1 (by omega)]
    rw [e1]
    by_cases z : mv_a h0 (P + 6) t0 = 0
    · rw [if_pos z]
      have hc0 := b6.mp z
      have hi0 : i0 = 0 := by
        unfold ncl at c4
        rw [if_pos hc0] at c4
        omega
      refine ih (j + 1) nn _ (by omega) (by omega) (F.trans (CFr.s7 P h _ _)) (fun t i ht hi => ?_)
      rw [rs]
      have V1 := V t i ht hi
      unfold bsV at V1 ⊢
      rw [show mv_a (mv_sb h (P + 27) t0 (mv_b h0 (P + 32) j)) = mv_a h from rfl]
      by_cases y : mv_a h (P + 6) t = 0
      · have hci : (e.2 t).2.1 = 0 := (B.2 t ht).2.2.1.mp (by rw [← F.2.2.2.1]; exact y)
        have hii : i = 0 := by
          unfold ncl at hi
          rw [if_pos hci] at hi
          omega
        rw [if_pos y] at V1 ⊢
        by_cases c : t = t0
        · rw [if_pos ((key t i ht hi).mpr ⟨c, by omega⟩), c]
          exact mv_u_same _ _ _ _
        · rw [if_neg (fun q => c ((key t i ht hi).mp q).1), sbn9 _ _ (fun q => c q.2)]
          exact V1
      · rw [if_neg y] at V1 ⊢
        rw [if_neg (fun q => y (by rw [F.2.2.2.1, ((key t i ht hi).mp q).1]; exact z)), sbn9 _ _ (by omega)]
        exact V1
    · rw [if_neg z]
      have hcn : ¬ (e.2 t0).2.1 = 0 := fun q => z (b6.mpr q)
      have hi0 : i0 < (e.2 t0).2.1 := by
        unfold ncl at c4
        rw [if_neg hcn] at c4
        exact c4
      rw [nIadd (by omega), xvi_n (show at9 t0 + i0 < 65536 by omega) (by decide), cond_true, cln (by omega)]
      refine ih (j + 1) nn _ (by omega) (by omega) (F.trans (CFr.s8 P h _ _)) (fun t i ht hi => ?_)
      rw [rs]
      have V1 := V t i ht hi
      unfold bsV at V1 ⊢
      rw [show mv_a (mv_sb h (P + 28) (at9 t0 + i0) (mv_b h0 (P + 32) j)) = mv_a h from rfl]
      by_cases y : mv_a h (P + 6) t = 0
      · rw [if_pos y] at V1 ⊢
        rw [if_neg (fun q => z (by rw [← F.2.2.2.1, ← ((key t i ht hi).mp q).1]; exact y)), sbn9 _ _ (by omega)]
        exact V1
      · have hci : ¬ (e.2 t).2.1 = 0 := fun q => y (by rw [F.2.2.2.1]; exact (B.2 t ht).2.2.1.mpr q)
        have hi1 : i < (e.2 t).2.1 := by
          unfold ncl at hi
          rw [if_neg hci] at hi
          exact hi
        obtain ⟨x1, x2, x3'⟩ := A t ht
        have e5 : (mv_a h (P + 5) t).toNatClampNeg = at9 t := by rw [F.2.2.2.1, x1, cln (by omega)]
        rw [if_neg y, e5] at V1
        rw [if_neg y, e5]
        by_cases c : t = t0 ∧ i = i0
        · rw [if_pos ((key t i ht hi).mpr c), c.1, c.2]
          exact mv_u_same _ _ _ _
        · rw [if_neg (fun q => c ((key t i ht hi).mp q)), sbn9 _ _ (fun q => ?_)]
          · exact V1
          · have q2 := q.2
            by_cases l1 : t < t0
            · have := x3' t0 l1 c2; omega
            · by_cases l2 : t0 < t
              · have := (A t0 c2).2.2 t l2 ht; omega
              · have : t = t0 := by omega
                subst this
                exact c ⟨rfl, by omega⟩
/-- the fetch register -/
def FRr (P T : Nat) (e : E0q) (fr : Option Nat) (h : mv_H) : Prop := (fr = none ∧ mv_i h P 18 < 0) ∨ ∃ t, fr = some t ∧ t < T ∧ mv_i h P 18 = nI t ∧ (e.2 t).2.1 = 0
theorem fin_V {P T : Nat} {e : E0q} {h : mv_H} {fr : Option Nat} {bits : Nat} {s : STq} {x3 : Int32} (B : TBr P e T h) (hb : mv_i h P 20 = nI bits) (hb2 : bits ≤ 64) (F : FRr P T e fr h) (hm : ∀ t, fr = some t → (x3 = 0 ↔ ¬ s.2.2 t = true)) (V : ∀ t i, t < T → i < ncl e t → bsV P h t i = s.2.1 t i) : ∃ h', fin3 P x3 h = some (0, h') ∧ CFr P h h' ∧ ∀ t i, t < T → i < ncl e t → bsV P h' t i = gfT e bits fr s t i := by
  unfold fin3
  have hT := B.1
  rcases F with ⟨f1, f2⟩ | ⟨t, f1, f2, f3, f4⟩
  · rw [if_pos f2, f1]
    exact ⟨h, rfl, CFr.refl _ _, V⟩
  · rw [f3, if_neg (nI_n0 (by omega))]
    have hm := hm t f1
    obtain ⟨-, -, b6, -, ⟨b3, b3'⟩, -, bz⟩ := B.2 t f2
    by_cases q : x3 = 0
    · have nt := hm.mp q
      have e8 : (nI bits / (8 : Int32)).toInt64 = nJ (bits / 8) := by
        have : ∀ k : Fin 65, (nI k.val / (8 : Int32)).toInt64 = nJ (k.val / 8) := by decide +kernel
        exact this ⟨bits, by omega⟩
      have z6 : mv_a h (P + 6) t = 0 := b6.mpr f4
      have h0 : 0 < ncl e t := ncl_p e t
      have v0 : mv_b h (P + 27) t = s.2.1 t 0 := by
        have := V t 0 f2 h0
        unfold bsV at this
        rw [if_pos z6] at this
        exact this
      have eg : gfT e bits fr s = fun a b => if a = t ∧ b = 0 then (s.2.1 t 0 + nJ (bits / 8)) &&& mkI (nI (e.2 t).1) else s.2.1 a b := by
        unfold gfT
        rw [f1]
        show (if s.2.2 t = true then _ else _) = _
        rw [if_neg nt]
        unfold wrT
        rw [if_neg (fun y => by rw [bz f4] at y; cases y.1)]
      rw [if_pos q, xvi_n (show t < 4100 by omega) (by decide), cln (by omega), hb, e8, b3, v0, cutW _ _ b3', eg]
      simp only [cond_true, xhb_s, xk_s]
      refine ⟨_, rfl, CFr.s7 P h _ _, fun a b ha hb' => ?_⟩
      have V1 := V a b ha hb'
      unfold bsV at V1 ⊢
      rw [show ∀ v, mv_a (mv_sb h (P + 27) t v) = mv_a h from fun _ => rfl]
      by_cases y : mv_a h (P + 6) a = 0
      · have hca : (e.2 a).2.1 = 0 := (B.2 a ha).2.2.1.mp y
        have hb0 : b = 0 := by
          unfold ncl at hb'
          rw [if_pos hca] at hb'
          omega
        rw [if_pos y] at V1 ⊢
        by_cases c : a = t
        · rw [if_pos ⟨c, hb0⟩, c]
          exact mv_u_same _ _ _ _
        · rw [if_neg (fun q => c q.1), sbn9 _ _ (fun q => c q.2)]
          exact V1
      · rw [if_neg y] at V1 ⊢
        rw [if_neg (fun q => y (by rw [q.1]; exact z6)), sbn9 _ _ (by omega)]
        exact V1
    · have nt : s.2.2 t = true := by
        cases c : s.2.2 t with
        | true => rfl
        | false => exact absurd (hm.mpr (by rw [c]; decide)) q
      have eg : gfT e bits fr s = s.2.1 := by
        unfold gfT
        rw [f1]
        show (if s.2.2 t = true then _ else _) = _
        rw [if_pos nt]
      rw [if_neg q, eg]
      exact ⟨h, rfl, CFr.refl _ _, V⟩
theorem mv_lp {P : Nat} {h : mv_H} {n : Nat} (hn : mv_i h P 61 = nI n) (hn2 : n ≤ 12000) : ∀ (m j nn : Nat) (x3 : Int32), j + m = n → m < nn → (x3 = 0 ∨ x3 = 1) → (x3 = 0 ↔ ¬ ∃ k, k < j ∧ mv_a h (P + 29) k = mv_i h P 18) → ∃ x3', f_Book_step_69 P nn x3 (nI j) h = f_Book_step_109 P 200000 x3' (nI 0) h ∧ (x3' = 0 ↔ ¬ ∃ k, k < n ∧ mv_a h (P + 29) k = mv_i h P 18) := by
  intro m
  induction m with
  | zero =>
    intro j nn x3 hj hm h3 h4
    obtain ⟨nn, rfl⟩ : ∃ q, nn = q + 1 := ⟨nn - 1, by omega⟩
    have hjn : j = n := by omega
    subst hjn
    refine ⟨x3, ?_, h4⟩
    show fF_Book_step_69 P (f_Book_step_69 P nn) x3 (nI j) h = _
    unfold fF_Book_step_69
    rw [if_pos (show mv_i h P 61 ≤ nI j by rw [hn]; exact Int32.le_refl _)]
    rfl
  | succ m ih =>
    intro j nn x3 hj hm h3 h4
    obtain ⟨nn, rfl⟩ : ∃ q, nn = q + 1 := ⟨nn - 1, by omega⟩
    have n0 : ¬ mv_i h P 61 ≤ nI j := fun q => by
      rw [hn] at q
      have := (nIle (by omega) (by omega)).mp q
      omega
    have e1 : f_Book_step_69 P (nn + 1) x3 (nI j) h = f_Book_step_69 P nn (if mv_a h (P + 29) j = mv_i h P 18 then x3 ||| 1 else x3 ||| 0) (nI (j + 1)) h := by
      show fF_Book_step_69 P (f_Book_step_69 P nn) x3 (nI j) h = _
      unfold fF_Book_step_69 f_Book_step_98
      rw [if_neg n0, xvi_n (show j < 12000 by omega) (by decide), cond_true, cln (by omega), nI1 (by omega)]
      by_cases c : mv_a h (P + 29) j = mv_i h P 18
      · rw [if_pos c, if_pos c]
      · rw [if_neg c, if_neg c]
    rw [e1]
    by_cases c : mv_a h (P + 29) j = mv_i h P 18
    · rw [if_pos c]
      have o1 : x3 ||| 1 = 1 := by rcases h3 with rfl | rfl <;> decide
      rw [o1]
      refine ih (j + 1) nn 1 (by omega) (by omega) (Or.inr rfl) ⟨fun q => absurd q (by decide), fun q => absurd ⟨j, Nat.lt_succ_self _, c⟩ q⟩
    · rw [if_neg c]
      have o1 : x3 ||| 0 = x3 := by rcases h3 with rfl | rfl <;> decide
      rw [o1]
      refine ih (j + 1) nn x3 (by omega) (by omega) h3 (h4.trans (not_congr ⟨fun ⟨k, k1, k2⟩ => ⟨k, Nat.lt_succ_of_lt k1, k2⟩, fun ⟨k, k1, k2⟩ => ?_⟩))
      by_cases z : k = j
      · rw [z] at k2; exact absurd k2 c
      · exact ⟨k, by omega, k2⟩
