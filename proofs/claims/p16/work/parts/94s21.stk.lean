/-! the class's machine: numbers do not look at the heap -/
theorem xnzJ_t {y : Int64} (h : ¬ y = 0) : xnzJ y = true := by
  unfold xnzJ
  rw [decide_eq_false h]; rfl
theorem dvT (x y : Int64) : ∃ u, ∀ g, f_Bits_divide g x y = some (u, g) := by
  unfold f_Bits_divide
  by_cases z : lg_cmp y 0 = 0
  · exact ⟨-1, fun g => by rw [if_pos z]⟩
  · have hy : xnzJ y = true := xnzJ_t (fun q => z ((lg_cmp_eq _ _).mpr q))
    by_cases a : (0 : Int32) ≤ lg_cmp y 0
    · by_cases b : lg_cmp x 0 < 0
      · by_cases c : bI9 (x - ((((((x).toUInt64 >>> (((1 : Int32)).toInt64.toUInt64 &&& Int64.toUInt64 63)).toInt64) / y) <<< (((1 : Int32)).toInt64 &&& 63)) * y)) y = 0
        · exact ⟨_, fun g => by rw [if_neg z, if_pos a, if_pos b, hy, cond_true, bl_c, xhb_s, if_pos c]⟩
        · exact ⟨_, fun g => by rw [if_neg z, if_pos a, if_pos b, hy, cond_true, bl_c, xhb_s, if_neg c]⟩
      · exact ⟨_, fun g => by rw [if_neg z, if_pos a, if_neg b, hy, cond_true]⟩
    · by_cases c : bI9 x y = 0
      · exact ⟨_, fun g => by rw [if_neg z, if_neg a, bl_c, xhb_s, if_pos c]⟩
      · exact ⟨_, fun g => by rw [if_neg z, if_neg a, bl_c, xhb_s, if_neg c]⟩
theorem sdT (x y : Int64) : ∃ u, ∀ g, f_Bits_signedDivide g x y = some (u, g) := by
  unfold f_Bits_signedDivide
  by_cases z : lg_cmp y 0 = 0
  · exact ⟨-1, fun g => by rw [if_pos z]⟩
  · have hy : xnzJ y = true := xnzJ_t (fun q => z ((lg_cmp_eq _ _).mpr q))
    exact ⟨_, fun g => by rw [if_neg z, hy, cond_true]⟩
theorem srT (x y : Int64) : ∃ u, ∀ g, f_Bits_signedRemain g x y = some (u, g) := by
  unfold f_Bits_signedRemain
  by_cases z : lg_cmp y 0 = 0
  · exact ⟨x, fun g => by rw [if_pos z]⟩
  · have hy : xnzJ y = true := xnzJ_t (fun q => z ((lg_cmp_eq _ _).mpr q))
    exact ⟨_, fun g => by rw [if_neg z, hy, cond_true]⟩
theorem shT19 (k : Int32) (x y : Int64) (w c : Int32) : ∃ u, ∀ g, f_Bits_shift_19 k x y w c g = some (u, g) := by
  unfold f_Bits_shift_19 f_Bits_shift_46 f_Bits_signed
  by_cases a : k = 216
  · by_cases b : c = 0
    · exact ⟨_, fun g => by rw [if_pos a, xhb_s, if_pos b]⟩
    · exact ⟨_, fun g => by rw [if_pos a, xhb_s, if_neg b]⟩
  · by_cases b : c = 0
    · by_cases d : k = 131
      · exact ⟨_, fun g => by rw [if_neg a, if_pos b, if_pos d]⟩
      · exact ⟨_, fun g => by rw [if_neg a, if_pos b, if_neg d]⟩
    · exact ⟨0, fun g => by rw [if_neg a, if_neg b]⟩
theorem shfT (k : Int32) (x y : Int64) (w : Int32) : ∃ u, ∀ g, f_Bits_shift g k x y w = some (u, g) := by
  unfold f_Bits_shift f_Bits_shift_14
  obtain ⟨u0, h0⟩ := shT19 k x y w 0
  obtain ⟨u1, h1⟩ := shT19 k x y w 1
  by_cases a : lg_cmp y 0 < 0
  · exact ⟨u1, fun g => by rw [if_pos a, h1]⟩
  · by_cases b : lg_cmp y w.toInt64 < 0
    · exact ⟨u0, fun g => by rw [if_neg a, if_pos b, h0]⟩
    · exact ⟨u1, fun g => by rw [if_neg a, if_neg b, h1]⟩
theorem xzb01 : xzb (0 : Int32) = true ∧ xzb (1 : Int32) = true := by decide
theorem bI9_z (x y : Int64) : xzb (bI9 x y) = true := by
  unfold bI9
  cases decide (x.toBitVec.toNat < y.toBitVec.toNat) <;> decide
theorem hoT (k : Int32) (x y : Int64) (w : Int32) : ∃ u, ∀ g, f_Bits_holds g k x y w = some (u, g) := by
  unfold f_Bits_holds f_Bits_signed
  by_cases a : k.toInt = 60
  · exact ⟨_, fun g => by rw [if_pos a, bl_c, xhb_s, bI9_z, cond_true]⟩
  by_cases b : k.toInt = 128
  · by_cases c : lg_cmp x y = 0
    · exact ⟨_, fun g => by rw [if_neg a, if_pos b, if_pos c, xzb01.2, cond_true]⟩
    · exact ⟨_, fun g => by rw [if_neg a, if_pos b, if_neg c, xzb01.1, cond_true]⟩
  by_cases d : k.toInt = 129
  · by_cases c : lg_cmp x y = 0
    · exact ⟨_, fun g => by rw [if_neg a, if_neg b, if_pos d, if_pos c, xzb01.1, cond_true]⟩
    · exact ⟨_, fun g => by rw [if_neg a, if_neg b, if_pos d, if_neg c, xzb01.2, cond_true]⟩
  by_cases f : k.toInt = 130
  · by_cases c : bI9 y x = 0
    · exact ⟨_, fun g => by rw [if_neg a, if_neg b, if_neg d, if_pos f, bl_c, xhb_s, if_pos c, xzb01.2, cond_true]⟩
    · exact ⟨_, fun g => by rw [if_neg a, if_neg b, if_neg d, if_pos f, bl_c, xhb_s, if_neg c, xzb01.1, cond_true]⟩
  by_cases c : (0 : Int32) ≤ lg_cmp ((x <<< ((((64 : Int32) - w)).toInt64 &&& 63)) >>> ((((64 : Int32) - w)).toInt64 &&& 63)) ((y <<< ((((64 : Int32) - w)).toInt64 &&& 63)) >>> ((((64 : Int32) - w)).toInt64 &&& 63))
  · exact ⟨_, fun g => by rw [if_neg a, if_neg b, if_neg d, if_neg f, xhb_s, xhb_s, if_pos c, xzb01.1, cond_true]⟩
  · exact ⟨_, fun g => by rw [if_neg a, if_neg b, if_neg d, if_neg f, xhb_s, xhb_s, if_neg c, xzb01.2, cond_true]⟩
theorem ofT (k : Int32) (x y : Int64) (w : Int32) : ∃ u, ∀ g, f_Bits_ofTwo g k x y w = some (u, g) := by
  obtain ⟨ud, hd⟩ := dvT x y
  obtain ⟨us', hs⟩ := shfT k x y w
  obtain ⟨uh, hh⟩ := hoT k x y w
  obtain ⟨u4, h4⟩ := sdT ((x <<< ((((64 : Int32) - w)).toInt64 &&& 63)) >>> ((((64 : Int32) - w)).toInt64 &&& 63)) ((y <<< ((((64 : Int32) - w)).toInt64 &&& 63)) >>> ((((64 : Int32) - w)).toInt64 &&& 63))
  obtain ⟨u5, h5⟩ := srT ((x <<< ((((64 : Int32) - w)).toInt64 &&& 63)) >>> ((((64 : Int32) - w)).toInt64 &&& 63)) ((y <<< ((((64 : Int32) - w)).toInt64 &&& 63)) >>> ((((64 : Int32) - w)).toInt64 &&& 63))
  unfold f_Bits_ofTwo f_Bits_ofTwo_234 f_Bits_signed
  by_cases c37 : k.toInt = 37
  · by_cases z : lg_cmp y 0 = 0
    · exact ⟨_, fun g => by rw [if_pos c37, if_pos z]⟩
    · exact ⟨_, fun g => by rw [if_pos c37, if_neg z, hd, xhb_s]⟩
  by_cases c38 : k.toInt = 38
  · exact ⟨_, fun g => by rw [if_neg c37, if_pos c38]⟩
  by_cases c42 : k.toInt = 42
  · exact ⟨_, fun g => by rw [if_neg c37, if_neg c38, if_pos c42, bm_e, xhb_s]⟩
  by_cases c43 : k.toInt = 43
  · exact ⟨_, fun g => by rw [if_neg c37, if_neg c38, if_neg c42, if_pos c43, bm_e, xhb_s]⟩
  by_cases c45 : k.toInt = 45
  · exact ⟨_, fun g => by rw [if_neg c37, if_neg c38, if_neg c42, if_neg c43, if_pos c45, bm_e, xhb_s]⟩
  by_cases c47 : k.toInt = 47
  · exact ⟨_, fun g => by rw [if_neg c37, if_neg c38, if_neg c42, if_neg c43, if_neg c45, if_pos c47, hd, xhb_s, bm_e, xhb_s]⟩
  by_cases c94 : k.toInt = 94
  · exact ⟨_, fun g => by rw [if_neg c37, if_neg c38, if_neg c42, if_neg c43, if_neg c45, if_neg c47, if_pos c94]⟩
  by_cases c124 : k.toInt = 124
  · exact ⟨_, fun g => by rw [if_neg c37, if_neg c38, if_neg c42, if_neg c43, if_neg c45, if_neg c47, if_neg c94, if_pos c124]⟩
  by_cases c131 : k.toInt = 131
  · exact ⟨_, fun g => by rw [if_neg c37, if_neg c38, if_neg c42, if_neg c43, if_neg c45, if_neg c47, if_neg c94, if_neg c124, if_pos c131, hs, xhb_s, bm_e, xhb_s]⟩
  by_cases c132 : k.toInt = 132
  · exact ⟨_, fun g => by rw [if_neg c37, if_neg c38, if_neg c42, if_neg c43, if_neg c45, if_neg c47, if_neg c94, if_neg c124, if_neg c131, if_pos c132, hs, xhb_s, bm_e, xhb_s]⟩
  by_cases c214 : k.toInt = 214
  · exact ⟨_, fun g => by rw [if_neg c37, if_neg c38, if_neg c42, if_neg c43, if_neg c45, if_neg c47, if_neg c94, if_neg c124, if_neg c131, if_neg c132, if_pos c214, xhb_s, xhb_s, h4, xhb_s, bm_e, xhb_s]⟩
  by_cases c215 : k.toInt = 215
  · exact ⟨_, fun g => by rw [if_neg c37, if_neg c38, if_neg c42, if_neg c43, if_neg c45, if_neg c47, if_neg c94, if_neg c124, if_neg c131, if_neg c132, if_neg c214, if_pos c215, xhb_s, xhb_s, h5, xhb_s, bm_e, xhb_s]⟩
  by_cases c216 : k.toInt = 216
  · exact ⟨_, fun g => by rw [if_neg c37, if_neg c38, if_neg c42, if_neg c43, if_neg c45, if_neg c47, if_neg c94, if_neg c124, if_neg c131, if_neg c132, if_neg c214, if_neg c215, if_pos c216, hs, xhb_s, bm_e, xhb_s]⟩
  by_cases z : uh = 0
  · exact ⟨_, fun g => by rw [if_neg c37, if_neg c38, if_neg c42, if_neg c43, if_neg c45, if_neg c47, if_neg c94, if_neg c124, if_neg c131, if_neg c132, if_neg c214, if_neg c215, if_neg c216, hh, xhb_s, if_pos z]⟩
  · exact ⟨_, fun g => by rw [if_neg c37, if_neg c38, if_neg c42, if_neg c43, if_neg c45, if_neg c47, if_neg c94, if_neg c124, if_neg c131, if_neg c132, if_neg c214, if_neg c215, if_neg c216, hh, xhb_s, if_neg z]⟩
/-- two values: what the class makes of them -/
theorem of_u2 (g : mv_H) {k : Nat} (hk : ¬ k = 309) (a x y : Int64) : f_Bits_ofTwo g (nI k) x y a.toInt32 = some (u2 k a x y, g) := by
  obtain ⟨u, hu⟩ := ofT (nI k) x y a.toInt32
  have : u2 k a x y = u := by
    unfold u2
    rw [if_neg hk, hu]; rfl
  rw [this]; exact hu g
theorem gaT9 (w : Int64) : ∀ (m p n : Nat) (v r : Int64), p + m = 64 → m < n → ∃ u, ∀ g, f_Bits_gather_9 n w v r (nI p) g = some (u, g) := by
  intro m
  induction m with
  | zero =>
    intro p n v r hp hn
    obtain ⟨n, rfl⟩ : ∃ q, n = q + 1 := ⟨n - 1, by omega⟩
    refine ⟨v, fun g => ?_⟩
    show fF_Bits_gather_9 _ w v r (nI p) g = _
    unfold fF_Bits_gather_9 f_Bits_gather_62
    rw [if_pos (show (64 : Int32) ≤ nI p from (nIle (a := 64) (by omega) (by omega)).mpr (by omega))]
  | succ m ih =>
    intro p n v r hp hn
    obtain ⟨n, rfl⟩ : ∃ q, n = q + 1 := ⟨n - 1, by omega⟩
    have c : ¬ (64 : Int32) ≤ nI p := fun q => by have := (nIle (a := 64) (b := p) (by omega) (by omega)).mp q; omega
    by_cases z : lg_cmp r 0 = 0
    · refine ⟨v, fun g => ?_⟩
      show fF_Bits_gather_9 _ w v r (nI p) g = _
      unfold fF_Bits_gather_9 f_Bits_gather_62
      rw [if_neg c, if_pos z]
    · by_cases y : lg_cmp (w &&& (r &&& ((-r)))) 0 = 0
      · obtain ⟨u, hu⟩ := ih (p + 1) n v (r ^^^ (r &&& ((-r)))) (by omega) (by omega)
        refine ⟨u, fun g => ?_⟩
        show fF_Bits_gather_9 (f_Bits_gather_9 n) w v r (nI p) g = _
        unfold fF_Bits_gather_9 f_Bits_gather_49
        rw [if_neg c, if_neg z, if_pos y, nI1 (by omega)]
        exact hu g
      · obtain ⟨u, hu⟩ := ih (p + 1) n (v ||| ((1 : Int64) <<< ((nI p).toInt64 &&& 63))) (r ^^^ (r &&& ((-r)))) (by omega) (by omega)
        refine ⟨u, fun g => ?_⟩
        show fF_Bits_gather_9 (f_Bits_gather_9 n) w v r (nI p) g = _
        unfold fF_Bits_gather_9 f_Bits_gather_49
        rw [if_neg c, if_neg z, if_neg y, nI1 (by omega)]
        exact hu g
theorem ga_V (g : mv_H) (w m : Int64) : f_Bits_gather g w m = some (gatV w m, g) := by
  obtain ⟨u, hu⟩ := gaT9 w 64 0 200000 0 m (by omega) (by omega)
  have : gatV w m = u := by
    unfold gatV f_Bits_gather
    rw [show (0 : Int32) = nI 0 from rfl, hu]; rfl
  rw [this]; exact hu g
/-! the stack -/
def SKq (h : mv_H) : List Int64 → Prop
  | [] => True
  | v :: st => mv_b h 67 st.length = v ∧ SKq h st
theorem SKq.fr {h h' : mv_H} : ∀ {st : List Int64}, SKq h st → (∀ i, i < st.length → mv_b h' 67 i = mv_b h 67 i) → SKq h' st := by
  intro st
  induction st with
  | nil => intro _ _; exact trivial
  | cons v st ih =>
    intro S e
    exact ⟨(e st.length (Nat.lt_succ_self _)).trans S.1, ih S.2 (fun i hi => e i (Nat.lt_succ_of_lt hi))⟩
def SKs (h : mv_H) (st : List Int64) : Prop := mv_i h 64 4 = nI st.length ∧ st.length ≤ 1010 ∧ SKq h st
/-- only the stack has changed -/
def TFr (h h' : mv_H) : Prop := (∀ o k, ¬ (o = 64 ∧ k = 4) → mv_i h' o k = mv_i h o k) ∧ (∀ o, mv_a h' o = mv_a h o) ∧ (∀ o, ¬ o = 67 → mv_b h' o = mv_b h o) ∧ h'.2.1 = h.2.1 ∧ mv_r h' = mv_r h
theorem TFr.refl (h : mv_H) : TFr h h := ⟨fun _ _ _ => rfl, fun _ => rfl, fun _ _ => rfl, rfl, rfl⟩
theorem TFr.trans {h g k : mv_H} (a : TFr h g) (b : TFr g k) : TFr h k := ⟨fun o i q => (b.1 o i q).trans (a.1 o i q), fun o => (b.2.1 o).trans (a.2.1 o), fun o q => (b.2.2.1 o q).trans (a.2.2.1 o q), b.2.2.2.1.trans a.2.2.2.1, b.2.2.2.2.trans a.2.2.2.2⟩
theorem psh9 {h : mv_H} {st : List Int64} (S : SKs h st) (hl : st.length ≤ 1009) (P : Nat) (v : Int64) : ∃ h', f_Machine_push P h v = some h' ∧ SKs h' (v :: st) ∧ TFr h h' := by
  refine ⟨mv_si (mv_sb h 67 st.length v) 64 4 (nI (st.length + 1)), ?_, ⟨mv_u_same (mv_i (mv_sb h 67 st.length v)) 64 4 _, by show st.length + 1 ≤ 1010; omega, ?_⟩, ?_⟩
  · unfold f_Machine_push
    rw [S.1, xvi_n (by omega) (by decide), cond_true, cln (by omega), xk_s, xk_s]
    have : mv_i (mv_sb h 67 st.length v) 64 4 = nI st.length := S.1
    rw [this, nI1 (by omega)]
  · refine ⟨mv_u_same (mv_b h) 67 st.length v, S.2.2.fr (fun i hi => ?_)⟩
    exact mv_u_ne (mv_b h) v (by omega)
  · exact ⟨fun o k q => mv_u_ne (mv_i (mv_sb h 67 st.length v)) _ q, fun o => rfl, fun o q => funext fun i => mv_u_ne (mv_b h) v (by omega), rfl, rfl⟩
theorem pop9 {h : mv_H} {v : Int64} {st : List Int64} (S : SKs h (v :: st)) (P : Nat) : ∃ h', f_Machine_pop P h = some (v, h') ∧ SKs h' st ∧ TFr h h' := by
  have hl : st.length + 1 ≤ 1010 := S.2.1
  have e0 : mv_i h 64 4 - 1 = nI st.length := by
    rw [S.1]
    exact nIsub (a := st.length + 1) (b := 1) (by omega) (by omega)
  refine ⟨mv_si h 64 4 (nI st.length), ?_, ⟨mv_u_same (mv_i h) 64 4 _, by omega, S.2.2.2.fr (fun i hi => rfl)⟩, ⟨fun o k q => mv_u_ne (mv_i h) _ q, fun o => rfl, fun o q => rfl, rfl, rfl⟩⟩
  unfold f_Machine_pop
  rw [xk_s, e0]
  have e1 : mv_i (mv_si h 64 4 (nI st.length)) 64 4 = nI st.length := mv_u_same (mv_i h) 64 4 _
  have e2 : mv_b (mv_si h 64 4 (nI st.length)) 67 st.length = v := S.2.2.1
  rw [e1, xvi_n (by omega) (by decide), cond_true, cln (by omega), e2]
