/-! numbers: the signed remainder; all between two put together -/
theorem sre_c (h g : mv_H) (P : Nat) (x y : Int64) {w : Nat} (h0 : 0 < w) (hw : w ≤ 64) : ∃ u, f_Bits_ofTwo h 215 x y (nI w) = some (u &&& mkI (nI w), h) ∧ f_Book_apply P g 1002 x y (nI w) = some (u, g) := by
  have e1 : f_Bits_ofTwo h 215 x y (nI w) = (xhb (f_Bits_signed h x (nI w)) fun v26 g25 => xhb (f_Bits_signed g25 y (nI w)) fun v28 g27 => xhb (f_Bits_signedRemain g27 v26 v28) fun v30 g29 => xhb (f_Bits_mask g29 (nI w)) fun v32 g31 => some ((v30 &&& v32), g31)) := by
    unfold f_Bits_ofTwo
    rw [if_neg (by decide), if_neg (by decide), if_neg (by decide), if_neg (by decide), if_neg (by decide), if_neg (by decide), if_neg (by decide), if_neg (by decide), if_neg (by decide), if_neg (by decide), if_neg (by decide), if_pos (by decide)]
  have e2 : f_Book_apply P g 1002 x y (nI w) = (xhb (f_Book_signed g x (nI w)) fun u22 g21 => xhb (f_Book_signed g21 y (nI w)) fun u24 g23 => xhb (f_Book_divide g23 1002 u22 u24 x) fun u26 g25 => some (u26, g25)) := by
    unfold f_Book_apply
    rw [if_neg (by decide), if_neg (by decide), if_neg (by decide), if_neg (by decide), if_neg (by decide), if_neg (by decide), if_neg (by decide), if_neg (by decide), if_neg (by decide), if_neg (by decide), if_neg (by decide), if_neg (by decide), if_neg (by decide), if_neg (by decide), if_neg (by decide), if_neg (by decide)]
  have sg := sg_and x h0 hw
  unfold f_Bits_signed f_Bits_signedRemain at e1
  unfold f_Book_signed f_Book_divide at e2
  rw [xhb_s, xhb_s] at e1 e2
  rw [e1, e2]
  clear e1 e2
  revert sg
  generalize ((x <<< ((((64 : Int32) - nI w)).toInt64 &&& 63)) >>> ((((64 : Int32) - nI w)).toInt64 &&& 63)) = a
  generalize ((y <<< ((((64 : Int32) - nI w)).toInt64 &&& 63)) >>> ((((64 : Int32) - nI w)).toInt64 &&& 63)) = b
  intro sg
  have n2 : ¬ (1002 : Int32) = 1001 := by decide
  by_cases z : lg_cmp b 0 = 0
  · rw [if_pos z, if_pos z, if_neg n2, xhb_s, xhb_s, bm_e, xhb_s, sg]
    exact ⟨x, rfl, rfl⟩
  · have hb : xnzJ b = true := xnzJ_t (fun q => z ((lg_cmp_eq _ _).mpr q))
    rw [if_neg z, if_neg z, hb, cond_true, xhb_s, bm_e, xhb_s]
    by_cases y1 : lg_cmp b (-1) = 0
    · rw [if_pos y1, if_neg n2, xhb_s]
      refine ⟨a - a / b * b, rfl, ?_⟩
      have e3 : a - a / b * b = 0 := by
        rw [(lg_cmp_eq _ _).mp y1, dm1, Int64.mul_neg, Int64.mul_one, Int64.neg_neg, Int64.sub_self]
      rw [e3]
    · rw [if_neg y1, if_neg n2, cond_true, xhb_s]
      exact ⟨a - a / b * b, rfl, rfl⟩
theorem u2_v {k wl : Nat} {x y v : Int64} (hk : ¬ k = 309) (hw : wl ≤ 64) (e : f_Bits_ofTwo hZ (nI k) x y (nI wl) = some (v, hZ)) : u2 k (nJ wl) x y = v := by
  unfold u2
  rw [if_neg hk, nJi (by omega), e]
  rfl
/-- two values that fit: what the reference makes of them, cut, is what the class makes of them, and fits -/
theorem two_c (P : Nat) (g : mv_H) {ko k wl wr w : Nat} {x y : Int64} (hp : (ko, k) ∈ OPK) (h0 : 0 < wl) (hw : wl ≤ 64) (ht : tw k wl wr = some w) (fx : FTq wl x) (fy : FTq wr y) : w ≤ 64 ∧ 0 < w ∧ ∃ u, f_Book_apply P g (nI ko) x y (nI wl) = some (u, g) ∧ u &&& mkI (nI w) = u2 k (nJ wl) x y ∧ FTq w (u2 k (nJ wl) x y) := by
  unfold tw at ht
  have wr' : ¬ (k = 131 ∨ k = 132 ∨ k = 216) → wr = wl := fun q => by
    by_cases c : k = 131 ∨ k = 132 ∨ k = 216 ∨ wl = wr
    · omega
    · rw [if_neg c] at ht; cases ht
  have hc : k = 131 ∨ k = 132 ∨ k = 216 ∨ wl = wr := by
    by_cases c : k = 131 ∨ k = 132 ∨ k = 216 ∨ wl = wr
    · exact c
    · rw [if_neg c] at ht; cases ht
  rw [if_pos hc] at ht
  have hw' := Option.some.inj ht
  have mk1 : ∀ (n : Nat) (u v : Int64), n ≤ 64 → f_Bits_ofTwo hZ (nI k) x y (nI wl) = some (u &&& mkI (nI n), hZ) → ¬ k = 309 → (u &&& mkI (nI n) = u2 k (nJ wl) x y ∧ FTq n (u2 k (nJ wl) x y)) := fun n u v hn e hk => by
    rw [u2_v hk hw e]
    exact ⟨rfl, FTq.and u hn⟩
  have mk2 : ∀ (n : Nat) (u : Int64), n ≤ 64 → f_Bits_ofTwo hZ (nI k) x y (nI wl) = some (u, hZ) → ¬ k = 309 → FTq n u → (u &&& mkI (nI n) = u2 k (nJ wl) x y ∧ FTq n (u2 k (nJ wl) x y)) := fun n u hn e hk f => by
    rw [u2_v hk hw e]
    exact ⟨f.eq hn, f⟩
  simp only [OPK, List.mem_cons, List.not_mem_nil, or_false, Prod.mk.injEq] at hp
  rcases hp with ⟨rfl, rfl⟩ | ⟨rfl, rfl⟩ | ⟨rfl, rfl⟩ | ⟨rfl, rfl⟩ | ⟨rfl, rfl⟩ | ⟨rfl, rfl⟩ | ⟨rfl, rfl⟩ | ⟨rfl, rfl⟩ | ⟨rfl, rfl⟩ | ⟨rfl, rfl⟩ | ⟨rfl, rfl⟩ | ⟨rfl, rfl⟩ | ⟨rfl, rfl⟩ | ⟨rfl, rfl⟩ | ⟨rfl, rfl⟩ | ⟨rfl, rfl⟩ | ⟨rfl, rfl⟩ | ⟨rfl, rfl⟩
  · rw [if_neg (by decide)] at hw'; subst hw'
    exact ⟨hw, h0, _, tr_or P g x y _, mk2 wl _ hw (tc_or hZ x y _) (by decide) (fx.or (by rw [← wr' (by decide)]; exact fy) hw)⟩
  · rw [if_neg (by decide)] at hw'; subst hw'
    exact ⟨hw, h0, _, tr_xor P g x y _, mk2 wl _ hw (tc_xor hZ x y _) (by decide) (fx.xor (by rw [← wr' (by decide)]; exact fy) hw)⟩
  · rw [if_neg (by decide)] at hw'; subst hw'
    exact ⟨hw, h0, _, tr_and P g x y _, mk2 wl _ hw (tc_and hZ x y _) (by decide) (fx.and' y hw)⟩
  · rw [if_pos (by decide)] at hw'; subst hw'
    exact ⟨by omega, by omega, _, tr_eq P g x y _, mk2 1 _ (by omega) (tc_eq hZ x y _) (by decide) (FTq.one _)⟩
  · rw [if_pos (by decide)] at hw'; subst hw'
    exact ⟨by omega, by omega, _, tr_ne P g x y _, mk2 1 _ (by omega) (tc_ne hZ x y _) (by decide) (FTq.one _)⟩
  · rw [if_pos (by decide)] at hw'; subst hw'
    exact ⟨by omega, by omega, _, tr_lt P g x y _, mk2 1 _ (by omega) (tc_lt hZ x y _) (by decide) (FTq.one _)⟩
  · rw [if_pos (by decide)] at hw'; subst hw'
    exact ⟨by omega, by omega, _, tr_le P g x y _, mk2 1 _ (by omega) (tc_le hZ x y _) (by decide) (FTq.one _)⟩
  · rw [if_neg (by decide)] at hw'; subst hw'
    obtain ⟨u, a1, a2⟩ := shl_c hZ g P x y h0 hw
    exact ⟨hw, h0, u, a2, mk1 wl u 0 hw a1 (by decide)⟩
  · rw [if_neg (by decide)] at hw'; subst hw'
    obtain ⟨u, a1, a2⟩ := shr_c hZ g P x y h0 hw
    exact ⟨hw, h0, u, a2, mk1 wl u 0 hw a1 (by decide)⟩
  · rw [if_neg (by decide)] at hw'; subst hw'
    exact ⟨hw, h0, _, tr_add P g x y _, mk1 wl _ 0 hw (tc_add hZ x y _) (by decide)⟩
  · rw [if_neg (by decide)] at hw'; subst hw'
    exact ⟨hw, h0, _, tr_sub P g x y _, mk1 wl _ 0 hw (tc_sub hZ x y _) (by decide)⟩
  · rw [if_neg (by decide)] at hw'; subst hw'
    exact ⟨hw, h0, _, tr_mul P g x y _, mk1 wl _ 0 hw (tc_mul hZ x y _) (by decide)⟩
  · rw [if_neg (by decide)] at hw'; subst hw'
    obtain ⟨u, a1, a2⟩ := div_c hZ g P x y (nI wl)
    exact ⟨hw, h0, u, a2, mk1 wl u 0 hw a1 (by decide)⟩
  · rw [if_neg (by decide)] at hw'; subst hw'
    obtain ⟨u, a1, a2, a3⟩ := rem_c hZ g P x y (nI wl)
    exact ⟨hw, h0, u, a2, mk2 wl u hw a1 (by decide) (Nat.lt_of_le_of_lt a3 fx)⟩
  · rw [if_pos (by decide)] at hw'; subst hw'
    obtain ⟨b, a1, a2⟩ := slt_c hZ g P x y (nI wl)
    exact ⟨by omega, by omega, _, a2, mk2 1 _ (by omega) a1 (by decide) (FTq.one b)⟩
  · rw [if_neg (by decide)] at hw'; subst hw'
    obtain ⟨u, a1, a2⟩ := sdi_c hZ g P x y (nI wl)
    exact ⟨hw, h0, u, a2, mk1 wl u 0 hw a1 (by decide)⟩
  · rw [if_neg (by decide)] at hw'; subst hw'
    obtain ⟨u, a1, a2⟩ := sre_c hZ g P x y h0 hw
    exact ⟨hw, h0, u, a2, mk1 wl u 0 hw a1 (by decide)⟩
  · rw [if_neg (by decide)] at hw'; subst hw'
    obtain ⟨u, a1, a2⟩ := sra_c hZ g P x y h0 hw
    exact ⟨hw, h0, u, a2, mk1 wl u 0 hw a1 (by decide)⟩
