/-! the shipped machine runs -/
theorem j8 (x y : Int64) : (x <<< (((8 : Int32)).toInt64 &&& 63)) ||| y = u2 309 (nJ 8) x y := by
  unfold u2
  rw [if_pos rfl, show (((nJ 8).toInt32).toInt64 &&& 63) = (((8 : Int32)).toInt64 &&& 63) by decide +kernel]
theorem wd4 {g : Nat → Int64} (h : ∀ i, i < 4 → (g i).toBitVec.toNat < 256) : (wdL g 4 0).toBitVec.toNat = (((g 3).toBitVec.toNat * 256 + (g 2).toBitVec.toNat) * 256 + (g 1).toBitVec.toNat) * 256 + (g 0).toBitVec.toNat := by
  have h0 := h 0 (by decide)
  have h1 := h 1 (by decide)
  have h2 := h 2 (by decide)
  have h3 := h 3 (by decide)
  show ((((((((0 <<< (((8 : Int32)).toInt64 &&& 63)) ||| g 3) <<< (((8 : Int32)).toInt64 &&& 63)) ||| g 2) <<< (((8 : Int32)).toInt64 &&& 63)) ||| g 1) <<< (((8 : Int32)).toInt64 &&& 63)) ||| g 0).toBitVec.toNat = _
  rw [j8, j8, j8, j8]
  have a := u309 (k := 8) (by decide) (x := 0) (y := g 3) (by decide) h3
  rw [show (0 : Int64).toBitVec.toNat = 0 from rfl, Nat.zero_mul, Nat.zero_add] at a
  have b := u309 (k := 8) (by decide) (x := u2 309 (nJ 8) 0 (g 3)) (y := g 2) (by rw [a]; exact Nat.lt_of_lt_of_le h3 (by decide)) h2
  rw [a, show (2 : Nat) ^ 8 = 256 from rfl] at b
  have c := u309 (k := 8) (by decide) (x := u2 309 (nJ 8) (u2 309 (nJ 8) 0 (g 3)) (g 2)) (y := g 1) (by rw [b]; exact Nat.lt_of_lt_of_le (show _ < 65536 by omega) (by decide)) h1
  rw [b, show (2 : Nat) ^ 8 = 256 from rfl] at c
  have d := u309 (k := 8) (by decide) (x := u2 309 (nJ 8) (u2 309 (nJ 8) (u2 309 (nJ 8) 0 (g 3)) (g 2)) (g 1)) (y := g 0) (by rw [c]; exact Nat.lt_of_lt_of_le (show _ < 16777216 by omega) (by decide)) h0
  rw [c, show (2 : Nat) ^ 8 = 256 from rfl] at d
  exact d
/-- the reference's word -/
theorem wr4 (b0 b1 b2 b3 : Int32) : ((((b0 &&& (255 : Int32)) ||| ((b1 &&& (255 : Int32)) <<< ((8 : Int32) &&& 31))) ||| ((b2 &&& (255 : Int32)) <<< ((16 : Int32) &&& 31))) ||| (b3 <<< ((24 : Int32) &&& 31))).toBitVec.toNat = ((b3.toBitVec.toNat % 256 * 256 + b2.toBitVec.toNat % 256) * 256 + b1.toBitVec.toNat % 256) * 256 + b0.toBitVec.toNat % 256 := by
  have a1 := shl32 (b1 &&& (255 : Int32)) (n := 8) (by decide)
  have a2 := shl32 (b2 &&& (255 : Int32)) (n := 16) (by decide)
  have a3 := shl32 b3 (n := 24) (by decide)
  rw [and255n, show (2 : Nat) ^ 8 = 256 from rfl] at a1
  rw [and255n, show (2 : Nat) ^ 16 = 65536 from rfl] at a2
  rw [show (2 : Nat) ^ 24 = 16777216 from rfl] at a3
  have o1 := or32 (b0 &&& (255 : Int32)) ((b1 &&& (255 : Int32)) <<< ((nI 8) &&& 31))
  rw [Nat.or_comm, or_add 8 (by rw [a1, show (2 : Nat) ^ 8 = 256 from rfl]; omega) (by rw [and255n, show (2 : Nat) ^ 8 = 256 from rfl]; omega), a1, and255n] at o1
  have o2 := or32 ((b0 &&& (255 : Int32)) ||| ((b1 &&& (255 : Int32)) <<< ((nI 8) &&& 31))) ((b2 &&& (255 : Int32)) <<< ((nI 16) &&& 31))
  rw [Nat.or_comm, or_add 16 (by rw [a2, show (2 : Nat) ^ 16 = 65536 from rfl]; omega) (by rw [o1, show (2 : Nat) ^ 16 = 65536 from rfl]; omega), a2, o1] at o2
  have o3 := or32 (((b0 &&& (255 : Int32)) ||| ((b1 &&& (255 : Int32)) <<< ((nI 8) &&& 31))) ||| ((b2 &&& (255 : Int32)) <<< ((nI 16) &&& 31))) (b3 <<< ((nI 24) &&& 31))
  rw [Nat.or_comm, or_add 24 (by rw [a3, show (2 : Nat) ^ 24 = 16777216 from rfl]; omega) (by rw [o2, show (2 : Nat) ^ 24 = 16777216 from rfl]; omega), a3, o2] at o3
  show ((((b0 &&& (255 : Int32)) ||| ((b1 &&& (255 : Int32)) <<< ((nI 8) &&& 31))) ||| ((b2 &&& (255 : Int32)) <<< ((nI 16) &&& 31))) ||| (b3 <<< ((nI 24) &&& 31))).toBitVec.toNat = _
  rw [o3]
  omega
theorem fwS {R : Nat → Nat → Int64} {pc : Int32} (z : ZE (R 0 0) pc) : fwF rS R = if pc.toBitVec.toNat + 4 ≤ 32768 then some (wdL (fun i => R 2 (pc.toBitVec.toNat + i)) 4 0) else none := by
  have e : fwF rS R = if 0 ≤ (R 0 0).toInt ∧ (R 0 0).toInt + (4 : Nat) ≤ (32768 : Nat) then some (wdL (fun i => R 2 ((R 0 0).toInt.toNat + i)) 4 0) else none := rfl
  have t : (R 0 0).toInt = (pc.toBitVec.toNat : Int) := by
    have a := BitVec.toInt_eq_toNat_cond (R 0 0).toBitVec
    have l := z.lt
    show (R 0 0).toBitVec.toInt = _
    rw [a, show (R 0 0).toBitVec.toNat = pc.toBitVec.toNat from z] at *
    split <;> omega
  rw [e, t]
  by_cases c : pc.toBitVec.toNat + 4 ≤ 32768
  · rw [if_pos c, if_pos (by omega), Int.toNat_natCast]
  · rw [if_neg c, if_neg (by omega)]
def DAq : Prop := ∀ w : Int64, dcV rS.1 w = sOv w.toInt32 ∧ DCs rS.1 w (sOv w.toInt32)
theorem son_e {B : Nat} {R : Nat → Nat → Int64} {h : mv_H} (hA : DAq) (L : RLs R h) (h11 : ¬ mv_i h 70 11 = 0) : ∃ h', f_Model_one B h = some h' ∧ SMw h h' ∧ ((fwF rS R = none ∧ RLs R h' ∧ TDq (-1) h h') ∨ ∃ w, fwF rS R = some w ∧ RLs (stF rS w R).2 h' ∧ TDq (stF rS w R).1 h h') := by
  have fw := fwS L.1
  unfold f_Model_one
  rw [if_neg h11, show (4 : Int32) = nI 4 from rfl, in_m h _ (by decide) (by decide), xhb_s]
  by_cases c : (mv_i h 70 6).toBitVec.toNat + 4 ≤ 32768
  · rw [if_pos c] at fw
    rw [if_pos c, if_neg (by decide)]
    generalize hp : (mv_i h 70 6).toBitVec.toNat = p at c fw
    have ep : mv_i h 70 6 = nI p := by
      apply Int32.toBitVec_inj.mp
      apply BitVec.eq_of_toNat_eq
      rw [hp, nI_tn (by omega)]
    rw [ep]
    rw [show (1 : Int32) = nI 1 from rfl, show (2 : Int32) = nI 2 from rfl, show (3 : Int32) = nI 3 from rfl, nIad (by omega), nIad (by omega), nIad (by omega), xvi_n (show p < 32768 by omega) (by decide), cond_true, xvi_n (show p + 1 < 32768 by omega) (by decide), cond_true, xvi_n (show p + 2 < 32768 by omega) (by decide), cond_true, xvi_n (show p + 3 < 32768 by omega) (by decide), cond_true, cln (by omega), cln (by omega), cln (by omega), cln (by omega)]
    obtain ⟨w, hw⟩ : ∃ w, w = wdL (fun i => R 2 (p + i)) 4 0 := ⟨_, rfl⟩
    have mm : ∀ i, i < 4 → (R 2 (p + i)).toBitVec.toNat = (mv_a h 73 (p + i)).toBitVec.toNat % 256 := fun i hi => L.2.2.2 (p + i) (by omega)
    have wn := wd4 (g := fun i => R 2 (p + i)) (fun i hi => by show (R 2 (p + i)).toBitVec.toNat < 256; rw [mm i hi]; exact Nat.mod_lt _ (by decide))
    rw [← hw] at wn
    have ew : ((((mv_a h 73 p &&& (255 : Int32)) ||| ((mv_a h 73 (p + 1) &&& (255 : Int32)) <<< ((8 : Int32) &&& 31))) ||| ((mv_a h 73 (p + 2) &&& (255 : Int32)) <<< ((16 : Int32) &&& 31))) ||| (mv_a h 73 (p + 3) <<< ((24 : Int32) &&& 31))) = w.toInt32 := by
      apply Int32.toBitVec_inj.mp
      apply BitVec.eq_of_toNat_eq
      rw [wr4, w32, wn]
      show _ = ((((R 2 (p + 3)).toBitVec.toNat * 256 + (R 2 (p + 2)).toBitVec.toNat) * 256 + (R 2 (p + 1)).toBitVec.toNat) * 256 + (R 2 (p + 0)).toBitVec.toNat) % 4294967296
      rw [mm 0 (by decide), mm 1 (by decide), mm 2 (by decide), mm 3 (by decide)]
      simp only [Nat.add_zero]
      omega
    obtain ⟨g, e, Lg, F⟩ := ssx_e (P := B) L (hA w).1 (hA w).2
    obtain ⟨h', e2, F2, L2, t1, t2, t3, t4⟩ := tod_e (B := B) (stF rS w R).1 Lg
    refine ⟨h', ?_, F.w.tr F2, Or.inr ⟨w, by rw [fw, hw], L2, t1, ?_, ?_, ?_⟩⟩
    · rw [ew, e, xhb_s, e2, xhv_s]
    · rw [t2, F.2.2.1 70 12 (by omega)]
    · rw [t3, F.2.2.1 70 13 (by omega)]
    · rw [t4, F.2.2.1 70 2 (by omega)]
  · rw [if_neg c] at fw
    rw [if_neg c, if_pos rfl]
    obtain ⟨h', e2, F2, L2, T2⟩ := tod_e (B := B) (-1) L
    refine ⟨h', by rw [e2, xhv_s], F2, Or.inl ⟨fw, L2, T2⟩⟩
