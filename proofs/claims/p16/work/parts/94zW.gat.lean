/-! gathering by a mask: what the class's loop answers -/
theorem ga_lp (w m : Int64) : ∀ (k p n : Nat) (v r u : Int64), p + k = 64 → k < n → GI w.toBitVec m.toBitVec p r.toBitVec v.toBitVec → f_Bits_gather_9 n w v r (nI p) hZ = some (u, hZ) → GA w.toBitVec m.toBitVec u.toBitVec := by
  intro k
  induction k with
  | zero =>
    intro p n v r u hp hn G e
    obtain ⟨n, rfl⟩ : ∃ q, n = q + 1 := ⟨n - 1, by omega⟩
    have e : fF_Bits_gather_9 (f_Bits_gather_9 n) w v r (nI p) hZ = some (u, hZ) := e
    unfold fF_Bits_gather_9 f_Bits_gather_62 at e
    rw [if_pos (show (64 : Int32) ≤ nI p from (nIle (a := 64) (by omega) (by omega)).mpr (by omega))] at e
    have eu : v = u := congrArg Prod.fst (Option.some.inj e)
    rw [← eu]
    exact G.f (by omega)
  | succ k ih =>
    intro p n v r u hp hn G e
    obtain ⟨n, rfl⟩ : ∃ q, n = q + 1 := ⟨n - 1, by omega⟩
    have c : ¬ (64 : Int32) ≤ nI p := fun q => by have := (nIle (a := 64) (b := p) (by omega) (by omega)).mp q; omega
    have e : fF_Bits_gather_9 (f_Bits_gather_9 n) w v r (nI p) hZ = some (u, hZ) := e
    unfold fF_Bits_gather_9 f_Bits_gather_62 f_Bits_gather_49 at e
    rw [if_neg c] at e
    by_cases z : lg_cmp r 0 = 0
    · rw [if_pos z] at e
      have eu : v = u := congrArg Prod.fst (Option.some.inj e)
      rw [← eu]
      refine G.z ?_
      rw [(lg_cmp_eq _ _).mp z]; rfl
    · rw [if_neg z, nI1 (by omega)] at e
      obtain ⟨b, hb, e1, g1, g2⟩ := G.nx (fun q => z ((lg_cmp_eq _ _).mpr q)) (by omega)
      have ta := tw_and (w := w) e1 hb
      by_cases y : lg_cmp (w &&& (r &&& ((-r)))) 0 = 0
      · rw [if_pos y] at e
        exact ih (p + 1) n v _ u (by omega) (by omega) (g2 (ta.mp y)) e
      · rw [if_neg y] at e
        have hb1 : w.toBitVec.getLsbD b = true := by
          cases q : w.toBitVec.getLsbD b with
          | true => rfl
          | false => exact absurd (ta.mpr (by rw [q]; decide)) y
        refine ih (p + 1) n _ _ u (by omega) (by omega) ?_ e
        have hs := tw_sh ⟨p, by omega⟩
        have hs : ((1 : Int64) <<< ((nI p).toInt64 &&& 63)).toBitVec = BitVec.twoPow 64 p := hs
        rw [Int64.toBitVec_or, hs]
        exact g1 hb1
theorem ga_GA (w m : Int64) : GA w.toBitVec m.toBitVec (gatV w m).toBitVec := by
  have e := ga_V hZ w m
  unfold f_Bits_gather at e
  exact ga_lp w m 64 0 200000 0 m _ (by omega) (by omega) (GI.st _ _) e
/-- its value is below 2 to the number of the mask's bits -/
theorem GA.lt {w m v : BitVec 64} (g : GA w m v) : v.toNat < 2 ^ rk m 64 := by
  have hr := rk_b m 64
  apply Nat.lt_pow_two_of_testBit
  intro i hi
  have : v.getLsbD i = v.toNat.testBit i := rfl
  rw [← this]
  cases q : v.getLsbD i with
  | false => rfl
  | true =>
    obtain ⟨j, h1, h2, h3⟩ := (g i).mp q
    have hj : j < 64 := by
      by_cases c : j < 64
      · exact c
      · rw [BitVec.getLsbD_of_ge m j (by omega)] at h1; cases h1
    have := rk_lt hj h1
    omega
