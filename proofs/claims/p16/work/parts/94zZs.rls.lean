/-! the shipped machine's values, as the reference has them -/
def RLs (R : Nat → Nat → Int64) (h : mv_H) : Prop := ZE (R 0 0) (mv_i h 70 6) ∧ (∀ i, i < 32 → ZE (R 1 i) (mv_a h 72 i)) ∧ mv_a h 72 0 = 0 ∧ ∀ i, i < 32768 → (R 2 i).toBitVec.toNat = (mv_a h 73 i).toBitVec.toNat % 256
/-- only they change -/
def SFs (h h' : mv_H) : Prop := mv_l h' = mv_l h ∧ mv_r h' = mv_r h ∧ (∀ o k, ¬ (o = 70 ∧ k = 6) → mv_i h' o k = mv_i h o k) ∧ (∀ o, ¬ (o = 72 ∨ o = 73) → mv_a h' o = mv_a h o) ∧ mv_b h' = mv_b h
theorem SFs.rf (h : mv_H) : SFs h h := ⟨rfl, rfl, fun _ _ _ => rfl, fun _ _ => rfl, rfl⟩
theorem SFs.tr {h g f : mv_H} (a : SFs h g) (b : SFs g f) : SFs h f := ⟨b.1.trans a.1, b.2.1.trans a.2.1, fun o k q => (b.2.2.1 o k q).trans (a.2.2.1 o k q), fun o q => (b.2.2.2.1 o q).trans (a.2.2.2.1 o q), b.2.2.2.2.trans a.2.2.2.2⟩
theorem SFs.pc (h : mv_H) (x : Int32) : SFs h (mv_si h 70 6 x) := ⟨rfl, rfl, fun o k q => mv_si_o h x (fun z => q z), fun _ _ => rfl, rfl⟩
theorem sa_r (h : mv_H) (o k i : Nat) (x : Int32) : mv_a (mv_sa h o k x) o i = if i = k then x else mv_a h o i := by
  by_cases c : i = k
  · rw [if_pos c, c]; exact mv_u_same (mv_a h) o k x
  · rw [if_neg c]; exact mv_u_ne (mv_a h) x (fun z => c z.2)
theorem sa_o (h : mv_H) {o k o' : Nat} (x : Int32) (q : ¬ o' = o) : mv_a (mv_sa h o k x) o' = mv_a h o' := funext fun i => mv_u_ne (mv_a h) x (fun z => q z.1)
theorem SFs.sa {h : mv_H} {o k : Nat} {x : Int32} (ho : o = 72 ∨ o = 73) : SFs h (mv_sa h o k x) := ⟨rfl, rfl, fun _ _ _ => rfl, fun o' q => sa_o h x (by omega), rfl⟩
section WRS
variable {R : Nat → Nat → Int64} {h : mv_H} {w v : Int64} {x : Int32}
theorem wr_0 : wrT (eW rS w) 0 0 v R = fun a b => if a = 0 ∧ b = 0 then v &&& mkI (nI 32) else R a b := by
  unfold wrT
  rw [if_neg (fun q => absurd (show false = true from q.1) (by decide))]
  rfl
theorem wr_1 {d : Nat} : wrT (eW rS w) 1 d v R = if d = 0 then R else fun a b => if a = 1 ∧ b = d then v &&& mkI (nI 32) else R a b := by
  unfold wrT
  by_cases c : d = 0
  · rw [if_pos c, if_pos ⟨rfl, c⟩]
  · rw [if_neg c, if_neg (fun q => c q.2)]
    rfl
theorem wr_2 {i : Nat} : wrT (eW rS w) 2 i v R = fun a b => if a = 2 ∧ b = i then v &&& mkI (nI 8) else R a b := by
  unfold wrT
  rw [if_neg (fun q => absurd (show false = true from q.1) (by decide))]
  rfl
theorem RLs.pc (L : RLs R h) (z : ZE (v &&& mkI (nI 32)) x) : RLs (wrT (eW rS w) 0 0 v R) (mv_si h 70 6 x) := by
  obtain ⟨l1, l2, l3, l4⟩ := L
  rw [wr_0]
  refine ⟨?_, fun i hi => ?_, l3, fun i hi => ?_⟩
  · show ZE (if 0 = 0 ∧ 0 = 0 then v &&& mkI (nI 32) else R 0 0) _
    rw [if_pos ⟨rfl, rfl⟩, mv_si_s]
    exact z
  · show ZE (if 1 = 0 ∧ i = 0 then v &&& mkI (nI 32) else R 1 i) _
    rw [if_neg (fun q => absurd q.1 (by decide))]
    exact l2 i hi
  · show (if 2 = 0 ∧ i = 0 then v &&& mkI (nI 32) else R 2 i).toBitVec.toNat = _
    rw [if_neg (fun q => absurd q.1 (by decide))]
    exact l4 i hi
theorem RLs.xw (L : RLs R h) {d : Nat} (hd : d < 32) (z : ZE v x) (P : Nat) : ∃ h', f_Model_set P h (nI d) x = some h' ∧ RLs (wrT (eW rS w) 1 d v R) h' ∧ SFs h h' := by
  obtain ⟨l1, l2, l3, l4⟩ := L
  rw [wr_1]
  unfold f_Model_set
  by_cases c : d = 0
  · rw [if_pos c, if_pos (show nI d = (0 : Int32) by rw [c]; rfl)]
    exact ⟨h, rfl, ⟨l1, l2, l3, l4⟩, SFs.rf h⟩
  · rw [if_neg c, if_neg (show ¬ nI d = (0 : Int32) from fun q => c ((nIinj (b := 0) (by omega) (by omega)).mp q)), xvi_n hd (by decide), cond_true, cln (by omega), xk_s]
    refine ⟨_, rfl, ⟨?_, fun i hi => ?_, ?_, fun i hi => ?_⟩, SFs.sa (Or.inl rfl)⟩
    · show ZE (if 0 = 1 ∧ 0 = d then v &&& mkI (nI 32) else R 0 0) _
      rw [if_neg (fun q => absurd q.1 (by decide))]
      exact l1
    · show ZE (if 1 = 1 ∧ i = d then v &&& mkI (nI 32) else R 1 i) _
      rw [sa_r]
      by_cases y : i = d
      · rw [if_pos ⟨rfl, y⟩, if_pos y]; exact z.keep
      · rw [if_neg (fun q => y q.2), if_neg y]; exact l2 i hi
    · rw [sa_r, if_neg (fun q => c q.symm)]; exact l3
    · show (if 2 = 1 ∧ i = d then v &&& mkI (nI 32) else R 2 i).toBitVec.toNat = _
      rw [if_neg (fun q => absurd q.1 (by decide)), sa_o h x (by decide)]
      exact l4 i hi
theorem RLs.m (L : RLs R h) {i : Nat} (hi : i < 32768) (z : v.toBitVec.toNat % 256 = x.toBitVec.toNat % 256) : RLs (wrT (eW rS w) 2 i v R) (mv_sa h 73 i x) := by
  obtain ⟨l1, l2, l3, l4⟩ := L
  rw [wr_2]
  refine ⟨?_, fun j hj => ?_, ?_, fun j hj => ?_⟩
  · show ZE (if 0 = 2 ∧ 0 = i then v &&& mkI (nI 8) else R 0 0) _
    rw [if_neg (fun q => absurd q.1 (by decide))]
    exact l1
  · show ZE (if 1 = 2 ∧ j = i then v &&& mkI (nI 8) else R 1 j) _
    rw [if_neg (fun q => absurd q.1 (by decide)), sa_o h x (by decide)]
    exact l2 j hj
  · rw [sa_o h x (by decide)]; exact l3
  · show (if 2 = 2 ∧ j = i then v &&& mkI (nI 8) else R 2 j).toBitVec.toNat = _
    rw [sa_r]
    by_cases y : j = i
    · rw [if_pos ⟨rfl, y⟩, if_pos y, and_w v (by decide)]; exact z
    · rw [if_neg (fun q => y q.2), if_neg y]; exact l4 j hj
end WRS
theorem frS : frR rS = some 0 := by
  show some (lzS [112, 99]) = some 0
  rfl
theorem gf_S {w : Int64} {s : STq} : gfT (eW rS w) 32 (frR rS) s = if s.2.2 0 = true then s.2.1 else wrT (eW rS w) 0 0 (s.2.1 0 0 + nJ 4) s.2.1 := by
  rw [frS]
  rfl
/-- a step of the shipped machine: its TRAP and the values behind it, as both sides have them -/
def SSx (P : Nat) (w : Int64) (h : mv_H) (T : Int32) (R' : Nat → Nat → Int64) : Prop := ∃ h', f_Model_shippedStep P h w.toInt32 = some (T, h') ∧ RLs R' h' ∧ SFs h h'
/-- behind the op: pc goes on, if there was no TRAP -/
theorem ss_294 {P : Nat} {R : Nat → Nat → Int64} {h : mv_H} {w : Int64} {pc : Int32} (L : RLs R h) (hp : ZE (R 0 0) pc) : ∃ h', f_Model_shippedStep_294 P pc 0 h = some (0, h') ∧ RLs (wrT (eW rS w) 0 0 (R 0 0 + nJ 4) R) h' ∧ SFs h h' := by
  unfold f_Model_shippedStep_294 f_Model_shippedStep_306
  rw [if_pos rfl, xk_s]
  refine ⟨_, rfl, L.pc ?_, SFs.pc h _⟩
  have a := ZE.add hp (ZE.n (n := 4) (by decide))
  rw [u2_v (by decide) (by decide) (tc_add hZ (R 0 0) (nJ 4) (nI 32))] at a
  exact a
/-- the step's beginning -/
theorem ss_go {P : Nat} {h : mv_H} {w : Int64} {k : Nat} (hk : sOv w.toInt32 = nI k) (hk4 : k < 48) : f_Model_shippedStep P h w.toInt32 = (if nI k = (38 : Int32) then (some ((8 : Int32), h)) else (if nI k = (39 : Int32) then (some ((3 : Int32), h)) else (if nI k = (2 : Int32) then (f_Model_shippedStep_87 P w.toInt32 (nI k) (mv_i h 70 6) (nI (WNd w 7 5)) (mv_a h 72 (WNd w 15 5)) h) else (if nI k = (3 : Int32) then (f_Model_shippedStep_87 P w.toInt32 (nI k) (mv_i h 70 6) (nI (WNd w 7 5)) (mv_a h 72 (WNd w 15 5)) h) else (if nI k < (4 : Int32) then (f_Model_shippedStep_173 P w.toInt32 (nI k) (mv_i h 70 6) (nI (WNd w 7 5)) (mv_a h 72 (WNd w 15 5)) (mv_a h 72 (WNd w 20 5)) (0 : Int32) h) else (if (9 : Int32) < nI k then (f_Model_shippedStep_173 P w.toInt32 (nI k) (mv_i h 70 6) (nI (WNd w 7 5)) (mv_a h 72 (WNd w 15 5)) (mv_a h 72 (WNd w 20 5)) (0 : Int32) h) else (xhb (f_Model_taken h (nI k) (mv_a h 72 (WNd w 15 5)) (mv_a h 72 (WNd w 20 5))) fun u35 g34 => if u35 = (0 : Int32) then (f_Model_shippedStep_294 P (mv_i h 70 6) (0 : Int32) g34) else (xhb (f_Model_immB g34 w.toInt32) fun u37 g36 => xhb (f_Model_jump P g36 ((mv_i g34 70 6) + u37)) fun u39 g38 => some (u39, g38))))))))) := by
  have l1 : WNd w 15 5 < 32 := WNd_lt w 15 5
  have l2 : WNd w 20 5 < 32 := WNd_lt w 20 5
  unfold f_Model_shippedStep
  rw [so_ok, xhb_s, pie_11_7, xhb_s, pie_19_15, xhb_s, xvi_n l1 (by decide), cond_true, pie_24_20, xhb_s, xvi_n l2 (by decide), cond_true, hk, cln (by omega), cln (by omega), if_pos (show (0 : Int32) ≤ nI k from (nIle (a := 0) (by omega) (by omega)).mpr (Nat.zero_le _))]
