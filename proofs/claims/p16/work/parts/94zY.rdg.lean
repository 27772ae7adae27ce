/-! the reference at work: reading -/
/-- n things written, the latest first; else what stood before -/
def rdP (wt wi : Nat → Int32) (wv : Nat → Int64) (base : Nat → Nat → Int64) : Nat → Nat → Nat → Int64
  | 0, t, i => base t i
  | n + 1, t, i => if wt n = nI t ∧ wi n = nI i then wv n else rdP wt wi wv base n t i
/-- what stands in the book: a FILE's cells behind each other, registers by their THING -/
def bsV (P : Nat) (h : mv_H) (t i : Nat) : Int64 := if mv_a h (P + 6) t = 0 then mv_b h (P + 27) t else mv_b h (P + 28) ((mv_a h (P + 5) t).toNatClampNeg + i)
def rdV (P : Nat) (h : mv_H) (t i : Nat) : Int64 := rdP (mv_a h (P + 29)) (mv_a h (P + 30)) (mv_b h (P + 32)) (bsV P h) (mv_i h P 61).toNatClampNeg t i
theorem rd_lp {P : Nat} {h : mv_H} {t i : Nat} (ht : t < 64) (hi : i < 65536) (ha : ¬ mv_a h (P + 6) t = 0 → ∃ a, mv_a h (P + 5) t = nI a ∧ a + i < 65536) : ∀ (n nn : Nat), n ≤ 12000 → n < nn → f_Book_read_0_7 P nn (nI t) (nI i) (nI n - 1) h = some (rdP (mv_a h (P + 29)) (mv_a h (P + 30)) (mv_b h (P + 32)) (bsV P h) n t i, h) := by
  intro n
  induction n with
  | zero =>
    intro nn _ hn
    obtain ⟨nn, rfl⟩ : ∃ q, nn = q + 1 := ⟨nn - 1, by omega⟩
    show fF_Book_read_0_7 P (f_Book_read_0_7 P nn) (nI t) (nI i) (nI 0 - 1) h = _
    unfold fF_Book_read_0_7
    rw [if_pos (by decide), xvi_n (show t < 4100 by omega) (by decide), cln (by omega)]
    simp only [cond_true]
    show _ = some (bsV P h t i, h)
    unfold bsV
    by_cases z : mv_a h (P + 6) t = 0
    · rw [if_pos z, if_pos z]
    · obtain ⟨a, ea, hai⟩ := ha z
      rw [if_neg z, if_neg z, ea, nIadd (by omega), xvi_n hai (by decide), cond_true, cln (by omega), cln (by omega)]
  | succ n ih =>
    intro nn h1 hn
    obtain ⟨nn, rfl⟩ : ∃ q, nn = q + 1 := ⟨nn - 1, by omega⟩
    have e0 : nI (n + 1) - 1 = nI n := nIsub (a := n + 1) (b := 1) (by omega) (by omega)
    have n0 : ¬ nI n < 0 := fun q => by
      have := Int32.lt_iff_toInt_lt.mp q
      rw [nIi (by omega)] at this
      have : (n : Int) < 0 := this
      omega
    have I := ih nn (by omega) (by omega)
    show fF_Book_read_0_7 P (f_Book_read_0_7 P nn) (nI t) (nI i) (nI (n + 1) - 1) h = some (if mv_a h (P + 29) n = nI t ∧ mv_a h (P + 30) n = nI i then mv_b h (P + 32) n else rdP (mv_a h (P + 29)) (mv_a h (P + 30)) (mv_b h (P + 32)) (bsV P h) n t i, h)
    unfold fF_Book_read_0_7 f_Book_read_0_38
    rw [e0, if_neg n0, xvi_n (show n < 12000 by omega) (by decide), cln (by omega), nI_m1q]
    simp only [cond_true]
    by_cases a : mv_a h (P + 29) n = nI t
    · rw [if_pos a]
      by_cases b : mv_a h (P + 30) n = nI i
      · rw [if_pos b, if_pos ⟨a, b⟩]
      · rw [if_neg b, if_neg (fun q => b q.2)]; exact I
    · rw [if_neg a, if_neg (fun q => a q.1)]; exact I
theorem rd_V {P : Nat} {h : mv_H} {t i n : Nat} (hn : mv_i h P 61 = nI n) (hn2 : n ≤ 12000) (ht : t < 64) (hi : i < 65536) (ha : ¬ mv_a h (P + 6) t = 0 → ∃ a, mv_a h (P + 5) t = nI a ∧ a + i < 65536) : f_Book_read_0 P h (nI t) (nI i) = some (rdV P h t i, h) := by
  unfold f_Book_read_0 rdV
  rw [hn, cln (by omega)]
  exact rd_lp ht hi ha n 200000 hn2 (by omega)
/-! the FIELD of a word, by the code in its row -/
theorem fd_lp {P : Nat} {h : mv_H} {C : List Nat} {o c cb : Nat} (hC : C.length ≤ 64) (ho : o < 4100) (h20 : mv_i h P 20 = nI C.length) (h10 : mv_a h (P + 10) o = nI cb) (hcb : cb + C.length ≤ 32768) (h13 : ∀ k, k < C.length → (mv_a h (P + 13) (cb + k) = nI c ↔ C.getD k 0 = c)) (w : Int64) : ∀ (m i nn : Nat) (v : Int64), i + m = C.length → m < nn → GA w.toBitVec (msk (fun k => decide (C.getD k 0 = c)) C.length i) v.toBitVec → ∃ u, f_Book_field_6 P nn (nI o) (nI c) w v (nI i) h = some (u, h) ∧ GA w.toBitVec (msk (fun k => decide (C.getD k 0 = c)) C.length C.length) u.toBitVec := by
  intro m
  induction m with
  | zero =>
    intro i nn v hi hn G
    obtain ⟨nn, rfl⟩ : ∃ q, nn = q + 1 := ⟨nn - 1, by omega⟩
    refine ⟨v, ?_, ?_⟩
    · show fF_Book_field_6 P (f_Book_field_6 P nn) (nI o) (nI c) w v (nI i) h = _
      unfold fF_Book_field_6
      rw [h20, if_pos ((nIle (by omega) (by omega)).mpr (by omega))]
    · have : i = C.length := by omega
      rw [← this]
      rw [← this] at G
      exact G
  | succ m ih =>
    intro i nn v hi hn G
    obtain ⟨nn, rfl⟩ : ∃ q, nn = q + 1 := ⟨nn - 1, by omega⟩
    have hi2 : i < C.length := by omega
    have n0 : ¬ nI C.length ≤ nI i := fun q => by have := (nIle (by omega) (by omega)).mp q; omega
    have es : nI C.length - (1 : Int32) - nI i = nI (C.length - 1 - i) := by
      rw [show (1 : Int32) = nI 1 from rfl, nIsub (by omega) (by omega), nIsub (by omega) (by omega)]
    have key : ∀ v', GA w.toBitVec (msk (fun k => decide (C.getD k 0 = c)) C.length (i + 1)) v'.toBitVec → ∃ u, f_Book_field_6 P nn (nI o) (nI c) w v' (nI (i + 1)) h = some (u, h) ∧ GA w.toBitVec (msk (fun k => decide (C.getD k 0 = c)) C.length C.length) u.toBitVec := fun v' G' => ih (i + 1) nn v' (by omega) (by omega) G'
    have e1 : f_Book_field_6 P (nn + 1) (nI o) (nI c) w v (nI i) h = if C.getD i 0 = c then f_Book_field_6 P nn (nI o) (nI c) w ((v <<< (((1 : Int32)).toInt64 &&& 63)) ||| ((((w).toUInt64 >>> (((nI (C.length - 1 - i))).toInt64.toUInt64 &&& Int64.toUInt64 63)).toInt64) &&& (1 : Int64))) (nI (i + 1)) h else f_Book_field_6 P nn (nI o) (nI c) w v (nI (i + 1)) h := by
      show fF_Book_field_6 P (f_Book_field_6 P nn) (nI o) (nI c) w v (nI i) h = _
      unfold fF_Book_field_6 f_Book_field_53
      rw [h20, if_neg n0, xvi_n (show o < 4100 by omega) (by decide), cln (by omega), h10, nIadd (by omega), xvi_n (show cb + i < 32768 by omega) (by decide), cln (by omega), es, nI1 (by omega)]
      simp only [cond_true]
      by_cases q : C.getD i 0 = c
      · rw [if_pos ((h13 i hi2).mpr q), if_pos q]
      · rw [if_neg (fun y => q ((h13 i hi2).mp y)), if_neg q]
    rw [e1]
    by_cases q : C.getD i 0 = c
    · rw [if_pos q]
      exact key _ (GA.c1 (n := nI (C.length - 1 - i)) G hi2 hC (decide_eq_true q) (by rw [nIi (by omega)]))
    · rw [if_neg q]
      refine key v ?_
      rw [msk_s0 hi2 (by rw [decide_eq_false q]; decide)]
      exact G
theorem fd_V {P : Nat} {h : mv_H} {C : List Nat} {o c cb : Nat} (hC : C.length ≤ 64) (ho : o < 4100) (h20 : mv_i h P 20 = nI C.length) (h10 : mv_a h (P + 10) o = nI cb) (hcb : cb + C.length ≤ 32768) (h13 : ∀ k, k < C.length → (mv_a h (P + 13) (cb + k) = nI c ↔ C.getD k 0 = c)) (w : Int64) : f_Book_field P h (nI o) (nI c) w = some (gatV w (nJ (mskC C c)), h) := by
  obtain ⟨u, e1, G⟩ := fd_lp hC ho h20 h10 hcb h13 w C.length 0 200000 0 (by omega) (by omega) GA.st
  have em : (nJ (mskC C c)).toBitVec = msk (fun k => decide (C.getD k 0 = c)) C.length C.length := by
    unfold msk mskC
    rw [Nat.sub_self, Nat.pow_zero, Nat.mul_one]
    rfl
  have eu : u = gatV w (nJ (mskC C c)) := by
    apply Int64.toBitVec_inj.mp
    have := ga_GA w (nJ (mskC C c))
    rw [em] at this
    exact G.eq this
  rw [← eu]
  unfold f_Book_field
  exact e1
